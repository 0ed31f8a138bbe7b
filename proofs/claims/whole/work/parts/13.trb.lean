set_option maxRecDepth 20000 in
theorem t_qrd_refuse (X : Int × (Int → Int)) (K : zK) (M : zM) (self a1 : Int) (g_self : 1 ≤ self) : Rz X 53 (0, [zr self, zi a1], [], M, K) (qrd_refuse K M self a1) (fun e P => P (some (zi e.1), e.2, K)) := by
  have h53 : zT 53 = zt53 := rfl
  unfold qrd_refuse
  refine z_aload h53 rfl rfl (Or.inl rfl) (by omega) ?_
  refine z_iload h53 rfl rfl (Or.inl rfl) ?_
  refine z_putf (a := 5) (b := 3) (l := [23, 9]) h53 rfl (fun M1 => ?_)
  refine z_aload h53 rfl rfl (Or.inl rfl) (by omega) ?_
  refine z_aload h53 rfl rfl (Or.inl rfl) (by omega) ?_
  refine z_getf (a := 5) (b := 7) (l := [94, 9]) h53 rfl (fun v2 => ?_)
  refine z_putf (a := 5) (b := 4) (l := [26, 9]) h53 rfl (fun M3 => ?_)
  refine z_iconst h53 rfl ?_
  exact z_zret h53 rfl (Or.inl rfl) (fun _ q => q)
set_option maxRecDepth 20000 in
theorem t_qrd_takeFigures (X : Int × (Int → Int)) (n : Nat) (K : zK) (M : zM) (self : Int) (g_self : 1 ≤ self) : Rz X 48 (0, [zr self], [], M, K) (qrd_takeFigures n K M self) (fun e P => P (some (zi e.1), e.2, K)) := by
  have h48 : zT 48 = zt48 := rfl
  unfold qrd_takeFigures
  refine z_aload h48 rfl rfl (Or.inl rfl) (by omega) ?_
  refine z_iconst h48 rfl ?_
  refine z_putf (a := 5) (b := 8) (l := [72, 9]) h48 rfl (fun M1 => ?_)
  refine Rz.bind (t := fun e3 => (43, [zr self], [], e3, K)) ?_ (fun e3 => ?_)
  · refine Rz.wh (hd := fun s2 => (3, [zr self], [], s2, K)) (fun s2 => ?_) n M1
    (try dsimp only)
    refine z_aload h48 rfl rfl (Or.inl rfl) (by omega) ?_
    refine z_getf (a := 5) (b := 5) (l := [29, 9]) h48 rfl (fun v10 => ?_)
    refine z_aload h48 rfl rfl (Or.inl rfl) (by omega) ?_
    refine z_getf (a := 5) (b := 2) (l := [19, 9]) h48 rfl (fun v11 => ?_)
    refine z_icge h48 rfl ?_ ?_
    · exact Rz.here fun _ q => q
    · refine z_aload h48 rfl rfl (Or.inl rfl) (by omega) ?_
      refine z_getr (a := 5) (b := 0) (l := [9, 9]) h48 rfl (fun r12 g_r12 => ?_)
      refine z_aload h48 rfl rfl (Or.inl rfl) (by omega) ?_
      refine z_getf (a := 5) (b := 5) (l := [29, 9]) h48 rfl (fun v13 => ?_)
      refine z_bald h48 rfl (fun v14 => ?_)
      refine z_cs (a := 52) (b := 0) (l := [107, 1]) (as := [zi v14]) (lsE := [zi v14]) (st' := []) (val := fun p => some (zi p)) (mem := fun _ => s2) h48 rfl ⟨rfl, rfl, rfl, Nat.le_of_ble_eq_true rfl, Nat.le_of_ble_eq_true rfl, rfl⟩ (t_qrd_isFigure X K s2 v14 ) (fun v15 => ?_)
      refine z_ifeq h48 rfl ?_ ?_
      · exact Rz.here fun _ q => q
      · refine z_aload h48 rfl rfl (Or.inl rfl) (by omega) ?_
        refine z_getf (a := 5) (b := 5) (l := [29, 9]) h48 rfl (fun v16 => ?_)
        refine z_aload h48 rfl rfl (Or.inl rfl) (by omega) ?_
        refine z_getf (a := 5) (b := 7) (l := [94, 9]) h48 rfl (fun v17 => ?_)
        refine z_isub h48 rfl ?_
        refine z_iconst h48 rfl ?_
        refine Rz.bind (t := fun j18 => (36, [zr self], [], j18, K)) ?_ (fun j18 => ?_)
        · refine z_icge h48 rfl ?_ ?_
          · exact Rz.here fun _ q => q
          · refine z_aload h48 rfl rfl (Or.inl rfl) (by omega) ?_
            refine z_aload h48 rfl rfl (Or.inl rfl) (by omega) ?_
            refine z_getf (a := 5) (b := 8) (l := [72, 9]) h48 rfl (fun v21 => ?_)
            refine z_iconst h48 rfl ?_
            refine z_imul h48 rfl ?_
            refine z_aload h48 rfl rfl (Or.inl rfl) (by omega) ?_
            refine z_getr (a := 5) (b := 0) (l := [9, 9]) h48 rfl (fun r22 g_r22 => ?_)
            refine z_aload h48 rfl rfl (Or.inl rfl) (by omega) ?_
            refine z_getf (a := 5) (b := 5) (l := [29, 9]) h48 rfl (fun v23 => ?_)
            refine z_bald h48 rfl (fun v24 => ?_)
            refine z_iadd h48 rfl ?_
            refine z_iconst h48 rfl ?_
            refine z_isub h48 rfl ?_
            refine z_putf (a := 5) (b := 8) (l := [72, 9]) h48 rfl (fun M25 => ?_)
            exact Rz.here fun _ q => q
        · (try dsimp only)
          refine z_aload h48 rfl rfl (Or.inl rfl) (by omega) ?_
          refine z_dupr h48 rfl ?_
          refine z_getf (a := 5) (b := 5) (l := [29, 9]) h48 rfl (fun v19 => ?_)
          refine z_iconst h48 rfl ?_
          refine z_iadd h48 rfl ?_
          refine z_putf (a := 5) (b := 5) (l := [29, 9]) h48 rfl (fun M20 => ?_)
          refine z_goto h48 rfl ?_
          exact Rz.here fun _ q => q
  · (try dsimp only)
    refine z_aload h48 rfl rfl (Or.inl rfl) (by omega) ?_
    refine z_iconst h48 rfl ?_
    refine z_putf (a := 5) (b := 6) (l := [47, 9]) h48 rfl (fun M4 => ?_)
    refine z_aload h48 rfl rfl (Or.inl rfl) (by omega) ?_
    refine z_getf (a := 5) (b := 5) (l := [29, 9]) h48 rfl (fun v5 => ?_)
    refine z_aload h48 rfl rfl (Or.inl rfl) (by omega) ?_
    refine z_getf (a := 5) (b := 7) (l := [94, 9]) h48 rfl (fun v6 => ?_)
    refine z_isub h48 rfl ?_
    refine z_iconst h48 rfl ?_
    refine z_iconst h48 rfl ?_
    refine z_cs (a := 123) (b := 1) (l := [97, 3]) (as := [zi (v5 - v6), zi 1, zi 4]) (lsE := [zi (v5 - v6), zi 1, zi 4]) (st' := []) (val := fun p => some (zi p)) (mem := fun _ => M4) h48 rfl ⟨rfl, rfl, rfl, Nat.le_of_ble_eq_true rfl, Nat.le_of_ble_eq_true rfl, rfl⟩ (t_qbs_within X K M4 (v5 - v6) 1 4 ) (fun v7 => ?_)
    refine Rz.esc (t := fun j8 => (59, [zU], [], j8, K)) ?_ (fun j8 => ?_)
    · refine z_ifne h48 rfl ?_ ?_
      · refine z_aload h48 rfl rfl (Or.inl rfl) (by omega) ?_
        refine z_iconst h48 rfl ?_
        refine z_cv (a := 53) (b := 0) (l := [54, 2, 5, 9]) (as := [zi 1]) (lsE := [zr self, zi 1]) (st' := []) (val := fun p => some (zi p.1)) (mem := fun p => p.2) h48 rfl ⟨rfl, rfl, rfl, Nat.le_of_ble_eq_true rfl, Nat.le_of_ble_eq_true rfl, rfl⟩ (fun g1 => (t_qrd_refuse X K M4 self 1 (by omega))) (fun p9 => ?_)
        refine z_ifeq h48 rfl ?_ ?_
        · refine z_iconst h48 rfl ?_
          refine z_kill h48 rfl (ls' := [zU]) rfl ?_
          exact z_zret h48 rfl (Or.inl rfl) (fun _ q => q)
        · refine z_kill h48 rfl (ls' := [zU]) rfl ?_
          exact Rz.here fun _ q => q
      · refine z_kill h48 rfl (ls' := [zU]) rfl ?_
        exact Rz.here fun _ q => q
    · (try dsimp only)
      refine z_iconst h48 rfl ?_
      refine z_goto h48 rfl ?_
      refine z_kill h48 rfl (ls' := [zU]) rfl ?_
      exact z_zret h48 rfl (Or.inr rfl) (fun _ q => q)
set_option maxRecDepth 20000 in
theorem t_qrd_takeToken (X : Int × (Int → Int)) (n : Nat) (K : zK) (M : zM) (self : Int) (g_self : 1 ≤ self) : Rz X 47 (0, [zr self], [], M, K) (qrd_takeToken n K M self) (fun e P => P (some (zi e.1), e.2, K)) := by
  have h47 : zT 47 = zt47 := rfl
  unfold qrd_takeToken
  refine Rz.bind (t := fun e2 => (19, [zr self], [], e2, K)) ?_ (fun e2 => ?_)
  · refine Rz.wh (hd := fun s1 => (0, [zr self], [], s1, K)) (fun s1 => ?_) n M
    (try dsimp only)
    refine z_aload h47 rfl rfl (Or.inl rfl) (by omega) ?_
    refine z_getf (a := 5) (b := 5) (l := [29, 9]) h47 rfl (fun v31 => ?_)
    refine z_aload h47 rfl rfl (Or.inl rfl) (by omega) ?_
    refine z_getf (a := 5) (b := 2) (l := [19, 9]) h47 rfl (fun v32 => ?_)
    refine z_icge h47 rfl ?_ ?_
    · exact Rz.here fun _ q => q
    · refine z_aload h47 rfl rfl (Or.inl rfl) (by omega) ?_
      refine z_getr (a := 5) (b := 0) (l := [9, 9]) h47 rfl (fun r33 g_r33 => ?_)
      refine z_aload h47 rfl rfl (Or.inl rfl) (by omega) ?_
      refine z_getf (a := 5) (b := 5) (l := [29, 9]) h47 rfl (fun v34 => ?_)
      refine z_bald h47 rfl (fun v35 => ?_)
      refine z_iconst h47 rfl ?_
      refine z_icne h47 rfl ?_ ?_
      · refine z_aload h47 rfl rfl (Or.inl rfl) (by omega) ?_
        refine z_dupr h47 rfl ?_
        refine z_getf (a := 5) (b := 5) (l := [29, 9]) h47 rfl (fun v36 => ?_)
        refine z_iconst h47 rfl ?_
        refine z_iadd h47 rfl ?_
        refine z_putf (a := 5) (b := 5) (l := [29, 9]) h47 rfl (fun M37 => ?_)
        refine z_goto h47 rfl ?_
        exact Rz.here fun _ q => q
      · exact Rz.here fun _ q => q
  · (try dsimp only)
    refine z_aload h47 rfl rfl (Or.inl rfl) (by omega) ?_
    refine z_aload h47 rfl rfl (Or.inl rfl) (by omega) ?_
    refine z_getf (a := 5) (b := 5) (l := [29, 9]) h47 rfl (fun v3 => ?_)
    refine z_putf (a := 5) (b := 7) (l := [94, 9]) h47 rfl (fun M4 => ?_)
    refine z_aload h47 rfl rfl (Or.inl rfl) (by omega) ?_
    refine z_getf (a := 5) (b := 5) (l := [29, 9]) h47 rfl (fun v5 => ?_)
    refine z_aload h47 rfl rfl (Or.inl rfl) (by omega) ?_
    refine z_getf (a := 5) (b := 2) (l := [19, 9]) h47 rfl (fun v6 => ?_)
    refine z_iclt h47 rfl ?_ ?_
    · refine z_aload h47 rfl rfl (Or.inl rfl) (by omega) ?_
      refine z_getr (a := 5) (b := 0) (l := [9, 9]) h47 rfl (fun r7 g_r7 => ?_)
      refine z_aload h47 rfl rfl (Or.inl rfl) (by omega) ?_
      refine z_getf (a := 5) (b := 5) (l := [29, 9]) h47 rfl (fun v8 => ?_)
      refine z_bald h47 rfl (fun v9 => ?_)
      refine z_iconst h47 rfl ?_
      refine z_icne h47 rfl ?_ ?_
      · refine z_aload h47 rfl rfl (Or.inl rfl) (by omega) ?_
        refine z_dupr h47 rfl ?_
        refine z_getf (a := 5) (b := 5) (l := [29, 9]) h47 rfl (fun v10 => ?_)
        refine z_iconst h47 rfl ?_
        refine z_iadd h47 rfl ?_
        refine z_putf (a := 5) (b := 5) (l := [29, 9]) h47 rfl (fun M11 => ?_)
        refine z_aload h47 rfl rfl (Or.inl rfl) (by omega) ?_
        refine z_iconst h47 rfl ?_
        refine z_putf (a := 5) (b := 6) (l := [47, 9]) h47 rfl (fun M12 => ?_)
        refine z_iconst h47 rfl ?_
        exact z_zret h47 rfl (Or.inr rfl) (fun _ q => q)
      · refine z_aload h47 rfl rfl (Or.inl rfl) (by omega) ?_
        refine z_getr (a := 5) (b := 0) (l := [9, 9]) h47 rfl (fun r13 g_r13 => ?_)
        refine z_aload h47 rfl rfl (Or.inl rfl) (by omega) ?_
        refine z_getf (a := 5) (b := 5) (l := [29, 9]) h47 rfl (fun v14 => ?_)
        refine z_bald h47 rfl (fun v15 => ?_)
        refine z_cs (a := 51) (b := 0) (l := [101, 1]) (as := [zi v15]) (lsE := [zi v15]) (st' := []) (val := fun p => some (zi p)) (mem := fun _ => M4) h47 rfl ⟨rfl, rfl, rfl, Nat.le_of_ble_eq_true rfl, Nat.le_of_ble_eq_true rfl, rfl⟩ (t_qrd_isLetter X K M4 v15 ) (fun v16 => ?_)
        refine z_ifeq h47 rfl ?_ ?_
        · refine z_aload h47 rfl rfl (Or.inl rfl) (by omega) ?_
          refine z_cv (a := 48) (b := 0) (l := [104, 1, 5, 9]) (as := []) (lsE := [zr self]) (st' := []) (val := fun p => some (zi p.1)) (mem := fun p => p.2) h47 rfl ⟨rfl, rfl, rfl, Nat.le_of_ble_eq_true rfl, Nat.le_of_ble_eq_true rfl, rfl⟩ (fun g1 => (t_qrd_takeFigures X n K M4 self (by omega))) (fun p17 => ?_)
          exact z_zretb h47 rfl (fun z hz P q => by cases hz; exact q)
        · refine Rz.wh (hd := fun s19 => (58, [zr self], [], s19, K)) (fun s19 => ?_) n M4
          (try dsimp only)
          refine z_aload h47 rfl rfl (Or.inl rfl) (by omega) ?_
          refine z_getf (a := 5) (b := 5) (l := [29, 9]) h47 rfl (fun v20 => ?_)
          refine z_aload h47 rfl rfl (Or.inl rfl) (by omega) ?_
          refine z_getf (a := 5) (b := 2) (l := [19, 9]) h47 rfl (fun v21 => ?_)
          refine Rz.esc (t := fun j22 => (77, [zr self], [], s19, K)) ?_ (fun j22 => ?_)
          · refine z_icge h47 rfl ?_ ?_
            · exact Rz.here fun _ q => q
            · refine z_aload h47 rfl rfl (Or.inl rfl) (by omega) ?_
              refine z_getr (a := 5) (b := 0) (l := [9, 9]) h47 rfl (fun r24 g_r24 => ?_)
              refine z_aload h47 rfl rfl (Or.inl rfl) (by omega) ?_
              refine z_getf (a := 5) (b := 5) (l := [29, 9]) h47 rfl (fun v25 => ?_)
              refine z_bald h47 rfl (fun v26 => ?_)
              refine z_cs (a := 51) (b := 0) (l := [101, 1]) (as := [zi v26]) (lsE := [zi v26]) (st' := []) (val := fun p => some (zi p)) (mem := fun _ => s19) h47 rfl ⟨rfl, rfl, rfl, Nat.le_of_ble_eq_true rfl, Nat.le_of_ble_eq_true rfl, rfl⟩ (t_qrd_isLetter X K s19 v26 ) (fun v27 => ?_)
              refine z_ifeq h47 rfl ?_ ?_
              · exact Rz.here fun _ q => q
              · refine z_aload h47 rfl rfl (Or.inl rfl) (by omega) ?_
                refine z_dupr h47 rfl ?_
                refine z_getf (a := 5) (b := 5) (l := [29, 9]) h47 rfl (fun v28 => ?_)
                refine z_iconst h47 rfl ?_
                refine z_iadd h47 rfl ?_
                refine z_putf (a := 5) (b := 5) (l := [29, 9]) h47 rfl (fun M29 => ?_)
                refine z_goto h47 rfl ?_
                exact Rz.here fun _ q => q
          · (try dsimp only)
            refine z_aload h47 rfl rfl (Or.inl rfl) (by omega) ?_
            refine z_iconst h47 rfl ?_
            refine z_putf (a := 5) (b := 6) (l := [47, 9]) h47 rfl (fun M23 => ?_)
            refine z_iconst h47 rfl ?_
            exact z_zret h47 rfl (Or.inr rfl) (fun _ q => q)
    · refine z_aload h47 rfl rfl (Or.inl rfl) (by omega) ?_
      refine z_iconst h47 rfl ?_
      refine z_putf (a := 5) (b := 6) (l := [47, 9]) h47 rfl (fun M30 => ?_)
      refine z_iconst h47 rfl ?_
      exact z_zret h47 rfl (Or.inr rfl) (fun _ q => q)
set_option maxRecDepth 20000 in
theorem t_qrd_isNamed (X : Int × (Int → Int)) (n : Nat) (K : zK) (M : zM) (self a1 : Int) (g_self : 1 ≤ self) (g_a1 : -5 ≤ a1 ∧ a1 ≤ -2) : Rz X 50 (0, [zr self, zr a1, zU], [], M, K) (qrd_isNamed n K M self a1) (fun e P => P (some (zi e), M, K)) := by
  have h50 : zT 50 = zt50 := rfl
  unfold qrd_isNamed
  refine z_aload h50 rfl rfl (Or.inl rfl) (by omega) ?_
  refine z_getf (a := 5) (b := 6) (l := [47, 9]) h50 rfl (fun v1 => ?_)
  refine z_iconst h50 rfl ?_
  refine z_icne h50 rfl ?_ ?_
  · refine z_aload h50 rfl rfl (Or.inl rfl) (by omega) ?_
    refine z_getf (a := 5) (b := 5) (l := [29, 9]) h50 rfl (fun v2 => ?_)
    refine z_aload h50 rfl rfl (Or.inl rfl) (by omega) ?_
    refine z_getf (a := 5) (b := 7) (l := [94, 9]) h50 rfl (fun v3 => ?_)
    refine z_isub h50 rfl ?_
    refine z_aload h50 rfl rfl (Or.inl rfl) (by omega) ?_
    refine z_c53 (a := 2) (b := 0) (l := [122, 1]) (as := []) (lsE := [zr a1]) (st' := [zi (v2 - v3)]) (val := fun p => some (zi p)) (mem := fun _ => M) h50 rfl (by omega) ⟨rfl, rfl, rfl, Nat.le_of_ble_eq_true rfl, Nat.le_of_ble_eq_true rfl, rfl⟩ (t_qsg_length X K M a1 (by omega)) (fun v4 => ?_)
    refine z_iceq h50 rfl ?_ ?_
    · refine z_iconst h50 rfl ?_
      refine z_istore h50 rfl (Or.inl rfl) (ls' := [zr self, zr a1, zi 0]) rfl ?_
      refine Rz.wh (hd := fun s5 => (16, [zr self, zr a1, zi s5], [], M, K)) (fun s5 => ?_) n 0
      (try dsimp only)
      refine z_iload h50 rfl rfl (Or.inl rfl) ?_
      refine z_aload h50 rfl rfl (Or.inl rfl) (by omega) ?_
      refine z_c53 (a := 2) (b := 0) (l := [122, 1]) (as := []) (lsE := [zr a1]) (st' := [zi s5]) (val := fun p => some (zi p)) (mem := fun _ => M) h50 rfl (by omega) ⟨rfl, rfl, rfl, Nat.le_of_ble_eq_true rfl, Nat.le_of_ble_eq_true rfl, rfl⟩ (t_qsg_length X K M a1 (by omega)) (fun v6 => ?_)
      refine z_icge h50 rfl ?_ ?_
      · refine z_iconst h50 rfl ?_
        exact z_zret h50 rfl (Or.inr rfl) (fun _ q => q)
      · refine z_aload h50 rfl rfl (Or.inl rfl) (by omega) ?_
        refine z_getr (a := 5) (b := 0) (l := [9, 9]) h50 rfl (fun r7 g_r7 => ?_)
        refine z_aload h50 rfl rfl (Or.inl rfl) (by omega) ?_
        refine z_getf (a := 5) (b := 7) (l := [94, 9]) h50 rfl (fun v8 => ?_)
        refine z_iload h50 rfl rfl (Or.inl rfl) ?_
        refine z_iadd h50 rfl ?_
        refine z_bald h50 rfl (fun v9 => ?_)
        refine z_aload h50 rfl rfl (Or.inl rfl) (by omega) ?_
        refine z_iload h50 rfl rfl (Or.inl rfl) ?_
        refine z_c53 (a := 3) (b := 0) (l := [126, 2]) (as := [zi s5]) (lsE := [zr a1, zi s5]) (st' := [zi v9]) (val := fun p => some (zi p)) (mem := fun _ => M) h50 rfl (by omega) ⟨rfl, rfl, rfl, Nat.le_of_ble_eq_true rfl, Nat.le_of_ble_eq_true rfl, rfl⟩ (t_qsg_charAt X K M a1 s5 (by omega)) (fun v10 => ?_)
        refine z_iceq h50 rfl ?_ ?_
        · refine z_iinc h50 rfl rfl (ls' := [zr self, zr a1, zi (s5 + 1)]) rfl ?_
          refine z_goto h50 rfl ?_
          exact Rz.here fun _ q => q
        · refine z_iconst h50 rfl ?_
          exact z_zret h50 rfl (Or.inl rfl) (fun _ q => q)
    · refine z_kill h50 rfl (ls' := [zU, zU, zU]) rfl ?_
      refine z_iconst h50 rfl ?_
      exact z_zret h50 rfl (Or.inl rfl) (fun _ q => q)
  · refine z_kill h50 rfl (ls' := [zU, zU, zU]) rfl ?_
    refine z_iconst h50 rfl ?_
    exact z_zret h50 rfl (Or.inl rfl) (fun _ q => q)
set_option maxRecDepth 20000 in
theorem t_qrd_kindNamed (X : Int × (Int → Int)) (n : Nat) (K : zK) (M : zM) (self : Int) (g_self : 1 ≤ self) : Rz X 49 (0, [zr self], [], M, K) (qrd_kindNamed n K M self) (fun e P => P (some (zi e), M, K)) := by
  have h49 : zT 49 = zt49 := rfl
  unfold qrd_kindNamed
  refine z_aload h49 rfl rfl (Or.inl rfl) (by omega) ?_
  refine z_ldcs h49 rfl ?_
  refine z_cv (a := 50) (b := 0) (l := [112, 2, 5, 9]) (as := [zr (-2)]) (lsE := [zr self, zr (-2), zU]) (st' := []) (val := fun p => some (zi p)) (mem := fun _ => M) h49 rfl ⟨rfl, rfl, rfl, Nat.le_of_ble_eq_true rfl, Nat.le_of_ble_eq_true rfl, rfl⟩ (fun g1 => (t_qrd_isNamed X n K M self (-2) (by omega) (by omega))) (fun v1 => ?_)
  refine z_ifeq h49 rfl ?_ ?_
  · refine z_aload h49 rfl rfl (Or.inl rfl) (by omega) ?_
    refine z_ldcs h49 rfl ?_
    refine z_cv (a := 50) (b := 0) (l := [112, 2, 5, 9]) (as := [zr (-3)]) (lsE := [zr self, zr (-3), zU]) (st' := []) (val := fun p => some (zi p)) (mem := fun _ => M) h49 rfl ⟨rfl, rfl, rfl, Nat.le_of_ble_eq_true rfl, Nat.le_of_ble_eq_true rfl, rfl⟩ (fun g1 => (t_qrd_isNamed X n K M self (-3) (by omega) (by omega))) (fun v2 => ?_)
    refine z_ifeq h49 rfl ?_ ?_
    · refine z_aload h49 rfl rfl (Or.inl rfl) (by omega) ?_
      refine z_ldcs h49 rfl ?_
      refine z_cv (a := 50) (b := 0) (l := [112, 2, 5, 9]) (as := [zr (-4)]) (lsE := [zr self, zr (-4), zU]) (st' := []) (val := fun p => some (zi p)) (mem := fun _ => M) h49 rfl ⟨rfl, rfl, rfl, Nat.le_of_ble_eq_true rfl, Nat.le_of_ble_eq_true rfl, rfl⟩ (fun g1 => (t_qrd_isNamed X n K M self (-4) (by omega) (by omega))) (fun v3 => ?_)
      refine z_ifeq h49 rfl ?_ ?_
      · refine z_aload h49 rfl rfl (Or.inl rfl) (by omega) ?_
        refine z_ldcs h49 rfl ?_
        refine z_cv (a := 50) (b := 0) (l := [112, 2, 5, 9]) (as := [zr (-5)]) (lsE := [zr self, zr (-5), zU]) (st' := []) (val := fun p => some (zi p)) (mem := fun _ => M) h49 rfl ⟨rfl, rfl, rfl, Nat.le_of_ble_eq_true rfl, Nat.le_of_ble_eq_true rfl, rfl⟩ (fun g1 => (t_qrd_isNamed X n K M self (-5) (by omega) (by omega))) (fun v4 => ?_)
        refine z_ifeq h49 rfl ?_ ?_
        · refine z_iconst h49 rfl ?_
          refine z_kill h49 rfl (ls' := [zU]) rfl ?_
          exact z_iret h49 rfl (fun _ q => q)
        · refine z_iconst h49 rfl ?_
          refine z_goto h49 rfl ?_
          refine z_kill h49 rfl (ls' := [zU]) rfl ?_
          exact z_iret h49 rfl (fun _ q => q)
      · refine z_iconst h49 rfl ?_
        exact z_iret h49 rfl (fun _ q => q)
    · refine z_iconst h49 rfl ?_
      exact z_iret h49 rfl (fun _ q => q)
  · refine z_iconst h49 rfl ?_
    exact z_iret h49 rfl (fun _ q => q)
set_option maxRecDepth 20000 in
theorem t_qrd_takeRow (X : Int × (Int → Int)) (n : Nat) (K : zK) (M : zM) (self a1 : Int) (g_self : 1 ≤ self) : Rz X 44 (0, [zr self, zi a1, zU], [], M, K) (qrd_takeRow n K M self a1) (fun e P => P (some (zi e.1), e.2, K)) := by
  have h44 : zT 44 = zt44 := rfl
  unfold qrd_takeRow
  refine z_aload h44 rfl rfl (Or.inl rfl) (by omega) ?_
  refine z_cv (a := 47) (b := 0) (l := [43, 1, 5, 9]) (as := []) (lsE := [zr self]) (st' := []) (val := fun p => some (zi p.1)) (mem := fun p => p.2) h44 rfl ⟨rfl, rfl, rfl, Nat.le_of_ble_eq_true rfl, Nat.le_of_ble_eq_true rfl, rfl⟩ (fun g1 => (t_qrd_takeToken X n K M self (by omega))) (fun p1 => ?_)
  refine z_ifne h44 rfl ?_ ?_
  · refine z_iconst h44 rfl ?_
    exact z_zret h44 rfl (Or.inl rfl) (fun _ q => q)
  · refine z_aload h44 rfl rfl (Or.inl rfl) (by omega) ?_
    refine z_getf (a := 5) (b := 6) (l := [47, 9]) h44 rfl (fun v2 => ?_)
    refine z_iconst h44 rfl ?_
    refine Rz.esc (t := fun j3 => (24, [zr self, zi a1, zU], [], p1.2, K)) ?_ (fun j3 => ?_)
    · refine z_icne h44 rfl ?_ ?_
      · refine z_aload h44 rfl rfl (Or.inl rfl) (by omega) ?_
        refine z_getf (a := 5) (b := 5) (l := [29, 9]) h44 rfl (fun v13 => ?_)
        refine z_aload h44 rfl rfl (Or.inl rfl) (by omega) ?_
        refine z_getf (a := 5) (b := 7) (l := [94, 9]) h44 rfl (fun v14 => ?_)
        refine z_isub h44 rfl ?_
        refine z_iconst h44 rfl ?_
        refine z_icne h44 rfl ?_ ?_
        · refine z_aload h44 rfl rfl (Or.inl rfl) (by omega) ?_
          refine z_getr (a := 5) (b := 0) (l := [9, 9]) h44 rfl (fun r15 g_r15 => ?_)
          refine z_aload h44 rfl rfl (Or.inl rfl) (by omega) ?_
          refine z_getf (a := 5) (b := 7) (l := [94, 9]) h44 rfl (fun v16 => ?_)
          refine z_bald h44 rfl (fun v17 => ?_)
          refine z_iconst h44 rfl ?_
          refine z_isub h44 rfl ?_
          refine z_goto h44 rfl ?_
          refine z_kill h44 rfl (ls' := [zr self, zi a1, zU]) rfl ?_
          refine z_istoreL (lsf := fun x18 => [zr self, zi a1, zi x18]) h44 rfl (Or.inl rfl) (fun _ => rfl) (fun x18 => ?_)
          (try dsimp only)
          refine z_iload h44 rfl rfl (Or.inl rfl) ?_
          refine z_iconst h44 rfl ?_
          refine z_iconst h44 rfl ?_
          refine z_cs (a := 123) (b := 1) (l := [97, 3]) (as := [zi x18, zi 0, zi 7]) (lsE := [zi x18, zi 0, zi 7]) (st' := []) (val := fun p => some (zi p)) (mem := fun _ => p1.2) h44 rfl ⟨rfl, rfl, rfl, Nat.le_of_ble_eq_true rfl, Nat.le_of_ble_eq_true rfl, rfl⟩ (t_qbs_within X K p1.2 x18 0 7 ) (fun v19 => ?_)
          refine z_ifne h44 rfl ?_ ?_
          · refine z_aload h44 rfl rfl (Or.inl rfl) (by omega) ?_
            refine z_iconst h44 rfl ?_
            refine z_cv (a := 53) (b := 0) (l := [54, 2, 5, 9]) (as := [zi 2]) (lsE := [zr self, zi 2]) (st' := []) (val := fun p => some (zi p.1)) (mem := fun p => p.2) h44 rfl ⟨rfl, rfl, rfl, Nat.le_of_ble_eq_true rfl, Nat.le_of_ble_eq_true rfl, rfl⟩ (fun g1 => (t_qrd_refuse X K p1.2 self 2 (by omega))) (fun p20 => ?_)
            exact z_zretb h44 rfl (fun z hz P q => by cases hz; exact q)
          · refine z_iload h44 rfl rfl (Or.inl rfl) ?_
            refine Rz.esc (t := fun j22 => (46, [zr self, zU, zi x18], [], p1.2, K)) ?_ (fun j22 => ?_)
            · refine z_ifeq h44 rfl ?_ ?_
              · refine z_kill h44 rfl (ls' := [zr self, zU, zi x18]) rfl ?_
                exact Rz.here fun _ q => q
              · refine z_aload h44 rfl rfl (Or.inl rfl) (by omega) ?_
                refine z_getr (a := 5) (b := 1) (l := [15, 9]) h44 rfl (fun r24 g_r24 => ?_)
                refine z_iload h44 rfl rfl (Or.inl rfl) ?_
                refine z_iald h44 rfl (fun v25 => ?_)
                refine z_ifge h44 rfl ?_ ?_
                · refine z_kill h44 rfl (ls' := [zr self, zU, zi x18]) rfl ?_
                  exact Rz.here fun _ q => q
                · refine z_aload h44 rfl rfl (Or.inl rfl) (by omega) ?_
                  refine z_iconst h44 rfl ?_
                  refine z_cv (a := 53) (b := 0) (l := [54, 2, 5, 9]) (as := [zi 4]) (lsE := [zr self, zi 4]) (st' := []) (val := fun p => some (zi p.1)) (mem := fun p => p.2) h44 rfl ⟨rfl, rfl, rfl, Nat.le_of_ble_eq_true rfl, Nat.le_of_ble_eq_true rfl, rfl⟩ (fun g1 => (t_qrd_refuse X K p1.2 self 4 (by omega))) (fun p26 => ?_)
                  exact z_zretb h44 rfl (fun z hz P q => by cases hz; exact q)
            · (try dsimp only)
              refine z_aload h44 rfl rfl (Or.inl rfl) (by omega) ?_
              refine z_iload h44 rfl rfl (Or.inl rfl) ?_
              refine z_putf (a := 5) (b := 8) (l := [72, 9]) h44 rfl (fun M23 => ?_)
              refine z_iconst h44 rfl ?_
              exact z_zret h44 rfl (Or.inr rfl) (fun _ q => q)
        · refine z_kill h44 rfl (ls' := [zr self, zi a1, zU]) rfl ?_
          exact Rz.here fun _ q => q
      · refine z_kill h44 rfl (ls' := [zr self, zi a1, zU]) rfl ?_
        exact Rz.here fun _ q => q
    · (try dsimp only)
      refine z_iconst h44 rfl ?_
      refine z_kill h44 rfl (ls' := [zr self, zi a1, zU]) rfl ?_
      refine z_istore h44 rfl (Or.inl rfl) (ls' := [zr self, zi a1, zi (-1)]) rfl ?_
      refine z_iload h44 rfl rfl (Or.inl rfl) ?_
      refine z_iconst h44 rfl ?_
      refine z_iconst h44 rfl ?_
      refine z_cs (a := 123) (b := 1) (l := [97, 3]) (as := [zi (-1), zi 0, zi 7]) (lsE := [zi (-1), zi 0, zi 7]) (st' := []) (val := fun p => some (zi p)) (mem := fun _ => p1.2) h44 rfl ⟨rfl, rfl, rfl, Nat.le_of_ble_eq_true rfl, Nat.le_of_ble_eq_true rfl, rfl⟩ (t_qbs_within X K p1.2 (-1) 0 7 ) (fun v4 => ?_)
      refine z_ifne h44 rfl ?_ ?_
      · refine z_aload h44 rfl rfl (Or.inl rfl) (by omega) ?_
        refine z_iconst h44 rfl ?_
        refine z_cv (a := 53) (b := 0) (l := [54, 2, 5, 9]) (as := [zi 2]) (lsE := [zr self, zi 2]) (st' := []) (val := fun p => some (zi p.1)) (mem := fun p => p.2) h44 rfl ⟨rfl, rfl, rfl, Nat.le_of_ble_eq_true rfl, Nat.le_of_ble_eq_true rfl, rfl⟩ (fun g1 => (t_qrd_refuse X K p1.2 self 2 (by omega))) (fun p5 => ?_)
        exact z_zretb h44 rfl (fun z hz P q => by cases hz; exact q)
      · refine z_iload h44 rfl rfl (Or.inl rfl) ?_
        refine Rz.esc (t := fun j7 => (46, [zr self, zU, zi (-1)], [], p1.2, K)) ?_ (fun j7 => ?_)
        · refine z_ifeq h44 rfl ?_ ?_
          · refine z_kill h44 rfl (ls' := [zr self, zU, zi (-1)]) rfl ?_
            exact Rz.here fun _ q => q
          · refine z_aload h44 rfl rfl (Or.inl rfl) (by omega) ?_
            refine z_getr (a := 5) (b := 1) (l := [15, 9]) h44 rfl (fun r9 g_r9 => ?_)
            refine z_iload h44 rfl rfl (Or.inl rfl) ?_
            refine z_iald h44 rfl (fun v10 => ?_)
            refine z_ifge h44 rfl ?_ ?_
            · refine z_kill h44 rfl (ls' := [zr self, zU, zi (-1)]) rfl ?_
              exact Rz.here fun _ q => q
            · refine z_aload h44 rfl rfl (Or.inl rfl) (by omega) ?_
              refine z_iconst h44 rfl ?_
              refine z_cv (a := 53) (b := 0) (l := [54, 2, 5, 9]) (as := [zi 4]) (lsE := [zr self, zi 4]) (st' := []) (val := fun p => some (zi p.1)) (mem := fun p => p.2) h44 rfl ⟨rfl, rfl, rfl, Nat.le_of_ble_eq_true rfl, Nat.le_of_ble_eq_true rfl, rfl⟩ (fun g1 => (t_qrd_refuse X K p1.2 self 4 (by omega))) (fun p11 => ?_)
              exact z_zretb h44 rfl (fun z hz P q => by cases hz; exact q)
        · (try dsimp only)
          refine z_aload h44 rfl rfl (Or.inl rfl) (by omega) ?_
          refine z_iload h44 rfl rfl (Or.inl rfl) ?_
          refine z_putf (a := 5) (b := 8) (l := [72, 9]) h44 rfl (fun M8 => ?_)
          refine z_iconst h44 rfl ?_
          exact z_zret h44 rfl (Or.inr rfl) (fun _ q => q)
set_option maxRecDepth 20000 in
theorem t_qrd_takeNumber (X : Int × (Int → Int)) (n : Nat) (K : zK) (M : zM) (self a1 a2 : Int) (g_self : 1 ≤ self) : Rz X 45 (0, [zr self, zi a1, zi a2], [], M, K) (qrd_takeNumber n K M self a1 a2) (fun e P => P (some (zi e.1), e.2, K)) := by
  have h45 : zT 45 = zt45 := rfl
  unfold qrd_takeNumber
  refine z_aload h45 rfl rfl (Or.inl rfl) (by omega) ?_
  refine z_cv (a := 47) (b := 0) (l := [43, 1, 5, 9]) (as := []) (lsE := [zr self]) (st' := []) (val := fun p => some (zi p.1)) (mem := fun p => p.2) h45 rfl ⟨rfl, rfl, rfl, Nat.le_of_ble_eq_true rfl, Nat.le_of_ble_eq_true rfl, rfl⟩ (fun g1 => (t_qrd_takeToken X n K M self (by omega))) (fun p1 => ?_)
  refine z_ifne h45 rfl ?_ ?_
  · refine z_iconst h45 rfl ?_
    exact z_zret h45 rfl (Or.inl rfl) (fun _ q => q)
  · refine z_aload h45 rfl rfl (Or.inl rfl) (by omega) ?_
    refine z_getf (a := 5) (b := 6) (l := [47, 9]) h45 rfl (fun v2 => ?_)
    refine z_iconst h45 rfl ?_
    refine z_iceq h45 rfl ?_ ?_
    · refine z_aload h45 rfl rfl (Or.inl rfl) (by omega) ?_
      refine z_getf (a := 5) (b := 8) (l := [72, 9]) h45 rfl (fun v3 => ?_)
      refine z_iload h45 rfl rfl (Or.inl rfl) ?_
      refine z_iload h45 rfl rfl (Or.inl rfl) ?_
      refine z_cs (a := 123) (b := 1) (l := [97, 3]) (as := [zi v3, zi a1, zi a2]) (lsE := [zi v3, zi a1, zi a2]) (st' := []) (val := fun p => some (zi p)) (mem := fun _ => p1.2) h45 rfl ⟨rfl, rfl, rfl, Nat.le_of_ble_eq_true rfl, Nat.le_of_ble_eq_true rfl, rfl⟩ (t_qbs_within X K p1.2 v3 a1 a2 ) (fun v4 => ?_)
      refine Rz.esc (t := fun j5 => (23, [zU, zU, zU], [], j5, K)) ?_ (fun j5 => ?_)
      · refine z_ifne h45 rfl ?_ ?_
        · refine z_aload h45 rfl rfl (Or.inl rfl) (by omega) ?_
          refine z_iconst h45 rfl ?_
          refine z_cv (a := 53) (b := 0) (l := [54, 2, 5, 9]) (as := [zi 3]) (lsE := [zr self, zi 3]) (st' := []) (val := fun p => some (zi p.1)) (mem := fun p => p.2) h45 rfl ⟨rfl, rfl, rfl, Nat.le_of_ble_eq_true rfl, Nat.le_of_ble_eq_true rfl, rfl⟩ (fun g1 => (t_qrd_refuse X K p1.2 self 3 (by omega))) (fun p6 => ?_)
          refine z_ifeq h45 rfl ?_ ?_
          · refine z_iconst h45 rfl ?_
            refine z_kill h45 rfl (ls' := [zU, zU, zU]) rfl ?_
            exact z_zret h45 rfl (Or.inl rfl) (fun _ q => q)
          · refine z_kill h45 rfl (ls' := [zU, zU, zU]) rfl ?_
            exact Rz.here fun _ q => q
        · refine z_kill h45 rfl (ls' := [zU, zU, zU]) rfl ?_
          exact Rz.here fun _ q => q
      · (try dsimp only)
        refine z_iconst h45 rfl ?_
        refine z_goto h45 rfl ?_
        refine z_kill h45 rfl (ls' := [zU, zU, zU]) rfl ?_
        exact z_zret h45 rfl (Or.inr rfl) (fun _ q => q)
    · refine z_aload h45 rfl rfl (Or.inl rfl) (by omega) ?_
      refine z_iconst h45 rfl ?_
      refine z_cv (a := 53) (b := 0) (l := [54, 2, 5, 9]) (as := [zi 2]) (lsE := [zr self, zi 2]) (st' := []) (val := fun p => some (zi p.1)) (mem := fun p => p.2) h45 rfl ⟨rfl, rfl, rfl, Nat.le_of_ble_eq_true rfl, Nat.le_of_ble_eq_true rfl, rfl⟩ (fun g1 => (t_qrd_refuse X K p1.2 self 2 (by omega))) (fun p7 => ?_)
      exact z_zretb h45 rfl (fun z hz P q => by cases hz; exact q)
set_option maxRecDepth 20000 in
theorem t_qrd_takeMark (X : Int × (Int → Int)) (n : Nat) (K : zK) (M : zM) (self : Int) (g_self : 1 ≤ self) : Rz X 46 (0, [zr self], [], M, K) (qrd_takeMark n K M self) (fun e P => P (some (zi e.1), e.2, K)) := by
  have h46 : zT 46 = zt46 := rfl
  unfold qrd_takeMark
  refine z_aload h46 rfl rfl (Or.inl rfl) (by omega) ?_
  refine z_cv (a := 47) (b := 0) (l := [43, 1, 5, 9]) (as := []) (lsE := [zr self]) (st' := []) (val := fun p => some (zi p.1)) (mem := fun p => p.2) h46 rfl ⟨rfl, rfl, rfl, Nat.le_of_ble_eq_true rfl, Nat.le_of_ble_eq_true rfl, rfl⟩ (fun g1 => (t_qrd_takeToken X n K M self (by omega))) (fun p1 => ?_)
  refine z_ifne h46 rfl ?_ ?_
  · refine z_iconst h46 rfl ?_
    exact z_zret h46 rfl (Or.inl rfl) (fun _ q => q)
  · refine z_aload h46 rfl rfl (Or.inl rfl) (by omega) ?_
    refine z_getf (a := 5) (b := 6) (l := [47, 9]) h46 rfl (fun v2 => ?_)
    refine z_iconst h46 rfl ?_
    refine Rz.esc (t := fun j3 => (13, [zU], [], j3, K)) ?_ (fun j3 => ?_)
    · refine z_iceq h46 rfl ?_ ?_
      · refine z_kill h46 rfl (ls' := [zU]) rfl ?_
        exact Rz.here fun _ q => q
      · refine z_aload h46 rfl rfl (Or.inl rfl) (by omega) ?_
        refine z_iconst h46 rfl ?_
        refine z_cv (a := 53) (b := 0) (l := [54, 2, 5, 9]) (as := [zi 2]) (lsE := [zr self, zi 2]) (st' := []) (val := fun p => some (zi p.1)) (mem := fun p => p.2) h46 rfl ⟨rfl, rfl, rfl, Nat.le_of_ble_eq_true rfl, Nat.le_of_ble_eq_true rfl, rfl⟩ (fun g1 => (t_qrd_refuse X K p1.2 self 2 (by omega))) (fun p4 => ?_)
        refine z_ifeq h46 rfl ?_ ?_
        · refine z_iconst h46 rfl ?_
          refine z_kill h46 rfl (ls' := [zU]) rfl ?_
          exact z_zret h46 rfl (Or.inl rfl) (fun _ q => q)
        · refine z_kill h46 rfl (ls' := [zU]) rfl ?_
          exact Rz.here fun _ q => q
    · (try dsimp only)
      refine z_iconst h46 rfl ?_
      refine z_goto h46 rfl ?_
      refine z_kill h46 rfl (ls' := [zU]) rfl ?_
      exact z_zret h46 rfl (Or.inr rfl) (fun _ q => q)
set_option maxRecDepth 20000 in
theorem t_qrd_readLine (X : Int × (Int → Int)) (n : Nat) (K : zK) (M : zM) (self a1 a2 a3 : Int) (g_self : 1 ≤ self) (g_a1 : 1 ≤ a1) : Rz X 43 (0, [zr self, zr a1, zi a2, zi a3, zU], [], M, K) (qrd_readLine n K M self a1 a2 a3) (fun e P => P (some (zi e.1), e.2, K)) := by
  have h43 : zT 43 = zt43 := rfl
  unfold qrd_readLine
  refine z_iload h43 rfl rfl (Or.inl rfl) ?_
  refine Rz.esc (t := fun j1 => (5, [zr self, zr a1, zi a2, zi a3, zU], [], M, K)) ?_ (fun j1 => ?_)
  · refine z_ifeq h43 rfl ?_ ?_
    · refine z_kill h43 rfl (ls' := [zr self, zr a1, zi a2, zi a3, zU]) rfl ?_
      exact Rz.here fun _ q => q
    · refine z_iload h43 rfl rfl (Or.inl rfl) ?_
      refine z_iconst h43 rfl ?_
      refine z_icne h43 rfl ?_ ?_
      · refine z_kill h43 rfl (ls' := [zr self, zr a1, zi a2, zi a3, zU]) rfl ?_
        exact Rz.here fun _ q => q
      · refine z_iconst h43 rfl ?_
        refine z_kill h43 rfl (ls' := [zr self, zr a1, zi a2, zi a3, zU]) rfl ?_
        refine z_istore h43 rfl (Or.inr rfl) (ls' := [zr self, zr a1, zi a2, zi a3, zi 0]) rfl ?_
        refine z_aload h43 rfl rfl (Or.inl rfl) (by omega) ?_
        refine z_iload h43 rfl rfl (Or.inl rfl) ?_
        refine z_iconst h43 rfl ?_
        refine Rz.bind (t := fun j44 => (16, [zr self, zr a1, zi a2, zi a3, zi 0], [zi j44, zr self], M, K)) ?_ (fun j44 => ?_)
        · refine z_icne h43 rfl ?_ ?_
          · refine z_iconst h43 rfl ?_
            refine z_goto h43 rfl ?_
            exact Rz.here fun _ q => q
          · refine z_iconst h43 rfl ?_
            exact Rz.here fun _ q => q
        · (try dsimp only)
          refine z_cv (a := 44) (b := 0) (l := [65, 2, 5, 9]) (as := [zi j44]) (lsE := [zr self, zi j44, zU]) (st' := []) (val := fun p => some (zi p.1)) (mem := fun p => p.2) h43 rfl ⟨rfl, rfl, rfl, Nat.le_of_ble_eq_true rfl, Nat.le_of_ble_eq_true rfl, rfl⟩ (fun g1 => (t_qrd_takeRow X n K M self j44 (by omega))) (fun p45 => ?_)
          refine z_ifne h43 rfl ?_ ?_
          · refine z_iconst h43 rfl ?_
            exact z_zret h43 rfl (Or.inl rfl) (fun _ q => q)
          · refine z_aload h43 rfl rfl (Or.inl rfl) (by omega) ?_
            refine z_getr (a := 3) (b := 0) (l := [69, 7]) h43 rfl (fun r46 g_r46 => ?_)
            refine z_iload h43 rfl rfl (Or.inl rfl) ?_
            refine z_iload h43 rfl rfl (Or.inl rfl) ?_
            refine z_iast h43 rfl (fun M47 => ?_)
            refine z_aload h43 rfl rfl (Or.inl rfl) (by omega) ?_
            refine z_getr (a := 3) (b := 1) (l := [62, 7]) h43 rfl (fun r48 g_r48 => ?_)
            refine z_iload h43 rfl rfl (Or.inl rfl) ?_
            refine z_aload h43 rfl rfl (Or.inl rfl) (by omega) ?_
            refine z_getf (a := 5) (b := 8) (l := [72, 9]) h43 rfl (fun v49 => ?_)
            refine z_iast h43 rfl (fun M50 => ?_)
            refine z_aload h43 rfl rfl (Or.inl rfl) (by omega) ?_
            refine z_getr (a := 3) (b := 4) (l := [75, 7]) h43 rfl (fun r51 g_r51 => ?_)
            refine z_iload h43 rfl rfl (Or.inl rfl) ?_
            refine z_iload h43 rfl rfl (Or.inl rfl) ?_
            refine z_iconst h43 rfl ?_
            refine Rz.bind (t := fun j52 => (44, [zr self, zr a1, zU, zi a3, zi 0], [zi j52, zi a3, zr r51], M50, K)) ?_ (fun j52 => ?_)
            · refine z_icne h43 rfl ?_ ?_
              · refine z_aload h43 rfl rfl (Or.inl rfl) (by omega) ?_
                refine z_getr (a := 5) (b := 1) (l := [15, 9]) h43 rfl (fun r83 g_r83 => ?_)
                refine z_aload h43 rfl rfl (Or.inl rfl) (by omega) ?_
                refine z_getf (a := 5) (b := 8) (l := [72, 9]) h43 rfl (fun v84 => ?_)
                refine z_iald h43 rfl (fun v85 => ?_)
                refine z_goto h43 rfl ?_
                refine z_kill h43 rfl (ls' := [zr self, zr a1, zU, zi a3, zi 0]) rfl ?_
                exact Rz.here fun _ q => q
              · refine z_iconst h43 rfl ?_
                refine z_kill h43 rfl (ls' := [zr self, zr a1, zU, zi a3, zi 0]) rfl ?_
                exact Rz.here fun _ q => q
            · (try dsimp only)
              refine z_iast h43 rfl (fun M53 => ?_)
              refine z_aload h43 rfl rfl (Or.inl rfl) (by omega) ?_
              refine z_getr (a := 3) (b := 5) (l := [78, 7]) h43 rfl (fun r54 g_r54 => ?_)
              refine z_iload h43 rfl rfl (Or.inl rfl) ?_
              refine z_iconst h43 rfl ?_
              refine z_iast h43 rfl (fun M55 => ?_)
              refine z_iload h43 rfl rfl (Or.inr rfl) ?_
              refine Rz.esc (t := fun j56 => (64, [zr self, zr a1, zU, zi a3, zi 0], [], j56, K)) ?_ (fun j56 => ?_)
              · refine z_ifeq h43 rfl ?_ ?_
                · refine z_aload h43 rfl rfl (Or.inl rfl) (by omega) ?_
                  refine z_iconst h43 rfl ?_
                  refine z_cv (a := 44) (b := 0) (l := [65, 2, 5, 9]) (as := [zi 1]) (lsE := [zr self, zi 1, zU]) (st' := []) (val := fun p => some (zi p.1)) (mem := fun p => p.2) h43 rfl ⟨rfl, rfl, rfl, Nat.le_of_ble_eq_true rfl, Nat.le_of_ble_eq_true rfl, rfl⟩ (fun g1 => (t_qrd_takeRow X n K M55 self 1 (by omega))) (fun p81 => ?_)
                  refine z_ifne h43 rfl ?_ ?_
                  · refine z_kill h43 rfl (ls' := [zU, zU, zU, zU, zU]) rfl ?_
                    refine z_iconst h43 rfl ?_
                    exact z_zret h43 rfl (Or.inl rfl) (fun _ q => q)
                  · refine z_kill h43 rfl (ls' := [zr self, zr a1, zU, zi a3, zi 0]) rfl ?_
                    exact Rz.here fun _ q => q
                · refine z_aload h43 rfl rfl (Or.inl rfl) (by omega) ?_
                  refine z_iconst h43 rfl ?_
                  refine z_iconst h43 rfl ?_
                  refine z_cv (a := 45) (b := 0) (l := [81, 3, 5, 9]) (as := [zi 0, zi 999]) (lsE := [zr self, zi 0, zi 999]) (st' := []) (val := fun p => some (zi p.1)) (mem := fun p => p.2) h43 rfl ⟨rfl, rfl, rfl, Nat.le_of_ble_eq_true rfl, Nat.le_of_ble_eq_true rfl, rfl⟩ (fun g1 => (t_qrd_takeNumber X n K M55 self 0 999 (by omega))) (fun p82 => ?_)
                  refine z_ifeq h43 rfl ?_ ?_
                  · refine z_kill h43 rfl (ls' := [zU, zU, zU, zU, zU]) rfl ?_
                    refine z_iconst h43 rfl ?_
                    exact z_zret h43 rfl (Or.inl rfl) (fun _ q => q)
                  · refine z_goto h43 rfl ?_
                    refine z_kill h43 rfl (ls' := [zr self, zr a1, zU, zi a3, zi 0]) rfl ?_
                    exact Rz.here fun _ q => q
              · (try dsimp only)
                refine z_aload h43 rfl rfl (Or.inl rfl) (by omega) ?_
                refine z_getr (a := 3) (b := 2) (l := [85, 7]) h43 rfl (fun r57 g_r57 => ?_)
                refine z_iload h43 rfl rfl (Or.inl rfl) ?_
                refine z_aload h43 rfl rfl (Or.inl rfl) (by omega) ?_
                refine z_getf (a := 5) (b := 8) (l := [72, 9]) h43 rfl (fun v58 => ?_)
                refine z_iast h43 rfl (fun M59 => ?_)
                refine z_iload h43 rfl rfl (Or.inr rfl) ?_
                refine Rz.esc (t := fun j60 => (84, [zr self, zr a1, zU, zi a3, zi 0], [], j60, K)) ?_ (fun j60 => ?_)
                · refine z_ifeq h43 rfl ?_ ?_
                  · refine z_aload h43 rfl rfl (Or.inl rfl) (by omega) ?_
                    refine z_iconst h43 rfl ?_
                    refine z_cv (a := 44) (b := 0) (l := [65, 2, 5, 9]) (as := [zi 1]) (lsE := [zr self, zi 1, zU]) (st' := []) (val := fun p => some (zi p.1)) (mem := fun p => p.2) h43 rfl ⟨rfl, rfl, rfl, Nat.le_of_ble_eq_true rfl, Nat.le_of_ble_eq_true rfl, rfl⟩ (fun g1 => (t_qrd_takeRow X n K M59 self 1 (by omega))) (fun p79 => ?_)
                    refine z_ifne h43 rfl ?_ ?_
                    · refine z_kill h43 rfl (ls' := [zU, zU, zU, zU, zU]) rfl ?_
                      refine z_iconst h43 rfl ?_
                      exact z_zret h43 rfl (Or.inl rfl) (fun _ q => q)
                    · refine z_kill h43 rfl (ls' := [zr self, zr a1, zU, zi a3, zi 0]) rfl ?_
                      exact Rz.here fun _ q => q
                  · refine z_aload h43 rfl rfl (Or.inl rfl) (by omega) ?_
                    refine z_iconst h43 rfl ?_
                    refine z_iconst h43 rfl ?_
                    refine z_cv (a := 45) (b := 0) (l := [81, 3, 5, 9]) (as := [zi 1, zi 99]) (lsE := [zr self, zi 1, zi 99]) (st' := []) (val := fun p => some (zi p.1)) (mem := fun p => p.2) h43 rfl ⟨rfl, rfl, rfl, Nat.le_of_ble_eq_true rfl, Nat.le_of_ble_eq_true rfl, rfl⟩ (fun g1 => (t_qrd_takeNumber X n K M59 self 1 99 (by omega))) (fun p80 => ?_)
                    refine z_ifeq h43 rfl ?_ ?_
                    · refine z_kill h43 rfl (ls' := [zU, zU, zU, zU, zU]) rfl ?_
                      refine z_iconst h43 rfl ?_
                      exact z_zret h43 rfl (Or.inl rfl) (fun _ q => q)
                    · refine z_goto h43 rfl ?_
                      refine z_kill h43 rfl (ls' := [zr self, zr a1, zU, zi a3, zi 0]) rfl ?_
                      exact Rz.here fun _ q => q
                · (try dsimp only)
                  refine z_aload h43 rfl rfl (Or.inl rfl) (by omega) ?_
                  refine z_getr (a := 3) (b := 3) (l := [88, 7]) h43 rfl (fun r61 g_r61 => ?_)
                  refine z_iload h43 rfl rfl (Or.inl rfl) ?_
                  refine z_aload h43 rfl rfl (Or.inl rfl) (by omega) ?_
                  refine z_getf (a := 5) (b := 8) (l := [72, 9]) h43 rfl (fun v62 => ?_)
                  refine z_iast h43 rfl (fun M63 => ?_)
                  refine z_iload h43 rfl rfl (Or.inr rfl) ?_
                  refine Rz.bind (t := fun j64 => (114, [zr self, zU, zU, zU, zU], [], j64, K)) ?_ (fun j64 => ?_)
                  · refine z_ifne h43 rfl ?_ ?_
                    · refine z_aload h43 rfl rfl (Or.inl rfl) (by omega) ?_
                      refine z_getr (a := 3) (b := 4) (l := [75, 7]) h43 rfl (fun r67 g_r67 => ?_)
                      refine z_iload h43 rfl rfl (Or.inl rfl) ?_
                      refine z_aload h43 rfl rfl (Or.inl rfl) (by omega) ?_
                      refine z_getr (a := 5) (b := 1) (l := [15, 9]) h43 rfl (fun r68 g_r68 => ?_)
                      refine z_aload h43 rfl rfl (Or.inl rfl) (by omega) ?_
                      refine z_getr (a := 3) (b := 2) (l := [85, 7]) h43 rfl (fun r69 g_r69 => ?_)
                      refine z_iload h43 rfl rfl (Or.inl rfl) ?_
                      refine z_iald h43 rfl (fun v70 => ?_)
                      refine z_iald h43 rfl (fun v71 => ?_)
                      refine z_iast h43 rfl (fun M72 => ?_)
                      refine z_aload h43 rfl rfl (Or.inl rfl) (by omega) ?_
                      refine z_getr (a := 3) (b := 5) (l := [78, 7]) h43 rfl (fun r73 g_r73 => ?_)
                      refine z_iload h43 rfl rfl (Or.inl rfl) ?_
                      refine z_aload h43 rfl rfl (Or.inl rfl) (by omega) ?_
                      refine z_getr (a := 5) (b := 1) (l := [15, 9]) h43 rfl (fun r74 g_r74 => ?_)
                      refine z_aload h43 rfl rfl (Or.inl rfl) (by omega) ?_
                      refine z_getr (a := 3) (b := 3) (l := [88, 7]) h43 rfl (fun r75 g_r75 => ?_)
                      refine z_iload h43 rfl rfl (Or.inl rfl) ?_
                      refine z_iald h43 rfl (fun v76 => ?_)
                      refine z_iald h43 rfl (fun v77 => ?_)
                      refine z_iast h43 rfl (fun M78 => ?_)
                      refine z_kill h43 rfl (ls' := [zr self, zU, zU, zU, zU]) rfl ?_
                      exact Rz.here fun _ q => q
                    · refine z_kill h43 rfl (ls' := [zr self, zU, zU, zU, zU]) rfl ?_
                      exact Rz.here fun _ q => q
                  · (try dsimp only)
                    refine z_aload h43 rfl rfl (Or.inl rfl) (by omega) ?_
                    refine z_cv (a := 46) (b := 0) (l := [91, 1, 5, 9]) (as := []) (lsE := [zr self]) (st' := []) (val := fun p => some (zi p.1)) (mem := fun p => p.2) h43 rfl ⟨rfl, rfl, rfl, Nat.le_of_ble_eq_true rfl, Nat.le_of_ble_eq_true rfl, rfl⟩ (fun g1 => (t_qrd_takeMark X n K j64 self (by omega))) (fun p65 => ?_)
                    exact z_zretb h43 rfl (fun z hz P q => by cases hz; exact q)
  · (try dsimp only)
    refine z_iconst h43 rfl ?_
    refine z_goto h43 rfl ?_
    refine z_kill h43 rfl (ls' := [zr self, zr a1, zi a2, zi a3, zU]) rfl ?_
    refine z_istore h43 rfl (Or.inr rfl) (ls' := [zr self, zr a1, zi a2, zi a3, zi 1]) rfl ?_
    refine z_aload h43 rfl rfl (Or.inl rfl) (by omega) ?_
    refine z_iload h43 rfl rfl (Or.inl rfl) ?_
    refine z_iconst h43 rfl ?_
    refine Rz.bind (t := fun j2 => (16, [zr self, zr a1, zi a2, zi a3, zi 1], [zi j2, zr self], M, K)) ?_ (fun j2 => ?_)
    · refine z_icne h43 rfl ?_ ?_
      · refine z_iconst h43 rfl ?_
        refine z_goto h43 rfl ?_
        exact Rz.here fun _ q => q
      · refine z_iconst h43 rfl ?_
        exact Rz.here fun _ q => q
    · (try dsimp only)
      refine z_cv (a := 44) (b := 0) (l := [65, 2, 5, 9]) (as := [zi j2]) (lsE := [zr self, zi j2, zU]) (st' := []) (val := fun p => some (zi p.1)) (mem := fun p => p.2) h43 rfl ⟨rfl, rfl, rfl, Nat.le_of_ble_eq_true rfl, Nat.le_of_ble_eq_true rfl, rfl⟩ (fun g1 => (t_qrd_takeRow X n K M self j2 (by omega))) (fun p3 => ?_)
      refine z_ifne h43 rfl ?_ ?_
      · refine z_iconst h43 rfl ?_
        exact z_zret h43 rfl (Or.inl rfl) (fun _ q => q)
      · refine z_aload h43 rfl rfl (Or.inl rfl) (by omega) ?_
        refine z_getr (a := 3) (b := 0) (l := [69, 7]) h43 rfl (fun r4 g_r4 => ?_)
        refine z_iload h43 rfl rfl (Or.inl rfl) ?_
        refine z_iload h43 rfl rfl (Or.inl rfl) ?_
        refine z_iast h43 rfl (fun M5 => ?_)
        refine z_aload h43 rfl rfl (Or.inl rfl) (by omega) ?_
        refine z_getr (a := 3) (b := 1) (l := [62, 7]) h43 rfl (fun r6 g_r6 => ?_)
        refine z_iload h43 rfl rfl (Or.inl rfl) ?_
        refine z_aload h43 rfl rfl (Or.inl rfl) (by omega) ?_
        refine z_getf (a := 5) (b := 8) (l := [72, 9]) h43 rfl (fun v7 => ?_)
        refine z_iast h43 rfl (fun M8 => ?_)
        refine z_aload h43 rfl rfl (Or.inl rfl) (by omega) ?_
        refine z_getr (a := 3) (b := 4) (l := [75, 7]) h43 rfl (fun r9 g_r9 => ?_)
        refine z_iload h43 rfl rfl (Or.inl rfl) ?_
        refine z_iload h43 rfl rfl (Or.inl rfl) ?_
        refine z_iconst h43 rfl ?_
        refine Rz.bind (t := fun j10 => (44, [zr self, zr a1, zU, zi a3, zi 1], [zi j10, zi a3, zr r9], M8, K)) ?_ (fun j10 => ?_)
        · refine z_icne h43 rfl ?_ ?_
          · refine z_aload h43 rfl rfl (Or.inl rfl) (by omega) ?_
            refine z_getr (a := 5) (b := 1) (l := [15, 9]) h43 rfl (fun r41 g_r41 => ?_)
            refine z_aload h43 rfl rfl (Or.inl rfl) (by omega) ?_
            refine z_getf (a := 5) (b := 8) (l := [72, 9]) h43 rfl (fun v42 => ?_)
            refine z_iald h43 rfl (fun v43 => ?_)
            refine z_goto h43 rfl ?_
            refine z_kill h43 rfl (ls' := [zr self, zr a1, zU, zi a3, zi 1]) rfl ?_
            exact Rz.here fun _ q => q
          · refine z_iconst h43 rfl ?_
            refine z_kill h43 rfl (ls' := [zr self, zr a1, zU, zi a3, zi 1]) rfl ?_
            exact Rz.here fun _ q => q
        · (try dsimp only)
          refine z_iast h43 rfl (fun M11 => ?_)
          refine z_aload h43 rfl rfl (Or.inl rfl) (by omega) ?_
          refine z_getr (a := 3) (b := 5) (l := [78, 7]) h43 rfl (fun r12 g_r12 => ?_)
          refine z_iload h43 rfl rfl (Or.inl rfl) ?_
          refine z_iconst h43 rfl ?_
          refine z_iast h43 rfl (fun M13 => ?_)
          refine z_iload h43 rfl rfl (Or.inr rfl) ?_
          refine Rz.esc (t := fun j14 => (64, [zr self, zr a1, zU, zi a3, zi 1], [], j14, K)) ?_ (fun j14 => ?_)
          · refine z_ifeq h43 rfl ?_ ?_
            · refine z_aload h43 rfl rfl (Or.inl rfl) (by omega) ?_
              refine z_iconst h43 rfl ?_
              refine z_cv (a := 44) (b := 0) (l := [65, 2, 5, 9]) (as := [zi 1]) (lsE := [zr self, zi 1, zU]) (st' := []) (val := fun p => some (zi p.1)) (mem := fun p => p.2) h43 rfl ⟨rfl, rfl, rfl, Nat.le_of_ble_eq_true rfl, Nat.le_of_ble_eq_true rfl, rfl⟩ (fun g1 => (t_qrd_takeRow X n K M13 self 1 (by omega))) (fun p39 => ?_)
              refine z_ifne h43 rfl ?_ ?_
              · refine z_kill h43 rfl (ls' := [zU, zU, zU, zU, zU]) rfl ?_
                refine z_iconst h43 rfl ?_
                exact z_zret h43 rfl (Or.inl rfl) (fun _ q => q)
              · refine z_kill h43 rfl (ls' := [zr self, zr a1, zU, zi a3, zi 1]) rfl ?_
                exact Rz.here fun _ q => q
            · refine z_aload h43 rfl rfl (Or.inl rfl) (by omega) ?_
              refine z_iconst h43 rfl ?_
              refine z_iconst h43 rfl ?_
              refine z_cv (a := 45) (b := 0) (l := [81, 3, 5, 9]) (as := [zi 0, zi 999]) (lsE := [zr self, zi 0, zi 999]) (st' := []) (val := fun p => some (zi p.1)) (mem := fun p => p.2) h43 rfl ⟨rfl, rfl, rfl, Nat.le_of_ble_eq_true rfl, Nat.le_of_ble_eq_true rfl, rfl⟩ (fun g1 => (t_qrd_takeNumber X n K M13 self 0 999 (by omega))) (fun p40 => ?_)
              refine z_ifeq h43 rfl ?_ ?_
              · refine z_kill h43 rfl (ls' := [zU, zU, zU, zU, zU]) rfl ?_
                refine z_iconst h43 rfl ?_
                exact z_zret h43 rfl (Or.inl rfl) (fun _ q => q)
              · refine z_goto h43 rfl ?_
                refine z_kill h43 rfl (ls' := [zr self, zr a1, zU, zi a3, zi 1]) rfl ?_
                exact Rz.here fun _ q => q
          · (try dsimp only)
            refine z_aload h43 rfl rfl (Or.inl rfl) (by omega) ?_
            refine z_getr (a := 3) (b := 2) (l := [85, 7]) h43 rfl (fun r15 g_r15 => ?_)
            refine z_iload h43 rfl rfl (Or.inl rfl) ?_
            refine z_aload h43 rfl rfl (Or.inl rfl) (by omega) ?_
            refine z_getf (a := 5) (b := 8) (l := [72, 9]) h43 rfl (fun v16 => ?_)
            refine z_iast h43 rfl (fun M17 => ?_)
            refine z_iload h43 rfl rfl (Or.inr rfl) ?_
            refine Rz.esc (t := fun j18 => (84, [zr self, zr a1, zU, zi a3, zi 1], [], j18, K)) ?_ (fun j18 => ?_)
            · refine z_ifeq h43 rfl ?_ ?_
              · refine z_aload h43 rfl rfl (Or.inl rfl) (by omega) ?_
                refine z_iconst h43 rfl ?_
                refine z_cv (a := 44) (b := 0) (l := [65, 2, 5, 9]) (as := [zi 1]) (lsE := [zr self, zi 1, zU]) (st' := []) (val := fun p => some (zi p.1)) (mem := fun p => p.2) h43 rfl ⟨rfl, rfl, rfl, Nat.le_of_ble_eq_true rfl, Nat.le_of_ble_eq_true rfl, rfl⟩ (fun g1 => (t_qrd_takeRow X n K M17 self 1 (by omega))) (fun p37 => ?_)
                refine z_ifne h43 rfl ?_ ?_
                · refine z_kill h43 rfl (ls' := [zU, zU, zU, zU, zU]) rfl ?_
                  refine z_iconst h43 rfl ?_
                  exact z_zret h43 rfl (Or.inl rfl) (fun _ q => q)
                · refine z_kill h43 rfl (ls' := [zr self, zr a1, zU, zi a3, zi 1]) rfl ?_
                  exact Rz.here fun _ q => q
              · refine z_aload h43 rfl rfl (Or.inl rfl) (by omega) ?_
                refine z_iconst h43 rfl ?_
                refine z_iconst h43 rfl ?_
                refine z_cv (a := 45) (b := 0) (l := [81, 3, 5, 9]) (as := [zi 1, zi 99]) (lsE := [zr self, zi 1, zi 99]) (st' := []) (val := fun p => some (zi p.1)) (mem := fun p => p.2) h43 rfl ⟨rfl, rfl, rfl, Nat.le_of_ble_eq_true rfl, Nat.le_of_ble_eq_true rfl, rfl⟩ (fun g1 => (t_qrd_takeNumber X n K M17 self 1 99 (by omega))) (fun p38 => ?_)
                refine z_ifeq h43 rfl ?_ ?_
                · refine z_kill h43 rfl (ls' := [zU, zU, zU, zU, zU]) rfl ?_
                  refine z_iconst h43 rfl ?_
                  exact z_zret h43 rfl (Or.inl rfl) (fun _ q => q)
                · refine z_goto h43 rfl ?_
                  refine z_kill h43 rfl (ls' := [zr self, zr a1, zU, zi a3, zi 1]) rfl ?_
                  exact Rz.here fun _ q => q
            · (try dsimp only)
              refine z_aload h43 rfl rfl (Or.inl rfl) (by omega) ?_
              refine z_getr (a := 3) (b := 3) (l := [88, 7]) h43 rfl (fun r19 g_r19 => ?_)
              refine z_iload h43 rfl rfl (Or.inl rfl) ?_
              refine z_aload h43 rfl rfl (Or.inl rfl) (by omega) ?_
              refine z_getf (a := 5) (b := 8) (l := [72, 9]) h43 rfl (fun v20 => ?_)
              refine z_iast h43 rfl (fun M21 => ?_)
              refine z_iload h43 rfl rfl (Or.inr rfl) ?_
              refine Rz.bind (t := fun j22 => (114, [zr self, zU, zU, zU, zU], [], j22, K)) ?_ (fun j22 => ?_)
              · refine z_ifne h43 rfl ?_ ?_
                · refine z_aload h43 rfl rfl (Or.inl rfl) (by omega) ?_
                  refine z_getr (a := 3) (b := 4) (l := [75, 7]) h43 rfl (fun r25 g_r25 => ?_)
                  refine z_iload h43 rfl rfl (Or.inl rfl) ?_
                  refine z_aload h43 rfl rfl (Or.inl rfl) (by omega) ?_
                  refine z_getr (a := 5) (b := 1) (l := [15, 9]) h43 rfl (fun r26 g_r26 => ?_)
                  refine z_aload h43 rfl rfl (Or.inl rfl) (by omega) ?_
                  refine z_getr (a := 3) (b := 2) (l := [85, 7]) h43 rfl (fun r27 g_r27 => ?_)
                  refine z_iload h43 rfl rfl (Or.inl rfl) ?_
                  refine z_iald h43 rfl (fun v28 => ?_)
                  refine z_iald h43 rfl (fun v29 => ?_)
                  refine z_iast h43 rfl (fun M30 => ?_)
                  refine z_aload h43 rfl rfl (Or.inl rfl) (by omega) ?_
                  refine z_getr (a := 3) (b := 5) (l := [78, 7]) h43 rfl (fun r31 g_r31 => ?_)
                  refine z_iload h43 rfl rfl (Or.inl rfl) ?_
                  refine z_aload h43 rfl rfl (Or.inl rfl) (by omega) ?_
                  refine z_getr (a := 5) (b := 1) (l := [15, 9]) h43 rfl (fun r32 g_r32 => ?_)
                  refine z_aload h43 rfl rfl (Or.inl rfl) (by omega) ?_
                  refine z_getr (a := 3) (b := 3) (l := [88, 7]) h43 rfl (fun r33 g_r33 => ?_)
                  refine z_iload h43 rfl rfl (Or.inl rfl) ?_
                  refine z_iald h43 rfl (fun v34 => ?_)
                  refine z_iald h43 rfl (fun v35 => ?_)
                  refine z_iast h43 rfl (fun M36 => ?_)
                  refine z_kill h43 rfl (ls' := [zr self, zU, zU, zU, zU]) rfl ?_
                  exact Rz.here fun _ q => q
                · refine z_kill h43 rfl (ls' := [zr self, zU, zU, zU, zU]) rfl ?_
                  exact Rz.here fun _ q => q
              · (try dsimp only)
                refine z_aload h43 rfl rfl (Or.inl rfl) (by omega) ?_
                refine z_cv (a := 46) (b := 0) (l := [91, 1, 5, 9]) (as := []) (lsE := [zr self]) (st' := []) (val := fun p => some (zi p.1)) (mem := fun p => p.2) h43 rfl ⟨rfl, rfl, rfl, Nat.le_of_ble_eq_true rfl, Nat.le_of_ble_eq_true rfl, rfl⟩ (fun g1 => (t_qrd_takeMark X n K j22 self (by omega))) (fun p23 => ?_)
                exact z_zretb h43 rfl (fun z hz P q => by cases hz; exact q)
set_option maxRecDepth 20000 in
theorem t_qrd_readInto (X : Int × (Int → Int)) (n : Nat) (K : zK) (M : zM) (self a1 : Int) (g_self : 1 ≤ self) (g_a1 : 1 ≤ a1) : Rz X 42 (0, [zr self, zr a1, zU, zU], [], M, K) (qrd_readInto n K M self a1) (fun e P => P (some (zi e.1), e.2, K)) := by
  have h42 : zT 42 = zt42 := rfl
  unfold qrd_readInto
  refine z_aload h42 rfl rfl (Or.inl rfl) (by omega) ?_
  refine z_iconst h42 rfl ?_
  refine z_putf (a := 5) (b := 5) (l := [29, 9]) h42 rfl (fun M1 => ?_)
  refine z_aload h42 rfl rfl (Or.inl rfl) (by omega) ?_
  refine z_iconst h42 rfl ?_
  refine z_putf (a := 5) (b := 3) (l := [23, 9]) h42 rfl (fun M2 => ?_)
  refine z_aload h42 rfl rfl (Or.inl rfl) (by omega) ?_
  refine z_iconst h42 rfl ?_
  refine z_putf (a := 5) (b := 4) (l := [26, 9]) h42 rfl (fun M3 => ?_)
  refine z_aload h42 rfl rfl (Or.inl rfl) (by omega) ?_
  refine z_iconst h42 rfl ?_
  refine z_putf (a := 3) (b := 6) (l := [32, 7]) h42 rfl (fun M4 => ?_)
  refine z_aload h42 rfl rfl (Or.inl rfl) (by omega) ?_
  refine z_getr (a := 5) (b := 1) (l := [15, 9]) h42 rfl (fun r5 g_r5 => ?_)
  refine z_iconst h42 rfl ?_
  refine z_cs (a := 1) (b := 0) (l := [37, 2]) (as := [zr r5, zi (-1)]) (lsE := [zr r5, zi (-1), zU, zU]) (st' := []) (val := fun _ => none) (mem := fun p => p) h42 rfl ⟨rfl, rfl, rfl, Nat.le_of_ble_eq_true rfl, Nat.le_of_ble_eq_true rfl, rfl⟩ (t_qar_fillI X n K M4 r5 (-1) (by omega)) (fun M6 => ?_)
  refine z_iconst h42 rfl ?_
  refine z_istore h42 rfl (Or.inl rfl) (ls' := [zr self, zr a1, zi 0, zU]) rfl ?_
  refine z_kill h42 rfl (ls' := [zr self, zr a1, zi 0, zU]) rfl ?_
  refine Rz.wh (hd := fun s7 => (18, [zr self, zr a1, zi s7.1, zU], [], s7.2, K)) (fun s7 => ?_) n (0, M6)
  (try dsimp only)
  refine z_iload h42 rfl rfl (Or.inl rfl) ?_
  refine z_iconst h42 rfl ?_
  refine z_icgt h42 rfl ?_ ?_
  · refine z_iconst h42 rfl ?_
    exact z_zret h42 rfl (Or.inl rfl) (fun _ q => q)
  · refine z_aload h42 rfl rfl (Or.inl rfl) (by omega) ?_
    refine z_cv (a := 47) (b := 0) (l := [43, 1, 5, 9]) (as := []) (lsE := [zr self]) (st' := []) (val := fun p => some (zi p.1)) (mem := fun p => p.2) h42 rfl ⟨rfl, rfl, rfl, Nat.le_of_ble_eq_true rfl, Nat.le_of_ble_eq_true rfl, rfl⟩ (fun g1 => (t_qrd_takeToken X n K s7.2 self (by omega))) (fun p8 => ?_)
    refine z_ifne h42 rfl ?_ ?_
    · refine z_iconst h42 rfl ?_
      exact z_zret h42 rfl (Or.inl rfl) (fun _ q => q)
    · refine z_aload h42 rfl rfl (Or.inl rfl) (by omega) ?_
      refine z_getf (a := 5) (b := 6) (l := [47, 9]) h42 rfl (fun v9 => ?_)
      refine z_ifne h42 rfl ?_ ?_
      · refine z_iconst h42 rfl ?_
        exact z_zret h42 rfl (Or.inr rfl) (fun _ q => q)
      · refine z_aload h42 rfl rfl (Or.inl rfl) (by omega) ?_
        refine z_cv (a := 49) (b := 0) (l := [50, 1, 5, 9]) (as := []) (lsE := [zr self]) (st' := []) (val := fun p => some (zi p)) (mem := fun _ => p8.2) h42 rfl ⟨rfl, rfl, rfl, Nat.le_of_ble_eq_true rfl, Nat.le_of_ble_eq_true rfl, rfl⟩ (fun g1 => (t_qrd_kindNamed X n K p8.2 self (by omega))) (fun v10 => ?_)
        refine z_istore h42 rfl (Or.inl rfl) (ls' := [zr self, zr a1, zi s7.1, zi v10]) rfl ?_
        refine z_iload h42 rfl rfl (Or.inl rfl) ?_
        refine z_ifge h42 rfl ?_ ?_
        · refine z_iload h42 rfl rfl (Or.inl rfl) ?_
          refine z_iconst h42 rfl ?_
          refine z_icne h42 rfl ?_ ?_
          · refine z_aload h42 rfl rfl (Or.inl rfl) (by omega) ?_
            refine z_iconst h42 rfl ?_
            refine z_cv (a := 53) (b := 0) (l := [54, 2, 5, 9]) (as := [zi 5]) (lsE := [zr self, zi 5]) (st' := []) (val := fun p => some (zi p.1)) (mem := fun p => p.2) h42 rfl ⟨rfl, rfl, rfl, Nat.le_of_ble_eq_true rfl, Nat.le_of_ble_eq_true rfl, rfl⟩ (fun g1 => (t_qrd_refuse X K p8.2 self 5 (by omega))) (fun p11 => ?_)
            exact z_zretb h42 rfl (fun z hz P q => by cases hz; exact q)
          · refine z_aload h42 rfl rfl (Or.inl rfl) (by omega) ?_
            refine z_aload h42 rfl rfl (Or.inl rfl) (by omega) ?_
            refine z_iload h42 rfl rfl (Or.inl rfl) ?_
            refine z_iload h42 rfl rfl (Or.inl rfl) ?_
            refine z_cv (a := 43) (b := 0) (l := [58, 4, 5, 9]) (as := [zr a1, zi v10, zi s7.1]) (lsE := [zr self, zr a1, zi v10, zi s7.1, zU]) (st' := []) (val := fun p => some (zi p.1)) (mem := fun p => p.2) h42 rfl ⟨rfl, rfl, rfl, Nat.le_of_ble_eq_true rfl, Nat.le_of_ble_eq_true rfl, rfl⟩ (fun g1 => (t_qrd_readLine X n K p8.2 self a1 v10 s7.1 (by omega) (by omega))) (fun p13 => ?_)
            refine z_ifne h42 rfl ?_ ?_
            · refine z_iconst h42 rfl ?_
              exact z_zret h42 rfl (Or.inl rfl) (fun _ q => q)
            · refine z_aload h42 rfl rfl (Or.inl rfl) (by omega) ?_
              refine z_iload h42 rfl rfl (Or.inl rfl) ?_
              refine z_iconst h42 rfl ?_
              refine z_iadd h42 rfl ?_
              refine z_putf (a := 3) (b := 6) (l := [32, 7]) h42 rfl (fun M14 => ?_)
              refine z_iload h42 rfl rfl (Or.inl rfl) ?_
              refine z_iconst h42 rfl ?_
              refine Rz.bind (t := fun j15 => (71, [zr self, zr a1, zi s7.1, zU], [], j15, K)) ?_ (fun j15 => ?_)
              · refine z_iceq h42 rfl ?_ ?_
                · refine z_kill h42 rfl (ls' := [zr self, zr a1, zi s7.1, zU]) rfl ?_
                  exact Rz.here fun _ q => q
                · refine z_aload h42 rfl rfl (Or.inl rfl) (by omega) ?_
                  refine z_getr (a := 5) (b := 1) (l := [15, 9]) h42 rfl (fun r16 g_r16 => ?_)
                  refine z_aload h42 rfl rfl (Or.inl rfl) (by omega) ?_
                  refine z_getr (a := 3) (b := 1) (l := [62, 7]) h42 rfl (fun r17 g_r17 => ?_)
                  refine z_iload h42 rfl rfl (Or.inl rfl) ?_
                  refine z_iald h42 rfl (fun v18 => ?_)
                  refine z_iload h42 rfl rfl (Or.inl rfl) ?_
                  refine z_iast h42 rfl (fun M19 => ?_)
                  refine z_kill h42 rfl (ls' := [zr self, zr a1, zi s7.1, zU]) rfl ?_
                  exact Rz.here fun _ q => q
              · (try dsimp only)
                refine z_iinc h42 rfl rfl (ls' := [zr self, zr a1, zi (s7.1 + 1), zU]) rfl ?_
                refine z_goto h42 rfl ?_
                refine z_kill h42 rfl (ls' := [zr self, zr a1, zi (s7.1 + 1), zU]) rfl ?_
                exact Rz.here fun _ q => q
        · refine z_aload h42 rfl rfl (Or.inl rfl) (by omega) ?_
          refine z_iconst h42 rfl ?_
          refine z_cv (a := 53) (b := 0) (l := [54, 2, 5, 9]) (as := [zi 2]) (lsE := [zr self, zi 2]) (st' := []) (val := fun p => some (zi p.1)) (mem := fun p => p.2) h42 rfl ⟨rfl, rfl, rfl, Nat.le_of_ble_eq_true rfl, Nat.le_of_ble_eq_true rfl, rfl⟩ (fun g1 => (t_qrd_refuse X K p8.2 self 2 (by omega))) (fun p20 => ?_)
          exact z_zretb h42 rfl (fun z hz P q => by cases hz; exact q)
set_option maxRecDepth 20000 in
theorem t_qsh_become (X : Int × (Int → Int)) (K : zK) (M : zM) (self a1 a2 a3 : Int) (g_self : 1 ≤ self) : Rz X 55 (0, [zr self, zi a1, zi a2, zi a3], [], M, K) (qsh_become K M self a1 a2 a3) (fun e P => P (none, e, K)) := by
  have h55 : zT 55 = zt55 := rfl
  unfold qsh_become
  refine z_aload h55 rfl rfl (Or.inl rfl) (by omega) ?_
  refine z_iload h55 rfl rfl (Or.inl rfl) ?_
  refine z_putf (a := 6) (b := 0) (l := [11, 3]) h55 rfl (fun M1 => ?_)
  refine z_aload h55 rfl rfl (Or.inl rfl) (by omega) ?_
  refine z_iload h55 rfl rfl (Or.inl rfl) ?_
  refine z_putf (a := 6) (b := 1) (l := [15, 3]) h55 rfl (fun M2 => ?_)
  refine z_aload h55 rfl rfl (Or.inl rfl) (by omega) ?_
  refine z_iload h55 rfl rfl (Or.inl rfl) ?_
  refine z_putf (a := 6) (b := 2) (l := [18, 3]) h55 rfl (fun M3 => ?_)
  exact z_vret h55 rfl (fun _ q => q)
set_option maxRecDepth 20000 in
theorem t_qsh_beatsAt (X : Int × (Int → Int)) (n : Nat) (K : zK) (M : zM) (self a1 a2 a3 a4 : Int) (g_self : 1 ≤ self) (g_a1 : 1 ≤ a1) (g_a4 : 1 ≤ a4) : Rz X 60 (0, [zr self, zr a1, zi a2, zi a3, zr a4, zU, zU, zU], [], M, K) (qsh_beatsAt n K M self a1 a2 a3 a4) (fun e P => P (some (zi e.1), e.2, K)) := by
  have h60 : zT 60 = zt60 := rfl
  unfold qsh_beatsAt
  refine z_aload h60 rfl rfl (Or.inr rfl) (by omega) ?_
  refine z_iconst h60 rfl ?_
  refine z_cs (a := 1) (b := 0) (l := [38, 2]) (as := [zr a4, zi 0]) (lsE := [zr a4, zi 0, zU, zU]) (st' := []) (val := fun _ => none) (mem := fun p => p) h60 rfl ⟨rfl, rfl, rfl, Nat.le_of_ble_eq_true rfl, Nat.le_of_ble_eq_true rfl, rfl⟩ (t_qar_fillI X n K M a4 0 (by omega)) (fun M1 => ?_)
  refine z_iconst h60 rfl ?_
  refine z_istore h60 rfl (Or.inr rfl) (ls' := [zr self, zr a1, zi a2, zi a3, zr a4, zi 0, zU, zU]) rfl ?_
  refine z_iconst h60 rfl ?_
  refine z_istore h60 rfl (Or.inr rfl) (ls' := [zr self, zr a1, zi a2, zi a3, zr a4, zi 0, zi 0, zU]) rfl ?_
  refine z_kill h60 rfl (ls' := [zr self, zr a1, zi a2, zi a3, zr a4, zi 0, zi 0, zU]) rfl ?_
  refine Rz.wh (hd := fun s2 => (7, [zr self, zr a1, zi a2, zi a3, zr a4, zi s2.1, zi s2.2.1, zU], [], s2.2.2, K)) (fun s2 => ?_) n (0, 0, M1)
  (try dsimp only)
  refine z_iload h60 rfl rfl (Or.inr rfl) ?_
  refine z_aload h60 rfl rfl (Or.inl rfl) (by omega) ?_
  refine z_cv (a := 56) (b := 0) (l := [21, 1, 6, 3]) (as := []) (lsE := [zr self]) (st' := [zi s2.2.1]) (val := fun p => some (zi p)) (mem := fun _ => s2.2.2) h60 rfl ⟨rfl, rfl, rfl, Nat.le_of_ble_eq_true rfl, Nat.le_of_ble_eq_true rfl, rfl⟩ (fun g1 => (t_qsh_size X K s2.2.2 self (by omega))) (fun v3 => ?_)
  refine z_icge h60 rfl ?_ ?_
  · refine z_iload h60 rfl rfl (Or.inr rfl) ?_
    exact z_iret h60 rfl (fun _ q => q)
  · refine z_aload h60 rfl rfl (Or.inl rfl) (by omega) ?_
    refine z_iload h60 rfl rfl (Or.inl rfl) ?_
    refine z_aload h60 rfl rfl (Or.inl rfl) (by omega) ?_
    refine z_iload h60 rfl rfl (Or.inr rfl) ?_
    refine z_cv (a := 57) (b := 0) (l := [31, 2, 6, 3]) (as := [zi s2.2.1]) (lsE := [zr self, zi s2.2.1]) (st' := [zi a2, zr a1]) (val := fun p => some (zi p)) (mem := fun _ => s2.2.2) h60 rfl ⟨rfl, rfl, rfl, Nat.le_of_ble_eq_true rfl, Nat.le_of_ble_eq_true rfl, rfl⟩ (fun g1 => (t_qsh_rowsDown X K s2.2.2 self s2.2.1 (by omega))) (fun v4 => ?_)
    refine z_iadd h60 rfl ?_
    refine z_iload h60 rfl rfl (Or.inl rfl) ?_
    refine z_aload h60 rfl rfl (Or.inl rfl) (by omega) ?_
    refine z_iload h60 rfl rfl (Or.inr rfl) ?_
    refine z_cv (a := 58) (b := 0) (l := [35, 2, 6, 3]) (as := [zi s2.2.1]) (lsE := [zr self, zi s2.2.1]) (st' := [zi a3, zi (a2 + v4), zr a1]) (val := fun p => some (zi p)) (mem := fun _ => s2.2.2) h60 rfl ⟨rfl, rfl, rfl, Nat.le_of_ble_eq_true rfl, Nat.le_of_ble_eq_true rfl, rfl⟩ (fun g1 => (t_qsh_columnsRight X K s2.2.2 self s2.2.1 (by omega))) (fun v5 => ?_)
    refine z_iadd h60 rfl ?_
    refine z_cv (a := 26) (b := 0) (l := [44, 3, 2, 7]) (as := [zi (a2 + v4), zi (a3 + v5)]) (lsE := [zr a1, zi (a2 + v4), zi (a3 + v5), zU]) (st' := []) (val := fun p => some (zi p)) (mem := fun _ => s2.2.2) h60 rfl ⟨rfl, rfl, rfl, Nat.le_of_ble_eq_true rfl, Nat.le_of_ble_eq_true rfl, rfl⟩ (fun g1 => (t_qla_bankAt X K s2.2.2 a1 (a2 + v4) (a3 + v5) (by omega))) (fun v6 => ?_)
    refine z_istore h60 rfl (Or.inr rfl) (ls' := [zr self, zr a1, zi a2, zi a3, zr a4, zi s2.1, zi s2.2.1, zi v6]) rfl ?_
    refine z_aload h60 rfl rfl (Or.inr rfl) (by omega) ?_
    refine z_iload h60 rfl rfl (Or.inr rfl) ?_
    refine z_dup2 h60 rfl ?_
    refine z_iald h60 rfl (fun v7 => ?_)
    refine z_iconst h60 rfl ?_
    refine z_iadd h60 rfl ?_
    refine z_iast h60 rfl (fun M8 => ?_)
    refine z_iload h60 rfl rfl (Or.inr rfl) ?_
    refine z_aload h60 rfl rfl (Or.inr rfl) (by omega) ?_
    refine z_iload h60 rfl rfl (Or.inr rfl) ?_
    refine z_iald h60 rfl (fun v9 => ?_)
    refine z_mmax h60 rfl rfl ?_
    refine z_istoreL (lsf := fun x10 => [zr self, zr a1, zi a2, zi a3, zr a4, zi x10, zi s2.2.1, zi v6]) h60 rfl (Or.inr rfl) (fun _ => rfl) (fun x10 => ?_)
    (try dsimp only)
    refine z_iinc h60 rfl rfl (ls' := [zr self, zr a1, zi a2, zi a3, zr a4, zi x10, zi (s2.2.1 + 1), zi v6]) rfl ?_
    refine z_goto h60 rfl ?_
    refine z_kill h60 rfl (ls' := [zr self, zr a1, zi a2, zi a3, zr a4, zi x10, zi (s2.2.1 + 1), zU]) rfl ?_
    exact Rz.here fun _ q => q
set_option maxRecDepth 20000 in
theorem t_qsh_isSomewhere (X : Int × (Int → Int)) (n : Nat) (K : zK) (M : zM) (self a1 : Int) (g_self : 1 ≤ self) (g_a1 : 1 ≤ a1) : Rz X 62 (0, [zr self, zr a1, zU, zU], [], M, K) (qsh_isSomewhere n K M self a1) (fun e P => P (some (zi e), M, K)) := by
  have h62 : zT 62 = zt62 := rfl
  unfold qsh_isSomewhere
  refine z_iconst h62 rfl ?_
  refine z_istore h62 rfl (Or.inl rfl) (ls' := [zr self, zr a1, zi 0, zU]) rfl ?_
  refine z_kill h62 rfl (ls' := [zr self, zr a1, zi 0, zU]) rfl ?_
  refine Rz.wh (hd := fun s1 => (2, [zr self, zr a1, zi s1, zU], [], M, K)) (fun s1 => ?_) n 0
  (try dsimp only)
  refine z_iload h62 rfl rfl (Or.inl rfl) ?_
  refine z_aload h62 rfl rfl (Or.inl rfl) (by omega) ?_
  refine z_getf (a := 2) (b := 0) (l := [53, 7]) h62 rfl (fun v2 => ?_)
  refine z_icge h62 rfl ?_ ?_
  · refine z_iconst h62 rfl ?_
    exact z_zret h62 rfl (Or.inl rfl) (fun _ q => q)
  · refine z_iconst h62 rfl ?_
    refine z_istore h62 rfl (Or.inl rfl) (ls' := [zr self, zr a1, zi s1, zi 0]) rfl ?_
    refine Rz.esc (t := fun e4 => (22, [zr self, zr a1, zi s1, zi e4], [], M, K)) ?_ (fun e4 => ?_)
    · refine Rz.wh (hd := fun s3 => (8, [zr self, zr a1, zi s1, zi s3], [], M, K)) (fun s3 => ?_) n 0
      (try dsimp only)
      refine z_iload h62 rfl rfl (Or.inl rfl) ?_
      refine z_aload h62 rfl rfl (Or.inl rfl) (by omega) ?_
      refine z_getf (a := 2) (b := 1) (l := [56, 7]) h62 rfl (fun v5 => ?_)
      refine z_icge h62 rfl ?_ ?_
      · exact Rz.here fun _ q => q
      · refine z_aload h62 rfl rfl (Or.inl rfl) (by omega) ?_
        refine z_aload h62 rfl rfl (Or.inl rfl) (by omega) ?_
        refine z_iload h62 rfl rfl (Or.inl rfl) ?_
        refine z_iload h62 rfl rfl (Or.inl rfl) ?_
        refine z_cv (a := 59) (b := 0) (l := [59, 4, 6, 3]) (as := [zr a1, zi s1, zi s3]) (lsE := [zr self, zr a1, zi s1, zi s3, zU]) (st' := []) (val := fun p => some (zi p)) (mem := fun _ => M) h62 rfl ⟨rfl, rfl, rfl, Nat.le_of_ble_eq_true rfl, Nat.le_of_ble_eq_true rfl, rfl⟩ (fun g1 => (t_qsh_fits X K M self a1 s1 s3 (by omega) (by omega))) (fun v6 => ?_)
        refine z_ifeq h62 rfl ?_ ?_
        · refine z_iinc h62 rfl rfl (ls' := [zr self, zr a1, zi s1, zi (s3 + 1)]) rfl ?_
          refine z_goto h62 rfl ?_
          exact Rz.here fun _ q => q
        · refine z_iconst h62 rfl ?_
          exact z_zret h62 rfl (Or.inr rfl) (fun _ q => q)
    · (try dsimp only)
      refine z_iinc h62 rfl rfl (ls' := [zr self, zr a1, zi (s1 + 1), zi e4]) rfl ?_
      refine z_goto h62 rfl ?_
      refine z_kill h62 rfl (ls' := [zr self, zr a1, zi (s1 + 1), zU]) rfl ?_
      exact Rz.here fun _ q => q
set_option maxRecDepth 20000 in
theorem t_qst_isNothing (X : Int × (Int → Int)) (K : zK) (M : zM) (self : Int) (g_self : 1 ≤ self) : Rz X 65 (0, [zr self], [], M, K) (qst_isNothing K M self) (fun e P => P (some (zi e), M, K)) := by
  have h65 : zT 65 = zt65 := rfl
  unfold qst_isNothing
  refine z_aload h65 rfl rfl (Or.inl rfl) (by omega) ?_
  refine z_getf (a := 7) (b := 1) (l := [15, 3]) h65 rfl (fun v1 => ?_)
  refine z_ifge h65 rfl ?_ ?_
  · refine z_iconst h65 rfl ?_
    refine z_kill h65 rfl (ls' := [zU]) rfl ?_
    exact z_zret h65 rfl (Or.inl rfl) (fun _ q => q)
  · refine z_iconst h65 rfl ?_
    refine z_goto h65 rfl ?_
    refine z_kill h65 rfl (ls' := [zU]) rfl ?_
    exact z_zret h65 rfl (Or.inr rfl) (fun _ q => q)
set_option maxRecDepth 20000 in
theorem t_qst_has (X : Int × (Int → Int)) (K : zK) (M : zM) (self a1 : Int) (g_self : 1 ≤ self) : Rz X 66 (0, [zr self, zi a1], [], M, K) (qst_has K M self a1) (fun e P => P (some (zi e), M, K)) := by
  have h66 : zT 66 = zt66 := rfl
  unfold qst_has
  refine z_iload h66 rfl rfl (Or.inl rfl) ?_
  refine z_iconst h66 rfl ?_
  refine z_aload h66 rfl rfl (Or.inl rfl) (by omega) ?_
  refine z_getf (a := 7) (b := 1) (l := [15, 3]) h66 rfl (fun v1 => ?_)
  refine z_iconst h66 rfl ?_
  refine z_isub h66 rfl ?_
  refine z_cs (a := 123) (b := 1) (l := [22, 3]) (as := [zi a1, zi 0, zi (v1 - 1)]) (lsE := [zi a1, zi 0, zi (v1 - 1)]) (st' := []) (val := fun p => some (zi p)) (mem := fun _ => M) h66 rfl ⟨rfl, rfl, rfl, Nat.le_of_ble_eq_true rfl, Nat.le_of_ble_eq_true rfl, rfl⟩ (t_qbs_within X K M a1 0 (v1 - 1) ) (fun v2 => ?_)
  exact z_zretb h66 rfl (fun z hz P q => by cases hz; exact q)
set_option maxRecDepth 20000 in
theorem t_qst_renew (X : Int × (Int → Int)) (n : Nat) (K : zK) (M : zM) (self a1 a2 : Int) (g_self : 1 ≤ self) : Rz X 67 (0, [zr self, zi a1, zi a2], [], M, K) (qst_renew n K M self a1 a2) (fun e P => P (none, e, K)) := by
  have h67 : zT 67 = zt67 := rfl
  unfold qst_renew
  refine z_aload h67 rfl rfl (Or.inl rfl) (by omega) ?_
  refine z_iload h67 rfl rfl (Or.inl rfl) ?_
  refine z_putf (a := 7) (b := 2) (l := [19, 3]) h67 rfl (fun M1 => ?_)
  refine z_aload h67 rfl rfl (Or.inl rfl) (by omega) ?_
  refine z_iload h67 rfl rfl (Or.inl rfl) ?_
  refine z_putf (a := 7) (b := 1) (l := [15, 3]) h67 rfl (fun M2 => ?_)
  refine z_aload h67 rfl rfl (Or.inl rfl) (by omega) ?_
  refine z_getr (a := 7) (b := 0) (l := [9, 3]) h67 rfl (fun r3 g_r3 => ?_)
  refine z_iconst h67 rfl ?_
  refine z_cs (a := 1) (b := 0) (l := [26, 2]) (as := [zr r3, zi 0]) (lsE := [zr r3, zi 0, zU, zU]) (st' := []) (val := fun _ => none) (mem := fun p => p) h67 rfl ⟨rfl, rfl, rfl, Nat.le_of_ble_eq_true rfl, Nat.le_of_ble_eq_true rfl, rfl⟩ (t_qar_fillI X n K M2 r3 0 (by omega)) (fun M4 => ?_)
  exact z_vret h67 rfl (fun _ q => q)
set_option maxRecDepth 20000 in
theorem t_qst_put (X : Int × (Int → Int)) (K : zK) (M : zM) (self a1 a2 : Int) (g_self : 1 ≤ self) : Rz X 68 (0, [zr self, zi a1, zi a2], [], M, K) (qst_put K M self a1 a2) (fun e P => P (none, e, K)) := by
  have h68 : zT 68 = zt68 := rfl
  unfold qst_put
  refine z_aload h68 rfl rfl (Or.inl rfl) (by omega) ?_
  refine z_getf (a := 7) (b := 2) (l := [19, 3]) h68 rfl (fun v1 => ?_)
  refine z_ifne h68 rfl ?_ ?_
  · refine z_aload h68 rfl rfl (Or.inl rfl) (by omega) ?_
    refine z_getr (a := 7) (b := 0) (l := [9, 3]) h68 rfl (fun r2 g_r2 => ?_)
    refine z_iload h68 rfl rfl (Or.inl rfl) ?_
    refine z_iload h68 rfl rfl (Or.inl rfl) ?_
    refine z_ci2b h68 rfl ?_
    refine z_iast h68 rfl (fun M3 => ?_)
    refine z_goto h68 rfl ?_
    refine z_kill h68 rfl (ls' := [zU, zU, zU]) rfl ?_
    exact z_vret h68 rfl (fun _ q => q)
  · refine z_aload h68 rfl rfl (Or.inl rfl) (by omega) ?_
    refine z_getr (a := 7) (b := 0) (l := [9, 3]) h68 rfl (fun r4 g_r4 => ?_)
    refine z_iload h68 rfl rfl (Or.inl rfl) ?_
    refine z_aload h68 rfl rfl (Or.inl rfl) (by omega) ?_
    refine z_getf (a := 7) (b := 2) (l := [19, 3]) h68 rfl (fun v5 => ?_)
    refine z_iconst h68 rfl ?_
    refine Rz.bind (t := fun j6 => (21, [zU, zU, zU], [zi j6, zi a1, zr r4], M, K)) ?_ (fun j6 => ?_)
    · refine z_icne h68 rfl ?_ ?_
      · refine z_iload h68 rfl rfl (Or.inl rfl) ?_
        refine z_ci2s h68 rfl ?_
        refine z_goto h68 rfl ?_
        refine z_kill h68 rfl (ls' := [zU, zU, zU]) rfl ?_
        exact Rz.here fun _ q => q
      · refine z_iload h68 rfl rfl (Or.inl rfl) ?_
        refine z_kill h68 rfl (ls' := [zU, zU, zU]) rfl ?_
        exact Rz.here fun _ q => q
    · (try dsimp only)
      refine z_iast h68 rfl (fun M7 => ?_)
      refine z_kill h68 rfl (ls' := [zU, zU, zU]) rfl ?_
      exact z_vret h68 rfl (fun _ q => q)
set_option maxRecDepth 20000 in
theorem t_qst_refusal (X : Int × (Int → Int)) (n : Nat) (K : zK) (M : zM) (self a1 a2 : Int) (g_self : 1 ≤ self) (g_a1 : 1 ≤ a1) : Rz X 69 (0, [zr self, zr a1, zi a2, zU], [], M, K) (qst_refusal n K M self a1 a2) (fun e P => P (some (zi e), M, K)) := by
  have h69 : zT 69 = zt69 := rfl
  unfold qst_refusal
  refine z_iconst h69 rfl ?_
  refine z_istore h69 rfl (Or.inl rfl) (ls' := [zr self, zr a1, zi a2, zi 0]) rfl ?_
  refine Rz.wh (hd := fun s1 => (2, [zr self, zr a1, zi a2, zi s1], [], M, K)) (fun s1 => ?_) n 0
  (try dsimp only)
  refine z_iload h69 rfl rfl (Or.inl rfl) ?_
  refine z_aload h69 rfl rfl (Or.inl rfl) (by omega) ?_
  refine z_cv (a := 25) (b := 0) (l := [32, 1, 2, 7]) (as := []) (lsE := [zr a1]) (st' := [zi s1]) (val := fun p => some (zi p)) (mem := fun _ => M) h69 rfl ⟨rfl, rfl, rfl, Nat.le_of_ble_eq_true rfl, Nat.le_of_ble_eq_true rfl, rfl⟩ (fun g1 => (t_qla_cellCount X K M a1 (by omega))) (fun v2 => ?_)
  refine z_icge h69 rfl ?_ ?_
  · refine z_iconst h69 rfl ?_
    exact z_iret h69 rfl (fun _ q => q)
  · refine z_aload h69 rfl rfl (Or.inl rfl) (by omega) ?_
    refine z_iload h69 rfl rfl (Or.inl rfl) ?_
    refine z_iload h69 rfl rfl (Or.inl rfl) ?_
    refine z_iadd h69 rfl ?_
    refine z_cv (a := 66) (b := 0) (l := [38, 2, 7, 3]) (as := [zi (a2 + s1)]) (lsE := [zr self, zi (a2 + s1)]) (st' := []) (val := fun p => some (zi p)) (mem := fun _ => M) h69 rfl ⟨rfl, rfl, rfl, Nat.le_of_ble_eq_true rfl, Nat.le_of_ble_eq_true rfl, rfl⟩ (fun g1 => (t_qst_has X K M self (a2 + s1) (by omega))) (fun v3 => ?_)
    refine z_ifne h69 rfl ?_ ?_
    · refine z_iconst h69 rfl ?_
      exact z_iret h69 rfl (fun _ q => q)
    · refine z_aload h69 rfl rfl (Or.inl rfl) (by omega) ?_
      refine z_getr (a := 7) (b := 0) (l := [9, 3]) h69 rfl (fun r4 g_r4 => ?_)
      refine z_iload h69 rfl rfl (Or.inl rfl) ?_
      refine z_iload h69 rfl rfl (Or.inl rfl) ?_
      refine z_iadd h69 rfl ?_
      refine z_iald h69 rfl (fun v5 => ?_)
      refine z_iconst h69 rfl ?_
      refine z_aload h69 rfl rfl (Or.inl rfl) (by omega) ?_
      refine z_getf (a := 2) (b := 2) (l := [42, 7]) h69 rfl (fun v6 => ?_)
      refine z_iconst h69 rfl ?_
      refine z_isub h69 rfl ?_
      refine z_cs (a := 123) (b := 1) (l := [22, 3]) (as := [zi v5, zi 0, zi (v6 - 1)]) (lsE := [zi v5, zi 0, zi (v6 - 1)]) (st' := []) (val := fun p => some (zi p)) (mem := fun _ => M) h69 rfl ⟨rfl, rfl, rfl, Nat.le_of_ble_eq_true rfl, Nat.le_of_ble_eq_true rfl, rfl⟩ (t_qbs_within X K M v5 0 (v6 - 1) ) (fun v7 => ?_)
      refine z_ifne h69 rfl ?_ ?_
      · refine z_iconst h69 rfl ?_
        refine z_iload h69 rfl rfl (Or.inl rfl) ?_
        refine z_isub h69 rfl ?_
        exact z_iret h69 rfl (fun _ q => q)
      · refine z_iinc h69 rfl rfl (ls' := [zr self, zr a1, zi a2, zi (s1 + 1)]) rfl ?_
        refine z_goto h69 rfl ?_
        exact Rz.here fun _ q => q
set_option maxRecDepth 20000 in
theorem t_qst_copyTo (X : Int × (Int → Int)) (n : Nat) (K : zK) (M : zM) (self a1 a2 : Int) (g_self : 1 ≤ self) (g_a1 : 1 ≤ a1) : Rz X 70 (0, [zr self, zr a1, zi a2, zU, zU, zU], [], M, K) (qst_copyTo n K M self a1 a2) (fun e P => P (some (zi e.1), e.2, K)) := by
  have h70 : zT 70 = zt70 := rfl
  unfold qst_copyTo
  refine z_iconst h70 rfl ?_
  refine z_istore h70 rfl (Or.inl rfl) (ls' := [zr self, zr a1, zi a2, zi 0, zU, zU]) rfl ?_
  refine z_iconst h70 rfl ?_
  refine z_istore h70 rfl (Or.inr rfl) (ls' := [zr self, zr a1, zi a2, zi 0, zi 0, zU]) rfl ?_
  refine z_kill h70 rfl (ls' := [zr self, zr a1, zi a2, zi 0, zi 0, zU]) rfl ?_
  refine Rz.wh (hd := fun s1 => (4, [zr self, zr a1, zi a2, zi s1.1, zi s1.2.1, zU], [], s1.2.2, K)) (fun s1 => ?_) n (0, 0, M)
  (try dsimp only)
  refine z_iload h70 rfl rfl (Or.inr rfl) ?_
  refine z_aload h70 rfl rfl (Or.inl rfl) (by omega) ?_
  refine z_cv (a := 25) (b := 0) (l := [32, 1, 2, 7]) (as := []) (lsE := [zr a1]) (st' := [zi s1.2.1]) (val := fun p => some (zi p)) (mem := fun _ => s1.2.2) h70 rfl ⟨rfl, rfl, rfl, Nat.le_of_ble_eq_true rfl, Nat.le_of_ble_eq_true rfl, rfl⟩ (fun g1 => (t_qla_cellCount X K s1.2.2 a1 (by omega))) (fun v2 => ?_)
  refine z_icge h70 rfl ?_ ?_
  · refine z_kill h70 rfl (ls' := [zU, zU, zU, zi s1.1, zU, zU]) rfl ?_
    refine z_iload h70 rfl rfl (Or.inl rfl) ?_
    exact z_iret h70 rfl (fun _ q => q)
  · refine z_aload h70 rfl rfl (Or.inl rfl) (by omega) ?_
    refine z_iload h70 rfl rfl (Or.inl rfl) ?_
    refine z_iload h70 rfl rfl (Or.inr rfl) ?_
    refine z_iadd h70 rfl ?_
    refine z_cv (a := 66) (b := 0) (l := [38, 2, 7, 3]) (as := [zi (a2 + s1.2.1)]) (lsE := [zr self, zi (a2 + s1.2.1)]) (st' := []) (val := fun p => some (zi p)) (mem := fun _ => s1.2.2) h70 rfl ⟨rfl, rfl, rfl, Nat.le_of_ble_eq_true rfl, Nat.le_of_ble_eq_true rfl, rfl⟩ (fun g1 => (t_qst_has X K s1.2.2 self (a2 + s1.2.1) (by omega))) (fun v3 => ?_)
    refine z_ifeq h70 rfl ?_ ?_
    · refine z_kill h70 rfl (ls' := [zU, zU, zU, zi s1.1, zU, zU]) rfl ?_
      refine z_iload h70 rfl rfl (Or.inl rfl) ?_
      exact z_iret h70 rfl (fun _ q => q)
    · refine z_iload h70 rfl rfl (Or.inr rfl) ?_
      refine z_aload h70 rfl rfl (Or.inl rfl) (by omega) ?_
      refine z_getf (a := 2) (b := 1) (l := [45, 7]) h70 rfl (fun v4 => ?_)
      refine z_div h70 rfl (fun v5 => ?_)
      refine z_iload h70 rfl rfl (Or.inr rfl) ?_
      refine z_aload h70 rfl rfl (Or.inl rfl) (by omega) ?_
      refine z_getf (a := 2) (b := 1) (l := [45, 7]) h70 rfl (fun v6 => ?_)
      refine z_rem h70 rfl (fun v7 => ?_)
      refine z_cs (a := 126) (b := 1) (l := [48, 2]) (as := [zi v5, zi v7]) (lsE := [zi v5, zi v7]) (st' := []) (val := fun p => some (zi p)) (mem := fun _ => s1.2.2) h70 rfl ⟨rfl, rfl, rfl, Nat.le_of_ble_eq_true rfl, Nat.le_of_ble_eq_true rfl, rfl⟩ (t_qbs_spot X K s1.2.2 v5 v7 ) (fun v8 => ?_)
      refine z_istore h70 rfl (Or.inr rfl) (ls' := [zr self, zr a1, zi a2, zi s1.1, zi s1.2.1, zi v8]) rfl ?_
      refine z_iload h70 rfl rfl (Or.inl rfl) ?_
      refine z_aload h70 rfl rfl (Or.inl rfl) (by omega) ?_
      refine z_getr (a := 2) (b := 6) (l := [52, 7]) h70 rfl (fun r9 g_r9 => ?_)
      refine z_iload h70 rfl rfl (Or.inr rfl) ?_
      refine z_iald h70 rfl (fun v10 => ?_)
      refine z_aload h70 rfl rfl (Or.inl rfl) (by omega) ?_
      refine z_getr (a := 7) (b := 0) (l := [9, 3]) h70 rfl (fun r11 g_r11 => ?_)
      refine z_iload h70 rfl rfl (Or.inl rfl) ?_
      refine z_iload h70 rfl rfl (Or.inr rfl) ?_
      refine z_iadd h70 rfl ?_
      refine z_iald h70 rfl (fun v12 => ?_)
      refine Rz.bind (t := fun j13 => (39, [zr self, zr a1, zi a2, zU, zi s1.2.1, zi v8], [zi j13, zi s1.1], s1.2.2, K)) ?_ (fun j13 => ?_)
      · refine z_iceq h70 rfl ?_ ?_
        · refine z_iconst h70 rfl ?_
          refine z_kill h70 rfl (ls' := [zr self, zr a1, zi a2, zU, zi s1.2.1, zi v8]) rfl ?_
          exact Rz.here fun _ q => q
        · refine z_iconst h70 rfl ?_
          refine z_goto h70 rfl ?_
          refine z_kill h70 rfl (ls' := [zr self, zr a1, zi a2, zU, zi s1.2.1, zi v8]) rfl ?_
          exact Rz.here fun _ q => q
      · (try dsimp only)
        refine z_iadd h70 rfl ?_
        refine z_istoreL (lsf := fun x14 => [zr self, zr a1, zi a2, zi x14, zi s1.2.1, zi v8]) h70 rfl (Or.inl rfl) (fun _ => rfl) (fun x14 => ?_)
        (try dsimp only)
        refine z_aload h70 rfl rfl (Or.inl rfl) (by omega) ?_
        refine z_getr (a := 2) (b := 6) (l := [52, 7]) h70 rfl (fun r15 g_r15 => ?_)
        refine z_iload h70 rfl rfl (Or.inr rfl) ?_
        refine z_aload h70 rfl rfl (Or.inl rfl) (by omega) ?_
        refine z_getr (a := 7) (b := 0) (l := [9, 3]) h70 rfl (fun r16 g_r16 => ?_)
        refine z_iload h70 rfl rfl (Or.inl rfl) ?_
        refine z_iload h70 rfl rfl (Or.inr rfl) ?_
        refine z_iadd h70 rfl ?_
        refine z_iald h70 rfl (fun v17 => ?_)
        refine z_iast h70 rfl (fun M18 => ?_)
        refine z_iinc h70 rfl rfl (ls' := [zr self, zr a1, zi a2, zi x14, zi (s1.2.1 + 1), zi v8]) rfl ?_
        refine z_goto h70 rfl ?_
        refine z_kill h70 rfl (ls' := [zr self, zr a1, zi a2, zi x14, zi (s1.2.1 + 1), zU]) rfl ?_
        exact Rz.here fun _ q => q
set_option maxRecDepth 20000 in
theorem t_qsm_beatOf (X : Int × (Int → Int)) (n : Nat) (K : zK) (M : zM) (self a1 a2 a3 a4 a5 : Int) (g_self : 1 ≤ self) (g_a1 : 1 ≤ a1) : Rz X 72 (0, [zr self, zr a1, zi a2, zi a3, zi a4, zi a5, zU, zU, zU], [], M, K) (qsm_beatOf n K M self a1 a2 a3 a4 a5) (fun e P => P (some (zi e.1), e.2, K)) := by
  have h72 : zT 72 = zt72 := rfl
  unfold qsm_beatOf
  refine z_aload h72 rfl rfl (Or.inl rfl) (by omega) ?_
  refine z_getr (a := 8) (b := 0) (l := [9, 5]) h72 rfl (fun r1 g_r1 => ?_)
  refine z_iconst h72 rfl ?_
  refine z_cs (a := 1) (b := 0) (l := [18, 2]) (as := [zr r1, zi 0]) (lsE := [zr r1, zi 0, zU, zU]) (st' := []) (val := fun _ => none) (mem := fun p => p) h72 rfl ⟨rfl, rfl, rfl, Nat.le_of_ble_eq_true rfl, Nat.le_of_ble_eq_true rfl, rfl⟩ (t_qar_fillI X n K M r1 0 (by omega)) (fun M2 => ?_)
  refine z_iconst h72 rfl ?_
  refine z_istore h72 rfl (Or.inr rfl) (ls' := [zr self, zr a1, zi a2, zi a3, zi a4, zi a5, zi (-1), zU, zU]) rfl ?_
  refine z_iconst h72 rfl ?_
  refine z_istore h72 rfl (Or.inr rfl) (ls' := [zr self, zr a1, zi a2, zi a3, zi a4, zi a5, zi (-1), zi 0, zU]) rfl ?_
  refine z_kill h72 rfl (ls' := [zr self, zr a1, zi a2, zi a3, zi a4, zi a5, zi (-1), zi 0, zU]) rfl ?_
  refine Rz.wh (hd := fun s3 => (8, [zr self, zr a1, zi a2, zi a3, zi a4, zi a5, zi s3.1, zi s3.2.1, zU], [], s3.2.2, K)) (fun s3 => ?_) n ((-1), 0, M2)
  (try dsimp only)
  refine z_iload h72 rfl rfl (Or.inr rfl) ?_
  refine z_iload h72 rfl rfl (Or.inr rfl) ?_
  refine z_icgt h72 rfl ?_ ?_
  · refine z_iload h72 rfl rfl (Or.inr rfl) ?_
    exact z_iret h72 rfl (fun _ q => q)
  · refine z_aload h72 rfl rfl (Or.inl rfl) (by omega) ?_
    refine z_iload h72 rfl rfl (Or.inl rfl) ?_
    refine z_iload h72 rfl rfl (Or.inr rfl) ?_
    refine z_iload h72 rfl rfl (Or.inr rfl) ?_
    refine z_imul h72 rfl ?_
    refine z_iadd h72 rfl ?_
    refine z_cv (a := 27) (b := 0) (l := [24, 2, 2, 7]) (as := [zi (a3 + (s3.2.1 * a4))]) (lsE := [zr a1, zi (a3 + (s3.2.1 * a4)), zU]) (st' := []) (val := fun p => some (zi p)) (mem := fun _ => s3.2.2) h72 rfl ⟨rfl, rfl, rfl, Nat.le_of_ble_eq_true rfl, Nat.le_of_ble_eq_true rfl, rfl⟩ (fun g1 => (t_qla_bankOfAddress X K s3.2.2 a1 (a3 + (s3.2.1 * a4)) (by omega))) (fun v4 => ?_)
    refine z_istore h72 rfl (Or.inr rfl) (ls' := [zr self, zr a1, zi a2, zi a3, zi a4, zi a5, zi s3.1, zi s3.2.1, zi v4]) rfl ?_
    refine z_iload h72 rfl rfl (Or.inr rfl) ?_
    refine z_iconst h72 rfl ?_
    refine z_iadd h72 rfl ?_
    refine z_aload h72 rfl rfl (Or.inl rfl) (by omega) ?_
    refine z_getr (a := 8) (b := 0) (l := [9, 5]) h72 rfl (fun r5 g_r5 => ?_)
    refine z_iload h72 rfl rfl (Or.inr rfl) ?_
    refine z_iald h72 rfl (fun v6 => ?_)
    refine z_mmax h72 rfl rfl ?_
    refine z_istoreL (lsf := fun x7 => [zr self, zr a1, zi a2, zi a3, zi a4, zi a5, zi x7, zi s3.2.1, zi v4]) h72 rfl (Or.inr rfl) (fun _ => rfl) (fun x7 => ?_)
    (try dsimp only)
    refine z_aload h72 rfl rfl (Or.inl rfl) (by omega) ?_
    refine z_getr (a := 8) (b := 0) (l := [9, 5]) h72 rfl (fun r8 g_r8 => ?_)
    refine z_iload h72 rfl rfl (Or.inr rfl) ?_
    refine z_iload h72 rfl rfl (Or.inr rfl) ?_
    refine z_iload h72 rfl rfl (Or.inl rfl) ?_
    refine z_iadd h72 rfl ?_
    refine z_iast h72 rfl (fun M9 => ?_)
    refine z_iinc h72 rfl rfl (ls' := [zr self, zr a1, zi a2, zi a3, zi a4, zi a5, zi x7, zi (s3.2.1 + 1), zi v4]) rfl ?_
    refine z_goto h72 rfl ?_
    refine z_kill h72 rfl (ls' := [zr self, zr a1, zi a2, zi a3, zi a4, zi a5, zi x7, zi (s3.2.1 + 1), zU]) rfl ?_
    exact Rz.here fun _ q => q
set_option maxRecDepth 20000 in
theorem t_qsm_takeFirsts (X : Int × (Int → Int)) (n : Nat) (K : zK) (M : zM) (self a1 a2 a3 : Int) (g_self : 1 ≤ self) : Rz X 74 (0, [zr self, zi a1, zi a2, zi a3, zU, zU], [], M, K) (qsm_takeFirsts n K M self a1 a2 a3) (fun e P => P (some (zi e.1), e.2, K)) := by
  have h74 : zT 74 = zt74 := rfl
  unfold qsm_takeFirsts
  refine z_iconst h74 rfl ?_
  refine z_istore h74 rfl (Or.inr rfl) (ls' := [zr self, zi a1, zi a2, zi a3, zi 0, zU]) rfl ?_
  refine z_iconst h74 rfl ?_
  refine z_istore h74 rfl (Or.inr rfl) (ls' := [zr self, zi a1, zi a2, zi a3, zi 0, zi 0]) rfl ?_
  refine Rz.wh (hd := fun s1 => (4, [zr self, zi a1, zi a2, zi a3, zi s1.1, zi s1.2.1], [], s1.2.2, K)) (fun s1 => ?_) n (0, 0, M)
  (try dsimp only)
  refine z_iload h74 rfl rfl (Or.inr rfl) ?_
  refine z_iload h74 rfl rfl (Or.inl rfl) ?_
  refine z_icge h74 rfl ?_ ?_
  · refine z_iload h74 rfl rfl (Or.inr rfl) ?_
    exact z_iret h74 rfl (fun _ q => q)
  · refine z_aload h74 rfl rfl (Or.inl rfl) (by omega) ?_
    refine z_getr (a := 8) (b := 1) (l := [15, 5]) h74 rfl (fun r2 g_r2 => ?_)
    refine z_iload h74 rfl rfl (Or.inr rfl) ?_
    refine z_iald h74 rfl (fun v3 => ?_)
    refine Rz.bind (t := fun j4 => (39, [zr self, zi a1, zi a2, zi a3, zi j4.1, zi s1.2.1], [], j4.2, K)) ?_ (fun j4 => ?_)
    · refine z_ifle h74 rfl ?_ ?_
      · exact Rz.here fun _ q => q
      · refine z_aload h74 rfl rfl (Or.inl rfl) (by omega) ?_
        refine z_getr (a := 8) (b := 0) (l := [9, 5]) h74 rfl (fun r5 g_r5 => ?_)
        refine z_iload h74 rfl rfl (Or.inr rfl) ?_
        refine z_iald h74 rfl (fun v6 => ?_)
        refine z_iload h74 rfl rfl (Or.inl rfl) ?_
        refine z_icgt h74 rfl ?_ ?_
        · exact Rz.here fun _ q => q
        · refine z_aload h74 rfl rfl (Or.inl rfl) (by omega) ?_
          refine z_getr (a := 8) (b := 1) (l := [15, 5]) h74 rfl (fun r7 g_r7 => ?_)
          refine z_iload h74 rfl rfl (Or.inr rfl) ?_
          refine z_dup2 h74 rfl ?_
          refine z_iald h74 rfl (fun v8 => ?_)
          refine z_iconst h74 rfl ?_
          refine z_isub h74 rfl ?_
          refine z_iast h74 rfl (fun M9 => ?_)
          refine z_aload h74 rfl rfl (Or.inl rfl) (by omega) ?_
          refine z_getr (a := 8) (b := 0) (l := [9, 5]) h74 rfl (fun r10 g_r10 => ?_)
          refine z_iload h74 rfl rfl (Or.inr rfl) ?_
          refine z_iload h74 rfl rfl (Or.inl rfl) ?_
          refine z_iload h74 rfl rfl (Or.inl rfl) ?_
          refine z_iadd h74 rfl ?_
          refine z_iast h74 rfl (fun M11 => ?_)
          refine z_aload h74 rfl rfl (Or.inl rfl) (by omega) ?_
          refine z_iload h74 rfl rfl (Or.inl rfl) ?_
          refine z_iload h74 rfl rfl (Or.inl rfl) ?_
          refine z_iadd h74 rfl ?_
          refine z_putf (a := 8) (b := 2) (l := [36, 5]) h74 rfl (fun M12 => ?_)
          refine z_iinc h74 rfl rfl (ls' := [zr self, zi a1, zi a2, zi a3, zi (s1.1 + 1), zi s1.2.1]) rfl ?_
          exact Rz.here fun _ q => q
    · (try dsimp only)
      refine z_iinc h74 rfl rfl (ls' := [zr self, zi a1, zi a2, zi a3, zi j4.1, zi (s1.2.1 + 1)]) rfl ?_
      refine z_goto h74 rfl ?_
      exact Rz.here fun _ q => q
set_option maxRecDepth 20000 in
theorem t_qsm_enter (X : Int × (Int → Int)) (K : zK) (M : zM) (self a1 a2 : Int) (g_self : 1 ≤ self) : Rz X 75 (0, [zr self, zi a1, zi a2], [], M, K) (qsm_enter K M self a1 a2) (fun e P => P (some (zi e.1), e.2, K)) := by
  have h75 : zT 75 = zt75 := rfl
  unfold qsm_enter
  refine z_aload h75 rfl rfl (Or.inl rfl) (by omega) ?_
  refine z_getr (a := 8) (b := 1) (l := [15, 5]) h75 rfl (fun r1 g_r1 => ?_)
  refine z_iload h75 rfl rfl (Or.inl rfl) ?_
  refine z_iald h75 rfl (fun v2 => ?_)
  refine z_iload h75 rfl rfl (Or.inl rfl) ?_
  refine z_iclt h75 rfl ?_ ?_
  · refine z_aload h75 rfl rfl (Or.inl rfl) (by omega) ?_
    refine z_getr (a := 8) (b := 1) (l := [15, 5]) h75 rfl (fun r3 g_r3 => ?_)
    refine z_iload h75 rfl rfl (Or.inl rfl) ?_
    refine z_dup2 h75 rfl ?_
    refine z_iald h75 rfl (fun v4 => ?_)
    refine z_iconst h75 rfl ?_
    refine z_iadd h75 rfl ?_
    refine z_iast h75 rfl (fun M5 => ?_)
    refine z_aload h75 rfl rfl (Or.inl rfl) (by omega) ?_
    refine z_aload h75 rfl rfl (Or.inl rfl) (by omega) ?_
    refine z_getf (a := 8) (b := 4) (l := [43, 5]) h75 rfl (fun v6 => ?_)
    refine z_aload h75 rfl rfl (Or.inl rfl) (by omega) ?_
    refine z_getr (a := 8) (b := 1) (l := [15, 5]) h75 rfl (fun r7 g_r7 => ?_)
    refine z_iload h75 rfl rfl (Or.inl rfl) ?_
    refine z_iald h75 rfl (fun v8 => ?_)
    refine z_mmax h75 rfl rfl ?_
    refine z_putf (a := 8) (b := 4) (l := [43, 5]) h75 rfl (fun M9 => ?_)
    refine z_iconst h75 rfl ?_
    exact z_iret h75 rfl (fun _ q => q)
  · refine z_aload h75 rfl rfl (Or.inl rfl) (by omega) ?_
    refine z_dupr h75 rfl ?_
    refine z_getf (a := 8) (b := 3) (l := [40, 5]) h75 rfl (fun v10 => ?_)
    refine z_iconst h75 rfl ?_
    refine z_iadd h75 rfl ?_
    refine z_putf (a := 8) (b := 3) (l := [40, 5]) h75 rfl (fun M11 => ?_)
    refine z_iconst h75 rfl ?_
    exact z_iret h75 rfl (fun _ q => q)
set_option maxRecDepth 20000 in
theorem t_qsm_runQueues (X : Int × (Int → Int)) (n : Nat) (K : zK) (M : zM) (self a1 a2 a3 a4 a5 a6 : Int) (g_self : 1 ≤ self) (g_a1 : 1 ≤ a1) : Rz X 73 (0, [zr self, zr a1, zi a2, zi a3, zi a4, zi a5, zi a6, zU, zU, zU], [], M, K) (qsm_runQueues n K M self a1 a2 a3 a4 a5 a6) (fun e P => P (none, e, K)) := by
  have h73 : zT 73 = zt73 := rfl
  unfold qsm_runQueues
  refine z_aload h73 rfl rfl (Or.inl rfl) (by omega) ?_
  refine z_getr (a := 8) (b := 0) (l := [9, 5]) h73 rfl (fun r1 g_r1 => ?_)
  refine z_iconst h73 rfl ?_
  refine z_cs (a := 1) (b := 0) (l := [18, 2]) (as := [zr r1, zi 0]) (lsE := [zr r1, zi 0, zU, zU]) (st' := []) (val := fun _ => none) (mem := fun p => p) h73 rfl ⟨rfl, rfl, rfl, Nat.le_of_ble_eq_true rfl, Nat.le_of_ble_eq_true rfl, rfl⟩ (t_qar_fillI X n K M r1 0 (by omega)) (fun M2 => ?_)
  refine z_aload h73 rfl rfl (Or.inl rfl) (by omega) ?_
  refine z_getr (a := 8) (b := 1) (l := [15, 5]) h73 rfl (fun r3 g_r3 => ?_)
  refine z_iconst h73 rfl ?_
  refine z_cs (a := 1) (b := 0) (l := [18, 2]) (as := [zr r3, zi 0]) (lsE := [zr r3, zi 0, zU, zU]) (st' := []) (val := fun _ => none) (mem := fun p => p) h73 rfl ⟨rfl, rfl, rfl, Nat.le_of_ble_eq_true rfl, Nat.le_of_ble_eq_true rfl, rfl⟩ (t_qar_fillI X n K M2 r3 0 (by omega)) (fun M4 => ?_)
  refine z_aload h73 rfl rfl (Or.inl rfl) (by omega) ?_
  refine z_iconst h73 rfl ?_
  refine z_putf (a := 8) (b := 2) (l := [36, 5]) h73 rfl (fun M5 => ?_)
  refine z_aload h73 rfl rfl (Or.inl rfl) (by omega) ?_
  refine z_iconst h73 rfl ?_
  refine z_putf (a := 8) (b := 3) (l := [40, 5]) h73 rfl (fun M6 => ?_)
  refine z_aload h73 rfl rfl (Or.inl rfl) (by omega) ?_
  refine z_iconst h73 rfl ?_
  refine z_putf (a := 8) (b := 4) (l := [43, 5]) h73 rfl (fun M7 => ?_)
  refine z_iconst h73 rfl ?_
  refine z_istore h73 rfl (Or.inr rfl) (ls' := [zr self, zr a1, zi a2, zi a3, zi a4, zi a5, zi a6, zi 0, zU, zU]) rfl ?_
  refine z_iconst h73 rfl ?_
  refine z_istore h73 rfl (Or.inr rfl) (ls' := [zr self, zr a1, zi a2, zi a3, zi a4, zi a5, zi a6, zi 0, zi 0, zU]) rfl ?_
  refine z_iconst h73 rfl ?_
  refine z_istore h73 rfl (Or.inr rfl) (ls' := [zr self, zr a1, zi a2, zi a3, zi a4, zi a5, zi a6, zi 0, zi 0, zi 0]) rfl ?_
  refine Rz.wh (hd := fun s8 => (23, [zr self, zr a1, zi a2, zi a3, zi a4, zi a5, zi a6, zi s8.1, zi s8.2.1, zi s8.2.2.1], [], s8.2.2.2, K)) (fun s8 => ?_) n (0, 0, 0, M7)
  (try dsimp only)
  refine z_iload h73 rfl rfl (Or.inr rfl) ?_
  refine z_iconst h73 rfl ?_
  refine z_icge h73 rfl ?_ ?_
  · refine z_kill h73 rfl (ls' := [zU, zU, zU, zU, zU, zU, zU, zU, zU, zU]) rfl ?_
    exact z_vret h73 rfl (fun _ q => q)
  · refine z_iload h73 rfl rfl (Or.inr rfl) ?_
    refine z_iload h73 rfl rfl (Or.inr rfl) ?_
    refine z_icge h73 rfl ?_ ?_
    · refine z_kill h73 rfl (ls' := [zU, zU, zU, zU, zU, zU, zU, zU, zU, zU]) rfl ?_
      exact z_vret h73 rfl (fun _ q => q)
    · refine z_iload h73 rfl rfl (Or.inr rfl) ?_
      refine z_aload h73 rfl rfl (Or.inl rfl) (by omega) ?_
      refine z_aload h73 rfl rfl (Or.inl rfl) (by omega) ?_
      refine z_getf (a := 2) (b := 2) (l := [46, 7]) h73 rfl (fun v9 => ?_)
      refine z_iload h73 rfl rfl (Or.inl rfl) ?_
      refine z_iload h73 rfl rfl (Or.inr rfl) ?_
      refine z_cv (a := 74) (b := 0) (l := [49, 4, 8, 5]) (as := [zi v9, zi a2, zi s8.2.2.1]) (lsE := [zr self, zi v9, zi a2, zi s8.2.2.1, zU, zU]) (st' := [zi s8.2.1]) (val := fun p => some (zi p.1)) (mem := fun p => p.2) h73 rfl ⟨rfl, rfl, rfl, Nat.le_of_ble_eq_true rfl, Nat.le_of_ble_eq_true rfl, rfl⟩ (fun g1 => (t_qsm_takeFirsts X n K s8.2.2.2 self v9 a2 s8.2.2.1 (by omega))) (fun p10 => ?_)
      refine z_iadd h73 rfl ?_
      refine z_istoreL (lsf := fun x11 => [zr self, zr a1, zi a2, zi a3, zi a4, zi a5, zi a6, zi s8.1, zi x11, zi s8.2.2.1]) h73 rfl (Or.inr rfl) (fun _ => rfl) (fun x11 => ?_)
      (try dsimp only)
      refine z_iload h73 rfl rfl (Or.inr rfl) ?_
      refine z_iload h73 rfl rfl (Or.inr rfl) ?_
      refine Rz.bind (t := fun j12 => (54, [zr self, zr a1, zi a2, zi a3, zi a4, zi a5, zi a6, zi j12.1, zi x11, zi s8.2.2.1], [], j12.2, K)) ?_ (fun j12 => ?_)
      · refine z_icge h73 rfl ?_ ?_
        · exact Rz.here fun _ q => q
        · refine z_iload h73 rfl rfl (Or.inr rfl) ?_
          refine z_aload h73 rfl rfl (Or.inl rfl) (by omega) ?_
          refine z_aload h73 rfl rfl (Or.inl rfl) (by omega) ?_
          refine z_iload h73 rfl rfl (Or.inl rfl) ?_
          refine z_iload h73 rfl rfl (Or.inr rfl) ?_
          refine z_iload h73 rfl rfl (Or.inr rfl) ?_
          refine z_imul h73 rfl ?_
          refine z_iadd h73 rfl ?_
          refine z_cv (a := 27) (b := 0) (l := [24, 2, 2, 7]) (as := [zi (a3 + (s8.1 * a4))]) (lsE := [zr a1, zi (a3 + (s8.1 * a4)), zU]) (st' := [zr self, zi s8.1]) (val := fun p => some (zi p)) (mem := fun _ => p10.2) h73 rfl ⟨rfl, rfl, rfl, Nat.le_of_ble_eq_true rfl, Nat.le_of_ble_eq_true rfl, rfl⟩ (fun g1 => (t_qla_bankOfAddress X K p10.2 a1 (a3 + (s8.1 * a4)) (by omega))) (fun v13 => ?_)
          refine z_iload h73 rfl rfl (Or.inr rfl) ?_
          refine z_cv (a := 75) (b := 0) (l := [53, 3, 8, 5]) (as := [zi v13, zi a6]) (lsE := [zr self, zi v13, zi a6]) (st' := [zi s8.1]) (val := fun p => some (zi p.1)) (mem := fun p => p.2) h73 rfl ⟨rfl, rfl, rfl, Nat.le_of_ble_eq_true rfl, Nat.le_of_ble_eq_true rfl, rfl⟩ (fun g1 => (t_qsm_enter X K p10.2 self v13 a6 (by omega))) (fun p14 => ?_)
          refine z_iadd h73 rfl ?_
          refine z_istoreL (lsf := fun x15 => [zr self, zr a1, zi a2, zi a3, zi a4, zi a5, zi a6, zi x15, zi x11, zi s8.2.2.1]) h73 rfl (Or.inr rfl) (fun _ => rfl) (fun x15 => ?_)
          (try dsimp only)
          exact Rz.here fun _ q => q
      · (try dsimp only)
        refine z_iinc h73 rfl rfl (ls' := [zr self, zr a1, zi a2, zi a3, zi a4, zi a5, zi a6, zi j12.1, zi x11, zi (s8.2.2.1 + 1)]) rfl ?_
        refine z_goto h73 rfl ?_
        exact Rz.here fun _ q => q
set_option maxRecDepth 20000 in
theorem t_qtm_delayOf (X : Int × (Int → Int)) (K : zK) (M : zM) (a0 a1 : Int) : Rz X 79 (0, [zi a0, zi a1], [], M, K) (qtm_delayOf K M a0 a1) (fun e P => P (some (zi e), M, K)) := by
  have h79 : zT 79 = zt79 := rfl
  unfold qtm_delayOf
  refine z_iload h79 rfl rfl (Or.inl rfl) ?_
  refine z_iconst h79 rfl ?_
  refine z_icne h79 rfl ?_ ?_
  · refine z_iconst h79 rfl ?_
    exact z_iret h79 rfl (fun _ q => q)
  · refine z_iload h79 rfl rfl (Or.inl rfl) ?_
    refine z_iconst h79 rfl ?_
    refine z_icne h79 rfl ?_ ?_
    · refine z_iconst h79 rfl ?_
      refine z_goto h79 rfl ?_
      refine z_kill h79 rfl (ls' := [zU, zU]) rfl ?_
      exact z_iret h79 rfl (fun _ q => q)
    · refine z_iload h79 rfl rfl (Or.inl rfl) ?_
      refine z_kill h79 rfl (ls' := [zU, zU]) rfl ?_
      exact z_iret h79 rfl (fun _ q => q)
set_option maxRecDepth 20000 in
theorem t_qtm_goesAt (X : Int × (Int → Int)) (K : zK) (M : zM) (self a1 a2 : Int) (g_self : 1 ≤ self) : Rz X 81 (0, [zr self, zi a1, zi a2], [], M, K) (qtm_goesAt K M self a1 a2) (fun e P => P (some (zi e), M, K)) := by
  have h81 : zT 81 = zt81 := rfl
  unfold qtm_goesAt
  refine z_aload h81 rfl rfl (Or.inl rfl) (by omega) ?_
  refine z_getr (a := 9) (b := 0) (l := [9, 5]) h81 rfl (fun r1 g_r1 => ?_)
  refine z_iload h81 rfl rfl (Or.inl rfl) ?_
  refine z_iconst h81 rfl ?_
  refine z_imul h81 rfl ?_
  refine z_iload h81 rfl rfl (Or.inl rfl) ?_
  refine z_iadd h81 rfl ?_
  refine z_iald h81 rfl (fun v2 => ?_)
  exact z_iret h81 rfl (fun _ q => q)
set_option maxRecDepth 20000 in
theorem t_qtm_thereAt (X : Int × (Int → Int)) (K : zK) (M : zM) (self a1 a2 : Int) (g_self : 1 ≤ self) : Rz X 82 (0, [zr self, zi a1, zi a2], [], M, K) (qtm_thereAt K M self a1 a2) (fun e P => P (some (zi e), M, K)) := by
  have h82 : zT 82 = zt82 := rfl
  unfold qtm_thereAt
  refine z_aload h82 rfl rfl (Or.inl rfl) (by omega) ?_
  refine z_iload h82 rfl rfl (Or.inl rfl) ?_
  refine z_iload h82 rfl rfl (Or.inl rfl) ?_
  refine z_cv (a := 81) (b := 0) (l := [82, 3, 9, 5]) (as := [zi a1, zi a2]) (lsE := [zr self, zi a1, zi a2]) (st' := []) (val := fun p => some (zi p)) (mem := fun _ => M) h82 rfl ⟨rfl, rfl, rfl, Nat.le_of_ble_eq_true rfl, Nat.le_of_ble_eq_true rfl, rfl⟩ (fun g1 => (t_qtm_goesAt X K M self a1 a2 (by omega))) (fun v1 => ?_)
  refine z_aload h82 rfl rfl (Or.inl rfl) (by omega) ?_
  refine z_getr (a := 9) (b := 1) (l := [15, 5]) h82 rfl (fun r2 g_r2 => ?_)
  refine z_iload h82 rfl rfl (Or.inl rfl) ?_
  refine z_iald h82 rfl (fun v3 => ?_)
  refine z_iadd h82 rfl ?_
  exact z_iret h82 rfl (fun _ q => q)
set_option maxRecDepth 20000 in
theorem t_qtm_sourceAt (X : Int × (Int → Int)) (K : zK) (M : zM) (self a1 a2 : Int) (g_self : 1 ≤ self) : Rz X 80 (0, [zr self, zi a1, zi a2], [], M, K) (qtm_sourceAt K M self a1 a2) (fun e P => P (some (zi e), M, K)) := by
  have h80 : zT 80 = zt80 := rfl
  unfold qtm_sourceAt
  refine z_iload h80 rfl rfl (Or.inl rfl) ?_
  refine z_ifge h80 rfl ?_ ?_
  · refine z_aload h80 rfl rfl (Or.inl rfl) (by omega) ?_
    refine z_iload h80 rfl rfl (Or.inl rfl) ?_
    refine z_iload h80 rfl rfl (Or.inl rfl) ?_
    refine z_cv (a := 82) (b := 0) (l := [50, 3, 9, 5]) (as := [zi a1, zi a2]) (lsE := [zr self, zi a1, zi a2]) (st' := []) (val := fun p => some (zi p)) (mem := fun _ => M) h80 rfl ⟨rfl, rfl, rfl, Nat.le_of_ble_eq_true rfl, Nat.le_of_ble_eq_true rfl, rfl⟩ (fun g1 => (t_qtm_thereAt X K M self a1 a2 (by omega))) (fun v1 => ?_)
    refine z_kill h80 rfl (ls' := [zU, zU, zU]) rfl ?_
    exact z_iret h80 rfl (fun _ q => q)
  · refine z_iconst h80 rfl ?_
    refine z_goto h80 rfl ?_
    refine z_kill h80 rfl (ls' := [zU, zU, zU]) rfl ?_
    exact z_iret h80 rfl (fun _ q => q)
set_option maxRecDepth 20000 in
theorem t_qtm_runLine (X : Int × (Int → Int)) (n : Nat) (K : zK) (M : zM) (self a1 a2 a3 a4 a5 : Int) (g_self : 1 ≤ self) (g_a1 : 1 ≤ a1) (g_a2 : 1 ≤ a2) : Rz X 78 (0, [zr self, zr a1, zr a2, zi a3, zi a4, zi a5, zU, zU, zU, zU, zU], [], M, K) (qtm_runLine n K M self a1 a2 a3 a4 a5) (fun e P => P (none, e, K)) := by
  have h78 : zT 78 = zt78 := rfl
  unfold qtm_runLine
  refine z_aload h78 rfl rfl (Or.inl rfl) (by omega) ?_
  refine z_getr (a := 3) (b := 0) (l := [39, 7]) h78 rfl (fun r1 g_r1 => ?_)
  refine z_iload h78 rfl rfl (Or.inl rfl) ?_
  refine z_iald h78 rfl (fun v2 => ?_)
  refine z_cs (a := 33) (b := 0) (l := [58, 1]) (as := [zi v2]) (lsE := [zi v2]) (st' := []) (val := fun p => some (zi p)) (mem := fun _ => M) h78 rfl ⟨rfl, rfl, rfl, Nat.le_of_ble_eq_true rfl, Nat.le_of_ble_eq_true rfl, rfl⟩ (t_qpr_unitOf X K M v2 ) (fun v3 => ?_)
  refine z_istore h78 rfl (Or.inr rfl) (ls' := [zr self, zr a1, zr a2, zi a3, zi a4, zi a5, zi v3, zU, zU, zU, zU]) rfl ?_
  refine z_iconst h78 rfl ?_
  refine z_istore h78 rfl (Or.inr rfl) (ls' := [zr self, zr a1, zr a2, zi a3, zi a4, zi a5, zi v3, zi 0, zU, zU, zU]) rfl ?_
  refine z_kill h78 rfl (ls' := [zr self, zr a1, zr a2, zi a3, zi a4, zi a5, zi v3, zi 0, zU, zU, zU]) rfl ?_
  refine Rz.wh (hd := fun s4 => (8, [zr self, zr a1, zr a2, zi a3, zi a4, zi a5, zi v3, zi s4.1, zU, zU, zU], [], s4.2, K)) (fun s4 => ?_) n (0, M)
  (try dsimp only)
  refine z_iload h78 rfl rfl (Or.inr rfl) ?_
  refine z_iload h78 rfl rfl (Or.inr rfl) ?_
  refine z_icge h78 rfl ?_ ?_
  · exact z_vret h78 rfl (fun _ q => q)
  · refine z_iload h78 rfl rfl (Or.inr rfl) ?_
    refine Rz.bind (t := fun j5 => (18, [zr self, zr a1, zr a2, zi a3, zi a4, zi a5, zi v3, zi s4.1, zU, zU, zU], [zi j5], s4.2, K)) ?_ (fun j5 => ?_)
    · refine z_ifeq h78 rfl ?_ ?_
      · refine z_iload h78 rfl rfl (Or.inr rfl) ?_
        refine z_iconst h78 rfl ?_
        refine z_isub h78 rfl ?_
        refine z_kill h78 rfl (ls' := [zr self, zr a1, zr a2, zi a3, zi a4, zi a5, zi v3, zi s4.1, zU, zU, zU]) rfl ?_
        exact Rz.here fun _ q => q
      · refine z_iload h78 rfl rfl (Or.inr rfl) ?_
        refine z_goto h78 rfl ?_
        refine z_kill h78 rfl (ls' := [zr self, zr a1, zr a2, zi a3, zi a4, zi a5, zi v3, zi s4.1, zU, zU, zU]) rfl ?_
        exact Rz.here fun _ q => q
    · (try dsimp only)
      refine z_istore h78 rfl (Or.inr rfl) (ls' := [zr self, zr a1, zr a2, zi a3, zi a4, zi a5, zi v3, zi s4.1, zi j5, zU, zU]) rfl ?_
      refine z_aload h78 rfl rfl (Or.inl rfl) (by omega) ?_
      refine z_getr (a := 9) (b := 2) (l := [18, 5]) h78 rfl (fun r6 g_r6 => ?_)
      refine z_iload h78 rfl rfl (Or.inr rfl) ?_
      refine z_iald h78 rfl (fun v7 => ?_)
      refine z_aload h78 rfl rfl (Or.inl rfl) (by omega) ?_
      refine z_aload h78 rfl rfl (Or.inl rfl) (by omega) ?_
      refine z_getr (a := 3) (b := 4) (l := [62, 7]) h78 rfl (fun r8 g_r8 => ?_)
      refine z_iload h78 rfl rfl (Or.inl rfl) ?_
      refine z_iald h78 rfl (fun v9 => ?_)
      refine z_iload h78 rfl rfl (Or.inr rfl) ?_
      refine z_cv (a := 80) (b := 0) (l := [65, 3, 9, 5]) (as := [zi v9, zi j5]) (lsE := [zr self, zi v9, zi j5]) (st' := [zi v7]) (val := fun p => some (zi p)) (mem := fun _ => s4.2) h78 rfl ⟨rfl, rfl, rfl, Nat.le_of_ble_eq_true rfl, Nat.le_of_ble_eq_true rfl, rfl⟩ (fun g1 => (t_qtm_sourceAt X K s4.2 self v9 j5 (by omega))) (fun v10 => ?_)
      refine z_aload h78 rfl rfl (Or.inl rfl) (by omega) ?_
      refine z_aload h78 rfl rfl (Or.inl rfl) (by omega) ?_
      refine z_getr (a := 3) (b := 5) (l := [68, 7]) h78 rfl (fun r11 g_r11 => ?_)
      refine z_iload h78 rfl rfl (Or.inl rfl) ?_
      refine z_iald h78 rfl (fun v12 => ?_)
      refine z_iload h78 rfl rfl (Or.inr rfl) ?_
      refine z_cv (a := 80) (b := 0) (l := [65, 3, 9, 5]) (as := [zi v12, zi j5]) (lsE := [zr self, zi v12, zi j5]) (st' := [zi v10, zi v7]) (val := fun p => some (zi p)) (mem := fun _ => s4.2) h78 rfl ⟨rfl, rfl, rfl, Nat.le_of_ble_eq_true rfl, Nat.le_of_ble_eq_true rfl, rfl⟩ (fun g1 => (t_qtm_sourceAt X K s4.2 self v12 j5 (by omega))) (fun v13 => ?_)
      refine z_mmax h78 rfl rfl ?_
      refine z_mmax h78 rfl rfl ?_
      refine z_istoreL (lsf := fun x14 => [zr self, zr a1, zr a2, zi a3, zi a4, zi a5, zi v3, zi s4.1, zi j5, zi x14, zU]) h78 rfl (Or.inr rfl) (fun _ => rfl) (fun x14 => ?_)
      (try dsimp only)
      refine z_iload h78 rfl rfl (Or.inr rfl) ?_
      refine Rz.bind (t := fun j15 => (73, [zr self, zr a1, zr a2, zi a3, zi a4, zi a5, zi v3, zi s4.1, zU, zi j15.1, zU], [], j15.2, K)) ?_ (fun j15 => ?_)
      · refine z_ifne h78 rfl ?_ ?_
        · refine z_aload h78 rfl rfl (Or.inl rfl) (by omega) ?_
          refine z_aload h78 rfl rfl (Or.inl rfl) (by omega) ?_
          refine z_getr (a := 3) (b := 2) (l := [71, 7]) h78 rfl (fun r20 g_r20 => ?_)
          refine z_iload h78 rfl rfl (Or.inl rfl) ?_
          refine z_iald h78 rfl (fun v21 => ?_)
          refine z_iload h78 rfl rfl (Or.inr rfl) ?_
          refine z_aload h78 rfl rfl (Or.inl rfl) (by omega) ?_
          refine z_getr (a := 3) (b := 3) (l := [74, 7]) h78 rfl (fun r22 g_r22 => ?_)
          refine z_iload h78 rfl rfl (Or.inl rfl) ?_
          refine z_iald h78 rfl (fun v23 => ?_)
          refine z_imul h78 rfl ?_
          refine z_iadd h78 rfl ?_
          refine z_cv (a := 27) (b := 0) (l := [77, 2, 2, 7]) (as := [zi (v21 + (s4.1 * v23))]) (lsE := [zr a1, zi (v21 + (s4.1 * v23)), zU]) (st' := []) (val := fun p => some (zi p)) (mem := fun _ => s4.2) h78 rfl ⟨rfl, rfl, rfl, Nat.le_of_ble_eq_true rfl, Nat.le_of_ble_eq_true rfl, rfl⟩ (fun g1 => (t_qla_bankOfAddress X K s4.2 a1 (v21 + (s4.1 * v23)) (by omega))) (fun v24 => ?_)
          refine z_istore h78 rfl (Or.inr rfl) (ls' := [zr self, zr a1, zr a2, zi a3, zi a4, zi a5, zi v3, zi s4.1, zi j5, zi x14, zi v24]) rfl ?_
          refine z_iload h78 rfl rfl (Or.inr rfl) ?_
          refine z_aload h78 rfl rfl (Or.inl rfl) (by omega) ?_
          refine z_getr (a := 9) (b := 3) (l := [21, 5]) h78 rfl (fun r25 g_r25 => ?_)
          refine z_iload h78 rfl rfl (Or.inr rfl) ?_
          refine z_iald h78 rfl (fun v26 => ?_)
          refine z_mmax h78 rfl rfl ?_
          refine z_istoreL (lsf := fun x27 => [zr self, zr a1, zr a2, zi a3, zi a4, zi a5, zi v3, zi s4.1, zi j5, zi x27, zi v24]) h78 rfl (Or.inr rfl) (fun _ => rfl) (fun x27 => ?_)
          (try dsimp only)
          refine z_aload h78 rfl rfl (Or.inl rfl) (by omega) ?_
          refine z_getr (a := 9) (b := 3) (l := [21, 5]) h78 rfl (fun r28 g_r28 => ?_)
          refine z_iload h78 rfl rfl (Or.inr rfl) ?_
          refine z_iload h78 rfl rfl (Or.inr rfl) ?_
          refine z_aload h78 rfl rfl (Or.inl rfl) (by omega) ?_
          refine z_getr (a := 9) (b := 1) (l := [15, 5]) h78 rfl (fun r29 g_r29 => ?_)
          refine z_iload h78 rfl rfl (Or.inl rfl) ?_
          refine z_iald h78 rfl (fun v30 => ?_)
          refine z_iadd h78 rfl ?_
          refine z_iast h78 rfl (fun M31 => ?_)
          refine z_kill h78 rfl (ls' := [zr self, zr a1, zr a2, zi a3, zi a4, zi a5, zi v3, zi s4.1, zU, zi x27, zU]) rfl ?_
          exact Rz.here fun _ q => q
        · refine z_kill h78 rfl (ls' := [zr self, zr a1, zr a2, zi a3, zi a4, zi a5, zi v3, zi s4.1, zU, zi x14, zU]) rfl ?_
          exact Rz.here fun _ q => q
      · (try dsimp only)
        refine z_aload h78 rfl rfl (Or.inl rfl) (by omega) ?_
        refine z_getr (a := 9) (b := 0) (l := [9, 5]) h78 rfl (fun r16 g_r16 => ?_)
        refine z_iload h78 rfl rfl (Or.inl rfl) ?_
        refine z_iconst h78 rfl ?_
        refine z_imul h78 rfl ?_
        refine z_iload h78 rfl rfl (Or.inr rfl) ?_
        refine z_iadd h78 rfl ?_
        refine z_iload h78 rfl rfl (Or.inr rfl) ?_
        refine z_iast h78 rfl (fun M17 => ?_)
        refine z_aload h78 rfl rfl (Or.inl rfl) (by omega) ?_
        refine z_getr (a := 9) (b := 2) (l := [18, 5]) h78 rfl (fun r18 g_r18 => ?_)
        refine z_iload h78 rfl rfl (Or.inr rfl) ?_
        refine z_iload h78 rfl rfl (Or.inr rfl) ?_
        refine z_iconst h78 rfl ?_
        refine z_iadd h78 rfl ?_
        refine z_iast h78 rfl (fun M19 => ?_)
        refine z_iinc h78 rfl rfl (ls' := [zr self, zr a1, zr a2, zi a3, zi a4, zi a5, zi v3, zi (s4.1 + 1), zU, zi j15.1, zU]) rfl ?_
        refine z_goto h78 rfl ?_
        refine z_kill h78 rfl (ls' := [zr self, zr a1, zr a2, zi a3, zi a4, zi a5, zi v3, zi (s4.1 + 1), zU, zU, zU]) rfl ?_
        exact Rz.here fun _ q => q
set_option maxRecDepth 20000 in
theorem t_qtm_run (X : Int × (Int → Int)) (n : Nat) (K : zK) (M : zM) (self a1 a2 a3 a4 a5 : Int) (g_self : 1 ≤ self) (g_a1 : 1 ≤ a1) (g_a3 : 1 ≤ a3) : Rz X 77 (0, [zr self, zr a1, zi a2, zr a3, zi a4, zi a5, zU], [], M, K) (qtm_run n K M self a1 a2 a3 a4 a5) (fun e P => P (none, e, K)) := by
  have h77 : zT 77 = zt77 := rfl
  unfold qtm_run
  refine z_aload h77 rfl rfl (Or.inl rfl) (by omega) ?_
  refine z_getr (a := 9) (b := 2) (l := [18, 5]) h77 rfl (fun r1 g_r1 => ?_)
  refine z_iconst h77 rfl ?_
  refine z_cs (a := 1) (b := 0) (l := [24, 2]) (as := [zr r1, zi 0]) (lsE := [zr r1, zi 0, zU, zU]) (st' := []) (val := fun _ => none) (mem := fun p => p) h77 rfl ⟨rfl, rfl, rfl, Nat.le_of_ble_eq_true rfl, Nat.le_of_ble_eq_true rfl, rfl⟩ (t_qar_fillI X n K M r1 0 (by omega)) (fun M2 => ?_)
  refine z_aload h77 rfl rfl (Or.inl rfl) (by omega) ?_
  refine z_getr (a := 9) (b := 3) (l := [21, 5]) h77 rfl (fun r3 g_r3 => ?_)
  refine z_iconst h77 rfl ?_
  refine z_cs (a := 1) (b := 0) (l := [24, 2]) (as := [zr r3, zi 0]) (lsE := [zr r3, zi 0, zU, zU]) (st' := []) (val := fun _ => none) (mem := fun p => p) h77 rfl ⟨rfl, rfl, rfl, Nat.le_of_ble_eq_true rfl, Nat.le_of_ble_eq_true rfl, rfl⟩ (t_qar_fillI X n K M2 r3 0 (by omega)) (fun M4 => ?_)
  refine z_aload h77 rfl rfl (Or.inl rfl) (by omega) ?_
  refine z_iconst h77 rfl ?_
  refine z_putf (a := 9) (b := 4) (l := [30, 5]) h77 rfl (fun M5 => ?_)
  refine z_iconst h77 rfl ?_
  refine z_istore h77 rfl (Or.inr rfl) (ls' := [zr self, zr a1, zi a2, zr a3, zi a4, zi a5, zi 0]) rfl ?_
  refine Rz.wh (hd := fun s6 => (13, [zr self, zr a1, zi a2, zr a3, zi a4, zi a5, zi s6.1], [], s6.2, K)) (fun s6 => ?_) n (0, M5)
  (try dsimp only)
  refine z_iload h77 rfl rfl (Or.inr rfl) ?_
  refine z_aload h77 rfl rfl (Or.inl rfl) (by omega) ?_
  refine z_getf (a := 3) (b := 6) (l := [34, 7]) h77 rfl (fun v7 => ?_)
  refine z_icge h77 rfl ?_ ?_
  · exact z_vret h77 rfl (fun _ q => q)
  · refine z_aload h77 rfl rfl (Or.inl rfl) (by omega) ?_
    refine z_getr (a := 9) (b := 1) (l := [15, 5]) h77 rfl (fun r8 g_r8 => ?_)
    refine z_iload h77 rfl rfl (Or.inr rfl) ?_
    refine z_aload h77 rfl rfl (Or.inl rfl) (by omega) ?_
    refine z_getr (a := 3) (b := 0) (l := [39, 7]) h77 rfl (fun r9 g_r9 => ?_)
    refine z_iload h77 rfl rfl (Or.inr rfl) ?_
    refine z_iald h77 rfl (fun v10 => ?_)
    refine z_iload h77 rfl rfl (Or.inl rfl) ?_
    refine z_cs (a := 79) (b := 0) (l := [42, 2]) (as := [zi v10, zi a2]) (lsE := [zi v10, zi a2]) (st' := [zi s6.1, zr r8]) (val := fun p => some (zi p)) (mem := fun _ => s6.2) h77 rfl ⟨rfl, rfl, rfl, Nat.le_of_ble_eq_true rfl, Nat.le_of_ble_eq_true rfl, rfl⟩ (t_qtm_delayOf X K s6.2 v10 a2 ) (fun v11 => ?_)
    refine z_iast h77 rfl (fun M12 => ?_)
    refine z_aload h77 rfl rfl (Or.inl rfl) (by omega) ?_
    refine z_aload h77 rfl rfl (Or.inl rfl) (by omega) ?_
    refine z_aload h77 rfl rfl (Or.inl rfl) (by omega) ?_
    refine z_iload h77 rfl rfl (Or.inr rfl) ?_
    refine z_iload h77 rfl rfl (Or.inr rfl) ?_
    refine z_iload h77 rfl rfl (Or.inr rfl) ?_
    refine z_cv (a := 78) (b := 0) (l := [46, 6, 9, 5]) (as := [zr a1, zr a3, zi s6.1, zi a4, zi a5]) (lsE := [zr self, zr a1, zr a3, zi s6.1, zi a4, zi a5, zU, zU, zU, zU, zU]) (st' := []) (val := fun _ => none) (mem := fun p => p) h77 rfl ⟨rfl, rfl, rfl, Nat.le_of_ble_eq_true rfl, Nat.le_of_ble_eq_true rfl, rfl⟩ (fun g1 => (t_qtm_runLine X n K M12 self a1 a3 s6.1 a4 a5 (by omega) (by omega) (by omega))) (fun M13 => ?_)
    refine z_aload h77 rfl rfl (Or.inl rfl) (by omega) ?_
    refine z_aload h77 rfl rfl (Or.inl rfl) (by omega) ?_
    refine z_getf (a := 9) (b := 4) (l := [30, 5]) h77 rfl (fun v14 => ?_)
    refine z_aload h77 rfl rfl (Or.inl rfl) (by omega) ?_
    refine z_iload h77 rfl rfl (Or.inr rfl) ?_
    refine z_iload h77 rfl rfl (Or.inr rfl) ?_
    refine z_iconst h77 rfl ?_
    refine z_isub h77 rfl ?_
    refine z_cv (a := 82) (b := 0) (l := [50, 3, 9, 5]) (as := [zi s6.1, zi (a4 - 1)]) (lsE := [zr self, zi s6.1, zi (a4 - 1)]) (st' := [zi v14, zr self]) (val := fun p => some (zi p)) (mem := fun _ => M13) h77 rfl ⟨rfl, rfl, rfl, Nat.le_of_ble_eq_true rfl, Nat.le_of_ble_eq_true rfl, rfl⟩ (fun g1 => (t_qtm_thereAt X K M13 self s6.1 (a4 - 1) (by omega))) (fun v15 => ?_)
    refine z_mmax h77 rfl rfl ?_
    refine z_putf (a := 9) (b := 4) (l := [30, 5]) h77 rfl (fun M16 => ?_)
    refine z_iinc h77 rfl rfl (ls' := [zr self, zr a1, zi a2, zr a3, zi a4, zi a5, zi (s6.1 + 1)]) rfl ?_
    refine z_goto h77 rfl ?_
    exact Rz.here fun _ q => q
