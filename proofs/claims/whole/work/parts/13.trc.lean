set_option maxRecDepth 20000 in
theorem t_qwi_add (X : Int × (Int → Int)) (K : zK) (M : zM) (self a1 a2 a3 : Int) (g_self : 1 ≤ self) : Rz X 84 (0, [zr self, zi a1, zi a2, zi a3], [], M, K) (qwi_add K M self a1 a2 a3) (fun e P => P (some (zi e.1), e.2, K)) := by
  have h84 : zT 84 = zt84 := rfl
  unfold qwi_add
  refine z_aload h84 rfl rfl (Or.inl rfl) (by omega) ?_
  refine z_getf (a := 10) (b := 1) (l := [17, 2]) h84 rfl (fun v1 => ?_)
  refine z_iconst h84 rfl ?_
  refine z_iclt h84 rfl ?_ ?_
  · refine z_aload h84 rfl rfl (Or.inl rfl) (by omega) ?_
    refine z_getr (a := 10) (b := 0) (l := [11, 2]) h84 rfl (fun r2 g_r2 => ?_)
    refine z_aload h84 rfl rfl (Or.inl rfl) (by omega) ?_
    refine z_getf (a := 10) (b := 1) (l := [17, 2]) h84 rfl (fun v3 => ?_)
    refine z_aald (a := 103) (b := 0) (l := []) h84 rfl (fun r4 g_r4 => ?_)
    refine z_iload h84 rfl rfl (Or.inl rfl) ?_
    refine z_iload h84 rfl rfl (Or.inl rfl) ?_
    refine z_iload h84 rfl rfl (Or.inl rfl) ?_
    refine z_cv (a := 55) (b := 0) (l := [22, 4, 6, 3]) (as := [zi a1, zi a2, zi a3]) (lsE := [zr r4, zi a1, zi a2, zi a3]) (st' := []) (val := fun _ => none) (mem := fun p => p) h84 rfl ⟨rfl, rfl, rfl, Nat.le_of_ble_eq_true rfl, Nat.le_of_ble_eq_true rfl, rfl⟩ (fun g1 => (t_qsh_become X K M r4 a1 a2 a3 (by omega))) (fun M5 => ?_)
    refine z_aload h84 rfl rfl (Or.inl rfl) (by omega) ?_
    refine z_dupr h84 rfl ?_
    refine z_getf (a := 10) (b := 1) (l := [17, 2]) h84 rfl (fun v6 => ?_)
    refine z_iconst h84 rfl ?_
    refine z_iadd h84 rfl ?_
    refine z_putf (a := 10) (b := 1) (l := [17, 2]) h84 rfl (fun M7 => ?_)
    refine z_aload h84 rfl rfl (Or.inl rfl) (by omega) ?_
    refine z_getf (a := 10) (b := 1) (l := [17, 2]) h84 rfl (fun v8 => ?_)
    refine z_iconst h84 rfl ?_
    refine z_isub h84 rfl ?_
    exact z_iret h84 rfl (fun _ q => q)
  · refine z_iconst h84 rfl ?_
    exact z_iret h84 rfl (fun _ q => q)
set_option maxRecDepth 20000 in
theorem t_qwi_grantedBy (X : Int × (Int → Int)) (n : Nat) (K : zK) (M : zM) (self a1 : Int) (g_self : 1 ≤ self) (g_a1 : 1 ≤ a1) : Rz X 85 (0, [zr self, zr a1, zU, zU], [], M, K) (qwi_grantedBy n K M self a1) (fun e P => P (some (zi e), M, K)) := by
  have h85 : zT 85 = zt85 := rfl
  unfold qwi_grantedBy
  refine z_iconst h85 rfl ?_
  refine z_istore h85 rfl (Or.inl rfl) (ls' := [zr self, zr a1, zi 0, zU]) rfl ?_
  refine z_iconst h85 rfl ?_
  refine z_istore h85 rfl (Or.inl rfl) (ls' := [zr self, zr a1, zi 0, zi 0]) rfl ?_
  refine Rz.wh (hd := fun s1 => (4, [zr self, zr a1, zi s1.1, zi s1.2], [], M, K)) (fun s1 => ?_) n (0, 0)
  (try dsimp only)
  refine z_iload h85 rfl rfl (Or.inl rfl) ?_
  refine z_aload h85 rfl rfl (Or.inl rfl) (by omega) ?_
  refine z_getf (a := 10) (b := 1) (l := [17, 2]) h85 rfl (fun v2 => ?_)
  refine z_icge h85 rfl ?_ ?_
  · refine z_iload h85 rfl rfl (Or.inl rfl) ?_
    exact z_iret h85 rfl (fun _ q => q)
  · refine z_aload h85 rfl rfl (Or.inl rfl) (by omega) ?_
    refine z_getr (a := 10) (b := 0) (l := [11, 2]) h85 rfl (fun r3 g_r3 => ?_)
    refine z_iload h85 rfl rfl (Or.inl rfl) ?_
    refine z_aald (a := 103) (b := 0) (l := []) h85 rfl (fun r4 g_r4 => ?_)
    refine z_aload h85 rfl rfl (Or.inl rfl) (by omega) ?_
    refine z_cv (a := 63) (b := 0) (l := [26, 2, 6, 3]) (as := [zr a1]) (lsE := [zr r4, zr a1, zU, zU]) (st' := []) (val := fun p => some (zi p)) (mem := fun _ => M) h85 rfl ⟨rfl, rfl, rfl, Nat.le_of_ble_eq_true rfl, Nat.le_of_ble_eq_true rfl, rfl⟩ (fun g1 => (t_qsh_isGrantedBy X n K M r4 a1 (by omega) (by omega))) (fun v5 => ?_)
    refine Rz.bind (t := fun j6 => (21, [zr self, zr a1, zi j6, zi s1.2], [], M, K)) ?_ (fun j6 => ?_)
    · refine z_ifeq h85 rfl ?_ ?_
      · exact Rz.here fun _ q => q
      · refine z_iload h85 rfl rfl (Or.inl rfl) ?_
        refine z_iconst h85 rfl ?_
        refine z_iload h85 rfl rfl (Or.inl rfl) ?_
        refine z_ishl h85 rfl ?_
        refine z_ior h85 rfl ?_
        refine z_istoreL (lsf := fun x7 => [zr self, zr a1, zi x7, zi s1.2]) h85 rfl (Or.inl rfl) (fun _ => rfl) (fun x7 => ?_)
        (try dsimp only)
        exact Rz.here fun _ q => q
    · (try dsimp only)
      refine z_iinc h85 rfl rfl (ls' := [zr self, zr a1, zi j6, zi (s1.2 + 1)]) rfl ?_
      refine z_goto h85 rfl ?_
      exact Rz.here fun _ q => q
set_option maxRecDepth 20000 in
theorem t_qwi_largestCut (X : Int × (Int → Int)) (n : Nat) (K : zK) (M : zM) (self a1 : Int) (g_self : 1 ≤ self) (g_a1 : 1 ≤ a1) : Rz X 87 (0, [zr self, zr a1, zU, zU], [], M, K) (qwi_largestCut n K M self a1) (fun e P => P (some (zi e), M, K)) := by
  have h87 : zT 87 = zt87 := rfl
  unfold qwi_largestCut
  refine z_iconst h87 rfl ?_
  refine z_istore h87 rfl (Or.inl rfl) (ls' := [zr self, zr a1, zi 1, zU]) rfl ?_
  refine z_iconst h87 rfl ?_
  refine z_istore h87 rfl (Or.inl rfl) (ls' := [zr self, zr a1, zi 1, zi 0]) rfl ?_
  refine Rz.wh (hd := fun s1 => (4, [zr self, zr a1, zi s1.1, zi s1.2], [], M, K)) (fun s1 => ?_) n (1, 0)
  (try dsimp only)
  refine z_iload h87 rfl rfl (Or.inl rfl) ?_
  refine z_aload h87 rfl rfl (Or.inl rfl) (by omega) ?_
  refine z_getf (a := 10) (b := 1) (l := [17, 2]) h87 rfl (fun v2 => ?_)
  refine z_icge h87 rfl ?_ ?_
  · refine z_iload h87 rfl rfl (Or.inl rfl) ?_
    exact z_iret h87 rfl (fun _ q => q)
  · refine z_aload h87 rfl rfl (Or.inl rfl) (by omega) ?_
    refine z_getr (a := 10) (b := 0) (l := [11, 2]) h87 rfl (fun r3 g_r3 => ?_)
    refine z_iload h87 rfl rfl (Or.inl rfl) ?_
    refine z_aald (a := 103) (b := 0) (l := []) h87 rfl (fun r4 g_r4 => ?_)
    refine z_aload h87 rfl rfl (Or.inl rfl) (by omega) ?_
    refine z_cv (a := 62) (b := 0) (l := [30, 2, 6, 3]) (as := [zr a1]) (lsE := [zr r4, zr a1, zU, zU]) (st' := []) (val := fun p => some (zi p)) (mem := fun _ => M) h87 rfl ⟨rfl, rfl, rfl, Nat.le_of_ble_eq_true rfl, Nat.le_of_ble_eq_true rfl, rfl⟩ (fun g1 => (t_qsh_isSomewhere X n K M r4 a1 (by omega) (by omega))) (fun v5 => ?_)
    refine Rz.bind (t := fun j6 => (23, [zr self, zr a1, zi j6, zi s1.2], [], M, K)) ?_ (fun j6 => ?_)
    · refine z_ifeq h87 rfl ?_ ?_
      · exact Rz.here fun _ q => q
      · refine z_iload h87 rfl rfl (Or.inl rfl) ?_
        refine z_aload h87 rfl rfl (Or.inl rfl) (by omega) ?_
        refine z_getr (a := 10) (b := 0) (l := [11, 2]) h87 rfl (fun r7 g_r7 => ?_)
        refine z_iload h87 rfl rfl (Or.inl rfl) ?_
        refine z_aald (a := 103) (b := 0) (l := []) h87 rfl (fun r8 g_r8 => ?_)
        refine z_cv (a := 56) (b := 0) (l := [33, 1, 6, 3]) (as := []) (lsE := [zr r8]) (st' := [zi s1.1]) (val := fun p => some (zi p)) (mem := fun _ => M) h87 rfl ⟨rfl, rfl, rfl, Nat.le_of_ble_eq_true rfl, Nat.le_of_ble_eq_true rfl, rfl⟩ (fun g1 => (t_qsh_size X K M r8 (by omega))) (fun v9 => ?_)
        refine z_mmax h87 rfl rfl ?_
        refine z_istoreL (lsf := fun x10 => [zr self, zr a1, zi x10, zi s1.2]) h87 rfl (Or.inl rfl) (fun _ => rfl) (fun x10 => ?_)
        (try dsimp only)
        exact Rz.here fun _ q => q
    · (try dsimp only)
      refine z_iinc h87 rfl rfl (ls' := [zr self, zr a1, zi j6, zi (s1.2 + 1)]) rfl ?_
      refine z_goto h87 rfl ?_
      exact Rz.here fun _ q => q
set_option maxRecDepth 20000 in
theorem t_qbs_table (X : Int × (Int → Int)) (n : Nat) (K : zK) (M : zM) (self a1 a2 : Int) (g_self : 1 ≤ self) : Rz X 89 (0, [zr self, zi a1, zi a2], [], M, K) (qbs_table n K M self a1 a2) (fun e P => P (some (zi e.1), e.2, K)) := by
  have h89 : zT 89 = zt89 := rfl
  unfold qbs_table
  refine z_iload h89 rfl rfl (Or.inl rfl) ?_
  refine z_iconst h89 rfl ?_
  refine z_iconst h89 rfl ?_
  refine z_cs (a := 123) (b := 0) (l := [104, 3]) (as := [zi a1, zi 1, zi 16]) (lsE := [zi a1, zi 1, zi 16]) (st' := []) (val := fun p => some (zi p)) (mem := fun _ => M) h89 rfl ⟨rfl, rfl, rfl, Nat.le_of_ble_eq_true rfl, Nat.le_of_ble_eq_true rfl, rfl⟩ (t_qbs_within X K M a1 1 16 ) (fun v1 => ?_)
  refine z_ifeq h89 rfl ?_ ?_
  · refine z_kill h89 rfl (ls' := [zU, zU, zU]) rfl ?_
    refine z_iconst h89 rfl ?_
    exact z_iret h89 rfl (fun _ q => q)
  · refine z_iload h89 rfl rfl (Or.inl rfl) ?_
    refine z_iconst h89 rfl ?_
    refine z_iconst h89 rfl ?_
    refine z_cs (a := 123) (b := 0) (l := [104, 3]) (as := [zi a2, zi 1, zi 16]) (lsE := [zi a2, zi 1, zi 16]) (st' := []) (val := fun p => some (zi p)) (mem := fun _ => M) h89 rfl ⟨rfl, rfl, rfl, Nat.le_of_ble_eq_true rfl, Nat.le_of_ble_eq_true rfl, rfl⟩ (t_qbs_within X K M a2 1 16 ) (fun v2 => ?_)
    refine z_ifne h89 rfl ?_ ?_
    · refine z_kill h89 rfl (ls' := [zU, zU, zU]) rfl ?_
      refine z_iconst h89 rfl ?_
      exact z_iret h89 rfl (fun _ q => q)
    · refine z_aload h89 rfl rfl (Or.inl rfl) (by omega) ?_
      refine z_getr (a := 11) (b := 0) (l := [14, 15]) h89 rfl (fun r3 g_r3 => ?_)
      refine z_iload h89 rfl rfl (Or.inl rfl) ?_
      refine z_putf (a := 2) (b := 0) (l := [108, 7]) h89 rfl (fun M4 => ?_)
      refine z_aload h89 rfl rfl (Or.inl rfl) (by omega) ?_
      refine z_getr (a := 11) (b := 0) (l := [14, 15]) h89 rfl (fun r5 g_r5 => ?_)
      refine z_iload h89 rfl rfl (Or.inl rfl) ?_
      refine z_putf (a := 2) (b := 1) (l := [111, 7]) h89 rfl (fun M6 => ?_)
      refine z_aload h89 rfl rfl (Or.inl rfl) (by omega) ?_
      refine z_getr (a := 11) (b := 0) (l := [14, 15]) h89 rfl (fun r7 g_r7 => ?_)
      refine z_getr (a := 2) (b := 6) (l := [18, 7]) h89 rfl (fun r8 g_r8 => ?_)
      refine z_iconst h89 rfl ?_
      refine z_cs (a := 1) (b := 0) (l := [114, 2]) (as := [zr r8, zi 0]) (lsE := [zr r8, zi 0, zU, zU]) (st' := []) (val := fun _ => none) (mem := fun p => p) h89 rfl ⟨rfl, rfl, rfl, Nat.le_of_ble_eq_true rfl, Nat.le_of_ble_eq_true rfl, rfl⟩ (t_qar_fillI X n K M6 r8 0 (by omega)) (fun M9 => ?_)
      refine z_iconst h89 rfl ?_
      exact z_iret h89 rfl (fun _ q => q)
set_option maxRecDepth 20000 in
theorem t_qbs_banks (X : Int × (Int → Int)) (n : Nat) (K : zK) (M : zM) (self a1 : Int) (g_self : 1 ≤ self) : Rz X 90 (0, [zr self, zi a1, zU], [], M, K) (qbs_banks n K M self a1) (fun e P => P (some (zi e.1), e.2, K)) := by
  have h90 : zT 90 = zt90 := rfl
  unfold qbs_banks
  refine z_iload h90 rfl rfl (Or.inl rfl) ?_
  refine z_iconst h90 rfl ?_
  refine z_iconst h90 rfl ?_
  refine z_cs (a := 123) (b := 0) (l := [104, 3]) (as := [zi a1, zi 1, zi 17]) (lsE := [zi a1, zi 1, zi 17]) (st' := []) (val := fun p => some (zi p)) (mem := fun _ => M) h90 rfl ⟨rfl, rfl, rfl, Nat.le_of_ble_eq_true rfl, Nat.le_of_ble_eq_true rfl, rfl⟩ (t_qbs_within X K M a1 1 17 ) (fun v1 => ?_)
  refine z_ifne h90 rfl ?_ ?_
  · refine z_iconst h90 rfl ?_
    exact z_iret h90 rfl (fun _ q => q)
  · refine z_aload h90 rfl rfl (Or.inl rfl) (by omega) ?_
    refine z_getr (a := 11) (b := 0) (l := [14, 15]) h90 rfl (fun r2 g_r2 => ?_)
    refine z_getf (a := 2) (b := 2) (l := [120, 7]) h90 rfl (fun v3 => ?_)
    refine z_istore h90 rfl (Or.inl rfl) (ls' := [zr self, zi a1, zi v3]) rfl ?_
    refine z_aload h90 rfl rfl (Or.inl rfl) (by omega) ?_
    refine z_getr (a := 11) (b := 0) (l := [14, 15]) h90 rfl (fun r4 g_r4 => ?_)
    refine z_iload h90 rfl rfl (Or.inl rfl) ?_
    refine z_putf (a := 2) (b := 2) (l := [120, 7]) h90 rfl (fun M5 => ?_)
    refine z_aload h90 rfl rfl (Or.inl rfl) (by omega) ?_
    refine z_getr (a := 11) (b := 0) (l := [14, 15]) h90 rfl (fun r6 g_r6 => ?_)
    refine z_getr (a := 2) (b := 6) (l := [18, 7]) h90 rfl (fun r7 g_r7 => ?_)
    refine z_iconst h90 rfl ?_
    refine z_cs (a := 1) (b := 0) (l := [114, 2]) (as := [zr r7, zi 0]) (lsE := [zr r7, zi 0, zU, zU]) (st' := []) (val := fun _ => none) (mem := fun p => p) h90 rfl ⟨rfl, rfl, rfl, Nat.le_of_ble_eq_true rfl, Nat.le_of_ble_eq_true rfl, rfl⟩ (t_qar_fillI X n K M5 r7 0 (by omega)) (fun M8 => ?_)
    refine z_iload h90 rfl rfl (Or.inl rfl) ?_
    exact z_iret h90 rfl (fun _ q => q)
set_option maxRecDepth 20000 in
theorem t_qbs_law (X : Int × (Int → Int)) (K : zK) (M : zM) (self a1 a2 a3 : Int) (g_self : 1 ≤ self) : Rz X 91 (0, [zr self, zi a1, zi a2, zi a3, zU], [], M, K) (qbs_law K M self a1 a2 a3) (fun e P => P (some (zi e.1), e.2, K)) := by
  have h91 : zT 91 = zt91 := rfl
  unfold qbs_law
  refine z_iload h91 rfl rfl (Or.inl rfl) ?_
  refine z_iconst h91 rfl ?_
  refine z_iconst h91 rfl ?_
  refine z_cs (a := 123) (b := 0) (l := [104, 3]) (as := [zi a1, zi 0, zi 2]) (lsE := [zi a1, zi 0, zi 2]) (st' := []) (val := fun p => some (zi p)) (mem := fun _ => M) h91 rfl ⟨rfl, rfl, rfl, Nat.le_of_ble_eq_true rfl, Nat.le_of_ble_eq_true rfl, rfl⟩ (t_qbs_within X K M a1 0 2 ) (fun v1 => ?_)
  refine z_ifne h91 rfl ?_ ?_
  · refine z_iconst h91 rfl ?_
    exact z_iret h91 rfl (fun _ q => q)
  · refine z_iload h91 rfl rfl (Or.inl rfl) ?_
    refine z_iconst h91 rfl ?_
    refine Rz.esc (t := fun j2 => (30, [zr self, zi a1, zU, zU, zU], [], j2, K)) ?_ (fun j2 => ?_)
    · refine z_iceq h91 rfl ?_ ?_
      · refine z_kill h91 rfl (ls' := [zr self, zi a1, zU, zU, zU]) rfl ?_
        exact Rz.here fun _ q => q
      · refine z_iload h91 rfl rfl (Or.inl rfl) ?_
        refine z_iconst h91 rfl ?_
        refine z_iconst h91 rfl ?_
        refine z_cs (a := 123) (b := 0) (l := [104, 3]) (as := [zi a2, zi 0, zi 16]) (lsE := [zi a2, zi 0, zi 16]) (st' := []) (val := fun p => some (zi p)) (mem := fun _ => M) h91 rfl ⟨rfl, rfl, rfl, Nat.le_of_ble_eq_true rfl, Nat.le_of_ble_eq_true rfl, rfl⟩ (t_qbs_within X K M a2 0 16 ) (fun v7 => ?_)
        refine z_ifeq h91 rfl ?_ ?_
        · refine z_kill h91 rfl (ls' := [zU, zU, zU, zU, zU]) rfl ?_
          refine z_iconst h91 rfl ?_
          exact z_iret h91 rfl (fun _ q => q)
        · refine z_iload h91 rfl rfl (Or.inl rfl) ?_
          refine z_iconst h91 rfl ?_
          refine z_iconst h91 rfl ?_
          refine z_cs (a := 123) (b := 0) (l := [104, 3]) (as := [zi a3, zi 0, zi 16]) (lsE := [zi a3, zi 0, zi 16]) (st' := []) (val := fun p => some (zi p)) (mem := fun _ => M) h91 rfl ⟨rfl, rfl, rfl, Nat.le_of_ble_eq_true rfl, Nat.le_of_ble_eq_true rfl, rfl⟩ (t_qbs_within X K M a3 0 16 ) (fun v8 => ?_)
          refine z_ifne h91 rfl ?_ ?_
          · refine z_kill h91 rfl (ls' := [zU, zU, zU, zU, zU]) rfl ?_
            refine z_iconst h91 rfl ?_
            exact z_iret h91 rfl (fun _ q => q)
          · refine z_aload h91 rfl rfl (Or.inl rfl) (by omega) ?_
            refine z_getr (a := 11) (b := 0) (l := [14, 15]) h91 rfl (fun r9 g_r9 => ?_)
            refine z_iload h91 rfl rfl (Or.inl rfl) ?_
            refine z_putf (a := 2) (b := 4) (l := [123, 7]) h91 rfl (fun M10 => ?_)
            refine z_aload h91 rfl rfl (Or.inl rfl) (by omega) ?_
            refine z_getr (a := 11) (b := 0) (l := [14, 15]) h91 rfl (fun r11 g_r11 => ?_)
            refine z_iload h91 rfl rfl (Or.inl rfl) ?_
            refine z_putf (a := 2) (b := 5) (l := [126, 7]) h91 rfl (fun M12 => ?_)
            refine z_kill h91 rfl (ls' := [zr self, zi a1, zU, zU, zU]) rfl ?_
            exact Rz.here fun _ q => q
    · (try dsimp only)
      refine z_aload h91 rfl rfl (Or.inl rfl) (by omega) ?_
      refine z_getr (a := 11) (b := 0) (l := [14, 15]) h91 rfl (fun r3 g_r3 => ?_)
      refine z_getf (a := 2) (b := 3) (l := [129, 7]) h91 rfl (fun v4 => ?_)
      refine z_istore h91 rfl (Or.inr rfl) (ls' := [zr self, zi a1, zU, zU, zi v4]) rfl ?_
      refine z_aload h91 rfl rfl (Or.inl rfl) (by omega) ?_
      refine z_getr (a := 11) (b := 0) (l := [14, 15]) h91 rfl (fun r5 g_r5 => ?_)
      refine z_iload h91 rfl rfl (Or.inl rfl) ?_
      refine z_putf (a := 2) (b := 3) (l := [129, 7]) h91 rfl (fun M6 => ?_)
      refine z_iload h91 rfl rfl (Or.inr rfl) ?_
      exact z_iret h91 rfl (fun _ q => q)
set_option maxRecDepth 20000 in
theorem t_qbs_lay (X : Int × (Int → Int)) (K : zK) (M : zM) (self a1 a2 a3 : Int) (g_self : 1 ≤ self) : Rz X 92 (0, [zr self, zi a1, zi a2, zi a3, zU], [], M, K) (qbs_lay K M self a1 a2 a3) (fun e P => P (some (zi e.1), e.2, K)) := by
  have h92 : zT 92 = zt92 := rfl
  unfold qbs_lay
  refine z_aload h92 rfl rfl (Or.inl rfl) (by omega) ?_
  refine z_getr (a := 11) (b := 0) (l := [14, 15]) h92 rfl (fun r1 g_r1 => ?_)
  refine z_iload h92 rfl rfl (Or.inl rfl) ?_
  refine z_iload h92 rfl rfl (Or.inl rfl) ?_
  refine z_cv (a := 24) (b := 0) (l := [132, 3, 2, 7]) (as := [zi a1, zi a2]) (lsE := [zr r1, zi a1, zi a2]) (st' := []) (val := fun p => some (zi p)) (mem := fun _ => M) h92 rfl ⟨rfl, rfl, rfl, Nat.le_of_ble_eq_true rfl, Nat.le_of_ble_eq_true rfl, rfl⟩ (fun g1 => (t_qla_has X K M r1 a1 a2 (by omega))) (fun v2 => ?_)
  refine z_ifeq h92 rfl ?_ ?_
  · refine z_kill h92 rfl (ls' := [zU, zU, zU, zU, zU]) rfl ?_
    refine z_iconst h92 rfl ?_
    exact z_iret h92 rfl (fun _ q => q)
  · refine z_iload h92 rfl rfl (Or.inl rfl) ?_
    refine z_iconst h92 rfl ?_
    refine z_aload h92 rfl rfl (Or.inl rfl) (by omega) ?_
    refine z_getr (a := 11) (b := 0) (l := [14, 15]) h92 rfl (fun r3 g_r3 => ?_)
    refine z_getf (a := 2) (b := 2) (l := [120, 7]) h92 rfl (fun v4 => ?_)
    refine z_iconst h92 rfl ?_
    refine z_isub h92 rfl ?_
    refine z_cs (a := 123) (b := 0) (l := [104, 3]) (as := [zi a3, zi 0, zi (v4 - 1)]) (lsE := [zi a3, zi 0, zi (v4 - 1)]) (st' := []) (val := fun p => some (zi p)) (mem := fun _ => M) h92 rfl ⟨rfl, rfl, rfl, Nat.le_of_ble_eq_true rfl, Nat.le_of_ble_eq_true rfl, rfl⟩ (t_qbs_within X K M a3 0 (v4 - 1) ) (fun v5 => ?_)
    refine z_ifne h92 rfl ?_ ?_
    · refine z_kill h92 rfl (ls' := [zU, zU, zU, zU, zU]) rfl ?_
      refine z_iconst h92 rfl ?_
      exact z_iret h92 rfl (fun _ q => q)
    · refine z_aload h92 rfl rfl (Or.inl rfl) (by omega) ?_
      refine z_getr (a := 11) (b := 0) (l := [14, 15]) h92 rfl (fun r6 g_r6 => ?_)
      refine z_getr (a := 2) (b := 6) (l := [18, 7]) h92 rfl (fun r7 g_r7 => ?_)
      refine z_iload h92 rfl rfl (Or.inl rfl) ?_
      refine z_iload h92 rfl rfl (Or.inl rfl) ?_
      refine z_cs (a := 126) (b := 0) (l := [136, 2]) (as := [zi a1, zi a2]) (lsE := [zi a1, zi a2]) (st' := [zr r7]) (val := fun p => some (zi p)) (mem := fun _ => M) h92 rfl ⟨rfl, rfl, rfl, Nat.le_of_ble_eq_true rfl, Nat.le_of_ble_eq_true rfl, rfl⟩ (t_qbs_spot X K M a1 a2 ) (fun v8 => ?_)
      refine z_iald h92 rfl (fun v9 => ?_)
      refine z_istore h92 rfl (Or.inr rfl) (ls' := [zr self, zi a1, zi a2, zi a3, zi v9]) rfl ?_
      refine z_aload h92 rfl rfl (Or.inl rfl) (by omega) ?_
      refine z_getr (a := 11) (b := 0) (l := [14, 15]) h92 rfl (fun r10 g_r10 => ?_)
      refine z_getr (a := 2) (b := 6) (l := [18, 7]) h92 rfl (fun r11 g_r11 => ?_)
      refine z_iload h92 rfl rfl (Or.inl rfl) ?_
      refine z_iload h92 rfl rfl (Or.inl rfl) ?_
      refine z_cs (a := 126) (b := 0) (l := [136, 2]) (as := [zi a1, zi a2]) (lsE := [zi a1, zi a2]) (st' := [zr r11]) (val := fun p => some (zi p)) (mem := fun _ => M) h92 rfl ⟨rfl, rfl, rfl, Nat.le_of_ble_eq_true rfl, Nat.le_of_ble_eq_true rfl, rfl⟩ (t_qbs_spot X K M a1 a2 ) (fun v12 => ?_)
      refine z_iload h92 rfl rfl (Or.inl rfl) ?_
      refine z_iast h92 rfl (fun M13 => ?_)
      refine z_iload h92 rfl rfl (Or.inr rfl) ?_
      exact z_iret h92 rfl (fun _ q => q)
set_option maxRecDepth 20000 in
theorem t_qbs_cell (X : Int × (Int → Int)) (n : Nat) (K : zK) (M : zM) (self a1 a2 a3 : Int) (g_self : 1 ≤ self) : Rz X 93 (0, [zr self, zi a1, zi a2, zi a3], [], M, K) (qbs_cell n K M self a1 a2 a3) (fun e P => P (some (zi e), M, K)) := by
  have h93 : zT 93 = zt93 := rfl
  unfold qbs_cell
  refine z_aload h93 rfl rfl (Or.inl rfl) (by omega) ?_
  refine z_getr (a := 11) (b := 0) (l := [14, 15]) h93 rfl (fun r1 g_r1 => ?_)
  refine z_iload h93 rfl rfl (Or.inl rfl) ?_
  refine z_iload h93 rfl rfl (Or.inl rfl) ?_
  refine z_cv (a := 24) (b := 0) (l := [132, 3, 2, 7]) (as := [zi a1, zi a2]) (lsE := [zr r1, zi a1, zi a2]) (st' := []) (val := fun p => some (zi p)) (mem := fun _ => M) h93 rfl ⟨rfl, rfl, rfl, Nat.le_of_ble_eq_true rfl, Nat.le_of_ble_eq_true rfl, rfl⟩ (fun g1 => (t_qla_has X K M r1 a1 a2 (by omega))) (fun v2 => ?_)
  refine z_ifeq h93 rfl ?_ ?_
  · refine z_kill h93 rfl (ls' := [zU, zU, zU, zU]) rfl ?_
    refine z_iconst h93 rfl ?_
    exact z_iret h93 rfl (fun _ q => q)
  · refine z_iload h93 rfl rfl (Or.inl rfl) ?_
    refine z_iconst h93 rfl ?_
    refine z_iconst h93 rfl ?_
    refine z_cs (a := 123) (b := 0) (l := [104, 3]) (as := [zi a3, zi 0, zi 2]) (lsE := [zi a3, zi 0, zi 2]) (st' := []) (val := fun p => some (zi p)) (mem := fun _ => M) h93 rfl ⟨rfl, rfl, rfl, Nat.le_of_ble_eq_true rfl, Nat.le_of_ble_eq_true rfl, rfl⟩ (t_qbs_within X K M a3 0 2 ) (fun v3 => ?_)
    refine z_ifne h93 rfl ?_ ?_
    · refine z_kill h93 rfl (ls' := [zU, zU, zU, zU]) rfl ?_
      refine z_iconst h93 rfl ?_
      exact z_iret h93 rfl (fun _ q => q)
    · refine z_iload h93 rfl rfl (Or.inl rfl) ?_
      refine z_ifne h93 rfl ?_ ?_
      · refine z_aload h93 rfl rfl (Or.inl rfl) (by omega) ?_
        refine z_getr (a := 11) (b := 0) (l := [14, 15]) h93 rfl (fun r4 g_r4 => ?_)
        refine z_iload h93 rfl rfl (Or.inl rfl) ?_
        refine z_iload h93 rfl rfl (Or.inl rfl) ?_
        refine z_cv (a := 26) (b := 0) (l := [140, 3, 2, 7]) (as := [zi a1, zi a2]) (lsE := [zr r4, zi a1, zi a2, zU]) (st' := []) (val := fun p => some (zi p)) (mem := fun _ => M) h93 rfl ⟨rfl, rfl, rfl, Nat.le_of_ble_eq_true rfl, Nat.le_of_ble_eq_true rfl, rfl⟩ (fun g1 => (t_qla_bankAt X K M r4 a1 a2 (by omega))) (fun v5 => ?_)
        exact z_iret h93 rfl (fun _ q => q)
      · refine z_iload h93 rfl rfl (Or.inl rfl) ?_
        refine z_iconst h93 rfl ?_
        refine z_icne h93 rfl ?_ ?_
        · refine z_aload h93 rfl rfl (Or.inl rfl) (by omega) ?_
          refine z_getr (a := 11) (b := 0) (l := [14, 15]) h93 rfl (fun r6 g_r6 => ?_)
          refine z_iload h93 rfl rfl (Or.inl rfl) ?_
          refine z_iload h93 rfl rfl (Or.inl rfl) ?_
          refine z_cv (a := 28) (b := 0) (l := [143, 3, 2, 7]) (as := [zi a1, zi a2]) (lsE := [zr r6, zi a1, zi a2, zU, zU, zU]) (st' := []) (val := fun p => some (zi p)) (mem := fun _ => M) h93 rfl ⟨rfl, rfl, rfl, Nat.le_of_ble_eq_true rfl, Nat.le_of_ble_eq_true rfl, rfl⟩ (fun g1 => (t_qla_placeOf X n K M r6 a1 a2 (by omega))) (fun v7 => ?_)
          refine z_goto h93 rfl ?_
          refine z_kill h93 rfl (ls' := [zU, zU, zU, zU]) rfl ?_
          exact z_iret h93 rfl (fun _ q => q)
        · refine z_aload h93 rfl rfl (Or.inl rfl) (by omega) ?_
          refine z_getr (a := 11) (b := 0) (l := [14, 15]) h93 rfl (fun r8 g_r8 => ?_)
          refine z_getr (a := 2) (b := 6) (l := [18, 7]) h93 rfl (fun r9 g_r9 => ?_)
          refine z_iload h93 rfl rfl (Or.inl rfl) ?_
          refine z_iload h93 rfl rfl (Or.inl rfl) ?_
          refine z_cs (a := 126) (b := 0) (l := [136, 2]) (as := [zi a1, zi a2]) (lsE := [zi a1, zi a2]) (st' := [zr r9]) (val := fun p => some (zi p)) (mem := fun _ => M) h93 rfl ⟨rfl, rfl, rfl, Nat.le_of_ble_eq_true rfl, Nat.le_of_ble_eq_true rfl, rfl⟩ (t_qbs_spot X K M a1 a2 ) (fun v10 => ?_)
          refine z_iald h93 rfl (fun v11 => ?_)
          refine z_kill h93 rfl (ls' := [zU, zU, zU, zU]) rfl ?_
          exact z_iret h93 rfl (fun _ q => q)
set_option maxRecDepth 20000 in
theorem t_qbs_bank (X : Int × (Int → Int)) (n : Nat) (K : zK) (M : zM) (self a1 a2 : Int) (g_self : 1 ≤ self) : Rz X 94 (0, [zr self, zi a1, zi a2], [], M, K) (qbs_bank n K M self a1 a2) (fun e P => P (some (zi e), M, K)) := by
  have h94 : zT 94 = zt94 := rfl
  unfold qbs_bank
  refine z_iload h94 rfl rfl (Or.inl rfl) ?_
  refine z_iconst h94 rfl ?_
  refine z_aload h94 rfl rfl (Or.inl rfl) (by omega) ?_
  refine z_getr (a := 11) (b := 0) (l := [14, 15]) h94 rfl (fun r1 g_r1 => ?_)
  refine z_getf (a := 2) (b := 2) (l := [120, 7]) h94 rfl (fun v2 => ?_)
  refine z_iconst h94 rfl ?_
  refine z_isub h94 rfl ?_
  refine z_cs (a := 123) (b := 0) (l := [104, 3]) (as := [zi a1, zi 0, zi (v2 - 1)]) (lsE := [zi a1, zi 0, zi (v2 - 1)]) (st' := []) (val := fun p => some (zi p)) (mem := fun _ => M) h94 rfl ⟨rfl, rfl, rfl, Nat.le_of_ble_eq_true rfl, Nat.le_of_ble_eq_true rfl, rfl⟩ (t_qbs_within X K M a1 0 (v2 - 1) ) (fun v3 => ?_)
  refine z_ifeq h94 rfl ?_ ?_
  · refine z_kill h94 rfl (ls' := [zU, zU, zU]) rfl ?_
    refine z_iconst h94 rfl ?_
    exact z_iret h94 rfl (fun _ q => q)
  · refine z_iload h94 rfl rfl (Or.inl rfl) ?_
    refine z_iconst h94 rfl ?_
    refine z_iconst h94 rfl ?_
    refine z_cs (a := 123) (b := 0) (l := [104, 3]) (as := [zi a2, zi 0, zi 2]) (lsE := [zi a2, zi 0, zi 2]) (st' := []) (val := fun p => some (zi p)) (mem := fun _ => M) h94 rfl ⟨rfl, rfl, rfl, Nat.le_of_ble_eq_true rfl, Nat.le_of_ble_eq_true rfl, rfl⟩ (t_qbs_within X K M a2 0 2 ) (fun v4 => ?_)
    refine z_ifne h94 rfl ?_ ?_
    · refine z_kill h94 rfl (ls' := [zU, zU, zU]) rfl ?_
      refine z_iconst h94 rfl ?_
      exact z_iret h94 rfl (fun _ q => q)
    · refine z_iload h94 rfl rfl (Or.inl rfl) ?_
      refine z_ifne h94 rfl ?_ ?_
      · refine z_aload h94 rfl rfl (Or.inl rfl) (by omega) ?_
        refine z_getr (a := 11) (b := 0) (l := [14, 15]) h94 rfl (fun r5 g_r5 => ?_)
        refine z_iload h94 rfl rfl (Or.inl rfl) ?_
        refine z_cv (a := 29) (b := 0) (l := [146, 2, 2, 7]) (as := [zi a1]) (lsE := [zr r5, zi a1, zU, zU]) (st' := []) (val := fun p => some (zi p)) (mem := fun _ => M) h94 rfl ⟨rfl, rfl, rfl, Nat.le_of_ble_eq_true rfl, Nat.le_of_ble_eq_true rfl, rfl⟩ (fun g1 => (t_qla_sizeOf X n K M r5 a1 (by omega))) (fun v6 => ?_)
        exact z_iret h94 rfl (fun _ q => q)
      · refine z_iload h94 rfl rfl (Or.inl rfl) ?_
        refine z_iconst h94 rfl ?_
        refine z_icne h94 rfl ?_ ?_
        · refine z_aload h94 rfl rfl (Or.inl rfl) (by omega) ?_
          refine z_getr (a := 11) (b := 0) (l := [14, 15]) h94 rfl (fun r7 g_r7 => ?_)
          refine z_iload h94 rfl rfl (Or.inl rfl) ?_
          refine z_cv (a := 30) (b := 0) (l := [150, 2, 2, 7]) (as := [zi a1]) (lsE := [zr r7, zi a1, zU]) (st' := []) (val := fun p => some (zi p)) (mem := fun _ => M) h94 rfl ⟨rfl, rfl, rfl, Nat.le_of_ble_eq_true rfl, Nat.le_of_ble_eq_true rfl, rfl⟩ (fun g1 => (t_qla_firstOf X n K M r7 a1 (by omega))) (fun v8 => ?_)
          refine z_goto h94 rfl ?_
          refine z_kill h94 rfl (ls' := [zU, zU, zU]) rfl ?_
          exact z_iret h94 rfl (fun _ q => q)
        · refine z_aload h94 rfl rfl (Or.inl rfl) (by omega) ?_
          refine z_getr (a := 11) (b := 0) (l := [14, 15]) h94 rfl (fun r9 g_r9 => ?_)
          refine z_iload h94 rfl rfl (Or.inl rfl) ?_
          refine z_cv (a := 31) (b := 0) (l := [153, 2, 2, 7]) (as := [zi a1]) (lsE := [zr r9, zi a1, zU]) (st' := []) (val := fun p => some (zi p)) (mem := fun _ => M) h94 rfl ⟨rfl, rfl, rfl, Nat.le_of_ble_eq_true rfl, Nat.le_of_ble_eq_true rfl, rfl⟩ (fun g1 => (t_qla_lastOf X n K M r9 a1 (by omega))) (fun v10 => ?_)
          refine z_kill h94 rfl (ls' := [zU, zU, zU]) rfl ?_
          exact z_iret h94 rfl (fun _ q => q)
set_option maxRecDepth 20000 in
theorem t_qbs_isShape (X : Int × (Int → Int)) (K : zK) (M : zM) (a0 a1 a2 : Int) : Rz X 124 (0, [zi a0, zi a1, zi a2], [], M, K) (qbs_isShape K M a0 a1 a2) (fun e P => P (some (zi e), M, K)) := by
  have h124 : zT 124 = zt124 := rfl
  unfold qbs_isShape
  refine z_iload h124 rfl rfl (Or.inl rfl) ?_
  refine z_iconst h124 rfl ?_
  refine z_iconst h124 rfl ?_
  refine z_cs (a := 123) (b := 0) (l := [104, 3]) (as := [zi a0, zi 0, zi 4]) (lsE := [zi a0, zi 0, zi 4]) (st' := []) (val := fun p => some (zi p)) (mem := fun _ => M) h124 rfl ⟨rfl, rfl, rfl, Nat.le_of_ble_eq_true rfl, Nat.le_of_ble_eq_true rfl, rfl⟩ (t_qbs_within X K M a0 0 4 ) (fun v1 => ?_)
  refine z_ifeq h124 rfl ?_ ?_
  · refine z_kill h124 rfl (ls' := [zU, zU, zU]) rfl ?_
    refine z_iconst h124 rfl ?_
    refine z_kill h124 rfl (ls' := [zU, zU, zU]) rfl ?_
    exact z_zret h124 rfl (Or.inl rfl) (fun _ q => q)
  · refine z_iload h124 rfl rfl (Or.inl rfl) ?_
    refine z_iconst h124 rfl ?_
    refine z_iconst h124 rfl ?_
    refine z_cs (a := 123) (b := 0) (l := [104, 3]) (as := [zi a1, zi 1, zi 16]) (lsE := [zi a1, zi 1, zi 16]) (st' := []) (val := fun p => some (zi p)) (mem := fun _ => M) h124 rfl ⟨rfl, rfl, rfl, Nat.le_of_ble_eq_true rfl, Nat.le_of_ble_eq_true rfl, rfl⟩ (t_qbs_within X K M a1 1 16 ) (fun v2 => ?_)
    refine z_ifeq h124 rfl ?_ ?_
    · refine z_kill h124 rfl (ls' := [zU, zU, zU]) rfl ?_
      refine z_iconst h124 rfl ?_
      refine z_kill h124 rfl (ls' := [zU, zU, zU]) rfl ?_
      exact z_zret h124 rfl (Or.inl rfl) (fun _ q => q)
    · refine z_iload h124 rfl rfl (Or.inl rfl) ?_
      refine z_iconst h124 rfl ?_
      refine z_iconst h124 rfl ?_
      refine z_cs (a := 123) (b := 0) (l := [104, 3]) (as := [zi a2, zi 1, zi 8]) (lsE := [zi a2, zi 1, zi 8]) (st' := []) (val := fun p => some (zi p)) (mem := fun _ => M) h124 rfl ⟨rfl, rfl, rfl, Nat.le_of_ble_eq_true rfl, Nat.le_of_ble_eq_true rfl, rfl⟩ (t_qbs_within X K M a2 1 8 ) (fun v3 => ?_)
      refine z_ifeq h124 rfl ?_ ?_
      · refine z_kill h124 rfl (ls' := [zU, zU, zU]) rfl ?_
        refine z_iconst h124 rfl ?_
        refine z_kill h124 rfl (ls' := [zU, zU, zU]) rfl ?_
        exact z_zret h124 rfl (Or.inl rfl) (fun _ q => q)
      · refine z_iconst h124 rfl ?_
        refine z_goto h124 rfl ?_
        refine z_kill h124 rfl (ls' := [zU, zU, zU]) rfl ?_
        exact z_zret h124 rfl (Or.inr rfl) (fun _ q => q)
set_option maxRecDepth 20000 in
theorem t_qbs_cut (X : Int × (Int → Int)) (n : Nat) (K : zK) (M : zM) (self a1 a2 a3 a4 a5 : Int) (g_self : 1 ≤ self) : Rz X 95 (0, [zr self, zi a1, zi a2, zi a3, zi a4, zi a5], [], M, K) (qbs_cut n K M self a1 a2 a3 a4 a5) (fun e P => P (some (zi e.1), e.2, K)) := by
  have h95 : zT 95 = zt95 := rfl
  unfold qbs_cut
  refine z_iload h95 rfl rfl (Or.inl rfl) ?_
  refine z_iload h95 rfl rfl (Or.inl rfl) ?_
  refine z_iload h95 rfl rfl (Or.inl rfl) ?_
  refine z_cs (a := 124) (b := 0) (l := [156, 3]) (as := [zi a1, zi a2, zi a3]) (lsE := [zi a1, zi a2, zi a3]) (st' := []) (val := fun p => some (zi p)) (mem := fun _ => M) h95 rfl ⟨rfl, rfl, rfl, Nat.le_of_ble_eq_true rfl, Nat.le_of_ble_eq_true rfl, rfl⟩ (t_qbs_isShape X K M a1 a2 a3 ) (fun v1 => ?_)
  refine z_ifne h95 rfl ?_ ?_
  · refine z_iconst h95 rfl ?_
    exact z_iret h95 rfl (fun _ q => q)
  · refine z_aload h95 rfl rfl (Or.inl rfl) (by omega) ?_
    refine z_getr (a := 11) (b := 2) (l := [28, 15]) h95 rfl (fun r2 g_r2 => ?_)
    refine z_iload h95 rfl rfl (Or.inl rfl) ?_
    refine z_iload h95 rfl rfl (Or.inl rfl) ?_
    refine z_iload h95 rfl rfl (Or.inl rfl) ?_
    refine z_cv (a := 55) (b := 0) (l := [159, 4, 6, 3]) (as := [zi a1, zi a2, zi a3]) (lsE := [zr r2, zi a1, zi a2, zi a3]) (st' := []) (val := fun _ => none) (mem := fun p => p) h95 rfl ⟨rfl, rfl, rfl, Nat.le_of_ble_eq_true rfl, Nat.le_of_ble_eq_true rfl, rfl⟩ (fun g1 => (t_qsh_become X K M r2 a1 a2 a3 (by omega))) (fun M3 => ?_)
    refine z_aload h95 rfl rfl (Or.inl rfl) (by omega) ?_
    refine z_getr (a := 11) (b := 2) (l := [28, 15]) h95 rfl (fun r4 g_r4 => ?_)
    refine z_aload h95 rfl rfl (Or.inl rfl) (by omega) ?_
    refine z_getr (a := 11) (b := 0) (l := [14, 15]) h95 rfl (fun r5 g_r5 => ?_)
    refine z_iload h95 rfl rfl (Or.inr rfl) ?_
    refine z_iload h95 rfl rfl (Or.inr rfl) ?_
    refine z_cv (a := 59) (b := 0) (l := [163, 4, 6, 3]) (as := [zr r5, zi a4, zi a5]) (lsE := [zr r4, zr r5, zi a4, zi a5, zU]) (st' := []) (val := fun p => some (zi p)) (mem := fun _ => M3) h95 rfl ⟨rfl, rfl, rfl, Nat.le_of_ble_eq_true rfl, Nat.le_of_ble_eq_true rfl, rfl⟩ (fun g1 => (t_qsh_fits X K M3 r4 r5 a4 a5 (by omega) (by omega))) (fun v6 => ?_)
    refine z_ifeq h95 rfl ?_ ?_
    · refine z_iconst h95 rfl ?_
      refine z_kill h95 rfl (ls' := [zU, zU, zU, zU, zU, zU]) rfl ?_
      exact z_iret h95 rfl (fun _ q => q)
    · refine z_aload h95 rfl rfl (Or.inl rfl) (by omega) ?_
      refine z_getr (a := 11) (b := 2) (l := [28, 15]) h95 rfl (fun r7 g_r7 => ?_)
      refine z_aload h95 rfl rfl (Or.inl rfl) (by omega) ?_
      refine z_getr (a := 11) (b := 0) (l := [14, 15]) h95 rfl (fun r8 g_r8 => ?_)
      refine z_iload h95 rfl rfl (Or.inr rfl) ?_
      refine z_iload h95 rfl rfl (Or.inr rfl) ?_
      refine z_aload h95 rfl rfl (Or.inl rfl) (by omega) ?_
      refine z_getr (a := 11) (b := 3) (l := [32, 15]) h95 rfl (fun r9 g_r9 => ?_)
      refine z_cv (a := 60) (b := 0) (l := [167, 5, 6, 3]) (as := [zr r8, zi a4, zi a5, zr r9]) (lsE := [zr r7, zr r8, zi a4, zi a5, zr r9, zU, zU, zU]) (st' := []) (val := fun p => some (zi p.1)) (mem := fun p => p.2) h95 rfl ⟨rfl, rfl, rfl, Nat.le_of_ble_eq_true rfl, Nat.le_of_ble_eq_true rfl, rfl⟩ (fun g1 => (t_qsh_beatsAt X n K M3 r7 r8 a4 a5 r9 (by omega) (by omega) (by omega))) (fun p10 => ?_)
      refine z_goto h95 rfl ?_
      refine z_kill h95 rfl (ls' := [zU, zU, zU, zU, zU, zU]) rfl ?_
      exact z_iret h95 rfl (fun _ q => q)
set_option maxRecDepth 20000 in
theorem t_qbs_cuts (X : Int × (Int → Int)) (n : Nat) (K : zK) (M : zM) (self a1 a2 a3 a4 : Int) (g_self : 1 ≤ self) : Rz X 96 (0, [zr self, zi a1, zi a2, zi a3, zi a4, zU, zU, zU, zU, zU, zU, zU, zU], [], M, K) (qbs_cuts n K M self a1 a2 a3 a4) (fun e P => P (some (zi e.1), e.2, K)) := by
  have h96 : zT 96 = zt96 := rfl
  unfold qbs_cuts
  refine z_iload h96 rfl rfl (Or.inl rfl) ?_
  refine z_iload h96 rfl rfl (Or.inl rfl) ?_
  refine z_iload h96 rfl rfl (Or.inl rfl) ?_
  refine z_cs (a := 124) (b := 0) (l := [156, 3]) (as := [zi a1, zi a2, zi a3]) (lsE := [zi a1, zi a2, zi a3]) (st' := []) (val := fun p => some (zi p)) (mem := fun _ => M) h96 rfl ⟨rfl, rfl, rfl, Nat.le_of_ble_eq_true rfl, Nat.le_of_ble_eq_true rfl, rfl⟩ (t_qbs_isShape X K M a1 a2 a3 ) (fun v1 => ?_)
  refine z_ifeq h96 rfl ?_ ?_
  · refine z_kill h96 rfl (ls' := [zU, zU, zU, zU, zU, zU, zU, zU, zU, zU, zU, zU, zU]) rfl ?_
    refine z_iconst h96 rfl ?_
    exact z_iret h96 rfl (fun _ q => q)
  · refine z_iload h96 rfl rfl (Or.inr rfl) ?_
    refine z_iconst h96 rfl ?_
    refine z_iconst h96 rfl ?_
    refine z_cs (a := 123) (b := 0) (l := [104, 3]) (as := [zi a4, zi 0, zi 4]) (lsE := [zi a4, zi 0, zi 4]) (st' := []) (val := fun p => some (zi p)) (mem := fun _ => M) h96 rfl ⟨rfl, rfl, rfl, Nat.le_of_ble_eq_true rfl, Nat.le_of_ble_eq_true rfl, rfl⟩ (t_qbs_within X K M a4 0 4 ) (fun v2 => ?_)
    refine z_ifne h96 rfl ?_ ?_
    · refine z_kill h96 rfl (ls' := [zU, zU, zU, zU, zU, zU, zU, zU, zU, zU, zU, zU, zU]) rfl ?_
      refine z_iconst h96 rfl ?_
      exact z_iret h96 rfl (fun _ q => q)
    · refine z_aload h96 rfl rfl (Or.inl rfl) (by omega) ?_
      refine z_getr (a := 11) (b := 2) (l := [28, 15]) h96 rfl (fun r3 g_r3 => ?_)
      refine z_iload h96 rfl rfl (Or.inl rfl) ?_
      refine z_iload h96 rfl rfl (Or.inl rfl) ?_
      refine z_iload h96 rfl rfl (Or.inl rfl) ?_
      refine z_cv (a := 55) (b := 0) (l := [159, 4, 6, 3]) (as := [zi a1, zi a2, zi a3]) (lsE := [zr r3, zi a1, zi a2, zi a3]) (st' := []) (val := fun _ => none) (mem := fun p => p) h96 rfl ⟨rfl, rfl, rfl, Nat.le_of_ble_eq_true rfl, Nat.le_of_ble_eq_true rfl, rfl⟩ (fun g1 => (t_qsh_become X K M r3 a1 a2 a3 (by omega))) (fun M4 => ?_)
      refine z_iconst h96 rfl ?_
      refine z_istore h96 rfl (Or.inr rfl) (ls' := [zr self, zi a1, zi a2, zi a3, zi a4, zi 0, zU, zU, zU, zU, zU, zU, zU]) rfl ?_
      refine z_iconst h96 rfl ?_
      refine z_istore h96 rfl (Or.inr rfl) (ls' := [zr self, zi a1, zi a2, zi a3, zi a4, zi 0, zi 0, zU, zU, zU, zU, zU, zU]) rfl ?_
      refine z_iconst h96 rfl ?_
      refine z_istore h96 rfl (Or.inr rfl) (ls' := [zr self, zi a1, zi a2, zi a3, zi a4, zi 0, zi 0, zi 0, zU, zU, zU, zU, zU]) rfl ?_
      refine z_iconst h96 rfl ?_
      refine z_istore h96 rfl (Or.inr rfl) (ls' := [zr self, zi a1, zi a2, zi a3, zi a4, zi 0, zi 0, zi 0, zi 0, zU, zU, zU, zU]) rfl ?_
      refine z_iconst h96 rfl ?_
      refine z_istore h96 rfl (Or.inr rfl) (ls' := [zr self, zi a1, zi a2, zi a3, zi a4, zi 0, zi 0, zi 0, zi 0, zi (-4), zU, zU, zU]) rfl ?_
      refine z_iconst h96 rfl ?_
      refine z_istore h96 rfl (Or.inr rfl) (ls' := [zr self, zi a1, zi a2, zi a3, zi a4, zi 0, zi 0, zi 0, zi 0, zi (-4), zi 0, zU, zU]) rfl ?_
      refine z_kill h96 rfl (ls' := [zr self, zU, zU, zU, zi a4, zi 0, zi 0, zi 0, zi 0, zi (-4), zi 0, zU, zU]) rfl ?_
      refine Rz.wh (hd := fun s5 => (30, [zr self, zU, zU, zU, zi a4, zi s5.1, zi s5.2.1, zi s5.2.2.1, zi s5.2.2.2.1, zi s5.2.2.2.2.1, zi s5.2.2.2.2.2.1, zU, zU], [], s5.2.2.2.2.2.2, K)) (fun s5 => ?_) n (0, 0, 0, 0, (-4), 0, M4)
      (try dsimp only)
      refine z_iload h96 rfl rfl (Or.inr rfl) ?_
      refine z_aload h96 rfl rfl (Or.inl rfl) (by omega) ?_
      refine z_getr (a := 11) (b := 0) (l := [14, 15]) h96 rfl (fun r6 g_r6 => ?_)
      refine z_getf (a := 2) (b := 0) (l := [108, 7]) h96 rfl (fun v7 => ?_)
      refine z_icge h96 rfl ?_ ?_
      · refine z_iload h96 rfl rfl (Or.inr rfl) ?_
        refine z_sw h96 rfl (fun hc => ?_) (fun hc => ?_)
        · rw [if_neg (show ¬ zw a4 = 0 by omega), if_neg (show ¬ zw a4 = 1 by omega), if_neg (show ¬ zw a4 = 2 by omega), if_neg (show ¬ zw a4 = 3 by omega)]
          refine z_iload h96 rfl rfl (Or.inr rfl) ?_
          exact z_iret h96 rfl (fun _ q => q)
        · rcases (show zw a4 = 0 ∨ zw a4 = 1 ∨ zw a4 = 2 ∨ zw a4 = 3 by omega) with hq | hq | hq | hq
          · rw [if_pos hq]
            refine ⟨89, by rw [hq]; rfl, ?_⟩
            show Rz X 96 (89, [zr self, zU, zU, zU, zi a4, zi s5.1, zi s5.2.1, zi s5.2.2.1, zi s5.2.2.2.1, zi s5.2.2.2.2.1, zi s5.2.2.2.2.2.1, zU, zU], [], s5.2.2.2.2.2.2, K) _ _
            refine z_iload h96 rfl rfl (Or.inr rfl) ?_
            exact z_iret h96 rfl (fun _ q => q)
          · rw [if_neg (show ¬ zw a4 = 0 by omega), if_pos hq]
            refine ⟨91, by rw [hq]; rfl, ?_⟩
            show Rz X 96 (91, [zr self, zU, zU, zU, zi a4, zi s5.1, zi s5.2.1, zi s5.2.2.1, zi s5.2.2.2.1, zi s5.2.2.2.2.1, zi s5.2.2.2.2.2.1, zU, zU], [], s5.2.2.2.2.2.2, K) _ _
            refine z_iload h96 rfl rfl (Or.inr rfl) ?_
            exact z_iret h96 rfl (fun _ q => q)
          · rw [if_neg (show ¬ zw a4 = 0 by omega), if_neg (show ¬ zw a4 = 1 by omega), if_pos hq]
            refine ⟨93, by rw [hq]; rfl, ?_⟩
            show Rz X 96 (93, [zr self, zU, zU, zU, zi a4, zi s5.1, zi s5.2.1, zi s5.2.2.1, zi s5.2.2.2.1, zi s5.2.2.2.2.1, zi s5.2.2.2.2.2.1, zU, zU], [], s5.2.2.2.2.2.2, K) _ _
            refine z_iload h96 rfl rfl (Or.inr rfl) ?_
            exact z_iret h96 rfl (fun _ q => q)
          · rw [if_neg (show ¬ zw a4 = 0 by omega), if_neg (show ¬ zw a4 = 1 by omega), if_neg (show ¬ zw a4 = 2 by omega), if_pos hq]
            refine ⟨95, by rw [hq]; rfl, ?_⟩
            show Rz X 96 (95, [zr self, zU, zU, zU, zi a4, zi s5.1, zi s5.2.1, zi s5.2.2.1, zi s5.2.2.2.1, zi s5.2.2.2.2.1, zi s5.2.2.2.2.2.1, zU, zU], [], s5.2.2.2.2.2.2, K) _ _
            refine z_iload h96 rfl rfl (Or.inr rfl) ?_
            exact z_iret h96 rfl (fun _ q => q)
      · refine z_iconst h96 rfl ?_
        refine z_istore h96 rfl (Or.inr rfl) (ls' := [zr self, zU, zU, zU, zi a4, zi s5.1, zi s5.2.1, zi s5.2.2.1, zi s5.2.2.2.1, zi s5.2.2.2.2.1, zi s5.2.2.2.2.2.1, zi 0, zU]) rfl ?_
        refine z_kill h96 rfl (ls' := [zr self, zU, zU, zU, zi a4, zi s5.1, zi s5.2.1, zi s5.2.2.1, zi s5.2.2.2.1, zi s5.2.2.2.2.1, zi s5.2.2.2.2.2.1, zi 0, zU]) rfl ?_
        refine Rz.bind (t := fun e9 => (85, [zr self, zU, zU, zU, zi a4, zi e9.1, zi e9.2.1, zi e9.2.2.1, zi e9.2.2.2.1, zi e9.2.2.2.2.1, zi s5.2.2.2.2.2.1, zi e9.2.2.2.2.2.1, zU], [], e9.2.2.2.2.2.2, K)) ?_ (fun e9 => ?_)
        · refine Rz.wh (hd := fun s8 => (37, [zr self, zU, zU, zU, zi a4, zi s8.1, zi s8.2.1, zi s8.2.2.1, zi s8.2.2.2.1, zi s8.2.2.2.2.1, zi s5.2.2.2.2.2.1, zi s8.2.2.2.2.2.1, zU], [], s8.2.2.2.2.2.2, K)) (fun s8 => ?_) n (s5.1, s5.2.1, s5.2.2.1, s5.2.2.2.1, s5.2.2.2.2.1, 0, s5.2.2.2.2.2.2)
          (try dsimp only)
          refine z_iload h96 rfl rfl (Or.inr rfl) ?_
          refine z_aload h96 rfl rfl (Or.inl rfl) (by omega) ?_
          refine z_getr (a := 11) (b := 0) (l := [14, 15]) h96 rfl (fun r10 g_r10 => ?_)
          refine z_getf (a := 2) (b := 1) (l := [111, 7]) h96 rfl (fun v11 => ?_)
          refine z_icge h96 rfl ?_ ?_
          · exact Rz.here fun _ q => q
          · refine z_aload h96 rfl rfl (Or.inl rfl) (by omega) ?_
            refine z_getr (a := 11) (b := 2) (l := [28, 15]) h96 rfl (fun r12 g_r12 => ?_)
            refine z_aload h96 rfl rfl (Or.inl rfl) (by omega) ?_
            refine z_getr (a := 11) (b := 0) (l := [14, 15]) h96 rfl (fun r13 g_r13 => ?_)
            refine z_iload h96 rfl rfl (Or.inr rfl) ?_
            refine z_iload h96 rfl rfl (Or.inr rfl) ?_
            refine z_cv (a := 59) (b := 0) (l := [163, 4, 6, 3]) (as := [zr r13, zi s5.2.2.2.2.2.1, zi s8.2.2.2.2.2.1]) (lsE := [zr r12, zr r13, zi s5.2.2.2.2.2.1, zi s8.2.2.2.2.2.1, zU]) (st' := []) (val := fun p => some (zi p)) (mem := fun _ => s8.2.2.2.2.2.2) h96 rfl ⟨rfl, rfl, rfl, Nat.le_of_ble_eq_true rfl, Nat.le_of_ble_eq_true rfl, rfl⟩ (fun g1 => (t_qsh_fits X K s8.2.2.2.2.2.2 r12 r13 s5.2.2.2.2.2.1 s8.2.2.2.2.2.1 (by omega) (by omega))) (fun v14 => ?_)
            refine Rz.bind (t := fun j15 => (83, [zr self, zU, zU, zU, zi a4, zi j15.1, zi j15.2.1, zi j15.2.2.1, zi j15.2.2.2.1, zi j15.2.2.2.2.1, zi s5.2.2.2.2.2.1, zi s8.2.2.2.2.2.1, zU], [], j15.2.2.2.2.2, K)) ?_ (fun j15 => ?_)
            · refine z_ifeq h96 rfl ?_ ?_
              · refine z_kill h96 rfl (ls' := [zr self, zU, zU, zU, zi a4, zi s8.1, zi s8.2.1, zi s8.2.2.1, zi s8.2.2.2.1, zi s8.2.2.2.2.1, zi s5.2.2.2.2.2.1, zi s8.2.2.2.2.2.1, zU]) rfl ?_
                exact Rz.here fun _ q => q
              · refine z_aload h96 rfl rfl (Or.inl rfl) (by omega) ?_
                refine z_getr (a := 11) (b := 2) (l := [28, 15]) h96 rfl (fun r16 g_r16 => ?_)
                refine z_aload h96 rfl rfl (Or.inl rfl) (by omega) ?_
                refine z_getr (a := 11) (b := 0) (l := [14, 15]) h96 rfl (fun r17 g_r17 => ?_)
                refine z_iload h96 rfl rfl (Or.inr rfl) ?_
                refine z_iload h96 rfl rfl (Or.inr rfl) ?_
                refine z_aload h96 rfl rfl (Or.inl rfl) (by omega) ?_
                refine z_getr (a := 11) (b := 3) (l := [32, 15]) h96 rfl (fun r18 g_r18 => ?_)
                refine z_cv (a := 60) (b := 0) (l := [167, 5, 6, 3]) (as := [zr r17, zi s5.2.2.2.2.2.1, zi s8.2.2.2.2.2.1, zr r18]) (lsE := [zr r16, zr r17, zi s5.2.2.2.2.2.1, zi s8.2.2.2.2.2.1, zr r18, zU, zU, zU]) (st' := []) (val := fun p => some (zi p.1)) (mem := fun p => p.2) h96 rfl ⟨rfl, rfl, rfl, Nat.le_of_ble_eq_true rfl, Nat.le_of_ble_eq_true rfl, rfl⟩ (fun g1 => (t_qsh_beatsAt X n K s8.2.2.2.2.2.2 r16 r17 s5.2.2.2.2.2.1 s8.2.2.2.2.2.1 r18 (by omega) (by omega) (by omega))) (fun p19 => ?_)
                refine z_istore h96 rfl (Or.inr rfl) (ls' := [zr self, zU, zU, zU, zi a4, zi s8.1, zi s8.2.1, zi s8.2.2.1, zi s8.2.2.2.1, zi s8.2.2.2.2.1, zi s5.2.2.2.2.2.1, zi s8.2.2.2.2.2.1, zi p19.1]) rfl ?_
                refine z_iinc h96 rfl rfl (ls' := [zr self, zU, zU, zU, zi a4, zi (s8.1 + 1), zi s8.2.1, zi s8.2.2.1, zi s8.2.2.2.1, zi s8.2.2.2.2.1, zi s5.2.2.2.2.2.1, zi s8.2.2.2.2.2.1, zi p19.1]) rfl ?_
                refine z_iload h96 rfl rfl (Or.inr rfl) ?_
                refine z_iload h96 rfl rfl (Or.inr rfl) ?_
                refine z_iconst h96 rfl ?_
                refine Rz.bind (t := fun j20 => (68, [zr self, zU, zU, zU, zi a4, zi (s8.1 + 1), zU, zi s8.2.2.1, zi s8.2.2.2.1, zi s8.2.2.2.2.1, zi s5.2.2.2.2.2.1, zi s8.2.2.2.2.2.1, zi p19.1], [zi j20, zi s8.2.1], p19.2, K)) ?_ (fun j20 => ?_)
                · refine z_icne h96 rfl ?_ ?_
                  · refine z_iconst h96 rfl ?_
                    refine z_goto h96 rfl ?_
                    refine z_kill h96 rfl (ls' := [zr self, zU, zU, zU, zi a4, zi (s8.1 + 1), zU, zi s8.2.2.1, zi s8.2.2.2.1, zi s8.2.2.2.2.1, zi s5.2.2.2.2.2.1, zi s8.2.2.2.2.2.1, zi p19.1]) rfl ?_
                    exact Rz.here fun _ q => q
                  · refine z_iconst h96 rfl ?_
                    refine z_kill h96 rfl (ls' := [zr self, zU, zU, zU, zi a4, zi (s8.1 + 1), zU, zi s8.2.2.1, zi s8.2.2.2.1, zi s8.2.2.2.2.1, zi s5.2.2.2.2.2.1, zi s8.2.2.2.2.2.1, zi p19.1]) rfl ?_
                    exact Rz.here fun _ q => q
                · (try dsimp only)
                  refine z_iadd h96 rfl ?_
                  refine z_istoreL (lsf := fun x21 => [zr self, zU, zU, zU, zi a4, zi (s8.1 + 1), zi x21, zi s8.2.2.1, zi s8.2.2.2.1, zi s8.2.2.2.2.1, zi s5.2.2.2.2.2.1, zi s8.2.2.2.2.2.1, zi p19.1]) h96 rfl (Or.inr rfl) (fun _ => rfl) (fun x21 => ?_)
                  (try dsimp only)
                  refine z_iload h96 rfl rfl (Or.inr rfl) ?_
                  refine z_iload h96 rfl rfl (Or.inr rfl) ?_
                  refine z_iadd h96 rfl ?_
                  refine z_istoreL (lsf := fun x22 => [zr self, zU, zU, zU, zi a4, zi (s8.1 + 1), zi x21, zi s8.2.2.1, zi x22, zi s8.2.2.2.2.1, zi s5.2.2.2.2.2.1, zi s8.2.2.2.2.2.1, zi p19.1]) h96 rfl (Or.inr rfl) (fun _ => rfl) (fun x22 => ?_)
                  (try dsimp only)
                  refine z_iload h96 rfl rfl (Or.inr rfl) ?_
                  refine z_iload h96 rfl rfl (Or.inr rfl) ?_
                  refine z_icle h96 rfl ?_ ?_
                  · refine z_kill h96 rfl (ls' := [zr self, zU, zU, zU, zi a4, zi (s8.1 + 1), zi x21, zi s8.2.2.1, zi x22, zi s8.2.2.2.2.1, zi s5.2.2.2.2.2.1, zi s8.2.2.2.2.2.1, zU]) rfl ?_
                    exact Rz.here fun _ q => q
                  · refine z_iload h96 rfl rfl (Or.inr rfl) ?_
                    refine z_istore h96 rfl (Or.inr rfl) (ls' := [zr self, zU, zU, zU, zi a4, zi (s8.1 + 1), zi x21, zi p19.1, zi x22, zi s8.2.2.2.2.1, zi s5.2.2.2.2.2.1, zi s8.2.2.2.2.2.1, zi p19.1]) rfl ?_
                    refine z_iload h96 rfl rfl (Or.inr rfl) ?_
                    refine z_iload h96 rfl rfl (Or.inr rfl) ?_
                    refine z_cs (a := 126) (b := 0) (l := [136, 2]) (as := [zi s5.2.2.2.2.2.1, zi s8.2.2.2.2.2.1]) (lsE := [zi s5.2.2.2.2.2.1, zi s8.2.2.2.2.2.1]) (st' := []) (val := fun p => some (zi p)) (mem := fun _ => p19.2) h96 rfl ⟨rfl, rfl, rfl, Nat.le_of_ble_eq_true rfl, Nat.le_of_ble_eq_true rfl, rfl⟩ (t_qbs_spot X K p19.2 s5.2.2.2.2.2.1 s8.2.2.2.2.2.1 ) (fun v23 => ?_)
                    refine z_istore h96 rfl (Or.inr rfl) (ls' := [zr self, zU, zU, zU, zi a4, zi (s8.1 + 1), zi x21, zi p19.1, zi x22, zi v23, zi s5.2.2.2.2.2.1, zi s8.2.2.2.2.2.1, zi p19.1]) rfl ?_
                    refine z_kill h96 rfl (ls' := [zr self, zU, zU, zU, zi a4, zi (s8.1 + 1), zi x21, zi p19.1, zi x22, zi v23, zi s5.2.2.2.2.2.1, zi s8.2.2.2.2.2.1, zU]) rfl ?_
                    exact Rz.here fun _ q => q
            · (try dsimp only)
              refine z_iinc h96 rfl rfl (ls' := [zr self, zU, zU, zU, zi a4, zi j15.1, zi j15.2.1, zi j15.2.2.1, zi j15.2.2.2.1, zi j15.2.2.2.2.1, zi s5.2.2.2.2.2.1, zi (s8.2.2.2.2.2.1 + 1), zU]) rfl ?_
              refine z_goto h96 rfl ?_
              refine z_kill h96 rfl (ls' := [zr self, zU, zU, zU, zi a4, zi j15.1, zi j15.2.1, zi j15.2.2.1, zi j15.2.2.2.1, zi j15.2.2.2.2.1, zi s5.2.2.2.2.2.1, zi (s8.2.2.2.2.2.1 + 1), zU]) rfl ?_
              exact Rz.here fun _ q => q
        · (try dsimp only)
          refine z_iinc h96 rfl rfl (ls' := [zr self, zU, zU, zU, zi a4, zi e9.1, zi e9.2.1, zi e9.2.2.1, zi e9.2.2.2.1, zi e9.2.2.2.2.1, zi (s5.2.2.2.2.2.1 + 1), zi e9.2.2.2.2.2.1, zU]) rfl ?_
          refine z_goto h96 rfl ?_
          refine z_kill h96 rfl (ls' := [zr self, zU, zU, zU, zi a4, zi e9.1, zi e9.2.1, zi e9.2.2.1, zi e9.2.2.2.1, zi e9.2.2.2.2.1, zi (s5.2.2.2.2.2.1 + 1), zU, zU]) rfl ?_
          exact Rz.here fun _ q => q
set_option maxRecDepth 20000 in
theorem t_qbs_wish (X : Int × (Int → Int)) (K : zK) (M : zM) (self a1 a2 a3 : Int) (g_self : 1 ≤ self) : Rz X 97 (0, [zr self, zi a1, zi a2, zi a3], [], M, K) (qbs_wish K M self a1 a2 a3) (fun e P => P (some (zi e.1), e.2, K)) := by
  have h97 : zT 97 = zt97 := rfl
  unfold qbs_wish
  refine z_iload h97 rfl rfl (Or.inl rfl) ?_
  refine z_iload h97 rfl rfl (Or.inl rfl) ?_
  refine z_iload h97 rfl rfl (Or.inl rfl) ?_
  refine z_cs (a := 124) (b := 0) (l := [156, 3]) (as := [zi a1, zi a2, zi a3]) (lsE := [zi a1, zi a2, zi a3]) (st' := []) (val := fun p => some (zi p)) (mem := fun _ => M) h97 rfl ⟨rfl, rfl, rfl, Nat.le_of_ble_eq_true rfl, Nat.le_of_ble_eq_true rfl, rfl⟩ (t_qbs_isShape X K M a1 a2 a3 ) (fun v1 => ?_)
  refine z_ifne h97 rfl ?_ ?_
  · refine z_iconst h97 rfl ?_
    exact z_iret h97 rfl (fun _ q => q)
  · refine z_aload h97 rfl rfl (Or.inl rfl) (by omega) ?_
    refine z_getr (a := 11) (b := 4) (l := [38, 15]) h97 rfl (fun r2 g_r2 => ?_)
    refine z_iload h97 rfl rfl (Or.inl rfl) ?_
    refine z_iload h97 rfl rfl (Or.inl rfl) ?_
    refine z_iload h97 rfl rfl (Or.inl rfl) ?_
    refine z_cv (a := 84) (b := 0) (l := [171, 4, 10, 2]) (as := [zi a1, zi a2, zi a3]) (lsE := [zr r2, zi a1, zi a2, zi a3]) (st' := []) (val := fun p => some (zi p.1)) (mem := fun p => p.2) h97 rfl ⟨rfl, rfl, rfl, Nat.le_of_ble_eq_true rfl, Nat.le_of_ble_eq_true rfl, rfl⟩ (fun g1 => (t_qwi_add X K M r2 a1 a2 a3 (by omega))) (fun p3 => ?_)
    exact z_iret h97 rfl (fun _ q => q)
set_option maxRecDepth 20000 in
theorem t_qbs_forget (X : Int × (Int → Int)) (K : zK) (M : zM) (self : Int) (g_self : 1 ≤ self) : Rz X 98 (0, [zr self, zU], [], M, K) (qbs_forget K M self) (fun e P => P (some (zi e.1), e.2, K)) := by
  have h98 : zT 98 = zt98 := rfl
  unfold qbs_forget
  refine z_aload h98 rfl rfl (Or.inl rfl) (by omega) ?_
  refine z_getr (a := 11) (b := 4) (l := [38, 15]) h98 rfl (fun r1 g_r1 => ?_)
  refine z_getf (a := 10) (b := 1) (l := [175, 2]) h98 rfl (fun v2 => ?_)
  refine z_istore h98 rfl (Or.inl rfl) (ls' := [zr self, zi v2]) rfl ?_
  refine z_aload h98 rfl rfl (Or.inl rfl) (by omega) ?_
  refine z_getr (a := 11) (b := 4) (l := [38, 15]) h98 rfl (fun r3 g_r3 => ?_)
  refine z_iconst h98 rfl ?_
  refine z_putf (a := 10) (b := 1) (l := [175, 2]) h98 rfl (fun M4 => ?_)
  refine z_iload h98 rfl rfl (Or.inl rfl) ?_
  exact z_iret h98 rfl (fun _ q => q)
set_option maxRecDepth 20000 in
theorem t_qbs_granted (X : Int × (Int → Int)) (n : Nat) (K : zK) (M : zM) (self : Int) (g_self : 1 ≤ self) : Rz X 99 (0, [zr self], [], M, K) (qbs_granted n K M self) (fun e P => P (some (zi e), M, K)) := by
  have h99 : zT 99 = zt99 := rfl
  unfold qbs_granted
  refine z_aload h99 rfl rfl (Or.inl rfl) (by omega) ?_
  refine z_getr (a := 11) (b := 4) (l := [38, 15]) h99 rfl (fun r1 g_r1 => ?_)
  refine z_aload h99 rfl rfl (Or.inl rfl) (by omega) ?_
  refine z_getr (a := 11) (b := 0) (l := [14, 15]) h99 rfl (fun r2 g_r2 => ?_)
  refine z_cv (a := 85) (b := 0) (l := [178, 2, 10, 2]) (as := [zr r2]) (lsE := [zr r1, zr r2, zU, zU]) (st' := []) (val := fun p => some (zi p)) (mem := fun _ => M) h99 rfl ⟨rfl, rfl, rfl, Nat.le_of_ble_eq_true rfl, Nat.le_of_ble_eq_true rfl, rfl⟩ (fun g1 => (t_qwi_grantedBy X n K M r1 r2 (by omega) (by omega))) (fun v3 => ?_)
  exact z_iret h99 rfl (fun _ q => q)
set_option maxRecDepth 20000 in
theorem t_qbs_fewest (X : Int × (Int → Int)) (n : Nat) (K : zK) (M : zM) (self a1 a2 : Int) (g_self : 1 ≤ self) : Rz X 100 (0, [zr self, zi a1, zi a2, zU, zU], [], M, K) (qbs_fewest n K M self a1 a2) (fun e P => P (some (zi e.1), e.2, K)) := by
  have h100 : zT 100 = zt100 := rfl
  unfold qbs_fewest
  refine z_iload h100 rfl rfl (Or.inl rfl) ?_
  refine z_iconst h100 rfl ?_
  refine z_iconst h100 rfl ?_
  refine z_cs (a := 123) (b := 0) (l := [104, 3]) (as := [zi a1, zi 0, zi 1]) (lsE := [zi a1, zi 0, zi 1]) (st' := []) (val := fun p => some (zi p)) (mem := fun _ => M) h100 rfl ⟨rfl, rfl, rfl, Nat.le_of_ble_eq_true rfl, Nat.le_of_ble_eq_true rfl, rfl⟩ (t_qbs_within X K M a1 0 1 ) (fun v1 => ?_)
  refine z_ifeq h100 rfl ?_ ?_
  · refine z_kill h100 rfl (ls' := [zU, zU, zU, zU, zU]) rfl ?_
    refine z_iconst h100 rfl ?_
    exact z_iret h100 rfl (fun _ q => q)
  · refine z_iload h100 rfl rfl (Or.inl rfl) ?_
    refine z_iconst h100 rfl ?_
    refine z_iconst h100 rfl ?_
    refine z_cs (a := 123) (b := 0) (l := [104, 3]) (as := [zi a2, zi 0, zi 3]) (lsE := [zi a2, zi 0, zi 3]) (st' := []) (val := fun p => some (zi p)) (mem := fun _ => M) h100 rfl ⟨rfl, rfl, rfl, Nat.le_of_ble_eq_true rfl, Nat.le_of_ble_eq_true rfl, rfl⟩ (t_qbs_within X K M a2 0 3 ) (fun v2 => ?_)
    refine z_ifne h100 rfl ?_ ?_
    · refine z_kill h100 rfl (ls' := [zU, zU, zU, zU, zU]) rfl ?_
      refine z_iconst h100 rfl ?_
      exact z_iret h100 rfl (fun _ q => q)
    · refine z_aload h100 rfl rfl (Or.inl rfl) (by omega) ?_
      refine z_getr (a := 11) (b := 1) (l := [22, 15]) h100 rfl (fun r3 g_r3 => ?_)
      refine z_aload h100 rfl rfl (Or.inl rfl) (by omega) ?_
      refine z_getr (a := 11) (b := 0) (l := [14, 15]) h100 rfl (fun r4 g_r4 => ?_)
      refine z_cv (a := 22) (b := 0) (l := [182, 2, 2, 7]) (as := [zr r4]) (lsE := [zr r3, zr r4]) (st' := []) (val := fun _ => none) (mem := fun p => p) h100 rfl ⟨rfl, rfl, rfl, Nat.le_of_ble_eq_true rfl, Nat.le_of_ble_eq_true rfl, rfl⟩ (fun g1 => (t_qla_takeTable X K M r3 r4 (by omega) (by omega))) (fun M5 => ?_)
      refine z_aload h100 rfl rfl (Or.inl rfl) (by omega) ?_
      refine z_getr (a := 11) (b := 5) (l := [45, 15]) h100 rfl (fun r6 g_r6 => ?_)
      refine z_iconst h100 rfl ?_
      refine z_putf (a := 1) (b := 0) (l := [186, 3]) h100 rfl (fun M7 => ?_)
      refine z_iconst h100 rfl ?_
      refine z_istore h100 rfl (Or.inl rfl) (ls' := [zr self, zi a1, zi a2, zi 0, zU]) rfl ?_
      refine z_aload h100 rfl rfl (Or.inl rfl) (by omega) ?_
      refine z_getr (a := 11) (b := 4) (l := [38, 15]) h100 rfl (fun r8 g_r8 => ?_)
      refine z_aload h100 rfl rfl (Or.inl rfl) (by omega) ?_
      refine z_getr (a := 11) (b := 0) (l := [14, 15]) h100 rfl (fun r9 g_r9 => ?_)
      refine z_cv (a := 87) (b := 0) (l := [189, 2, 10, 2]) (as := [zr r9]) (lsE := [zr r8, zr r9, zU, zU]) (st' := []) (val := fun p => some (zi p)) (mem := fun _ => M7) h100 rfl ⟨rfl, rfl, rfl, Nat.le_of_ble_eq_true rfl, Nat.le_of_ble_eq_true rfl, rfl⟩ (fun g1 => (t_qwi_largestCut X n K M7 r8 r9 (by omega) (by omega))) (fun v10 => ?_)
      refine z_istore h100 rfl (Or.inr rfl) (ls' := [zr self, zi a1, zi a2, zi 0, zi v10]) rfl ?_
      refine Rz.bind (t := fun e12 => (72, [zr self, zi a1, zi a2, zi e12.1, zi e12.2.1], [], e12.2.2, K)) ?_ (fun e12 => ?_)
      · refine Rz.wh (hd := fun s11 => (29, [zr self, zi a1, zi a2, zi s11.1, zi s11.2.1], [], s11.2.2, K)) (fun s11 => ?_) n (0, v10, M7)
        (try dsimp only)
        refine z_iload h100 rfl rfl (Or.inr rfl) ?_
        refine z_iconst h100 rfl ?_
        refine z_icgt h100 rfl ?_ ?_
        · exact Rz.here fun _ q => q
        · refine z_aload h100 rfl rfl (Or.inl rfl) (by omega) ?_
          refine z_getr (a := 11) (b := 5) (l := [45, 15]) h100 rfl (fun r21 g_r21 => ?_)
          refine z_getf (a := 1) (b := 0) (l := [186, 3]) h100 rfl (fun v22 => ?_)
          refine z_ifne h100 rfl ?_ ?_
          · refine z_iload h100 rfl rfl (Or.inr rfl) ?_
            refine z_istore h100 rfl (Or.inl rfl) (ls' := [zr self, zi a1, zi a2, zi s11.2.1, zi s11.2.1]) rfl ?_
            refine z_aload h100 rfl rfl (Or.inl rfl) (by omega) ?_
            refine z_getr (a := 11) (b := 5) (l := [45, 15]) h100 rfl (fun r23 g_r23 => ?_)
            refine z_aload h100 rfl rfl (Or.inl rfl) (by omega) ?_
            refine z_getr (a := 11) (b := 1) (l := [22, 15]) h100 rfl (fun r24 g_r24 => ?_)
            refine z_iload h100 rfl rfl (Or.inl rfl) ?_
            refine z_iload h100 rfl rfl (Or.inl rfl) ?_
            refine z_aload h100 rfl rfl (Or.inl rfl) (by omega) ?_
            refine z_getr (a := 11) (b := 4) (l := [38, 15]) h100 rfl (fun r25 g_r25 => ?_)
            refine z_cv (a := 20) (b := 0) (l := [192, 5, 1, 3]) (as := [zr r24, zi a1, zi s11.2.1, zr r25]) (lsE := [zr r23, zr r24, zi a1, zi s11.2.1, zr r25, zU, zU]) (st' := []) (val := fun _ => none) (mem := fun p => p) h100 rfl ⟨rfl, rfl, rfl, Nat.le_of_ble_eq_true rfl, Nat.le_of_ble_eq_true rfl, rfl⟩ (fun g1 => (t_qsl_weighAll X n K s11.2.2 r23 r24 a1 s11.2.1 r25 (by omega) (by omega) (by omega))) (fun M26 => ?_)
            refine z_iinc h100 rfl rfl (ls' := [zr self, zi a1, zi a2, zi s11.2.1, zi (s11.2.1 + 1)]) rfl ?_
            refine z_goto h100 rfl ?_
            exact Rz.here fun _ q => q
          · exact Rz.here fun _ q => q
      · (try dsimp only)
        refine z_kill h100 rfl (ls' := [zr self, zU, zi a2, zi e12.1, zU]) rfl ?_
        refine z_aload h100 rfl rfl (Or.inl rfl) (by omega) ?_
        refine z_getr (a := 11) (b := 5) (l := [45, 15]) h100 rfl (fun r13 g_r13 => ?_)
        refine z_getf (a := 1) (b := 0) (l := [186, 3]) h100 rfl (fun v14 => ?_)
        refine z_ifne h100 rfl ?_ ?_
        · refine z_iconst h100 rfl ?_
          exact z_iret h100 rfl (fun _ q => q)
        · refine z_iload h100 rfl rfl (Or.inl rfl) ?_
          refine z_sw h100 rfl (fun hc => ?_) (fun hc => ?_)
          · rw [if_neg (show ¬ zw a2 = 0 by omega), if_neg (show ¬ zw a2 = 1 by omega), if_neg (show ¬ zw a2 = 2 by omega)]
            refine z_aload h100 rfl rfl (Or.inl rfl) (by omega) ?_
            refine z_getr (a := 11) (b := 5) (l := [45, 15]) h100 rfl (fun r15 g_r15 => ?_)
            refine z_getf (a := 1) (b := 2) (l := [199, 3]) h100 rfl (fun v16 => ?_)
            exact z_iret h100 rfl (fun _ q => q)
          · rcases (show zw a2 = 0 ∨ zw a2 = 1 ∨ zw a2 = 2 by omega) with hq | hq | hq
            · rw [if_pos hq]
              refine ⟨57, by rw [hq]; rfl, ?_⟩
              show Rz X 100 (57, [zr self, zU, zi a2, zi e12.1, zU], [], e12.2.2, K) _ _
              refine z_iload h100 rfl rfl (Or.inl rfl) ?_
              exact z_iret h100 rfl (fun _ q => q)
            · rw [if_neg (show ¬ zw a2 = 0 by omega), if_pos hq]
              refine ⟨59, by rw [hq]; rfl, ?_⟩
              show Rz X 100 (59, [zr self, zU, zi a2, zi e12.1, zU], [], e12.2.2, K) _ _
              refine z_aload h100 rfl rfl (Or.inl rfl) (by omega) ?_
              refine z_getr (a := 11) (b := 5) (l := [45, 15]) h100 rfl (fun r17 g_r17 => ?_)
              refine z_getf (a := 1) (b := 0) (l := [186, 3]) h100 rfl (fun v18 => ?_)
              exact z_iret h100 rfl (fun _ q => q)
            · rw [if_neg (show ¬ zw a2 = 0 by omega), if_neg (show ¬ zw a2 = 1 by omega), if_pos hq]
              refine ⟨63, by rw [hq]; rfl, ?_⟩
              show Rz X 100 (63, [zr self, zU, zi a2, zi e12.1, zU], [], e12.2.2, K) _ _
              refine z_aload h100 rfl rfl (Or.inl rfl) (by omega) ?_
              refine z_getr (a := 11) (b := 5) (l := [45, 15]) h100 rfl (fun r19 g_r19 => ?_)
              refine z_getf (a := 1) (b := 1) (l := [196, 3]) h100 rfl (fun v20 => ?_)
              exact z_iret h100 rfl (fun _ q => q)
set_option maxRecDepth 20000 in
theorem t_qbs_bound (X : Int × (Int → Int)) (n : Nat) (K : zK) (M : zM) (self : Int) (g_self : 1 ≤ self) : Rz X 101 (0, [zr self], [], M, K) (qbs_bound n K M self) (fun e P => P (some (zi e), M, K)) := by
  have h101 : zT 101 = zt101 := rfl
  unfold qbs_bound
  refine z_aload h101 rfl rfl (Or.inl rfl) (by omega) ?_
  refine z_getr (a := 11) (b := 4) (l := [38, 15]) h101 rfl (fun r1 g_r1 => ?_)
  refine z_aload h101 rfl rfl (Or.inl rfl) (by omega) ?_
  refine z_getr (a := 11) (b := 0) (l := [14, 15]) h101 rfl (fun r2 g_r2 => ?_)
  refine z_cv (a := 87) (b := 0) (l := [189, 2, 10, 2]) (as := [zr r2]) (lsE := [zr r1, zr r2, zU, zU]) (st' := []) (val := fun p => some (zi p)) (mem := fun _ => M) h101 rfl ⟨rfl, rfl, rfl, Nat.le_of_ble_eq_true rfl, Nat.le_of_ble_eq_true rfl, rfl⟩ (fun g1 => (t_qwi_largestCut X n K M r1 r2 (by omega) (by omega))) (fun v3 => ?_)
  exact z_iret h101 rfl (fun _ q => q)
set_option maxRecDepth 20000 in
theorem t_qbs_free (X : Int × (Int → Int)) (n : Nat) (K : zK) (M : zM) (self : Int) (g_self : 1 ≤ self) : Rz X 102 (0, [zr self, zU], [], M, K) (qbs_free n K M self) (fun e P => P (some (zi e.1), e.2, K)) := by
  have h102 : zT 102 = zt102 := rfl
  unfold qbs_free
  refine z_aload h102 rfl rfl (Or.inl rfl) (by omega) ?_
  refine z_getr (a := 11) (b := 0) (l := [14, 15]) h102 rfl (fun r1 g_r1 => ?_)
  refine z_cv (a := 25) (b := 0) (l := [202, 1, 2, 7]) (as := []) (lsE := [zr r1]) (st' := []) (val := fun p => some (zi p)) (mem := fun _ => M) h102 rfl ⟨rfl, rfl, rfl, Nat.le_of_ble_eq_true rfl, Nat.le_of_ble_eq_true rfl, rfl⟩ (fun g1 => (t_qla_cellCount X K M r1 (by omega))) (fun v2 => ?_)
  refine z_iconst h102 rfl ?_
  refine z_icle h102 rfl ?_ ?_
  · refine z_aload h102 rfl rfl (Or.inl rfl) (by omega) ?_
    refine z_getr (a := 11) (b := 6) (l := [52, 15]) h102 rfl (fun r3 g_r3 => ?_)
    refine z_aload h102 rfl rfl (Or.inl rfl) (by omega) ?_
    refine z_getr (a := 11) (b := 0) (l := [14, 15]) h102 rfl (fun r4 g_r4 => ?_)
    refine z_aload h102 rfl rfl (Or.inl rfl) (by omega) ?_
    refine z_getr (a := 11) (b := 4) (l := [38, 15]) h102 rfl (fun r5 g_r5 => ?_)
    refine z_cv (a := 10) (b := 0) (l := [206, 3, 0, 5]) (as := [zr r4, zr r5]) (lsE := [zr r3, zr r4, zr r5, zU]) (st' := []) (val := fun _ => none) (mem := fun p => p) h102 rfl ⟨rfl, rfl, rfl, Nat.le_of_ble_eq_true rfl, Nat.le_of_ble_eq_true rfl, rfl⟩ (fun g1 => (t_qfs_gather X n K M r3 r4 r5 (by omega) (by omega) (by omega))) (fun M6 => ?_)
    refine z_aload h102 rfl rfl (Or.inl rfl) (by omega) ?_
    refine z_getr (a := 11) (b := 6) (l := [52, 15]) h102 rfl (fun r7 g_r7 => ?_)
    refine z_aload h102 rfl rfl (Or.inl rfl) (by omega) ?_
    refine z_getr (a := 11) (b := 0) (l := [14, 15]) h102 rfl (fun r8 g_r8 => ?_)
    refine z_getf (a := 2) (b := 2) (l := [120, 7]) h102 rfl (fun v9 => ?_)
    refine z_cv (a := 14) (b := 0) (l := [210, 2, 0, 5]) (as := [zi v9]) (lsE := [zr r7, zi v9, zU, zU, zU]) (st' := []) (val := fun p => some (zi p.1)) (mem := fun p => p.2) h102 rfl ⟨rfl, rfl, rfl, Nat.le_of_ble_eq_true rfl, Nat.le_of_ble_eq_true rfl, rfl⟩ (fun g1 => (t_qfs_seek X n K M6 r7 v9 (by omega))) (fun p10 => ?_)
    refine z_istore h102 rfl (Or.inl rfl) (ls' := [zr self, zi p10.1]) rfl ?_
    refine z_iload h102 rfl rfl (Or.inl rfl) ?_
    refine z_ifle h102 rfl ?_ ?_
    · refine z_kill h102 rfl (ls' := [zU, zi p10.1]) rfl ?_
      refine z_iload h102 rfl rfl (Or.inl rfl) ?_
      exact z_iret h102 rfl (fun _ q => q)
    · refine z_aload h102 rfl rfl (Or.inl rfl) (by omega) ?_
      refine z_getr (a := 11) (b := 6) (l := [52, 15]) h102 rfl (fun r11 g_r11 => ?_)
      refine z_aload h102 rfl rfl (Or.inl rfl) (by omega) ?_
      refine z_getr (a := 11) (b := 0) (l := [14, 15]) h102 rfl (fun r12 g_r12 => ?_)
      refine z_cv (a := 18) (b := 0) (l := [213, 2, 0, 5]) (as := [zr r12]) (lsE := [zr r11, zr r12, zU]) (st' := []) (val := fun _ => none) (mem := fun p => p) h102 rfl ⟨rfl, rfl, rfl, Nat.le_of_ble_eq_true rfl, Nat.le_of_ble_eq_true rfl, rfl⟩ (fun g1 => (t_qfs_copyTo X n K p10.2 r11 r12 (by omega) (by omega))) (fun M13 => ?_)
      refine z_kill h102 rfl (ls' := [zU, zi p10.1]) rfl ?_
      refine z_iload h102 rfl rfl (Or.inl rfl) ?_
      exact z_iret h102 rfl (fun _ q => q)
  · refine z_iconst h102 rfl ?_
    exact z_iret h102 rfl (fun _ q => q)
set_option maxRecDepth 20000 in
theorem t_qbs_freeBanks (X : Int × (Int → Int)) (n : Nat) (K : zK) (M : zM) (self : Int) (g_self : 1 ≤ self) : Rz X 103 (0, [zr self, zU, zU], [], M, K) (qbs_freeBanks n K M self) (fun e P => P (some (zi e.1), e.2, K)) := by
  have h103 : zT 103 = zt103 := rfl
  unfold qbs_freeBanks
  refine z_aload h103 rfl rfl (Or.inl rfl) (by omega) ?_
  refine z_getr (a := 11) (b := 0) (l := [14, 15]) h103 rfl (fun r1 g_r1 => ?_)
  refine z_cv (a := 25) (b := 0) (l := [202, 1, 2, 7]) (as := []) (lsE := [zr r1]) (st' := []) (val := fun p => some (zi p)) (mem := fun _ => M) h103 rfl ⟨rfl, rfl, rfl, Nat.le_of_ble_eq_true rfl, Nat.le_of_ble_eq_true rfl, rfl⟩ (fun g1 => (t_qla_cellCount X K M r1 (by omega))) (fun v2 => ?_)
  refine z_iconst h103 rfl ?_
  refine z_icle h103 rfl ?_ ?_
  · refine z_aload h103 rfl rfl (Or.inl rfl) (by omega) ?_
    refine z_getr (a := 11) (b := 6) (l := [52, 15]) h103 rfl (fun r3 g_r3 => ?_)
    refine z_aload h103 rfl rfl (Or.inl rfl) (by omega) ?_
    refine z_getr (a := 11) (b := 0) (l := [14, 15]) h103 rfl (fun r4 g_r4 => ?_)
    refine z_aload h103 rfl rfl (Or.inl rfl) (by omega) ?_
    refine z_getr (a := 11) (b := 4) (l := [38, 15]) h103 rfl (fun r5 g_r5 => ?_)
    refine z_cv (a := 10) (b := 0) (l := [206, 3, 0, 5]) (as := [zr r4, zr r5]) (lsE := [zr r3, zr r4, zr r5, zU]) (st' := []) (val := fun _ => none) (mem := fun p => p) h103 rfl ⟨rfl, rfl, rfl, Nat.le_of_ble_eq_true rfl, Nat.le_of_ble_eq_true rfl, rfl⟩ (fun g1 => (t_qfs_gather X n K M r3 r4 r5 (by omega) (by omega) (by omega))) (fun M6 => ?_)
    refine z_iconst h103 rfl ?_
    refine z_istore h103 rfl (Or.inl rfl) (ls' := [zr self, zi 1, zU]) rfl ?_
    refine z_kill h103 rfl (ls' := [zr self, zi 1, zU]) rfl ?_
    refine Rz.wh (hd := fun s7 => (16, [zr self, zi s7.1, zU], [], s7.2, K)) (fun s7 => ?_) n (1, M6)
    (try dsimp only)
    refine z_iload h103 rfl rfl (Or.inl rfl) ?_
    refine z_iconst h103 rfl ?_
    refine z_icgt h103 rfl ?_ ?_
    · refine z_iconst h103 rfl ?_
      exact z_iret h103 rfl (fun _ q => q)
    · refine z_aload h103 rfl rfl (Or.inl rfl) (by omega) ?_
      refine z_getr (a := 11) (b := 6) (l := [52, 15]) h103 rfl (fun r8 g_r8 => ?_)
      refine z_iload h103 rfl rfl (Or.inl rfl) ?_
      refine z_cv (a := 14) (b := 0) (l := [210, 2, 0, 5]) (as := [zi s7.1]) (lsE := [zr r8, zi s7.1, zU, zU, zU]) (st' := []) (val := fun p => some (zi p.1)) (mem := fun p => p.2) h103 rfl ⟨rfl, rfl, rfl, Nat.le_of_ble_eq_true rfl, Nat.le_of_ble_eq_true rfl, rfl⟩ (fun g1 => (t_qfs_seek X n K s7.2 r8 s7.1 (by omega))) (fun p9 => ?_)
      refine z_istore h103 rfl (Or.inl rfl) (ls' := [zr self, zi s7.1, zi p9.1]) rfl ?_
      refine z_iload h103 rfl rfl (Or.inl rfl) ?_
      refine z_ifle h103 rfl ?_ ?_
      · refine z_iload h103 rfl rfl (Or.inl rfl) ?_
        refine z_iconst h103 rfl ?_
        refine z_icne h103 rfl ?_ ?_
        · refine z_iconst h103 rfl ?_
          exact z_iret h103 rfl (fun _ q => q)
        · refine z_iinc h103 rfl rfl (ls' := [zr self, zi (s7.1 + 1), zi p9.1]) rfl ?_
          refine z_goto h103 rfl ?_
          refine z_kill h103 rfl (ls' := [zr self, zi (s7.1 + 1), zU]) rfl ?_
          exact Rz.here fun _ q => q
      · refine z_iload h103 rfl rfl (Or.inl rfl) ?_
        exact z_iret h103 rfl (fun _ q => q)
  · refine z_iconst h103 rfl ?_
    exact z_iret h103 rfl (fun _ q => q)
set_option maxRecDepth 20000 in
theorem t_qbs_rest (X : Int × (Int → Int)) (K : zK) (M : zM) (self a1 : Int) (g_self : 1 ≤ self) : Rz X 104 (0, [zr self, zi a1, zU], [], M, K) (qbs_rest K M self a1) (fun e P => P (some (zi e.1), e.2, K)) := by
  have h104 : zT 104 = zt104 := rfl
  unfold qbs_rest
  refine z_iload h104 rfl rfl (Or.inl rfl) ?_
  refine z_iconst h104 rfl ?_
  refine z_iconst h104 rfl ?_
  refine z_cs (a := 123) (b := 0) (l := [104, 3]) (as := [zi a1, zi 1, zi 12]) (lsE := [zi a1, zi 1, zi 12]) (st' := []) (val := fun p => some (zi p)) (mem := fun _ => M) h104 rfl ⟨rfl, rfl, rfl, Nat.le_of_ble_eq_true rfl, Nat.le_of_ble_eq_true rfl, rfl⟩ (t_qbs_within X K M a1 1 12 ) (fun v1 => ?_)
  refine z_ifne h104 rfl ?_ ?_
  · refine z_iconst h104 rfl ?_
    exact z_iret h104 rfl (fun _ q => q)
  · refine z_aload h104 rfl rfl (Or.inl rfl) (by omega) ?_
    refine z_getf (a := 11) (b := 14) (l := [100, 15]) h104 rfl (fun v2 => ?_)
    refine z_istore h104 rfl (Or.inl rfl) (ls' := [zr self, zi a1, zi v2]) rfl ?_
    refine z_aload h104 rfl rfl (Or.inl rfl) (by omega) ?_
    refine z_iload h104 rfl rfl (Or.inl rfl) ?_
    refine z_putf (a := 11) (b := 14) (l := [100, 15]) h104 rfl (fun M3 => ?_)
    refine z_iload h104 rfl rfl (Or.inl rfl) ?_
    exact z_iret h104 rfl (fun _ q => q)
set_option maxRecDepth 20000 in
theorem t_qbs_isStream (X : Int × (Int → Int)) (K : zK) (M : zM) (a0 a1 : Int) : Rz X 125 (0, [zi a0, zi a1], [], M, K) (qbs_isStream K M a0 a1) (fun e P => P (some (zi e), M, K)) := by
  have h125 : zT 125 = zt125 := rfl
  unfold qbs_isStream
  refine z_iload h125 rfl rfl (Or.inl rfl) ?_
  refine z_iconst h125 rfl ?_
  refine z_iconst h125 rfl ?_
  refine z_cs (a := 123) (b := 0) (l := [104, 3]) (as := [zi a0, zi 0, zi 999]) (lsE := [zi a0, zi 0, zi 999]) (st' := []) (val := fun p => some (zi p)) (mem := fun _ => M) h125 rfl ⟨rfl, rfl, rfl, Nat.le_of_ble_eq_true rfl, Nat.le_of_ble_eq_true rfl, rfl⟩ (t_qbs_within X K M a0 0 999 ) (fun v1 => ?_)
  refine z_ifeq h125 rfl ?_ ?_
  · refine z_kill h125 rfl (ls' := [zU, zU]) rfl ?_
    refine z_iconst h125 rfl ?_
    refine z_kill h125 rfl (ls' := [zU, zU]) rfl ?_
    exact z_zret h125 rfl (Or.inl rfl) (fun _ q => q)
  · refine z_iload h125 rfl rfl (Or.inl rfl) ?_
    refine z_iconst h125 rfl ?_
    refine z_iconst h125 rfl ?_
    refine z_cs (a := 123) (b := 0) (l := [104, 3]) (as := [zi a1, zi 1, zi 99]) (lsE := [zi a1, zi 1, zi 99]) (st' := []) (val := fun p => some (zi p)) (mem := fun _ => M) h125 rfl ⟨rfl, rfl, rfl, Nat.le_of_ble_eq_true rfl, Nat.le_of_ble_eq_true rfl, rfl⟩ (t_qbs_within X K M a1 1 99 ) (fun v2 => ?_)
    refine z_ifeq h125 rfl ?_ ?_
    · refine z_kill h125 rfl (ls' := [zU, zU]) rfl ?_
      refine z_iconst h125 rfl ?_
      refine z_kill h125 rfl (ls' := [zU, zU]) rfl ?_
      exact z_zret h125 rfl (Or.inl rfl) (fun _ q => q)
    · refine z_iconst h125 rfl ?_
      refine z_goto h125 rfl ?_
      refine z_kill h125 rfl (ls' := [zU, zU]) rfl ?_
      exact z_zret h125 rfl (Or.inr rfl) (fun _ q => q)
set_option maxRecDepth 20000 in
theorem t_qbs_inOrder (X : Int × (Int → Int)) (n : Nat) (K : zK) (M : zM) (self a1 a2 a3 : Int) (g_self : 1 ≤ self) : Rz X 105 (0, [zr self, zi a1, zi a2, zi a3], [], M, K) (qbs_inOrder n K M self a1 a2 a3) (fun e P => P (some (zi e.1), e.2, K)) := by
  have h105 : zT 105 = zt105 := rfl
  unfold qbs_inOrder
  refine z_iload h105 rfl rfl (Or.inl rfl) ?_
  refine z_iload h105 rfl rfl (Or.inl rfl) ?_
  refine z_cs (a := 125) (b := 0) (l := [216, 2]) (as := [zi a1, zi a2]) (lsE := [zi a1, zi a2]) (st' := []) (val := fun p => some (zi p)) (mem := fun _ => M) h105 rfl ⟨rfl, rfl, rfl, Nat.le_of_ble_eq_true rfl, Nat.le_of_ble_eq_true rfl, rfl⟩ (t_qbs_isStream X K M a1 a2 ) (fun v1 => ?_)
  refine z_ifeq h105 rfl ?_ ?_
  · refine z_kill h105 rfl (ls' := [zU, zU, zU, zU]) rfl ?_
    refine z_iconst h105 rfl ?_
    exact z_iret h105 rfl (fun _ q => q)
  · refine z_iload h105 rfl rfl (Or.inl rfl) ?_
    refine z_iconst h105 rfl ?_
    refine z_iconst h105 rfl ?_
    refine z_cs (a := 123) (b := 0) (l := [104, 3]) (as := [zi a3, zi 1, zi 200]) (lsE := [zi a3, zi 1, zi 200]) (st' := []) (val := fun p => some (zi p)) (mem := fun _ => M) h105 rfl ⟨rfl, rfl, rfl, Nat.le_of_ble_eq_true rfl, Nat.le_of_ble_eq_true rfl, rfl⟩ (t_qbs_within X K M a3 1 200 ) (fun v2 => ?_)
    refine z_ifne h105 rfl ?_ ?_
    · refine z_kill h105 rfl (ls' := [zU, zU, zU, zU]) rfl ?_
      refine z_iconst h105 rfl ?_
      exact z_iret h105 rfl (fun _ q => q)
    · refine z_aload h105 rfl rfl (Or.inl rfl) (by omega) ?_
      refine z_getr (a := 11) (b := 7) (l := [59, 15]) h105 rfl (fun r3 g_r3 => ?_)
      refine z_aload h105 rfl rfl (Or.inl rfl) (by omega) ?_
      refine z_getr (a := 11) (b := 0) (l := [14, 15]) h105 rfl (fun r4 g_r4 => ?_)
      refine z_aload h105 rfl rfl (Or.inl rfl) (by omega) ?_
      refine z_getf (a := 11) (b := 14) (l := [100, 15]) h105 rfl (fun v5 => ?_)
      refine z_iload h105 rfl rfl (Or.inl rfl) ?_
      refine z_iload h105 rfl rfl (Or.inl rfl) ?_
      refine z_iload h105 rfl rfl (Or.inl rfl) ?_
      refine z_iconst h105 rfl ?_
      refine z_isub h105 rfl ?_
      refine z_cv (a := 72) (b := 0) (l := [219, 6, 8, 5]) (as := [zr r4, zi v5, zi a1, zi a2, zi (a3 - 1)]) (lsE := [zr r3, zr r4, zi v5, zi a1, zi a2, zi (a3 - 1), zU, zU, zU]) (st' := []) (val := fun p => some (zi p.1)) (mem := fun p => p.2) h105 rfl ⟨rfl, rfl, rfl, Nat.le_of_ble_eq_true rfl, Nat.le_of_ble_eq_true rfl, rfl⟩ (fun g1 => (t_qsm_beatOf X n K M r3 r4 v5 a1 a2 (a3 - 1) (by omega) (by omega))) (fun p6 => ?_)
      refine z_aload h105 rfl rfl (Or.inl rfl) (by omega) ?_
      refine z_getf (a := 11) (b := 14) (l := [100, 15]) h105 rfl (fun v7 => ?_)
      refine z_iadd h105 rfl ?_
      exact z_iret h105 rfl (fun _ q => q)
set_option maxRecDepth 20000 in
theorem t_qbs_beat (X : Int × (Int → Int)) (n : Nat) (K : zK) (M : zM) (self a1 a2 a3 : Int) (g_self : 1 ≤ self) : Rz X 106 (0, [zr self, zi a1, zi a2, zi a3], [], M, K) (qbs_beat n K M self a1 a2 a3) (fun e P => P (some (zi e.1), e.2, K)) := by
  have h106 : zT 106 = zt106 := rfl
  unfold qbs_beat
  refine z_iload h106 rfl rfl (Or.inl rfl) ?_
  refine z_iload h106 rfl rfl (Or.inl rfl) ?_
  refine z_cs (a := 125) (b := 0) (l := [216, 2]) (as := [zi a1, zi a2]) (lsE := [zi a1, zi a2]) (st' := []) (val := fun p => some (zi p)) (mem := fun _ => M) h106 rfl ⟨rfl, rfl, rfl, Nat.le_of_ble_eq_true rfl, Nat.le_of_ble_eq_true rfl, rfl⟩ (t_qbs_isStream X K M a1 a2 ) (fun v1 => ?_)
  refine z_ifeq h106 rfl ?_ ?_
  · refine z_kill h106 rfl (ls' := [zU, zU, zU, zU]) rfl ?_
    refine z_iconst h106 rfl ?_
    exact z_iret h106 rfl (fun _ q => q)
  · refine z_iload h106 rfl rfl (Or.inl rfl) ?_
    refine z_iconst h106 rfl ?_
    refine z_iconst h106 rfl ?_
    refine z_cs (a := 123) (b := 0) (l := [104, 3]) (as := [zi a3, zi 0, zi 199]) (lsE := [zi a3, zi 0, zi 199]) (st' := []) (val := fun p => some (zi p)) (mem := fun _ => M) h106 rfl ⟨rfl, rfl, rfl, Nat.le_of_ble_eq_true rfl, Nat.le_of_ble_eq_true rfl, rfl⟩ (t_qbs_within X K M a3 0 199 ) (fun v2 => ?_)
    refine z_ifne h106 rfl ?_ ?_
    · refine z_kill h106 rfl (ls' := [zU, zU, zU, zU]) rfl ?_
      refine z_iconst h106 rfl ?_
      exact z_iret h106 rfl (fun _ q => q)
    · refine z_aload h106 rfl rfl (Or.inl rfl) (by omega) ?_
      refine z_getr (a := 11) (b := 7) (l := [59, 15]) h106 rfl (fun r3 g_r3 => ?_)
      refine z_aload h106 rfl rfl (Or.inl rfl) (by omega) ?_
      refine z_getr (a := 11) (b := 0) (l := [14, 15]) h106 rfl (fun r4 g_r4 => ?_)
      refine z_aload h106 rfl rfl (Or.inl rfl) (by omega) ?_
      refine z_getf (a := 11) (b := 14) (l := [100, 15]) h106 rfl (fun v5 => ?_)
      refine z_iload h106 rfl rfl (Or.inl rfl) ?_
      refine z_iload h106 rfl rfl (Or.inl rfl) ?_
      refine z_iload h106 rfl rfl (Or.inl rfl) ?_
      refine z_cv (a := 72) (b := 0) (l := [219, 6, 8, 5]) (as := [zr r4, zi v5, zi a1, zi a2, zi a3]) (lsE := [zr r3, zr r4, zi v5, zi a1, zi a2, zi a3, zU, zU, zU]) (st' := []) (val := fun p => some (zi p.1)) (mem := fun p => p.2) h106 rfl ⟨rfl, rfl, rfl, Nat.le_of_ble_eq_true rfl, Nat.le_of_ble_eq_true rfl, rfl⟩ (fun g1 => (t_qsm_beatOf X n K M r3 r4 v5 a1 a2 a3 (by omega) (by omega))) (fun p6 => ?_)
      exact z_iret h106 rfl (fun _ q => q)
set_option maxRecDepth 20000 in
theorem t_qbs_queued (X : Int × (Int → Int)) (n : Nat) (K : zK) (M : zM) (self a1 a2 a3 a4 a5 : Int) (g_self : 1 ≤ self) : Rz X 107 (0, [zr self, zi a1, zi a2, zi a3, zi a4, zi a5], [], M, K) (qbs_queued n K M self a1 a2 a3 a4 a5) (fun e P => P (some (zi e.1), e.2, K)) := by
  have h107 : zT 107 = zt107 := rfl
  unfold qbs_queued
  refine z_iload h107 rfl rfl (Or.inl rfl) ?_
  refine z_iload h107 rfl rfl (Or.inl rfl) ?_
  refine z_cs (a := 125) (b := 0) (l := [216, 2]) (as := [zi a1, zi a2]) (lsE := [zi a1, zi a2]) (st' := []) (val := fun p => some (zi p)) (mem := fun _ => M) h107 rfl ⟨rfl, rfl, rfl, Nat.le_of_ble_eq_true rfl, Nat.le_of_ble_eq_true rfl, rfl⟩ (t_qbs_isStream X K M a1 a2 ) (fun v1 => ?_)
  refine z_ifeq h107 rfl ?_ ?_
  · refine z_kill h107 rfl (ls' := [zU, zU, zU, zU, zU, zU]) rfl ?_
    refine z_iconst h107 rfl ?_
    exact z_iret h107 rfl (fun _ q => q)
  · refine z_iload h107 rfl rfl (Or.inl rfl) ?_
    refine z_iconst h107 rfl ?_
    refine z_iconst h107 rfl ?_
    refine z_cs (a := 123) (b := 0) (l := [104, 3]) (as := [zi a3, zi 1, zi 200]) (lsE := [zi a3, zi 1, zi 200]) (st' := []) (val := fun p => some (zi p)) (mem := fun _ => M) h107 rfl ⟨rfl, rfl, rfl, Nat.le_of_ble_eq_true rfl, Nat.le_of_ble_eq_true rfl, rfl⟩ (t_qbs_within X K M a3 1 200 ) (fun v2 => ?_)
    refine z_ifeq h107 rfl ?_ ?_
    · refine z_kill h107 rfl (ls' := [zU, zU, zU, zU, zU, zU]) rfl ?_
      refine z_iconst h107 rfl ?_
      exact z_iret h107 rfl (fun _ q => q)
    · refine z_iload h107 rfl rfl (Or.inr rfl) ?_
      refine z_iconst h107 rfl ?_
      refine z_iconst h107 rfl ?_
      refine z_cs (a := 123) (b := 0) (l := [104, 3]) (as := [zi a4, zi 1, zi 8]) (lsE := [zi a4, zi 1, zi 8]) (st' := []) (val := fun p => some (zi p)) (mem := fun _ => M) h107 rfl ⟨rfl, rfl, rfl, Nat.le_of_ble_eq_true rfl, Nat.le_of_ble_eq_true rfl, rfl⟩ (t_qbs_within X K M a4 1 8 ) (fun v3 => ?_)
      refine z_ifeq h107 rfl ?_ ?_
      · refine z_kill h107 rfl (ls' := [zU, zU, zU, zU, zU, zU]) rfl ?_
        refine z_iconst h107 rfl ?_
        exact z_iret h107 rfl (fun _ q => q)
      · refine z_iload h107 rfl rfl (Or.inr rfl) ?_
        refine z_iconst h107 rfl ?_
        refine z_iconst h107 rfl ?_
        refine z_cs (a := 123) (b := 0) (l := [104, 3]) (as := [zi a5, zi 0, zi 2]) (lsE := [zi a5, zi 0, zi 2]) (st' := []) (val := fun p => some (zi p)) (mem := fun _ => M) h107 rfl ⟨rfl, rfl, rfl, Nat.le_of_ble_eq_true rfl, Nat.le_of_ble_eq_true rfl, rfl⟩ (t_qbs_within X K M a5 0 2 ) (fun v4 => ?_)
        refine z_ifne h107 rfl ?_ ?_
        · refine z_kill h107 rfl (ls' := [zU, zU, zU, zU, zU, zU]) rfl ?_
          refine z_iconst h107 rfl ?_
          exact z_iret h107 rfl (fun _ q => q)
        · refine z_aload h107 rfl rfl (Or.inl rfl) (by omega) ?_
          refine z_getr (a := 11) (b := 7) (l := [59, 15]) h107 rfl (fun r5 g_r5 => ?_)
          refine z_aload h107 rfl rfl (Or.inl rfl) (by omega) ?_
          refine z_getr (a := 11) (b := 0) (l := [14, 15]) h107 rfl (fun r6 g_r6 => ?_)
          refine z_aload h107 rfl rfl (Or.inl rfl) (by omega) ?_
          refine z_getf (a := 11) (b := 14) (l := [100, 15]) h107 rfl (fun v7 => ?_)
          refine z_iload h107 rfl rfl (Or.inl rfl) ?_
          refine z_iload h107 rfl rfl (Or.inl rfl) ?_
          refine z_iload h107 rfl rfl (Or.inl rfl) ?_
          refine z_iload h107 rfl rfl (Or.inr rfl) ?_
          refine z_cv (a := 73) (b := 0) (l := [223, 7, 8, 5]) (as := [zr r6, zi v7, zi a1, zi a2, zi a3, zi a4]) (lsE := [zr r5, zr r6, zi v7, zi a1, zi a2, zi a3, zi a4, zU, zU, zU]) (st' := []) (val := fun _ => none) (mem := fun p => p) h107 rfl ⟨rfl, rfl, rfl, Nat.le_of_ble_eq_true rfl, Nat.le_of_ble_eq_true rfl, rfl⟩ (fun g1 => (t_qsm_runQueues X n K M r5 r6 v7 a1 a2 a3 a4 (by omega) (by omega))) (fun M8 => ?_)
          refine z_iload h107 rfl rfl (Or.inr rfl) ?_
          refine z_ifne h107 rfl ?_ ?_
          · refine z_aload h107 rfl rfl (Or.inl rfl) (by omega) ?_
            refine z_getr (a := 11) (b := 7) (l := [59, 15]) h107 rfl (fun r9 g_r9 => ?_)
            refine z_getf (a := 8) (b := 2) (l := [227, 5]) h107 rfl (fun v10 => ?_)
            exact z_iret h107 rfl (fun _ q => q)
          · refine z_iload h107 rfl rfl (Or.inr rfl) ?_
            refine z_iconst h107 rfl ?_
            refine z_icne h107 rfl ?_ ?_
            · refine z_aload h107 rfl rfl (Or.inl rfl) (by omega) ?_
              refine z_getr (a := 11) (b := 7) (l := [59, 15]) h107 rfl (fun r11 g_r11 => ?_)
              refine z_getf (a := 8) (b := 3) (l := [230, 5]) h107 rfl (fun v12 => ?_)
              refine z_goto h107 rfl ?_
              refine z_kill h107 rfl (ls' := [zU, zU, zU, zU, zU, zU]) rfl ?_
              exact z_iret h107 rfl (fun _ q => q)
            · refine z_aload h107 rfl rfl (Or.inl rfl) (by omega) ?_
              refine z_getr (a := 11) (b := 7) (l := [59, 15]) h107 rfl (fun r13 g_r13 => ?_)
              refine z_getf (a := 8) (b := 4) (l := [233, 5]) h107 rfl (fun v14 => ?_)
              refine z_kill h107 rfl (ls' := [zU, zU, zU, zU, zU, zU]) rfl ?_
              exact z_iret h107 rfl (fun _ q => q)
set_option maxRecDepth 20000 in
theorem t_qbs_rate (X : Int × (Int → Int)) (n : Nat) (K : zK) (M : zM) (self a1 a2 a3 : Int) (g_self : 1 ≤ self) : Rz X 108 (0, [zr self, zi a1, zi a2, zi a3], [], M, K) (qbs_rate n K M self a1 a2 a3) (fun e P => P (some (zi e.1), e.2, K)) := by
  have h108 : zT 108 = zt108 := rfl
  unfold qbs_rate
  refine z_iload h108 rfl rfl (Or.inl rfl) ?_
  refine z_iload h108 rfl rfl (Or.inl rfl) ?_
  refine z_cs (a := 125) (b := 0) (l := [216, 2]) (as := [zi a1, zi a2]) (lsE := [zi a1, zi a2]) (st' := []) (val := fun p => some (zi p)) (mem := fun _ => M) h108 rfl ⟨rfl, rfl, rfl, Nat.le_of_ble_eq_true rfl, Nat.le_of_ble_eq_true rfl, rfl⟩ (t_qbs_isStream X K M a1 a2 ) (fun v1 => ?_)
  refine z_ifeq h108 rfl ?_ ?_
  · refine z_kill h108 rfl (ls' := [zU, zU, zU, zU]) rfl ?_
    refine z_iconst h108 rfl ?_
    exact z_iret h108 rfl (fun _ q => q)
  · refine z_iload h108 rfl rfl (Or.inl rfl) ?_
    refine z_iconst h108 rfl ?_
    refine z_iconst h108 rfl ?_
    refine z_cs (a := 123) (b := 0) (l := [104, 3]) (as := [zi a3, zi 0, zi 2]) (lsE := [zi a3, zi 0, zi 2]) (st' := []) (val := fun p => some (zi p)) (mem := fun _ => M) h108 rfl ⟨rfl, rfl, rfl, Nat.le_of_ble_eq_true rfl, Nat.le_of_ble_eq_true rfl, rfl⟩ (t_qbs_within X K M a3 0 2 ) (fun v2 => ?_)
    refine z_ifne h108 rfl ?_ ?_
    · refine z_kill h108 rfl (ls' := [zU, zU, zU, zU]) rfl ?_
      refine z_iconst h108 rfl ?_
      exact z_iret h108 rfl (fun _ q => q)
    · refine z_aload h108 rfl rfl (Or.inl rfl) (by omega) ?_
      refine z_getr (a := 11) (b := 8) (l := [66, 15]) h108 rfl (fun r3 g_r3 => ?_)
      refine z_aload h108 rfl rfl (Or.inl rfl) (by omega) ?_
      refine z_getr (a := 11) (b := 0) (l := [14, 15]) h108 rfl (fun r4 g_r4 => ?_)
      refine z_aload h108 rfl rfl (Or.inl rfl) (by omega) ?_
      refine z_getf (a := 11) (b := 14) (l := [100, 15]) h108 rfl (fun v5 => ?_)
      refine z_iload h108 rfl rfl (Or.inl rfl) ?_
      refine z_iload h108 rfl rfl (Or.inl rfl) ?_
      refine z_cv (a := 36) (b := 0) (l := [236, 5, 4, 7]) (as := [zr r4, zi v5, zi a1, zi a2]) (lsE := [zr r3, zr r4, zi v5, zi a1, zi a2, zU, zU, zU, zU, zU, zU, zU]) (st' := []) (val := fun p => some (zi p.1)) (mem := fun p => p.2) h108 rfl ⟨rfl, rfl, rfl, Nat.le_of_ble_eq_true rfl, Nat.le_of_ble_eq_true rfl, rfl⟩ (fun g1 => (t_qra_seek X n K M r3 r4 v5 a1 a2 (by omega) (by omega))) (fun p6 => ?_)
      refine z_ifne h108 rfl ?_ ?_
      · refine z_iconst h108 rfl ?_
        exact z_iret h108 rfl (fun _ q => q)
      · refine z_iload h108 rfl rfl (Or.inl rfl) ?_
        refine z_ifne h108 rfl ?_ ?_
        · refine z_aload h108 rfl rfl (Or.inl rfl) (by omega) ?_
          refine z_getr (a := 11) (b := 8) (l := [66, 15]) h108 rfl (fun r7 g_r7 => ?_)
          refine z_getf (a := 4) (b := 4) (l := [239, 7]) h108 rfl (fun v8 => ?_)
          exact z_iret h108 rfl (fun _ q => q)
        · refine z_iload h108 rfl rfl (Or.inl rfl) ?_
          refine z_iconst h108 rfl ?_
          refine z_icne h108 rfl ?_ ?_
          · refine z_aload h108 rfl rfl (Or.inl rfl) (by omega) ?_
            refine z_getr (a := 11) (b := 8) (l := [66, 15]) h108 rfl (fun r9 g_r9 => ?_)
            refine z_getf (a := 4) (b := 5) (l := [242, 7]) h108 rfl (fun v10 => ?_)
            refine z_goto h108 rfl ?_
            refine z_kill h108 rfl (ls' := [zU, zU, zU, zU]) rfl ?_
            exact z_iret h108 rfl (fun _ q => q)
          · refine z_aload h108 rfl rfl (Or.inl rfl) (by omega) ?_
            refine z_getr (a := 11) (b := 8) (l := [66, 15]) h108 rfl (fun r11 g_r11 => ?_)
            refine z_getf (a := 4) (b := 6) (l := [245, 7]) h108 rfl (fun v12 => ?_)
            refine z_kill h108 rfl (ls' := [zU, zU, zU, zU]) rfl ?_
            exact z_iret h108 rfl (fun _ q => q)
set_option maxRecDepth 20000 in
theorem t_qbs_steps (X : Int × (Int → Int)) (n : Nat) (K : zK) (M : zM) (self a1 : Int) (g_self : 1 ≤ self) : Rz X 109 (0, [zr self, zi a1, zU, zU, zU, zU, zU], [], M, K) (qbs_steps n K M self a1) (fun e P => P (some (zi e.1), e.2, K)) := by
  have h109 : zT 109 = zt109 := rfl
  unfold qbs_steps
  refine z_iload h109 rfl rfl (Or.inl rfl) ?_
  refine z_iconst h109 rfl ?_
  refine z_iconst h109 rfl ?_
  refine z_cs (a := 123) (b := 0) (l := [104, 3]) (as := [zi a1, zi 0, zi 1]) (lsE := [zi a1, zi 0, zi 1]) (st' := []) (val := fun p => some (zi p)) (mem := fun _ => M) h109 rfl ⟨rfl, rfl, rfl, Nat.le_of_ble_eq_true rfl, Nat.le_of_ble_eq_true rfl, rfl⟩ (t_qbs_within X K M a1 0 1 ) (fun v1 => ?_)
  refine z_ifne h109 rfl ?_ ?_
  · refine z_iconst h109 rfl ?_
    exact z_iret h109 rfl (fun _ q => q)
  · refine z_iconst h109 rfl ?_
    refine z_istore h109 rfl (Or.inl rfl) (ls' := [zr self, zi a1, zi 0, zU, zU, zU, zU]) rfl ?_
    refine z_iconst h109 rfl ?_
    refine z_istore h109 rfl (Or.inl rfl) (ls' := [zr self, zi a1, zi 0, zi 0, zU, zU, zU]) rfl ?_
    refine z_iconst h109 rfl ?_
    refine z_istore h109 rfl (Or.inr rfl) (ls' := [zr self, zi a1, zi 0, zi 0, zi 0, zU, zU]) rfl ?_
    refine z_iconst h109 rfl ?_
    refine z_istore h109 rfl (Or.inr rfl) (ls' := [zr self, zi a1, zi 0, zi 0, zi 0, zi 0, zU]) rfl ?_
    refine z_iconst h109 rfl ?_
    refine z_istore h109 rfl (Or.inr rfl) (ls' := [zr self, zi a1, zi 0, zi 0, zi 0, zi 0, zi 1]) rfl ?_
    refine Rz.wh (hd := fun s2 => (17, [zr self, zi a1, zi s2.1, zi s2.2.1, zi s2.2.2.1, zi s2.2.2.2.1, zi s2.2.2.2.2.1], [], s2.2.2.2.2.2, K)) (fun s2 => ?_) n (0, 0, 0, 0, 1, M)
    (try dsimp only)
    refine z_iload h109 rfl rfl (Or.inr rfl) ?_
    refine z_iconst h109 rfl ?_
    refine z_icgt h109 rfl ?_ ?_
    · refine z_iload h109 rfl rfl (Or.inl rfl) ?_
      refine z_ifne h109 rfl ?_ ?_
      · refine z_iload h109 rfl rfl (Or.inl rfl) ?_
        refine z_goto h109 rfl ?_
        refine z_kill h109 rfl (ls' := [zU, zU, zU, zU, zU, zU, zU]) rfl ?_
        exact z_iret h109 rfl (fun _ q => q)
      · refine z_iload h109 rfl rfl (Or.inl rfl) ?_
        refine z_kill h109 rfl (ls' := [zU, zU, zU, zU, zU, zU, zU]) rfl ?_
        exact z_iret h109 rfl (fun _ q => q)
    · refine z_aload h109 rfl rfl (Or.inl rfl) (by omega) ?_
      refine z_getr (a := 11) (b := 8) (l := [66, 15]) h109 rfl (fun r3 g_r3 => ?_)
      refine z_aload h109 rfl rfl (Or.inl rfl) (by omega) ?_
      refine z_getr (a := 11) (b := 0) (l := [14, 15]) h109 rfl (fun r4 g_r4 => ?_)
      refine z_aload h109 rfl rfl (Or.inl rfl) (by omega) ?_
      refine z_getf (a := 11) (b := 14) (l := [100, 15]) h109 rfl (fun v5 => ?_)
      refine z_iconst h109 rfl ?_
      refine z_iload h109 rfl rfl (Or.inr rfl) ?_
      refine z_cv (a := 36) (b := 0) (l := [236, 5, 4, 7]) (as := [zr r4, zi v5, zi 0, zi s2.2.2.2.2.1]) (lsE := [zr r3, zr r4, zi v5, zi 0, zi s2.2.2.2.2.1, zU, zU, zU, zU, zU, zU, zU]) (st' := []) (val := fun p => some (zi p.1)) (mem := fun p => p.2) h109 rfl ⟨rfl, rfl, rfl, Nat.le_of_ble_eq_true rfl, Nat.le_of_ble_eq_true rfl, rfl⟩ (fun g1 => (t_qra_seek X n K s2.2.2.2.2.2 r3 r4 v5 0 s2.2.2.2.2.1 (by omega) (by omega))) (fun p6 => ?_)
      refine z_ifne h109 rfl ?_ ?_
      · refine z_iconst h109 rfl ?_
        exact z_iret h109 rfl (fun _ q => q)
      · refine z_iload h109 rfl rfl (Or.inl rfl) ?_
        refine z_aload h109 rfl rfl (Or.inl rfl) (by omega) ?_
        refine z_getr (a := 11) (b := 8) (l := [66, 15]) h109 rfl (fun r7 g_r7 => ?_)
        refine z_getf (a := 4) (b := 4) (l := [239, 7]) h109 rfl (fun v8 => ?_)
        refine z_aload h109 rfl rfl (Or.inl rfl) (by omega) ?_
        refine z_getr (a := 11) (b := 8) (l := [66, 15]) h109 rfl (fun r9 g_r9 => ?_)
        refine z_getf (a := 4) (b := 5) (l := [242, 7]) h109 rfl (fun v10 => ?_)
        refine Rz.bind (t := fun j11 => (43, [zr self, zi a1, zU, zi s2.2.1, zi s2.2.2.1, zi s2.2.2.2.1, zi s2.2.2.2.2.1], [zi j11, zi s2.1], p6.2, K)) ?_ (fun j11 => ?_)
        · refine z_icne h109 rfl ?_ ?_
          · refine z_iconst h109 rfl ?_
            refine z_goto h109 rfl ?_
            refine z_kill h109 rfl (ls' := [zr self, zi a1, zU, zi s2.2.1, zi s2.2.2.1, zi s2.2.2.2.1, zi s2.2.2.2.2.1]) rfl ?_
            exact Rz.here fun _ q => q
          · refine z_iconst h109 rfl ?_
            refine z_kill h109 rfl (ls' := [zr self, zi a1, zU, zi s2.2.1, zi s2.2.2.1, zi s2.2.2.2.1, zi s2.2.2.2.2.1]) rfl ?_
            exact Rz.here fun _ q => q
        · (try dsimp only)
          refine z_iadd h109 rfl ?_
          refine z_istoreL (lsf := fun x12 => [zr self, zi a1, zi x12, zi s2.2.1, zi s2.2.2.1, zi s2.2.2.2.1, zi s2.2.2.2.2.1]) h109 rfl (Or.inl rfl) (fun _ => rfl) (fun x12 => ?_)
          (try dsimp only)
          refine z_iload h109 rfl rfl (Or.inl rfl) ?_
          refine Rz.esc (t := fun j13 => (63, [zr self, zi a1, zi x12, zU, zU, zU, zi s2.2.2.2.2.1], [], p6.2, K)) ?_ (fun j13 => ?_)
          · refine z_ifeq h109 rfl ?_ ?_
            · refine z_kill h109 rfl (ls' := [zr self, zi a1, zi x12, zU, zU, zU, zi s2.2.2.2.2.1]) rfl ?_
              exact Rz.here fun _ q => q
            · refine z_aload h109 rfl rfl (Or.inl rfl) (by omega) ?_
              refine z_getr (a := 11) (b := 8) (l := [66, 15]) h109 rfl (fun r18 g_r18 => ?_)
              refine z_getf (a := 4) (b := 4) (l := [239, 7]) h109 rfl (fun v19 => ?_)
              refine z_ci2l h109 rfl ?_
              refine z_iload h109 rfl rfl (Or.inr rfl) ?_
              refine z_ci2l h109 rfl ?_
              refine z_lmul h109 rfl ?_
              refine z_iload h109 rfl rfl (Or.inr rfl) ?_
              refine z_ci2l h109 rfl ?_
              refine z_aload h109 rfl rfl (Or.inl rfl) (by omega) ?_
              refine z_getr (a := 11) (b := 8) (l := [66, 15]) h109 rfl (fun r20 g_r20 => ?_)
              refine z_getf (a := 4) (b := 5) (l := [242, 7]) h109 rfl (fun v21 => ?_)
              refine z_ci2l h109 rfl ?_
              refine z_lmul h109 rfl ?_
              refine z_lcmp h109 rfl ?_
              refine z_ifge h109 rfl ?_ ?_
              · refine z_iinc h109 rfl rfl (ls' := [zr self, zi a1, zi x12, zi s2.2.1, zi s2.2.2.1, zi s2.2.2.2.1, zi (s2.2.2.2.2.1 + 1)]) rfl ?_
                refine z_goto h109 rfl ?_
                exact Rz.here fun _ q => q
              · refine z_kill h109 rfl (ls' := [zr self, zi a1, zi x12, zU, zU, zU, zi s2.2.2.2.2.1]) rfl ?_
                exact Rz.here fun _ q => q
          · (try dsimp only)
            refine z_iload h109 rfl rfl (Or.inr rfl) ?_
            refine z_istore h109 rfl (Or.inl rfl) (ls' := [zr self, zi a1, zi x12, zi s2.2.2.2.2.1, zU, zU, zi s2.2.2.2.2.1]) rfl ?_
            refine z_aload h109 rfl rfl (Or.inl rfl) (by omega) ?_
            refine z_getr (a := 11) (b := 8) (l := [66, 15]) h109 rfl (fun r14 g_r14 => ?_)
            refine z_getf (a := 4) (b := 4) (l := [239, 7]) h109 rfl (fun v15 => ?_)
            refine z_istore h109 rfl (Or.inr rfl) (ls' := [zr self, zi a1, zi x12, zi s2.2.2.2.2.1, zi v15, zU, zi s2.2.2.2.2.1]) rfl ?_
            refine z_aload h109 rfl rfl (Or.inl rfl) (by omega) ?_
            refine z_getr (a := 11) (b := 8) (l := [66, 15]) h109 rfl (fun r16 g_r16 => ?_)
            refine z_getf (a := 4) (b := 5) (l := [242, 7]) h109 rfl (fun v17 => ?_)
            refine z_istore h109 rfl (Or.inr rfl) (ls' := [zr self, zi a1, zi x12, zi s2.2.2.2.2.1, zi v15, zi v17, zi s2.2.2.2.2.1]) rfl ?_
            refine z_iinc h109 rfl rfl (ls' := [zr self, zi a1, zi x12, zi s2.2.2.2.2.1, zi v15, zi v17, zi (s2.2.2.2.2.1 + 1)]) rfl ?_
            refine z_goto h109 rfl ?_
            exact Rz.here fun _ q => q
set_option maxRecDepth 20000 in
theorem t_qbs_feed (X : Int × (Int → Int)) (n : Nat) (K : zK) (M : zM) (self a1 : Int) (g_self : 1 ≤ self) : Rz X 110 (0, [zr self, zl a1, zU], [], M, K) (qbs_feed n K M self a1) (fun e P => P (some (zi e.1), e.2, K)) := by
  have h110 : zT 110 = zt110 := rfl
  unfold qbs_feed
  refine z_aload h110 rfl rfl (Or.inl rfl) (by omega) ?_
  refine z_getr (a := 11) (b := 9) (l := [73, 15]) h110 rfl (fun r1 g_r1 => ?_)
  refine z_lload h110 rfl rfl (Or.inl rfl) ?_
  refine z_cv (a := 41) (b := 0) (l := [248, 2, 5, 9]) (as := [zl a1]) (lsE := [zr r1, zl a1, zU, zU]) (st' := []) (val := fun p => some (zi p.1)) (mem := fun p => p.2) h110 rfl ⟨rfl, rfl, rfl, Nat.le_of_ble_eq_true rfl, Nat.le_of_ble_eq_true rfl, rfl⟩ (fun g1 => (t_qrd_append X n K M r1 a1 (by omega))) (fun p2 => ?_)
  exact z_iret h110 rfl (fun _ q => q)
set_option maxRecDepth 20000 in
theorem t_qbs_end (X : Int × (Int → Int)) (K : zK) (M : zM) (self a1 : Int) (g_self : 1 ≤ self) : Rz X 111 (0, [zr self, zi a1, zU], [], M, K) (qbs_end K M self a1) (fun e P => P (some (zi e.1), e.2, K)) := by
  have h111 : zT 111 = zt111 := rfl
  unfold qbs_end
  refine z_iload h111 rfl rfl (Or.inl rfl) ?_
  refine z_iconst h111 rfl ?_
  refine z_aload h111 rfl rfl (Or.inl rfl) (by omega) ?_
  refine z_getr (a := 11) (b := 9) (l := [73, 15]) h111 rfl (fun r1 g_r1 => ?_)
  refine z_getf (a := 5) (b := 2) (l := [252, 9]) h111 rfl (fun v2 => ?_)
  refine z_cs (a := 123) (b := 0) (l := [104, 3]) (as := [zi a1, zi 0, zi v2]) (lsE := [zi a1, zi 0, zi v2]) (st' := []) (val := fun p => some (zi p)) (mem := fun _ => M) h111 rfl ⟨rfl, rfl, rfl, Nat.le_of_ble_eq_true rfl, Nat.le_of_ble_eq_true rfl, rfl⟩ (t_qbs_within X K M a1 0 v2 ) (fun v3 => ?_)
  refine z_ifne h111 rfl ?_ ?_
  · refine z_iconst h111 rfl ?_
    exact z_iret h111 rfl (fun _ q => q)
  · refine z_aload h111 rfl rfl (Or.inl rfl) (by omega) ?_
    refine z_getr (a := 11) (b := 9) (l := [73, 15]) h111 rfl (fun r4 g_r4 => ?_)
    refine z_getf (a := 5) (b := 2) (l := [252, 9]) h111 rfl (fun v5 => ?_)
    refine z_istore h111 rfl (Or.inl rfl) (ls' := [zr self, zi a1, zi v5]) rfl ?_
    refine z_aload h111 rfl rfl (Or.inl rfl) (by omega) ?_
    refine z_getr (a := 11) (b := 9) (l := [73, 15]) h111 rfl (fun r6 g_r6 => ?_)
    refine z_iload h111 rfl rfl (Or.inl rfl) ?_
    refine z_putf (a := 5) (b := 2) (l := [252, 9]) h111 rfl (fun M7 => ?_)
    refine z_iload h111 rfl rfl (Or.inl rfl) ?_
    exact z_iret h111 rfl (fun _ q => q)
set_option maxRecDepth 20000 in
theorem t_qbs_program (X : Int × (Int → Int)) (n : Nat) (K : zK) (M : zM) (self : Int) (g_self : 1 ≤ self) : Rz X 112 (0, [zr self, zU, zU], [], M, K) (qbs_program n K M self) (fun e P => P (some (zi e.1), e.2, K)) := by
  have h112 : zT 112 = zt112 := rfl
  unfold qbs_program
  refine z_aload h112 rfl rfl (Or.inl rfl) (by omega) ?_
  refine z_getr (a := 11) (b := 9) (l := [73, 15]) h112 rfl (fun r1 g_r1 => ?_)
  refine z_aload h112 rfl rfl (Or.inl rfl) (by omega) ?_
  refine z_getr (a := 11) (b := 13) (l := [97, 15]) h112 rfl (fun r2 g_r2 => ?_)
  refine z_cv (a := 42) (b := 0) (l := [255, 2, 5, 9]) (as := [zr r2]) (lsE := [zr r1, zr r2, zU, zU]) (st' := []) (val := fun p => some (zi p.1)) (mem := fun p => p.2) h112 rfl ⟨rfl, rfl, rfl, Nat.le_of_ble_eq_true rfl, Nat.le_of_ble_eq_true rfl, rfl⟩ (fun g1 => (t_qrd_readInto X n K M r1 r2 (by omega) (by omega))) (fun p3 => ?_)
  refine z_istore h112 rfl (Or.inl rfl) (ls' := [zr self, zi p3.1, zU]) rfl ?_
  refine z_aload h112 rfl rfl (Or.inl rfl) (by omega) ?_
  refine z_getr (a := 11) (b := 9) (l := [73, 15]) h112 rfl (fun r4 g_r4 => ?_)
  refine z_iconst h112 rfl ?_
  refine z_putf (a := 5) (b := 2) (l := [252, 9]) h112 rfl (fun M5 => ?_)
  refine z_iload h112 rfl rfl (Or.inl rfl) ?_
  refine z_ifne h112 rfl ?_ ?_
  · refine z_iconst h112 rfl ?_
    refine z_aload h112 rfl rfl (Or.inl rfl) (by omega) ?_
    refine z_getr (a := 11) (b := 9) (l := [73, 15]) h112 rfl (fun r6 g_r6 => ?_)
    refine z_getf (a := 5) (b := 4) (l := [259, 9]) h112 rfl (fun v7 => ?_)
    refine z_isub h112 rfl ?_
    exact z_iret h112 rfl (fun _ q => q)
  · refine z_aload h112 rfl rfl (Or.inl rfl) (by omega) ?_
    refine z_getr (a := 11) (b := 12) (l := [94, 15]) h112 rfl (fun r8 g_r8 => ?_)
    refine z_astore h112 rfl (Or.inl rfl) (by omega) (ls' := [zr self, zi p3.1, zr r8]) rfl ?_
    refine z_aload h112 rfl rfl (Or.inl rfl) (by omega) ?_
    refine z_aload h112 rfl rfl (Or.inl rfl) (by omega) ?_
    refine z_getr (a := 11) (b := 13) (l := [97, 15]) h112 rfl (fun r9 g_r9 => ?_)
    refine z_putr (a := 11) (b := 12) (l := [94, 15]) h112 rfl (by omega) (fun M10 => ?_)
    refine z_aload h112 rfl rfl (Or.inl rfl) (by omega) ?_
    refine z_aload h112 rfl rfl (Or.inl rfl) (by omega) ?_
    refine z_putr (a := 11) (b := 13) (l := [97, 15]) h112 rfl (by omega) (fun M11 => ?_)
    refine z_aload h112 rfl rfl (Or.inl rfl) (by omega) ?_
    refine z_getr (a := 11) (b := 12) (l := [94, 15]) h112 rfl (fun r12 g_r12 => ?_)
    refine z_getf (a := 3) (b := 6) (l := [262, 7]) h112 rfl (fun v13 => ?_)
    exact z_iret h112 rfl (fun _ q => q)
set_option maxRecDepth 20000 in
theorem t_qbs_fault (X : Int × (Int → Int)) (K : zK) (M : zM) (self : Int) (g_self : 1 ≤ self) : Rz X 113 (0, [zr self], [], M, K) (qbs_fault K M self) (fun e P => P (some (zi e), M, K)) := by
  have h113 : zT 113 = zt113 := rfl
  unfold qbs_fault
  refine z_aload h113 rfl rfl (Or.inl rfl) (by omega) ?_
  refine z_getr (a := 11) (b := 9) (l := [73, 15]) h113 rfl (fun r1 g_r1 => ?_)
  refine z_getf (a := 5) (b := 3) (l := [263, 9]) h113 rfl (fun v2 => ?_)
  exact z_iret h113 rfl (fun _ q => q)
set_option maxRecDepth 20000 in
theorem t_qbs_line (X : Int × (Int → Int)) (K : zK) (M : zM) (self a1 a2 : Int) (g_self : 1 ≤ self) : Rz X 114 (0, [zr self, zi a1, zi a2], [], M, K) (qbs_line K M self a1 a2) (fun e P => P (some (zi e), M, K)) := by
  have h114 : zT 114 = zt114 := rfl
  unfold qbs_line
  refine z_iload h114 rfl rfl (Or.inl rfl) ?_
  refine z_iconst h114 rfl ?_
  refine z_aload h114 rfl rfl (Or.inl rfl) (by omega) ?_
  refine z_getr (a := 11) (b := 12) (l := [94, 15]) h114 rfl (fun r1 g_r1 => ?_)
  refine z_getf (a := 3) (b := 6) (l := [262, 7]) h114 rfl (fun v2 => ?_)
  refine z_iconst h114 rfl ?_
  refine z_isub h114 rfl ?_
  refine z_cs (a := 123) (b := 0) (l := [104, 3]) (as := [zi a1, zi 0, zi (v2 - 1)]) (lsE := [zi a1, zi 0, zi (v2 - 1)]) (st' := []) (val := fun p => some (zi p)) (mem := fun _ => M) h114 rfl ⟨rfl, rfl, rfl, Nat.le_of_ble_eq_true rfl, Nat.le_of_ble_eq_true rfl, rfl⟩ (t_qbs_within X K M a1 0 (v2 - 1) ) (fun v3 => ?_)
  refine z_ifeq h114 rfl ?_ ?_
  · refine z_kill h114 rfl (ls' := [zU, zU, zU]) rfl ?_
    refine z_iconst h114 rfl ?_
    exact z_iret h114 rfl (fun _ q => q)
  · refine z_iload h114 rfl rfl (Or.inl rfl) ?_
    refine z_iconst h114 rfl ?_
    refine z_iconst h114 rfl ?_
    refine z_cs (a := 123) (b := 0) (l := [104, 3]) (as := [zi a2, zi 0, zi 3]) (lsE := [zi a2, zi 0, zi 3]) (st' := []) (val := fun p => some (zi p)) (mem := fun _ => M) h114 rfl ⟨rfl, rfl, rfl, Nat.le_of_ble_eq_true rfl, Nat.le_of_ble_eq_true rfl, rfl⟩ (t_qbs_within X K M a2 0 3 ) (fun v4 => ?_)
    refine z_ifne h114 rfl ?_ ?_
    · refine z_kill h114 rfl (ls' := [zU, zU, zU]) rfl ?_
      refine z_iconst h114 rfl ?_
      exact z_iret h114 rfl (fun _ q => q)
    · refine z_iload h114 rfl rfl (Or.inl rfl) ?_
      refine z_sw h114 rfl (fun hc => ?_) (fun hc => ?_)
      · rw [if_neg (show ¬ zw a2 = 0 by omega), if_neg (show ¬ zw a2 = 1 by omega), if_neg (show ¬ zw a2 = 2 by omega)]
        refine z_aload h114 rfl rfl (Or.inl rfl) (by omega) ?_
        refine z_getr (a := 11) (b := 12) (l := [94, 15]) h114 rfl (fun r5 g_r5 => ?_)
        refine z_getr (a := 3) (b := 3) (l := [275, 7]) h114 rfl (fun r6 g_r6 => ?_)
        refine z_iload h114 rfl rfl (Or.inl rfl) ?_
        refine z_iald h114 rfl (fun v7 => ?_)
        exact z_iret h114 rfl (fun _ q => q)
      · rcases (show zw a2 = 0 ∨ zw a2 = 1 ∨ zw a2 = 2 by omega) with hq | hq | hq
        · rw [if_pos hq]
          refine ⟨18, by rw [hq]; rfl, ?_⟩
          show Rz X 114 (18, [zr self, zi a1, zi a2], [], M, K) _ _
          refine z_aload h114 rfl rfl (Or.inl rfl) (by omega) ?_
          refine z_getr (a := 11) (b := 12) (l := [94, 15]) h114 rfl (fun r8 g_r8 => ?_)
          refine z_getr (a := 3) (b := 0) (l := [266, 7]) h114 rfl (fun r9 g_r9 => ?_)
          refine z_iload h114 rfl rfl (Or.inl rfl) ?_
          refine z_iald h114 rfl (fun v10 => ?_)
          exact z_iret h114 rfl (fun _ q => q)
        · rw [if_neg (show ¬ zw a2 = 0 by omega), if_pos hq]
          refine ⟨24, by rw [hq]; rfl, ?_⟩
          show Rz X 114 (24, [zr self, zi a1, zi a2], [], M, K) _ _
          refine z_aload h114 rfl rfl (Or.inl rfl) (by omega) ?_
          refine z_getr (a := 11) (b := 12) (l := [94, 15]) h114 rfl (fun r11 g_r11 => ?_)
          refine z_getr (a := 3) (b := 1) (l := [269, 7]) h114 rfl (fun r12 g_r12 => ?_)
          refine z_iload h114 rfl rfl (Or.inl rfl) ?_
          refine z_iald h114 rfl (fun v13 => ?_)
          exact z_iret h114 rfl (fun _ q => q)
        · rw [if_neg (show ¬ zw a2 = 0 by omega), if_neg (show ¬ zw a2 = 1 by omega), if_pos hq]
          refine ⟨30, by rw [hq]; rfl, ?_⟩
          show Rz X 114 (30, [zr self, zi a1, zi a2], [], M, K) _ _
          refine z_aload h114 rfl rfl (Or.inl rfl) (by omega) ?_
          refine z_getr (a := 11) (b := 12) (l := [94, 15]) h114 rfl (fun r14 g_r14 => ?_)
          refine z_getr (a := 3) (b := 2) (l := [272, 7]) h114 rfl (fun r15 g_r15 => ?_)
          refine z_iload h114 rfl rfl (Or.inl rfl) ?_
          refine z_iald h114 rfl (fun v16 => ?_)
          exact z_iret h114 rfl (fun _ q => q)
set_option maxRecDepth 20000 in
theorem t_qbs_time (X : Int × (Int → Int)) (n : Nat) (K : zK) (M : zM) (self a1 a2 a3 : Int) (g_self : 1 ≤ self) : Rz X 115 (0, [zr self, zi a1, zi a2, zi a3], [], M, K) (qbs_time n K M self a1 a2 a3) (fun e P => P (some (zi e.1), e.2, K)) := by
  have h115 : zT 115 = zt115 := rfl
  unfold qbs_time
  refine z_iload h115 rfl rfl (Or.inl rfl) ?_
  refine z_iconst h115 rfl ?_
  refine z_iconst h115 rfl ?_
  refine z_cs (a := 123) (b := 0) (l := [104, 3]) (as := [zi a1, zi 1, zi 64]) (lsE := [zi a1, zi 1, zi 64]) (st' := []) (val := fun p => some (zi p)) (mem := fun _ => M) h115 rfl ⟨rfl, rfl, rfl, Nat.le_of_ble_eq_true rfl, Nat.le_of_ble_eq_true rfl, rfl⟩ (t_qbs_within X K M a1 1 64 ) (fun v1 => ?_)
  refine z_ifeq h115 rfl ?_ ?_
  · refine z_kill h115 rfl (ls' := [zU, zU, zU, zU]) rfl ?_
    refine z_iconst h115 rfl ?_
    exact z_iret h115 rfl (fun _ q => q)
  · refine z_iload h115 rfl rfl (Or.inl rfl) ?_
    refine z_iconst h115 rfl ?_
    refine Rz.esc (t := fun j2 => (19, [zr self, zi a1, zi a2, zi a3], [], M, K)) ?_ (fun j2 => ?_)
    · refine z_iceq h115 rfl ?_ ?_
      · exact Rz.here fun _ q => q
      · refine z_iload h115 rfl rfl (Or.inl rfl) ?_
        refine z_iconst h115 rfl ?_
        refine z_aload h115 rfl rfl (Or.inl rfl) (by omega) ?_
        refine z_getr (a := 11) (b := 12) (l := [94, 15]) h115 rfl (fun r12 g_r12 => ?_)
        refine z_getf (a := 3) (b := 6) (l := [262, 7]) h115 rfl (fun v13 => ?_)
        refine z_iconst h115 rfl ?_
        refine z_isub h115 rfl ?_
        refine z_cs (a := 123) (b := 0) (l := [104, 3]) (as := [zi a3, zi 0, zi (v13 - 1)]) (lsE := [zi a3, zi 0, zi (v13 - 1)]) (st' := []) (val := fun p => some (zi p)) (mem := fun _ => M) h115 rfl ⟨rfl, rfl, rfl, Nat.le_of_ble_eq_true rfl, Nat.le_of_ble_eq_true rfl, rfl⟩ (t_qbs_within X K M a3 0 (v13 - 1) ) (fun v14 => ?_)
        refine z_ifne h115 rfl ?_ ?_
        · refine z_kill h115 rfl (ls' := [zU, zU, zU, zU]) rfl ?_
          refine z_iconst h115 rfl ?_
          exact z_iret h115 rfl (fun _ q => q)
        · exact Rz.here fun _ q => q
    · (try dsimp only)
      refine z_aload h115 rfl rfl (Or.inl rfl) (by omega) ?_
      refine z_getr (a := 11) (b := 10) (l := [80, 15]) h115 rfl (fun r3 g_r3 => ?_)
      refine z_aload h115 rfl rfl (Or.inl rfl) (by omega) ?_
      refine z_getr (a := 11) (b := 0) (l := [14, 15]) h115 rfl (fun r4 g_r4 => ?_)
      refine z_aload h115 rfl rfl (Or.inl rfl) (by omega) ?_
      refine z_getf (a := 11) (b := 14) (l := [100, 15]) h115 rfl (fun v5 => ?_)
      refine z_aload h115 rfl rfl (Or.inl rfl) (by omega) ?_
      refine z_getr (a := 11) (b := 12) (l := [94, 15]) h115 rfl (fun r6 g_r6 => ?_)
      refine z_iload h115 rfl rfl (Or.inl rfl) ?_
      refine z_iload h115 rfl rfl (Or.inl rfl) ?_
      refine z_cv (a := 77) (b := 0) (l := [278, 6, 9, 5]) (as := [zr r4, zi v5, zr r6, zi a1, zi a2]) (lsE := [zr r3, zr r4, zi v5, zr r6, zi a1, zi a2, zU]) (st' := []) (val := fun _ => none) (mem := fun p => p) h115 rfl ⟨rfl, rfl, rfl, Nat.le_of_ble_eq_true rfl, Nat.le_of_ble_eq_true rfl, rfl⟩ (fun g1 => (t_qtm_run X n K M r3 r4 v5 r6 a1 a2 (by omega) (by omega) (by omega))) (fun M7 => ?_)
      refine z_iload h115 rfl rfl (Or.inl rfl) ?_
      refine z_iconst h115 rfl ?_
      refine z_icne h115 rfl ?_ ?_
      · refine z_aload h115 rfl rfl (Or.inl rfl) (by omega) ?_
        refine z_getr (a := 11) (b := 10) (l := [80, 15]) h115 rfl (fun r8 g_r8 => ?_)
        refine z_getf (a := 9) (b := 4) (l := [282, 5]) h115 rfl (fun v9 => ?_)
        refine z_goto h115 rfl ?_
        refine z_kill h115 rfl (ls' := [zU, zU, zU, zU]) rfl ?_
        exact z_iret h115 rfl (fun _ q => q)
      · refine z_aload h115 rfl rfl (Or.inl rfl) (by omega) ?_
        refine z_getr (a := 11) (b := 10) (l := [80, 15]) h115 rfl (fun r10 g_r10 => ?_)
        refine z_iload h115 rfl rfl (Or.inl rfl) ?_
        refine z_iload h115 rfl rfl (Or.inl rfl) ?_
        refine z_iconst h115 rfl ?_
        refine z_isub h115 rfl ?_
        refine z_cv (a := 82) (b := 0) (l := [285, 3, 9, 5]) (as := [zi a3, zi (a1 - 1)]) (lsE := [zr r10, zi a3, zi (a1 - 1)]) (st' := []) (val := fun p => some (zi p)) (mem := fun _ => M7) h115 rfl ⟨rfl, rfl, rfl, Nat.le_of_ble_eq_true rfl, Nat.le_of_ble_eq_true rfl, rfl⟩ (fun g1 => (t_qtm_thereAt X K M7 r10 a3 (a1 - 1) (by omega))) (fun v11 => ?_)
        refine z_kill h115 rfl (ls' := [zU, zU, zU, zU]) rfl ?_
        exact z_iret h115 rfl (fun _ q => q)
set_option maxRecDepth 20000 in
theorem t_qbs_when (X : Int × (Int → Int)) (n : Nat) (K : zK) (M : zM) (self a1 a2 a3 a4 a5 : Int) (g_self : 1 ≤ self) : Rz X 116 (0, [zr self, zi a1, zi a2, zi a3, zi a4, zi a5], [], M, K) (qbs_when n K M self a1 a2 a3 a4 a5) (fun e P => P (some (zi e.1), e.2, K)) := by
  have h116 : zT 116 = zt116 := rfl
  unfold qbs_when
  refine z_iload h116 rfl rfl (Or.inl rfl) ?_
  refine z_iconst h116 rfl ?_
  refine z_iconst h116 rfl ?_
  refine z_cs (a := 123) (b := 0) (l := [104, 3]) (as := [zi a1, zi 1, zi 64]) (lsE := [zi a1, zi 1, zi 64]) (st' := []) (val := fun p => some (zi p)) (mem := fun _ => M) h116 rfl ⟨rfl, rfl, rfl, Nat.le_of_ble_eq_true rfl, Nat.le_of_ble_eq_true rfl, rfl⟩ (t_qbs_within X K M a1 1 64 ) (fun v1 => ?_)
  refine z_ifeq h116 rfl ?_ ?_
  · refine z_kill h116 rfl (ls' := [zU, zU, zU, zU, zU, zU]) rfl ?_
    refine z_iconst h116 rfl ?_
    exact z_iret h116 rfl (fun _ q => q)
  · refine z_iload h116 rfl rfl (Or.inl rfl) ?_
    refine z_iconst h116 rfl ?_
    refine z_aload h116 rfl rfl (Or.inl rfl) (by omega) ?_
    refine z_getr (a := 11) (b := 12) (l := [94, 15]) h116 rfl (fun r2 g_r2 => ?_)
    refine z_getf (a := 3) (b := 6) (l := [262, 7]) h116 rfl (fun v3 => ?_)
    refine z_iconst h116 rfl ?_
    refine z_isub h116 rfl ?_
    refine z_cs (a := 123) (b := 0) (l := [104, 3]) (as := [zi a3, zi 0, zi (v3 - 1)]) (lsE := [zi a3, zi 0, zi (v3 - 1)]) (st' := []) (val := fun p => some (zi p)) (mem := fun _ => M) h116 rfl ⟨rfl, rfl, rfl, Nat.le_of_ble_eq_true rfl, Nat.le_of_ble_eq_true rfl, rfl⟩ (t_qbs_within X K M a3 0 (v3 - 1) ) (fun v4 => ?_)
    refine z_ifeq h116 rfl ?_ ?_
    · refine z_kill h116 rfl (ls' := [zU, zU, zU, zU, zU, zU]) rfl ?_
      refine z_iconst h116 rfl ?_
      exact z_iret h116 rfl (fun _ q => q)
    · refine z_iload h116 rfl rfl (Or.inr rfl) ?_
      refine z_iconst h116 rfl ?_
      refine z_iload h116 rfl rfl (Or.inl rfl) ?_
      refine z_iconst h116 rfl ?_
      refine z_isub h116 rfl ?_
      refine z_cs (a := 123) (b := 0) (l := [104, 3]) (as := [zi a4, zi 0, zi (a1 - 1)]) (lsE := [zi a4, zi 0, zi (a1 - 1)]) (st' := []) (val := fun p => some (zi p)) (mem := fun _ => M) h116 rfl ⟨rfl, rfl, rfl, Nat.le_of_ble_eq_true rfl, Nat.le_of_ble_eq_true rfl, rfl⟩ (t_qbs_within X K M a4 0 (a1 - 1) ) (fun v5 => ?_)
      refine z_ifeq h116 rfl ?_ ?_
      · refine z_kill h116 rfl (ls' := [zU, zU, zU, zU, zU, zU]) rfl ?_
        refine z_iconst h116 rfl ?_
        exact z_iret h116 rfl (fun _ q => q)
      · refine z_iload h116 rfl rfl (Or.inr rfl) ?_
        refine z_iconst h116 rfl ?_
        refine z_iconst h116 rfl ?_
        refine z_cs (a := 123) (b := 0) (l := [104, 3]) (as := [zi a5, zi 0, zi 1]) (lsE := [zi a5, zi 0, zi 1]) (st' := []) (val := fun p => some (zi p)) (mem := fun _ => M) h116 rfl ⟨rfl, rfl, rfl, Nat.le_of_ble_eq_true rfl, Nat.le_of_ble_eq_true rfl, rfl⟩ (t_qbs_within X K M a5 0 1 ) (fun v6 => ?_)
        refine z_ifne h116 rfl ?_ ?_
        · refine z_kill h116 rfl (ls' := [zU, zU, zU, zU, zU, zU]) rfl ?_
          refine z_iconst h116 rfl ?_
          exact z_iret h116 rfl (fun _ q => q)
        · refine z_aload h116 rfl rfl (Or.inl rfl) (by omega) ?_
          refine z_getr (a := 11) (b := 10) (l := [80, 15]) h116 rfl (fun r7 g_r7 => ?_)
          refine z_aload h116 rfl rfl (Or.inl rfl) (by omega) ?_
          refine z_getr (a := 11) (b := 0) (l := [14, 15]) h116 rfl (fun r8 g_r8 => ?_)
          refine z_aload h116 rfl rfl (Or.inl rfl) (by omega) ?_
          refine z_getf (a := 11) (b := 14) (l := [100, 15]) h116 rfl (fun v9 => ?_)
          refine z_aload h116 rfl rfl (Or.inl rfl) (by omega) ?_
          refine z_getr (a := 11) (b := 12) (l := [94, 15]) h116 rfl (fun r10 g_r10 => ?_)
          refine z_iload h116 rfl rfl (Or.inl rfl) ?_
          refine z_iload h116 rfl rfl (Or.inl rfl) ?_
          refine z_cv (a := 77) (b := 0) (l := [278, 6, 9, 5]) (as := [zr r8, zi v9, zr r10, zi a1, zi a2]) (lsE := [zr r7, zr r8, zi v9, zr r10, zi a1, zi a2, zU]) (st' := []) (val := fun _ => none) (mem := fun p => p) h116 rfl ⟨rfl, rfl, rfl, Nat.le_of_ble_eq_true rfl, Nat.le_of_ble_eq_true rfl, rfl⟩ (fun g1 => (t_qtm_run X n K M r7 r8 v9 r10 a1 a2 (by omega) (by omega) (by omega))) (fun M11 => ?_)
          refine z_iload h116 rfl rfl (Or.inr rfl) ?_
          refine z_ifne h116 rfl ?_ ?_
          · refine z_aload h116 rfl rfl (Or.inl rfl) (by omega) ?_
            refine z_getr (a := 11) (b := 10) (l := [80, 15]) h116 rfl (fun r12 g_r12 => ?_)
            refine z_iload h116 rfl rfl (Or.inl rfl) ?_
            refine z_iload h116 rfl rfl (Or.inr rfl) ?_
            refine z_cv (a := 81) (b := 0) (l := [288, 3, 9, 5]) (as := [zi a3, zi a4]) (lsE := [zr r12, zi a3, zi a4]) (st' := []) (val := fun p => some (zi p)) (mem := fun _ => M11) h116 rfl ⟨rfl, rfl, rfl, Nat.le_of_ble_eq_true rfl, Nat.le_of_ble_eq_true rfl, rfl⟩ (fun g1 => (t_qtm_goesAt X K M11 r12 a3 a4 (by omega))) (fun v13 => ?_)
            refine z_goto h116 rfl ?_
            refine z_kill h116 rfl (ls' := [zU, zU, zU, zU, zU, zU]) rfl ?_
            exact z_iret h116 rfl (fun _ q => q)
          · refine z_aload h116 rfl rfl (Or.inl rfl) (by omega) ?_
            refine z_getr (a := 11) (b := 10) (l := [80, 15]) h116 rfl (fun r14 g_r14 => ?_)
            refine z_iload h116 rfl rfl (Or.inl rfl) ?_
            refine z_iload h116 rfl rfl (Or.inr rfl) ?_
            refine z_cv (a := 82) (b := 0) (l := [285, 3, 9, 5]) (as := [zi a3, zi a4]) (lsE := [zr r14, zi a3, zi a4]) (st' := []) (val := fun p => some (zi p)) (mem := fun _ => M11) h116 rfl ⟨rfl, rfl, rfl, Nat.le_of_ble_eq_true rfl, Nat.le_of_ble_eq_true rfl, rfl⟩ (fun g1 => (t_qtm_thereAt X K M11 r14 a3 a4 (by omega))) (fun v15 => ?_)
            refine z_kill h116 rfl (ls' := [zU, zU, zU, zU, zU, zU]) rfl ?_
            exact z_iret h116 rfl (fun _ q => q)
set_option maxRecDepth 20000 in
theorem t_qbs_used (X : Int × (Int → Int)) (n : Nat) (K : zK) (M : zM) (self a1 a2 a3 a4 : Int) (g_self : 1 ≤ self) : Rz X 117 (0, [zr self, zi a1, zi a2, zi a3, zi a4], [], M, K) (qbs_used n K M self a1 a2 a3 a4) (fun e P => P (some (zi e.1), e.2, K)) := by
  have h117 : zT 117 = zt117 := rfl
  unfold qbs_used
  refine z_iload h117 rfl rfl (Or.inl rfl) ?_
  refine z_iconst h117 rfl ?_
  refine z_iconst h117 rfl ?_
  refine z_cs (a := 123) (b := 0) (l := [104, 3]) (as := [zi a1, zi 1, zi 64]) (lsE := [zi a1, zi 1, zi 64]) (st' := []) (val := fun p => some (zi p)) (mem := fun _ => M) h117 rfl ⟨rfl, rfl, rfl, Nat.le_of_ble_eq_true rfl, Nat.le_of_ble_eq_true rfl, rfl⟩ (t_qbs_within X K M a1 1 64 ) (fun v1 => ?_)
  refine z_ifeq h117 rfl ?_ ?_
  · refine z_kill h117 rfl (ls' := [zU, zU, zU, zU, zU]) rfl ?_
    refine z_iconst h117 rfl ?_
    exact z_iret h117 rfl (fun _ q => q)
  · refine z_iload h117 rfl rfl (Or.inl rfl) ?_
    refine z_iconst h117 rfl ?_
    refine z_iconst h117 rfl ?_
    refine z_cs (a := 123) (b := 0) (l := [104, 3]) (as := [zi a3, zi 0, zi 2]) (lsE := [zi a3, zi 0, zi 2]) (st' := []) (val := fun p => some (zi p)) (mem := fun _ => M) h117 rfl ⟨rfl, rfl, rfl, Nat.le_of_ble_eq_true rfl, Nat.le_of_ble_eq_true rfl, rfl⟩ (t_qbs_within X K M a3 0 2 ) (fun v2 => ?_)
    refine z_ifeq h117 rfl ?_ ?_
    · refine z_kill h117 rfl (ls' := [zU, zU, zU, zU, zU]) rfl ?_
      refine z_iconst h117 rfl ?_
      exact z_iret h117 rfl (fun _ q => q)
    · refine z_iload h117 rfl rfl (Or.inr rfl) ?_
      refine z_iconst h117 rfl ?_
      refine z_iconst h117 rfl ?_
      refine z_cs (a := 123) (b := 0) (l := [104, 3]) (as := [zi a4, zi 0, zi 1]) (lsE := [zi a4, zi 0, zi 1]) (st' := []) (val := fun p => some (zi p)) (mem := fun _ => M) h117 rfl ⟨rfl, rfl, rfl, Nat.le_of_ble_eq_true rfl, Nat.le_of_ble_eq_true rfl, rfl⟩ (t_qbs_within X K M a4 0 1 ) (fun v3 => ?_)
      refine z_ifne h117 rfl ?_ ?_
      · refine z_kill h117 rfl (ls' := [zU, zU, zU, zU, zU]) rfl ?_
        refine z_iconst h117 rfl ?_
        exact z_iret h117 rfl (fun _ q => q)
      · refine z_iload h117 rfl rfl (Or.inr rfl) ?_
        refine z_ifne h117 rfl ?_ ?_
        · refine z_aload h117 rfl rfl (Or.inl rfl) (by omega) ?_
          refine z_getr (a := 11) (b := 12) (l := [94, 15]) h117 rfl (fun r4 g_r4 => ?_)
          refine z_iload h117 rfl rfl (Or.inl rfl) ?_
          refine z_cv (a := 34) (b := 0) (l := [291, 2, 3, 7]) (as := [zi a3]) (lsE := [zr r4, zi a3, zU, zU]) (st' := []) (val := fun p => some (zi p)) (mem := fun _ => M) h117 rfl ⟨rfl, rfl, rfl, Nat.le_of_ble_eq_true rfl, Nat.le_of_ble_eq_true rfl, rfl⟩ (fun g1 => (t_qpr_linesOf X n K M r4 a3 (by omega))) (fun v5 => ?_)
          refine z_iload h117 rfl rfl (Or.inl rfl) ?_
          refine z_imul h117 rfl ?_
          exact z_iret h117 rfl (fun _ q => q)
        · refine z_aload h117 rfl rfl (Or.inl rfl) (by omega) ?_
          refine z_getr (a := 11) (b := 10) (l := [80, 15]) h117 rfl (fun r6 g_r6 => ?_)
          refine z_aload h117 rfl rfl (Or.inl rfl) (by omega) ?_
          refine z_getr (a := 11) (b := 0) (l := [14, 15]) h117 rfl (fun r7 g_r7 => ?_)
          refine z_aload h117 rfl rfl (Or.inl rfl) (by omega) ?_
          refine z_getf (a := 11) (b := 14) (l := [100, 15]) h117 rfl (fun v8 => ?_)
          refine z_aload h117 rfl rfl (Or.inl rfl) (by omega) ?_
          refine z_getr (a := 11) (b := 12) (l := [94, 15]) h117 rfl (fun r9 g_r9 => ?_)
          refine z_iload h117 rfl rfl (Or.inl rfl) ?_
          refine z_iload h117 rfl rfl (Or.inl rfl) ?_
          refine z_cv (a := 77) (b := 0) (l := [278, 6, 9, 5]) (as := [zr r7, zi v8, zr r9, zi a1, zi a2]) (lsE := [zr r6, zr r7, zi v8, zr r9, zi a1, zi a2, zU]) (st' := []) (val := fun _ => none) (mem := fun p => p) h117 rfl ⟨rfl, rfl, rfl, Nat.le_of_ble_eq_true rfl, Nat.le_of_ble_eq_true rfl, rfl⟩ (fun g1 => (t_qtm_run X n K M r6 r7 v8 r9 a1 a2 (by omega) (by omega) (by omega))) (fun M10 => ?_)
          refine z_aload h117 rfl rfl (Or.inl rfl) (by omega) ?_
          refine z_getr (a := 11) (b := 10) (l := [80, 15]) h117 rfl (fun r11 g_r11 => ?_)
          refine z_getf (a := 9) (b := 4) (l := [282, 5]) h117 rfl (fun v12 => ?_)
          exact z_iret h117 rfl (fun _ q => q)
set_option maxRecDepth 20000 in
theorem t_qbs_tuned (X : Int × (Int → Int)) (n : Nat) (K : zK) (M : zM) (self a1 a2 a3 : Int) (g_self : 1 ≤ self) : Rz X 118 (0, [zr self, zi a1, zi a2, zi a3, zU, zU, zU, zU, zU], [], M, K) (qbs_tuned n K M self a1 a2 a3) (fun e P => P (some (zi e.1), e.2, K)) := by
  have h118 : zT 118 = zt118 := rfl
  unfold qbs_tuned
  refine z_iload h118 rfl rfl (Or.inl rfl) ?_
  refine z_iconst h118 rfl ?_
  refine z_iconst h118 rfl ?_
  refine z_cs (a := 123) (b := 0) (l := [104, 3]) (as := [zi a1, zi 1, zi 64]) (lsE := [zi a1, zi 1, zi 64]) (st' := []) (val := fun p => some (zi p)) (mem := fun _ => M) h118 rfl ⟨rfl, rfl, rfl, Nat.le_of_ble_eq_true rfl, Nat.le_of_ble_eq_true rfl, rfl⟩ (t_qbs_within X K M a1 1 64 ) (fun v1 => ?_)
  refine z_ifeq h118 rfl ?_ ?_
  · refine z_kill h118 rfl (ls' := [zU, zU, zU, zU, zU, zU, zU, zU, zU]) rfl ?_
    refine z_iconst h118 rfl ?_
    exact z_iret h118 rfl (fun _ q => q)
  · refine z_iload h118 rfl rfl (Or.inl rfl) ?_
    refine z_iconst h118 rfl ?_
    refine z_iconst h118 rfl ?_
    refine z_cs (a := 123) (b := 0) (l := [104, 3]) (as := [zi a3, zi 0, zi 2]) (lsE := [zi a3, zi 0, zi 2]) (st' := []) (val := fun p => some (zi p)) (mem := fun _ => M) h118 rfl ⟨rfl, rfl, rfl, Nat.le_of_ble_eq_true rfl, Nat.le_of_ble_eq_true rfl, rfl⟩ (t_qbs_within X K M a3 0 2 ) (fun v2 => ?_)
    refine z_ifne h118 rfl ?_ ?_
    · refine z_kill h118 rfl (ls' := [zU, zU, zU, zU, zU, zU, zU, zU, zU]) rfl ?_
      refine z_iconst h118 rfl ?_
      exact z_iret h118 rfl (fun _ q => q)
    · refine z_aload h118 rfl rfl (Or.inl rfl) (by omega) ?_
      refine z_getr (a := 11) (b := 1) (l := [22, 15]) h118 rfl (fun r3 g_r3 => ?_)
      refine z_aload h118 rfl rfl (Or.inl rfl) (by omega) ?_
      refine z_getr (a := 11) (b := 0) (l := [14, 15]) h118 rfl (fun r4 g_r4 => ?_)
      refine z_cv (a := 22) (b := 0) (l := [182, 2, 2, 7]) (as := [zr r4]) (lsE := [zr r3, zr r4]) (st' := []) (val := fun _ => none) (mem := fun p => p) h118 rfl ⟨rfl, rfl, rfl, Nat.le_of_ble_eq_true rfl, Nat.le_of_ble_eq_true rfl, rfl⟩ (fun g1 => (t_qla_takeTable X K M r3 r4 (by omega) (by omega))) (fun M5 => ?_)
      refine z_iconst h118 rfl ?_
      refine z_istore h118 rfl (Or.inr rfl) (ls' := [zr self, zi a1, zi a2, zi a3, zi 0, zU, zU, zU, zU]) rfl ?_
      refine z_iconst h118 rfl ?_
      refine z_istore h118 rfl (Or.inr rfl) (ls' := [zr self, zi a1, zi a2, zi a3, zi 0, zi 0, zU, zU, zU]) rfl ?_
      refine z_iconst h118 rfl ?_
      refine z_istore h118 rfl (Or.inr rfl) (ls' := [zr self, zi a1, zi a2, zi a3, zi 0, zi 0, zi (-1), zU, zU]) rfl ?_
      refine z_iconst h118 rfl ?_
      refine z_istore h118 rfl (Or.inr rfl) (ls' := [zr self, zi a1, zi a2, zi a3, zi 0, zi 0, zi (-1), zi 0, zU]) rfl ?_
      refine z_kill h118 rfl (ls' := [zr self, zi a1, zi a2, zi a3, zi 0, zi 0, zi (-1), zi 0, zU]) rfl ?_
      refine Rz.wh (hd := fun s6 => (25, [zr self, zi a1, zi a2, zi a3, zi s6.1, zi s6.2.1, zi s6.2.2.1, zi s6.2.2.2.1, zU], [], s6.2.2.2.2, K)) (fun s6 => ?_) n (0, 0, (-1), 0, M5)
      (try dsimp only)
      refine z_iload h118 rfl rfl (Or.inr rfl) ?_
      refine z_aload h118 rfl rfl (Or.inl rfl) (by omega) ?_
      refine z_getr (a := 11) (b := 0) (l := [14, 15]) h118 rfl (fun r7 g_r7 => ?_)
      refine z_getf (a := 2) (b := 2) (l := [120, 7]) h118 rfl (fun v8 => ?_)
      refine z_icge h118 rfl ?_ ?_
      · refine z_iload h118 rfl rfl (Or.inl rfl) ?_
        refine z_ifne h118 rfl ?_ ?_
        · refine z_iload h118 rfl rfl (Or.inr rfl) ?_
          exact z_iret h118 rfl (fun _ q => q)
        · refine z_iload h118 rfl rfl (Or.inl rfl) ?_
          refine z_iconst h118 rfl ?_
          refine z_icne h118 rfl ?_ ?_
          · refine z_iload h118 rfl rfl (Or.inr rfl) ?_
            refine z_goto h118 rfl ?_
            refine z_kill h118 rfl (ls' := [zU, zU, zU, zU, zU, zU, zU, zU, zU]) rfl ?_
            exact z_iret h118 rfl (fun _ q => q)
          · refine z_iload h118 rfl rfl (Or.inr rfl) ?_
            refine z_kill h118 rfl (ls' := [zU, zU, zU, zU, zU, zU, zU, zU, zU]) rfl ?_
            exact z_iret h118 rfl (fun _ q => q)
      · refine z_iconst h118 rfl ?_
        refine z_istore h118 rfl (Or.inr rfl) (ls' := [zr self, zi a1, zi a2, zi a3, zi s6.1, zi s6.2.1, zi s6.2.2.1, zi s6.2.2.2.1, zi 0]) rfl ?_
        refine Rz.bind (t := fun e10 => (74, [zr self, zi a1, zi a2, zi a3, zi e10.1, zi e10.2.1, zi e10.2.2.1, zi s6.2.2.2.1, zi e10.2.2.2.1], [], e10.2.2.2.2, K)) ?_ (fun e10 => ?_)
        · refine Rz.wh (hd := fun s9 => (32, [zr self, zi a1, zi a2, zi a3, zi s9.1, zi s9.2.1, zi s9.2.2.1, zi s6.2.2.2.1, zi s9.2.2.2.1], [], s9.2.2.2.2, K)) (fun s9 => ?_) n (s6.1, s6.2.1, s6.2.2.1, 0, s6.2.2.2.2)
          (try dsimp only)
          refine z_iload h118 rfl rfl (Or.inr rfl) ?_
          refine z_aload h118 rfl rfl (Or.inl rfl) (by omega) ?_
          refine z_getr (a := 11) (b := 0) (l := [14, 15]) h118 rfl (fun r11 g_r11 => ?_)
          refine z_getf (a := 2) (b := 2) (l := [120, 7]) h118 rfl (fun v12 => ?_)
          refine z_icge h118 rfl ?_ ?_
          · exact Rz.here fun _ q => q
          · refine z_aload h118 rfl rfl (Or.inl rfl) (by omega) ?_
            refine z_getr (a := 11) (b := 1) (l := [22, 15]) h118 rfl (fun r13 g_r13 => ?_)
            refine z_iconst h118 rfl ?_
            refine z_iload h118 rfl rfl (Or.inr rfl) ?_
            refine z_iload h118 rfl rfl (Or.inr rfl) ?_
            refine z_aload h118 rfl rfl (Or.inl rfl) (by omega) ?_
            refine z_getr (a := 11) (b := 0) (l := [14, 15]) h118 rfl (fun r14 g_r14 => ?_)
            refine z_getf (a := 2) (b := 2) (l := [120, 7]) h118 rfl (fun v15 => ?_)
            refine z_cv (a := 23) (b := 0) (l := [294, 5, 2, 7]) (as := [zi 0, zi s6.2.2.2.1, zi s9.2.2.2.1, zi v15]) (lsE := [zr r13, zi 0, zi s6.2.2.2.1, zi s9.2.2.2.1, zi v15]) (st' := []) (val := fun _ => none) (mem := fun p => p) h118 rfl ⟨rfl, rfl, rfl, Nat.le_of_ble_eq_true rfl, Nat.le_of_ble_eq_true rfl, rfl⟩ (fun g1 => (t_qla_takeLaw X K s9.2.2.2.2 r13 0 s6.2.2.2.1 s9.2.2.2.1 v15 (by omega))) (fun M16 => ?_)
            refine z_aload h118 rfl rfl (Or.inl rfl) (by omega) ?_
            refine z_getr (a := 11) (b := 10) (l := [80, 15]) h118 rfl (fun r17 g_r17 => ?_)
            refine z_aload h118 rfl rfl (Or.inl rfl) (by omega) ?_
            refine z_getr (a := 11) (b := 1) (l := [22, 15]) h118 rfl (fun r18 g_r18 => ?_)
            refine z_aload h118 rfl rfl (Or.inl rfl) (by omega) ?_
            refine z_getf (a := 11) (b := 14) (l := [100, 15]) h118 rfl (fun v19 => ?_)
            refine z_aload h118 rfl rfl (Or.inl rfl) (by omega) ?_
            refine z_getr (a := 11) (b := 12) (l := [94, 15]) h118 rfl (fun r20 g_r20 => ?_)
            refine z_iload h118 rfl rfl (Or.inl rfl) ?_
            refine z_iload h118 rfl rfl (Or.inl rfl) ?_
            refine z_cv (a := 77) (b := 0) (l := [278, 6, 9, 5]) (as := [zr r18, zi v19, zr r20, zi a1, zi a2]) (lsE := [zr r17, zr r18, zi v19, zr r20, zi a1, zi a2, zU]) (st' := []) (val := fun _ => none) (mem := fun p => p) h118 rfl ⟨rfl, rfl, rfl, Nat.le_of_ble_eq_true rfl, Nat.le_of_ble_eq_true rfl, rfl⟩ (fun g1 => (t_qtm_run X n K M16 r17 r18 v19 r20 a1 a2 (by omega) (by omega) (by omega))) (fun M21 => ?_)
            refine z_iload h118 rfl rfl (Or.inr rfl) ?_
            refine Rz.esc (t := fun j22 => (64, [zr self, zi a1, zi a2, zi a3, zU, zU, zU, zi s6.2.2.2.1, zi s9.2.2.2.1], [], M21, K)) ?_ (fun j22 => ?_)
            · refine z_iflt h118 rfl ?_ ?_
              · refine z_kill h118 rfl (ls' := [zr self, zi a1, zi a2, zi a3, zU, zU, zU, zi s6.2.2.2.1, zi s9.2.2.2.1]) rfl ?_
                exact Rz.here fun _ q => q
              · refine z_aload h118 rfl rfl (Or.inl rfl) (by omega) ?_
                refine z_getr (a := 11) (b := 10) (l := [80, 15]) h118 rfl (fun r25 g_r25 => ?_)
                refine z_getf (a := 9) (b := 4) (l := [282, 5]) h118 rfl (fun v26 => ?_)
                refine z_iload h118 rfl rfl (Or.inr rfl) ?_
                refine z_icge h118 rfl ?_ ?_
                · refine z_iinc h118 rfl rfl (ls' := [zr self, zi a1, zi a2, zi a3, zi s9.1, zi s9.2.1, zi s9.2.2.1, zi s6.2.2.2.1, zi (s9.2.2.2.1 + 1)]) rfl ?_
                  refine z_goto h118 rfl ?_
                  exact Rz.here fun _ q => q
                · refine z_kill h118 rfl (ls' := [zr self, zi a1, zi a2, zi a3, zU, zU, zU, zi s6.2.2.2.1, zi s9.2.2.2.1]) rfl ?_
                  exact Rz.here fun _ q => q
            · (try dsimp only)
              refine z_aload h118 rfl rfl (Or.inl rfl) (by omega) ?_
              refine z_getr (a := 11) (b := 10) (l := [80, 15]) h118 rfl (fun r23 g_r23 => ?_)
              refine z_getf (a := 9) (b := 4) (l := [282, 5]) h118 rfl (fun v24 => ?_)
              refine z_istore h118 rfl (Or.inr rfl) (ls' := [zr self, zi a1, zi a2, zi a3, zU, zU, zi v24, zi s6.2.2.2.1, zi s9.2.2.2.1]) rfl ?_
              refine z_iload h118 rfl rfl (Or.inr rfl) ?_
              refine z_istore h118 rfl (Or.inr rfl) (ls' := [zr self, zi a1, zi a2, zi a3, zi s6.2.2.2.1, zU, zi v24, zi s6.2.2.2.1, zi s9.2.2.2.1]) rfl ?_
              refine z_iload h118 rfl rfl (Or.inr rfl) ?_
              refine z_istore h118 rfl (Or.inr rfl) (ls' := [zr self, zi a1, zi a2, zi a3, zi s6.2.2.2.1, zi s9.2.2.2.1, zi v24, zi s6.2.2.2.1, zi s9.2.2.2.1]) rfl ?_
              refine z_iinc h118 rfl rfl (ls' := [zr self, zi a1, zi a2, zi a3, zi s6.2.2.2.1, zi s9.2.2.2.1, zi v24, zi s6.2.2.2.1, zi (s9.2.2.2.1 + 1)]) rfl ?_
              refine z_goto h118 rfl ?_
              exact Rz.here fun _ q => q
        · (try dsimp only)
          refine z_iinc h118 rfl rfl (ls' := [zr self, zi a1, zi a2, zi a3, zi e10.1, zi e10.2.1, zi e10.2.2.1, zi (s6.2.2.2.1 + 1), zi e10.2.2.2.1]) rfl ?_
          refine z_goto h118 rfl ?_
          refine z_kill h118 rfl (ls' := [zr self, zi a1, zi a2, zi a3, zi e10.1, zi e10.2.1, zi e10.2.2.1, zi (s6.2.2.2.1 + 1), zU]) rfl ?_
          exact Rz.here fun _ q => q
