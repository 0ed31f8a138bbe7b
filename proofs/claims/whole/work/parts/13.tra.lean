set_option maxRecDepth 20000 in
theorem t_qar_fillJ (X : Int × (Int → Int)) (n : Nat) (K : zK) (M : zM) (a0 a1 : Int) (g_a0 : 1 ≤ a0) : Rz X 0 (0, [zr a0, zl a1, zU, zU, zU], [], M, K) (qar_fillJ n K M a0 a1) (fun e P => P (none, e, K)) := by
  have h0 : zT 0 = zt0 := rfl
  unfold qar_fillJ
  refine z_iconst h0 rfl ?_
  refine z_istore h0 rfl (Or.inl rfl) (ls' := [zr a0, zl a1, zU, zi 0, zU]) rfl ?_
  refine z_aload h0 rfl rfl (Or.inl rfl) (by omega) ?_
  refine z_alen (a := 102) (b := 0) (l := []) h0 rfl (fun v1 => ?_)
  refine z_istore h0 rfl (Or.inr rfl) (ls' := [zr a0, zl a1, zU, zi 0, zi v1]) rfl ?_
  refine Rz.wh (hd := fun s2 => (5, [zr a0, zl a1, zU, zi s2.1, zi v1], [], s2.2, K)) (fun s2 => ?_) n (0, M)
  (try dsimp only)
  refine z_iload h0 rfl rfl (Or.inl rfl) ?_
  refine z_iload h0 rfl rfl (Or.inr rfl) ?_
  refine z_icge h0 rfl ?_ ?_
  · exact z_vret h0 rfl (fun _ q => q)
  · refine z_aload h0 rfl rfl (Or.inl rfl) (by omega) ?_
    refine z_iload h0 rfl rfl (Or.inl rfl) ?_
    refine z_lload h0 rfl rfl (Or.inl rfl) ?_
    refine z_last h0 rfl (fun M3 => ?_)
    refine z_iinc h0 rfl rfl (ls' := [zr a0, zl a1, zU, zi (s2.1 + 1), zi v1]) rfl ?_
    refine z_goto h0 rfl ?_
    exact Rz.here fun _ q => q
set_option maxRecDepth 20000 in
theorem t_qar_fillI (X : Int × (Int → Int)) (n : Nat) (K : zK) (M : zM) (a0 a1 : Int) (g_a0 : 1 ≤ a0) : Rz X 1 (0, [zr a0, zi a1, zU, zU], [], M, K) (qar_fillI n K M a0 a1) (fun e P => P (none, e, K)) := by
  have h1 : zT 1 = zt1 := rfl
  unfold qar_fillI
  refine z_iconst h1 rfl ?_
  refine z_istore h1 rfl (Or.inl rfl) (ls' := [zr a0, zi a1, zi 0, zU]) rfl ?_
  refine z_aload h1 rfl rfl (Or.inl rfl) (by omega) ?_
  refine z_alen (a := 100) (b := 0) (l := []) h1 rfl (fun v1 => ?_)
  refine z_istore h1 rfl (Or.inl rfl) (ls' := [zr a0, zi a1, zi 0, zi v1]) rfl ?_
  refine Rz.wh (hd := fun s2 => (5, [zr a0, zi a1, zi s2.1, zi v1], [], s2.2, K)) (fun s2 => ?_) n (0, M)
  (try dsimp only)
  refine z_iload h1 rfl rfl (Or.inl rfl) ?_
  refine z_iload h1 rfl rfl (Or.inl rfl) ?_
  refine z_icge h1 rfl ?_ ?_
  · exact z_vret h1 rfl (fun _ q => q)
  · refine z_aload h1 rfl rfl (Or.inl rfl) (by omega) ?_
    refine z_iload h1 rfl rfl (Or.inl rfl) ?_
    refine z_iload h1 rfl rfl (Or.inl rfl) ?_
    refine z_iast h1 rfl (fun M3 => ?_)
    refine z_iinc h1 rfl rfl (ls' := [zr a0, zi a1, zi (s2.1 + 1), zi v1]) rfl ?_
    refine z_goto h1 rfl ?_
    exact Rz.here fun _ q => q
set_option maxRecDepth 20000 in
theorem t_qsg_coder (X : Int × (Int → Int)) (K : zK) (M : zM) (self : Int) (g_self : -5 ≤ self ∧ self ≤ -2) : Rz X 4 (0, [zr self], [], M, K) (qsg_coder K M self) (fun e P => P (some (zi e), M, K)) := by
  have h4 : zT 4 = zt4 := rfl
  unfold qsg_coder
  refine z_gs0 h4 rfl ?_
  refine z_ifeq h4 rfl ?_ ?_
  · refine z_iconst h4 rfl ?_
    refine z_kill h4 rfl (ls' := [zU]) rfl ?_
    exact z_cretb h4 rfl (fun z hz P q => by cases hz; exact q)
  · refine z_aload h4 rfl rfl (Or.inl rfl) (by omega) ?_
    refine z_scod h4 rfl (by omega) ?_
    refine z_goto h4 rfl ?_
    refine z_kill h4 rfl (ls' := [zU]) rfl ?_
    exact z_cretb h4 rfl (fun z hz P q => by cases hz; exact q)
set_option maxRecDepth 20000 in
theorem t_qsg_length (X : Int × (Int → Int)) (K : zK) (M : zM) (self : Int) (g_self : -5 ≤ self ∧ self ≤ -2) : Rz X 2 (0, [zr self], [], M, K) (qsg_length K M self) (fun e P => P (some (zi e), M, K)) := by
  have h2 : zT 2 = zt2 := rfl
  unfold qsg_length
  refine z_aload h2 rfl rfl (Or.inl rfl) (by omega) ?_
  refine z_sval h2 rfl (by omega) ?_
  refine z_sbl h2 rfl (by omega) ?_
  refine z_aload h2 rfl rfl (Or.inl rfl) (by omega) ?_
  refine z_c53 (a := 4) (b := 0) (l := [335, 1]) (as := []) (lsE := [zr self]) (st' := [zi ((zSb.getD (-10 - (self - 8)).toNat []).length : Int)]) (val := fun p => some (zi p)) (mem := fun _ => M) h2 rfl (by omega) ⟨rfl, rfl, rfl, Nat.le_of_ble_eq_true rfl, Nat.le_of_ble_eq_true rfl, rfl⟩ (t_qsg_coder X K M self (by omega)) (fun v1 => ?_)
  refine z_ishr h2 rfl ?_
  exact z_iret h2 rfl (fun _ q => q)
set_option maxRecDepth 20000 in
theorem t_qsg_isLatin1 (X : Int × (Int → Int)) (K : zK) (M : zM) (self : Int) (g_self : -5 ≤ self ∧ self ≤ -2) : Rz X 5 (0, [zr self], [], M, K) (qsg_isLatin1 K M self) (fun e P => P (some (zi e), M, K)) := by
  have h5 : zT 5 = zt5 := rfl
  unfold qsg_isLatin1
  refine z_gs0 h5 rfl ?_
  refine z_ifeq h5 rfl ?_ ?_
  · refine z_kill h5 rfl (ls' := [zU]) rfl ?_
    refine z_iconst h5 rfl ?_
    refine z_kill h5 rfl (ls' := [zU]) rfl ?_
    exact z_zret h5 rfl (Or.inl rfl) (fun _ q => q)
  · refine z_aload h5 rfl rfl (Or.inl rfl) (by omega) ?_
    refine z_scod h5 rfl (by omega) ?_
    refine z_ifne h5 rfl ?_ ?_
    · refine z_iconst h5 rfl ?_
      refine z_goto h5 rfl ?_
      refine z_kill h5 rfl (ls' := [zU]) rfl ?_
      exact z_zret h5 rfl (Or.inr rfl) (fun _ q => q)
    · refine z_kill h5 rfl (ls' := [zU]) rfl ?_
      refine z_iconst h5 rfl ?_
      refine z_kill h5 rfl (ls' := [zU]) rfl ?_
      exact z_zret h5 rfl (Or.inl rfl) (fun _ q => q)
set_option maxRecDepth 20000 in
theorem t_qpx_checkIndex (X : Int × (Int → Int)) (K : zK) (M : zM) (a0 a1 a2 : Int) : Rz X 8 (0, [zi a0, zi a1, zr a2], [], M, K) (qpx_checkIndex K M a0 a1 a2) (fun e P => P (some (zi e), M, K)) := by
  have h8 : zT 8 = zt8 := rfl
  unfold qpx_checkIndex
  refine z_iload h8 rfl rfl (Or.inl rfl) ?_
  refine Rz.esc (t := fun j1 => (5, [zi a0, zi a1, zr a2], [], M, K)) ?_ (fun j1 => ?_)
  · refine z_iflt h8 rfl ?_ ?_
    · exact Rz.here fun _ q => q
    · refine z_iload h8 rfl rfl (Or.inl rfl) ?_
      refine z_iload h8 rfl rfl (Or.inl rfl) ?_
      refine z_iclt h8 rfl ?_ ?_
      · refine z_iload h8 rfl rfl (Or.inl rfl) ?_
        exact z_iret h8 rfl (fun _ q => q)
      · exact Rz.here fun _ q => q
  · (try dsimp only)
    intro z hz; cases hz
set_option maxRecDepth 20000 in
theorem t_qsg_checkIndex (X : Int × (Int → Int)) (K : zK) (M : zM) (a0 a1 : Int) : Rz X 6 (0, [zi a0, zi a1], [], M, K) (qsg_checkIndex K M a0 a1) (fun _ P => P (none, M, K)) := by
  have h6 : zT 6 = zt6 := rfl
  unfold qsg_checkIndex
  refine z_iload h6 rfl rfl (Or.inl rfl) ?_
  refine z_iload h6 rfl rfl (Or.inl rfl) ?_
  refine z_gs1 h6 rfl ?_
  refine z_cs (a := 8) (b := 0) (l := [1059, 3]) (as := [zi a0, zi a1, zr (-20)]) (lsE := [zi a0, zi a1, zr (-20)]) (st' := []) (val := fun p => some (zi p)) (mem := fun _ => M) h6 rfl ⟨rfl, rfl, rfl, Nat.le_of_ble_eq_true rfl, Nat.le_of_ble_eq_true rfl, rfl⟩ (t_qpx_checkIndex X K M a0 a1 (-20) ) (fun v1 => ?_)
  refine z_pop h6 rfl ?_
  exact z_vret h6 rfl (fun _ q => q)
set_option maxRecDepth 20000 in
theorem t_qsx_charAt (X : Int × (Int → Int)) (K : zK) (M : zM) (a0 a1 : Int) (g_a0 : -13 ≤ a0 ∧ a0 ≤ -10) : Rz X 7 (0, [zr a0, zi a1], [], M, K) (qsx_charAt K M a0 a1) (fun e P => P (some (zi e), M, K)) := by
  have h7 : zT 7 = zt7 := rfl
  unfold qsx_charAt
  refine z_iload h7 rfl rfl (Or.inl rfl) ?_
  refine z_aload h7 rfl rfl (Or.inl rfl) (by omega) ?_
  refine z_sbl h7 rfl (by omega) ?_
  refine z_cs (a := 6) (b := 0) (l := [9, 2]) (as := [zi a1, zi ((zSb.getD (-10 - a0).toNat []).length : Int)]) (lsE := [zi a1, zi ((zSb.getD (-10 - a0).toNat []).length : Int)]) (st' := []) (val := fun _ => none) (mem := fun _ => M) h7 rfl ⟨rfl, rfl, rfl, Nat.le_of_ble_eq_true rfl, Nat.le_of_ble_eq_true rfl, rfl⟩ (t_qsg_checkIndex X K M a1 ((zSb.getD (-10 - a0).toNat []).length : Int) ) (fun v1 => ?_)
  refine z_aload h7 rfl rfl (Or.inl rfl) (by omega) ?_
  refine z_iload h7 rfl rfl (Or.inl rfl) ?_
  refine z_sba h7 rfl (fun v2 => ?_)
  refine z_iconst h7 rfl ?_
  refine z_iand h7 rfl ?_
  refine z_ci2c h7 rfl ?_
  exact z_cretb h7 rfl (fun z hz P q => by cases hz; exact q)
set_option maxRecDepth 20000 in
theorem t_qsg_charAt (X : Int × (Int → Int)) (K : zK) (M : zM) (self a1 : Int) (g_self : -5 ≤ self ∧ self ≤ -2) : Rz X 3 (0, [zr self, zi a1], [], M, K) (qsg_charAt K M self a1) (fun e P => P (some (zi e), M, K)) := by
  have h3 : zT 3 = zt3 := rfl
  unfold qsg_charAt
  refine z_aload h3 rfl rfl (Or.inl rfl) (by omega) ?_
  refine z_c53 (a := 5) (b := 0) (l := [492, 1]) (as := []) (lsE := [zr self]) (st' := []) (val := fun p => some (zi p)) (mem := fun _ => M) h3 rfl (by omega) ⟨rfl, rfl, rfl, Nat.le_of_ble_eq_true rfl, Nat.le_of_ble_eq_true rfl, rfl⟩ (t_qsg_isLatin1 X K M self (by omega)) (fun v1 => ?_)
  refine z_ifeq h3 rfl ?_ ?_
  · intro z hz; cases hz
  · refine z_aload h3 rfl rfl (Or.inl rfl) (by omega) ?_
    refine z_sval h3 rfl (by omega) ?_
    refine z_iload h3 rfl rfl (Or.inl rfl) ?_
    refine z_cs (a := 7) (b := 0) (l := [495, 2]) (as := [zr (self - 8), zi a1]) (lsE := [zr (self - 8), zi a1]) (st' := []) (val := fun p => some (zi p)) (mem := fun _ => M) h3 rfl ⟨rfl, rfl, rfl, Nat.le_of_ble_eq_true rfl, Nat.le_of_ble_eq_true rfl, rfl⟩ (t_qsx_charAt X K M (self - 8) a1 (by omega)) (fun v2 => ?_)
    exact z_cretb h3 rfl (fun z hz P q => by cases hz; exact q)
set_option maxRecDepth 20000 in
theorem t_qla_cellCount (X : Int × (Int → Int)) (K : zK) (M : zM) (self : Int) (g_self : 1 ≤ self) : Rz X 25 (0, [zr self], [], M, K) (qla_cellCount K M self) (fun e P => P (some (zi e), M, K)) := by
  have h25 : zT 25 = zt25 := rfl
  unfold qla_cellCount
  refine z_aload h25 rfl rfl (Or.inl rfl) (by omega) ?_
  refine z_getf (a := 2) (b := 0) (l := [9, 7]) h25 rfl (fun v1 => ?_)
  refine z_aload h25 rfl rfl (Or.inl rfl) (by omega) ?_
  refine z_getf (a := 2) (b := 1) (l := [15, 7]) h25 rfl (fun v2 => ?_)
  refine z_imul h25 rfl ?_
  exact z_iret h25 rfl (fun _ q => q)
set_option maxRecDepth 20000 in
theorem t_qsh_size (X : Int × (Int → Int)) (K : zK) (M : zM) (self : Int) (g_self : 1 ≤ self) : Rz X 56 (0, [zr self], [], M, K) (qsh_size K M self) (fun e P => P (some (zi e), M, K)) := by
  have h56 : zT 56 = zt56 := rfl
  unfold qsh_size
  refine z_aload h56 rfl rfl (Or.inl rfl) (by omega) ?_
  refine z_getf (a := 6) (b := 0) (l := [11, 3]) h56 rfl (fun v1 => ?_)
  refine z_iconst h56 rfl ?_
  refine z_icne h56 rfl ?_ ?_
  · refine z_aload h56 rfl rfl (Or.inl rfl) (by omega) ?_
    refine z_getf (a := 6) (b := 1) (l := [15, 3]) h56 rfl (fun v2 => ?_)
    refine z_aload h56 rfl rfl (Or.inl rfl) (by omega) ?_
    refine z_getf (a := 6) (b := 2) (l := [18, 3]) h56 rfl (fun v3 => ?_)
    refine z_imul h56 rfl ?_
    refine z_goto h56 rfl ?_
    refine z_kill h56 rfl (ls' := [zU]) rfl ?_
    exact z_iret h56 rfl (fun _ q => q)
  · refine z_aload h56 rfl rfl (Or.inl rfl) (by omega) ?_
    refine z_getf (a := 6) (b := 1) (l := [15, 3]) h56 rfl (fun v4 => ?_)
    refine z_kill h56 rfl (ls' := [zU]) rfl ?_
    exact z_iret h56 rfl (fun _ q => q)
set_option maxRecDepth 20000 in
theorem t_qla_has (X : Int × (Int → Int)) (K : zK) (M : zM) (self a1 a2 : Int) (g_self : 1 ≤ self) : Rz X 24 (0, [zr self, zi a1, zi a2], [], M, K) (qla_has K M self a1 a2) (fun e P => P (some (zi e), M, K)) := by
  have h24 : zT 24 = zt24 := rfl
  unfold qla_has
  refine z_iload h24 rfl rfl (Or.inl rfl) ?_
  refine z_iflt h24 rfl ?_ ?_
  · refine z_kill h24 rfl (ls' := [zU, zU, zU]) rfl ?_
    refine z_iconst h24 rfl ?_
    refine z_kill h24 rfl (ls' := [zU, zU, zU]) rfl ?_
    exact z_zret h24 rfl (Or.inl rfl) (fun _ q => q)
  · refine z_iload h24 rfl rfl (Or.inl rfl) ?_
    refine z_aload h24 rfl rfl (Or.inl rfl) (by omega) ?_
    refine z_getf (a := 2) (b := 0) (l := [9, 7]) h24 rfl (fun v1 => ?_)
    refine z_icge h24 rfl ?_ ?_
    · refine z_kill h24 rfl (ls' := [zU, zU, zU]) rfl ?_
      refine z_iconst h24 rfl ?_
      refine z_kill h24 rfl (ls' := [zU, zU, zU]) rfl ?_
      exact z_zret h24 rfl (Or.inl rfl) (fun _ q => q)
    · refine z_iload h24 rfl rfl (Or.inl rfl) ?_
      refine z_iflt h24 rfl ?_ ?_
      · refine z_kill h24 rfl (ls' := [zU, zU, zU]) rfl ?_
        refine z_iconst h24 rfl ?_
        refine z_kill h24 rfl (ls' := [zU, zU, zU]) rfl ?_
        exact z_zret h24 rfl (Or.inl rfl) (fun _ q => q)
      · refine z_iload h24 rfl rfl (Or.inl rfl) ?_
        refine z_aload h24 rfl rfl (Or.inl rfl) (by omega) ?_
        refine z_getf (a := 2) (b := 1) (l := [15, 7]) h24 rfl (fun v2 => ?_)
        refine z_icge h24 rfl ?_ ?_
        · refine z_kill h24 rfl (ls' := [zU, zU, zU]) rfl ?_
          refine z_iconst h24 rfl ?_
          refine z_kill h24 rfl (ls' := [zU, zU, zU]) rfl ?_
          exact z_zret h24 rfl (Or.inl rfl) (fun _ q => q)
        · refine z_iconst h24 rfl ?_
          refine z_goto h24 rfl ?_
          refine z_kill h24 rfl (ls' := [zU, zU, zU]) rfl ?_
          exact z_zret h24 rfl (Or.inr rfl) (fun _ q => q)
set_option maxRecDepth 20000 in
theorem t_qsh_rowsDown (X : Int × (Int → Int)) (K : zK) (M : zM) (self a1 : Int) (g_self : 1 ≤ self) : Rz X 57 (0, [zr self, zi a1], [], M, K) (qsh_rowsDown K M self a1) (fun e P => P (some (zi e), M, K)) := by
  have h57 : zT 57 = zt57 := rfl
  unfold qsh_rowsDown
  refine z_aload h57 rfl rfl (Or.inl rfl) (by omega) ?_
  refine z_getf (a := 6) (b := 0) (l := [11, 3]) h57 rfl (fun v1 => ?_)
  refine z_iconst h57 rfl ?_
  refine z_icne h57 rfl ?_ ?_
  · refine z_iload h57 rfl rfl (Or.inl rfl) ?_
    refine z_aload h57 rfl rfl (Or.inl rfl) (by omega) ?_
    refine z_getf (a := 6) (b := 2) (l := [18, 3]) h57 rfl (fun v2 => ?_)
    refine z_div h57 rfl (fun v3 => ?_)
    exact z_iret h57 rfl (fun _ q => q)
  · refine z_aload h57 rfl rfl (Or.inl rfl) (by omega) ?_
    refine z_getf (a := 6) (b := 0) (l := [11, 3]) h57 rfl (fun v4 => ?_)
    refine z_ifne h57 rfl ?_ ?_
    · refine z_iconst h57 rfl ?_
      refine z_goto h57 rfl ?_
      refine z_kill h57 rfl (ls' := [zU, zU]) rfl ?_
      exact z_iret h57 rfl (fun _ q => q)
    · refine z_iload h57 rfl rfl (Or.inl rfl) ?_
      refine z_aload h57 rfl rfl (Or.inl rfl) (by omega) ?_
      refine z_getf (a := 6) (b := 2) (l := [18, 3]) h57 rfl (fun v5 => ?_)
      refine z_imul h57 rfl ?_
      refine z_kill h57 rfl (ls' := [zU, zU]) rfl ?_
      exact z_iret h57 rfl (fun _ q => q)
set_option maxRecDepth 20000 in
theorem t_qsh_columnsRight (X : Int × (Int → Int)) (K : zK) (M : zM) (self a1 : Int) (g_self : 1 ≤ self) : Rz X 58 (0, [zr self, zi a1], [], M, K) (qsh_columnsRight K M self a1) (fun e P => P (some (zi e), M, K)) := by
  have h58 : zT 58 = zt58 := rfl
  unfold qsh_columnsRight
  refine z_aload h58 rfl rfl (Or.inl rfl) (by omega) ?_
  refine z_getf (a := 6) (b := 0) (l := [11, 3]) h58 rfl (fun v1 => ?_)
  refine z_iconst h58 rfl ?_
  refine z_icne h58 rfl ?_ ?_
  · refine z_iload h58 rfl rfl (Or.inl rfl) ?_
    refine z_aload h58 rfl rfl (Or.inl rfl) (by omega) ?_
    refine z_getf (a := 6) (b := 2) (l := [18, 3]) h58 rfl (fun v2 => ?_)
    refine z_rem h58 rfl (fun v3 => ?_)
    exact z_iret h58 rfl (fun _ q => q)
  · refine z_aload h58 rfl rfl (Or.inl rfl) (by omega) ?_
    refine z_getf (a := 6) (b := 0) (l := [11, 3]) h58 rfl (fun v4 => ?_)
    refine z_iconst h58 rfl ?_
    refine z_icne h58 rfl ?_ ?_
    · refine z_iconst h58 rfl ?_
      exact z_iret h58 rfl (fun _ q => q)
    · refine z_aload h58 rfl rfl (Or.inl rfl) (by omega) ?_
      refine z_getf (a := 6) (b := 0) (l := [11, 3]) h58 rfl (fun v5 => ?_)
      refine z_iconst h58 rfl ?_
      refine z_icne h58 rfl ?_ ?_
      · refine z_iload h58 rfl rfl (Or.inl rfl) ?_
        refine z_ineg h58 rfl ?_
        refine z_aload h58 rfl rfl (Or.inl rfl) (by omega) ?_
        refine z_getf (a := 6) (b := 2) (l := [18, 3]) h58 rfl (fun v6 => ?_)
        refine z_imul h58 rfl ?_
        refine z_goto h58 rfl ?_
        refine z_kill h58 rfl (ls' := [zU, zU]) rfl ?_
        exact z_iret h58 rfl (fun _ q => q)
      · refine z_iload h58 rfl rfl (Or.inl rfl) ?_
        refine z_aload h58 rfl rfl (Or.inl rfl) (by omega) ?_
        refine z_getf (a := 6) (b := 2) (l := [18, 3]) h58 rfl (fun v7 => ?_)
        refine z_imul h58 rfl ?_
        refine z_kill h58 rfl (ls' := [zU, zU]) rfl ?_
        exact z_iret h58 rfl (fun _ q => q)
set_option maxRecDepth 20000 in
theorem t_qsh_fits (X : Int × (Int → Int)) (K : zK) (M : zM) (self a1 a2 a3 : Int) (g_self : 1 ≤ self) (g_a1 : 1 ≤ a1) : Rz X 59 (0, [zr self, zr a1, zi a2, zi a3, zU], [], M, K) (qsh_fits K M self a1 a2 a3) (fun e P => P (some (zi e), M, K)) := by
  have h59 : zT 59 = zt59 := rfl
  unfold qsh_fits
  refine z_aload h59 rfl rfl (Or.inl rfl) (by omega) ?_
  refine z_cv (a := 56) (b := 0) (l := [21, 1, 6, 3]) (as := []) (lsE := [zr self]) (st' := []) (val := fun p => some (zi p)) (mem := fun _ => M) h59 rfl ⟨rfl, rfl, rfl, Nat.le_of_ble_eq_true rfl, Nat.le_of_ble_eq_true rfl, rfl⟩ (fun g1 => (t_qsh_size X K M self (by omega))) (fun v1 => ?_)
  refine z_iconst h59 rfl ?_
  refine z_isub h59 rfl ?_
  refine z_istoreL (lsf := fun x2 => [zr self, zr a1, zi a2, zi a3, zi x2]) h59 rfl (Or.inr rfl) (fun _ => rfl) (fun x2 => ?_)
  (try dsimp only)
  refine z_aload h59 rfl rfl (Or.inl rfl) (by omega) ?_
  refine z_iload h59 rfl rfl (Or.inl rfl) ?_
  refine z_iload h59 rfl rfl (Or.inl rfl) ?_
  refine z_cv (a := 24) (b := 0) (l := [25, 3, 2, 7]) (as := [zi a2, zi a3]) (lsE := [zr a1, zi a2, zi a3]) (st' := []) (val := fun p => some (zi p)) (mem := fun _ => M) h59 rfl ⟨rfl, rfl, rfl, Nat.le_of_ble_eq_true rfl, Nat.le_of_ble_eq_true rfl, rfl⟩ (fun g1 => (t_qla_has X K M a1 a2 a3 (by omega))) (fun v3 => ?_)
  refine z_ifeq h59 rfl ?_ ?_
  · refine z_kill h59 rfl (ls' := [zU, zU, zU, zU, zU]) rfl ?_
    refine z_iconst h59 rfl ?_
    refine z_kill h59 rfl (ls' := [zU, zU, zU, zU, zU]) rfl ?_
    exact z_zret h59 rfl (Or.inl rfl) (fun _ q => q)
  · refine z_aload h59 rfl rfl (Or.inl rfl) (by omega) ?_
    refine z_iload h59 rfl rfl (Or.inl rfl) ?_
    refine z_aload h59 rfl rfl (Or.inl rfl) (by omega) ?_
    refine z_iload h59 rfl rfl (Or.inr rfl) ?_
    refine z_cv (a := 57) (b := 0) (l := [31, 2, 6, 3]) (as := [zi x2]) (lsE := [zr self, zi x2]) (st' := [zi a2, zr a1]) (val := fun p => some (zi p)) (mem := fun _ => M) h59 rfl ⟨rfl, rfl, rfl, Nat.le_of_ble_eq_true rfl, Nat.le_of_ble_eq_true rfl, rfl⟩ (fun g1 => (t_qsh_rowsDown X K M self x2 (by omega))) (fun v4 => ?_)
    refine z_iadd h59 rfl ?_
    refine z_iload h59 rfl rfl (Or.inl rfl) ?_
    refine z_aload h59 rfl rfl (Or.inl rfl) (by omega) ?_
    refine z_iload h59 rfl rfl (Or.inr rfl) ?_
    refine z_cv (a := 58) (b := 0) (l := [35, 2, 6, 3]) (as := [zi x2]) (lsE := [zr self, zi x2]) (st' := [zi a3, zi (a2 + v4), zr a1]) (val := fun p => some (zi p)) (mem := fun _ => M) h59 rfl ⟨rfl, rfl, rfl, Nat.le_of_ble_eq_true rfl, Nat.le_of_ble_eq_true rfl, rfl⟩ (fun g1 => (t_qsh_columnsRight X K M self x2 (by omega))) (fun v5 => ?_)
    refine z_iadd h59 rfl ?_
    refine z_cv (a := 24) (b := 0) (l := [25, 3, 2, 7]) (as := [zi (a2 + v4), zi (a3 + v5)]) (lsE := [zr a1, zi (a2 + v4), zi (a3 + v5)]) (st' := []) (val := fun p => some (zi p)) (mem := fun _ => M) h59 rfl ⟨rfl, rfl, rfl, Nat.le_of_ble_eq_true rfl, Nat.le_of_ble_eq_true rfl, rfl⟩ (fun g1 => (t_qla_has X K M a1 (a2 + v4) (a3 + v5) (by omega))) (fun v6 => ?_)
    refine z_ifeq h59 rfl ?_ ?_
    · refine z_kill h59 rfl (ls' := [zU, zU, zU, zU, zU]) rfl ?_
      refine z_iconst h59 rfl ?_
      refine z_kill h59 rfl (ls' := [zU, zU, zU, zU, zU]) rfl ?_
      exact z_zret h59 rfl (Or.inl rfl) (fun _ q => q)
    · refine z_iconst h59 rfl ?_
      refine z_goto h59 rfl ?_
      refine z_kill h59 rfl (ls' := [zU, zU, zU, zU, zU]) rfl ?_
      exact z_zret h59 rfl (Or.inr rfl) (fun _ q => q)
set_option maxRecDepth 20000 in
theorem t_qfs_numberOf (X : Int × (Int → Int)) (K : zK) (M : zM) (a0 a1 a2 a3 a4 : Int) (g_a0 : 1 ≤ a0) (g_a1 : 1 ≤ a1) : Rz X 13 (0, [zr a0, zr a1, zi a2, zi a3, zi a4], [], M, K) (qfs_numberOf K M a0 a1 a2 a3 a4) (fun e P => P (some (zi e), M, K)) := by
  have h13 : zT 13 = zt13 := rfl
  unfold qfs_numberOf
  refine z_iload h13 rfl rfl (Or.inl rfl) ?_
  refine z_aload h13 rfl rfl (Or.inl rfl) (by omega) ?_
  refine z_iload h13 rfl rfl (Or.inr rfl) ?_
  refine z_cv (a := 57) (b := 0) (l := [82, 2, 6, 3]) (as := [zi a4]) (lsE := [zr a1, zi a4]) (st' := [zi a2]) (val := fun p => some (zi p)) (mem := fun _ => M) h13 rfl ⟨rfl, rfl, rfl, Nat.le_of_ble_eq_true rfl, Nat.le_of_ble_eq_true rfl, rfl⟩ (fun g1 => (t_qsh_rowsDown X K M a1 a4 (by omega))) (fun v1 => ?_)
  refine z_iadd h13 rfl ?_
  refine z_aload h13 rfl rfl (Or.inl rfl) (by omega) ?_
  refine z_getf (a := 2) (b := 1) (l := [63, 7]) h13 rfl (fun v2 => ?_)
  refine z_imul h13 rfl ?_
  refine z_iload h13 rfl rfl (Or.inl rfl) ?_
  refine z_iadd h13 rfl ?_
  refine z_aload h13 rfl rfl (Or.inl rfl) (by omega) ?_
  refine z_iload h13 rfl rfl (Or.inr rfl) ?_
  refine z_cv (a := 58) (b := 0) (l := [86, 2, 6, 3]) (as := [zi a4]) (lsE := [zr a1, zi a4]) (st' := [zi (((a2 + v1) * v2) + a3)]) (val := fun p => some (zi p)) (mem := fun _ => M) h13 rfl ⟨rfl, rfl, rfl, Nat.le_of_ble_eq_true rfl, Nat.le_of_ble_eq_true rfl, rfl⟩ (fun g1 => (t_qsh_columnsRight X K M a1 a4 (by omega))) (fun v3 => ?_)
  refine z_iadd h13 rfl ?_
  exact z_iret h13 rfl (fun _ q => q)
set_option maxRecDepth 20000 in
theorem t_qfs_gatherCut (X : Int × (Int → Int)) (n : Nat) (K : zK) (M : zM) (self a1 a2 a3 a4 : Int) (g_self : 1 ≤ self) (g_a1 : 1 ≤ a1) (g_a2 : 1 ≤ a2) : Rz X 12 (0, [zr self, zr a1, zr a2, zi a3, zi a4, zU, zU, zU], [], M, K) (qfs_gatherCut n K M self a1 a2 a3 a4) (fun e P => P (none, e, K)) := by
  have h12 : zT 12 = zt12 := rfl
  unfold qfs_gatherCut
  refine z_lconst h12 rfl ?_
  refine z_lstore h12 rfl (Or.inr rfl) (ls' := [zr self, zr a1, zr a2, zi a3, zi a4, zl 0, zU, zU]) rfl ?_
  refine z_iconst h12 rfl ?_
  refine z_istore h12 rfl (Or.inr rfl) (ls' := [zr self, zr a1, zr a2, zi a3, zi a4, zl 0, zU, zi 0]) rfl ?_
  refine Rz.bind (t := fun e2 => (21, [zr self, zr a1, zr a2, zi a3, zi a4, zl e2.1, zU, zi e2.2], [], M, K)) ?_ (fun e2 => ?_)
  · refine Rz.wh (hd := fun s1 => (4, [zr self, zr a1, zr a2, zi a3, zi a4, zl s1.1, zU, zi s1.2], [], M, K)) (fun s1 => ?_) n (0, 0)
    (try dsimp only)
    refine z_iload h12 rfl rfl (Or.inr rfl) ?_
    refine z_aload h12 rfl rfl (Or.inl rfl) (by omega) ?_
    refine z_cv (a := 56) (b := 0) (l := [76, 1, 6, 3]) (as := []) (lsE := [zr a2]) (st' := [zi s1.2]) (val := fun p => some (zi p)) (mem := fun _ => M) h12 rfl ⟨rfl, rfl, rfl, Nat.le_of_ble_eq_true rfl, Nat.le_of_ble_eq_true rfl, rfl⟩ (fun g1 => (t_qsh_size X K M a2 (by omega))) (fun v9 => ?_)
    refine z_icge h12 rfl ?_ ?_
    · exact Rz.here fun _ q => q
    · refine z_lload h12 rfl rfl (Or.inr rfl) ?_
      refine z_lconst h12 rfl ?_
      refine z_aload h12 rfl rfl (Or.inl rfl) (by omega) ?_
      refine z_aload h12 rfl rfl (Or.inl rfl) (by omega) ?_
      refine z_iload h12 rfl rfl (Or.inl rfl) ?_
      refine z_iload h12 rfl rfl (Or.inr rfl) ?_
      refine z_iload h12 rfl rfl (Or.inr rfl) ?_
      refine z_cs (a := 13) (b := 0) (l := [78, 5]) (as := [zr a1, zr a2, zi a3, zi a4, zi s1.2]) (lsE := [zr a1, zr a2, zi a3, zi a4, zi s1.2]) (st' := [zl 1, zl s1.1]) (val := fun p => some (zi p)) (mem := fun _ => M) h12 rfl ⟨rfl, rfl, rfl, Nat.le_of_ble_eq_true rfl, Nat.le_of_ble_eq_true rfl, rfl⟩ (t_qfs_numberOf X K M a1 a2 a3 a4 s1.2 (by omega) (by omega)) (fun v10 => ?_)
      refine z_lshl h12 rfl ?_
      refine z_lor h12 rfl ?_
      refine z_lstore h12 rfl (Or.inr rfl) (ls' := [zr self, zr a1, zr a2, zi a3, zi a4, zl (zlor s1.1 (zlshl 1 v10)), zU, zi s1.2]) rfl ?_
      refine z_iinc h12 rfl rfl (ls' := [zr self, zr a1, zr a2, zi a3, zi a4, zl (zlor s1.1 (zlshl 1 v10)), zU, zi (s1.2 + 1)]) rfl ?_
      refine z_goto h12 rfl ?_
      exact Rz.here fun _ q => q
  · (try dsimp only)
    refine z_iconst h12 rfl ?_
    refine z_istore h12 rfl (Or.inr rfl) (ls' := [zr self, zr a1, zr a2, zi a3, zi a4, zl e2.1, zU, zi 0]) rfl ?_
    refine Rz.wh (hd := fun s3 => (23, [zr self, zr a1, zr a2, zi a3, zi a4, zl e2.1, zU, zi s3.1], [], s3.2, K)) (fun s3 => ?_) n (0, M)
    (try dsimp only)
    refine z_iload h12 rfl rfl (Or.inr rfl) ?_
    refine z_aload h12 rfl rfl (Or.inl rfl) (by omega) ?_
    refine z_cv (a := 56) (b := 0) (l := [76, 1, 6, 3]) (as := []) (lsE := [zr a2]) (st' := [zi s3.1]) (val := fun p => some (zi p)) (mem := fun _ => s3.2) h12 rfl ⟨rfl, rfl, rfl, Nat.le_of_ble_eq_true rfl, Nat.le_of_ble_eq_true rfl, rfl⟩ (fun g1 => (t_qsh_size X K s3.2 a2 (by omega))) (fun v4 => ?_)
    refine z_icge h12 rfl ?_ ?_
    · exact z_vret h12 rfl (fun _ q => q)
    · refine z_aload h12 rfl rfl (Or.inl rfl) (by omega) ?_
      refine z_getr (a := 0) (b := 0) (l := [9, 5]) h12 rfl (fun r5 g_r5 => ?_)
      refine z_aload h12 rfl rfl (Or.inl rfl) (by omega) ?_
      refine z_aload h12 rfl rfl (Or.inl rfl) (by omega) ?_
      refine z_iload h12 rfl rfl (Or.inl rfl) ?_
      refine z_iload h12 rfl rfl (Or.inr rfl) ?_
      refine z_iload h12 rfl rfl (Or.inr rfl) ?_
      refine z_cs (a := 13) (b := 0) (l := [78, 5]) (as := [zr a1, zr a2, zi a3, zi a4, zi s3.1]) (lsE := [zr a1, zr a2, zi a3, zi a4, zi s3.1]) (st' := [zr r5]) (val := fun p => some (zi p)) (mem := fun _ => s3.2) h12 rfl ⟨rfl, rfl, rfl, Nat.le_of_ble_eq_true rfl, Nat.le_of_ble_eq_true rfl, rfl⟩ (t_qfs_numberOf X K s3.2 a1 a2 a3 a4 s3.1 (by omega) (by omega)) (fun v6 => ?_)
      refine z_dup2 h12 rfl ?_
      refine z_lald h12 rfl (fun v7 => ?_)
      refine z_lload h12 rfl rfl (Or.inr rfl) ?_
      refine z_lor h12 rfl ?_
      refine z_last h12 rfl (fun M8 => ?_)
      refine z_iinc h12 rfl rfl (ls' := [zr self, zr a1, zr a2, zi a3, zi a4, zl e2.1, zU, zi (s3.1 + 1)]) rfl ?_
      refine z_goto h12 rfl ?_
      exact Rz.here fun _ q => q
set_option maxRecDepth 20000 in
theorem t_qfs_gatherShape (X : Int × (Int → Int)) (n : Nat) (K : zK) (M : zM) (self a1 a2 : Int) (g_self : 1 ≤ self) (g_a1 : 1 ≤ a1) (g_a2 : 1 ≤ a2) : Rz X 11 (0, [zr self, zr a1, zr a2, zU, zU], [], M, K) (qfs_gatherShape n K M self a1 a2) (fun e P => P (none, e, K)) := by
  have h11 : zT 11 = zt11 := rfl
  unfold qfs_gatherShape
  refine z_iconst h11 rfl ?_
  refine z_istore h11 rfl (Or.inl rfl) (ls' := [zr self, zr a1, zr a2, zi 0, zU]) rfl ?_
  refine z_kill h11 rfl (ls' := [zr self, zr a1, zr a2, zi 0, zU]) rfl ?_
  refine Rz.wh (hd := fun s1 => (2, [zr self, zr a1, zr a2, zi s1.1, zU], [], s1.2, K)) (fun s1 => ?_) n (0, M)
  (try dsimp only)
  refine z_iload h11 rfl rfl (Or.inl rfl) ?_
  refine z_aload h11 rfl rfl (Or.inl rfl) (by omega) ?_
  refine z_getf (a := 2) (b := 0) (l := [60, 7]) h11 rfl (fun v2 => ?_)
  refine z_icge h11 rfl ?_ ?_
  · exact z_vret h11 rfl (fun _ q => q)
  · refine z_iconst h11 rfl ?_
    refine z_istore h11 rfl (Or.inr rfl) (ls' := [zr self, zr a1, zr a2, zi s1.1, zi 0]) rfl ?_
    refine Rz.bind (t := fun e4 => (26, [zr self, zr a1, zr a2, zi s1.1, zi e4.1], [], e4.2, K)) ?_ (fun e4 => ?_)
    · refine Rz.wh (hd := fun s3 => (8, [zr self, zr a1, zr a2, zi s1.1, zi s3.1], [], s3.2, K)) (fun s3 => ?_) n (0, s1.2)
      (try dsimp only)
      refine z_iload h11 rfl rfl (Or.inr rfl) ?_
      refine z_aload h11 rfl rfl (Or.inl rfl) (by omega) ?_
      refine z_getf (a := 2) (b := 1) (l := [63, 7]) h11 rfl (fun v5 => ?_)
      refine z_icge h11 rfl ?_ ?_
      · exact Rz.here fun _ q => q
      · refine z_aload h11 rfl rfl (Or.inl rfl) (by omega) ?_
        refine z_aload h11 rfl rfl (Or.inl rfl) (by omega) ?_
        refine z_iload h11 rfl rfl (Or.inl rfl) ?_
        refine z_iload h11 rfl rfl (Or.inr rfl) ?_
        refine z_cv (a := 59) (b := 0) (l := [66, 4, 6, 3]) (as := [zr a1, zi s1.1, zi s3.1]) (lsE := [zr a2, zr a1, zi s1.1, zi s3.1, zU]) (st' := []) (val := fun p => some (zi p)) (mem := fun _ => s3.2) h11 rfl ⟨rfl, rfl, rfl, Nat.le_of_ble_eq_true rfl, Nat.le_of_ble_eq_true rfl, rfl⟩ (fun g1 => (t_qsh_fits X K s3.2 a2 a1 s1.1 s3.1 (by omega) (by omega))) (fun v6 => ?_)
        refine Rz.bind (t := fun j7 => (24, [zr self, zr a1, zr a2, zi s1.1, zi s3.1], [], j7, K)) ?_ (fun j7 => ?_)
        · refine z_ifeq h11 rfl ?_ ?_
          · exact Rz.here fun _ q => q
          · refine z_aload h11 rfl rfl (Or.inl rfl) (by omega) ?_
            refine z_aload h11 rfl rfl (Or.inl rfl) (by omega) ?_
            refine z_aload h11 rfl rfl (Or.inl rfl) (by omega) ?_
            refine z_iload h11 rfl rfl (Or.inl rfl) ?_
            refine z_iload h11 rfl rfl (Or.inr rfl) ?_
            refine z_cv (a := 12) (b := 0) (l := [72, 5, 0, 5]) (as := [zr a1, zr a2, zi s1.1, zi s3.1]) (lsE := [zr self, zr a1, zr a2, zi s1.1, zi s3.1, zU, zU, zU]) (st' := []) (val := fun _ => none) (mem := fun p => p) h11 rfl ⟨rfl, rfl, rfl, Nat.le_of_ble_eq_true rfl, Nat.le_of_ble_eq_true rfl, rfl⟩ (fun g1 => (t_qfs_gatherCut X n K s3.2 self a1 a2 s1.1 s3.1 (by omega) (by omega) (by omega))) (fun M8 => ?_)
            exact Rz.here fun _ q => q
        · (try dsimp only)
          refine z_iinc h11 rfl rfl (ls' := [zr self, zr a1, zr a2, zi s1.1, zi (s3.1 + 1)]) rfl ?_
          refine z_goto h11 rfl ?_
          exact Rz.here fun _ q => q
    · (try dsimp only)
      refine z_iinc h11 rfl rfl (ls' := [zr self, zr a1, zr a2, zi (s1.1 + 1), zi e4.1]) rfl ?_
      refine z_goto h11 rfl ?_
      refine z_kill h11 rfl (ls' := [zr self, zr a1, zr a2, zi (s1.1 + 1), zU]) rfl ?_
      exact Rz.here fun _ q => q
set_option maxRecDepth 20000 in
theorem t_qfs_gather (X : Int × (Int → Int)) (n : Nat) (K : zK) (M : zM) (self a1 a2 : Int) (g_self : 1 ≤ self) (g_a1 : 1 ≤ a1) (g_a2 : 1 ≤ a2) : Rz X 10 (0, [zr self, zr a1, zr a2, zU], [], M, K) (qfs_gather n K M self a1 a2) (fun e P => P (none, e, K)) := by
  have h10 : zT 10 = zt10 := rfl
  unfold qfs_gather
  refine z_aload h10 rfl rfl (Or.inl rfl) (by omega) ?_
  refine z_aload h10 rfl rfl (Or.inl rfl) (by omega) ?_
  refine z_cv (a := 25) (b := 0) (l := [25, 1, 2, 7]) (as := []) (lsE := [zr a1]) (st' := [zr self]) (val := fun p => some (zi p)) (mem := fun _ => M) h10 rfl ⟨rfl, rfl, rfl, Nat.le_of_ble_eq_true rfl, Nat.le_of_ble_eq_true rfl, rfl⟩ (fun g1 => (t_qla_cellCount X K M a1 (by omega))) (fun v1 => ?_)
  refine z_iconst h10 rfl ?_
  refine z_mmin h10 rfl rfl ?_
  refine z_putf (a := 0) (b := 4) (l := [37, 5]) h10 rfl (fun M2 => ?_)
  refine z_aload h10 rfl rfl (Or.inl rfl) (by omega) ?_
  refine z_getr (a := 0) (b := 0) (l := [9, 5]) h10 rfl (fun r3 g_r3 => ?_)
  refine z_lconst h10 rfl ?_
  refine z_cs (a := 0) (b := 0) (l := [41, 2]) (as := [zr r3, zl 0]) (lsE := [zr r3, zl 0, zU, zU, zU]) (st' := []) (val := fun _ => none) (mem := fun p => p) h10 rfl ⟨rfl, rfl, rfl, Nat.le_of_ble_eq_true rfl, Nat.le_of_ble_eq_true rfl, rfl⟩ (t_qar_fillJ X n K M2 r3 0 (by omega)) (fun M4 => ?_)
  refine z_iconst h10 rfl ?_
  refine z_istore h10 rfl (Or.inl rfl) (ls' := [zr self, zr a1, zr a2, zi 0]) rfl ?_
  refine Rz.wh (hd := fun s5 => (12, [zr self, zr a1, zr a2, zi s5.1], [], s5.2, K)) (fun s5 => ?_) n (0, M4)
  (try dsimp only)
  refine z_iload h10 rfl rfl (Or.inl rfl) ?_
  refine z_aload h10 rfl rfl (Or.inl rfl) (by omega) ?_
  refine z_getf (a := 10) (b := 1) (l := [47, 2]) h10 rfl (fun v6 => ?_)
  refine z_icge h10 rfl ?_ ?_
  · exact z_vret h10 rfl (fun _ q => q)
  · refine z_aload h10 rfl rfl (Or.inl rfl) (by omega) ?_
    refine z_aload h10 rfl rfl (Or.inl rfl) (by omega) ?_
    refine z_aload h10 rfl rfl (Or.inl rfl) (by omega) ?_
    refine z_getr (a := 10) (b := 0) (l := [52, 2]) h10 rfl (fun r7 g_r7 => ?_)
    refine z_iload h10 rfl rfl (Or.inl rfl) ?_
    refine z_aald (a := 103) (b := 0) (l := []) h10 rfl (fun r8 g_r8 => ?_)
    refine z_cv (a := 11) (b := 0) (l := [56, 3, 0, 5]) (as := [zr a1, zr r8]) (lsE := [zr self, zr a1, zr r8, zU, zU]) (st' := []) (val := fun _ => none) (mem := fun p => p) h10 rfl ⟨rfl, rfl, rfl, Nat.le_of_ble_eq_true rfl, Nat.le_of_ble_eq_true rfl, rfl⟩ (fun g1 => (t_qfs_gatherShape X n K s5.2 self a1 r8 (by omega) (by omega) (by omega))) (fun M9 => ?_)
    refine z_iinc h10 rfl rfl (ls' := [zr self, zr a1, zr a2, zi (s5.1 + 1)]) rfl ?_
    refine z_goto h10 rfl ?_
    exact Rz.here fun _ q => q
set_option maxRecDepth 20000 in
theorem t_qfs_lastToAsk (X : Int × (Int → Int)) (K : zK) (M : zM) (self a1 a2 : Int) (g_self : 1 ≤ self) : Rz X 15 (0, [zr self, zi a1, zi a2], [], M, K) (qfs_lastToAsk K M self a1 a2) (fun e P => P (some (zi e), M, K)) := by
  have h15 : zT 15 = zt15 := rfl
  unfold qfs_lastToAsk
  refine z_iload h15 rfl rfl (Or.inl rfl) ?_
  refine z_iconst h15 rfl ?_
  refine z_isub h15 rfl ?_
  refine z_aload h15 rfl rfl (Or.inl rfl) (by omega) ?_
  refine z_getr (a := 0) (b := 3) (l := [22, 5]) h15 rfl (fun r1 g_r1 => ?_)
  refine z_iload h15 rfl rfl (Or.inl rfl) ?_
  refine z_iald h15 rfl (fun v2 => ?_)
  refine z_iconst h15 rfl ?_
  refine z_iadd h15 rfl ?_
  refine z_mmin h15 rfl rfl ?_
  exact z_iret h15 rfl (fun _ q => q)
set_option maxRecDepth 20000 in
theorem t_qfs_lift (X : Int × (Int → Int)) (K : zK) (M : zM) (self a1 : Int) (g_self : 1 ≤ self) : Rz X 17 (0, [zr self, zi a1, zU], [], M, K) (qfs_lift K M self a1) (fun e P => P (some (zi e.1), e.2, K)) := by
  have h17 : zT 17 = zt17 := rfl
  unfold qfs_lift
  refine z_aload h17 rfl rfl (Or.inl rfl) (by omega) ?_
  refine z_getr (a := 0) (b := 2) (l := [18, 5]) h17 rfl (fun r1 g_r1 => ?_)
  refine z_iload h17 rfl rfl (Or.inl rfl) ?_
  refine z_iald h17 rfl (fun v2 => ?_)
  refine z_istore h17 rfl (Or.inl rfl) (ls' := [zr self, zi a1, zi v2]) rfl ?_
  refine z_aload h17 rfl rfl (Or.inl rfl) (by omega) ?_
  refine z_getr (a := 0) (b := 1) (l := [15, 5]) h17 rfl (fun r3 g_r3 => ?_)
  refine z_iload h17 rfl rfl (Or.inl rfl) ?_
  refine z_dup2 h17 rfl ?_
  refine z_lald h17 rfl (fun v4 => ?_)
  refine z_lconst h17 rfl ?_
  refine z_iload h17 rfl rfl (Or.inl rfl) ?_
  refine z_lshl h17 rfl ?_
  refine z_lconst h17 rfl ?_
  refine z_lxor h17 rfl ?_
  refine z_land h17 rfl ?_
  refine z_last h17 rfl (fun M5 => ?_)
  refine z_iload h17 rfl rfl (Or.inl rfl) ?_
  exact z_iret h17 rfl (fun _ q => q)
set_option maxRecDepth 20000 in
theorem t_qfs_put (X : Int × (Int → Int)) (K : zK) (M : zM) (self a1 a2 : Int) (g_self : 1 ≤ self) : Rz X 16 (0, [zr self, zi a1, zi a2], [], M, K) (qfs_put K M self a1 a2) (fun e P => P (none, e, K)) := by
  have h16 : zT 16 = zt16 := rfl
  unfold qfs_put
  refine z_aload h16 rfl rfl (Or.inl rfl) (by omega) ?_
  refine z_getr (a := 0) (b := 2) (l := [18, 5]) h16 rfl (fun r1 g_r1 => ?_)
  refine z_iload h16 rfl rfl (Or.inl rfl) ?_
  refine z_iload h16 rfl rfl (Or.inl rfl) ?_
  refine z_iast h16 rfl (fun M2 => ?_)
  refine z_aload h16 rfl rfl (Or.inl rfl) (by omega) ?_
  refine z_getr (a := 0) (b := 1) (l := [15, 5]) h16 rfl (fun r3 g_r3 => ?_)
  refine z_iload h16 rfl rfl (Or.inl rfl) ?_
  refine z_dup2 h16 rfl ?_
  refine z_lald h16 rfl (fun v4 => ?_)
  refine z_lconst h16 rfl ?_
  refine z_iload h16 rfl rfl (Or.inl rfl) ?_
  refine z_lshl h16 rfl ?_
  refine z_lor h16 rfl ?_
  refine z_last h16 rfl (fun M5 => ?_)
  refine z_iload h16 rfl rfl (Or.inl rfl) ?_
  refine z_iconst h16 rfl ?_
  refine z_iadd h16 rfl ?_
  refine z_aload h16 rfl rfl (Or.inl rfl) (by omega) ?_
  refine z_getf (a := 0) (b := 4) (l := [37, 5]) h16 rfl (fun v6 => ?_)
  refine z_icge h16 rfl ?_ ?_
  · refine z_kill h16 rfl (ls' := [zU, zU, zU]) rfl ?_
    exact z_vret h16 rfl (fun _ q => q)
  · refine z_aload h16 rfl rfl (Or.inl rfl) (by omega) ?_
    refine z_getr (a := 0) (b := 3) (l := [22, 5]) h16 rfl (fun r7 g_r7 => ?_)
    refine z_iload h16 rfl rfl (Or.inl rfl) ?_
    refine z_iconst h16 rfl ?_
    refine z_iadd h16 rfl ?_
    refine z_aload h16 rfl rfl (Or.inl rfl) (by omega) ?_
    refine z_getr (a := 0) (b := 3) (l := [22, 5]) h16 rfl (fun r8 g_r8 => ?_)
    refine z_iload h16 rfl rfl (Or.inl rfl) ?_
    refine z_iald h16 rfl (fun v9 => ?_)
    refine z_iload h16 rfl rfl (Or.inl rfl) ?_
    refine z_mmax h16 rfl rfl ?_
    refine z_iast h16 rfl (fun M10 => ?_)
    refine z_kill h16 rfl (ls' := [zU, zU, zU]) rfl ?_
    exact z_vret h16 rfl (fun _ q => q)
set_option maxRecDepth 20000 in
theorem t_qfs_seek (X : Int × (Int → Int)) (n : Nat) (K : zK) (M : zM) (self a1 : Int) (g_self : 1 ≤ self) : Rz X 14 (0, [zr self, zi a1, zU, zU, zU], [], M, K) (qfs_seek n K M self a1) (fun e P => P (some (zi e.1), e.2, K)) := by
  have h14 : zT 14 = zt14 := rfl
  unfold qfs_seek
  refine z_aload h14 rfl rfl (Or.inl rfl) (by omega) ?_
  refine z_getr (a := 0) (b := 1) (l := [15, 5]) h14 rfl (fun r1 g_r1 => ?_)
  refine z_lconst h14 rfl ?_
  refine z_cs (a := 0) (b := 0) (l := [41, 2]) (as := [zr r1, zl 0]) (lsE := [zr r1, zl 0, zU, zU, zU]) (st' := []) (val := fun _ => none) (mem := fun p => p) h14 rfl ⟨rfl, rfl, rfl, Nat.le_of_ble_eq_true rfl, Nat.le_of_ble_eq_true rfl, rfl⟩ (t_qar_fillJ X n K M r1 0 (by omega)) (fun M2 => ?_)
  refine z_aload h14 rfl rfl (Or.inl rfl) (by omega) ?_
  refine z_getr (a := 0) (b := 3) (l := [22, 5]) h14 rfl (fun r3 g_r3 => ?_)
  refine z_iconst h14 rfl ?_
  refine z_iconst h14 rfl ?_
  refine z_iast h14 rfl (fun M4 => ?_)
  refine z_iconst h14 rfl ?_
  refine z_istore h14 rfl (Or.inl rfl) (ls' := [zr self, zi a1, zi 0, zU, zU]) rfl ?_
  refine z_iconst h14 rfl ?_
  refine z_istore h14 rfl (Or.inl rfl) (ls' := [zr self, zi a1, zi 0, zi 0, zU]) rfl ?_
  refine z_iconst h14 rfl ?_
  refine z_istore h14 rfl (Or.inr rfl) (ls' := [zr self, zi a1, zi 0, zi 0, zi 1]) rfl ?_
  refine Rz.wh (hd := fun s5 => (15, [zr self, zi a1, zi s5.1, zi s5.2.1, zi s5.2.2.1], [], s5.2.2.2, K)) (fun s5 => ?_) n (0, 0, 1, M4)
  (try dsimp only)
  refine z_iload h14 rfl rfl (Or.inr rfl) ?_
  refine z_iconst h14 rfl ?_
  refine z_icgt h14 rfl ?_ ?_
  · refine z_iconst h14 rfl ?_
    exact z_iret h14 rfl (fun _ q => q)
  · refine Rz.bind (t := fun e7 => (38, [zr self, zi a1, zi e7.1, zi e7.2.1, zi s5.2.2.1], [], e7.2.2, K)) ?_ (fun e7 => ?_)
    · refine Rz.wh (hd := fun s6 => (18, [zr self, zi a1, zi s6.1, zi s6.2.1, zi s5.2.2.1], [], s6.2.2, K)) (fun s6 => ?_) n (s5.1, s5.2.1, s5.2.2.2)
      (try dsimp only)
      refine z_iload h14 rfl rfl (Or.inl rfl) ?_
      refine z_iflt h14 rfl ?_ ?_
      · exact Rz.here fun _ q => q
      · refine z_iload h14 rfl rfl (Or.inl rfl) ?_
        refine z_aload h14 rfl rfl (Or.inl rfl) (by omega) ?_
        refine z_iload h14 rfl rfl (Or.inl rfl) ?_
        refine z_iload h14 rfl rfl (Or.inl rfl) ?_
        refine z_cv (a := 15) (b := 0) (l := [89, 3, 0, 5]) (as := [zi s6.1, zi a1]) (lsE := [zr self, zi s6.1, zi a1]) (st' := [zi s6.2.1]) (val := fun p => some (zi p)) (mem := fun _ => s6.2.2) h14 rfl ⟨rfl, rfl, rfl, Nat.le_of_ble_eq_true rfl, Nat.le_of_ble_eq_true rfl, rfl⟩ (fun g1 => (t_qfs_lastToAsk X K s6.2.2 self s6.1 a1 (by omega))) (fun v15 => ?_)
        refine z_icle h14 rfl ?_ ?_
        · exact Rz.here fun _ q => q
        · refine z_iinc h14 rfl rfl (ls' := [zr self, zi a1, zi (s6.1 + (-1)), zi s6.2.1, zi s5.2.2.1]) rfl ?_
          refine z_iload h14 rfl rfl (Or.inl rfl) ?_
          refine Rz.bind (t := fun j16 => (36, [zr self, zi a1, zi (s6.1 + (-1)), zU, zi s5.2.2.1], [zi j16.1], j16.2, K)) ?_ (fun j16 => ?_)
          · refine z_iflt h14 rfl ?_ ?_
            · refine z_iconst h14 rfl ?_
              refine z_kill h14 rfl (ls' := [zr self, zi a1, zi (s6.1 + (-1)), zU, zi s5.2.2.1]) rfl ?_
              exact Rz.here fun _ q => q
            · refine z_aload h14 rfl rfl (Or.inl rfl) (by omega) ?_
              refine z_iload h14 rfl rfl (Or.inl rfl) ?_
              refine z_cv (a := 17) (b := 0) (l := [92, 2, 0, 5]) (as := [zi (s6.1 + (-1))]) (lsE := [zr self, zi (s6.1 + (-1)), zU]) (st' := []) (val := fun p => some (zi p.1)) (mem := fun p => p.2) h14 rfl ⟨rfl, rfl, rfl, Nat.le_of_ble_eq_true rfl, Nat.le_of_ble_eq_true rfl, rfl⟩ (fun g1 => (t_qfs_lift X K s6.2.2 self (s6.1 + (-1)) (by omega))) (fun p17 => ?_)
              refine z_iconst h14 rfl ?_
              refine z_iadd h14 rfl ?_
              refine z_goto h14 rfl ?_
              refine z_kill h14 rfl (ls' := [zr self, zi a1, zi (s6.1 + (-1)), zU, zi s5.2.2.1]) rfl ?_
              exact Rz.here fun _ q => q
          · (try dsimp only)
            refine z_istore h14 rfl (Or.inl rfl) (ls' := [zr self, zi a1, zi (s6.1 + (-1)), zi j16.1, zi s5.2.2.1]) rfl ?_
            refine z_goto h14 rfl ?_
            exact Rz.here fun _ q => q
    · (try dsimp only)
      refine z_iload h14 rfl rfl (Or.inl rfl) ?_
      refine z_ifge h14 rfl ?_ ?_
      · refine z_aload h14 rfl rfl (Or.inl rfl) (by omega) ?_
        refine z_getr (a := 0) (b := 1) (l := [15, 5]) h14 rfl (fun r8 g_r8 => ?_)
        refine z_iload h14 rfl rfl (Or.inl rfl) ?_
        refine z_lald h14 rfl (fun v9 => ?_)
        refine z_aload h14 rfl rfl (Or.inl rfl) (by omega) ?_
        refine z_getr (a := 0) (b := 0) (l := [9, 5]) h14 rfl (fun r10 g_r10 => ?_)
        refine z_iload h14 rfl rfl (Or.inl rfl) ?_
        refine z_lald h14 rfl (fun v11 => ?_)
        refine z_land h14 rfl ?_
        refine z_lconst h14 rfl ?_
        refine z_lcmp h14 rfl ?_
        refine Rz.esc (t := fun j12 => (69, [zr self, zi a1, zi j12.1, zi j12.2.1, zi s5.2.2.1], [], j12.2.2, K)) ?_ (fun j12 => ?_)
        · refine z_ifeq h14 rfl ?_ ?_
          · refine z_aload h14 rfl rfl (Or.inl rfl) (by omega) ?_
            refine z_iload h14 rfl rfl (Or.inl rfl) ?_
            refine z_iload h14 rfl rfl (Or.inl rfl) ?_
            refine z_cv (a := 16) (b := 0) (l := [95, 3, 0, 5]) (as := [zi e7.1, zi e7.2.1]) (lsE := [zr self, zi e7.1, zi e7.2.1]) (st' := []) (val := fun _ => none) (mem := fun p => p) h14 rfl ⟨rfl, rfl, rfl, Nat.le_of_ble_eq_true rfl, Nat.le_of_ble_eq_true rfl, rfl⟩ (fun g1 => (t_qfs_put X K e7.2.2 self e7.1 e7.2.1 (by omega))) (fun M13 => ?_)
            refine z_iinc h14 rfl rfl (ls' := [zr self, zi a1, zi (e7.1 + 1), zi e7.2.1, zi s5.2.2.1]) rfl ?_
            refine z_iconst h14 rfl ?_
            refine z_istore h14 rfl (Or.inl rfl) (ls' := [zr self, zi a1, zi (e7.1 + 1), zi 0, zi s5.2.2.1]) rfl ?_
            refine z_iload h14 rfl rfl (Or.inl rfl) ?_
            refine z_aload h14 rfl rfl (Or.inl rfl) (by omega) ?_
            refine z_getf (a := 0) (b := 4) (l := [37, 5]) h14 rfl (fun v14 => ?_)
            refine z_iclt h14 rfl ?_ ?_
            · exact Rz.here fun _ q => q
            · refine z_iload h14 rfl rfl (Or.inr rfl) ?_
              exact z_iret h14 rfl (fun _ q => q)
          · refine z_iinc h14 rfl rfl (ls' := [zr self, zi a1, zi e7.1, zi (e7.2.1 + 1), zi s5.2.2.1]) rfl ?_
            refine z_goto h14 rfl ?_
            exact Rz.here fun _ q => q
        · (try dsimp only)
          refine z_iinc h14 rfl rfl (ls' := [zr self, zi a1, zi j12.1, zi j12.2.1, zi (s5.2.2.1 + 1)]) rfl ?_
          refine z_goto h14 rfl ?_
          exact Rz.here fun _ q => q
      · refine z_iconst h14 rfl ?_
        exact z_iret h14 rfl (fun _ q => q)
set_option maxRecDepth 20000 in
theorem t_qbs_spot (X : Int × (Int → Int)) (K : zK) (M : zM) (a0 a1 : Int) : Rz X 126 (0, [zi a0, zi a1], [], M, K) (qbs_spot K M a0 a1) (fun e P => P (some (zi e), M, K)) := by
  have h126 : zT 126 = zt126 := rfl
  unfold qbs_spot
  refine z_iload h126 rfl rfl (Or.inl rfl) ?_
  refine z_iconst h126 rfl ?_
  refine z_imul h126 rfl ?_
  refine z_iload h126 rfl rfl (Or.inl rfl) ?_
  refine z_iadd h126 rfl ?_
  exact z_iret h126 rfl (fun _ q => q)
set_option maxRecDepth 20000 in
theorem t_qfs_copyTo (X : Int × (Int → Int)) (n : Nat) (K : zK) (M : zM) (self a1 : Int) (g_self : 1 ≤ self) (g_a1 : 1 ≤ a1) : Rz X 18 (0, [zr self, zr a1, zU], [], M, K) (qfs_copyTo n K M self a1) (fun e P => P (none, e, K)) := by
  have h18 : zT 18 = zt18 := rfl
  unfold qfs_copyTo
  refine z_iconst h18 rfl ?_
  refine z_istore h18 rfl (Or.inl rfl) (ls' := [zr self, zr a1, zi 0]) rfl ?_
  refine Rz.wh (hd := fun s1 => (2, [zr self, zr a1, zi s1.1], [], s1.2, K)) (fun s1 => ?_) n (0, M)
  (try dsimp only)
  refine z_iload h18 rfl rfl (Or.inl rfl) ?_
  refine z_aload h18 rfl rfl (Or.inl rfl) (by omega) ?_
  refine z_getf (a := 0) (b := 4) (l := [37, 5]) h18 rfl (fun v2 => ?_)
  refine z_icge h18 rfl ?_ ?_
  · exact z_vret h18 rfl (fun _ q => q)
  · refine z_aload h18 rfl rfl (Or.inl rfl) (by omega) ?_
    refine z_getr (a := 2) (b := 6) (l := [104, 7]) h18 rfl (fun r3 g_r3 => ?_)
    refine z_iload h18 rfl rfl (Or.inl rfl) ?_
    refine z_aload h18 rfl rfl (Or.inl rfl) (by omega) ?_
    refine z_getf (a := 2) (b := 1) (l := [63, 7]) h18 rfl (fun v4 => ?_)
    refine z_div h18 rfl (fun v5 => ?_)
    refine z_iload h18 rfl rfl (Or.inl rfl) ?_
    refine z_aload h18 rfl rfl (Or.inl rfl) (by omega) ?_
    refine z_getf (a := 2) (b := 1) (l := [63, 7]) h18 rfl (fun v6 => ?_)
    refine z_rem h18 rfl (fun v7 => ?_)
    refine z_cs (a := 126) (b := 1) (l := [107, 2]) (as := [zi v5, zi v7]) (lsE := [zi v5, zi v7]) (st' := [zr r3]) (val := fun p => some (zi p)) (mem := fun _ => s1.2) h18 rfl ⟨rfl, rfl, rfl, Nat.le_of_ble_eq_true rfl, Nat.le_of_ble_eq_true rfl, rfl⟩ (t_qbs_spot X K s1.2 v5 v7 ) (fun v8 => ?_)
    refine z_aload h18 rfl rfl (Or.inl rfl) (by omega) ?_
    refine z_getr (a := 0) (b := 2) (l := [18, 5]) h18 rfl (fun r9 g_r9 => ?_)
    refine z_iload h18 rfl rfl (Or.inl rfl) ?_
    refine z_iald h18 rfl (fun v10 => ?_)
    refine z_iast h18 rfl (fun M11 => ?_)
    refine z_iinc h18 rfl rfl (ls' := [zr self, zr a1, zi (s1.1 + 1)]) rfl ?_
    refine z_goto h18 rfl ?_
    exact Rz.here fun _ q => q
set_option maxRecDepth 20000 in
theorem t_qla_takeLaw (X : Int × (Int → Int)) (K : zK) (M : zM) (self a1 a2 a3 a4 : Int) (g_self : 1 ≤ self) : Rz X 23 (0, [zr self, zi a1, zi a2, zi a3, zi a4], [], M, K) (qla_takeLaw K M self a1 a2 a3 a4) (fun e P => P (none, e, K)) := by
  have h23 : zT 23 = zt23 := rfl
  unfold qla_takeLaw
  refine z_aload h23 rfl rfl (Or.inl rfl) (by omega) ?_
  refine z_iload h23 rfl rfl (Or.inl rfl) ?_
  refine z_putf (a := 2) (b := 3) (l := [21, 7]) h23 rfl (fun M1 => ?_)
  refine z_aload h23 rfl rfl (Or.inl rfl) (by omega) ?_
  refine z_iload h23 rfl rfl (Or.inl rfl) ?_
  refine z_putf (a := 2) (b := 4) (l := [24, 7]) h23 rfl (fun M2 => ?_)
  refine z_aload h23 rfl rfl (Or.inl rfl) (by omega) ?_
  refine z_iload h23 rfl rfl (Or.inl rfl) ?_
  refine z_putf (a := 2) (b := 5) (l := [27, 7]) h23 rfl (fun M3 => ?_)
  refine z_aload h23 rfl rfl (Or.inl rfl) (by omega) ?_
  refine z_iload h23 rfl rfl (Or.inr rfl) ?_
  refine z_putf (a := 2) (b := 2) (l := [18, 7]) h23 rfl (fun M4 => ?_)
  exact z_vret h23 rfl (fun _ q => q)
set_option maxRecDepth 20000 in
theorem t_qla_bankAt (X : Int × (Int → Int)) (K : zK) (M : zM) (self a1 a2 : Int) (g_self : 1 ≤ self) : Rz X 26 (0, [zr self, zi a1, zi a2, zU], [], M, K) (qla_bankAt K M self a1 a2) (fun e P => P (some (zi e), M, K)) := by
  have h26 : zT 26 = zt26 := rfl
  unfold qla_bankAt
  refine z_aload h26 rfl rfl (Or.inl rfl) (by omega) ?_
  refine z_getf (a := 2) (b := 3) (l := [21, 7]) h26 rfl (fun v1 => ?_)
  refine z_iconst h26 rfl ?_
  refine z_icne h26 rfl ?_ ?_
  · refine z_aload h26 rfl rfl (Or.inl rfl) (by omega) ?_
    refine z_getr (a := 2) (b := 6) (l := [30, 7]) h26 rfl (fun r2 g_r2 => ?_)
    refine z_iload h26 rfl rfl (Or.inl rfl) ?_
    refine z_iload h26 rfl rfl (Or.inl rfl) ?_
    refine z_cs (a := 126) (b := 1) (l := [34, 2]) (as := [zi a1, zi a2]) (lsE := [zi a1, zi a2]) (st' := [zr r2]) (val := fun p => some (zi p)) (mem := fun _ => M) h26 rfl ⟨rfl, rfl, rfl, Nat.le_of_ble_eq_true rfl, Nat.le_of_ble_eq_true rfl, rfl⟩ (t_qbs_spot X K M a1 a2 ) (fun v3 => ?_)
    refine z_iald h26 rfl (fun v4 => ?_)
    exact z_iret h26 rfl (fun _ q => q)
  · refine z_aload h26 rfl rfl (Or.inl rfl) (by omega) ?_
    refine z_getf (a := 2) (b := 3) (l := [21, 7]) h26 rfl (fun v5 => ?_)
    refine Rz.bind (t := fun j6 => (33, [zr self, zU, zU, zU], [zi j6], M, K)) ?_ (fun j6 => ?_)
    · refine z_ifne h26 rfl ?_ ?_
      · refine z_aload h26 rfl rfl (Or.inl rfl) (by omega) ?_
        refine z_getf (a := 2) (b := 4) (l := [24, 7]) h26 rfl (fun v9 => ?_)
        refine z_iload h26 rfl rfl (Or.inl rfl) ?_
        refine z_imul h26 rfl ?_
        refine z_aload h26 rfl rfl (Or.inl rfl) (by omega) ?_
        refine z_getf (a := 2) (b := 5) (l := [27, 7]) h26 rfl (fun v10 => ?_)
        refine z_iload h26 rfl rfl (Or.inl rfl) ?_
        refine z_imul h26 rfl ?_
        refine z_iadd h26 rfl ?_
        refine z_goto h26 rfl ?_
        refine z_kill h26 rfl (ls' := [zr self, zU, zU, zU]) rfl ?_
        exact Rz.here fun _ q => q
      · refine z_aload h26 rfl rfl (Or.inl rfl) (by omega) ?_
        refine z_getf (a := 2) (b := 4) (l := [24, 7]) h26 rfl (fun v11 => ?_)
        refine z_iload h26 rfl rfl (Or.inl rfl) ?_
        refine z_imul h26 rfl ?_
        refine z_aload h26 rfl rfl (Or.inl rfl) (by omega) ?_
        refine z_getf (a := 2) (b := 5) (l := [27, 7]) h26 rfl (fun v12 => ?_)
        refine z_iload h26 rfl rfl (Or.inl rfl) ?_
        refine z_imul h26 rfl ?_
        refine z_ixor h26 rfl ?_
        refine z_kill h26 rfl (ls' := [zr self, zU, zU, zU]) rfl ?_
        exact Rz.here fun _ q => q
    · (try dsimp only)
      refine z_istore h26 rfl (Or.inl rfl) (ls' := [zr self, zU, zU, zi j6]) rfl ?_
      refine z_iload h26 rfl rfl (Or.inl rfl) ?_
      refine z_aload h26 rfl rfl (Or.inl rfl) (by omega) ?_
      refine z_getf (a := 2) (b := 2) (l := [18, 7]) h26 rfl (fun v7 => ?_)
      refine z_rem h26 rfl (fun v8 => ?_)
      exact z_iret h26 rfl (fun _ q => q)
set_option maxRecDepth 20000 in
theorem t_qsh_clashesAt (X : Int × (Int → Int)) (n : Nat) (K : zK) (M : zM) (self a1 a2 a3 : Int) (g_self : 1 ≤ self) (g_a1 : 1 ≤ a1) : Rz X 61 (0, [zr self, zr a1, zi a2, zi a3, zU, zU, zU], [], M, K) (qsh_clashesAt n K M self a1 a2 a3) (fun e P => P (some (zi e), M, K)) := by
  have h61 : zT 61 = zt61 := rfl
  unfold qsh_clashesAt
  refine z_iconst h61 rfl ?_
  refine z_istore h61 rfl (Or.inr rfl) (ls' := [zr self, zr a1, zi a2, zi a3, zi 0, zU, zU]) rfl ?_
  refine z_iconst h61 rfl ?_
  refine z_istore h61 rfl (Or.inr rfl) (ls' := [zr self, zr a1, zi a2, zi a3, zi 0, zi 0, zU]) rfl ?_
  refine z_kill h61 rfl (ls' := [zr self, zr a1, zi a2, zi a3, zi 0, zi 0, zU]) rfl ?_
  refine Rz.wh (hd := fun s1 => (4, [zr self, zr a1, zi a2, zi a3, zi s1.1, zi s1.2, zU], [], M, K)) (fun s1 => ?_) n (0, 0)
  (try dsimp only)
  refine z_iload h61 rfl rfl (Or.inr rfl) ?_
  refine z_aload h61 rfl rfl (Or.inl rfl) (by omega) ?_
  refine z_cv (a := 56) (b := 0) (l := [21, 1, 6, 3]) (as := []) (lsE := [zr self]) (st' := [zi s1.2]) (val := fun p => some (zi p)) (mem := fun _ => M) h61 rfl ⟨rfl, rfl, rfl, Nat.le_of_ble_eq_true rfl, Nat.le_of_ble_eq_true rfl, rfl⟩ (fun g1 => (t_qsh_size X K M self (by omega))) (fun v2 => ?_)
  refine z_icge h61 rfl ?_ ?_
  · refine z_iconst h61 rfl ?_
    exact z_zret h61 rfl (Or.inl rfl) (fun _ q => q)
  · refine z_iconst h61 rfl ?_
    refine z_aload h61 rfl rfl (Or.inl rfl) (by omega) ?_
    refine z_iload h61 rfl rfl (Or.inl rfl) ?_
    refine z_aload h61 rfl rfl (Or.inl rfl) (by omega) ?_
    refine z_iload h61 rfl rfl (Or.inr rfl) ?_
    refine z_cv (a := 57) (b := 0) (l := [31, 2, 6, 3]) (as := [zi s1.2]) (lsE := [zr self, zi s1.2]) (st' := [zi a2, zr a1, zi 1]) (val := fun p => some (zi p)) (mem := fun _ => M) h61 rfl ⟨rfl, rfl, rfl, Nat.le_of_ble_eq_true rfl, Nat.le_of_ble_eq_true rfl, rfl⟩ (fun g1 => (t_qsh_rowsDown X K M self s1.2 (by omega))) (fun v3 => ?_)
    refine z_iadd h61 rfl ?_
    refine z_iload h61 rfl rfl (Or.inl rfl) ?_
    refine z_aload h61 rfl rfl (Or.inl rfl) (by omega) ?_
    refine z_iload h61 rfl rfl (Or.inr rfl) ?_
    refine z_cv (a := 58) (b := 0) (l := [35, 2, 6, 3]) (as := [zi s1.2]) (lsE := [zr self, zi s1.2]) (st' := [zi a3, zi (a2 + v3), zr a1, zi 1]) (val := fun p => some (zi p)) (mem := fun _ => M) h61 rfl ⟨rfl, rfl, rfl, Nat.le_of_ble_eq_true rfl, Nat.le_of_ble_eq_true rfl, rfl⟩ (fun g1 => (t_qsh_columnsRight X K M self s1.2 (by omega))) (fun v4 => ?_)
    refine z_iadd h61 rfl ?_
    refine z_cv (a := 26) (b := 0) (l := [44, 3, 2, 7]) (as := [zi (a2 + v3), zi (a3 + v4)]) (lsE := [zr a1, zi (a2 + v3), zi (a3 + v4), zU]) (st' := [zi 1]) (val := fun p => some (zi p)) (mem := fun _ => M) h61 rfl ⟨rfl, rfl, rfl, Nat.le_of_ble_eq_true rfl, Nat.le_of_ble_eq_true rfl, rfl⟩ (fun g1 => (t_qla_bankAt X K M a1 (a2 + v3) (a3 + v4) (by omega))) (fun v5 => ?_)
    refine z_ishl h61 rfl ?_
    refine z_istoreL (lsf := fun x6 => [zr self, zr a1, zi a2, zi a3, zi s1.1, zi s1.2, zi x6]) h61 rfl (Or.inr rfl) (fun _ => rfl) (fun x6 => ?_)
    (try dsimp only)
    refine z_iload h61 rfl rfl (Or.inr rfl) ?_
    refine z_iload h61 rfl rfl (Or.inr rfl) ?_
    refine z_iand h61 rfl ?_
    refine z_ifeq h61 rfl ?_ ?_
    · refine z_iload h61 rfl rfl (Or.inr rfl) ?_
      refine z_iload h61 rfl rfl (Or.inr rfl) ?_
      refine z_ior h61 rfl ?_
      refine z_istoreL (lsf := fun x7 => [zr self, zr a1, zi a2, zi a3, zi x7, zi s1.2, zi x6]) h61 rfl (Or.inr rfl) (fun _ => rfl) (fun x7 => ?_)
      (try dsimp only)
      refine z_iinc h61 rfl rfl (ls' := [zr self, zr a1, zi a2, zi a3, zi x7, zi (s1.2 + 1), zi x6]) rfl ?_
      refine z_goto h61 rfl ?_
      refine z_kill h61 rfl (ls' := [zr self, zr a1, zi a2, zi a3, zi x7, zi (s1.2 + 1), zU]) rfl ?_
      exact Rz.here fun _ q => q
    · refine z_iconst h61 rfl ?_
      exact z_zret h61 rfl (Or.inr rfl) (fun _ q => q)
set_option maxRecDepth 20000 in
theorem t_qsh_isGrantedBy (X : Int × (Int → Int)) (n : Nat) (K : zK) (M : zM) (self a1 : Int) (g_self : 1 ≤ self) (g_a1 : 1 ≤ a1) : Rz X 63 (0, [zr self, zr a1, zU, zU], [], M, K) (qsh_isGrantedBy n K M self a1) (fun e P => P (some (zi e), M, K)) := by
  have h63 : zT 63 = zt63 := rfl
  unfold qsh_isGrantedBy
  refine z_iconst h63 rfl ?_
  refine z_istore h63 rfl (Or.inl rfl) (ls' := [zr self, zr a1, zi 0, zU]) rfl ?_
  refine z_kill h63 rfl (ls' := [zr self, zr a1, zi 0, zU]) rfl ?_
  refine Rz.wh (hd := fun s1 => (2, [zr self, zr a1, zi s1, zU], [], M, K)) (fun s1 => ?_) n 0
  (try dsimp only)
  refine z_iload h63 rfl rfl (Or.inl rfl) ?_
  refine z_aload h63 rfl rfl (Or.inl rfl) (by omega) ?_
  refine z_getf (a := 2) (b := 0) (l := [53, 7]) h63 rfl (fun v2 => ?_)
  refine z_icge h63 rfl ?_ ?_
  · refine z_iconst h63 rfl ?_
    exact z_zret h63 rfl (Or.inr rfl) (fun _ q => q)
  · refine z_iconst h63 rfl ?_
    refine z_istore h63 rfl (Or.inl rfl) (ls' := [zr self, zr a1, zi s1, zi 0]) rfl ?_
    refine Rz.esc (t := fun e4 => (33, [zr self, zr a1, zi s1, zi e4], [], M, K)) ?_ (fun e4 => ?_)
    · refine Rz.wh (hd := fun s3 => (8, [zr self, zr a1, zi s1, zi s3], [], M, K)) (fun s3 => ?_) n 0
      (try dsimp only)
      refine z_iload h63 rfl rfl (Or.inl rfl) ?_
      refine z_aload h63 rfl rfl (Or.inl rfl) (by omega) ?_
      refine z_getf (a := 2) (b := 1) (l := [56, 7]) h63 rfl (fun v5 => ?_)
      refine z_icge h63 rfl ?_ ?_
      · exact Rz.here fun _ q => q
      · refine z_aload h63 rfl rfl (Or.inl rfl) (by omega) ?_
        refine z_aload h63 rfl rfl (Or.inl rfl) (by omega) ?_
        refine z_iload h63 rfl rfl (Or.inl rfl) ?_
        refine z_iload h63 rfl rfl (Or.inl rfl) ?_
        refine z_cv (a := 59) (b := 0) (l := [59, 4, 6, 3]) (as := [zr a1, zi s1, zi s3]) (lsE := [zr self, zr a1, zi s1, zi s3, zU]) (st' := []) (val := fun p => some (zi p)) (mem := fun _ => M) h63 rfl ⟨rfl, rfl, rfl, Nat.le_of_ble_eq_true rfl, Nat.le_of_ble_eq_true rfl, rfl⟩ (fun g1 => (t_qsh_fits X K M self a1 s1 s3 (by omega) (by omega))) (fun v6 => ?_)
        refine Rz.esc (t := fun j7 => (31, [zr self, zr a1, zi s1, zi s3], [], M, K)) ?_ (fun j7 => ?_)
        · refine z_ifeq h63 rfl ?_ ?_
          · exact Rz.here fun _ q => q
          · refine z_aload h63 rfl rfl (Or.inl rfl) (by omega) ?_
            refine z_aload h63 rfl rfl (Or.inl rfl) (by omega) ?_
            refine z_iload h63 rfl rfl (Or.inl rfl) ?_
            refine z_iload h63 rfl rfl (Or.inl rfl) ?_
            refine z_cv (a := 61) (b := 0) (l := [63, 4, 6, 3]) (as := [zr a1, zi s1, zi s3]) (lsE := [zr self, zr a1, zi s1, zi s3, zU, zU, zU]) (st' := []) (val := fun p => some (zi p)) (mem := fun _ => M) h63 rfl ⟨rfl, rfl, rfl, Nat.le_of_ble_eq_true rfl, Nat.le_of_ble_eq_true rfl, rfl⟩ (fun g1 => (t_qsh_clashesAt X n K M self a1 s1 s3 (by omega) (by omega))) (fun v8 => ?_)
            refine z_ifeq h63 rfl ?_ ?_
            · refine z_aload h63 rfl rfl (Or.inl rfl) (by omega) ?_
              refine z_getf (a := 2) (b := 3) (l := [66, 7]) h63 rfl (fun v9 => ?_)
              refine z_ifne h63 rfl ?_ ?_
              · refine z_iconst h63 rfl ?_
                exact z_zret h63 rfl (Or.inr rfl) (fun _ q => q)
              · exact Rz.here fun _ q => q
            · refine z_iconst h63 rfl ?_
              exact z_zret h63 rfl (Or.inl rfl) (fun _ q => q)
        · (try dsimp only)
          refine z_iinc h63 rfl rfl (ls' := [zr self, zr a1, zi s1, zi (s3 + 1)]) rfl ?_
          refine z_goto h63 rfl ?_
          exact Rz.here fun _ q => q
    · (try dsimp only)
      refine z_iinc h63 rfl rfl (ls' := [zr self, zr a1, zi (s1 + 1), zi e4]) rfl ?_
      refine z_goto h63 rfl ?_
      refine z_kill h63 rfl (ls' := [zr self, zr a1, zi (s1 + 1), zU]) rfl ?_
      exact Rz.here fun _ q => q
set_option maxRecDepth 20000 in
theorem t_qwi_allGrantedBy (X : Int × (Int → Int)) (n : Nat) (K : zK) (M : zM) (self a1 : Int) (g_self : 1 ≤ self) (g_a1 : 1 ≤ a1) : Rz X 86 (0, [zr self, zr a1, zU], [], M, K) (qwi_allGrantedBy n K M self a1) (fun e P => P (some (zi e), M, K)) := by
  have h86 : zT 86 = zt86 := rfl
  unfold qwi_allGrantedBy
  refine z_iconst h86 rfl ?_
  refine z_istore h86 rfl (Or.inl rfl) (ls' := [zr self, zr a1, zi 0]) rfl ?_
  refine Rz.wh (hd := fun s1 => (2, [zr self, zr a1, zi s1], [], M, K)) (fun s1 => ?_) n 0
  (try dsimp only)
  refine z_iload h86 rfl rfl (Or.inl rfl) ?_
  refine z_aload h86 rfl rfl (Or.inl rfl) (by omega) ?_
  refine z_getf (a := 10) (b := 1) (l := [17, 2]) h86 rfl (fun v2 => ?_)
  refine z_icge h86 rfl ?_ ?_
  · refine z_iconst h86 rfl ?_
    exact z_zret h86 rfl (Or.inr rfl) (fun _ q => q)
  · refine z_aload h86 rfl rfl (Or.inl rfl) (by omega) ?_
    refine z_getr (a := 10) (b := 0) (l := [11, 2]) h86 rfl (fun r3 g_r3 => ?_)
    refine z_iload h86 rfl rfl (Or.inl rfl) ?_
    refine z_aald (a := 103) (b := 0) (l := []) h86 rfl (fun r4 g_r4 => ?_)
    refine z_aload h86 rfl rfl (Or.inl rfl) (by omega) ?_
    refine z_cv (a := 63) (b := 0) (l := [26, 2, 6, 3]) (as := [zr a1]) (lsE := [zr r4, zr a1, zU, zU]) (st' := []) (val := fun p => some (zi p)) (mem := fun _ => M) h86 rfl ⟨rfl, rfl, rfl, Nat.le_of_ble_eq_true rfl, Nat.le_of_ble_eq_true rfl, rfl⟩ (fun g1 => (t_qsh_isGrantedBy X n K M r4 a1 (by omega) (by omega))) (fun v5 => ?_)
    refine z_ifne h86 rfl ?_ ?_
    · refine z_iconst h86 rfl ?_
      exact z_zret h86 rfl (Or.inl rfl) (fun _ q => q)
    · refine z_iinc h86 rfl rfl (ls' := [zr self, zr a1, zi (s1 + 1)]) rfl ?_
      refine z_goto h86 rfl ?_
      exact Rz.here fun _ q => q
set_option maxRecDepth 20000 in
theorem t_qsl_weighAll (X : Int × (Int → Int)) (n : Nat) (K : zK) (M : zM) (self a1 a2 a3 a4 : Int) (g_self : 1 ≤ self) (g_a1 : 1 ≤ a1) (g_a4 : 1 ≤ a4) : Rz X 20 (0, [zr self, zr a1, zi a2, zi a3, zr a4, zU, zU], [], M, K) (qsl_weighAll n K M self a1 a2 a3 a4) (fun e P => P (none, e, K)) := by
  have h20 : zT 20 = zt20 := rfl
  unfold qsl_weighAll
  refine z_iconst h20 rfl ?_
  refine z_istore h20 rfl (Or.inr rfl) (ls' := [zr self, zr a1, zi a2, zi a3, zr a4, zi 0, zU]) rfl ?_
  refine z_kill h20 rfl (ls' := [zr self, zr a1, zi a2, zi a3, zr a4, zi 0, zU]) rfl ?_
  refine Rz.wh (hd := fun s1 => (2, [zr self, zr a1, zi a2, zi a3, zr a4, zi s1.1, zU], [], s1.2, K)) (fun s1 => ?_) n (0, M)
  (try dsimp only)
  refine z_iload h20 rfl rfl (Or.inr rfl) ?_
  refine z_iload h20 rfl rfl (Or.inl rfl) ?_
  refine z_icge h20 rfl ?_ ?_
  · exact z_vret h20 rfl (fun _ q => q)
  · refine z_iconst h20 rfl ?_
    refine z_istore h20 rfl (Or.inr rfl) (ls' := [zr self, zr a1, zi a2, zi a3, zr a4, zi s1.1, zi 0]) rfl ?_
    refine Rz.bind (t := fun e3 => (37, [zr self, zr a1, zi a2, zi a3, zr a4, zi s1.1, zi e3.1], [], e3.2, K)) ?_ (fun e3 => ?_)
    · refine Rz.wh (hd := fun s2 => (7, [zr self, zr a1, zi a2, zi a3, zr a4, zi s1.1, zi s2.1], [], s2.2, K)) (fun s2 => ?_) n (0, s1.2)
      (try dsimp only)
      refine z_iload h20 rfl rfl (Or.inr rfl) ?_
      refine z_iload h20 rfl rfl (Or.inl rfl) ?_
      refine z_icge h20 rfl ?_ ?_
      · exact Rz.here fun _ q => q
      · refine z_aload h20 rfl rfl (Or.inl rfl) (by omega) ?_
        refine z_iload h20 rfl rfl (Or.inl rfl) ?_
        refine z_iload h20 rfl rfl (Or.inr rfl) ?_
        refine z_iload h20 rfl rfl (Or.inr rfl) ?_
        refine z_iload h20 rfl rfl (Or.inl rfl) ?_
        refine z_cv (a := 23) (b := 0) (l := [7, 5, 2, 7]) (as := [zi a2, zi s1.1, zi s2.1, zi a3]) (lsE := [zr a1, zi a2, zi s1.1, zi s2.1, zi a3]) (st' := []) (val := fun _ => none) (mem := fun p => p) h20 rfl ⟨rfl, rfl, rfl, Nat.le_of_ble_eq_true rfl, Nat.le_of_ble_eq_true rfl, rfl⟩ (fun g1 => (t_qla_takeLaw X K s2.2 a1 a2 s1.1 s2.1 a3 (by omega))) (fun M4 => ?_)
        refine z_aload h20 rfl rfl (Or.inr rfl) (by omega) ?_
        refine z_aload h20 rfl rfl (Or.inl rfl) (by omega) ?_
        refine z_cv (a := 86) (b := 0) (l := [13, 2, 10, 2]) (as := [zr a1]) (lsE := [zr a4, zr a1, zU]) (st' := []) (val := fun p => some (zi p)) (mem := fun _ => M4) h20 rfl ⟨rfl, rfl, rfl, Nat.le_of_ble_eq_true rfl, Nat.le_of_ble_eq_true rfl, rfl⟩ (fun g1 => (t_qwi_allGrantedBy X n K M4 a4 a1 (by omega) (by omega))) (fun v5 => ?_)
        refine Rz.bind (t := fun j6 => (35, [zr self, zr a1, zi a2, zi a3, zr a4, zi s1.1, zi s2.1], [], j6, K)) ?_ (fun j6 => ?_)
        · refine z_ifeq h20 rfl ?_ ?_
          · exact Rz.here fun _ q => q
          · refine z_aload h20 rfl rfl (Or.inl rfl) (by omega) ?_
            refine z_getf (a := 1) (b := 0) (l := [19, 3]) h20 rfl (fun v7 => ?_)
            refine Rz.bind (t := fun j8 => (29, [zr self, zr a1, zi a2, zi a3, zr a4, zi s1.1, zi s2.1], [], j8, K)) ?_ (fun j8 => ?_)
            · refine z_ifne h20 rfl ?_ ?_
              · refine z_aload h20 rfl rfl (Or.inl rfl) (by omega) ?_
                refine z_iload h20 rfl rfl (Or.inr rfl) ?_
                refine z_putf (a := 1) (b := 1) (l := [25, 3]) h20 rfl (fun M11 => ?_)
                refine z_aload h20 rfl rfl (Or.inl rfl) (by omega) ?_
                refine z_iload h20 rfl rfl (Or.inr rfl) ?_
                refine z_putf (a := 1) (b := 2) (l := [28, 3]) h20 rfl (fun M12 => ?_)
                exact Rz.here fun _ q => q
              · exact Rz.here fun _ q => q
            · (try dsimp only)
              refine z_aload h20 rfl rfl (Or.inl rfl) (by omega) ?_
              refine z_dupr h20 rfl ?_
              refine z_getf (a := 1) (b := 0) (l := [19, 3]) h20 rfl (fun v9 => ?_)
              refine z_iconst h20 rfl ?_
              refine z_iadd h20 rfl ?_
              refine z_putf (a := 1) (b := 0) (l := [19, 3]) h20 rfl (fun M10 => ?_)
              exact Rz.here fun _ q => q
        · (try dsimp only)
          refine z_iinc h20 rfl rfl (ls' := [zr self, zr a1, zi a2, zi a3, zr a4, zi s1.1, zi (s2.1 + 1)]) rfl ?_
          refine z_goto h20 rfl ?_
          exact Rz.here fun _ q => q
    · (try dsimp only)
      refine z_iinc h20 rfl rfl (ls' := [zr self, zr a1, zi a2, zi a3, zr a4, zi (s1.1 + 1), zi e3.1]) rfl ?_
      refine z_goto h20 rfl ?_
      refine z_kill h20 rfl (ls' := [zr self, zr a1, zi a2, zi a3, zr a4, zi (s1.1 + 1), zU]) rfl ?_
      exact Rz.here fun _ q => q
set_option maxRecDepth 20000 in
theorem t_qla_takeTable (X : Int × (Int → Int)) (K : zK) (M : zM) (self a1 : Int) (g_self : 1 ≤ self) (g_a1 : 1 ≤ a1) : Rz X 22 (0, [zr self, zr a1], [], M, K) (qla_takeTable K M self a1) (fun e P => P (none, e, K)) := by
  have h22 : zT 22 = zt22 := rfl
  unfold qla_takeTable
  refine z_aload h22 rfl rfl (Or.inl rfl) (by omega) ?_
  refine z_aload h22 rfl rfl (Or.inl rfl) (by omega) ?_
  refine z_getf (a := 2) (b := 0) (l := [9, 7]) h22 rfl (fun v1 => ?_)
  refine z_putf (a := 2) (b := 0) (l := [9, 7]) h22 rfl (fun M2 => ?_)
  refine z_aload h22 rfl rfl (Or.inl rfl) (by omega) ?_
  refine z_aload h22 rfl rfl (Or.inl rfl) (by omega) ?_
  refine z_getf (a := 2) (b := 1) (l := [15, 7]) h22 rfl (fun v3 => ?_)
  refine z_putf (a := 2) (b := 1) (l := [15, 7]) h22 rfl (fun M4 => ?_)
  exact z_vret h22 rfl (fun _ q => q)
set_option maxRecDepth 20000 in
theorem t_qla_bankOfAddress (X : Int × (Int → Int)) (K : zK) (M : zM) (self a1 : Int) (g_self : 1 ≤ self) : Rz X 27 (0, [zr self, zi a1, zU], [], M, K) (qla_bankOfAddress K M self a1) (fun e P => P (some (zi e), M, K)) := by
  have h27 : zT 27 = zt27 := rfl
  unfold qla_bankOfAddress
  refine z_iload h27 rfl rfl (Or.inl rfl) ?_
  refine z_aload h27 rfl rfl (Or.inl rfl) (by omega) ?_
  refine z_cv (a := 25) (b := 0) (l := [38, 1, 2, 7]) (as := []) (lsE := [zr self]) (st' := [zi a1]) (val := fun p => some (zi p)) (mem := fun _ => M) h27 rfl ⟨rfl, rfl, rfl, Nat.le_of_ble_eq_true rfl, Nat.le_of_ble_eq_true rfl, rfl⟩ (fun g1 => (t_qla_cellCount X K M self (by omega))) (fun v1 => ?_)
  refine z_rem h27 rfl (fun v2 => ?_)
  refine z_istore h27 rfl (Or.inl rfl) (ls' := [zr self, zi a1, zi v2]) rfl ?_
  refine z_aload h27 rfl rfl (Or.inl rfl) (by omega) ?_
  refine z_iload h27 rfl rfl (Or.inl rfl) ?_
  refine z_aload h27 rfl rfl (Or.inl rfl) (by omega) ?_
  refine z_getf (a := 2) (b := 1) (l := [15, 7]) h27 rfl (fun v3 => ?_)
  refine z_div h27 rfl (fun v4 => ?_)
  refine z_iload h27 rfl rfl (Or.inl rfl) ?_
  refine z_aload h27 rfl rfl (Or.inl rfl) (by omega) ?_
  refine z_getf (a := 2) (b := 1) (l := [15, 7]) h27 rfl (fun v5 => ?_)
  refine z_rem h27 rfl (fun v6 => ?_)
  refine z_cv (a := 26) (b := 0) (l := [42, 3, 2, 7]) (as := [zi v4, zi v6]) (lsE := [zr self, zi v4, zi v6, zU]) (st' := []) (val := fun p => some (zi p)) (mem := fun _ => M) h27 rfl ⟨rfl, rfl, rfl, Nat.le_of_ble_eq_true rfl, Nat.le_of_ble_eq_true rfl, rfl⟩ (fun g1 => (t_qla_bankAt X K M self v4 v6 (by omega))) (fun v7 => ?_)
  exact z_iret h27 rfl (fun _ q => q)
set_option maxRecDepth 20000 in
theorem t_qla_placeOf (X : Int × (Int → Int)) (n : Nat) (K : zK) (M : zM) (self a1 a2 : Int) (g_self : 1 ≤ self) : Rz X 28 (0, [zr self, zi a1, zi a2, zU, zU, zU], [], M, K) (qla_placeOf n K M self a1 a2) (fun e P => P (some (zi e), M, K)) := by
  have h28 : zT 28 = zt28 := rfl
  unfold qla_placeOf
  refine z_aload h28 rfl rfl (Or.inl rfl) (by omega) ?_
  refine z_iload h28 rfl rfl (Or.inl rfl) ?_
  refine z_iload h28 rfl rfl (Or.inl rfl) ?_
  refine z_cv (a := 26) (b := 0) (l := [42, 3, 2, 7]) (as := [zi a1, zi a2]) (lsE := [zr self, zi a1, zi a2, zU]) (st' := []) (val := fun p => some (zi p)) (mem := fun _ => M) h28 rfl ⟨rfl, rfl, rfl, Nat.le_of_ble_eq_true rfl, Nat.le_of_ble_eq_true rfl, rfl⟩ (fun g1 => (t_qla_bankAt X K M self a1 a2 (by omega))) (fun v1 => ?_)
  refine z_istore h28 rfl (Or.inl rfl) (ls' := [zr self, zi a1, zi a2, zi v1, zU, zU]) rfl ?_
  refine z_iconst h28 rfl ?_
  refine z_istore h28 rfl (Or.inr rfl) (ls' := [zr self, zi a1, zi a2, zi v1, zi 0, zU]) rfl ?_
  refine z_iconst h28 rfl ?_
  refine z_istore h28 rfl (Or.inr rfl) (ls' := [zr self, zi a1, zi a2, zi v1, zi 0, zi 0]) rfl ?_
  refine Rz.wh (hd := fun s2 => (9, [zr self, zi a1, zi a2, zi v1, zi s2.1, zi s2.2], [], M, K)) (fun s2 => ?_) n (0, 0)
  (try dsimp only)
  refine z_iload h28 rfl rfl (Or.inr rfl) ?_
  refine z_iload h28 rfl rfl (Or.inl rfl) ?_
  refine z_aload h28 rfl rfl (Or.inl rfl) (by omega) ?_
  refine z_getf (a := 2) (b := 1) (l := [15, 7]) h28 rfl (fun v3 => ?_)
  refine z_imul h28 rfl ?_
  refine z_iload h28 rfl rfl (Or.inl rfl) ?_
  refine z_iadd h28 rfl ?_
  refine z_icge h28 rfl ?_ ?_
  · refine z_iload h28 rfl rfl (Or.inr rfl) ?_
    exact z_iret h28 rfl (fun _ q => q)
  · refine z_iload h28 rfl rfl (Or.inr rfl) ?_
    refine z_aload h28 rfl rfl (Or.inl rfl) (by omega) ?_
    refine z_iload h28 rfl rfl (Or.inr rfl) ?_
    refine z_aload h28 rfl rfl (Or.inl rfl) (by omega) ?_
    refine z_getf (a := 2) (b := 1) (l := [15, 7]) h28 rfl (fun v4 => ?_)
    refine z_div h28 rfl (fun v5 => ?_)
    refine z_iload h28 rfl rfl (Or.inr rfl) ?_
    refine z_aload h28 rfl rfl (Or.inl rfl) (by omega) ?_
    refine z_getf (a := 2) (b := 1) (l := [15, 7]) h28 rfl (fun v6 => ?_)
    refine z_rem h28 rfl (fun v7 => ?_)
    refine z_cv (a := 26) (b := 0) (l := [42, 3, 2, 7]) (as := [zi v5, zi v7]) (lsE := [zr self, zi v5, zi v7, zU]) (st' := [zi s2.1]) (val := fun p => some (zi p)) (mem := fun _ => M) h28 rfl ⟨rfl, rfl, rfl, Nat.le_of_ble_eq_true rfl, Nat.le_of_ble_eq_true rfl, rfl⟩ (fun g1 => (t_qla_bankAt X K M self v5 v7 (by omega))) (fun v8 => ?_)
    refine z_iload h28 rfl rfl (Or.inl rfl) ?_
    refine Rz.bind (t := fun j9 => (33, [zr self, zi a1, zi a2, zi v1, zU, zi s2.2], [zi j9, zi s2.1], M, K)) ?_ (fun j9 => ?_)
    · refine z_icne h28 rfl ?_ ?_
      · refine z_iconst h28 rfl ?_
        refine z_goto h28 rfl ?_
        refine z_kill h28 rfl (ls' := [zr self, zi a1, zi a2, zi v1, zU, zi s2.2]) rfl ?_
        exact Rz.here fun _ q => q
      · refine z_iconst h28 rfl ?_
        refine z_kill h28 rfl (ls' := [zr self, zi a1, zi a2, zi v1, zU, zi s2.2]) rfl ?_
        exact Rz.here fun _ q => q
    · (try dsimp only)
      refine z_iadd h28 rfl ?_
      refine z_istoreL (lsf := fun x10 => [zr self, zi a1, zi a2, zi v1, zi x10, zi s2.2]) h28 rfl (Or.inr rfl) (fun _ => rfl) (fun x10 => ?_)
      (try dsimp only)
      refine z_iinc h28 rfl rfl (ls' := [zr self, zi a1, zi a2, zi v1, zi x10, zi (s2.2 + 1)]) rfl ?_
      refine z_goto h28 rfl ?_
      exact Rz.here fun _ q => q
set_option maxRecDepth 20000 in
theorem t_qla_sizeOf (X : Int × (Int → Int)) (n : Nat) (K : zK) (M : zM) (self a1 : Int) (g_self : 1 ≤ self) : Rz X 29 (0, [zr self, zi a1, zU, zU], [], M, K) (qla_sizeOf n K M self a1) (fun e P => P (some (zi e), M, K)) := by
  have h29 : zT 29 = zt29 := rfl
  unfold qla_sizeOf
  refine z_iconst h29 rfl ?_
  refine z_istore h29 rfl (Or.inl rfl) (ls' := [zr self, zi a1, zi 0, zU]) rfl ?_
  refine z_iconst h29 rfl ?_
  refine z_istore h29 rfl (Or.inl rfl) (ls' := [zr self, zi a1, zi 0, zi 0]) rfl ?_
  refine Rz.wh (hd := fun s1 => (4, [zr self, zi a1, zi s1.1, zi s1.2], [], M, K)) (fun s1 => ?_) n (0, 0)
  (try dsimp only)
  refine z_iload h29 rfl rfl (Or.inl rfl) ?_
  refine z_aload h29 rfl rfl (Or.inl rfl) (by omega) ?_
  refine z_cv (a := 25) (b := 0) (l := [38, 1, 2, 7]) (as := []) (lsE := [zr self]) (st' := [zi s1.2]) (val := fun p => some (zi p)) (mem := fun _ => M) h29 rfl ⟨rfl, rfl, rfl, Nat.le_of_ble_eq_true rfl, Nat.le_of_ble_eq_true rfl, rfl⟩ (fun g1 => (t_qla_cellCount X K M self (by omega))) (fun v2 => ?_)
  refine z_icge h29 rfl ?_ ?_
  · refine z_iload h29 rfl rfl (Or.inl rfl) ?_
    exact z_iret h29 rfl (fun _ q => q)
  · refine z_iload h29 rfl rfl (Or.inl rfl) ?_
    refine z_aload h29 rfl rfl (Or.inl rfl) (by omega) ?_
    refine z_iload h29 rfl rfl (Or.inl rfl) ?_
    refine z_aload h29 rfl rfl (Or.inl rfl) (by omega) ?_
    refine z_getf (a := 2) (b := 1) (l := [15, 7]) h29 rfl (fun v3 => ?_)
    refine z_div h29 rfl (fun v4 => ?_)
    refine z_iload h29 rfl rfl (Or.inl rfl) ?_
    refine z_aload h29 rfl rfl (Or.inl rfl) (by omega) ?_
    refine z_getf (a := 2) (b := 1) (l := [15, 7]) h29 rfl (fun v5 => ?_)
    refine z_rem h29 rfl (fun v6 => ?_)
    refine z_cv (a := 26) (b := 0) (l := [42, 3, 2, 7]) (as := [zi v4, zi v6]) (lsE := [zr self, zi v4, zi v6, zU]) (st' := [zi s1.1]) (val := fun p => some (zi p)) (mem := fun _ => M) h29 rfl ⟨rfl, rfl, rfl, Nat.le_of_ble_eq_true rfl, Nat.le_of_ble_eq_true rfl, rfl⟩ (fun g1 => (t_qla_bankAt X K M self v4 v6 (by omega))) (fun v7 => ?_)
    refine z_iload h29 rfl rfl (Or.inl rfl) ?_
    refine Rz.bind (t := fun j8 => (24, [zr self, zi a1, zU, zi s1.2], [zi j8, zi s1.1], M, K)) ?_ (fun j8 => ?_)
    · refine z_icne h29 rfl ?_ ?_
      · refine z_iconst h29 rfl ?_
        refine z_goto h29 rfl ?_
        refine z_kill h29 rfl (ls' := [zr self, zi a1, zU, zi s1.2]) rfl ?_
        exact Rz.here fun _ q => q
      · refine z_iconst h29 rfl ?_
        refine z_kill h29 rfl (ls' := [zr self, zi a1, zU, zi s1.2]) rfl ?_
        exact Rz.here fun _ q => q
    · (try dsimp only)
      refine z_iadd h29 rfl ?_
      refine z_istoreL (lsf := fun x9 => [zr self, zi a1, zi x9, zi s1.2]) h29 rfl (Or.inl rfl) (fun _ => rfl) (fun x9 => ?_)
      (try dsimp only)
      refine z_iinc h29 rfl rfl (ls' := [zr self, zi a1, zi x9, zi (s1.2 + 1)]) rfl ?_
      refine z_goto h29 rfl ?_
      exact Rz.here fun _ q => q
set_option maxRecDepth 20000 in
theorem t_qla_firstOf (X : Int × (Int → Int)) (n : Nat) (K : zK) (M : zM) (self a1 : Int) (g_self : 1 ≤ self) : Rz X 30 (0, [zr self, zi a1, zU], [], M, K) (qla_firstOf n K M self a1) (fun e P => P (some (zi e), M, K)) := by
  have h30 : zT 30 = zt30 := rfl
  unfold qla_firstOf
  refine z_iconst h30 rfl ?_
  refine z_istore h30 rfl (Or.inl rfl) (ls' := [zr self, zi a1, zi 0]) rfl ?_
  refine Rz.wh (hd := fun s1 => (2, [zr self, zi a1, zi s1], [], M, K)) (fun s1 => ?_) n 0
  (try dsimp only)
  refine z_iload h30 rfl rfl (Or.inl rfl) ?_
  refine z_aload h30 rfl rfl (Or.inl rfl) (by omega) ?_
  refine z_cv (a := 25) (b := 0) (l := [38, 1, 2, 7]) (as := []) (lsE := [zr self]) (st' := [zi s1]) (val := fun p => some (zi p)) (mem := fun _ => M) h30 rfl ⟨rfl, rfl, rfl, Nat.le_of_ble_eq_true rfl, Nat.le_of_ble_eq_true rfl, rfl⟩ (fun g1 => (t_qla_cellCount X K M self (by omega))) (fun v2 => ?_)
  refine z_icge h30 rfl ?_ ?_
  · refine z_iconst h30 rfl ?_
    exact z_iret h30 rfl (fun _ q => q)
  · refine z_aload h30 rfl rfl (Or.inl rfl) (by omega) ?_
    refine z_iload h30 rfl rfl (Or.inl rfl) ?_
    refine z_aload h30 rfl rfl (Or.inl rfl) (by omega) ?_
    refine z_getf (a := 2) (b := 1) (l := [15, 7]) h30 rfl (fun v3 => ?_)
    refine z_div h30 rfl (fun v4 => ?_)
    refine z_iload h30 rfl rfl (Or.inl rfl) ?_
    refine z_aload h30 rfl rfl (Or.inl rfl) (by omega) ?_
    refine z_getf (a := 2) (b := 1) (l := [15, 7]) h30 rfl (fun v5 => ?_)
    refine z_rem h30 rfl (fun v6 => ?_)
    refine z_cv (a := 26) (b := 0) (l := [42, 3, 2, 7]) (as := [zi v4, zi v6]) (lsE := [zr self, zi v4, zi v6, zU]) (st' := []) (val := fun p => some (zi p)) (mem := fun _ => M) h30 rfl ⟨rfl, rfl, rfl, Nat.le_of_ble_eq_true rfl, Nat.le_of_ble_eq_true rfl, rfl⟩ (fun g1 => (t_qla_bankAt X K M self v4 v6 (by omega))) (fun v7 => ?_)
    refine z_iload h30 rfl rfl (Or.inl rfl) ?_
    refine z_icne h30 rfl ?_ ?_
    · refine z_iload h30 rfl rfl (Or.inl rfl) ?_
      refine z_aload h30 rfl rfl (Or.inl rfl) (by omega) ?_
      refine z_getf (a := 2) (b := 1) (l := [15, 7]) h30 rfl (fun v8 => ?_)
      refine z_div h30 rfl (fun v9 => ?_)
      refine z_iload h30 rfl rfl (Or.inl rfl) ?_
      refine z_aload h30 rfl rfl (Or.inl rfl) (by omega) ?_
      refine z_getf (a := 2) (b := 1) (l := [15, 7]) h30 rfl (fun v10 => ?_)
      refine z_rem h30 rfl (fun v11 => ?_)
      refine z_cs (a := 126) (b := 1) (l := [34, 2]) (as := [zi v9, zi v11]) (lsE := [zi v9, zi v11]) (st' := []) (val := fun p => some (zi p)) (mem := fun _ => M) h30 rfl ⟨rfl, rfl, rfl, Nat.le_of_ble_eq_true rfl, Nat.le_of_ble_eq_true rfl, rfl⟩ (t_qbs_spot X K M v9 v11 ) (fun v12 => ?_)
      exact z_iret h30 rfl (fun _ q => q)
    · refine z_iinc h30 rfl rfl (ls' := [zr self, zi a1, zi (s1 + 1)]) rfl ?_
      refine z_goto h30 rfl ?_
      exact Rz.here fun _ q => q
set_option maxRecDepth 20000 in
theorem t_qla_lastOf (X : Int × (Int → Int)) (n : Nat) (K : zK) (M : zM) (self a1 : Int) (g_self : 1 ≤ self) : Rz X 31 (0, [zr self, zi a1, zU], [], M, K) (qla_lastOf n K M self a1) (fun e P => P (some (zi e), M, K)) := by
  have h31 : zT 31 = zt31 := rfl
  unfold qla_lastOf
  refine z_aload h31 rfl rfl (Or.inl rfl) (by omega) ?_
  refine z_cv (a := 25) (b := 0) (l := [38, 1, 2, 7]) (as := []) (lsE := [zr self]) (st' := []) (val := fun p => some (zi p)) (mem := fun _ => M) h31 rfl ⟨rfl, rfl, rfl, Nat.le_of_ble_eq_true rfl, Nat.le_of_ble_eq_true rfl, rfl⟩ (fun g1 => (t_qla_cellCount X K M self (by omega))) (fun v1 => ?_)
  refine z_iconst h31 rfl ?_
  refine z_isub h31 rfl ?_
  refine z_istoreL (lsf := fun x2 => [zr self, zi a1, zi x2]) h31 rfl (Or.inl rfl) (fun _ => rfl) (fun x2 => ?_)
  (try dsimp only)
  refine Rz.wh (hd := fun s3 => (5, [zr self, zi a1, zi s3], [], M, K)) (fun s3 => ?_) n x2
  (try dsimp only)
  refine z_iload h31 rfl rfl (Or.inl rfl) ?_
  refine z_iflt h31 rfl ?_ ?_
  · refine z_iconst h31 rfl ?_
    exact z_iret h31 rfl (fun _ q => q)
  · refine z_aload h31 rfl rfl (Or.inl rfl) (by omega) ?_
    refine z_iload h31 rfl rfl (Or.inl rfl) ?_
    refine z_aload h31 rfl rfl (Or.inl rfl) (by omega) ?_
    refine z_getf (a := 2) (b := 1) (l := [15, 7]) h31 rfl (fun v4 => ?_)
    refine z_div h31 rfl (fun v5 => ?_)
    refine z_iload h31 rfl rfl (Or.inl rfl) ?_
    refine z_aload h31 rfl rfl (Or.inl rfl) (by omega) ?_
    refine z_getf (a := 2) (b := 1) (l := [15, 7]) h31 rfl (fun v6 => ?_)
    refine z_rem h31 rfl (fun v7 => ?_)
    refine z_cv (a := 26) (b := 0) (l := [42, 3, 2, 7]) (as := [zi v5, zi v7]) (lsE := [zr self, zi v5, zi v7, zU]) (st' := []) (val := fun p => some (zi p)) (mem := fun _ => M) h31 rfl ⟨rfl, rfl, rfl, Nat.le_of_ble_eq_true rfl, Nat.le_of_ble_eq_true rfl, rfl⟩ (fun g1 => (t_qla_bankAt X K M self v5 v7 (by omega))) (fun v8 => ?_)
    refine z_iload h31 rfl rfl (Or.inl rfl) ?_
    refine z_icne h31 rfl ?_ ?_
    · refine z_iload h31 rfl rfl (Or.inl rfl) ?_
      refine z_aload h31 rfl rfl (Or.inl rfl) (by omega) ?_
      refine z_getf (a := 2) (b := 1) (l := [15, 7]) h31 rfl (fun v9 => ?_)
      refine z_div h31 rfl (fun v10 => ?_)
      refine z_iload h31 rfl rfl (Or.inl rfl) ?_
      refine z_aload h31 rfl rfl (Or.inl rfl) (by omega) ?_
      refine z_getf (a := 2) (b := 1) (l := [15, 7]) h31 rfl (fun v11 => ?_)
      refine z_rem h31 rfl (fun v12 => ?_)
      refine z_cs (a := 126) (b := 1) (l := [34, 2]) (as := [zi v10, zi v12]) (lsE := [zi v10, zi v12]) (st' := []) (val := fun p => some (zi p)) (mem := fun _ => M) h31 rfl ⟨rfl, rfl, rfl, Nat.le_of_ble_eq_true rfl, Nat.le_of_ble_eq_true rfl, rfl⟩ (t_qbs_spot X K M v10 v12 ) (fun v13 => ?_)
      exact z_iret h31 rfl (fun _ q => q)
    · refine z_iinc h31 rfl rfl (ls' := [zr self, zi a1, zi (s3 + (-1))]) rfl ?_
      refine z_goto h31 rfl ?_
      exact Rz.here fun _ q => q
set_option maxRecDepth 20000 in
theorem t_qpr_unitOf (X : Int × (Int → Int)) (K : zK) (M : zM) (a0 : Int) : Rz X 33 (0, [zi a0], [], M, K) (qpr_unitOf K M a0) (fun e P => P (some (zi e), M, K)) := by
  have h33 : zT 33 = zt33 := rfl
  unfold qpr_unitOf
  refine z_iload h33 rfl rfl (Or.inl rfl) ?_
  refine z_iconst h33 rfl ?_
  refine z_icne h33 rfl ?_ ?_
  · refine z_iconst h33 rfl ?_
    exact z_iret h33 rfl (fun _ q => q)
  · refine z_iload h33 rfl rfl (Or.inl rfl) ?_
    refine z_iconst h33 rfl ?_
    refine z_icne h33 rfl ?_ ?_
    · refine z_iconst h33 rfl ?_
      refine z_goto h33 rfl ?_
      refine z_kill h33 rfl (ls' := [zU]) rfl ?_
      exact z_iret h33 rfl (fun _ q => q)
    · refine z_iconst h33 rfl ?_
      refine z_kill h33 rfl (ls' := [zU]) rfl ?_
      exact z_iret h33 rfl (fun _ q => q)
set_option maxRecDepth 20000 in
theorem t_qpr_linesOf (X : Int × (Int → Int)) (n : Nat) (K : zK) (M : zM) (self a1 : Int) (g_self : 1 ≤ self) : Rz X 34 (0, [zr self, zi a1, zU, zU], [], M, K) (qpr_linesOf n K M self a1) (fun e P => P (some (zi e), M, K)) := by
  have h34 : zT 34 = zt34 := rfl
  unfold qpr_linesOf
  refine z_iconst h34 rfl ?_
  refine z_istore h34 rfl (Or.inl rfl) (ls' := [zr self, zi a1, zi 0, zU]) rfl ?_
  refine z_iconst h34 rfl ?_
  refine z_istore h34 rfl (Or.inl rfl) (ls' := [zr self, zi a1, zi 0, zi 0]) rfl ?_
  refine Rz.wh (hd := fun s1 => (4, [zr self, zi a1, zi s1.1, zi s1.2], [], M, K)) (fun s1 => ?_) n (0, 0)
  (try dsimp only)
  refine z_iload h34 rfl rfl (Or.inl rfl) ?_
  refine z_aload h34 rfl rfl (Or.inl rfl) (by omega) ?_
  refine z_getf (a := 3) (b := 6) (l := [30, 7]) h34 rfl (fun v2 => ?_)
  refine z_icge h34 rfl ?_ ?_
  · refine z_iload h34 rfl rfl (Or.inl rfl) ?_
    exact z_iret h34 rfl (fun _ q => q)
  · refine z_iload h34 rfl rfl (Or.inl rfl) ?_
    refine z_aload h34 rfl rfl (Or.inl rfl) (by omega) ?_
    refine z_getr (a := 3) (b := 0) (l := [9, 7]) h34 rfl (fun r3 g_r3 => ?_)
    refine z_iload h34 rfl rfl (Or.inl rfl) ?_
    refine z_iald h34 rfl (fun v4 => ?_)
    refine z_cs (a := 33) (b := 0) (l := [34, 1]) (as := [zi v4]) (lsE := [zi v4]) (st' := [zi s1.1]) (val := fun p => some (zi p)) (mem := fun _ => M) h34 rfl ⟨rfl, rfl, rfl, Nat.le_of_ble_eq_true rfl, Nat.le_of_ble_eq_true rfl, rfl⟩ (t_qpr_unitOf X K M v4 ) (fun v5 => ?_)
    refine z_iload h34 rfl rfl (Or.inl rfl) ?_
    refine Rz.bind (t := fun j6 => (19, [zr self, zi a1, zU, zi s1.2], [zi j6, zi s1.1], M, K)) ?_ (fun j6 => ?_)
    · refine z_icne h34 rfl ?_ ?_
      · refine z_iconst h34 rfl ?_
        refine z_goto h34 rfl ?_
        refine z_kill h34 rfl (ls' := [zr self, zi a1, zU, zi s1.2]) rfl ?_
        exact Rz.here fun _ q => q
      · refine z_iconst h34 rfl ?_
        refine z_kill h34 rfl (ls' := [zr self, zi a1, zU, zi s1.2]) rfl ?_
        exact Rz.here fun _ q => q
    · (try dsimp only)
      refine z_iadd h34 rfl ?_
      refine z_istoreL (lsf := fun x7 => [zr self, zi a1, zi x7, zi s1.2]) h34 rfl (Or.inl rfl) (fun _ => rfl) (fun x7 => ?_)
      (try dsimp only)
      refine z_iinc h34 rfl rfl (ls' := [zr self, zi a1, zi x7, zi (s1.2 + 1)]) rfl ?_
      refine z_goto h34 rfl ?_
      exact Rz.here fun _ q => q
set_option maxRecDepth 20000 in
theorem t_qbs_greatestDivisor (X : Int × (Int → Int)) (n : Nat) (K : zK) (M : zM) (a0 a1 : Int) : Rz X 127 (0, [zi a0, zi a1, zU, zU, zU, zU], [], M, K) (qbs_greatestDivisor n K M a0 a1) (fun e P => P (some (zi e), M, K)) := by
  have h127 : zT 127 = zt127 := rfl
  unfold qbs_greatestDivisor
  refine z_iload h127 rfl rfl (Or.inl rfl) ?_
  refine z_istore h127 rfl (Or.inl rfl) (ls' := [zi a0, zi a1, zi a0, zU, zU, zU]) rfl ?_
  refine z_iload h127 rfl rfl (Or.inl rfl) ?_
  refine z_istore h127 rfl (Or.inl rfl) (ls' := [zi a0, zi a1, zi a0, zi a1, zU, zU]) rfl ?_
  refine z_iconst h127 rfl ?_
  refine z_istore h127 rfl (Or.inr rfl) (ls' := [zi a0, zi a1, zi a0, zi a1, zi 0, zU]) rfl ?_
  refine z_kill h127 rfl (ls' := [zU, zU, zi a0, zi a1, zi 0, zU]) rfl ?_
  refine Rz.wh (hd := fun s1 => (6, [zU, zU, zi s1.1, zi s1.2.1, zi s1.2.2, zU], [], M, K)) (fun s1 => ?_) n (a0, a1, 0)
  (try dsimp only)
  refine z_iload h127 rfl rfl (Or.inr rfl) ?_
  refine z_iconst h127 rfl ?_
  refine z_icge h127 rfl ?_ ?_
  · refine z_kill h127 rfl (ls' := [zU, zU, zi s1.1, zU, zU, zU]) rfl ?_
    refine z_iload h127 rfl rfl (Or.inl rfl) ?_
    exact z_iret h127 rfl (fun _ q => q)
  · refine z_iload h127 rfl rfl (Or.inl rfl) ?_
    refine z_ifeq h127 rfl ?_ ?_
    · refine z_kill h127 rfl (ls' := [zU, zU, zi s1.1, zU, zU, zU]) rfl ?_
      refine z_iload h127 rfl rfl (Or.inl rfl) ?_
      exact z_iret h127 rfl (fun _ q => q)
    · refine z_iload h127 rfl rfl (Or.inl rfl) ?_
      refine z_iload h127 rfl rfl (Or.inl rfl) ?_
      refine z_rem h127 rfl (fun v2 => ?_)
      refine z_istore h127 rfl (Or.inr rfl) (ls' := [zU, zU, zi s1.1, zi s1.2.1, zi s1.2.2, zi v2]) rfl ?_
      refine z_iload h127 rfl rfl (Or.inl rfl) ?_
      refine z_istore h127 rfl (Or.inl rfl) (ls' := [zU, zU, zi s1.2.1, zi s1.2.1, zi s1.2.2, zi v2]) rfl ?_
      refine z_iload h127 rfl rfl (Or.inr rfl) ?_
      refine z_istore h127 rfl (Or.inl rfl) (ls' := [zU, zU, zi s1.2.1, zi v2, zi s1.2.2, zi v2]) rfl ?_
      refine z_iinc h127 rfl rfl (ls' := [zU, zU, zi s1.2.1, zi v2, zi (s1.2.2 + 1), zi v2]) rfl ?_
      refine z_goto h127 rfl ?_
      refine z_kill h127 rfl (ls' := [zU, zU, zi s1.2.1, zi v2, zi (s1.2.2 + 1), zU]) rfl ?_
      exact Rz.here fun _ q => q
set_option maxRecDepth 20000 in
theorem t_qra_keep (X : Int × (Int → Int)) (n : Nat) (K : zK) (M : zM) (self a1 a2 a3 : Int) (g_self : 1 ≤ self) : Rz X 37 (0, [zr self, zi a1, zi a2, zi a3, zU, zU, zU, zU, zU], [], M, K) (qra_keep n K M self a1 a2 a3) (fun e P => P (none, e, K)) := by
  have h37 : zT 37 = zt37 := rfl
  unfold qra_keep
  refine z_lconst h37 rfl ?_
  refine z_lstore h37 rfl (Or.inr rfl) (ls' := [zr self, zi a1, zi a2, zi a3, zl 0, zU, zU, zU, zU]) rfl ?_
  refine z_iconst h37 rfl ?_
  refine z_istore h37 rfl (Or.inr rfl) (ls' := [zr self, zi a1, zi a2, zi a3, zl 0, zU, zi 0, zU, zU]) rfl ?_
  refine z_iconst h37 rfl ?_
  refine z_istore h37 rfl (Or.inr rfl) (ls' := [zr self, zi a1, zi a2, zi a3, zl 0, zU, zi 0, zi 0, zU]) rfl ?_
  refine z_kill h37 rfl (ls' := [zr self, zi a1, zi a2, zi a3, zl 0, zU, zi 0, zi 0, zU]) rfl ?_
  refine Rz.bind (t := fun e2 => (35, [zr self, zi a1, zi a2, zi a3, zl e2.1, zU, zi e2.2.1, zi e2.2.2, zU], [], M, K)) ?_ (fun e2 => ?_)
  · refine Rz.wh (hd := fun s1 => (6, [zr self, zi a1, zi a2, zi a3, zl s1.1, zU, zi s1.2.1, zi s1.2.2, zU], [], M, K)) (fun s1 => ?_) n (0, 0, 0)
    (try dsimp only)
    refine z_iload h37 rfl rfl (Or.inr rfl) ?_
    refine z_iload h37 rfl rfl (Or.inl rfl) ?_
    refine z_icge h37 rfl ?_ ?_
    · exact Rz.here fun _ q => q
    · refine z_iconst h37 rfl ?_
      refine z_aload h37 rfl rfl (Or.inl rfl) (by omega) ?_
      refine z_getr (a := 4) (b := 0) (l := [9, 7]) h37 rfl (fun r9 g_r9 => ?_)
      refine z_iload h37 rfl rfl (Or.inr rfl) ?_
      refine z_iald h37 rfl (fun v10 => ?_)
      refine z_iload h37 rfl rfl (Or.inl rfl) ?_
      refine z_isub h37 rfl ?_
      refine z_mmax h37 rfl rfl ?_
      refine z_istoreL (lsf := fun x11 => [zr self, zi a1, zi a2, zi a3, zl s1.1, zU, zi s1.2.1, zi s1.2.2, zi x11]) h37 rfl (Or.inr rfl) (fun _ => rfl) (fun x11 => ?_)
      (try dsimp only)
      refine z_iload h37 rfl rfl (Or.inr rfl) ?_
      refine z_iconst h37 rfl ?_
      refine Rz.bind (t := fun j12 => (33, [zr self, zi a1, zi a2, zi a3, zl j12.1, zU, zi j12.2, zi s1.2.2, zU], [], M, K)) ?_ (fun j12 => ?_)
      · refine z_icge h37 rfl ?_ ?_
        · refine z_iload h37 rfl rfl (Or.inr rfl) ?_
          refine z_istore h37 rfl (Or.inr rfl) (ls' := [zr self, zi a1, zi a2, zi a3, zl s1.1, zU, zi x11, zi s1.2.2, zi x11]) rfl ?_
          refine z_kill h37 rfl (ls' := [zr self, zi a1, zi a2, zi a3, zl s1.1, zU, zi x11, zi s1.2.2, zU]) rfl ?_
          exact Rz.here fun _ q => q
        · refine z_lload h37 rfl rfl (Or.inr rfl) ?_
          refine z_iload h37 rfl rfl (Or.inr rfl) ?_
          refine z_ci2l h37 rfl ?_
          refine z_iconst h37 rfl ?_
          refine z_iload h37 rfl rfl (Or.inr rfl) ?_
          refine z_imul h37 rfl ?_
          refine z_lshl h37 rfl ?_
          refine z_lor h37 rfl ?_
          refine z_lstore h37 rfl (Or.inr rfl) (ls' := [zr self, zi a1, zi a2, zi a3, zl (zlor s1.1 (zlshl (zw x11) (4 * s1.2.2))), zU, zi s1.2.1, zi s1.2.2, zi x11]) rfl ?_
          refine z_goto h37 rfl ?_
          refine z_kill h37 rfl (ls' := [zr self, zi a1, zi a2, zi a3, zl (zlor s1.1 (zlshl (zw x11) (4 * s1.2.2))), zU, zi s1.2.1, zi s1.2.2, zU]) rfl ?_
          exact Rz.here fun _ q => q
      · (try dsimp only)
        refine z_iinc h37 rfl rfl (ls' := [zr self, zi a1, zi a2, zi a3, zl j12.1, zU, zi j12.2, zi (s1.2.2 + 1), zU]) rfl ?_
        refine z_goto h37 rfl ?_
        refine z_kill h37 rfl (ls' := [zr self, zi a1, zi a2, zi a3, zl j12.1, zU, zi j12.2, zi (s1.2.2 + 1), zU]) rfl ?_
        exact Rz.here fun _ q => q
  · (try dsimp only)
    refine z_aload h37 rfl rfl (Or.inl rfl) (by omega) ?_
    refine z_getr (a := 4) (b := 1) (l := [15, 7]) h37 rfl (fun r3 g_r3 => ?_)
    refine z_iload h37 rfl rfl (Or.inl rfl) ?_
    refine z_lload h37 rfl rfl (Or.inr rfl) ?_
    refine z_last h37 rfl (fun M4 => ?_)
    refine z_aload h37 rfl rfl (Or.inl rfl) (by omega) ?_
    refine z_getr (a := 4) (b := 2) (l := [19, 7]) h37 rfl (fun r5 g_r5 => ?_)
    refine z_iload h37 rfl rfl (Or.inl rfl) ?_
    refine z_iload h37 rfl rfl (Or.inr rfl) ?_
    refine z_iast h37 rfl (fun M6 => ?_)
    refine z_aload h37 rfl rfl (Or.inl rfl) (by omega) ?_
    refine z_getr (a := 4) (b := 3) (l := [22, 7]) h37 rfl (fun r7 g_r7 => ?_)
    refine z_iload h37 rfl rfl (Or.inl rfl) ?_
    refine z_iload h37 rfl rfl (Or.inl rfl) ?_
    refine z_iast h37 rfl (fun M8 => ?_)
    exact z_vret h37 rfl (fun _ q => q)
set_option maxRecDepth 20000 in
theorem t_qra_earlierLike (X : Int × (Int → Int)) (n : Nat) (K : zK) (M : zM) (self a1 : Int) (g_self : 1 ≤ self) : Rz X 38 (0, [zr self, zi a1, zU], [], M, K) (qra_earlierLike n K M self a1) (fun e P => P (some (zi e), M, K)) := by
  have h38 : zT 38 = zt38 := rfl
  unfold qra_earlierLike
  refine z_iconst h38 rfl ?_
  refine z_istore h38 rfl (Or.inl rfl) (ls' := [zr self, zi a1, zi 0]) rfl ?_
  refine Rz.wh (hd := fun s1 => (2, [zr self, zi a1, zi s1], [], M, K)) (fun s1 => ?_) n 0
  (try dsimp only)
  refine z_iload h38 rfl rfl (Or.inl rfl) ?_
  refine z_iload h38 rfl rfl (Or.inl rfl) ?_
  refine z_icge h38 rfl ?_ ?_
  · refine z_iconst h38 rfl ?_
    exact z_iret h38 rfl (fun _ q => q)
  · refine z_aload h38 rfl rfl (Or.inl rfl) (by omega) ?_
    refine z_getr (a := 4) (b := 1) (l := [15, 7]) h38 rfl (fun r2 g_r2 => ?_)
    refine z_iload h38 rfl rfl (Or.inl rfl) ?_
    refine z_lald h38 rfl (fun v3 => ?_)
    refine z_aload h38 rfl rfl (Or.inl rfl) (by omega) ?_
    refine z_getr (a := 4) (b := 1) (l := [15, 7]) h38 rfl (fun r4 g_r4 => ?_)
    refine z_iload h38 rfl rfl (Or.inl rfl) ?_
    refine z_lald h38 rfl (fun v5 => ?_)
    refine z_lcmp h38 rfl ?_
    refine Rz.esc (t := fun j6 => (26, [zr self, zi a1, zi s1], [], M, K)) ?_ (fun j6 => ?_)
    · refine z_ifne h38 rfl ?_ ?_
      · refine z_aload h38 rfl rfl (Or.inl rfl) (by omega) ?_
        refine z_getr (a := 4) (b := 2) (l := [19, 7]) h38 rfl (fun r7 g_r7 => ?_)
        refine z_iload h38 rfl rfl (Or.inl rfl) ?_
        refine z_iald h38 rfl (fun v8 => ?_)
        refine z_aload h38 rfl rfl (Or.inl rfl) (by omega) ?_
        refine z_getr (a := 4) (b := 2) (l := [19, 7]) h38 rfl (fun r9 g_r9 => ?_)
        refine z_iload h38 rfl rfl (Or.inl rfl) ?_
        refine z_iald h38 rfl (fun v10 => ?_)
        refine z_icne h38 rfl ?_ ?_
        · refine z_iload h38 rfl rfl (Or.inl rfl) ?_
          exact z_iret h38 rfl (fun _ q => q)
        · exact Rz.here fun _ q => q
      · exact Rz.here fun _ q => q
    · (try dsimp only)
      refine z_iinc h38 rfl rfl (ls' := [zr self, zi a1, zi (s1 + 1)]) rfl ?_
      refine z_goto h38 rfl ?_
      exact Rz.here fun _ q => q
set_option maxRecDepth 20000 in
theorem t_qra_settle (X : Int × (Int → Int)) (n : Nat) (K : zK) (M : zM) (self a1 a2 a3 : Int) (g_self : 1 ≤ self) : Rz X 39 (0, [zr self, zi a1, zi a2, zi a3, zU, zU, zU], [], M, K) (qra_settle n K M self a1 a2 a3) (fun e P => P (none, e, K)) := by
  have h39 : zT 39 = zt39 := rfl
  unfold qra_settle
  refine z_iload h39 rfl rfl (Or.inl rfl) ?_
  refine z_iload h39 rfl rfl (Or.inl rfl) ?_
  refine z_isub h39 rfl ?_
  refine z_iload h39 rfl rfl (Or.inl rfl) ?_
  refine z_imul h39 rfl ?_
  refine z_istoreL (lsf := fun x1 => [zr self, zi a1, zi a2, zi a3, zi x1, zU, zU]) h39 rfl (Or.inr rfl) (fun _ => rfl) (fun x1 => ?_)
  (try dsimp only)
  refine z_aload h39 rfl rfl (Or.inl rfl) (by omega) ?_
  refine z_getr (a := 4) (b := 3) (l := [22, 7]) h39 rfl (fun r2 g_r2 => ?_)
  refine z_iload h39 rfl rfl (Or.inl rfl) ?_
  refine z_iald h39 rfl (fun v3 => ?_)
  refine z_aload h39 rfl rfl (Or.inl rfl) (by omega) ?_
  refine z_getr (a := 4) (b := 3) (l := [22, 7]) h39 rfl (fun r4 g_r4 => ?_)
  refine z_iload h39 rfl rfl (Or.inl rfl) ?_
  refine z_iald h39 rfl (fun v5 => ?_)
  refine z_isub h39 rfl ?_
  refine z_istoreL (lsf := fun x6 => [zr self, zi a1, zi a2, zi a3, zi x1, zi x6, zU]) h39 rfl (Or.inr rfl) (fun _ => rfl) (fun x6 => ?_)
  (try dsimp only)
  refine z_iconst h39 rfl ?_
  refine z_iload h39 rfl rfl (Or.inr rfl) ?_
  refine z_iload h39 rfl rfl (Or.inr rfl) ?_
  refine z_cs (a := 127) (b := 1) (l := [37, 2]) (as := [zi x1, zi x6]) (lsE := [zi x1, zi x6, zU, zU, zU, zU]) (st' := [zi 1]) (val := fun p => some (zi p)) (mem := fun _ => M) h39 rfl ⟨rfl, rfl, rfl, Nat.le_of_ble_eq_true rfl, Nat.le_of_ble_eq_true rfl, rfl⟩ (t_qbs_greatestDivisor X n K M x1 x6 ) (fun v7 => ?_)
  refine z_mmax h39 rfl rfl ?_
  refine z_istoreL (lsf := fun x8 => [zr self, zi a1, zi a2, zi a3, zi x1, zi x6, zi x8]) h39 rfl (Or.inr rfl) (fun _ => rfl) (fun x8 => ?_)
  (try dsimp only)
  refine z_aload h39 rfl rfl (Or.inl rfl) (by omega) ?_
  refine z_iload h39 rfl rfl (Or.inr rfl) ?_
  refine z_iload h39 rfl rfl (Or.inr rfl) ?_
  refine z_div h39 rfl (fun v9 => ?_)
  refine z_putf (a := 4) (b := 4) (l := [64, 7]) h39 rfl (fun M10 => ?_)
  refine z_aload h39 rfl rfl (Or.inl rfl) (by omega) ?_
  refine z_iload h39 rfl rfl (Or.inr rfl) ?_
  refine z_iload h39 rfl rfl (Or.inr rfl) ?_
  refine z_div h39 rfl (fun v11 => ?_)
  refine z_putf (a := 4) (b := 5) (l := [67, 7]) h39 rfl (fun M12 => ?_)
  refine z_aload h39 rfl rfl (Or.inl rfl) (by omega) ?_
  refine z_iload h39 rfl rfl (Or.inl rfl) ?_
  refine z_iconst h39 rfl ?_
  refine z_iadd h39 rfl ?_
  refine z_putf (a := 4) (b := 6) (l := [70, 7]) h39 rfl (fun M13 => ?_)
  exact z_vret h39 rfl (fun _ q => q)
set_option maxRecDepth 20000 in
theorem t_qra_seek (X : Int × (Int → Int)) (n : Nat) (K : zK) (M : zM) (self a1 a2 a3 a4 : Int) (g_self : 1 ≤ self) (g_a1 : 1 ≤ a1) : Rz X 36 (0, [zr self, zr a1, zi a2, zi a3, zi a4, zU, zU, zU, zU, zU, zU, zU], [], M, K) (qra_seek n K M self a1 a2 a3 a4) (fun e P => P (some (zi e.1), e.2, K)) := by
  have h36 : zT 36 = zt36 := rfl
  unfold qra_seek
  refine z_aload h36 rfl rfl (Or.inl rfl) (by omega) ?_
  refine z_getr (a := 4) (b := 0) (l := [9, 7]) h36 rfl (fun r1 g_r1 => ?_)
  refine z_iconst h36 rfl ?_
  refine z_cs (a := 1) (b := 0) (l := [25, 2]) (as := [zr r1, zi 0]) (lsE := [zr r1, zi 0, zU, zU]) (st' := []) (val := fun _ => none) (mem := fun p => p) h36 rfl ⟨rfl, rfl, rfl, Nat.le_of_ble_eq_true rfl, Nat.le_of_ble_eq_true rfl, rfl⟩ (t_qar_fillI X n K M r1 0 (by omega)) (fun M2 => ?_)
  refine z_aload h36 rfl rfl (Or.inl rfl) (by omega) ?_
  refine z_cv (a := 25) (b := 0) (l := [31, 1, 2, 7]) (as := []) (lsE := [zr a1]) (st' := []) (val := fun p => some (zi p)) (mem := fun _ => M2) h36 rfl ⟨rfl, rfl, rfl, Nat.le_of_ble_eq_true rfl, Nat.le_of_ble_eq_true rfl, rfl⟩ (fun g1 => (t_qla_cellCount X K M2 a1 (by omega))) (fun v3 => ?_)
  refine z_istore h36 rfl (Or.inr rfl) (ls' := [zr self, zr a1, zi a2, zi a3, zi a4, zi v3, zU, zU, zU, zU, zU, zU]) rfl ?_
  refine z_iload h36 rfl rfl (Or.inr rfl) ?_
  refine z_iload h36 rfl rfl (Or.inr rfl) ?_
  refine z_iload h36 rfl rfl (Or.inr rfl) ?_
  refine z_cs (a := 127) (b := 1) (l := [37, 2]) (as := [zi v3, zi a4]) (lsE := [zi v3, zi a4, zU, zU, zU, zU]) (st' := [zi v3]) (val := fun p => some (zi p)) (mem := fun _ => M2) h36 rfl ⟨rfl, rfl, rfl, Nat.le_of_ble_eq_true rfl, Nat.le_of_ble_eq_true rfl, rfl⟩ (t_qbs_greatestDivisor X n K M2 v3 a4 ) (fun v4 => ?_)
  refine z_div h36 rfl (fun v5 => ?_)
  refine z_istore h36 rfl (Or.inr rfl) (ls' := [zr self, zr a1, zi a2, zi a3, zi a4, zi v3, zi v5, zU, zU, zU, zU, zU]) rfl ?_
  refine z_iconst h36 rfl ?_
  refine z_istore h36 rfl (Or.inr rfl) (ls' := [zr self, zr a1, zi a2, zi a3, zi a4, zi v3, zi v5, zi 0, zU, zU, zU, zU]) rfl ?_
  refine z_iconst h36 rfl ?_
  refine z_istore h36 rfl (Or.inr rfl) (ls' := [zr self, zr a1, zi a2, zi a3, zi a4, zi v3, zi v5, zi 0, zi 0, zU, zU, zU]) rfl ?_
  refine z_kill h36 rfl (ls' := [zr self, zr a1, zi a2, zi a3, zi a4, zU, zi v5, zi 0, zi 0, zU, zU, zU]) rfl ?_
  refine Rz.wh (hd := fun s6 => (17, [zr self, zr a1, zi a2, zi a3, zi a4, zU, zi v5, zi s6.1, zi s6.2.1, zU, zU, zU], [], s6.2.2, K)) (fun s6 => ?_) n (0, 0, M2)
  (try dsimp only)
  refine z_iload h36 rfl rfl (Or.inr rfl) ?_
  refine z_iconst h36 rfl ?_
  refine z_icge h36 rfl ?_ ?_
  · refine z_iconst h36 rfl ?_
    exact z_zret h36 rfl (Or.inl rfl) (fun _ q => q)
  · refine z_iconst h36 rfl ?_
    refine z_istore h36 rfl (Or.inr rfl) (ls' := [zr self, zr a1, zi a2, zi a3, zi a4, zU, zi v5, zi s6.1, zi s6.2.1, zi 0, zU, zU]) rfl ?_
    refine z_kill h36 rfl (ls' := [zr self, zr a1, zi a2, zi a3, zi a4, zU, zi v5, zi s6.1, zi s6.2.1, zi 0, zU, zU]) rfl ?_
    refine Rz.bind (t := fun e8 => (53, [zr self, zr a1, zi a2, zi a3, zi a4, zU, zi v5, zi e8.1, zi s6.2.1, zi e8.2.1, zU, zU], [], e8.2.2, K)) ?_ (fun e8 => ?_)
    · refine Rz.wh (hd := fun s7 => (22, [zr self, zr a1, zi a2, zi a3, zi a4, zU, zi v5, zi s7.1, zi s6.2.1, zi s7.2.1, zU, zU], [], s7.2.2, K)) (fun s7 => ?_) n (s6.1, 0, s6.2.2)
      (try dsimp only)
      refine z_iload h36 rfl rfl (Or.inr rfl) ?_
      refine z_iload h36 rfl rfl (Or.inr rfl) ?_
      refine z_icge h36 rfl ?_ ?_
      · exact Rz.here fun _ q => q
      · refine z_aload h36 rfl rfl (Or.inl rfl) (by omega) ?_
        refine z_iload h36 rfl rfl (Or.inl rfl) ?_
        refine z_iload h36 rfl rfl (Or.inr rfl) ?_
        refine z_iload h36 rfl rfl (Or.inr rfl) ?_
        refine z_imul h36 rfl ?_
        refine z_iadd h36 rfl ?_
        refine z_cv (a := 27) (b := 0) (l := [41, 2, 2, 7]) (as := [zi (a3 + (s7.2.1 * a4))]) (lsE := [zr a1, zi (a3 + (s7.2.1 * a4)), zU]) (st' := []) (val := fun p => some (zi p)) (mem := fun _ => s7.2.2) h36 rfl ⟨rfl, rfl, rfl, Nat.le_of_ble_eq_true rfl, Nat.le_of_ble_eq_true rfl, rfl⟩ (fun g1 => (t_qla_bankOfAddress X K s7.2.2 a1 (a3 + (s7.2.1 * a4)) (by omega))) (fun v13 => ?_)
        refine z_istore h36 rfl (Or.inr rfl) (ls' := [zr self, zr a1, zi a2, zi a3, zi a4, zU, zi v5, zi s7.1, zi s6.2.1, zi s7.2.1, zi v13, zU]) rfl ?_
        refine z_iload h36 rfl rfl (Or.inr rfl) ?_
        refine z_aload h36 rfl rfl (Or.inl rfl) (by omega) ?_
        refine z_getr (a := 4) (b := 0) (l := [9, 7]) h36 rfl (fun r14 g_r14 => ?_)
        refine z_iload h36 rfl rfl (Or.inr rfl) ?_
        refine z_iald h36 rfl (fun v15 => ?_)
        refine z_mmax h36 rfl rfl ?_
        refine z_istoreL (lsf := fun x16 => [zr self, zr a1, zi a2, zi a3, zi a4, zU, zi v5, zi s7.1, zi s6.2.1, zi s7.2.1, zi v13, zi x16]) h36 rfl (Or.inr rfl) (fun _ => rfl) (fun x16 => ?_)
        (try dsimp only)
        refine z_aload h36 rfl rfl (Or.inl rfl) (by omega) ?_
        refine z_getr (a := 4) (b := 0) (l := [9, 7]) h36 rfl (fun r17 g_r17 => ?_)
        refine z_iload h36 rfl rfl (Or.inr rfl) ?_
        refine z_iload h36 rfl rfl (Or.inr rfl) ?_
        refine z_iload h36 rfl rfl (Or.inl rfl) ?_
        refine z_iadd h36 rfl ?_
        refine z_iast h36 rfl (fun M18 => ?_)
        refine z_iload h36 rfl rfl (Or.inr rfl) ?_
        refine z_iconst h36 rfl ?_
        refine z_iadd h36 rfl ?_
        refine z_istoreL (lsf := fun x19 => [zr self, zr a1, zi a2, zi a3, zi a4, zU, zi v5, zi x19, zi s6.2.1, zi s7.2.1, zi v13, zi x16]) h36 rfl (Or.inr rfl) (fun _ => rfl) (fun x19 => ?_)
        (try dsimp only)
        refine z_iinc h36 rfl rfl (ls' := [zr self, zr a1, zi a2, zi a3, zi a4, zU, zi v5, zi x19, zi s6.2.1, zi (s7.2.1 + 1), zi v13, zi x16]) rfl ?_
        refine z_goto h36 rfl ?_
        refine z_kill h36 rfl (ls' := [zr self, zr a1, zi a2, zi a3, zi a4, zU, zi v5, zi x19, zi s6.2.1, zi (s7.2.1 + 1), zU, zU]) rfl ?_
        exact Rz.here fun _ q => q
    · (try dsimp only)
      refine z_aload h36 rfl rfl (Or.inl rfl) (by omega) ?_
      refine z_iload h36 rfl rfl (Or.inr rfl) ?_
      refine z_iload h36 rfl rfl (Or.inr rfl) ?_
      refine z_aload h36 rfl rfl (Or.inl rfl) (by omega) ?_
      refine z_getf (a := 2) (b := 2) (l := [50, 7]) h36 rfl (fun v9 => ?_)
      refine z_cv (a := 37) (b := 0) (l := [54, 4, 4, 7]) (as := [zi s6.2.1, zi e8.1, zi v9]) (lsE := [zr self, zi s6.2.1, zi e8.1, zi v9, zU, zU, zU, zU, zU]) (st' := []) (val := fun _ => none) (mem := fun p => p) h36 rfl ⟨rfl, rfl, rfl, Nat.le_of_ble_eq_true rfl, Nat.le_of_ble_eq_true rfl, rfl⟩ (fun g1 => (t_qra_keep X n K e8.2.2 self s6.2.1 e8.1 v9 (by omega))) (fun M10 => ?_)
      refine z_aload h36 rfl rfl (Or.inl rfl) (by omega) ?_
      refine z_iload h36 rfl rfl (Or.inr rfl) ?_
      refine z_cv (a := 38) (b := 0) (l := [58, 2, 4, 7]) (as := [zi s6.2.1]) (lsE := [zr self, zi s6.2.1, zU]) (st' := []) (val := fun p => some (zi p)) (mem := fun _ => M10) h36 rfl ⟨rfl, rfl, rfl, Nat.le_of_ble_eq_true rfl, Nat.le_of_ble_eq_true rfl, rfl⟩ (fun g1 => (t_qra_earlierLike X n K M10 self s6.2.1 (by omega))) (fun v11 => ?_)
      refine z_istore h36 rfl (Or.inr rfl) (ls' := [zr self, zr a1, zi a2, zi a3, zi a4, zU, zi v5, zi e8.1, zi s6.2.1, zi v11, zU, zU]) rfl ?_
      refine z_iload h36 rfl rfl (Or.inr rfl) ?_
      refine z_iflt h36 rfl ?_ ?_
      · refine z_iinc h36 rfl rfl (ls' := [zr self, zr a1, zi a2, zi a3, zi a4, zU, zi v5, zi e8.1, zi (s6.2.1 + 1), zi v11, zU, zU]) rfl ?_
        refine z_goto h36 rfl ?_
        refine z_kill h36 rfl (ls' := [zr self, zr a1, zi a2, zi a3, zi a4, zU, zi v5, zi e8.1, zi (s6.2.1 + 1), zU, zU, zU]) rfl ?_
        exact Rz.here fun _ q => q
      · refine z_aload h36 rfl rfl (Or.inl rfl) (by omega) ?_
        refine z_iload h36 rfl rfl (Or.inr rfl) ?_
        refine z_iload h36 rfl rfl (Or.inr rfl) ?_
        refine z_iload h36 rfl rfl (Or.inr rfl) ?_
        refine z_cv (a := 39) (b := 0) (l := [61, 4, 4, 7]) (as := [zi s6.2.1, zi v11, zi v5]) (lsE := [zr self, zi s6.2.1, zi v11, zi v5, zU, zU, zU]) (st' := []) (val := fun _ => none) (mem := fun p => p) h36 rfl ⟨rfl, rfl, rfl, Nat.le_of_ble_eq_true rfl, Nat.le_of_ble_eq_true rfl, rfl⟩ (fun g1 => (t_qra_settle X n K M10 self s6.2.1 v11 v5 (by omega))) (fun M12 => ?_)
        refine z_iconst h36 rfl ?_
        exact z_zret h36 rfl (Or.inr rfl) (fun _ q => q)
set_option maxRecDepth 20000 in
theorem t_qrd_append (X : Int × (Int → Int)) (n : Nat) (K : zK) (M : zM) (self a1 : Int) (g_self : 1 ≤ self) : Rz X 41 (0, [zr self, zl a1, zU, zU], [], M, K) (qrd_append n K M self a1) (fun e P => P (some (zi e.1), e.2, K)) := by
  have h41 : zT 41 = zt41 := rfl
  unfold qrd_append
  refine z_aload h41 rfl rfl (Or.inl rfl) (by omega) ?_
  refine z_getf (a := 5) (b := 2) (l := [19, 9]) h41 rfl (fun v1 => ?_)
  refine z_iconst h41 rfl ?_
  refine z_iadd h41 rfl ?_
  refine z_iconst h41 rfl ?_
  refine z_icle h41 rfl ?_ ?_
  · refine z_iconst h41 rfl ?_
    refine z_istore h41 rfl (Or.inl rfl) (ls' := [zr self, zl a1, zU, zi 0]) rfl ?_
    refine Rz.wh (hd := fun s2 => (10, [zr self, zl a1, zU, zi s2.1], [], s2.2, K)) (fun s2 => ?_) n (0, M)
    (try dsimp only)
    refine z_iload h41 rfl rfl (Or.inl rfl) ?_
    refine z_iconst h41 rfl ?_
    refine z_icge h41 rfl ?_ ?_
    · refine z_aload h41 rfl rfl (Or.inl rfl) (by omega) ?_
      refine z_dupr h41 rfl ?_
      refine z_getf (a := 5) (b := 2) (l := [19, 9]) h41 rfl (fun v3 => ?_)
      refine z_iconst h41 rfl ?_
      refine z_iadd h41 rfl ?_
      refine z_putf (a := 5) (b := 2) (l := [19, 9]) h41 rfl (fun M4 => ?_)
      refine z_aload h41 rfl rfl (Or.inl rfl) (by omega) ?_
      refine z_getf (a := 5) (b := 2) (l := [19, 9]) h41 rfl (fun v5 => ?_)
      exact z_iret h41 rfl (fun _ q => q)
    · refine z_aload h41 rfl rfl (Or.inl rfl) (by omega) ?_
      refine z_getr (a := 5) (b := 0) (l := [9, 9]) h41 rfl (fun r6 g_r6 => ?_)
      refine z_aload h41 rfl rfl (Or.inl rfl) (by omega) ?_
      refine z_getf (a := 5) (b := 2) (l := [19, 9]) h41 rfl (fun v7 => ?_)
      refine z_iload h41 rfl rfl (Or.inl rfl) ?_
      refine z_iadd h41 rfl ?_
      refine z_lload h41 rfl rfl (Or.inl rfl) ?_
      refine z_iconst h41 rfl ?_
      refine z_iconst h41 rfl ?_
      refine z_iload h41 rfl rfl (Or.inl rfl) ?_
      refine z_imul h41 rfl ?_
      refine z_isub h41 rfl ?_
      refine z_lushr h41 rfl ?_
      refine z_cl2i h41 rfl ?_
      refine z_ci2b h41 rfl ?_
      refine z_bast h41 rfl (fun M8 => ?_)
      refine z_iinc h41 rfl rfl (ls' := [zr self, zl a1, zU, zi (s2.1 + 1)]) rfl ?_
      refine z_goto h41 rfl ?_
      exact Rz.here fun _ q => q
  · refine z_iconst h41 rfl ?_
    exact z_iret h41 rfl (fun _ q => q)
set_option maxRecDepth 20000 in
theorem t_qrd_isLetter (X : Int × (Int → Int)) (K : zK) (M : zM) (a0 : Int) : Rz X 51 (0, [zi a0], [], M, K) (qrd_isLetter K M a0) (fun e P => P (some (zi e), M, K)) := by
  have h51 : zT 51 = zt51 := rfl
  unfold qrd_isLetter
  refine z_iload h51 rfl rfl (Or.inl rfl) ?_
  refine z_iconst h51 rfl ?_
  refine z_iclt h51 rfl ?_ ?_
  · refine z_kill h51 rfl (ls' := [zU]) rfl ?_
    refine z_iconst h51 rfl ?_
    refine z_kill h51 rfl (ls' := [zU]) rfl ?_
    exact z_zret h51 rfl (Or.inl rfl) (fun _ q => q)
  · refine z_iload h51 rfl rfl (Or.inl rfl) ?_
    refine z_iconst h51 rfl ?_
    refine z_icgt h51 rfl ?_ ?_
    · refine z_kill h51 rfl (ls' := [zU]) rfl ?_
      refine z_iconst h51 rfl ?_
      refine z_kill h51 rfl (ls' := [zU]) rfl ?_
      exact z_zret h51 rfl (Or.inl rfl) (fun _ q => q)
    · refine z_iconst h51 rfl ?_
      refine z_goto h51 rfl ?_
      refine z_kill h51 rfl (ls' := [zU]) rfl ?_
      exact z_zret h51 rfl (Or.inr rfl) (fun _ q => q)
set_option maxRecDepth 20000 in
theorem t_qrd_isFigure (X : Int × (Int → Int)) (K : zK) (M : zM) (a0 : Int) : Rz X 52 (0, [zi a0], [], M, K) (qrd_isFigure K M a0) (fun e P => P (some (zi e), M, K)) := by
  have h52 : zT 52 = zt52 := rfl
  unfold qrd_isFigure
  refine z_iload h52 rfl rfl (Or.inl rfl) ?_
  refine z_iconst h52 rfl ?_
  refine z_iclt h52 rfl ?_ ?_
  · refine z_kill h52 rfl (ls' := [zU]) rfl ?_
    refine z_iconst h52 rfl ?_
    refine z_kill h52 rfl (ls' := [zU]) rfl ?_
    exact z_zret h52 rfl (Or.inl rfl) (fun _ q => q)
  · refine z_iload h52 rfl rfl (Or.inl rfl) ?_
    refine z_iconst h52 rfl ?_
    refine z_icgt h52 rfl ?_ ?_
    · refine z_kill h52 rfl (ls' := [zU]) rfl ?_
      refine z_iconst h52 rfl ?_
      refine z_kill h52 rfl (ls' := [zU]) rfl ?_
      exact z_zret h52 rfl (Or.inl rfl) (fun _ q => q)
    · refine z_iconst h52 rfl ?_
      refine z_goto h52 rfl ?_
      refine z_kill h52 rfl (ls' := [zU]) rfl ?_
      exact z_zret h52 rfl (Or.inr rfl) (fun _ q => q)
set_option maxRecDepth 20000 in
theorem t_qbs_within (X : Int × (Int → Int)) (K : zK) (M : zM) (a0 a1 a2 : Int) : Rz X 123 (0, [zi a0, zi a1, zi a2], [], M, K) (qbs_within K M a0 a1 a2) (fun e P => P (some (zi e), M, K)) := by
  have h123 : zT 123 = zt123 := rfl
  unfold qbs_within
  refine z_iload h123 rfl rfl (Or.inl rfl) ?_
  refine z_iload h123 rfl rfl (Or.inl rfl) ?_
  refine z_iclt h123 rfl ?_ ?_
  · refine z_kill h123 rfl (ls' := [zU, zU, zU]) rfl ?_
    refine z_iconst h123 rfl ?_
    refine z_kill h123 rfl (ls' := [zU, zU, zU]) rfl ?_
    exact z_zret h123 rfl (Or.inl rfl) (fun _ q => q)
  · refine z_iload h123 rfl rfl (Or.inl rfl) ?_
    refine z_iload h123 rfl rfl (Or.inl rfl) ?_
    refine z_icgt h123 rfl ?_ ?_
    · refine z_kill h123 rfl (ls' := [zU, zU, zU]) rfl ?_
      refine z_iconst h123 rfl ?_
      refine z_kill h123 rfl (ls' := [zU, zU, zU]) rfl ?_
      exact z_zret h123 rfl (Or.inl rfl) (fun _ q => q)
    · refine z_iconst h123 rfl ?_
      refine z_goto h123 rfl ?_
      refine z_kill h123 rfl (ls' := [zU, zU, zU]) rfl ?_
      exact z_zret h123 rfl (Or.inr rfl) (fun _ q => q)
