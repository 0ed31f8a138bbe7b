set_option maxRecDepth 20000 in
theorem t_qbs_sheet (X : Int × (Int → Int)) (n : Nat) (K : zK) (M : zM) (self a1 a2 a3 : Int) (g_self : 1 ≤ self) : Rz X 119 (0, [zr self, zi a1, zi a2, zi a3], [], M, K) (qbs_sheet n K M self a1 a2 a3) (fun e P => P (some (zi e.1), e.2, K)) := by
  have h119 : zT 119 = zt119 := rfl
  unfold qbs_sheet
  refine z_iload h119 rfl rfl (Or.inl rfl) ?_
  refine z_iconst h119 rfl ?_
  refine z_iconst h119 rfl ?_
  refine z_cs (a := 123) (b := 0) (l := [104, 3]) (as := [zi a1, zi 0, zi 3]) (lsE := [zi a1, zi 0, zi 3]) (st' := []) (val := fun p => some (zi p)) (mem := fun _ => M) h119 rfl ⟨rfl, rfl, rfl, Nat.le_of_ble_eq_true rfl, Nat.le_of_ble_eq_true rfl, rfl⟩ (t_qbs_within X K M a1 0 3 ) (fun v1 => ?_)
  refine z_ifeq h119 rfl ?_ ?_
  · refine z_kill h119 rfl (ls' := [zU, zU, zU, zU]) rfl ?_
    refine z_iconst h119 rfl ?_
    exact z_iret h119 rfl (fun _ q => q)
  · refine z_iload h119 rfl rfl (Or.inl rfl) ?_
    refine z_iconst h119 rfl ?_
    refine z_iconst h119 rfl ?_
    refine z_cs (a := 123) (b := 0) (l := [104, 3]) (as := [zi a2, zi 0, zi 2]) (lsE := [zi a2, zi 0, zi 2]) (st' := []) (val := fun p => some (zi p)) (mem := fun _ => M) h119 rfl ⟨rfl, rfl, rfl, Nat.le_of_ble_eq_true rfl, Nat.le_of_ble_eq_true rfl, rfl⟩ (t_qbs_within X K M a2 0 2 ) (fun v2 => ?_)
    refine z_ifeq h119 rfl ?_ ?_
    · refine z_kill h119 rfl (ls' := [zU, zU, zU, zU]) rfl ?_
      refine z_iconst h119 rfl ?_
      exact z_iret h119 rfl (fun _ q => q)
    · refine z_iload h119 rfl rfl (Or.inl rfl) ?_
      refine z_iconst h119 rfl ?_
      refine z_icle h119 rfl ?_ ?_
      · refine z_iload h119 rfl rfl (Or.inl rfl) ?_
        refine z_ifge h119 rfl ?_ ?_
        · refine z_aload h119 rfl rfl (Or.inl rfl) (by omega) ?_
          refine z_getr (a := 11) (b := 11) (l := [86, 15]) h119 rfl (fun r3 g_r3 => ?_)
          refine z_iload h119 rfl rfl (Or.inl rfl) ?_
          refine z_aald (a := 104) (b := 0) (l := []) h119 rfl (fun r4 g_r4 => ?_)
          refine z_iload h119 rfl rfl (Or.inl rfl) ?_
          refine z_iload h119 rfl rfl (Or.inl rfl) ?_
          refine z_cv (a := 67) (b := 0) (l := [298, 3, 7, 3]) (as := [zi a2, zi a3]) (lsE := [zr r4, zi a2, zi a3]) (st' := []) (val := fun _ => none) (mem := fun p => p) h119 rfl ⟨rfl, rfl, rfl, Nat.le_of_ble_eq_true rfl, Nat.le_of_ble_eq_true rfl, rfl⟩ (fun g1 => (t_qst_renew X n K M r4 a2 a3 (by omega))) (fun M5 => ?_)
          refine z_iconst h119 rfl ?_
          exact z_iret h119 rfl (fun _ q => q)
        · refine z_iconst h119 rfl ?_
          exact z_iret h119 rfl (fun _ q => q)
      · refine z_kill h119 rfl (ls' := [zU, zU, zU, zU]) rfl ?_
        refine z_iconst h119 rfl ?_
        exact z_iret h119 rfl (fun _ q => q)
set_option maxRecDepth 20000 in
theorem t_qbs_write (X : Int × (Int → Int)) (K : zK) (M : zM) (self a1 a2 a3 : Int) (g_self : 1 ≤ self) : Rz X 120 (0, [zr self, zi a1, zi a2, zi a3, zU], [], M, K) (qbs_write K M self a1 a2 a3) (fun e P => P (some (zi e.1), e.2, K)) := by
  have h120 : zT 120 = zt120 := rfl
  unfold qbs_write
  refine z_iload h120 rfl rfl (Or.inl rfl) ?_
  refine z_iconst h120 rfl ?_
  refine z_iconst h120 rfl ?_
  refine z_cs (a := 123) (b := 0) (l := [104, 3]) (as := [zi a1, zi 0, zi 3]) (lsE := [zi a1, zi 0, zi 3]) (st' := []) (val := fun p => some (zi p)) (mem := fun _ => M) h120 rfl ⟨rfl, rfl, rfl, Nat.le_of_ble_eq_true rfl, Nat.le_of_ble_eq_true rfl, rfl⟩ (t_qbs_within X K M a1 0 3 ) (fun v1 => ?_)
  refine z_ifne h120 rfl ?_ ?_
  · refine z_iconst h120 rfl ?_
    exact z_iret h120 rfl (fun _ q => q)
  · refine z_aload h120 rfl rfl (Or.inl rfl) (by omega) ?_
    refine z_getr (a := 11) (b := 11) (l := [86, 15]) h120 rfl (fun r2 g_r2 => ?_)
    refine z_iload h120 rfl rfl (Or.inl rfl) ?_
    refine z_aald (a := 104) (b := 0) (l := []) h120 rfl (fun r3 g_r3 => ?_)
    refine z_astore h120 rfl (Or.inr rfl) (by omega) (ls' := [zr self, zi a1, zi a2, zi a3, zr r3]) rfl ?_
    refine z_aload h120 rfl rfl (Or.inr rfl) (by omega) ?_
    refine z_cv (a := 65) (b := 0) (l := [302, 1, 7, 3]) (as := []) (lsE := [zr r3]) (st' := []) (val := fun p => some (zi p)) (mem := fun _ => M) h120 rfl ⟨rfl, rfl, rfl, Nat.le_of_ble_eq_true rfl, Nat.le_of_ble_eq_true rfl, rfl⟩ (fun g1 => (t_qst_isNothing X K M r3 (by omega))) (fun v4 => ?_)
    refine z_ifeq h120 rfl ?_ ?_
    · refine z_aload h120 rfl rfl (Or.inr rfl) (by omega) ?_
      refine z_iload h120 rfl rfl (Or.inl rfl) ?_
      refine z_cv (a := 66) (b := 0) (l := [306, 2, 7, 3]) (as := [zi a2]) (lsE := [zr r3, zi a2]) (st' := []) (val := fun p => some (zi p)) (mem := fun _ => M) h120 rfl ⟨rfl, rfl, rfl, Nat.le_of_ble_eq_true rfl, Nat.le_of_ble_eq_true rfl, rfl⟩ (fun g1 => (t_qst_has X K M r3 a2 (by omega))) (fun v5 => ?_)
      refine z_ifne h120 rfl ?_ ?_
      · refine z_iconst h120 rfl ?_
        exact z_iret h120 rfl (fun _ q => q)
      · refine z_aload h120 rfl rfl (Or.inr rfl) (by omega) ?_
        refine z_iload h120 rfl rfl (Or.inl rfl) ?_
        refine z_iload h120 rfl rfl (Or.inl rfl) ?_
        refine z_cv (a := 68) (b := 0) (l := [309, 3, 7, 3]) (as := [zi a2, zi a3]) (lsE := [zr r3, zi a2, zi a3]) (st' := []) (val := fun _ => none) (mem := fun p => p) h120 rfl ⟨rfl, rfl, rfl, Nat.le_of_ble_eq_true rfl, Nat.le_of_ble_eq_true rfl, rfl⟩ (fun g1 => (t_qst_put X K M r3 a2 a3 (by omega))) (fun M6 => ?_)
        refine z_iconst h120 rfl ?_
        exact z_iret h120 rfl (fun _ q => q)
    · refine z_iconst h120 rfl ?_
      exact z_iret h120 rfl (fun _ q => q)
set_option maxRecDepth 20000 in
theorem t_qbs_read (X : Int × (Int → Int)) (n : Nat) (K : zK) (M : zM) (self a1 a2 a3 : Int) (g_self : 1 ≤ self) : Rz X 121 (0, [zr self, zi a1, zi a2, zi a3, zU, zU], [], M, K) (qbs_read n K M self a1 a2 a3) (fun e P => P (some (zi e.1), e.2, K)) := by
  have h121 : zT 121 = zt121 := rfl
  unfold qbs_read
  refine z_iload h121 rfl rfl (Or.inl rfl) ?_
  refine z_iconst h121 rfl ?_
  refine z_iconst h121 rfl ?_
  refine z_cs (a := 123) (b := 0) (l := [104, 3]) (as := [zi a1, zi 0, zi 3]) (lsE := [zi a1, zi 0, zi 3]) (st' := []) (val := fun p => some (zi p)) (mem := fun _ => M) h121 rfl ⟨rfl, rfl, rfl, Nat.le_of_ble_eq_true rfl, Nat.le_of_ble_eq_true rfl, rfl⟩ (t_qbs_within X K M a1 0 3 ) (fun v1 => ?_)
  refine z_ifeq h121 rfl ?_ ?_
  · refine z_kill h121 rfl (ls' := [zU, zU, zU, zU, zU, zU]) rfl ?_
    refine z_iconst h121 rfl ?_
    exact z_iret h121 rfl (fun _ q => q)
  · refine z_iload h121 rfl rfl (Or.inl rfl) ?_
    refine z_iconst h121 rfl ?_
    refine z_iconst h121 rfl ?_
    refine z_cs (a := 123) (b := 0) (l := [104, 3]) (as := [zi a2, zi 0, zi 2]) (lsE := [zi a2, zi 0, zi 2]) (st' := []) (val := fun p => some (zi p)) (mem := fun _ => M) h121 rfl ⟨rfl, rfl, rfl, Nat.le_of_ble_eq_true rfl, Nat.le_of_ble_eq_true rfl, rfl⟩ (t_qbs_within X K M a2 0 2 ) (fun v2 => ?_)
    refine z_ifne h121 rfl ?_ ?_
    · refine z_kill h121 rfl (ls' := [zU, zU, zU, zU, zU, zU]) rfl ?_
      refine z_iconst h121 rfl ?_
      exact z_iret h121 rfl (fun _ q => q)
    · refine z_aload h121 rfl rfl (Or.inl rfl) (by omega) ?_
      refine z_getr (a := 11) (b := 11) (l := [86, 15]) h121 rfl (fun r3 g_r3 => ?_)
      refine z_iload h121 rfl rfl (Or.inl rfl) ?_
      refine z_aald (a := 104) (b := 0) (l := []) h121 rfl (fun r4 g_r4 => ?_)
      refine z_astore h121 rfl (Or.inr rfl) (by omega) (ls' := [zr self, zi a1, zi a2, zi a3, zr r4, zU]) rfl ?_
      refine z_aload h121 rfl rfl (Or.inr rfl) (by omega) ?_
      refine z_cv (a := 65) (b := 0) (l := [302, 1, 7, 3]) (as := []) (lsE := [zr r4]) (st' := []) (val := fun p => some (zi p)) (mem := fun _ => M) h121 rfl ⟨rfl, rfl, rfl, Nat.le_of_ble_eq_true rfl, Nat.le_of_ble_eq_true rfl, rfl⟩ (fun g1 => (t_qst_isNothing X K M r4 (by omega))) (fun v5 => ?_)
      refine z_ifeq h121 rfl ?_ ?_
      · refine z_aload h121 rfl rfl (Or.inr rfl) (by omega) ?_
        refine z_getf (a := 7) (b := 2) (l := [312, 3]) h121 rfl (fun v6 => ?_)
        refine z_iload h121 rfl rfl (Or.inl rfl) ?_
        refine z_iceq h121 rfl ?_ ?_
        · refine z_aload h121 rfl rfl (Or.inr rfl) (by omega) ?_
          refine z_aload h121 rfl rfl (Or.inl rfl) (by omega) ?_
          refine z_getr (a := 11) (b := 0) (l := [14, 15]) h121 rfl (fun r7 g_r7 => ?_)
          refine z_iload h121 rfl rfl (Or.inl rfl) ?_
          refine z_cv (a := 69) (b := 0) (l := [315, 3, 7, 3]) (as := [zr r7, zi a3]) (lsE := [zr r4, zr r7, zi a3, zU]) (st' := []) (val := fun p => some (zi p)) (mem := fun _ => M) h121 rfl ⟨rfl, rfl, rfl, Nat.le_of_ble_eq_true rfl, Nat.le_of_ble_eq_true rfl, rfl⟩ (fun g1 => (t_qst_refusal X n K M r4 r7 a3 (by omega) (by omega))) (fun v8 => ?_)
          refine z_istore h121 rfl (Or.inr rfl) (ls' := [zr self, zi a1, zi a2, zi a3, zr r4, zi v8]) rfl ?_
          refine z_iload h121 rfl rfl (Or.inr rfl) ?_
          refine z_ifge h121 rfl ?_ ?_
          · refine z_aload h121 rfl rfl (Or.inr rfl) (by omega) ?_
            refine z_aload h121 rfl rfl (Or.inl rfl) (by omega) ?_
            refine z_getr (a := 11) (b := 0) (l := [14, 15]) h121 rfl (fun r9 g_r9 => ?_)
            refine z_iload h121 rfl rfl (Or.inl rfl) ?_
            refine z_cv (a := 70) (b := 0) (l := [319, 3, 7, 3]) (as := [zr r9, zi a3]) (lsE := [zr r4, zr r9, zi a3, zU, zU, zU]) (st' := []) (val := fun p => some (zi p.1)) (mem := fun p => p.2) h121 rfl ⟨rfl, rfl, rfl, Nat.le_of_ble_eq_true rfl, Nat.le_of_ble_eq_true rfl, rfl⟩ (fun g1 => (t_qst_copyTo X n K M r4 r9 a3 (by omega) (by omega))) (fun p10 => ?_)
            refine z_kill h121 rfl (ls' := [zU, zU, zU, zU, zU, zU]) rfl ?_
            exact z_iret h121 rfl (fun _ q => q)
          · refine z_iload h121 rfl rfl (Or.inr rfl) ?_
            refine z_goto h121 rfl ?_
            refine z_kill h121 rfl (ls' := [zU, zU, zU, zU, zU, zU]) rfl ?_
            exact z_iret h121 rfl (fun _ q => q)
        · refine z_iconst h121 rfl ?_
          exact z_iret h121 rfl (fun _ q => q)
      · refine z_iconst h121 rfl ?_
        exact z_iret h121 rfl (fun _ q => q)
set_option maxRecDepth 20000 in
theorem t_qbs_count (X : Int × (Int → Int)) (K : zK) (M : zM) (self a1 : Int) (g_self : 1 ≤ self) : Rz X 122 (0, [zr self, zi a1], [], M, K) (qbs_count K M self a1) (fun e P => P (some (zi e), M, K)) := by
  have h122 : zT 122 = zt122 := rfl
  unfold qbs_count
  refine z_iload h122 rfl rfl (Or.inl rfl) ?_
  refine z_sw h122 rfl (fun hc => ?_) (fun hc => ?_)
  · rw [if_neg (show ¬ zw a1 = 0 by omega), if_neg (show ¬ zw a1 = 1 by omega), if_neg (show ¬ zw a1 = 2 by omega), if_neg (show ¬ zw a1 = 3 by omega), if_neg (show ¬ zw a1 = 4 by omega), if_neg (show ¬ zw a1 = 5 by omega), if_neg (show ¬ zw a1 = 6 by omega), if_neg (show ¬ zw a1 = 7 by omega), if_neg (show ¬ zw a1 = 8 by omega), if_neg (show ¬ zw a1 = 9 by omega), if_neg (show ¬ zw a1 = 10 by omega)]
    refine z_iconst h122 rfl ?_
    exact z_iret h122 rfl (fun _ q => q)
  · rcases (show zw a1 = 0 ∨ zw a1 = 1 ∨ zw a1 = 2 ∨ zw a1 = 3 ∨ zw a1 = 4 ∨ zw a1 = 5 ∨ zw a1 = 6 ∨ zw a1 = 7 ∨ zw a1 = 8 ∨ zw a1 = 9 ∨ zw a1 = 10 by omega) with hq | hq | hq | hq | hq | hq | hq | hq | hq | hq | hq
    · rw [if_pos hq]
      refine ⟨2, by rw [hq]; rfl, ?_⟩
      show Rz X 122 (2, [zr self, zi a1], [], M, K) _ _
      refine z_aload h122 rfl rfl (Or.inl rfl) (by omega) ?_
      refine z_getr (a := 11) (b := 0) (l := [14, 15]) h122 rfl (fun r1 g_r1 => ?_)
      refine z_getf (a := 2) (b := 0) (l := [108, 7]) h122 rfl (fun v2 => ?_)
      exact z_iret h122 rfl (fun _ q => q)
    · rw [if_neg (show ¬ zw a1 = 0 by omega), if_pos hq]
      refine ⟨6, by rw [hq]; rfl, ?_⟩
      show Rz X 122 (6, [zr self, zi a1], [], M, K) _ _
      refine z_aload h122 rfl rfl (Or.inl rfl) (by omega) ?_
      refine z_getr (a := 11) (b := 0) (l := [14, 15]) h122 rfl (fun r3 g_r3 => ?_)
      refine z_getf (a := 2) (b := 1) (l := [111, 7]) h122 rfl (fun v4 => ?_)
      exact z_iret h122 rfl (fun _ q => q)
    · rw [if_neg (show ¬ zw a1 = 0 by omega), if_neg (show ¬ zw a1 = 1 by omega), if_pos hq]
      refine ⟨10, by rw [hq]; rfl, ?_⟩
      show Rz X 122 (10, [zr self, zi a1], [], M, K) _ _
      refine z_aload h122 rfl rfl (Or.inl rfl) (by omega) ?_
      refine z_getr (a := 11) (b := 0) (l := [14, 15]) h122 rfl (fun r5 g_r5 => ?_)
      refine z_getf (a := 2) (b := 2) (l := [120, 7]) h122 rfl (fun v6 => ?_)
      exact z_iret h122 rfl (fun _ q => q)
    · rw [if_neg (show ¬ zw a1 = 0 by omega), if_neg (show ¬ zw a1 = 1 by omega), if_neg (show ¬ zw a1 = 2 by omega), if_pos hq]
      refine ⟨14, by rw [hq]; rfl, ?_⟩
      show Rz X 122 (14, [zr self, zi a1], [], M, K) _ _
      refine z_aload h122 rfl rfl (Or.inl rfl) (by omega) ?_
      refine z_getr (a := 11) (b := 0) (l := [14, 15]) h122 rfl (fun r7 g_r7 => ?_)
      refine z_getf (a := 2) (b := 3) (l := [129, 7]) h122 rfl (fun v8 => ?_)
      exact z_iret h122 rfl (fun _ q => q)
    · rw [if_neg (show ¬ zw a1 = 0 by omega), if_neg (show ¬ zw a1 = 1 by omega), if_neg (show ¬ zw a1 = 2 by omega), if_neg (show ¬ zw a1 = 3 by omega), if_pos hq]
      refine ⟨18, by rw [hq]; rfl, ?_⟩
      show Rz X 122 (18, [zr self, zi a1], [], M, K) _ _
      refine z_aload h122 rfl rfl (Or.inl rfl) (by omega) ?_
      refine z_getr (a := 11) (b := 0) (l := [14, 15]) h122 rfl (fun r9 g_r9 => ?_)
      refine z_getf (a := 2) (b := 4) (l := [123, 7]) h122 rfl (fun v10 => ?_)
      exact z_iret h122 rfl (fun _ q => q)
    · rw [if_neg (show ¬ zw a1 = 0 by omega), if_neg (show ¬ zw a1 = 1 by omega), if_neg (show ¬ zw a1 = 2 by omega), if_neg (show ¬ zw a1 = 3 by omega), if_neg (show ¬ zw a1 = 4 by omega), if_pos hq]
      refine ⟨22, by rw [hq]; rfl, ?_⟩
      show Rz X 122 (22, [zr self, zi a1], [], M, K) _ _
      refine z_aload h122 rfl rfl (Or.inl rfl) (by omega) ?_
      refine z_getr (a := 11) (b := 0) (l := [14, 15]) h122 rfl (fun r11 g_r11 => ?_)
      refine z_getf (a := 2) (b := 5) (l := [126, 7]) h122 rfl (fun v12 => ?_)
      exact z_iret h122 rfl (fun _ q => q)
    · rw [if_neg (show ¬ zw a1 = 0 by omega), if_neg (show ¬ zw a1 = 1 by omega), if_neg (show ¬ zw a1 = 2 by omega), if_neg (show ¬ zw a1 = 3 by omega), if_neg (show ¬ zw a1 = 4 by omega), if_neg (show ¬ zw a1 = 5 by omega), if_pos hq]
      refine ⟨26, by rw [hq]; rfl, ?_⟩
      show Rz X 122 (26, [zr self, zi a1], [], M, K) _ _
      refine z_aload h122 rfl rfl (Or.inl rfl) (by omega) ?_
      refine z_getr (a := 11) (b := 4) (l := [38, 15]) h122 rfl (fun r13 g_r13 => ?_)
      refine z_getf (a := 10) (b := 1) (l := [175, 2]) h122 rfl (fun v14 => ?_)
      exact z_iret h122 rfl (fun _ q => q)
    · rw [if_neg (show ¬ zw a1 = 0 by omega), if_neg (show ¬ zw a1 = 1 by omega), if_neg (show ¬ zw a1 = 2 by omega), if_neg (show ¬ zw a1 = 3 by omega), if_neg (show ¬ zw a1 = 4 by omega), if_neg (show ¬ zw a1 = 5 by omega), if_neg (show ¬ zw a1 = 6 by omega), if_pos hq]
      refine ⟨30, by rw [hq]; rfl, ?_⟩
      show Rz X 122 (30, [zr self, zi a1], [], M, K) _ _
      refine z_aload h122 rfl rfl (Or.inl rfl) (by omega) ?_
      refine z_getf (a := 11) (b := 14) (l := [100, 15]) h122 rfl (fun v15 => ?_)
      exact z_iret h122 rfl (fun _ q => q)
    · rw [if_neg (show ¬ zw a1 = 0 by omega), if_neg (show ¬ zw a1 = 1 by omega), if_neg (show ¬ zw a1 = 2 by omega), if_neg (show ¬ zw a1 = 3 by omega), if_neg (show ¬ zw a1 = 4 by omega), if_neg (show ¬ zw a1 = 5 by omega), if_neg (show ¬ zw a1 = 6 by omega), if_neg (show ¬ zw a1 = 7 by omega), if_pos hq]
      refine ⟨33, by rw [hq]; rfl, ?_⟩
      show Rz X 122 (33, [zr self, zi a1], [], M, K) _ _
      refine z_aload h122 rfl rfl (Or.inl rfl) (by omega) ?_
      refine z_getr (a := 11) (b := 12) (l := [94, 15]) h122 rfl (fun r16 g_r16 => ?_)
      refine z_getf (a := 3) (b := 6) (l := [262, 7]) h122 rfl (fun v17 => ?_)
      exact z_iret h122 rfl (fun _ q => q)
    · rw [if_neg (show ¬ zw a1 = 0 by omega), if_neg (show ¬ zw a1 = 1 by omega), if_neg (show ¬ zw a1 = 2 by omega), if_neg (show ¬ zw a1 = 3 by omega), if_neg (show ¬ zw a1 = 4 by omega), if_neg (show ¬ zw a1 = 5 by omega), if_neg (show ¬ zw a1 = 6 by omega), if_neg (show ¬ zw a1 = 7 by omega), if_neg (show ¬ zw a1 = 8 by omega), if_pos hq]
      refine ⟨37, by rw [hq]; rfl, ?_⟩
      show Rz X 122 (37, [zr self, zi a1], [], M, K) _ _
      refine z_aload h122 rfl rfl (Or.inl rfl) (by omega) ?_
      refine z_getr (a := 11) (b := 9) (l := [73, 15]) h122 rfl (fun r18 g_r18 => ?_)
      refine z_getf (a := 5) (b := 2) (l := [252, 9]) h122 rfl (fun v19 => ?_)
      exact z_iret h122 rfl (fun _ q => q)
    · rw [if_neg (show ¬ zw a1 = 0 by omega), if_neg (show ¬ zw a1 = 1 by omega), if_neg (show ¬ zw a1 = 2 by omega), if_neg (show ¬ zw a1 = 3 by omega), if_neg (show ¬ zw a1 = 4 by omega), if_neg (show ¬ zw a1 = 5 by omega), if_neg (show ¬ zw a1 = 6 by omega), if_neg (show ¬ zw a1 = 7 by omega), if_neg (show ¬ zw a1 = 8 by omega), if_neg (show ¬ zw a1 = 9 by omega), if_pos hq]
      refine ⟨41, by rw [hq]; rfl, ?_⟩
      show Rz X 122 (41, [zr self, zi a1], [], M, K) _ _
      refine z_aload h122 rfl rfl (Or.inl rfl) (by omega) ?_
      refine z_getr (a := 11) (b := 11) (l := [86, 15]) h122 rfl (fun r20 g_r20 => ?_)
      refine z_iconst h122 rfl ?_
      refine z_aald (a := 104) (b := 0) (l := []) h122 rfl (fun r21 g_r21 => ?_)
      refine z_cv (a := 65) (b := 0) (l := [302, 1, 7, 3]) (as := []) (lsE := [zr r21]) (st' := []) (val := fun p => some (zi p)) (mem := fun _ => M) h122 rfl ⟨rfl, rfl, rfl, Nat.le_of_ble_eq_true rfl, Nat.le_of_ble_eq_true rfl, rfl⟩ (fun g1 => (t_qst_isNothing X K M r21 (by omega))) (fun v22 => ?_)
      refine z_ifeq h122 rfl ?_ ?_
      · refine z_aload h122 rfl rfl (Or.inl rfl) (by omega) ?_
        refine z_getr (a := 11) (b := 11) (l := [86, 15]) h122 rfl (fun r23 g_r23 => ?_)
        refine z_iconst h122 rfl ?_
        refine z_aald (a := 104) (b := 0) (l := []) h122 rfl (fun r24 g_r24 => ?_)
        refine z_getf (a := 7) (b := 1) (l := [321, 3]) h122 rfl (fun v25 => ?_)
        refine z_kill h122 rfl (ls' := [zU, zU]) rfl ?_
        exact z_iret h122 rfl (fun _ q => q)
      · refine z_iconst h122 rfl ?_
        refine z_goto h122 rfl ?_
        refine z_kill h122 rfl (ls' := [zU, zU]) rfl ?_
        exact z_iret h122 rfl (fun _ q => q)
set_option maxRecDepth 20000 in
theorem t_qmd_in (X : Int × (Int → Int)) (K : zK) (M : zM) (a0 a2 a4 : Int) : Rz X 129 (0, [zl a0, zU, zl a2, zU, zl a4, zU], [], M, K) (qmd_in K M a0 a2 a4) (fun e P => P (some (zi e), M, K)) := by
  have h129 : zT 129 = zt129 := rfl
  unfold qmd_in
  refine z_lload h129 rfl rfl (Or.inl rfl) ?_
  refine z_lload h129 rfl rfl (Or.inl rfl) ?_
  refine z_lcmp h129 rfl ?_
  refine z_iflt h129 rfl ?_ ?_
  · refine z_kill h129 rfl (ls' := [zU, zU, zU, zU, zU, zU]) rfl ?_
    refine z_iconst h129 rfl ?_
    refine z_kill h129 rfl (ls' := [zU, zU, zU, zU, zU, zU]) rfl ?_
    exact z_zret h129 rfl (Or.inl rfl) (fun _ q => q)
  · refine z_lload h129 rfl rfl (Or.inl rfl) ?_
    refine z_lload h129 rfl rfl (Or.inr rfl) ?_
    refine z_lcmp h129 rfl ?_
    refine z_ifgt h129 rfl ?_ ?_
    · refine z_kill h129 rfl (ls' := [zU, zU, zU, zU, zU, zU]) rfl ?_
      refine z_iconst h129 rfl ?_
      refine z_kill h129 rfl (ls' := [zU, zU, zU, zU, zU, zU]) rfl ?_
      exact z_zret h129 rfl (Or.inl rfl) (fun _ q => q)
    · refine z_iconst h129 rfl ?_
      refine z_goto h129 rfl ?_
      refine z_kill h129 rfl (ls' := [zU, zU, zU, zU, zU, zU]) rfl ?_
      exact z_zret h129 rfl (Or.inr rfl) (fun _ q => q)
set_option maxRecDepth 20000 in
theorem t_qmd_forgetsTold (X : Int × (Int → Int)) (n : Nat) (K : zK) (M : zM) (self : Int) (g_self : 1 ≤ self) : Rz X 130 (0, [zr self, zU], [], M, K) (qmd_forgetsTold n K M self) (fun e P => P (none, e, K)) := by
  have h130 : zT 130 = zt130 := rfl
  unfold qmd_forgetsTold
  refine z_iconst h130 rfl ?_
  refine z_istore h130 rfl (Or.inl rfl) (ls' := [zr self, zi 0]) rfl ?_
  refine Rz.wh (hd := fun s1 => (2, [zr self, zi s1.1], [], s1.2, K)) (fun s1 => ?_) n (0, M)
  (try dsimp only)
  refine z_iload h130 rfl rfl (Or.inl rfl) ?_
  refine z_iconst h130 rfl ?_
  refine z_icge h130 rfl ?_ ?_
  · exact z_vret h130 rfl (fun _ q => q)
  · refine z_aload h130 rfl rfl (Or.inl rfl) (by omega) ?_
    refine z_getr (a := 12) (b := 6) (l := [22, 49]) h130 rfl (fun r2 g_r2 => ?_)
    refine z_iload h130 rfl rfl (Or.inl rfl) ?_
    refine z_iconst h130 rfl ?_
    refine z_iast h130 rfl (fun M3 => ?_)
    refine z_iinc h130 rfl rfl (ls' := [zr self, zi (s1.1 + 1)]) rfl ?_
    refine z_goto h130 rfl ?_
    exact Rz.here fun _ q => q
set_option maxRecDepth 20000 in
theorem t_qmd_table (X : Int × (Int → Int)) (n : Nat) (K : zK) (M : zM) (self a1 a2 : Int) (g_self : 1 ≤ self) : Rz X 131 (0, [zr self, zi a1, zi a2], [], M, K) (qmd_table n K M self a1 a2) (fun e P => P (some (zi e.1), e.2, K)) := by
  have h131 : zT 131 = zt131 := rfl
  unfold qmd_table
  refine z_iload h131 rfl rfl (Or.inl rfl) ?_
  refine z_ci2l h131 rfl ?_
  refine z_lconst h131 rfl ?_
  refine z_lconst h131 rfl ?_
  refine z_cs (a := 129) (b := 0) (l := [110, 3]) (as := [zl (zw a1), zl 1, zl 16]) (lsE := [zl (zw a1), zU, zl 1, zU, zl 16, zU]) (st' := []) (val := fun p => some (zi p)) (mem := fun _ => M) h131 rfl ⟨rfl, rfl, rfl, Nat.le_of_ble_eq_true rfl, Nat.le_of_ble_eq_true rfl, rfl⟩ (t_qmd_in X K M (zw a1) 1 16 ) (fun v1 => ?_)
  refine z_ifeq h131 rfl ?_ ?_
  · refine z_kill h131 rfl (ls' := [zU, zU, zU]) rfl ?_
    refine z_iconst h131 rfl ?_
    exact z_iret h131 rfl (fun _ q => q)
  · refine z_iload h131 rfl rfl (Or.inl rfl) ?_
    refine z_ci2l h131 rfl ?_
    refine z_lconst h131 rfl ?_
    refine z_lconst h131 rfl ?_
    refine z_cs (a := 129) (b := 0) (l := [110, 3]) (as := [zl (zw a2), zl 1, zl 16]) (lsE := [zl (zw a2), zU, zl 1, zU, zl 16, zU]) (st' := []) (val := fun p => some (zi p)) (mem := fun _ => M) h131 rfl ⟨rfl, rfl, rfl, Nat.le_of_ble_eq_true rfl, Nat.le_of_ble_eq_true rfl, rfl⟩ (t_qmd_in X K M (zw a2) 1 16 ) (fun v2 => ?_)
    refine z_ifne h131 rfl ?_ ?_
    · refine z_kill h131 rfl (ls' := [zU, zU, zU]) rfl ?_
      refine z_iconst h131 rfl ?_
      exact z_iret h131 rfl (fun _ q => q)
    · refine z_aload h131 rfl rfl (Or.inl rfl) (by omega) ?_
      refine z_iload h131 rfl rfl (Or.inl rfl) ?_
      refine z_putf (a := 12) (b := 0) (l := [7, 49]) h131 rfl (fun M3 => ?_)
      refine z_aload h131 rfl rfl (Or.inl rfl) (by omega) ?_
      refine z_iload h131 rfl rfl (Or.inl rfl) ?_
      refine z_putf (a := 12) (b := 1) (l := [13, 49]) h131 rfl (fun M4 => ?_)
      refine z_aload h131 rfl rfl (Or.inl rfl) (by omega) ?_
      refine z_cv (a := 130) (b := 0) (l := [114, 1, 12, 49]) (as := []) (lsE := [zr self, zU]) (st' := []) (val := fun _ => none) (mem := fun p => p) h131 rfl ⟨rfl, rfl, rfl, Nat.le_of_ble_eq_true rfl, Nat.le_of_ble_eq_true rfl, rfl⟩ (fun g1 => (t_qmd_forgetsTold X n K M4 self (by omega))) (fun M5 => ?_)
      refine z_iconst h131 rfl ?_
      exact z_iret h131 rfl (fun _ q => q)
set_option maxRecDepth 20000 in
theorem t_qmd_banks (X : Int × (Int → Int)) (n : Nat) (K : zK) (M : zM) (self a1 : Int) (g_self : 1 ≤ self) : Rz X 132 (0, [zr self, zi a1, zU], [], M, K) (qmd_banks n K M self a1) (fun e P => P (some (zi e.1), e.2, K)) := by
  have h132 : zT 132 = zt132 := rfl
  unfold qmd_banks
  refine z_iload h132 rfl rfl (Or.inl rfl) ?_
  refine z_ci2l h132 rfl ?_
  refine z_lconst h132 rfl ?_
  refine z_lconst h132 rfl ?_
  refine z_cs (a := 129) (b := 0) (l := [110, 3]) (as := [zl (zw a1), zl 1, zl 17]) (lsE := [zl (zw a1), zU, zl 1, zU, zl 17, zU]) (st' := []) (val := fun p => some (zi p)) (mem := fun _ => M) h132 rfl ⟨rfl, rfl, rfl, Nat.le_of_ble_eq_true rfl, Nat.le_of_ble_eq_true rfl, rfl⟩ (t_qmd_in X K M (zw a1) 1 17 ) (fun v1 => ?_)
  refine z_ifne h132 rfl ?_ ?_
  · refine z_iconst h132 rfl ?_
    exact z_iret h132 rfl (fun _ q => q)
  · refine z_aload h132 rfl rfl (Or.inl rfl) (by omega) ?_
    refine z_getf (a := 12) (b := 2) (l := [16, 49]) h132 rfl (fun v2 => ?_)
    refine z_istore h132 rfl (Or.inl rfl) (ls' := [zr self, zi a1, zi v2]) rfl ?_
    refine z_aload h132 rfl rfl (Or.inl rfl) (by omega) ?_
    refine z_iload h132 rfl rfl (Or.inl rfl) ?_
    refine z_putf (a := 12) (b := 2) (l := [16, 49]) h132 rfl (fun M3 => ?_)
    refine z_aload h132 rfl rfl (Or.inl rfl) (by omega) ?_
    refine z_cv (a := 130) (b := 0) (l := [114, 1, 12, 49]) (as := []) (lsE := [zr self, zU]) (st' := []) (val := fun _ => none) (mem := fun p => p) h132 rfl ⟨rfl, rfl, rfl, Nat.le_of_ble_eq_true rfl, Nat.le_of_ble_eq_true rfl, rfl⟩ (fun g1 => (t_qmd_forgetsTold X n K M3 self (by omega))) (fun M4 => ?_)
    refine z_iload h132 rfl rfl (Or.inl rfl) ?_
    exact z_iret h132 rfl (fun _ q => q)
set_option maxRecDepth 20000 in
theorem t_qmd_law (X : Int × (Int → Int)) (K : zK) (M : zM) (self a1 a2 a3 : Int) (g_self : 1 ≤ self) : Rz X 133 (0, [zr self, zi a1, zi a2, zi a3, zU], [], M, K) (qmd_law K M self a1 a2 a3) (fun e P => P (some (zi e.1), e.2, K)) := by
  have h133 : zT 133 = zt133 := rfl
  unfold qmd_law
  refine z_iload h133 rfl rfl (Or.inl rfl) ?_
  refine z_ci2l h133 rfl ?_
  refine z_lconst h133 rfl ?_
  refine z_lconst h133 rfl ?_
  refine z_cs (a := 129) (b := 0) (l := [110, 3]) (as := [zl (zw a1), zl 0, zl 2]) (lsE := [zl (zw a1), zU, zl 0, zU, zl 2, zU]) (st' := []) (val := fun p => some (zi p)) (mem := fun _ => M) h133 rfl ⟨rfl, rfl, rfl, Nat.le_of_ble_eq_true rfl, Nat.le_of_ble_eq_true rfl, rfl⟩ (t_qmd_in X K M (zw a1) 0 2 ) (fun v1 => ?_)
  refine z_ifeq h133 rfl ?_ ?_
  · refine z_kill h133 rfl (ls' := [zU, zU, zU, zU, zU]) rfl ?_
    refine z_iconst h133 rfl ?_
    exact z_iret h133 rfl (fun _ q => q)
  · refine z_iload h133 rfl rfl (Or.inl rfl) ?_
    refine z_iconst h133 rfl ?_
    refine Rz.esc (t := fun j2 => (23, [zr self, zi a1, zi a2, zi a3, zU], [], M, K)) ?_ (fun j2 => ?_)
    · refine z_icge h133 rfl ?_ ?_
      · refine z_kill h133 rfl (ls' := [zr self, zi a1, zi a2, zi a3, zU]) rfl ?_
        exact Rz.here fun _ q => q
      · refine z_iload h133 rfl rfl (Or.inl rfl) ?_
        refine z_ci2l h133 rfl ?_
        refine z_lconst h133 rfl ?_
        refine z_lconst h133 rfl ?_
        refine z_cs (a := 129) (b := 0) (l := [110, 3]) (as := [zl (zw a2), zl 0, zl 16]) (lsE := [zl (zw a2), zU, zl 0, zU, zl 16, zU]) (st' := []) (val := fun p => some (zi p)) (mem := fun _ => M) h133 rfl ⟨rfl, rfl, rfl, Nat.le_of_ble_eq_true rfl, Nat.le_of_ble_eq_true rfl, rfl⟩ (t_qmd_in X K M (zw a2) 0 16 ) (fun v11 => ?_)
        refine z_ifeq h133 rfl ?_ ?_
        · refine z_kill h133 rfl (ls' := [zU, zU, zU, zU, zU]) rfl ?_
          refine z_iconst h133 rfl ?_
          exact z_iret h133 rfl (fun _ q => q)
        · refine z_iload h133 rfl rfl (Or.inl rfl) ?_
          refine z_ci2l h133 rfl ?_
          refine z_lconst h133 rfl ?_
          refine z_lconst h133 rfl ?_
          refine z_cs (a := 129) (b := 0) (l := [110, 3]) (as := [zl (zw a3), zl 0, zl 16]) (lsE := [zl (zw a3), zU, zl 0, zU, zl 16, zU]) (st' := []) (val := fun p => some (zi p)) (mem := fun _ => M) h133 rfl ⟨rfl, rfl, rfl, Nat.le_of_ble_eq_true rfl, Nat.le_of_ble_eq_true rfl, rfl⟩ (t_qmd_in X K M (zw a3) 0 16 ) (fun v12 => ?_)
          refine z_ifne h133 rfl ?_ ?_
          · refine z_kill h133 rfl (ls' := [zU, zU, zU, zU, zU]) rfl ?_
            refine z_iconst h133 rfl ?_
            exact z_iret h133 rfl (fun _ q => q)
          · refine z_kill h133 rfl (ls' := [zr self, zi a1, zi a2, zi a3, zU]) rfl ?_
            exact Rz.here fun _ q => q
    · (try dsimp only)
      refine z_aload h133 rfl rfl (Or.inl rfl) (by omega) ?_
      refine z_getf (a := 12) (b := 3) (l := [121, 49]) h133 rfl (fun v3 => ?_)
      refine z_istore h133 rfl (Or.inr rfl) (ls' := [zr self, zi a1, zi a2, zi a3, zi v3]) rfl ?_
      refine z_aload h133 rfl rfl (Or.inl rfl) (by omega) ?_
      refine z_iload h133 rfl rfl (Or.inl rfl) ?_
      refine z_putf (a := 12) (b := 3) (l := [121, 49]) h133 rfl (fun M4 => ?_)
      refine z_aload h133 rfl rfl (Or.inl rfl) (by omega) ?_
      refine z_iload h133 rfl rfl (Or.inl rfl) ?_
      refine z_iconst h133 rfl ?_
      refine Rz.bind (t := fun j5 => (37, [zr self, zi a1, zU, zi a3, zi v3], [zi j5, zr self], M4, K)) ?_ (fun j5 => ?_)
      · refine z_icge h133 rfl ?_ ?_
        · refine z_aload h133 rfl rfl (Or.inl rfl) (by omega) ?_
          refine z_getf (a := 12) (b := 4) (l := [124, 49]) h133 rfl (fun v10 => ?_)
          refine z_kill h133 rfl (ls' := [zr self, zi a1, zU, zi a3, zi v3]) rfl ?_
          exact Rz.here fun _ q => q
        · refine z_iload h133 rfl rfl (Or.inl rfl) ?_
          refine z_goto h133 rfl ?_
          refine z_kill h133 rfl (ls' := [zr self, zi a1, zU, zi a3, zi v3]) rfl ?_
          exact Rz.here fun _ q => q
      · (try dsimp only)
        refine z_putf (a := 12) (b := 4) (l := [124, 49]) h133 rfl (fun M6 => ?_)
        refine z_aload h133 rfl rfl (Or.inl rfl) (by omega) ?_
        refine z_iload h133 rfl rfl (Or.inl rfl) ?_
        refine z_iconst h133 rfl ?_
        refine Rz.bind (t := fun j7 => (46, [zU, zU, zU, zU, zi v3], [zi j7, zr self], M6, K)) ?_ (fun j7 => ?_)
        · refine z_icge h133 rfl ?_ ?_
          · refine z_aload h133 rfl rfl (Or.inl rfl) (by omega) ?_
            refine z_getf (a := 12) (b := 5) (l := [19, 49]) h133 rfl (fun v9 => ?_)
            refine z_kill h133 rfl (ls' := [zU, zU, zU, zU, zi v3]) rfl ?_
            exact Rz.here fun _ q => q
          · refine z_iload h133 rfl rfl (Or.inl rfl) ?_
            refine z_goto h133 rfl ?_
            refine z_kill h133 rfl (ls' := [zU, zU, zU, zU, zi v3]) rfl ?_
            exact Rz.here fun _ q => q
        · (try dsimp only)
          refine z_putf (a := 12) (b := 5) (l := [19, 49]) h133 rfl (fun M8 => ?_)
          refine z_iload h133 rfl rfl (Or.inr rfl) ?_
          exact z_iret h133 rfl (fun _ q => q)
set_option maxRecDepth 20000 in
theorem t_qmd_isCell (X : Int × (Int → Int)) (K : zK) (M : zM) (self a1 a2 : Int) (g_self : 1 ≤ self) : Rz X 134 (0, [zr self, zi a1, zi a2], [], M, K) (qmd_isCell K M self a1 a2) (fun e P => P (some (zi e), M, K)) := by
  have h134 : zT 134 = zt134 := rfl
  unfold qmd_isCell
  refine z_iload h134 rfl rfl (Or.inl rfl) ?_
  refine z_ci2l h134 rfl ?_
  refine z_lconst h134 rfl ?_
  refine z_aload h134 rfl rfl (Or.inl rfl) (by omega) ?_
  refine z_getf (a := 12) (b := 0) (l := [7, 49]) h134 rfl (fun v1 => ?_)
  refine z_iconst h134 rfl ?_
  refine z_isub h134 rfl ?_
  refine z_ci2l h134 rfl ?_
  refine z_cs (a := 129) (b := 0) (l := [110, 3]) (as := [zl (zw a1), zl 0, zl (zw (v1 - 1))]) (lsE := [zl (zw a1), zU, zl 0, zU, zl (zw (v1 - 1)), zU]) (st' := []) (val := fun p => some (zi p)) (mem := fun _ => M) h134 rfl ⟨rfl, rfl, rfl, Nat.le_of_ble_eq_true rfl, Nat.le_of_ble_eq_true rfl, rfl⟩ (t_qmd_in X K M (zw a1) 0 (zw (v1 - 1)) ) (fun v2 => ?_)
  refine z_ifeq h134 rfl ?_ ?_
  · refine z_kill h134 rfl (ls' := [zU, zU, zU]) rfl ?_
    refine z_iconst h134 rfl ?_
    refine z_kill h134 rfl (ls' := [zU, zU, zU]) rfl ?_
    exact z_zret h134 rfl (Or.inl rfl) (fun _ q => q)
  · refine z_iload h134 rfl rfl (Or.inl rfl) ?_
    refine z_ci2l h134 rfl ?_
    refine z_lconst h134 rfl ?_
    refine z_aload h134 rfl rfl (Or.inl rfl) (by omega) ?_
    refine z_getf (a := 12) (b := 1) (l := [13, 49]) h134 rfl (fun v3 => ?_)
    refine z_iconst h134 rfl ?_
    refine z_isub h134 rfl ?_
    refine z_ci2l h134 rfl ?_
    refine z_cs (a := 129) (b := 0) (l := [110, 3]) (as := [zl (zw a2), zl 0, zl (zw (v3 - 1))]) (lsE := [zl (zw a2), zU, zl 0, zU, zl (zw (v3 - 1)), zU]) (st' := []) (val := fun p => some (zi p)) (mem := fun _ => M) h134 rfl ⟨rfl, rfl, rfl, Nat.le_of_ble_eq_true rfl, Nat.le_of_ble_eq_true rfl, rfl⟩ (t_qmd_in X K M (zw a2) 0 (zw (v3 - 1)) ) (fun v4 => ?_)
    refine z_ifeq h134 rfl ?_ ?_
    · refine z_kill h134 rfl (ls' := [zU, zU, zU]) rfl ?_
      refine z_iconst h134 rfl ?_
      refine z_kill h134 rfl (ls' := [zU, zU, zU]) rfl ?_
      exact z_zret h134 rfl (Or.inl rfl) (fun _ q => q)
    · refine z_iconst h134 rfl ?_
      refine z_goto h134 rfl ?_
      refine z_kill h134 rfl (ls' := [zU, zU, zU]) rfl ?_
      exact z_zret h134 rfl (Or.inr rfl) (fun _ q => q)
set_option maxRecDepth 20000 in
theorem t_qmd_lay (X : Int × (Int → Int)) (K : zK) (M : zM) (self a1 a2 a3 : Int) (g_self : 1 ≤ self) : Rz X 135 (0, [zr self, zi a1, zi a2, zi a3, zU], [], M, K) (qmd_lay K M self a1 a2 a3) (fun e P => P (some (zi e.1), e.2, K)) := by
  have h135 : zT 135 = zt135 := rfl
  unfold qmd_lay
  refine z_aload h135 rfl rfl (Or.inl rfl) (by omega) ?_
  refine z_iload h135 rfl rfl (Or.inl rfl) ?_
  refine z_iload h135 rfl rfl (Or.inl rfl) ?_
  refine z_cv (a := 134) (b := 0) (l := [127, 3, 12, 49]) (as := [zi a1, zi a2]) (lsE := [zr self, zi a1, zi a2]) (st' := []) (val := fun p => some (zi p)) (mem := fun _ => M) h135 rfl ⟨rfl, rfl, rfl, Nat.le_of_ble_eq_true rfl, Nat.le_of_ble_eq_true rfl, rfl⟩ (fun g1 => (t_qmd_isCell X K M self a1 a2 (by omega))) (fun v1 => ?_)
  refine z_ifeq h135 rfl ?_ ?_
  · refine z_kill h135 rfl (ls' := [zU, zU, zU, zU, zU]) rfl ?_
    refine z_iconst h135 rfl ?_
    exact z_iret h135 rfl (fun _ q => q)
  · refine z_iload h135 rfl rfl (Or.inl rfl) ?_
    refine z_ci2l h135 rfl ?_
    refine z_lconst h135 rfl ?_
    refine z_aload h135 rfl rfl (Or.inl rfl) (by omega) ?_
    refine z_getf (a := 12) (b := 2) (l := [16, 49]) h135 rfl (fun v2 => ?_)
    refine z_iconst h135 rfl ?_
    refine z_isub h135 rfl ?_
    refine z_ci2l h135 rfl ?_
    refine z_cs (a := 129) (b := 0) (l := [110, 3]) (as := [zl (zw a3), zl 0, zl (zw (v2 - 1))]) (lsE := [zl (zw a3), zU, zl 0, zU, zl (zw (v2 - 1)), zU]) (st' := []) (val := fun p => some (zi p)) (mem := fun _ => M) h135 rfl ⟨rfl, rfl, rfl, Nat.le_of_ble_eq_true rfl, Nat.le_of_ble_eq_true rfl, rfl⟩ (t_qmd_in X K M (zw a3) 0 (zw (v2 - 1)) ) (fun v3 => ?_)
    refine z_ifne h135 rfl ?_ ?_
    · refine z_kill h135 rfl (ls' := [zU, zU, zU, zU, zU]) rfl ?_
      refine z_iconst h135 rfl ?_
      exact z_iret h135 rfl (fun _ q => q)
    · refine z_aload h135 rfl rfl (Or.inl rfl) (by omega) ?_
      refine z_getr (a := 12) (b := 6) (l := [22, 49]) h135 rfl (fun r4 g_r4 => ?_)
      refine z_iconst h135 rfl ?_
      refine z_iload h135 rfl rfl (Or.inl rfl) ?_
      refine z_imul h135 rfl ?_
      refine z_iload h135 rfl rfl (Or.inl rfl) ?_
      refine z_iadd h135 rfl ?_
      refine z_iald h135 rfl (fun v5 => ?_)
      refine z_istore h135 rfl (Or.inr rfl) (ls' := [zr self, zi a1, zi a2, zi a3, zi v5]) rfl ?_
      refine z_aload h135 rfl rfl (Or.inl rfl) (by omega) ?_
      refine z_getr (a := 12) (b := 6) (l := [22, 49]) h135 rfl (fun r6 g_r6 => ?_)
      refine z_iconst h135 rfl ?_
      refine z_iload h135 rfl rfl (Or.inl rfl) ?_
      refine z_imul h135 rfl ?_
      refine z_iload h135 rfl rfl (Or.inl rfl) ?_
      refine z_iadd h135 rfl ?_
      refine z_iload h135 rfl rfl (Or.inl rfl) ?_
      refine z_iast h135 rfl (fun M7 => ?_)
      refine z_iload h135 rfl rfl (Or.inr rfl) ?_
      exact z_iret h135 rfl (fun _ q => q)
set_option maxRecDepth 20000 in
theorem t_qmd_lays (X : Int × (Int → Int)) (n : Nat) (K : zK) (M : zM) (self a1 a2 a3 a4 : Int) (g_self : 1 ≤ self) : Rz X 136 (0, [zr self, zi a1, zi a2, zi a3, zi a4, zU, zU], [], M, K) (qmd_lays n K M self a1 a2 a3 a4) (fun e P => P (none, e, K)) := by
  have h136 : zT 136 = zt136 := rfl
  unfold qmd_lays
  refine z_iconst h136 rfl ?_
  refine z_istore h136 rfl (Or.inr rfl) (ls' := [zr self, zi a1, zi a2, zi a3, zi a4, zi 0, zU]) rfl ?_
  refine z_kill h136 rfl (ls' := [zr self, zi a1, zi a2, zi a3, zi a4, zi 0, zU]) rfl ?_
  refine Rz.wh (hd := fun s1 => (2, [zr self, zi a1, zi a2, zi a3, zi a4, zi s1.1, zU], [], s1.2, K)) (fun s1 => ?_) n (0, M)
  (try dsimp only)
  refine z_iload h136 rfl rfl (Or.inr rfl) ?_
  refine z_aload h136 rfl rfl (Or.inl rfl) (by omega) ?_
  refine z_getf (a := 12) (b := 0) (l := [7, 49]) h136 rfl (fun v2 => ?_)
  refine z_icge h136 rfl ?_ ?_
  · exact z_vret h136 rfl (fun _ q => q)
  · refine z_iconst h136 rfl ?_
    refine z_istore h136 rfl (Or.inr rfl) (ls' := [zr self, zi a1, zi a2, zi a3, zi a4, zi s1.1, zi 0]) rfl ?_
    refine Rz.bind (t := fun e4 => (55, [zr self, zi a1, zi a2, zi a3, zi a4, zi s1.1, zi e4.1], [], e4.2, K)) ?_ (fun e4 => ?_)
    · refine Rz.wh (hd := fun s3 => (8, [zr self, zi a1, zi a2, zi a3, zi a4, zi s1.1, zi s3.1], [], s3.2, K)) (fun s3 => ?_) n (0, s1.2)
      (try dsimp only)
      refine z_iload h136 rfl rfl (Or.inr rfl) ?_
      refine z_aload h136 rfl rfl (Or.inl rfl) (by omega) ?_
      refine z_getf (a := 12) (b := 1) (l := [13, 49]) h136 rfl (fun v5 => ?_)
      refine z_icge h136 rfl ?_ ?_
      · exact Rz.here fun _ q => q
      · refine z_aload h136 rfl rfl (Or.inl rfl) (by omega) ?_
        refine z_getr (a := 12) (b := 7) (l := [26, 49]) h136 rfl (fun r6 g_r6 => ?_)
        refine z_iconst h136 rfl ?_
        refine z_iload h136 rfl rfl (Or.inr rfl) ?_
        refine z_imul h136 rfl ?_
        refine z_iload h136 rfl rfl (Or.inr rfl) ?_
        refine z_iadd h136 rfl ?_
        refine z_iload h136 rfl rfl (Or.inl rfl) ?_
        refine Rz.bind (t := fun j7 => (52, [zr self, zi a1, zi a2, zi a3, zi a4, zi s1.1, zi s3.1], [zi j7, zi ((16 * s1.1) + s3.1), zr r6], s3.2, K)) ?_ (fun j7 => ?_)
        · refine z_ifne h136 rfl ?_ ?_
          · refine z_iload h136 rfl rfl (Or.inl rfl) ?_
            refine z_iload h136 rfl rfl (Or.inr rfl) ?_
            refine z_imul h136 rfl ?_
            refine z_iload h136 rfl rfl (Or.inl rfl) ?_
            refine z_iload h136 rfl rfl (Or.inr rfl) ?_
            refine z_imul h136 rfl ?_
            refine z_iadd h136 rfl ?_
            refine z_iload h136 rfl rfl (Or.inr rfl) ?_
            refine z_rem h136 rfl (fun v9 => ?_)
            refine z_goto h136 rfl ?_
            exact Rz.here fun _ q => q
          · refine z_iload h136 rfl rfl (Or.inl rfl) ?_
            refine z_iconst h136 rfl ?_
            refine z_icne h136 rfl ?_ ?_
            · refine z_iload h136 rfl rfl (Or.inl rfl) ?_
              refine z_iload h136 rfl rfl (Or.inr rfl) ?_
              refine z_imul h136 rfl ?_
              refine z_iload h136 rfl rfl (Or.inl rfl) ?_
              refine z_iload h136 rfl rfl (Or.inr rfl) ?_
              refine z_imul h136 rfl ?_
              refine z_ixor h136 rfl ?_
              refine z_iload h136 rfl rfl (Or.inr rfl) ?_
              refine z_rem h136 rfl (fun v10 => ?_)
              refine z_goto h136 rfl ?_
              exact Rz.here fun _ q => q
            · refine z_aload h136 rfl rfl (Or.inl rfl) (by omega) ?_
              refine z_getr (a := 12) (b := 6) (l := [22, 49]) h136 rfl (fun r11 g_r11 => ?_)
              refine z_iconst h136 rfl ?_
              refine z_iload h136 rfl rfl (Or.inr rfl) ?_
              refine z_imul h136 rfl ?_
              refine z_iload h136 rfl rfl (Or.inr rfl) ?_
              refine z_iadd h136 rfl ?_
              refine z_iald h136 rfl (fun v12 => ?_)
              exact Rz.here fun _ q => q
        · (try dsimp only)
          refine z_iast h136 rfl (fun M8 => ?_)
          refine z_iinc h136 rfl rfl (ls' := [zr self, zi a1, zi a2, zi a3, zi a4, zi s1.1, zi (s3.1 + 1)]) rfl ?_
          refine z_goto h136 rfl ?_
          exact Rz.here fun _ q => q
    · (try dsimp only)
      refine z_iinc h136 rfl rfl (ls' := [zr self, zi a1, zi a2, zi a3, zi a4, zi (s1.1 + 1), zi e4.1]) rfl ?_
      refine z_goto h136 rfl ?_
      refine z_kill h136 rfl (ls' := [zr self, zi a1, zi a2, zi a3, zi a4, zi (s1.1 + 1), zU]) rfl ?_
      exact Rz.here fun _ q => q
set_option maxRecDepth 20000 in
theorem t_qmd_laysNow (X : Int × (Int → Int)) (n : Nat) (K : zK) (M : zM) (self : Int) (g_self : 1 ≤ self) : Rz X 137 (0, [zr self], [], M, K) (qmd_laysNow n K M self) (fun e P => P (none, e, K)) := by
  have h137 : zT 137 = zt137 := rfl
  unfold qmd_laysNow
  refine z_aload h137 rfl rfl (Or.inl rfl) (by omega) ?_
  refine z_aload h137 rfl rfl (Or.inl rfl) (by omega) ?_
  refine z_getf (a := 12) (b := 3) (l := [121, 49]) h137 rfl (fun v1 => ?_)
  refine z_aload h137 rfl rfl (Or.inl rfl) (by omega) ?_
  refine z_getf (a := 12) (b := 4) (l := [124, 49]) h137 rfl (fun v2 => ?_)
  refine z_aload h137 rfl rfl (Or.inl rfl) (by omega) ?_
  refine z_getf (a := 12) (b := 5) (l := [19, 49]) h137 rfl (fun v3 => ?_)
  refine z_aload h137 rfl rfl (Or.inl rfl) (by omega) ?_
  refine z_getf (a := 12) (b := 2) (l := [16, 49]) h137 rfl (fun v4 => ?_)
  refine z_cv (a := 136) (b := 0) (l := [131, 5, 12, 49]) (as := [zi v1, zi v2, zi v3, zi v4]) (lsE := [zr self, zi v1, zi v2, zi v3, zi v4, zU, zU]) (st' := []) (val := fun _ => none) (mem := fun p => p) h137 rfl ⟨rfl, rfl, rfl, Nat.le_of_ble_eq_true rfl, Nat.le_of_ble_eq_true rfl, rfl⟩ (fun g1 => (t_qmd_lays X n K M self v1 v2 v3 v4 (by omega))) (fun M5 => ?_)
  exact z_vret h137 rfl (fun _ q => q)
set_option maxRecDepth 20000 in
theorem t_qmd_cell (X : Int × (Int → Int)) (n : Nat) (K : zK) (M : zM) (self a1 a2 a3 : Int) (g_self : 1 ≤ self) : Rz X 138 (0, [zr self, zi a1, zi a2, zi a3, zU, zU], [], M, K) (qmd_cell n K M self a1 a2 a3) (fun e P => P (some (zi e.1), e.2, K)) := by
  have h138 : zT 138 = zt138 := rfl
  unfold qmd_cell
  refine z_aload h138 rfl rfl (Or.inl rfl) (by omega) ?_
  refine z_iload h138 rfl rfl (Or.inl rfl) ?_
  refine z_iload h138 rfl rfl (Or.inl rfl) ?_
  refine z_cv (a := 134) (b := 0) (l := [127, 3, 12, 49]) (as := [zi a1, zi a2]) (lsE := [zr self, zi a1, zi a2]) (st' := []) (val := fun p => some (zi p)) (mem := fun _ => M) h138 rfl ⟨rfl, rfl, rfl, Nat.le_of_ble_eq_true rfl, Nat.le_of_ble_eq_true rfl, rfl⟩ (fun g1 => (t_qmd_isCell X K M self a1 a2 (by omega))) (fun v1 => ?_)
  refine z_ifeq h138 rfl ?_ ?_
  · refine z_kill h138 rfl (ls' := [zU, zU, zU, zU, zU, zU]) rfl ?_
    refine z_iconst h138 rfl ?_
    exact z_iret h138 rfl (fun _ q => q)
  · refine z_iload h138 rfl rfl (Or.inl rfl) ?_
    refine z_ci2l h138 rfl ?_
    refine z_lconst h138 rfl ?_
    refine z_lconst h138 rfl ?_
    refine z_cs (a := 129) (b := 0) (l := [110, 3]) (as := [zl (zw a3), zl 0, zl 2]) (lsE := [zl (zw a3), zU, zl 0, zU, zl 2, zU]) (st' := []) (val := fun p => some (zi p)) (mem := fun _ => M) h138 rfl ⟨rfl, rfl, rfl, Nat.le_of_ble_eq_true rfl, Nat.le_of_ble_eq_true rfl, rfl⟩ (t_qmd_in X K M (zw a3) 0 2 ) (fun v2 => ?_)
    refine z_ifne h138 rfl ?_ ?_
    · refine z_kill h138 rfl (ls' := [zU, zU, zU, zU, zU, zU]) rfl ?_
      refine z_iconst h138 rfl ?_
      exact z_iret h138 rfl (fun _ q => q)
    · refine z_aload h138 rfl rfl (Or.inl rfl) (by omega) ?_
      refine z_cv (a := 137) (b := 0) (l := [135, 1, 12, 49]) (as := []) (lsE := [zr self]) (st' := []) (val := fun _ => none) (mem := fun p => p) h138 rfl ⟨rfl, rfl, rfl, Nat.le_of_ble_eq_true rfl, Nat.le_of_ble_eq_true rfl, rfl⟩ (fun g1 => (t_qmd_laysNow X n K M self (by omega))) (fun M3 => ?_)
      refine z_iconst h138 rfl ?_
      refine z_istore h138 rfl (Or.inr rfl) (ls' := [zr self, zi a1, zi a2, zi a3, zi 0, zU]) rfl ?_
      refine z_iconst h138 rfl ?_
      refine z_istore h138 rfl (Or.inr rfl) (ls' := [zr self, zi a1, zi a2, zi a3, zi 0, zi 0]) rfl ?_
      refine Rz.bind (t := fun e5 => (53, [zr self, zi a1, zi a2, zi a3, zi e5.1, zi e5.2], [], M3, K)) ?_ (fun e5 => ?_)
      · refine Rz.wh (hd := fun s4 => (19, [zr self, zi a1, zi a2, zi a3, zi s4.1, zi s4.2], [], M3, K)) (fun s4 => ?_) n (0, 0)
        (try dsimp only)
        refine z_iload h138 rfl rfl (Or.inr rfl) ?_
        refine z_iconst h138 rfl ?_
        refine z_iload h138 rfl rfl (Or.inl rfl) ?_
        refine z_imul h138 rfl ?_
        refine z_iload h138 rfl rfl (Or.inl rfl) ?_
        refine z_iadd h138 rfl ?_
        refine z_icge h138 rfl ?_ ?_
        · exact Rz.here fun _ q => q
        · refine z_iload h138 rfl rfl (Or.inr rfl) ?_
          refine z_iload h138 rfl rfl (Or.inr rfl) ?_
          refine z_iconst h138 rfl ?_
          refine z_rem h138 rfl (fun v10 => ?_)
          refine z_aload h138 rfl rfl (Or.inl rfl) (by omega) ?_
          refine z_getf (a := 12) (b := 1) (l := [13, 49]) h138 rfl (fun v11 => ?_)
          refine Rz.esc (t := fun j12 => (48, [zr self, zi a1, zi a2, zi a3, zU, zi s4.2], [zi s4.1], M3, K)) ?_ (fun j12 => ?_)
          · refine z_icge h138 rfl ?_ ?_
            · refine z_kill h138 rfl (ls' := [zr self, zi a1, zi a2, zi a3, zU, zi s4.2]) rfl ?_
              exact Rz.here fun _ q => q
            · refine z_aload h138 rfl rfl (Or.inl rfl) (by omega) ?_
              refine z_getr (a := 12) (b := 7) (l := [26, 49]) h138 rfl (fun r14 g_r14 => ?_)
              refine z_iload h138 rfl rfl (Or.inr rfl) ?_
              refine z_iald h138 rfl (fun v15 => ?_)
              refine z_aload h138 rfl rfl (Or.inl rfl) (by omega) ?_
              refine z_getr (a := 12) (b := 7) (l := [26, 49]) h138 rfl (fun r16 g_r16 => ?_)
              refine z_iconst h138 rfl ?_
              refine z_iload h138 rfl rfl (Or.inl rfl) ?_
              refine z_imul h138 rfl ?_
              refine z_iload h138 rfl rfl (Or.inl rfl) ?_
              refine z_iadd h138 rfl ?_
              refine z_iald h138 rfl (fun v17 => ?_)
              refine z_icne h138 rfl ?_ ?_
              · refine z_iconst h138 rfl ?_
                refine z_goto h138 rfl ?_
                refine z_kill h138 rfl (ls' := [zr self, zi a1, zi a2, zi a3, zU, zi s4.2]) rfl ?_
                refine z_iadd h138 rfl ?_
                refine z_istoreL (lsf := fun x18 => [zr self, zi a1, zi a2, zi a3, zi x18, zi s4.2]) h138 rfl (Or.inr rfl) (fun _ => rfl) (fun x18 => ?_)
                (try dsimp only)
                refine z_iinc h138 rfl rfl (ls' := [zr self, zi a1, zi a2, zi a3, zi x18, zi (s4.2 + 1)]) rfl ?_
                refine z_goto h138 rfl ?_
                exact Rz.here fun _ q => q
              · refine z_kill h138 rfl (ls' := [zr self, zi a1, zi a2, zi a3, zU, zi s4.2]) rfl ?_
                exact Rz.here fun _ q => q
          · (try dsimp only)
            refine z_iconst h138 rfl ?_
            refine z_kill h138 rfl (ls' := [zr self, zi a1, zi a2, zi a3, zU, zi s4.2]) rfl ?_
            refine z_iadd h138 rfl ?_
            refine z_istoreL (lsf := fun x13 => [zr self, zi a1, zi a2, zi a3, zi x13, zi s4.2]) h138 rfl (Or.inr rfl) (fun _ => rfl) (fun x13 => ?_)
            (try dsimp only)
            refine z_iinc h138 rfl rfl (ls' := [zr self, zi a1, zi a2, zi a3, zi x13, zi (s4.2 + 1)]) rfl ?_
            refine z_goto h138 rfl ?_
            exact Rz.here fun _ q => q
      · (try dsimp only)
        refine z_iload h138 rfl rfl (Or.inl rfl) ?_
        refine z_ifne h138 rfl ?_ ?_
        · refine z_aload h138 rfl rfl (Or.inl rfl) (by omega) ?_
          refine z_getr (a := 12) (b := 7) (l := [26, 49]) h138 rfl (fun r6 g_r6 => ?_)
          refine z_iconst h138 rfl ?_
          refine z_iload h138 rfl rfl (Or.inl rfl) ?_
          refine z_imul h138 rfl ?_
          refine z_iload h138 rfl rfl (Or.inl rfl) ?_
          refine z_iadd h138 rfl ?_
          refine z_iald h138 rfl (fun v7 => ?_)
          refine z_goto h138 rfl ?_
          refine z_kill h138 rfl (ls' := [zU, zU, zU, zU, zU, zU]) rfl ?_
          exact z_iret h138 rfl (fun _ q => q)
        · refine z_iload h138 rfl rfl (Or.inl rfl) ?_
          refine z_iconst h138 rfl ?_
          refine z_icne h138 rfl ?_ ?_
          · refine z_iload h138 rfl rfl (Or.inr rfl) ?_
            refine z_goto h138 rfl ?_
            refine z_kill h138 rfl (ls' := [zU, zU, zU, zU, zU, zU]) rfl ?_
            exact z_iret h138 rfl (fun _ q => q)
          · refine z_aload h138 rfl rfl (Or.inl rfl) (by omega) ?_
            refine z_getr (a := 12) (b := 6) (l := [22, 49]) h138 rfl (fun r8 g_r8 => ?_)
            refine z_iconst h138 rfl ?_
            refine z_iload h138 rfl rfl (Or.inl rfl) ?_
            refine z_imul h138 rfl ?_
            refine z_iload h138 rfl rfl (Or.inl rfl) ?_
            refine z_iadd h138 rfl ?_
            refine z_iald h138 rfl (fun v9 => ?_)
            refine z_kill h138 rfl (ls' := [zU, zU, zU, zU, zU, zU]) rfl ?_
            exact z_iret h138 rfl (fun _ q => q)
set_option maxRecDepth 20000 in
theorem t_qmd_bank (X : Int × (Int → Int)) (n : Nat) (K : zK) (M : zM) (self a1 a2 : Int) (g_self : 1 ≤ self) : Rz X 139 (0, [zr self, zi a1, zi a2, zU, zU, zU, zU, zU], [], M, K) (qmd_bank n K M self a1 a2) (fun e P => P (some (zi e.1), e.2, K)) := by
  have h139 : zT 139 = zt139 := rfl
  unfold qmd_bank
  refine z_iload h139 rfl rfl (Or.inl rfl) ?_
  refine z_ci2l h139 rfl ?_
  refine z_lconst h139 rfl ?_
  refine z_aload h139 rfl rfl (Or.inl rfl) (by omega) ?_
  refine z_getf (a := 12) (b := 2) (l := [16, 49]) h139 rfl (fun v1 => ?_)
  refine z_iconst h139 rfl ?_
  refine z_isub h139 rfl ?_
  refine z_ci2l h139 rfl ?_
  refine z_cs (a := 129) (b := 0) (l := [110, 3]) (as := [zl (zw a1), zl 0, zl (zw (v1 - 1))]) (lsE := [zl (zw a1), zU, zl 0, zU, zl (zw (v1 - 1)), zU]) (st' := []) (val := fun p => some (zi p)) (mem := fun _ => M) h139 rfl ⟨rfl, rfl, rfl, Nat.le_of_ble_eq_true rfl, Nat.le_of_ble_eq_true rfl, rfl⟩ (t_qmd_in X K M (zw a1) 0 (zw (v1 - 1)) ) (fun v2 => ?_)
  refine z_ifeq h139 rfl ?_ ?_
  · refine z_kill h139 rfl (ls' := [zU, zU, zU, zU, zU, zU, zU, zU]) rfl ?_
    refine z_iconst h139 rfl ?_
    exact z_iret h139 rfl (fun _ q => q)
  · refine z_iload h139 rfl rfl (Or.inl rfl) ?_
    refine z_ci2l h139 rfl ?_
    refine z_lconst h139 rfl ?_
    refine z_lconst h139 rfl ?_
    refine z_cs (a := 129) (b := 0) (l := [110, 3]) (as := [zl (zw a2), zl 0, zl 2]) (lsE := [zl (zw a2), zU, zl 0, zU, zl 2, zU]) (st' := []) (val := fun p => some (zi p)) (mem := fun _ => M) h139 rfl ⟨rfl, rfl, rfl, Nat.le_of_ble_eq_true rfl, Nat.le_of_ble_eq_true rfl, rfl⟩ (t_qmd_in X K M (zw a2) 0 2 ) (fun v3 => ?_)
    refine z_ifne h139 rfl ?_ ?_
    · refine z_kill h139 rfl (ls' := [zU, zU, zU, zU, zU, zU, zU, zU]) rfl ?_
      refine z_iconst h139 rfl ?_
      exact z_iret h139 rfl (fun _ q => q)
    · refine z_aload h139 rfl rfl (Or.inl rfl) (by omega) ?_
      refine z_cv (a := 137) (b := 0) (l := [135, 1, 12, 49]) (as := []) (lsE := [zr self]) (st' := []) (val := fun _ => none) (mem := fun p => p) h139 rfl ⟨rfl, rfl, rfl, Nat.le_of_ble_eq_true rfl, Nat.le_of_ble_eq_true rfl, rfl⟩ (fun g1 => (t_qmd_laysNow X n K M self (by omega))) (fun M4 => ?_)
      refine z_iconst h139 rfl ?_
      refine z_istore h139 rfl (Or.inl rfl) (ls' := [zr self, zi a1, zi a2, zi 0, zU, zU, zU, zU]) rfl ?_
      refine z_iconst h139 rfl ?_
      refine z_istore h139 rfl (Or.inr rfl) (ls' := [zr self, zi a1, zi a2, zi 0, zi (-4), zU, zU, zU]) rfl ?_
      refine z_iconst h139 rfl ?_
      refine z_istore h139 rfl (Or.inr rfl) (ls' := [zr self, zi a1, zi a2, zi 0, zi (-4), zi (-4), zU, zU]) rfl ?_
      refine z_iconst h139 rfl ?_
      refine z_istore h139 rfl (Or.inr rfl) (ls' := [zr self, zi a1, zi a2, zi 0, zi (-4), zi (-4), zi 0, zU]) rfl ?_
      refine z_kill h139 rfl (ls' := [zr self, zi a1, zi a2, zi 0, zi (-4), zi (-4), zi 0, zU]) rfl ?_
      refine Rz.wh (hd := fun s5 => (28, [zr self, zi a1, zi a2, zi s5.1, zi s5.2.1, zi s5.2.2.1, zi s5.2.2.2, zU], [], M4, K)) (fun s5 => ?_) n (0, (-4), (-4), 0)
      (try dsimp only)
      refine z_iload h139 rfl rfl (Or.inr rfl) ?_
      refine z_aload h139 rfl rfl (Or.inl rfl) (by omega) ?_
      refine z_getf (a := 12) (b := 0) (l := [7, 49]) h139 rfl (fun v6 => ?_)
      refine z_icge h139 rfl ?_ ?_
      · refine z_iload h139 rfl rfl (Or.inl rfl) ?_
        refine z_ifne h139 rfl ?_ ?_
        · refine z_iload h139 rfl rfl (Or.inl rfl) ?_
          refine z_goto h139 rfl ?_
          refine z_kill h139 rfl (ls' := [zU, zU, zU, zU, zU, zU, zU, zU]) rfl ?_
          exact z_iret h139 rfl (fun _ q => q)
        · refine z_iload h139 rfl rfl (Or.inl rfl) ?_
          refine z_iconst h139 rfl ?_
          refine z_icne h139 rfl ?_ ?_
          · refine z_iload h139 rfl rfl (Or.inr rfl) ?_
            refine z_goto h139 rfl ?_
            refine z_kill h139 rfl (ls' := [zU, zU, zU, zU, zU, zU, zU, zU]) rfl ?_
            exact z_iret h139 rfl (fun _ q => q)
          · refine z_iload h139 rfl rfl (Or.inr rfl) ?_
            refine z_kill h139 rfl (ls' := [zU, zU, zU, zU, zU, zU, zU, zU]) rfl ?_
            exact z_iret h139 rfl (fun _ q => q)
      · refine z_iconst h139 rfl ?_
        refine z_istore h139 rfl (Or.inr rfl) (ls' := [zr self, zi a1, zi a2, zi s5.1, zi s5.2.1, zi s5.2.2.1, zi s5.2.2.2, zi 0]) rfl ?_
        refine Rz.bind (t := fun e8 => (68, [zr self, zi a1, zi a2, zi e8.1, zi e8.2.1, zi e8.2.2.1, zi s5.2.2.2, zi e8.2.2.2], [], M4, K)) ?_ (fun e8 => ?_)
        · refine Rz.wh (hd := fun s7 => (34, [zr self, zi a1, zi a2, zi s7.1, zi s7.2.1, zi s7.2.2.1, zi s5.2.2.2, zi s7.2.2.2], [], M4, K)) (fun s7 => ?_) n (s5.1, s5.2.1, s5.2.2.1, 0)
          (try dsimp only)
          refine z_iload h139 rfl rfl (Or.inr rfl) ?_
          refine z_aload h139 rfl rfl (Or.inl rfl) (by omega) ?_
          refine z_getf (a := 12) (b := 1) (l := [13, 49]) h139 rfl (fun v9 => ?_)
          refine z_icge h139 rfl ?_ ?_
          · exact Rz.here fun _ q => q
          · refine z_aload h139 rfl rfl (Or.inl rfl) (by omega) ?_
            refine z_getr (a := 12) (b := 7) (l := [26, 49]) h139 rfl (fun r10 g_r10 => ?_)
            refine z_iconst h139 rfl ?_
            refine z_iload h139 rfl rfl (Or.inr rfl) ?_
            refine z_imul h139 rfl ?_
            refine z_iload h139 rfl rfl (Or.inr rfl) ?_
            refine z_iadd h139 rfl ?_
            refine z_iald h139 rfl (fun v11 => ?_)
            refine z_iload h139 rfl rfl (Or.inl rfl) ?_
            refine Rz.bind (t := fun j12 => (66, [zr self, zi a1, zi a2, zi j12.1, zi j12.2.1, zi j12.2.2, zi s5.2.2.2, zi s7.2.2.2], [], M4, K)) ?_ (fun j12 => ?_)
            · refine z_icne h139 rfl ?_ ?_
              · refine z_iinc h139 rfl rfl (ls' := [zr self, zi a1, zi a2, zi (s7.1 + 1), zi s7.2.1, zi s7.2.2.1, zi s5.2.2.2, zi s7.2.2.2]) rfl ?_
                refine z_iload h139 rfl rfl (Or.inr rfl) ?_
                refine z_iconst h139 rfl ?_
                refine Rz.bind (t := fun j13 => (59, [zr self, zi a1, zi a2, zi (s7.1 + 1), zU, zU, zi s5.2.2.2, zi s7.2.2.2], [zi j13], M4, K)) ?_ (fun j13 => ?_)
                · refine z_icne h139 rfl ?_ ?_
                  · refine z_iconst h139 rfl ?_
                    refine z_iload h139 rfl rfl (Or.inr rfl) ?_
                    refine z_imul h139 rfl ?_
                    refine z_iload h139 rfl rfl (Or.inr rfl) ?_
                    refine z_iadd h139 rfl ?_
                    refine z_goto h139 rfl ?_
                    refine z_kill h139 rfl (ls' := [zr self, zi a1, zi a2, zi (s7.1 + 1), zU, zU, zi s5.2.2.2, zi s7.2.2.2]) rfl ?_
                    exact Rz.here fun _ q => q
                  · refine z_iload h139 rfl rfl (Or.inr rfl) ?_
                    refine z_kill h139 rfl (ls' := [zr self, zi a1, zi a2, zi (s7.1 + 1), zU, zU, zi s5.2.2.2, zi s7.2.2.2]) rfl ?_
                    exact Rz.here fun _ q => q
                · (try dsimp only)
                  refine z_istore h139 rfl (Or.inr rfl) (ls' := [zr self, zi a1, zi a2, zi (s7.1 + 1), zi j13, zU, zi s5.2.2.2, zi s7.2.2.2]) rfl ?_
                  refine z_iconst h139 rfl ?_
                  refine z_iload h139 rfl rfl (Or.inr rfl) ?_
                  refine z_imul h139 rfl ?_
                  refine z_iload h139 rfl rfl (Or.inr rfl) ?_
                  refine z_iadd h139 rfl ?_
                  refine z_istoreL (lsf := fun x14 => [zr self, zi a1, zi a2, zi (s7.1 + 1), zi j13, zi x14, zi s5.2.2.2, zi s7.2.2.2]) h139 rfl (Or.inr rfl) (fun _ => rfl) (fun x14 => ?_)
                  (try dsimp only)
                  exact Rz.here fun _ q => q
              · exact Rz.here fun _ q => q
            · (try dsimp only)
              refine z_iinc h139 rfl rfl (ls' := [zr self, zi a1, zi a2, zi j12.1, zi j12.2.1, zi j12.2.2, zi s5.2.2.2, zi (s7.2.2.2 + 1)]) rfl ?_
              refine z_goto h139 rfl ?_
              exact Rz.here fun _ q => q
        · (try dsimp only)
          refine z_iinc h139 rfl rfl (ls' := [zr self, zi a1, zi a2, zi e8.1, zi e8.2.1, zi e8.2.2.1, zi (s5.2.2.2 + 1), zi e8.2.2.2]) rfl ?_
          refine z_goto h139 rfl ?_
          refine z_kill h139 rfl (ls' := [zr self, zi a1, zi a2, zi e8.1, zi e8.2.1, zi e8.2.2.1, zi (s5.2.2.2 + 1), zU]) rfl ?_
          exact Rz.here fun _ q => q
set_option maxRecDepth 20000 in
theorem t_qmd_isCut (X : Int × (Int → Int)) (K : zK) (M : zM) (a0 a1 a2 : Int) : Rz X 140 (0, [zi a0, zi a1, zi a2], [], M, K) (qmd_isCut K M a0 a1 a2) (fun e P => P (some (zi e), M, K)) := by
  have h140 : zT 140 = zt140 := rfl
  unfold qmd_isCut
  refine z_iload h140 rfl rfl (Or.inl rfl) ?_
  refine z_ci2l h140 rfl ?_
  refine z_lconst h140 rfl ?_
  refine z_lconst h140 rfl ?_
  refine z_cs (a := 129) (b := 0) (l := [110, 3]) (as := [zl (zw a0), zl 0, zl 4]) (lsE := [zl (zw a0), zU, zl 0, zU, zl 4, zU]) (st' := []) (val := fun p => some (zi p)) (mem := fun _ => M) h140 rfl ⟨rfl, rfl, rfl, Nat.le_of_ble_eq_true rfl, Nat.le_of_ble_eq_true rfl, rfl⟩ (t_qmd_in X K M (zw a0) 0 4 ) (fun v1 => ?_)
  refine z_ifeq h140 rfl ?_ ?_
  · refine z_kill h140 rfl (ls' := [zU, zU, zU]) rfl ?_
    refine z_iconst h140 rfl ?_
    refine z_kill h140 rfl (ls' := [zU, zU, zU]) rfl ?_
    exact z_zret h140 rfl (Or.inl rfl) (fun _ q => q)
  · refine z_iload h140 rfl rfl (Or.inl rfl) ?_
    refine z_ci2l h140 rfl ?_
    refine z_lconst h140 rfl ?_
    refine z_lconst h140 rfl ?_
    refine z_cs (a := 129) (b := 0) (l := [110, 3]) (as := [zl (zw a1), zl 1, zl 16]) (lsE := [zl (zw a1), zU, zl 1, zU, zl 16, zU]) (st' := []) (val := fun p => some (zi p)) (mem := fun _ => M) h140 rfl ⟨rfl, rfl, rfl, Nat.le_of_ble_eq_true rfl, Nat.le_of_ble_eq_true rfl, rfl⟩ (t_qmd_in X K M (zw a1) 1 16 ) (fun v2 => ?_)
    refine z_ifeq h140 rfl ?_ ?_
    · refine z_kill h140 rfl (ls' := [zU, zU, zU]) rfl ?_
      refine z_iconst h140 rfl ?_
      refine z_kill h140 rfl (ls' := [zU, zU, zU]) rfl ?_
      exact z_zret h140 rfl (Or.inl rfl) (fun _ q => q)
    · refine z_iload h140 rfl rfl (Or.inl rfl) ?_
      refine z_ci2l h140 rfl ?_
      refine z_lconst h140 rfl ?_
      refine z_lconst h140 rfl ?_
      refine z_cs (a := 129) (b := 0) (l := [110, 3]) (as := [zl (zw a2), zl 1, zl 8]) (lsE := [zl (zw a2), zU, zl 1, zU, zl 8, zU]) (st' := []) (val := fun p => some (zi p)) (mem := fun _ => M) h140 rfl ⟨rfl, rfl, rfl, Nat.le_of_ble_eq_true rfl, Nat.le_of_ble_eq_true rfl, rfl⟩ (t_qmd_in X K M (zw a2) 1 8 ) (fun v3 => ?_)
      refine z_ifeq h140 rfl ?_ ?_
      · refine z_kill h140 rfl (ls' := [zU, zU, zU]) rfl ?_
        refine z_iconst h140 rfl ?_
        refine z_kill h140 rfl (ls' := [zU, zU, zU]) rfl ?_
        exact z_zret h140 rfl (Or.inl rfl) (fun _ q => q)
      · refine z_iconst h140 rfl ?_
        refine z_goto h140 rfl ?_
        refine z_kill h140 rfl (ls' := [zU, zU, zU]) rfl ?_
        exact z_zret h140 rfl (Or.inr rfl) (fun _ q => q)
set_option maxRecDepth 20000 in
theorem t_qmd_cellsOf (X : Int × (Int → Int)) (K : zK) (M : zM) (a0 a1 a2 : Int) : Rz X 141 (0, [zi a0, zi a1, zi a2], [], M, K) (qmd_cellsOf K M a0 a1 a2) (fun e P => P (some (zi e), M, K)) := by
  have h141 : zT 141 = zt141 := rfl
  unfold qmd_cellsOf
  refine z_iload h141 rfl rfl (Or.inl rfl) ?_
  refine z_iconst h141 rfl ?_
  refine z_icne h141 rfl ?_ ?_
  · refine z_iload h141 rfl rfl (Or.inl rfl) ?_
    refine z_iload h141 rfl rfl (Or.inl rfl) ?_
    refine z_imul h141 rfl ?_
    refine z_goto h141 rfl ?_
    refine z_kill h141 rfl (ls' := [zU, zU, zU]) rfl ?_
    exact z_iret h141 rfl (fun _ q => q)
  · refine z_iload h141 rfl rfl (Or.inl rfl) ?_
    refine z_kill h141 rfl (ls' := [zU, zU, zU]) rfl ?_
    exact z_iret h141 rfl (fun _ q => q)
set_option maxRecDepth 20000 in
theorem t_qmd_cellAt (X : Int × (Int → Int)) (K : zK) (M : zM) (a0 a1 a2 a3 a4 : Int) : Rz X 142 (0, [zi a0, zi a1, zi a2, zi a3, zi a4, zU, zU], [], M, K) (qmd_cellAt K M a0 a1 a2 a3 a4) (fun e P => P (some (zi e), M, K)) := by
  have h142 : zT 142 = zt142 := rfl
  unfold qmd_cellAt
  refine z_iload h142 rfl rfl (Or.inl rfl) ?_
  refine Rz.bind (t := fun j1 => (18, [zi a0, zi a1, zU, zi a3, zi a4, zU, zU], [zi j1], M, K)) ?_ (fun j1 => ?_)
  · refine z_ifne h142 rfl ?_ ?_
    · refine z_iload h142 rfl rfl (Or.inl rfl) ?_
      refine z_goto h142 rfl ?_
      refine z_kill h142 rfl (ls' := [zi a0, zi a1, zU, zi a3, zi a4, zU, zU]) rfl ?_
      exact Rz.here fun _ q => q
    · refine z_iload h142 rfl rfl (Or.inl rfl) ?_
      refine z_iconst h142 rfl ?_
      refine z_icne h142 rfl ?_ ?_
      · refine z_iload h142 rfl rfl (Or.inl rfl) ?_
        refine z_iload h142 rfl rfl (Or.inr rfl) ?_
        refine z_iload h142 rfl rfl (Or.inl rfl) ?_
        refine z_div h142 rfl (fun v6 => ?_)
        refine z_iadd h142 rfl ?_
        refine z_goto h142 rfl ?_
        refine z_kill h142 rfl (ls' := [zi a0, zi a1, zU, zi a3, zi a4, zU, zU]) rfl ?_
        exact Rz.here fun _ q => q
      · refine z_iload h142 rfl rfl (Or.inl rfl) ?_
        refine z_iload h142 rfl rfl (Or.inr rfl) ?_
        refine z_iload h142 rfl rfl (Or.inl rfl) ?_
        refine z_imul h142 rfl ?_
        refine z_iadd h142 rfl ?_
        refine z_kill h142 rfl (ls' := [zi a0, zi a1, zU, zi a3, zi a4, zU, zU]) rfl ?_
        exact Rz.here fun _ q => q
  · (try dsimp only)
    refine z_istore h142 rfl (Or.inr rfl) (ls' := [zi a0, zi a1, zU, zi a3, zi a4, zi j1, zU]) rfl ?_
    refine z_iload h142 rfl rfl (Or.inl rfl) ?_
    refine Rz.esc (t := fun j2 => (24, [zU, zi a1, zU, zi a3, zi a4, zi j1, zU], [], M, K)) ?_ (fun j2 => ?_)
    · refine z_ifeq h142 rfl ?_ ?_
      · refine z_kill h142 rfl (ls' := [zU, zi a1, zU, zi a3, zi a4, zi j1, zU]) rfl ?_
        exact Rz.here fun _ q => q
      · refine z_iload h142 rfl rfl (Or.inl rfl) ?_
        refine z_iconst h142 rfl ?_
        refine z_icne h142 rfl ?_ ?_
        · refine z_kill h142 rfl (ls' := [zU, zi a1, zU, zi a3, zi a4, zi j1, zU]) rfl ?_
          exact Rz.here fun _ q => q
        · refine z_iload h142 rfl rfl (Or.inl rfl) ?_
          refine z_iconst h142 rfl ?_
          refine Rz.bind (t := fun j4 => (49, [zU, zU, zU, zU, zU, zi j1, zU], [zi j4], M, K)) ?_ (fun j4 => ?_)
          · refine z_icne h142 rfl ?_ ?_
            · refine z_iload h142 rfl rfl (Or.inl rfl) ?_
              refine z_goto h142 rfl ?_
              refine z_kill h142 rfl (ls' := [zU, zU, zU, zU, zU, zi j1, zU]) rfl ?_
              exact Rz.here fun _ q => q
            · refine z_iload h142 rfl rfl (Or.inl rfl) ?_
              refine z_iconst h142 rfl ?_
              refine z_icne h142 rfl ?_ ?_
              · refine z_iload h142 rfl rfl (Or.inl rfl) ?_
                refine z_iload h142 rfl rfl (Or.inr rfl) ?_
                refine z_iload h142 rfl rfl (Or.inl rfl) ?_
                refine z_imul h142 rfl ?_
                refine z_isub h142 rfl ?_
                refine z_goto h142 rfl ?_
                refine z_kill h142 rfl (ls' := [zU, zU, zU, zU, zU, zi j1, zU]) rfl ?_
                exact Rz.here fun _ q => q
              · refine z_iload h142 rfl rfl (Or.inl rfl) ?_
                refine z_iload h142 rfl rfl (Or.inr rfl) ?_
                refine z_iload h142 rfl rfl (Or.inl rfl) ?_
                refine z_rem h142 rfl (fun v5 => ?_)
                refine z_iadd h142 rfl ?_
                refine z_kill h142 rfl (ls' := [zU, zU, zU, zU, zU, zi j1, zU]) rfl ?_
                exact Rz.here fun _ q => q
          · (try dsimp only)
            refine z_istore h142 rfl (Or.inr rfl) (ls' := [zU, zU, zU, zU, zU, zi j1, zi j4]) rfl ?_
            refine z_iconst h142 rfl ?_
            refine z_iload h142 rfl rfl (Or.inr rfl) ?_
            refine z_iconst h142 rfl ?_
            refine z_iadd h142 rfl ?_
            refine z_imul h142 rfl ?_
            refine z_iload h142 rfl rfl (Or.inr rfl) ?_
            refine z_iadd h142 rfl ?_
            refine z_iconst h142 rfl ?_
            refine z_iadd h142 rfl ?_
            exact z_iret h142 rfl (fun _ q => q)
    · (try dsimp only)
      refine z_iload h142 rfl rfl (Or.inl rfl) ?_
      refine z_iload h142 rfl rfl (Or.inr rfl) ?_
      refine z_iload h142 rfl rfl (Or.inl rfl) ?_
      refine z_imul h142 rfl ?_
      refine z_iadd h142 rfl ?_
      refine z_goto h142 rfl ?_
      refine z_kill h142 rfl (ls' := [zU, zU, zU, zU, zU, zi j1, zU]) rfl ?_
      refine z_istoreL (lsf := fun x3 => [zU, zU, zU, zU, zU, zi j1, zi x3]) h142 rfl (Or.inr rfl) (fun _ => rfl) (fun x3 => ?_)
      (try dsimp only)
      refine z_iconst h142 rfl ?_
      refine z_iload h142 rfl rfl (Or.inr rfl) ?_
      refine z_iconst h142 rfl ?_
      refine z_iadd h142 rfl ?_
      refine z_imul h142 rfl ?_
      refine z_iload h142 rfl rfl (Or.inr rfl) ?_
      refine z_iadd h142 rfl ?_
      refine z_iconst h142 rfl ?_
      refine z_iadd h142 rfl ?_
      exact z_iret h142 rfl (fun _ q => q)
set_option maxRecDepth 20000 in
theorem t_qmd_isThere (X : Int × (Int → Int)) (K : zK) (M : zM) (self a1 a2 a3 a4 a5 : Int) (g_self : 1 ≤ self) : Rz X 143 (0, [zr self, zi a1, zi a2, zi a3, zi a4, zi a5, zU], [], M, K) (qmd_isThere K M self a1 a2 a3 a4 a5) (fun e P => P (some (zi e), M, K)) := by
  have h143 : zT 143 = zt143 := rfl
  unfold qmd_isThere
  refine z_iload h143 rfl rfl (Or.inl rfl) ?_
  refine z_iload h143 rfl rfl (Or.inl rfl) ?_
  refine z_iload h143 rfl rfl (Or.inr rfl) ?_
  refine z_iload h143 rfl rfl (Or.inr rfl) ?_
  refine z_iload h143 rfl rfl (Or.inl rfl) ?_
  refine z_iload h143 rfl rfl (Or.inl rfl) ?_
  refine z_iload h143 rfl rfl (Or.inl rfl) ?_
  refine z_cs (a := 141) (b := 0) (l := [142, 3]) (as := [zi a1, zi a2, zi a3]) (lsE := [zi a1, zi a2, zi a3]) (st' := [zi a5, zi a4, zi a3, zi a1]) (val := fun p => some (zi p)) (mem := fun _ => M) h143 rfl ⟨rfl, rfl, rfl, Nat.le_of_ble_eq_true rfl, Nat.le_of_ble_eq_true rfl, rfl⟩ (t_qmd_cellsOf X K M a1 a2 a3 ) (fun v1 => ?_)
  refine z_iconst h143 rfl ?_
  refine z_isub h143 rfl ?_
  refine z_cs (a := 142) (b := 0) (l := [146, 5]) (as := [zi a1, zi a3, zi a4, zi a5, zi (v1 - 1)]) (lsE := [zi a1, zi a3, zi a4, zi a5, zi (v1 - 1), zU, zU]) (st' := []) (val := fun p => some (zi p)) (mem := fun _ => M) h143 rfl ⟨rfl, rfl, rfl, Nat.le_of_ble_eq_true rfl, Nat.le_of_ble_eq_true rfl, rfl⟩ (t_qmd_cellAt X K M a1 a3 a4 a5 (v1 - 1) ) (fun v2 => ?_)
  refine z_istore h143 rfl (Or.inr rfl) (ls' := [zr self, zi a1, zi a2, zi a3, zi a4, zi a5, zi v2]) rfl ?_
  refine z_aload h143 rfl rfl (Or.inl rfl) (by omega) ?_
  refine z_iload h143 rfl rfl (Or.inr rfl) ?_
  refine z_iload h143 rfl rfl (Or.inr rfl) ?_
  refine z_cv (a := 134) (b := 0) (l := [127, 3, 12, 49]) (as := [zi a4, zi a5]) (lsE := [zr self, zi a4, zi a5]) (st' := []) (val := fun p => some (zi p)) (mem := fun _ => M) h143 rfl ⟨rfl, rfl, rfl, Nat.le_of_ble_eq_true rfl, Nat.le_of_ble_eq_true rfl, rfl⟩ (fun g1 => (t_qmd_isCell X K M self a4 a5 (by omega))) (fun v3 => ?_)
  refine z_ifeq h143 rfl ?_ ?_
  · refine z_kill h143 rfl (ls' := [zU, zU, zU, zU, zU, zU, zU]) rfl ?_
    refine z_iconst h143 rfl ?_
    refine z_kill h143 rfl (ls' := [zU, zU, zU, zU, zU, zU, zU]) rfl ?_
    exact z_zret h143 rfl (Or.inl rfl) (fun _ q => q)
  · refine z_aload h143 rfl rfl (Or.inl rfl) (by omega) ?_
    refine z_iload h143 rfl rfl (Or.inr rfl) ?_
    refine z_iconst h143 rfl ?_
    refine z_div h143 rfl (fun v4 => ?_)
    refine z_iconst h143 rfl ?_
    refine z_isub h143 rfl ?_
    refine z_iload h143 rfl rfl (Or.inr rfl) ?_
    refine z_iconst h143 rfl ?_
    refine z_rem h143 rfl (fun v5 => ?_)
    refine z_iconst h143 rfl ?_
    refine z_isub h143 rfl ?_
    refine z_cv (a := 134) (b := 0) (l := [127, 3, 12, 49]) (as := [zi (v4 - 256), zi (v5 - 256)]) (lsE := [zr self, zi (v4 - 256), zi (v5 - 256)]) (st' := []) (val := fun p => some (zi p)) (mem := fun _ => M) h143 rfl ⟨rfl, rfl, rfl, Nat.le_of_ble_eq_true rfl, Nat.le_of_ble_eq_true rfl, rfl⟩ (fun g1 => (t_qmd_isCell X K M self (v4 - 256) (v5 - 256) (by omega))) (fun v6 => ?_)
    refine z_ifeq h143 rfl ?_ ?_
    · refine z_kill h143 rfl (ls' := [zU, zU, zU, zU, zU, zU, zU]) rfl ?_
      refine z_iconst h143 rfl ?_
      refine z_kill h143 rfl (ls' := [zU, zU, zU, zU, zU, zU, zU]) rfl ?_
      exact z_zret h143 rfl (Or.inl rfl) (fun _ q => q)
    · refine z_iconst h143 rfl ?_
      refine z_goto h143 rfl ?_
      refine z_kill h143 rfl (ls' := [zU, zU, zU, zU, zU, zU, zU]) rfl ?_
      exact z_zret h143 rfl (Or.inr rfl) (fun _ q => q)
set_option maxRecDepth 20000 in
theorem t_qmd_beatsOf (X : Int × (Int → Int)) (n : Nat) (K : zK) (M : zM) (self a1 a2 a3 a4 a5 : Int) (g_self : 1 ≤ self) : Rz X 144 (0, [zr self, zi a1, zi a2, zi a3, zi a4, zi a5, zU, zU, zU, zU], [], M, K) (qmd_beatsOf n K M self a1 a2 a3 a4 a5) (fun e P => P (some (zi e.1), e.2, K)) := by
  have h144 : zT 144 = zt144 := rfl
  unfold qmd_beatsOf
  refine z_iconst h144 rfl ?_
  refine z_istore h144 rfl (Or.inr rfl) (ls' := [zr self, zi a1, zi a2, zi a3, zi a4, zi a5, zi 0, zU, zU, zU]) rfl ?_
  refine z_kill h144 rfl (ls' := [zr self, zi a1, zi a2, zi a3, zi a4, zi a5, zi 0, zU, zU, zU]) rfl ?_
  refine Rz.bind (t := fun e2 => (12, [zr self, zi a1, zi a2, zi a3, zi a4, zi a5, zi e2.1, zU, zU, zU], [], e2.2, K)) ?_ (fun e2 => ?_)
  · refine Rz.wh (hd := fun s1 => (2, [zr self, zi a1, zi a2, zi a3, zi a4, zi a5, zi s1.1, zU, zU, zU], [], s1.2, K)) (fun s1 => ?_) n (0, M)
    (try dsimp only)
    refine z_iload h144 rfl rfl (Or.inr rfl) ?_
    refine z_iconst h144 rfl ?_
    refine z_icge h144 rfl ?_ ?_
    · exact Rz.here fun _ q => q
    · refine z_aload h144 rfl rfl (Or.inl rfl) (by omega) ?_
      refine z_getr (a := 12) (b := 8) (l := [29, 49]) h144 rfl (fun r18 g_r18 => ?_)
      refine z_iload h144 rfl rfl (Or.inr rfl) ?_
      refine z_iconst h144 rfl ?_
      refine z_iast h144 rfl (fun M19 => ?_)
      refine z_iinc h144 rfl rfl (ls' := [zr self, zi a1, zi a2, zi a3, zi a4, zi a5, zi (s1.1 + 1), zU, zU, zU]) rfl ?_
      refine z_goto h144 rfl ?_
      refine z_kill h144 rfl (ls' := [zr self, zi a1, zi a2, zi a3, zi a4, zi a5, zi (s1.1 + 1), zU, zU, zU]) rfl ?_
      exact Rz.here fun _ q => q
  · (try dsimp only)
    refine z_iconst h144 rfl ?_
    refine z_istore h144 rfl (Or.inr rfl) (ls' := [zr self, zi a1, zi a2, zi a3, zi a4, zi a5, zi 0, zU, zU, zU]) rfl ?_
    refine z_iconst h144 rfl ?_
    refine z_istore h144 rfl (Or.inr rfl) (ls' := [zr self, zi a1, zi a2, zi a3, zi a4, zi a5, zi 0, zi 0, zU, zU]) rfl ?_
    refine z_kill h144 rfl (ls' := [zr self, zi a1, zi a2, zi a3, zi a4, zi a5, zi 0, zi 0, zU, zU]) rfl ?_
    refine Rz.wh (hd := fun s3 => (16, [zr self, zi a1, zi a2, zi a3, zi a4, zi a5, zi s3.1, zi s3.2.1, zU, zU], [], s3.2.2, K)) (fun s3 => ?_) n (0, 0, e2.2)
    (try dsimp only)
    refine z_iload h144 rfl rfl (Or.inr rfl) ?_
    refine z_iload h144 rfl rfl (Or.inl rfl) ?_
    refine z_iload h144 rfl rfl (Or.inl rfl) ?_
    refine z_iload h144 rfl rfl (Or.inl rfl) ?_
    refine z_cs (a := 141) (b := 0) (l := [142, 3]) (as := [zi a1, zi a2, zi a3]) (lsE := [zi a1, zi a2, zi a3]) (st' := [zi s3.2.1]) (val := fun p => some (zi p)) (mem := fun _ => s3.2.2) h144 rfl ⟨rfl, rfl, rfl, Nat.le_of_ble_eq_true rfl, Nat.le_of_ble_eq_true rfl, rfl⟩ (t_qmd_cellsOf X K s3.2.2 a1 a2 a3 ) (fun v4 => ?_)
    refine z_icge h144 rfl ?_ ?_
    · refine z_iload h144 rfl rfl (Or.inr rfl) ?_
      exact z_iret h144 rfl (fun _ q => q)
    · refine z_iload h144 rfl rfl (Or.inl rfl) ?_
      refine z_iload h144 rfl rfl (Or.inl rfl) ?_
      refine z_iload h144 rfl rfl (Or.inr rfl) ?_
      refine z_iload h144 rfl rfl (Or.inr rfl) ?_
      refine z_iload h144 rfl rfl (Or.inr rfl) ?_
      refine z_cs (a := 142) (b := 0) (l := [146, 5]) (as := [zi a1, zi a3, zi a4, zi a5, zi s3.2.1]) (lsE := [zi a1, zi a3, zi a4, zi a5, zi s3.2.1, zU, zU]) (st' := []) (val := fun p => some (zi p)) (mem := fun _ => s3.2.2) h144 rfl ⟨rfl, rfl, rfl, Nat.le_of_ble_eq_true rfl, Nat.le_of_ble_eq_true rfl, rfl⟩ (t_qmd_cellAt X K s3.2.2 a1 a3 a4 a5 s3.2.1 ) (fun v5 => ?_)
      refine z_istore h144 rfl (Or.inr rfl) (ls' := [zr self, zi a1, zi a2, zi a3, zi a4, zi a5, zi s3.1, zi s3.2.1, zi v5, zU]) rfl ?_
      refine z_aload h144 rfl rfl (Or.inl rfl) (by omega) ?_
      refine z_getr (a := 12) (b := 7) (l := [26, 49]) h144 rfl (fun r6 g_r6 => ?_)
      refine z_iconst h144 rfl ?_
      refine z_iload h144 rfl rfl (Or.inr rfl) ?_
      refine z_iconst h144 rfl ?_
      refine z_div h144 rfl (fun v7 => ?_)
      refine z_iconst h144 rfl ?_
      refine z_isub h144 rfl ?_
      refine z_imul h144 rfl ?_
      refine z_iload h144 rfl rfl (Or.inr rfl) ?_
      refine z_iconst h144 rfl ?_
      refine z_rem h144 rfl (fun v8 => ?_)
      refine z_iadd h144 rfl ?_
      refine z_iconst h144 rfl ?_
      refine z_isub h144 rfl ?_
      refine z_iald h144 rfl (fun v9 => ?_)
      refine z_istore h144 rfl (Or.inr rfl) (ls' := [zr self, zi a1, zi a2, zi a3, zi a4, zi a5, zi s3.1, zi s3.2.1, zi v5, zi v9]) rfl ?_
      refine z_aload h144 rfl rfl (Or.inl rfl) (by omega) ?_
      refine z_getr (a := 12) (b := 8) (l := [29, 49]) h144 rfl (fun r10 g_r10 => ?_)
      refine z_iload h144 rfl rfl (Or.inr rfl) ?_
      refine z_dup2 h144 rfl ?_
      refine z_iald h144 rfl (fun v11 => ?_)
      refine z_iconst h144 rfl ?_
      refine z_iadd h144 rfl ?_
      refine z_iast h144 rfl (fun M12 => ?_)
      refine z_aload h144 rfl rfl (Or.inl rfl) (by omega) ?_
      refine z_getr (a := 12) (b := 8) (l := [29, 49]) h144 rfl (fun r13 g_r13 => ?_)
      refine z_iload h144 rfl rfl (Or.inr rfl) ?_
      refine z_iald h144 rfl (fun v14 => ?_)
      refine z_iload h144 rfl rfl (Or.inr rfl) ?_
      refine Rz.bind (t := fun j15 => (66, [zr self, zi a1, zi a2, zi a3, zi a4, zi a5, zU, zi s3.2.1, zU, zU], [zi j15], M12, K)) ?_ (fun j15 => ?_)
      · refine z_icle h144 rfl ?_ ?_
        · refine z_iload h144 rfl rfl (Or.inr rfl) ?_
          refine z_kill h144 rfl (ls' := [zr self, zi a1, zi a2, zi a3, zi a4, zi a5, zU, zi s3.2.1, zU, zU]) rfl ?_
          exact Rz.here fun _ q => q
        · refine z_aload h144 rfl rfl (Or.inl rfl) (by omega) ?_
          refine z_getr (a := 12) (b := 8) (l := [29, 49]) h144 rfl (fun r16 g_r16 => ?_)
          refine z_iload h144 rfl rfl (Or.inr rfl) ?_
          refine z_iald h144 rfl (fun v17 => ?_)
          refine z_goto h144 rfl ?_
          refine z_kill h144 rfl (ls' := [zr self, zi a1, zi a2, zi a3, zi a4, zi a5, zU, zi s3.2.1, zU, zU]) rfl ?_
          exact Rz.here fun _ q => q
      · (try dsimp only)
        refine z_istore h144 rfl (Or.inr rfl) (ls' := [zr self, zi a1, zi a2, zi a3, zi a4, zi a5, zi j15, zi s3.2.1, zU, zU]) rfl ?_
        refine z_iinc h144 rfl rfl (ls' := [zr self, zi a1, zi a2, zi a3, zi a4, zi a5, zi j15, zi (s3.2.1 + 1), zU, zU]) rfl ?_
        refine z_goto h144 rfl ?_
        refine z_kill h144 rfl (ls' := [zr self, zi a1, zi a2, zi a3, zi a4, zi a5, zi j15, zi (s3.2.1 + 1), zU, zU]) rfl ?_
        exact Rz.here fun _ q => q
set_option maxRecDepth 20000 in
theorem t_qmd_cut (X : Int × (Int → Int)) (n : Nat) (K : zK) (M : zM) (self a1 a2 a3 a4 a5 : Int) (g_self : 1 ≤ self) : Rz X 145 (0, [zr self, zi a1, zi a2, zi a3, zi a4, zi a5], [], M, K) (qmd_cut n K M self a1 a2 a3 a4 a5) (fun e P => P (some (zi e.1), e.2, K)) := by
  have h145 : zT 145 = zt145 := rfl
  unfold qmd_cut
  refine z_iload h145 rfl rfl (Or.inl rfl) ?_
  refine z_iload h145 rfl rfl (Or.inl rfl) ?_
  refine z_iload h145 rfl rfl (Or.inl rfl) ?_
  refine z_cs (a := 140) (b := 0) (l := [150, 3]) (as := [zi a1, zi a2, zi a3]) (lsE := [zi a1, zi a2, zi a3]) (st' := []) (val := fun p => some (zi p)) (mem := fun _ => M) h145 rfl ⟨rfl, rfl, rfl, Nat.le_of_ble_eq_true rfl, Nat.le_of_ble_eq_true rfl, rfl⟩ (t_qmd_isCut X K M a1 a2 a3 ) (fun v1 => ?_)
  refine z_ifeq h145 rfl ?_ ?_
  · refine z_kill h145 rfl (ls' := [zU, zU, zU, zU, zU, zU]) rfl ?_
    refine z_iconst h145 rfl ?_
    exact z_iret h145 rfl (fun _ q => q)
  · refine z_aload h145 rfl rfl (Or.inl rfl) (by omega) ?_
    refine z_iload h145 rfl rfl (Or.inl rfl) ?_
    refine z_iload h145 rfl rfl (Or.inl rfl) ?_
    refine z_iload h145 rfl rfl (Or.inl rfl) ?_
    refine z_iload h145 rfl rfl (Or.inr rfl) ?_
    refine z_iload h145 rfl rfl (Or.inr rfl) ?_
    refine z_cv (a := 143) (b := 0) (l := [154, 6, 12, 49]) (as := [zi a1, zi a2, zi a3, zi a4, zi a5]) (lsE := [zr self, zi a1, zi a2, zi a3, zi a4, zi a5, zU]) (st' := []) (val := fun p => some (zi p)) (mem := fun _ => M) h145 rfl ⟨rfl, rfl, rfl, Nat.le_of_ble_eq_true rfl, Nat.le_of_ble_eq_true rfl, rfl⟩ (fun g1 => (t_qmd_isThere X K M self a1 a2 a3 a4 a5 (by omega))) (fun v2 => ?_)
    refine z_ifne h145 rfl ?_ ?_
    · refine z_kill h145 rfl (ls' := [zU, zU, zU, zU, zU, zU]) rfl ?_
      refine z_iconst h145 rfl ?_
      exact z_iret h145 rfl (fun _ q => q)
    · refine z_aload h145 rfl rfl (Or.inl rfl) (by omega) ?_
      refine z_cv (a := 137) (b := 0) (l := [135, 1, 12, 49]) (as := []) (lsE := [zr self]) (st' := []) (val := fun _ => none) (mem := fun p => p) h145 rfl ⟨rfl, rfl, rfl, Nat.le_of_ble_eq_true rfl, Nat.le_of_ble_eq_true rfl, rfl⟩ (fun g1 => (t_qmd_laysNow X n K M self (by omega))) (fun M3 => ?_)
      refine z_aload h145 rfl rfl (Or.inl rfl) (by omega) ?_
      refine z_iload h145 rfl rfl (Or.inl rfl) ?_
      refine z_iload h145 rfl rfl (Or.inl rfl) ?_
      refine z_iload h145 rfl rfl (Or.inl rfl) ?_
      refine z_iload h145 rfl rfl (Or.inr rfl) ?_
      refine z_iload h145 rfl rfl (Or.inr rfl) ?_
      refine z_cv (a := 144) (b := 0) (l := [158, 6, 12, 49]) (as := [zi a1, zi a2, zi a3, zi a4, zi a5]) (lsE := [zr self, zi a1, zi a2, zi a3, zi a4, zi a5, zU, zU, zU, zU]) (st' := []) (val := fun p => some (zi p.1)) (mem := fun p => p.2) h145 rfl ⟨rfl, rfl, rfl, Nat.le_of_ble_eq_true rfl, Nat.le_of_ble_eq_true rfl, rfl⟩ (fun g1 => (t_qmd_beatsOf X n K M3 self a1 a2 a3 a4 a5 (by omega))) (fun p4 => ?_)
      exact z_iret h145 rfl (fun _ q => q)
set_option maxRecDepth 20000 in
theorem t_qmd_cuts (X : Int × (Int → Int)) (n : Nat) (K : zK) (M : zM) (self a1 a2 a3 a4 : Int) (g_self : 1 ≤ self) : Rz X 146 (0, [zr self, zi a1, zi a2, zi a3, zi a4, zU, zU, zU, zU, zU, zU, zU, zU], [], M, K) (qmd_cuts n K M self a1 a2 a3 a4) (fun e P => P (some (zi e.1), e.2, K)) := by
  have h146 : zT 146 = zt146 := rfl
  unfold qmd_cuts
  refine z_iload h146 rfl rfl (Or.inl rfl) ?_
  refine z_iload h146 rfl rfl (Or.inl rfl) ?_
  refine z_iload h146 rfl rfl (Or.inl rfl) ?_
  refine z_cs (a := 140) (b := 0) (l := [150, 3]) (as := [zi a1, zi a2, zi a3]) (lsE := [zi a1, zi a2, zi a3]) (st' := []) (val := fun p => some (zi p)) (mem := fun _ => M) h146 rfl ⟨rfl, rfl, rfl, Nat.le_of_ble_eq_true rfl, Nat.le_of_ble_eq_true rfl, rfl⟩ (t_qmd_isCut X K M a1 a2 a3 ) (fun v1 => ?_)
  refine z_ifeq h146 rfl ?_ ?_
  · refine z_kill h146 rfl (ls' := [zU, zU, zU, zU, zU, zU, zU, zU, zU, zU, zU, zU, zU]) rfl ?_
    refine z_iconst h146 rfl ?_
    exact z_iret h146 rfl (fun _ q => q)
  · refine z_iload h146 rfl rfl (Or.inr rfl) ?_
    refine z_ci2l h146 rfl ?_
    refine z_lconst h146 rfl ?_
    refine z_lconst h146 rfl ?_
    refine z_cs (a := 129) (b := 0) (l := [110, 3]) (as := [zl (zw a4), zl 0, zl 4]) (lsE := [zl (zw a4), zU, zl 0, zU, zl 4, zU]) (st' := []) (val := fun p => some (zi p)) (mem := fun _ => M) h146 rfl ⟨rfl, rfl, rfl, Nat.le_of_ble_eq_true rfl, Nat.le_of_ble_eq_true rfl, rfl⟩ (t_qmd_in X K M (zw a4) 0 4 ) (fun v2 => ?_)
    refine z_ifne h146 rfl ?_ ?_
    · refine z_kill h146 rfl (ls' := [zU, zU, zU, zU, zU, zU, zU, zU, zU, zU, zU, zU, zU]) rfl ?_
      refine z_iconst h146 rfl ?_
      exact z_iret h146 rfl (fun _ q => q)
    · refine z_aload h146 rfl rfl (Or.inl rfl) (by omega) ?_
      refine z_cv (a := 137) (b := 0) (l := [135, 1, 12, 49]) (as := []) (lsE := [zr self]) (st' := []) (val := fun _ => none) (mem := fun p => p) h146 rfl ⟨rfl, rfl, rfl, Nat.le_of_ble_eq_true rfl, Nat.le_of_ble_eq_true rfl, rfl⟩ (fun g1 => (t_qmd_laysNow X n K M self (by omega))) (fun M3 => ?_)
      refine z_iconst h146 rfl ?_
      refine z_istore h146 rfl (Or.inr rfl) (ls' := [zr self, zi a1, zi a2, zi a3, zi a4, zi 0, zU, zU, zU, zU, zU, zU, zU]) rfl ?_
      refine z_iconst h146 rfl ?_
      refine z_istore h146 rfl (Or.inr rfl) (ls' := [zr self, zi a1, zi a2, zi a3, zi a4, zi 0, zi 0, zU, zU, zU, zU, zU, zU]) rfl ?_
      refine z_iconst h146 rfl ?_
      refine z_istore h146 rfl (Or.inr rfl) (ls' := [zr self, zi a1, zi a2, zi a3, zi a4, zi 0, zi 0, zi 0, zU, zU, zU, zU, zU]) rfl ?_
      refine z_iconst h146 rfl ?_
      refine z_istore h146 rfl (Or.inr rfl) (ls' := [zr self, zi a1, zi a2, zi a3, zi a4, zi 0, zi 0, zi 0, zi 0, zU, zU, zU, zU]) rfl ?_
      refine z_iconst h146 rfl ?_
      refine z_istore h146 rfl (Or.inr rfl) (ls' := [zr self, zi a1, zi a2, zi a3, zi a4, zi 0, zi 0, zi 0, zi 0, zi (-4), zU, zU, zU]) rfl ?_
      refine z_iconst h146 rfl ?_
      refine z_istore h146 rfl (Or.inr rfl) (ls' := [zr self, zi a1, zi a2, zi a3, zi a4, zi 0, zi 0, zi 0, zi 0, zi (-4), zi 0, zU, zU]) rfl ?_
      refine z_kill h146 rfl (ls' := [zr self, zi a1, zi a2, zi a3, zi a4, zi 0, zi 0, zi 0, zi 0, zi (-4), zi 0, zU, zU]) rfl ?_
      refine Rz.bind (t := fun e5 => (89, [zr self, zi a1, zi a2, zi a3, zi a4, zi e5.1, zi e5.2.1, zi e5.2.2.1, zi e5.2.2.2.1, zi e5.2.2.2.2.1, zi e5.2.2.2.2.2.1, zU, zU], [], e5.2.2.2.2.2.2, K)) ?_ (fun e5 => ?_)
      · refine Rz.wh (hd := fun s4 => (27, [zr self, zi a1, zi a2, zi a3, zi a4, zi s4.1, zi s4.2.1, zi s4.2.2.1, zi s4.2.2.2.1, zi s4.2.2.2.2.1, zi s4.2.2.2.2.2.1, zU, zU], [], s4.2.2.2.2.2.2, K)) (fun s4 => ?_) n (0, 0, 0, 0, (-4), 0, M3)
        (try dsimp only)
        refine z_iload h146 rfl rfl (Or.inr rfl) ?_
        refine z_aload h146 rfl rfl (Or.inl rfl) (by omega) ?_
        refine z_getf (a := 12) (b := 0) (l := [7, 49]) h146 rfl (fun v6 => ?_)
        refine z_icge h146 rfl ?_ ?_
        · exact Rz.here fun _ q => q
        · refine z_iconst h146 rfl ?_
          refine z_istore h146 rfl (Or.inr rfl) (ls' := [zr self, zi a1, zi a2, zi a3, zi a4, zi s4.1, zi s4.2.1, zi s4.2.2.1, zi s4.2.2.2.1, zi s4.2.2.2.2.1, zi s4.2.2.2.2.2.1, zi 0, zU]) rfl ?_
          refine z_kill h146 rfl (ls' := [zr self, zi a1, zi a2, zi a3, zi a4, zi s4.1, zi s4.2.1, zi s4.2.2.1, zi s4.2.2.2.1, zi s4.2.2.2.2.1, zi s4.2.2.2.2.2.1, zi 0, zU]) rfl ?_
          refine Rz.bind (t := fun e8 => (87, [zr self, zi a1, zi a2, zi a3, zi a4, zi e8.1, zi e8.2.1, zi e8.2.2.1, zi e8.2.2.2.1, zi e8.2.2.2.2.1, zi s4.2.2.2.2.2.1, zi e8.2.2.2.2.2.1, zU], [], e8.2.2.2.2.2.2, K)) ?_ (fun e8 => ?_)
          · refine Rz.wh (hd := fun s7 => (33, [zr self, zi a1, zi a2, zi a3, zi a4, zi s7.1, zi s7.2.1, zi s7.2.2.1, zi s7.2.2.2.1, zi s7.2.2.2.2.1, zi s4.2.2.2.2.2.1, zi s7.2.2.2.2.2.1, zU], [], s7.2.2.2.2.2.2, K)) (fun s7 => ?_) n (s4.1, s4.2.1, s4.2.2.1, s4.2.2.2.1, s4.2.2.2.2.1, 0, s4.2.2.2.2.2.2)
            (try dsimp only)
            refine z_iload h146 rfl rfl (Or.inr rfl) ?_
            refine z_aload h146 rfl rfl (Or.inl rfl) (by omega) ?_
            refine z_getf (a := 12) (b := 1) (l := [13, 49]) h146 rfl (fun v9 => ?_)
            refine z_icge h146 rfl ?_ ?_
            · exact Rz.here fun _ q => q
            · refine z_aload h146 rfl rfl (Or.inl rfl) (by omega) ?_
              refine z_iload h146 rfl rfl (Or.inl rfl) ?_
              refine z_iload h146 rfl rfl (Or.inl rfl) ?_
              refine z_iload h146 rfl rfl (Or.inl rfl) ?_
              refine z_iload h146 rfl rfl (Or.inr rfl) ?_
              refine z_iload h146 rfl rfl (Or.inr rfl) ?_
              refine z_cv (a := 143) (b := 0) (l := [154, 6, 12, 49]) (as := [zi a1, zi a2, zi a3, zi s4.2.2.2.2.2.1, zi s7.2.2.2.2.2.1]) (lsE := [zr self, zi a1, zi a2, zi a3, zi s4.2.2.2.2.2.1, zi s7.2.2.2.2.2.1, zU]) (st' := []) (val := fun p => some (zi p)) (mem := fun _ => s7.2.2.2.2.2.2) h146 rfl ⟨rfl, rfl, rfl, Nat.le_of_ble_eq_true rfl, Nat.le_of_ble_eq_true rfl, rfl⟩ (fun g1 => (t_qmd_isThere X K s7.2.2.2.2.2.2 self a1 a2 a3 s4.2.2.2.2.2.1 s7.2.2.2.2.2.1 (by omega))) (fun v10 => ?_)
              refine Rz.bind (t := fun j11 => (85, [zr self, zi a1, zi a2, zi a3, zi a4, zi j11.1, zi j11.2.1, zi j11.2.2.1, zi j11.2.2.2.1, zi j11.2.2.2.2.1, zi s4.2.2.2.2.2.1, zi s7.2.2.2.2.2.1, zU], [], j11.2.2.2.2.2, K)) ?_ (fun j11 => ?_)
              · refine z_ifeq h146 rfl ?_ ?_
                · refine z_kill h146 rfl (ls' := [zr self, zi a1, zi a2, zi a3, zi a4, zi s7.1, zi s7.2.1, zi s7.2.2.1, zi s7.2.2.2.1, zi s7.2.2.2.2.1, zi s4.2.2.2.2.2.1, zi s7.2.2.2.2.2.1, zU]) rfl ?_
                  exact Rz.here fun _ q => q
                · refine z_aload h146 rfl rfl (Or.inl rfl) (by omega) ?_
                  refine z_iload h146 rfl rfl (Or.inl rfl) ?_
                  refine z_iload h146 rfl rfl (Or.inl rfl) ?_
                  refine z_iload h146 rfl rfl (Or.inl rfl) ?_
                  refine z_iload h146 rfl rfl (Or.inr rfl) ?_
                  refine z_iload h146 rfl rfl (Or.inr rfl) ?_
                  refine z_cv (a := 144) (b := 0) (l := [158, 6, 12, 49]) (as := [zi a1, zi a2, zi a3, zi s4.2.2.2.2.2.1, zi s7.2.2.2.2.2.1]) (lsE := [zr self, zi a1, zi a2, zi a3, zi s4.2.2.2.2.2.1, zi s7.2.2.2.2.2.1, zU, zU, zU, zU]) (st' := []) (val := fun p => some (zi p.1)) (mem := fun p => p.2) h146 rfl ⟨rfl, rfl, rfl, Nat.le_of_ble_eq_true rfl, Nat.le_of_ble_eq_true rfl, rfl⟩ (fun g1 => (t_qmd_beatsOf X n K s7.2.2.2.2.2.2 self a1 a2 a3 s4.2.2.2.2.2.1 s7.2.2.2.2.2.1 (by omega))) (fun p12 => ?_)
                  refine z_istore h146 rfl (Or.inr rfl) (ls' := [zr self, zi a1, zi a2, zi a3, zi a4, zi s7.1, zi s7.2.1, zi s7.2.2.1, zi s7.2.2.2.1, zi s7.2.2.2.2.1, zi s4.2.2.2.2.2.1, zi s7.2.2.2.2.2.1, zi p12.1]) rfl ?_
                  refine z_iinc h146 rfl rfl (ls' := [zr self, zi a1, zi a2, zi a3, zi a4, zi (s7.1 + 1), zi s7.2.1, zi s7.2.2.1, zi s7.2.2.2.1, zi s7.2.2.2.2.1, zi s4.2.2.2.2.2.1, zi s7.2.2.2.2.2.1, zi p12.1]) rfl ?_
                  refine z_iload h146 rfl rfl (Or.inr rfl) ?_
                  refine z_iload h146 rfl rfl (Or.inr rfl) ?_
                  refine z_iconst h146 rfl ?_
                  refine Rz.bind (t := fun j13 => (61, [zr self, zi a1, zi a2, zi a3, zi a4, zi (s7.1 + 1), zU, zi s7.2.2.1, zi s7.2.2.2.1, zi s7.2.2.2.2.1, zi s4.2.2.2.2.2.1, zi s7.2.2.2.2.2.1, zi p12.1], [zi j13, zi s7.2.1], p12.2, K)) ?_ (fun j13 => ?_)
                  · refine z_icne h146 rfl ?_ ?_
                    · refine z_iconst h146 rfl ?_
                      refine z_goto h146 rfl ?_
                      refine z_kill h146 rfl (ls' := [zr self, zi a1, zi a2, zi a3, zi a4, zi (s7.1 + 1), zU, zi s7.2.2.1, zi s7.2.2.2.1, zi s7.2.2.2.2.1, zi s4.2.2.2.2.2.1, zi s7.2.2.2.2.2.1, zi p12.1]) rfl ?_
                      exact Rz.here fun _ q => q
                    · refine z_iconst h146 rfl ?_
                      refine z_kill h146 rfl (ls' := [zr self, zi a1, zi a2, zi a3, zi a4, zi (s7.1 + 1), zU, zi s7.2.2.1, zi s7.2.2.2.1, zi s7.2.2.2.2.1, zi s4.2.2.2.2.2.1, zi s7.2.2.2.2.2.1, zi p12.1]) rfl ?_
                      exact Rz.here fun _ q => q
                  · (try dsimp only)
                    refine z_iadd h146 rfl ?_
                    refine z_istoreL (lsf := fun x14 => [zr self, zi a1, zi a2, zi a3, zi a4, zi (s7.1 + 1), zi x14, zi s7.2.2.1, zi s7.2.2.2.1, zi s7.2.2.2.2.1, zi s4.2.2.2.2.2.1, zi s7.2.2.2.2.2.1, zi p12.1]) h146 rfl (Or.inr rfl) (fun _ => rfl) (fun x14 => ?_)
                    (try dsimp only)
                    refine z_iload h146 rfl rfl (Or.inr rfl) ?_
                    refine z_iload h146 rfl rfl (Or.inr rfl) ?_
                    refine z_iadd h146 rfl ?_
                    refine z_istoreL (lsf := fun x15 => [zr self, zi a1, zi a2, zi a3, zi a4, zi (s7.1 + 1), zi x14, zi s7.2.2.1, zi x15, zi s7.2.2.2.2.1, zi s4.2.2.2.2.2.1, zi s7.2.2.2.2.2.1, zi p12.1]) h146 rfl (Or.inr rfl) (fun _ => rfl) (fun x15 => ?_)
                    (try dsimp only)
                    refine z_iload h146 rfl rfl (Or.inr rfl) ?_
                    refine z_iload h146 rfl rfl (Or.inr rfl) ?_
                    refine Rz.bind (t := fun j16 => (77, [zr self, zi a1, zi a2, zi a3, zi a4, zi (s7.1 + 1), zi x14, zi s7.2.2.1, zi x15, zU, zi s4.2.2.2.2.2.1, zi s7.2.2.2.2.2.1, zi p12.1], [zi j16], p12.2, K)) ?_ (fun j16 => ?_)
                    · refine z_icle h146 rfl ?_ ?_
                      · refine z_iload h146 rfl rfl (Or.inr rfl) ?_
                        refine z_kill h146 rfl (ls' := [zr self, zi a1, zi a2, zi a3, zi a4, zi (s7.1 + 1), zi x14, zi s7.2.2.1, zi x15, zU, zi s4.2.2.2.2.2.1, zi s7.2.2.2.2.2.1, zi p12.1]) rfl ?_
                        exact Rz.here fun _ q => q
                      · refine z_iconst h146 rfl ?_
                        refine z_iload h146 rfl rfl (Or.inr rfl) ?_
                        refine z_imul h146 rfl ?_
                        refine z_iload h146 rfl rfl (Or.inr rfl) ?_
                        refine z_iadd h146 rfl ?_
                        refine z_goto h146 rfl ?_
                        refine z_kill h146 rfl (ls' := [zr self, zi a1, zi a2, zi a3, zi a4, zi (s7.1 + 1), zi x14, zi s7.2.2.1, zi x15, zU, zi s4.2.2.2.2.2.1, zi s7.2.2.2.2.2.1, zi p12.1]) rfl ?_
                        exact Rz.here fun _ q => q
                    · (try dsimp only)
                      refine z_istore h146 rfl (Or.inr rfl) (ls' := [zr self, zi a1, zi a2, zi a3, zi a4, zi (s7.1 + 1), zi x14, zi s7.2.2.1, zi x15, zi j16, zi s4.2.2.2.2.2.1, zi s7.2.2.2.2.2.1, zi p12.1]) rfl ?_
                      refine z_iload h146 rfl rfl (Or.inr rfl) ?_
                      refine z_iload h146 rfl rfl (Or.inr rfl) ?_
                      refine Rz.bind (t := fun j17 => (84, [zr self, zi a1, zi a2, zi a3, zi a4, zi (s7.1 + 1), zi x14, zU, zi x15, zi j16, zi s4.2.2.2.2.2.1, zi s7.2.2.2.2.2.1, zU], [zi j17], p12.2, K)) ?_ (fun j17 => ?_)
                      · refine z_icle h146 rfl ?_ ?_
                        · refine z_iload h146 rfl rfl (Or.inr rfl) ?_
                          refine z_kill h146 rfl (ls' := [zr self, zi a1, zi a2, zi a3, zi a4, zi (s7.1 + 1), zi x14, zU, zi x15, zi j16, zi s4.2.2.2.2.2.1, zi s7.2.2.2.2.2.1, zU]) rfl ?_
                          exact Rz.here fun _ q => q
                        · refine z_iload h146 rfl rfl (Or.inr rfl) ?_
                          refine z_goto h146 rfl ?_
                          refine z_kill h146 rfl (ls' := [zr self, zi a1, zi a2, zi a3, zi a4, zi (s7.1 + 1), zi x14, zU, zi x15, zi j16, zi s4.2.2.2.2.2.1, zi s7.2.2.2.2.2.1, zU]) rfl ?_
                          exact Rz.here fun _ q => q
                      · (try dsimp only)
                        refine z_istore h146 rfl (Or.inr rfl) (ls' := [zr self, zi a1, zi a2, zi a3, zi a4, zi (s7.1 + 1), zi x14, zi j17, zi x15, zi j16, zi s4.2.2.2.2.2.1, zi s7.2.2.2.2.2.1, zU]) rfl ?_
                        refine z_kill h146 rfl (ls' := [zr self, zi a1, zi a2, zi a3, zi a4, zi (s7.1 + 1), zi x14, zi j17, zi x15, zi j16, zi s4.2.2.2.2.2.1, zi s7.2.2.2.2.2.1, zU]) rfl ?_
                        exact Rz.here fun _ q => q
              · (try dsimp only)
                refine z_iinc h146 rfl rfl (ls' := [zr self, zi a1, zi a2, zi a3, zi a4, zi j11.1, zi j11.2.1, zi j11.2.2.1, zi j11.2.2.2.1, zi j11.2.2.2.2.1, zi s4.2.2.2.2.2.1, zi (s7.2.2.2.2.2.1 + 1), zU]) rfl ?_
                refine z_goto h146 rfl ?_
                refine z_kill h146 rfl (ls' := [zr self, zi a1, zi a2, zi a3, zi a4, zi j11.1, zi j11.2.1, zi j11.2.2.1, zi j11.2.2.2.1, zi j11.2.2.2.2.1, zi s4.2.2.2.2.2.1, zi (s7.2.2.2.2.2.1 + 1), zU]) rfl ?_
                exact Rz.here fun _ q => q
          · (try dsimp only)
            refine z_iinc h146 rfl rfl (ls' := [zr self, zi a1, zi a2, zi a3, zi a4, zi e8.1, zi e8.2.1, zi e8.2.2.1, zi e8.2.2.2.1, zi e8.2.2.2.2.1, zi (s4.2.2.2.2.2.1 + 1), zi e8.2.2.2.2.2.1, zU]) rfl ?_
            refine z_goto h146 rfl ?_
            refine z_kill h146 rfl (ls' := [zr self, zi a1, zi a2, zi a3, zi a4, zi e8.1, zi e8.2.1, zi e8.2.2.1, zi e8.2.2.2.1, zi e8.2.2.2.2.1, zi (s4.2.2.2.2.2.1 + 1), zU, zU]) rfl ?_
            exact Rz.here fun _ q => q
      · (try dsimp only)
        refine z_iload h146 rfl rfl (Or.inr rfl) ?_
        refine z_ifne h146 rfl ?_ ?_
        · refine z_iload h146 rfl rfl (Or.inr rfl) ?_
          refine z_goto h146 rfl ?_
          refine z_kill h146 rfl (ls' := [zU, zU, zU, zU, zU, zU, zU, zU, zU, zU, zU, zU, zU]) rfl ?_
          exact z_iret h146 rfl (fun _ q => q)
        · refine z_iload h146 rfl rfl (Or.inr rfl) ?_
          refine z_iconst h146 rfl ?_
          refine z_icne h146 rfl ?_ ?_
          · refine z_iload h146 rfl rfl (Or.inr rfl) ?_
            refine z_goto h146 rfl ?_
            refine z_kill h146 rfl (ls' := [zU, zU, zU, zU, zU, zU, zU, zU, zU, zU, zU, zU, zU]) rfl ?_
            exact z_iret h146 rfl (fun _ q => q)
          · refine z_iload h146 rfl rfl (Or.inr rfl) ?_
            refine z_iconst h146 rfl ?_
            refine z_icne h146 rfl ?_ ?_
            · refine z_iload h146 rfl rfl (Or.inr rfl) ?_
              refine z_goto h146 rfl ?_
              refine z_kill h146 rfl (ls' := [zU, zU, zU, zU, zU, zU, zU, zU, zU, zU, zU, zU, zU]) rfl ?_
              exact z_iret h146 rfl (fun _ q => q)
            · refine z_iload h146 rfl rfl (Or.inr rfl) ?_
              refine z_iconst h146 rfl ?_
              refine z_icne h146 rfl ?_ ?_
              · refine z_iload h146 rfl rfl (Or.inr rfl) ?_
                refine z_goto h146 rfl ?_
                refine z_kill h146 rfl (ls' := [zU, zU, zU, zU, zU, zU, zU, zU, zU, zU, zU, zU, zU]) rfl ?_
                exact z_iret h146 rfl (fun _ q => q)
              · refine z_iload h146 rfl rfl (Or.inr rfl) ?_
                refine z_kill h146 rfl (ls' := [zU, zU, zU, zU, zU, zU, zU, zU, zU, zU, zU, zU, zU]) rfl ?_
                exact z_iret h146 rfl (fun _ q => q)
set_option maxRecDepth 20000 in
theorem t_qmd_wish (X : Int × (Int → Int)) (K : zK) (M : zM) (self a1 a2 a3 : Int) (g_self : 1 ≤ self) : Rz X 147 (0, [zr self, zi a1, zi a2, zi a3], [], M, K) (qmd_wish K M self a1 a2 a3) (fun e P => P (some (zi e.1), e.2, K)) := by
  have h147 : zT 147 = zt147 := rfl
  unfold qmd_wish
  refine z_iload h147 rfl rfl (Or.inl rfl) ?_
  refine z_iload h147 rfl rfl (Or.inl rfl) ?_
  refine z_iload h147 rfl rfl (Or.inl rfl) ?_
  refine z_cs (a := 140) (b := 0) (l := [150, 3]) (as := [zi a1, zi a2, zi a3]) (lsE := [zi a1, zi a2, zi a3]) (st' := []) (val := fun p => some (zi p)) (mem := fun _ => M) h147 rfl ⟨rfl, rfl, rfl, Nat.le_of_ble_eq_true rfl, Nat.le_of_ble_eq_true rfl, rfl⟩ (t_qmd_isCut X K M a1 a2 a3 ) (fun v1 => ?_)
  refine z_ifne h147 rfl ?_ ?_
  · refine z_iconst h147 rfl ?_
    exact z_iret h147 rfl (fun _ q => q)
  · refine z_aload h147 rfl rfl (Or.inl rfl) (by omega) ?_
    refine z_getf (a := 12) (b := 9) (l := [161, 49]) h147 rfl (fun v2 => ?_)
    refine z_iconst h147 rfl ?_
    refine z_icne h147 rfl ?_ ?_
    · refine z_iconst h147 rfl ?_
      exact z_iret h147 rfl (fun _ q => q)
    · refine z_aload h147 rfl rfl (Or.inl rfl) (by omega) ?_
      refine z_getr (a := 12) (b := 10) (l := [32, 49]) h147 rfl (fun r3 g_r3 => ?_)
      refine z_aload h147 rfl rfl (Or.inl rfl) (by omega) ?_
      refine z_getf (a := 12) (b := 9) (l := [161, 49]) h147 rfl (fun v4 => ?_)
      refine z_iload h147 rfl rfl (Or.inl rfl) ?_
      refine z_iast h147 rfl (fun M5 => ?_)
      refine z_aload h147 rfl rfl (Or.inl rfl) (by omega) ?_
      refine z_getr (a := 12) (b := 11) (l := [35, 49]) h147 rfl (fun r6 g_r6 => ?_)
      refine z_aload h147 rfl rfl (Or.inl rfl) (by omega) ?_
      refine z_getf (a := 12) (b := 9) (l := [161, 49]) h147 rfl (fun v7 => ?_)
      refine z_iload h147 rfl rfl (Or.inl rfl) ?_
      refine z_iast h147 rfl (fun M8 => ?_)
      refine z_aload h147 rfl rfl (Or.inl rfl) (by omega) ?_
      refine z_getr (a := 12) (b := 12) (l := [38, 49]) h147 rfl (fun r9 g_r9 => ?_)
      refine z_aload h147 rfl rfl (Or.inl rfl) (by omega) ?_
      refine z_getf (a := 12) (b := 9) (l := [161, 49]) h147 rfl (fun v10 => ?_)
      refine z_iload h147 rfl rfl (Or.inl rfl) ?_
      refine z_iast h147 rfl (fun M11 => ?_)
      refine z_aload h147 rfl rfl (Or.inl rfl) (by omega) ?_
      refine z_dupr h147 rfl ?_
      refine z_getf (a := 12) (b := 9) (l := [161, 49]) h147 rfl (fun v12 => ?_)
      refine z_iconst h147 rfl ?_
      refine z_iadd h147 rfl ?_
      refine z_putf (a := 12) (b := 9) (l := [161, 49]) h147 rfl (fun M13 => ?_)
      refine z_aload h147 rfl rfl (Or.inl rfl) (by omega) ?_
      refine z_getf (a := 12) (b := 9) (l := [161, 49]) h147 rfl (fun v14 => ?_)
      refine z_iconst h147 rfl ?_
      refine z_isub h147 rfl ?_
      exact z_iret h147 rfl (fun _ q => q)
set_option maxRecDepth 20000 in
theorem t_qmd_forget (X : Int × (Int → Int)) (K : zK) (M : zM) (self : Int) (g_self : 1 ≤ self) : Rz X 148 (0, [zr self, zU], [], M, K) (qmd_forget K M self) (fun e P => P (some (zi e.1), e.2, K)) := by
  have h148 : zT 148 = zt148 := rfl
  unfold qmd_forget
  refine z_aload h148 rfl rfl (Or.inl rfl) (by omega) ?_
  refine z_getf (a := 12) (b := 9) (l := [161, 49]) h148 rfl (fun v1 => ?_)
  refine z_istore h148 rfl (Or.inl rfl) (ls' := [zr self, zi v1]) rfl ?_
  refine z_aload h148 rfl rfl (Or.inl rfl) (by omega) ?_
  refine z_iconst h148 rfl ?_
  refine z_putf (a := 12) (b := 9) (l := [161, 49]) h148 rfl (fun M2 => ?_)
  refine z_iload h148 rfl rfl (Or.inl rfl) ?_
  exact z_iret h148 rfl (fun _ q => q)
set_option maxRecDepth 20000 in
theorem t_qmd_isFree (X : Int × (Int → Int)) (n : Nat) (K : zK) (M : zM) (self a1 a2 a3 a4 a5 : Int) (g_self : 1 ≤ self) : Rz X 149 (0, [zr self, zi a1, zi a2, zi a3, zi a4, zi a5, zU, zU, zU, zU, zU], [], M, K) (qmd_isFree n K M self a1 a2 a3 a4 a5) (fun e P => P (some (zi e), M, K)) := by
  have h149 : zT 149 = zt149 := rfl
  unfold qmd_isFree
  refine z_iconst h149 rfl ?_
  refine z_istore h149 rfl (Or.inr rfl) (ls' := [zr self, zi a1, zi a2, zi a3, zi a4, zi a5, zi 0, zU, zU, zU, zU]) rfl ?_
  refine z_iconst h149 rfl ?_
  refine z_istore h149 rfl (Or.inr rfl) (ls' := [zr self, zi a1, zi a2, zi a3, zi a4, zi a5, zi 0, zi 1, zU, zU, zU]) rfl ?_
  refine z_iconst h149 rfl ?_
  refine z_istore h149 rfl (Or.inr rfl) (ls' := [zr self, zi a1, zi a2, zi a3, zi a4, zi a5, zi 0, zi 1, zi 0, zU, zU]) rfl ?_
  refine z_kill h149 rfl (ls' := [zr self, zi a1, zi a2, zi a3, zi a4, zi a5, zi 0, zi 1, zi 0, zU, zU]) rfl ?_
  refine Rz.wh (hd := fun s1 => (6, [zr self, zi a1, zi a2, zi a3, zi a4, zi a5, zi s1.1, zi s1.2.1, zi s1.2.2, zU, zU], [], M, K)) (fun s1 => ?_) n (0, 1, 0)
  (try dsimp only)
  refine z_iload h149 rfl rfl (Or.inr rfl) ?_
  refine z_iload h149 rfl rfl (Or.inl rfl) ?_
  refine z_iload h149 rfl rfl (Or.inl rfl) ?_
  refine z_iload h149 rfl rfl (Or.inl rfl) ?_
  refine z_cs (a := 141) (b := 0) (l := [142, 3]) (as := [zi a1, zi a2, zi a3]) (lsE := [zi a1, zi a2, zi a3]) (st' := [zi s1.2.2]) (val := fun p => some (zi p)) (mem := fun _ => M) h149 rfl ⟨rfl, rfl, rfl, Nat.le_of_ble_eq_true rfl, Nat.le_of_ble_eq_true rfl, rfl⟩ (t_qmd_cellsOf X K M a1 a2 a3 ) (fun v2 => ?_)
  refine z_icge h149 rfl ?_ ?_
  · refine z_kill h149 rfl (ls' := [zU, zU, zU, zU, zU, zU, zU, zi s1.2.1, zU, zU, zU]) rfl ?_
    refine z_iload h149 rfl rfl (Or.inr rfl) ?_
    exact z_zretb h149 rfl (fun z hz P q => by cases hz; exact q)
  · refine z_iload h149 rfl rfl (Or.inr rfl) ?_
    refine z_ifeq h149 rfl ?_ ?_
    · refine z_kill h149 rfl (ls' := [zU, zU, zU, zU, zU, zU, zU, zi s1.2.1, zU, zU, zU]) rfl ?_
      refine z_iload h149 rfl rfl (Or.inr rfl) ?_
      exact z_zretb h149 rfl (fun z hz P q => by cases hz; exact q)
    · refine z_iload h149 rfl rfl (Or.inl rfl) ?_
      refine z_iload h149 rfl rfl (Or.inl rfl) ?_
      refine z_iload h149 rfl rfl (Or.inr rfl) ?_
      refine z_iload h149 rfl rfl (Or.inr rfl) ?_
      refine z_iload h149 rfl rfl (Or.inr rfl) ?_
      refine z_cs (a := 142) (b := 0) (l := [146, 5]) (as := [zi a1, zi a3, zi a4, zi a5, zi s1.2.2]) (lsE := [zi a1, zi a3, zi a4, zi a5, zi s1.2.2, zU, zU]) (st' := []) (val := fun p => some (zi p)) (mem := fun _ => M) h149 rfl ⟨rfl, rfl, rfl, Nat.le_of_ble_eq_true rfl, Nat.le_of_ble_eq_true rfl, rfl⟩ (t_qmd_cellAt X K M a1 a3 a4 a5 s1.2.2 ) (fun v5 => ?_)
      refine z_istore h149 rfl (Or.inr rfl) (ls' := [zr self, zi a1, zi a2, zi a3, zi a4, zi a5, zi s1.1, zi s1.2.1, zi s1.2.2, zi v5, zU]) rfl ?_
      refine z_iconst h149 rfl ?_
      refine z_aload h149 rfl rfl (Or.inl rfl) (by omega) ?_
      refine z_getr (a := 12) (b := 7) (l := [26, 49]) h149 rfl (fun r6 g_r6 => ?_)
      refine z_iconst h149 rfl ?_
      refine z_iload h149 rfl rfl (Or.inr rfl) ?_
      refine z_iconst h149 rfl ?_
      refine z_div h149 rfl (fun v7 => ?_)
      refine z_iconst h149 rfl ?_
      refine z_isub h149 rfl ?_
      refine z_imul h149 rfl ?_
      refine z_iload h149 rfl rfl (Or.inr rfl) ?_
      refine z_iconst h149 rfl ?_
      refine z_rem h149 rfl (fun v8 => ?_)
      refine z_iadd h149 rfl ?_
      refine z_iconst h149 rfl ?_
      refine z_isub h149 rfl ?_
      refine z_iald h149 rfl (fun v9 => ?_)
      refine z_ishl h149 rfl ?_
      refine z_istoreL (lsf := fun x10 => [zr self, zi a1, zi a2, zi a3, zi a4, zi a5, zi s1.1, zi s1.2.1, zi s1.2.2, zi v5, zi x10]) h149 rfl (Or.inr rfl) (fun _ => rfl) (fun x10 => ?_)
      (try dsimp only)
      refine z_iload h149 rfl rfl (Or.inr rfl) ?_
      refine z_iload h149 rfl rfl (Or.inr rfl) ?_
      refine z_iand h149 rfl ?_
      refine Rz.bind (t := fun j11 => (47, [zr self, zi a1, zi a2, zi a3, zi a4, zi a5, zi s1.1, zU, zi s1.2.2, zU, zi x10], [zi j11], M, K)) ?_ (fun j11 => ?_)
      · refine z_ifne h149 rfl ?_ ?_
        · refine z_iconst h149 rfl ?_
          refine z_goto h149 rfl ?_
          refine z_kill h149 rfl (ls' := [zr self, zi a1, zi a2, zi a3, zi a4, zi a5, zi s1.1, zU, zi s1.2.2, zU, zi x10]) rfl ?_
          exact Rz.here fun _ q => q
        · refine z_iconst h149 rfl ?_
          refine z_kill h149 rfl (ls' := [zr self, zi a1, zi a2, zi a3, zi a4, zi a5, zi s1.1, zU, zi s1.2.2, zU, zi x10]) rfl ?_
          exact Rz.here fun _ q => q
      · (try dsimp only)
        refine z_istore h149 rfl (Or.inr rfl) (ls' := [zr self, zi a1, zi a2, zi a3, zi a4, zi a5, zi s1.1, zi j11, zi s1.2.2, zU, zi x10]) rfl ?_
        refine z_iload h149 rfl rfl (Or.inr rfl) ?_
        refine z_iload h149 rfl rfl (Or.inr rfl) ?_
        refine z_ior h149 rfl ?_
        refine z_istoreL (lsf := fun x12 => [zr self, zi a1, zi a2, zi a3, zi a4, zi a5, zi x12, zi j11, zi s1.2.2, zU, zi x10]) h149 rfl (Or.inr rfl) (fun _ => rfl) (fun x12 => ?_)
        (try dsimp only)
        refine z_iinc h149 rfl rfl (ls' := [zr self, zi a1, zi a2, zi a3, zi a4, zi a5, zi x12, zi j11, zi (s1.2.2 + 1), zU, zi x10]) rfl ?_
        refine z_goto h149 rfl ?_
        refine z_kill h149 rfl (ls' := [zr self, zi a1, zi a2, zi a3, zi a4, zi a5, zi x12, zi j11, zi (s1.2.2 + 1), zU, zU]) rfl ?_
        exact Rz.here fun _ q => q
set_option maxRecDepth 20000 in
theorem t_qmd_grants (X : Int × (Int → Int)) (n : Nat) (K : zK) (M : zM) (self a1 : Int) (g_self : 1 ≤ self) : Rz X 150 (0, [zr self, zi a1, zU, zU, zU], [], M, K) (qmd_grants n K M self a1) (fun e P => P (some (zi e), M, K)) := by
  have h150 : zT 150 = zt150 := rfl
  unfold qmd_grants
  refine z_iconst h150 rfl ?_
  refine z_istore h150 rfl (Or.inl rfl) (ls' := [zr self, zi a1, zi 1, zU, zU]) rfl ?_
  refine z_iconst h150 rfl ?_
  refine z_istore h150 rfl (Or.inl rfl) (ls' := [zr self, zi a1, zi 1, zi 0, zU]) rfl ?_
  refine z_kill h150 rfl (ls' := [zr self, zi a1, zi 1, zi 0, zU]) rfl ?_
  refine Rz.wh (hd := fun s1 => (4, [zr self, zi a1, zi s1.1, zi s1.2, zU], [], M, K)) (fun s1 => ?_) n (1, 0)
  (try dsimp only)
  refine z_iload h150 rfl rfl (Or.inl rfl) ?_
  refine z_aload h150 rfl rfl (Or.inl rfl) (by omega) ?_
  refine z_getf (a := 12) (b := 0) (l := [7, 49]) h150 rfl (fun v2 => ?_)
  refine z_icge h150 rfl ?_ ?_
  · refine z_kill h150 rfl (ls' := [zU, zU, zi s1.1, zU, zU]) rfl ?_
    refine z_iload h150 rfl rfl (Or.inl rfl) ?_
    exact z_zretb h150 rfl (fun z hz P q => by cases hz; exact q)
  · refine z_iload h150 rfl rfl (Or.inl rfl) ?_
    refine z_ifeq h150 rfl ?_ ?_
    · refine z_kill h150 rfl (ls' := [zU, zU, zi s1.1, zU, zU]) rfl ?_
      refine z_iload h150 rfl rfl (Or.inl rfl) ?_
      exact z_zretb h150 rfl (fun z hz P q => by cases hz; exact q)
    · refine z_iconst h150 rfl ?_
      refine z_istore h150 rfl (Or.inr rfl) (ls' := [zr self, zi a1, zi s1.1, zi s1.2, zi 0]) rfl ?_
      refine Rz.bind (t := fun e6 => (65, [zr self, zi a1, zi e6.1, zi s1.2, zi e6.2], [], M, K)) ?_ (fun e6 => ?_)
      · refine Rz.wh (hd := fun s5 => (12, [zr self, zi a1, zi s5.1, zi s1.2, zi s5.2], [], M, K)) (fun s5 => ?_) n (s1.1, 0)
        (try dsimp only)
        refine z_iload h150 rfl rfl (Or.inr rfl) ?_
        refine z_aload h150 rfl rfl (Or.inl rfl) (by omega) ?_
        refine z_getf (a := 12) (b := 1) (l := [13, 49]) h150 rfl (fun v7 => ?_)
        refine z_icge h150 rfl ?_ ?_
        · exact Rz.here fun _ q => q
        · refine z_iload h150 rfl rfl (Or.inl rfl) ?_
          refine z_ifeq h150 rfl ?_ ?_
          · exact Rz.here fun _ q => q
          · refine z_aload h150 rfl rfl (Or.inl rfl) (by omega) ?_
            refine z_aload h150 rfl rfl (Or.inl rfl) (by omega) ?_
            refine z_getr (a := 12) (b := 10) (l := [32, 49]) h150 rfl (fun r8 g_r8 => ?_)
            refine z_iload h150 rfl rfl (Or.inl rfl) ?_
            refine z_iald h150 rfl (fun v9 => ?_)
            refine z_aload h150 rfl rfl (Or.inl rfl) (by omega) ?_
            refine z_getr (a := 12) (b := 11) (l := [35, 49]) h150 rfl (fun r10 g_r10 => ?_)
            refine z_iload h150 rfl rfl (Or.inl rfl) ?_
            refine z_iald h150 rfl (fun v11 => ?_)
            refine z_aload h150 rfl rfl (Or.inl rfl) (by omega) ?_
            refine z_getr (a := 12) (b := 12) (l := [38, 49]) h150 rfl (fun r12 g_r12 => ?_)
            refine z_iload h150 rfl rfl (Or.inl rfl) ?_
            refine z_iald h150 rfl (fun v13 => ?_)
            refine z_iload h150 rfl rfl (Or.inl rfl) ?_
            refine z_iload h150 rfl rfl (Or.inr rfl) ?_
            refine z_cv (a := 143) (b := 0) (l := [154, 6, 12, 49]) (as := [zi v9, zi v11, zi v13, zi s1.2, zi s5.2]) (lsE := [zr self, zi v9, zi v11, zi v13, zi s1.2, zi s5.2, zU]) (st' := []) (val := fun p => some (zi p)) (mem := fun _ => M) h150 rfl ⟨rfl, rfl, rfl, Nat.le_of_ble_eq_true rfl, Nat.le_of_ble_eq_true rfl, rfl⟩ (fun g1 => (t_qmd_isThere X K M self v9 v11 v13 s1.2 s5.2 (by omega))) (fun v14 => ?_)
            refine Rz.esc (t := fun j15 => (52, [zr self, zi a1, zU, zi s1.2, zi s5.2], [], M, K)) ?_ (fun j15 => ?_)
            · refine z_ifeq h150 rfl ?_ ?_
              · refine z_kill h150 rfl (ls' := [zr self, zi a1, zU, zi s1.2, zi s5.2]) rfl ?_
                exact Rz.here fun _ q => q
              · refine z_aload h150 rfl rfl (Or.inl rfl) (by omega) ?_
                refine z_aload h150 rfl rfl (Or.inl rfl) (by omega) ?_
                refine z_getr (a := 12) (b := 10) (l := [32, 49]) h150 rfl (fun r16 g_r16 => ?_)
                refine z_iload h150 rfl rfl (Or.inl rfl) ?_
                refine z_iald h150 rfl (fun v17 => ?_)
                refine z_aload h150 rfl rfl (Or.inl rfl) (by omega) ?_
                refine z_getr (a := 12) (b := 11) (l := [35, 49]) h150 rfl (fun r18 g_r18 => ?_)
                refine z_iload h150 rfl rfl (Or.inl rfl) ?_
                refine z_iald h150 rfl (fun v19 => ?_)
                refine z_aload h150 rfl rfl (Or.inl rfl) (by omega) ?_
                refine z_getr (a := 12) (b := 12) (l := [38, 49]) h150 rfl (fun r20 g_r20 => ?_)
                refine z_iload h150 rfl rfl (Or.inl rfl) ?_
                refine z_iald h150 rfl (fun v21 => ?_)
                refine z_iload h150 rfl rfl (Or.inl rfl) ?_
                refine z_iload h150 rfl rfl (Or.inr rfl) ?_
                refine z_cv (a := 149) (b := 0) (l := [164, 6, 12, 49]) (as := [zi v17, zi v19, zi v21, zi s1.2, zi s5.2]) (lsE := [zr self, zi v17, zi v19, zi v21, zi s1.2, zi s5.2, zU, zU, zU, zU, zU]) (st' := []) (val := fun p => some (zi p)) (mem := fun _ => M) h150 rfl ⟨rfl, rfl, rfl, Nat.le_of_ble_eq_true rfl, Nat.le_of_ble_eq_true rfl, rfl⟩ (fun g1 => (t_qmd_isFree X n K M self v17 v19 v21 s1.2 s5.2 (by omega))) (fun v22 => ?_)
                refine z_ifeq h150 rfl ?_ ?_
                · refine z_iconst h150 rfl ?_
                  refine z_kill h150 rfl (ls' := [zr self, zi a1, zU, zi s1.2, zi s5.2]) rfl ?_
                  refine z_istore h150 rfl (Or.inl rfl) (ls' := [zr self, zi a1, zi 0, zi s1.2, zi s5.2]) rfl ?_
                  refine z_iinc h150 rfl rfl (ls' := [zr self, zi a1, zi 0, zi s1.2, zi (s5.2 + 1)]) rfl ?_
                  refine z_goto h150 rfl ?_
                  exact Rz.here fun _ q => q
                · refine z_kill h150 rfl (ls' := [zr self, zi a1, zU, zi s1.2, zi s5.2]) rfl ?_
                  exact Rz.here fun _ q => q
            · (try dsimp only)
              refine z_iconst h150 rfl ?_
              refine z_goto h150 rfl ?_
              refine z_kill h150 rfl (ls' := [zr self, zi a1, zU, zi s1.2, zi s5.2]) rfl ?_
              refine z_istore h150 rfl (Or.inl rfl) (ls' := [zr self, zi a1, zi 1, zi s1.2, zi s5.2]) rfl ?_
              refine z_iinc h150 rfl rfl (ls' := [zr self, zi a1, zi 1, zi s1.2, zi (s5.2 + 1)]) rfl ?_
              refine z_goto h150 rfl ?_
              exact Rz.here fun _ q => q
      · (try dsimp only)
        refine z_kill h150 rfl (ls' := [zr self, zi a1, zi e6.1, zi s1.2, zU]) rfl ?_
        refine z_iinc h150 rfl rfl (ls' := [zr self, zi a1, zi e6.1, zi (s1.2 + 1), zU]) rfl ?_
        refine z_goto h150 rfl ?_
        refine z_kill h150 rfl (ls' := [zr self, zi a1, zi e6.1, zi (s1.2 + 1), zU]) rfl ?_
        exact Rz.here fun _ q => q
set_option maxRecDepth 20000 in
theorem t_qmd_granted (X : Int × (Int → Int)) (n : Nat) (K : zK) (M : zM) (self : Int) (g_self : 1 ≤ self) : Rz X 151 (0, [zr self, zU, zU], [], M, K) (qmd_granted n K M self) (fun e P => P (some (zi e.1), e.2, K)) := by
  have h151 : zT 151 = zt151 := rfl
  unfold qmd_granted
  refine z_aload h151 rfl rfl (Or.inl rfl) (by omega) ?_
  refine z_cv (a := 137) (b := 0) (l := [135, 1, 12, 49]) (as := []) (lsE := [zr self]) (st' := []) (val := fun _ => none) (mem := fun p => p) h151 rfl ⟨rfl, rfl, rfl, Nat.le_of_ble_eq_true rfl, Nat.le_of_ble_eq_true rfl, rfl⟩ (fun g1 => (t_qmd_laysNow X n K M self (by omega))) (fun M1 => ?_)
  refine z_iconst h151 rfl ?_
  refine z_istore h151 rfl (Or.inl rfl) (ls' := [zr self, zi 0, zU]) rfl ?_
  refine z_iconst h151 rfl ?_
  refine z_istore h151 rfl (Or.inl rfl) (ls' := [zr self, zi 0, zi 0]) rfl ?_
  refine Rz.wh (hd := fun s2 => (6, [zr self, zi s2.1, zi s2.2], [], M1, K)) (fun s2 => ?_) n (0, 0)
  (try dsimp only)
  refine z_iload h151 rfl rfl (Or.inl rfl) ?_
  refine z_aload h151 rfl rfl (Or.inl rfl) (by omega) ?_
  refine z_getf (a := 12) (b := 9) (l := [161, 49]) h151 rfl (fun v3 => ?_)
  refine z_icge h151 rfl ?_ ?_
  · refine z_iload h151 rfl rfl (Or.inl rfl) ?_
    exact z_iret h151 rfl (fun _ q => q)
  · refine z_iload h151 rfl rfl (Or.inl rfl) ?_
    refine z_aload h151 rfl rfl (Or.inl rfl) (by omega) ?_
    refine z_iload h151 rfl rfl (Or.inl rfl) ?_
    refine z_cv (a := 150) (b := 0) (l := [167, 2, 12, 49]) (as := [zi s2.2]) (lsE := [zr self, zi s2.2, zU, zU, zU]) (st' := [zi s2.1]) (val := fun p => some (zi p)) (mem := fun _ => M1) h151 rfl ⟨rfl, rfl, rfl, Nat.le_of_ble_eq_true rfl, Nat.le_of_ble_eq_true rfl, rfl⟩ (fun g1 => (t_qmd_grants X n K M1 self s2.2 (by omega))) (fun v4 => ?_)
    refine Rz.bind (t := fun j5 => (20, [zr self, zU, zi s2.2], [zi j5, zi s2.1], M1, K)) ?_ (fun j5 => ?_)
    · refine z_ifeq h151 rfl ?_ ?_
      · refine z_iconst h151 rfl ?_
        refine z_kill h151 rfl (ls' := [zr self, zU, zi s2.2]) rfl ?_
        exact Rz.here fun _ q => q
      · refine z_iconst h151 rfl ?_
        refine z_iload h151 rfl rfl (Or.inl rfl) ?_
        refine z_ishl h151 rfl ?_
        refine z_goto h151 rfl ?_
        refine z_kill h151 rfl (ls' := [zr self, zU, zi s2.2]) rfl ?_
        exact Rz.here fun _ q => q
    · (try dsimp only)
      refine z_ior h151 rfl ?_
      refine z_istoreL (lsf := fun x6 => [zr self, zi x6, zi s2.2]) h151 rfl (Or.inl rfl) (fun _ => rfl) (fun x6 => ?_)
      (try dsimp only)
      refine z_iinc h151 rfl rfl (ls' := [zr self, zi x6, zi (s2.2 + 1)]) rfl ?_
      refine z_goto h151 rfl ?_
      exact Rz.here fun _ q => q
