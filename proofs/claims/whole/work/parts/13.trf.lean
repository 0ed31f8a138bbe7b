set_option maxRecDepth 20000 in
theorem t_qmd_steps (X : Int × (Int → Int)) (n : Nat) (K : zK) (M : zM) (self a1 : Int) (g_self : 1 ≤ self) : Rz X 175 (0, [zr self, zi a1, zU, zU, zU, zU, zU], [], M, K) (qmd_steps n K M self a1) (fun e P => P (some (zi e.1), e.2, K)) := by
  have h175 : zT 175 = zt175 := rfl
  unfold qmd_steps
  refine z_iload h175 rfl rfl (Or.inl rfl) ?_
  refine z_ci2l h175 rfl ?_
  refine z_lconst h175 rfl ?_
  refine z_lconst h175 rfl ?_
  refine z_cs (a := 129) (b := 0) (l := [110, 3]) (as := [zl (zw a1), zl 0, zl 1]) (lsE := [zl (zw a1), zU, zl 0, zU, zl 1, zU]) (st' := []) (val := fun p => some (zi p)) (mem := fun _ => M) h175 rfl ⟨rfl, rfl, rfl, Nat.le_of_ble_eq_true rfl, Nat.le_of_ble_eq_true rfl, rfl⟩ (t_qmd_in X K M (zw a1) 0 1 ) (fun v1 => ?_)
  refine z_ifne h175 rfl ?_ ?_
  · refine z_iconst h175 rfl ?_
    exact z_iret h175 rfl (fun _ q => q)
  · refine z_iconst h175 rfl ?_
    refine z_istore h175 rfl (Or.inl rfl) (ls' := [zr self, zi a1, zi 0, zU, zU, zU, zU]) rfl ?_
    refine z_iconst h175 rfl ?_
    refine z_istore h175 rfl (Or.inl rfl) (ls' := [zr self, zi a1, zi 0, zi 1, zU, zU, zU]) rfl ?_
    refine z_iconst h175 rfl ?_
    refine z_istore h175 rfl (Or.inr rfl) (ls' := [zr self, zi a1, zi 0, zi 1, zi 1, zU, zU]) rfl ?_
    refine z_iconst h175 rfl ?_
    refine z_istore h175 rfl (Or.inr rfl) (ls' := [zr self, zi a1, zi 0, zi 1, zi 1, zi 0, zU]) rfl ?_
    refine z_iconst h175 rfl ?_
    refine z_istore h175 rfl (Or.inr rfl) (ls' := [zr self, zi a1, zi 0, zi 1, zi 1, zi 0, zi 1]) rfl ?_
    refine Rz.wh (hd := fun s2 => (18, [zr self, zi a1, zi s2.1, zi s2.2.1, zi s2.2.2.1, zi s2.2.2.2.1, zi s2.2.2.2.2.1], [], s2.2.2.2.2.2, K)) (fun s2 => ?_) n (0, 1, 1, 0, 1, M)
    (try dsimp only)
    refine z_iload h175 rfl rfl (Or.inr rfl) ?_
    refine z_iconst h175 rfl ?_
    refine z_icge h175 rfl ?_ ?_
    · refine z_iload h175 rfl rfl (Or.inl rfl) ?_
      refine z_ifne h175 rfl ?_ ?_
      · refine z_iload h175 rfl rfl (Or.inl rfl) ?_
        refine z_goto h175 rfl ?_
        refine z_kill h175 rfl (ls' := [zU, zU, zU, zU, zU, zU, zU]) rfl ?_
        exact z_iret h175 rfl (fun _ q => q)
      · refine z_iload h175 rfl rfl (Or.inl rfl) ?_
        refine z_kill h175 rfl (ls' := [zU, zU, zU, zU, zU, zU, zU]) rfl ?_
        exact z_iret h175 rfl (fun _ q => q)
    · refine z_aload h175 rfl rfl (Or.inl rfl) (by omega) ?_
      refine z_iconst h175 rfl ?_
      refine z_iload h175 rfl rfl (Or.inr rfl) ?_
      refine z_cv (a := 173) (b := 0) (l := [241, 3, 12, 49]) (as := [zi 0, zi s2.2.2.2.2.1]) (lsE := [zr self, zi 0, zi s2.2.2.2.2.1, zU, zU, zU, zU, zU, zU, zU, zU, zU]) (st' := []) (val := fun p => some (zi p.1)) (mem := fun p => p.2) h175 rfl ⟨rfl, rfl, rfl, Nat.le_of_ble_eq_true rfl, Nat.le_of_ble_eq_true rfl, rfl⟩ (fun g1 => (t_qmd_findRate X n K s2.2.2.2.2.2 self 0 s2.2.2.2.2.1 (by omega))) (fun p3 => ?_)
      refine z_ifne h175 rfl ?_ ?_
      · refine z_iconst h175 rfl ?_
        exact z_iret h175 rfl (fun _ q => q)
      · refine z_iload h175 rfl rfl (Or.inl rfl) ?_
        refine z_aload h175 rfl rfl (Or.inl rfl) (by omega) ?_
        refine z_getf (a := 12) (b := 21) (l := [232, 49]) h175 rfl (fun v4 => ?_)
        refine z_aload h175 rfl rfl (Or.inl rfl) (by omega) ?_
        refine z_getf (a := 12) (b := 22) (l := [235, 49]) h175 rfl (fun v5 => ?_)
        refine Rz.bind (t := fun j6 => (37, [zr self, zi a1, zU, zi s2.2.1, zi s2.2.2.1, zi s2.2.2.2.1, zi s2.2.2.2.2.1], [zi j6, zi s2.1], p3.2, K)) ?_ (fun j6 => ?_)
        · refine z_icne h175 rfl ?_ ?_
          · refine z_iconst h175 rfl ?_
            refine z_goto h175 rfl ?_
            refine z_kill h175 rfl (ls' := [zr self, zi a1, zU, zi s2.2.1, zi s2.2.2.1, zi s2.2.2.2.1, zi s2.2.2.2.2.1]) rfl ?_
            exact Rz.here fun _ q => q
          · refine z_iconst h175 rfl ?_
            refine z_kill h175 rfl (ls' := [zr self, zi a1, zU, zi s2.2.1, zi s2.2.2.1, zi s2.2.2.2.1, zi s2.2.2.2.2.1]) rfl ?_
            exact Rz.here fun _ q => q
        · (try dsimp only)
          refine z_iadd h175 rfl ?_
          refine z_istoreL (lsf := fun x7 => [zr self, zi a1, zi x7, zi s2.2.1, zi s2.2.2.1, zi s2.2.2.2.1, zi s2.2.2.2.2.1]) h175 rfl (Or.inl rfl) (fun _ => rfl) (fun x7 => ?_)
          (try dsimp only)
          refine z_iload h175 rfl rfl (Or.inr rfl) ?_
          refine Rz.esc (t := fun j8 => (50, [zr self, zi a1, zi x7, zU, zU, zU, zi s2.2.2.2.2.1], [], p3.2, K)) ?_ (fun j8 => ?_)
          · refine z_ifeq h175 rfl ?_ ?_
            · refine z_kill h175 rfl (ls' := [zr self, zi a1, zi x7, zU, zU, zU, zi s2.2.2.2.2.1]) rfl ?_
              exact Rz.here fun _ q => q
            · refine z_aload h175 rfl rfl (Or.inl rfl) (by omega) ?_
              refine z_getf (a := 12) (b := 21) (l := [232, 49]) h175 rfl (fun v11 => ?_)
              refine z_iload h175 rfl rfl (Or.inr rfl) ?_
              refine z_imul h175 rfl ?_
              refine z_iload h175 rfl rfl (Or.inr rfl) ?_
              refine z_aload h175 rfl rfl (Or.inl rfl) (by omega) ?_
              refine z_getf (a := 12) (b := 22) (l := [235, 49]) h175 rfl (fun v12 => ?_)
              refine z_imul h175 rfl ?_
              refine z_icge h175 rfl ?_ ?_
              · refine z_iinc h175 rfl rfl (ls' := [zr self, zi a1, zi x7, zi s2.2.1, zi s2.2.2.1, zi s2.2.2.2.1, zi (s2.2.2.2.2.1 + 1)]) rfl ?_
                refine z_goto h175 rfl ?_
                exact Rz.here fun _ q => q
              · refine z_kill h175 rfl (ls' := [zr self, zi a1, zi x7, zU, zU, zU, zi s2.2.2.2.2.1]) rfl ?_
                exact Rz.here fun _ q => q
          · (try dsimp only)
            refine z_iload h175 rfl rfl (Or.inr rfl) ?_
            refine z_istore h175 rfl (Or.inl rfl) (ls' := [zr self, zi a1, zi x7, zi s2.2.2.2.2.1, zU, zU, zi s2.2.2.2.2.1]) rfl ?_
            refine z_aload h175 rfl rfl (Or.inl rfl) (by omega) ?_
            refine z_getf (a := 12) (b := 21) (l := [232, 49]) h175 rfl (fun v9 => ?_)
            refine z_istore h175 rfl (Or.inr rfl) (ls' := [zr self, zi a1, zi x7, zi s2.2.2.2.2.1, zi v9, zU, zi s2.2.2.2.2.1]) rfl ?_
            refine z_aload h175 rfl rfl (Or.inl rfl) (by omega) ?_
            refine z_getf (a := 12) (b := 22) (l := [235, 49]) h175 rfl (fun v10 => ?_)
            refine z_istore h175 rfl (Or.inr rfl) (ls' := [zr self, zi a1, zi x7, zi s2.2.2.2.2.1, zi v9, zi v10, zi s2.2.2.2.2.1]) rfl ?_
            refine z_iinc h175 rfl rfl (ls' := [zr self, zi a1, zi x7, zi s2.2.2.2.2.1, zi v9, zi v10, zi (s2.2.2.2.2.1 + 1)]) rfl ?_
            refine z_goto h175 rfl ?_
            exact Rz.here fun _ q => q
set_option maxRecDepth 20000 in
theorem t_qmd_feed (X : Int × (Int → Int)) (n : Nat) (K : zK) (M : zM) (self a1 : Int) (g_self : 1 ≤ self) : Rz X 176 (0, [zr self, zl a1, zU, zU], [], M, K) (qmd_feed n K M self a1) (fun e P => P (some (zi e.1), e.2, K)) := by
  have h176 : zT 176 = zt176 := rfl
  unfold qmd_feed
  refine z_aload h176 rfl rfl (Or.inl rfl) (by omega) ?_
  refine z_getf (a := 12) (b := 36) (l := [244, 49]) h176 rfl (fun v1 => ?_)
  refine z_iconst h176 rfl ?_
  refine z_iadd h176 rfl ?_
  refine z_iconst h176 rfl ?_
  refine z_icle h176 rfl ?_ ?_
  · refine z_iconst h176 rfl ?_
    refine z_istore h176 rfl (Or.inl rfl) (ls' := [zr self, zl a1, zU, zi 56]) rfl ?_
    refine Rz.wh (hd := fun s2 => (10, [zr self, zl a1, zU, zi s2.1], [], s2.2, K)) (fun s2 => ?_) n (56, M)
    (try dsimp only)
    refine z_iload h176 rfl rfl (Or.inl rfl) ?_
    refine z_iflt h176 rfl ?_ ?_
    · refine z_aload h176 rfl rfl (Or.inl rfl) (by omega) ?_
      refine z_getf (a := 12) (b := 36) (l := [244, 49]) h176 rfl (fun v3 => ?_)
      exact z_iret h176 rfl (fun _ q => q)
    · refine z_aload h176 rfl rfl (Or.inl rfl) (by omega) ?_
      refine z_getr (a := 12) (b := 35) (l := [87, 49]) h176 rfl (fun r4 g_r4 => ?_)
      refine z_aload h176 rfl rfl (Or.inl rfl) (by omega) ?_
      refine z_getf (a := 12) (b := 36) (l := [244, 49]) h176 rfl (fun v5 => ?_)
      refine z_lload h176 rfl rfl (Or.inl rfl) ?_
      refine z_iload h176 rfl rfl (Or.inl rfl) ?_
      refine z_lshr h176 rfl ?_
      refine z_lconst h176 rfl ?_
      refine z_land h176 rfl ?_
      refine z_cl2i h176 rfl ?_
      refine z_iast h176 rfl (fun M6 => ?_)
      refine z_aload h176 rfl rfl (Or.inl rfl) (by omega) ?_
      refine z_dupr h176 rfl ?_
      refine z_getf (a := 12) (b := 36) (l := [244, 49]) h176 rfl (fun v7 => ?_)
      refine z_iconst h176 rfl ?_
      refine z_iadd h176 rfl ?_
      refine z_putf (a := 12) (b := 36) (l := [244, 49]) h176 rfl (fun M8 => ?_)
      refine z_iinc h176 rfl rfl (ls' := [zr self, zl a1, zU, zi (s2.1 + (-8))]) rfl ?_
      refine z_goto h176 rfl ?_
      exact Rz.here fun _ q => q
  · refine z_iconst h176 rfl ?_
    exact z_iret h176 rfl (fun _ q => q)
set_option maxRecDepth 20000 in
theorem t_qmd_end (X : Int × (Int → Int)) (K : zK) (M : zM) (self a1 : Int) (g_self : 1 ≤ self) : Rz X 177 (0, [zr self, zi a1, zU], [], M, K) (qmd_end K M self a1) (fun e P => P (some (zi e.1), e.2, K)) := by
  have h177 : zT 177 = zt177 := rfl
  unfold qmd_end
  refine z_iload h177 rfl rfl (Or.inl rfl) ?_
  refine z_ci2l h177 rfl ?_
  refine z_lconst h177 rfl ?_
  refine z_aload h177 rfl rfl (Or.inl rfl) (by omega) ?_
  refine z_getf (a := 12) (b := 36) (l := [244, 49]) h177 rfl (fun v1 => ?_)
  refine z_ci2l h177 rfl ?_
  refine z_cs (a := 129) (b := 0) (l := [110, 3]) (as := [zl (zw a1), zl 0, zl (zw v1)]) (lsE := [zl (zw a1), zU, zl 0, zU, zl (zw v1), zU]) (st' := []) (val := fun p => some (zi p)) (mem := fun _ => M) h177 rfl ⟨rfl, rfl, rfl, Nat.le_of_ble_eq_true rfl, Nat.le_of_ble_eq_true rfl, rfl⟩ (t_qmd_in X K M (zw a1) 0 (zw v1) ) (fun v2 => ?_)
  refine z_ifne h177 rfl ?_ ?_
  · refine z_iconst h177 rfl ?_
    exact z_iret h177 rfl (fun _ q => q)
  · refine z_aload h177 rfl rfl (Or.inl rfl) (by omega) ?_
    refine z_getf (a := 12) (b := 36) (l := [244, 49]) h177 rfl (fun v3 => ?_)
    refine z_istore h177 rfl (Or.inl rfl) (ls' := [zr self, zi a1, zi v3]) rfl ?_
    refine z_aload h177 rfl rfl (Or.inl rfl) (by omega) ?_
    refine z_iload h177 rfl rfl (Or.inl rfl) ?_
    refine z_putf (a := 12) (b := 36) (l := [244, 49]) h177 rfl (fun M4 => ?_)
    refine z_iload h177 rfl rfl (Or.inl rfl) ?_
    exact z_iret h177 rfl (fun _ q => q)
set_option maxRecDepth 20000 in
theorem t_qmd_wants (X : Int × (Int → Int)) (K : zK) (M : zM) (self a1 a2 : Int) (g_self : 1 ≤ self) : Rz X 178 (0, [zr self, zi a1, zi a2], [], M, K) (qmd_wants K M self a1 a2) (fun e P => P (none, e, K)) := by
  have h178 : zT 178 = zt178 := rfl
  unfold qmd_wants
  refine z_iload h178 rfl rfl (Or.inl rfl) ?_
  refine z_ifne h178 rfl ?_ ?_
  · refine z_aload h178 rfl rfl (Or.inl rfl) (by omega) ?_
    refine z_getf (a := 12) (b := 41) (l := [249, 49]) h178 rfl (fun v1 => ?_)
    refine z_ifne h178 rfl ?_ ?_
    · refine z_aload h178 rfl rfl (Or.inl rfl) (by omega) ?_
      refine z_iload h178 rfl rfl (Or.inl rfl) ?_
      refine z_putf (a := 12) (b := 41) (l := [249, 49]) h178 rfl (fun M2 => ?_)
      refine z_aload h178 rfl rfl (Or.inl rfl) (by omega) ?_
      refine z_aload h178 rfl rfl (Or.inl rfl) (by omega) ?_
      refine z_getf (a := 12) (b := 38) (l := [252, 49]) h178 rfl (fun v3 => ?_)
      refine z_putf (a := 12) (b := 42) (l := [255, 49]) h178 rfl (fun M4 => ?_)
      refine z_kill h178 rfl (ls' := [zU, zU, zU]) rfl ?_
      exact z_vret h178 rfl (fun _ q => q)
    · refine z_kill h178 rfl (ls' := [zU, zU, zU]) rfl ?_
      exact z_vret h178 rfl (fun _ q => q)
  · refine z_kill h178 rfl (ls' := [zU, zU, zU]) rfl ?_
    exact z_vret h178 rfl (fun _ q => q)
set_option maxRecDepth 20000 in
theorem t_qmd_look (X : Int × (Int → Int)) (K : zK) (M : zM) (self a1 : Int) (g_self : 1 ≤ self) : Rz X 179 (0, [zr self, zi a1], [], M, K) (qmd_look K M self a1) (fun e P => P (some (zi e), M, K)) := by
  have h179 : zT 179 = zt179 := rfl
  unfold qmd_look
  refine z_iload h179 rfl rfl (Or.inl rfl) ?_
  refine z_aload h179 rfl rfl (Or.inl rfl) (by omega) ?_
  refine z_getf (a := 12) (b := 36) (l := [244, 49]) h179 rfl (fun v1 => ?_)
  refine z_icge h179 rfl ?_ ?_
  · refine z_iconst h179 rfl ?_
    refine z_kill h179 rfl (ls' := [zU, zU]) rfl ?_
    exact z_iret h179 rfl (fun _ q => q)
  · refine z_aload h179 rfl rfl (Or.inl rfl) (by omega) ?_
    refine z_getr (a := 12) (b := 35) (l := [87, 49]) h179 rfl (fun r2 g_r2 => ?_)
    refine z_iload h179 rfl rfl (Or.inl rfl) ?_
    refine z_iald h179 rfl (fun v3 => ?_)
    refine z_goto h179 rfl ?_
    refine z_kill h179 rfl (ls' := [zU, zU]) rfl ?_
    exact z_iret h179 rfl (fun _ q => q)
set_option maxRecDepth 20000 in
theorem t_qmd_next (X : Int × (Int → Int)) (n : Nat) (K : zK) (M : zM) (self : Int) (g_self : 1 ≤ self) : Rz X 180 (0, [zr self, zU], [], M, K) (qmd_next n K M self) (fun e P => P (none, e, K)) := by
  have h180 : zT 180 = zt180 := rfl
  unfold qmd_next
  refine z_aload h180 rfl rfl (Or.inl rfl) (by omega) ?_
  refine z_getf (a := 12) (b := 41) (l := [249, 49]) h180 rfl (fun v1 => ?_)
  refine z_ifle h180 rfl ?_ ?_
  · refine z_kill h180 rfl (ls' := [zr self, zU]) rfl ?_
    refine Rz.bind (t := fun e3 => (17, [zr self, zU], [], e3, K)) ?_ (fun e3 => ?_)
    · refine Rz.wh (hd := fun s2 => (4, [zr self, zU], [], s2, K)) (fun s2 => ?_) n M
      (try dsimp only)
      refine z_aload h180 rfl rfl (Or.inl rfl) (by omega) ?_
      refine z_aload h180 rfl rfl (Or.inl rfl) (by omega) ?_
      refine z_getf (a := 12) (b := 37) (l := [258, 49]) h180 rfl (fun v44 => ?_)
      refine z_cv (a := 179) (b := 0) (l := [261, 2, 12, 49]) (as := [zi v44]) (lsE := [zr self, zi v44]) (st' := []) (val := fun p => some (zi p)) (mem := fun _ => s2) h180 rfl ⟨rfl, rfl, rfl, Nat.le_of_ble_eq_true rfl, Nat.le_of_ble_eq_true rfl, rfl⟩ (fun g1 => (t_qmd_look X K s2 self v44 (by omega))) (fun v45 => ?_)
      refine z_iconst h180 rfl ?_
      refine z_icne h180 rfl ?_ ?_
      · refine z_aload h180 rfl rfl (Or.inl rfl) (by omega) ?_
        refine z_dupr h180 rfl ?_
        refine z_getf (a := 12) (b := 37) (l := [258, 49]) h180 rfl (fun v46 => ?_)
        refine z_iconst h180 rfl ?_
        refine z_iadd h180 rfl ?_
        refine z_putf (a := 12) (b := 37) (l := [258, 49]) h180 rfl (fun M47 => ?_)
        refine z_goto h180 rfl ?_
        refine z_kill h180 rfl (ls' := [zr self, zU]) rfl ?_
        exact Rz.here fun _ q => q
      · exact Rz.here fun _ q => q
    · (try dsimp only)
      refine z_aload h180 rfl rfl (Or.inl rfl) (by omega) ?_
      refine z_aload h180 rfl rfl (Or.inl rfl) (by omega) ?_
      refine z_getf (a := 12) (b := 37) (l := [258, 49]) h180 rfl (fun v4 => ?_)
      refine z_putf (a := 12) (b := 38) (l := [252, 49]) h180 rfl (fun M5 => ?_)
      refine z_aload h180 rfl rfl (Or.inl rfl) (by omega) ?_
      refine z_aload h180 rfl rfl (Or.inl rfl) (by omega) ?_
      refine z_getf (a := 12) (b := 37) (l := [258, 49]) h180 rfl (fun v6 => ?_)
      refine z_cv (a := 179) (b := 0) (l := [261, 2, 12, 49]) (as := [zi v6]) (lsE := [zr self, zi v6]) (st' := []) (val := fun p => some (zi p)) (mem := fun _ => M5) h180 rfl ⟨rfl, rfl, rfl, Nat.le_of_ble_eq_true rfl, Nat.le_of_ble_eq_true rfl, rfl⟩ (fun g1 => (t_qmd_look X K M5 self v6 (by omega))) (fun v7 => ?_)
      refine z_istore h180 rfl (Or.inl rfl) (ls' := [zr self, zi v7]) rfl ?_
      refine z_iload h180 rfl rfl (Or.inl rfl) ?_
      refine z_ifge h180 rfl ?_ ?_
      · refine z_iload h180 rfl rfl (Or.inl rfl) ?_
        refine z_ci2l h180 rfl ?_
        refine z_lconst h180 rfl ?_
        refine z_lconst h180 rfl ?_
        refine z_cs (a := 129) (b := 0) (l := [110, 3]) (as := [zl (zw v7), zl 97, zl 122]) (lsE := [zl (zw v7), zU, zl 97, zU, zl 122, zU]) (st' := []) (val := fun p => some (zi p)) (mem := fun _ => M5) h180 rfl ⟨rfl, rfl, rfl, Nat.le_of_ble_eq_true rfl, Nat.le_of_ble_eq_true rfl, rfl⟩ (t_qmd_in X K M5 (zw v7) 97 122 ) (fun v8 => ?_)
        refine z_ifeq h180 rfl ?_ ?_
        · refine z_iload h180 rfl rfl (Or.inl rfl) ?_
          refine z_ci2l h180 rfl ?_
          refine z_lconst h180 rfl ?_
          refine z_lconst h180 rfl ?_
          refine z_cs (a := 129) (b := 0) (l := [110, 3]) (as := [zl (zw v7), zl 48, zl 57]) (lsE := [zl (zw v7), zU, zl 48, zU, zl 57, zU]) (st' := []) (val := fun p => some (zi p)) (mem := fun _ => M5) h180 rfl ⟨rfl, rfl, rfl, Nat.le_of_ble_eq_true rfl, Nat.le_of_ble_eq_true rfl, rfl⟩ (t_qmd_in X K M5 (zw v7) 48 57 ) (fun v9 => ?_)
          refine z_ifeq h180 rfl ?_ ?_
          · refine z_aload h180 rfl rfl (Or.inl rfl) (by omega) ?_
            refine z_iconst h180 rfl ?_
            refine z_putf (a := 12) (b := 39) (l := [264, 49]) h180 rfl (fun M10 => ?_)
            refine z_aload h180 rfl rfl (Or.inl rfl) (by omega) ?_
            refine z_iload h180 rfl rfl (Or.inl rfl) ?_
            refine z_iconst h180 rfl ?_
            refine Rz.bind (t := fun j11 => (132, [zr self, zU], [zi j11, zr self], M10, K)) ?_ (fun j11 => ?_)
            · refine z_icne h180 rfl ?_ ?_
              · refine z_iconst h180 rfl ?_
                refine z_goto h180 rfl ?_
                refine z_kill h180 rfl (ls' := [zr self, zU]) rfl ?_
                exact Rz.here fun _ q => q
              · refine z_iconst h180 rfl ?_
                refine z_kill h180 rfl (ls' := [zr self, zU]) rfl ?_
                exact Rz.here fun _ q => q
            · (try dsimp only)
              refine z_iconst h180 rfl ?_
              refine z_cv (a := 178) (b := 0) (l := [278, 3, 12, 49]) (as := [zi j11, zi 1]) (lsE := [zr self, zi j11, zi 1]) (st' := []) (val := fun _ => none) (mem := fun p => p) h180 rfl ⟨rfl, rfl, rfl, Nat.le_of_ble_eq_true rfl, Nat.le_of_ble_eq_true rfl, rfl⟩ (fun g1 => (t_qmd_wants X K M10 self j11 1 (by omega))) (fun M12 => ?_)
              refine z_aload h180 rfl rfl (Or.inl rfl) (by omega) ?_
              refine z_dupr h180 rfl ?_
              refine z_getf (a := 12) (b := 37) (l := [258, 49]) h180 rfl (fun v13 => ?_)
              refine z_iconst h180 rfl ?_
              refine z_iadd h180 rfl ?_
              refine z_putf (a := 12) (b := 37) (l := [258, 49]) h180 rfl (fun M14 => ?_)
              refine z_kill h180 rfl (ls' := [zU, zU]) rfl ?_
              exact z_vret h180 rfl (fun _ q => q)
          · refine z_aload h180 rfl rfl (Or.inl rfl) (by omega) ?_
            refine z_iconst h180 rfl ?_
            refine z_putf (a := 12) (b := 39) (l := [264, 49]) h180 rfl (fun M15 => ?_)
            refine z_aload h180 rfl rfl (Or.inl rfl) (by omega) ?_
            refine z_iconst h180 rfl ?_
            refine z_putf (a := 12) (b := 40) (l := [275, 49]) h180 rfl (fun M16 => ?_)
            refine z_kill h180 rfl (ls' := [zr self, zU]) rfl ?_
            refine Rz.bind (t := fun e18 => (108, [zr self, zU], [], e18, K)) ?_ (fun e18 => ?_)
            · refine Rz.wh (hd := fun s17 => (69, [zr self, zU], [], s17, K)) (fun s17 => ?_) n M16
              (try dsimp only)
              refine z_aload h180 rfl rfl (Or.inl rfl) (by omega) ?_
              refine z_aload h180 rfl rfl (Or.inl rfl) (by omega) ?_
              refine z_getf (a := 12) (b := 37) (l := [258, 49]) h180 rfl (fun v23 => ?_)
              refine z_cv (a := 179) (b := 0) (l := [261, 2, 12, 49]) (as := [zi v23]) (lsE := [zr self, zi v23]) (st' := []) (val := fun p => some (zi p)) (mem := fun _ => s17) h180 rfl ⟨rfl, rfl, rfl, Nat.le_of_ble_eq_true rfl, Nat.le_of_ble_eq_true rfl, rfl⟩ (fun g1 => (t_qmd_look X K s17 self v23 (by omega))) (fun v24 => ?_)
              refine z_ci2l h180 rfl ?_
              refine z_lconst h180 rfl ?_
              refine z_lconst h180 rfl ?_
              refine z_cs (a := 129) (b := 0) (l := [110, 3]) (as := [zl (zw v24), zl 48, zl 57]) (lsE := [zl (zw v24), zU, zl 48, zU, zl 57, zU]) (st' := []) (val := fun p => some (zi p)) (mem := fun _ => s17) h180 rfl ⟨rfl, rfl, rfl, Nat.le_of_ble_eq_true rfl, Nat.le_of_ble_eq_true rfl, rfl⟩ (t_qmd_in X K s17 (zw v24) 48 57 ) (fun v25 => ?_)
              refine z_ifeq h180 rfl ?_ ?_
              · exact Rz.here fun _ q => q
              · refine z_aload h180 rfl rfl (Or.inl rfl) (by omega) ?_
                refine z_aload h180 rfl rfl (Or.inl rfl) (by omega) ?_
                refine z_getf (a := 12) (b := 37) (l := [258, 49]) h180 rfl (fun v26 => ?_)
                refine z_aload h180 rfl rfl (Or.inl rfl) (by omega) ?_
                refine z_getf (a := 12) (b := 38) (l := [252, 49]) h180 rfl (fun v27 => ?_)
                refine z_isub h180 rfl ?_
                refine z_iconst h180 rfl ?_
                refine Rz.bind (t := fun j28 => (100, [zr self, zU], [zi j28, zr self], s17, K)) ?_ (fun j28 => ?_)
                · refine z_icge h180 rfl ?_ ?_
                  · refine z_aload h180 rfl rfl (Or.inl rfl) (by omega) ?_
                    refine z_getf (a := 12) (b := 40) (l := [275, 49]) h180 rfl (fun v32 => ?_)
                    refine z_kill h180 rfl (ls' := [zr self, zU]) rfl ?_
                    exact Rz.here fun _ q => q
                  · refine z_iconst h180 rfl ?_
                    refine z_aload h180 rfl rfl (Or.inl rfl) (by omega) ?_
                    refine z_getf (a := 12) (b := 40) (l := [275, 49]) h180 rfl (fun v33 => ?_)
                    refine z_imul h180 rfl ?_
                    refine z_aload h180 rfl rfl (Or.inl rfl) (by omega) ?_
                    refine z_aload h180 rfl rfl (Or.inl rfl) (by omega) ?_
                    refine z_getf (a := 12) (b := 37) (l := [258, 49]) h180 rfl (fun v34 => ?_)
                    refine z_cv (a := 179) (b := 0) (l := [261, 2, 12, 49]) (as := [zi v34]) (lsE := [zr self, zi v34]) (st' := [zi (10 * v33), zr self]) (val := fun p => some (zi p)) (mem := fun _ => s17) h180 rfl ⟨rfl, rfl, rfl, Nat.le_of_ble_eq_true rfl, Nat.le_of_ble_eq_true rfl, rfl⟩ (fun g1 => (t_qmd_look X K s17 self v34 (by omega))) (fun v35 => ?_)
                    refine z_iadd h180 rfl ?_
                    refine z_iconst h180 rfl ?_
                    refine z_isub h180 rfl ?_
                    refine z_goto h180 rfl ?_
                    refine z_kill h180 rfl (ls' := [zr self, zU]) rfl ?_
                    exact Rz.here fun _ q => q
                · (try dsimp only)
                  refine z_putf (a := 12) (b := 40) (l := [275, 49]) h180 rfl (fun M29 => ?_)
                  refine z_aload h180 rfl rfl (Or.inl rfl) (by omega) ?_
                  refine z_dupr h180 rfl ?_
                  refine z_getf (a := 12) (b := 37) (l := [258, 49]) h180 rfl (fun v30 => ?_)
                  refine z_iconst h180 rfl ?_
                  refine z_iadd h180 rfl ?_
                  refine z_putf (a := 12) (b := 37) (l := [258, 49]) h180 rfl (fun M31 => ?_)
                  refine z_goto h180 rfl ?_
                  refine z_kill h180 rfl (ls' := [zr self, zU]) rfl ?_
                  exact Rz.here fun _ q => q
            · (try dsimp only)
              refine z_aload h180 rfl rfl (Or.inl rfl) (by omega) ?_
              refine z_aload h180 rfl rfl (Or.inl rfl) (by omega) ?_
              refine z_getf (a := 12) (b := 37) (l := [258, 49]) h180 rfl (fun v19 => ?_)
              refine z_aload h180 rfl rfl (Or.inl rfl) (by omega) ?_
              refine z_getf (a := 12) (b := 38) (l := [252, 49]) h180 rfl (fun v20 => ?_)
              refine z_isub h180 rfl ?_
              refine z_iconst h180 rfl ?_
              refine Rz.bind (t := fun j21 => (119, [zU, zU], [zi j21, zr self], e18, K)) ?_ (fun j21 => ?_)
              · refine z_icgt h180 rfl ?_ ?_
                · refine z_iconst h180 rfl ?_
                  refine z_kill h180 rfl (ls' := [zU, zU]) rfl ?_
                  exact Rz.here fun _ q => q
                · refine z_iconst h180 rfl ?_
                  refine z_goto h180 rfl ?_
                  refine z_kill h180 rfl (ls' := [zU, zU]) rfl ?_
                  exact Rz.here fun _ q => q
              · (try dsimp only)
                refine z_iconst h180 rfl ?_
                refine z_cv (a := 178) (b := 0) (l := [278, 3, 12, 49]) (as := [zi j21, zi 1]) (lsE := [zr self, zi j21, zi 1]) (st' := []) (val := fun _ => none) (mem := fun p => p) h180 rfl ⟨rfl, rfl, rfl, Nat.le_of_ble_eq_true rfl, Nat.le_of_ble_eq_true rfl, rfl⟩ (fun g1 => (t_qmd_wants X K e18 self j21 1 (by omega))) (fun M22 => ?_)
                refine z_goto h180 rfl ?_
                refine z_kill h180 rfl (ls' := [zU, zU]) rfl ?_
                exact z_vret h180 rfl (fun _ q => q)
        · refine z_aload h180 rfl rfl (Or.inl rfl) (by omega) ?_
          refine z_iconst h180 rfl ?_
          refine z_putf (a := 12) (b := 39) (l := [264, 49]) h180 rfl (fun M36 => ?_)
          refine z_kill h180 rfl (ls' := [zr self, zU]) rfl ?_
          refine Rz.wh (hd := fun s37 => (41, [zr self, zU], [], s37, K)) (fun s37 => ?_) n M36
          (try dsimp only)
          refine z_aload h180 rfl rfl (Or.inl rfl) (by omega) ?_
          refine z_aload h180 rfl rfl (Or.inl rfl) (by omega) ?_
          refine z_getf (a := 12) (b := 37) (l := [258, 49]) h180 rfl (fun v38 => ?_)
          refine z_cv (a := 179) (b := 0) (l := [261, 2, 12, 49]) (as := [zi v38]) (lsE := [zr self, zi v38]) (st' := []) (val := fun p => some (zi p)) (mem := fun _ => s37) h180 rfl ⟨rfl, rfl, rfl, Nat.le_of_ble_eq_true rfl, Nat.le_of_ble_eq_true rfl, rfl⟩ (fun g1 => (t_qmd_look X K s37 self v38 (by omega))) (fun v39 => ?_)
          refine z_ci2l h180 rfl ?_
          refine z_lconst h180 rfl ?_
          refine z_lconst h180 rfl ?_
          refine z_cs (a := 129) (b := 0) (l := [110, 3]) (as := [zl (zw v39), zl 97, zl 122]) (lsE := [zl (zw v39), zU, zl 97, zU, zl 122, zU]) (st' := []) (val := fun p => some (zi p)) (mem := fun _ => s37) h180 rfl ⟨rfl, rfl, rfl, Nat.le_of_ble_eq_true rfl, Nat.le_of_ble_eq_true rfl, rfl⟩ (t_qmd_in X K s37 (zw v39) 97 122 ) (fun v40 => ?_)
          refine z_ifeq h180 rfl ?_ ?_
          · refine z_kill h180 rfl (ls' := [zU, zU]) rfl ?_
            exact z_vret h180 rfl (fun _ q => q)
          · refine z_aload h180 rfl rfl (Or.inl rfl) (by omega) ?_
            refine z_dupr h180 rfl ?_
            refine z_getf (a := 12) (b := 37) (l := [258, 49]) h180 rfl (fun v41 => ?_)
            refine z_iconst h180 rfl ?_
            refine z_iadd h180 rfl ?_
            refine z_putf (a := 12) (b := 37) (l := [258, 49]) h180 rfl (fun M42 => ?_)
            refine z_goto h180 rfl ?_
            refine z_kill h180 rfl (ls' := [zr self, zU]) rfl ?_
            exact Rz.here fun _ q => q
      · refine z_aload h180 rfl rfl (Or.inl rfl) (by omega) ?_
        refine z_iconst h180 rfl ?_
        refine z_putf (a := 12) (b := 39) (l := [264, 49]) h180 rfl (fun M43 => ?_)
        refine z_goto h180 rfl ?_
        refine z_kill h180 rfl (ls' := [zU, zU]) rfl ?_
        exact z_vret h180 rfl (fun _ q => q)
  · exact z_vret h180 rfl (fun _ q => q)
set_option maxRecDepth 20000 in
theorem t_qmd_is (X : Int × (Int → Int)) (K : zK) (M : zM) (self a1 a2 a3 a4 a5 a6 : Int) (g_self : 1 ≤ self) : Rz X 181 (0, [zr self, zi a1, zi a2, zi a3, zi a4, zi a5, zi a6], [], M, K) (qmd_is K M self a1 a2 a3 a4 a5 a6) (fun e P => P (some (zi e), M, K)) := by
  have h181 : zT 181 = zt181 := rfl
  unfold qmd_is
  refine z_aload h181 rfl rfl (Or.inl rfl) (by omega) ?_
  refine z_getf (a := 12) (b := 39) (l := [264, 49]) h181 rfl (fun v1 => ?_)
  refine z_iconst h181 rfl ?_
  refine z_icne h181 rfl ?_ ?_
  · refine z_aload h181 rfl rfl (Or.inl rfl) (by omega) ?_
    refine z_getf (a := 12) (b := 37) (l := [258, 49]) h181 rfl (fun v2 => ?_)
    refine z_aload h181 rfl rfl (Or.inl rfl) (by omega) ?_
    refine z_getf (a := 12) (b := 38) (l := [252, 49]) h181 rfl (fun v3 => ?_)
    refine z_isub h181 rfl ?_
    refine z_iload h181 rfl rfl (Or.inl rfl) ?_
    refine z_icne h181 rfl ?_ ?_
    · refine z_aload h181 rfl rfl (Or.inl rfl) (by omega) ?_
      refine z_aload h181 rfl rfl (Or.inl rfl) (by omega) ?_
      refine z_getf (a := 12) (b := 38) (l := [252, 49]) h181 rfl (fun v4 => ?_)
      refine z_cv (a := 179) (b := 0) (l := [261, 2, 12, 49]) (as := [zi v4]) (lsE := [zr self, zi v4]) (st' := []) (val := fun p => some (zi p)) (mem := fun _ => M) h181 rfl ⟨rfl, rfl, rfl, Nat.le_of_ble_eq_true rfl, Nat.le_of_ble_eq_true rfl, rfl⟩ (fun g1 => (t_qmd_look X K M self v4 (by omega))) (fun v5 => ?_)
      refine z_iload h181 rfl rfl (Or.inl rfl) ?_
      refine z_icne h181 rfl ?_ ?_
      · refine z_aload h181 rfl rfl (Or.inl rfl) (by omega) ?_
        refine z_aload h181 rfl rfl (Or.inl rfl) (by omega) ?_
        refine z_getf (a := 12) (b := 38) (l := [252, 49]) h181 rfl (fun v6 => ?_)
        refine z_iconst h181 rfl ?_
        refine z_iadd h181 rfl ?_
        refine z_cv (a := 179) (b := 0) (l := [261, 2, 12, 49]) (as := [zi (v6 + 1)]) (lsE := [zr self, zi (v6 + 1)]) (st' := []) (val := fun p => some (zi p)) (mem := fun _ => M) h181 rfl ⟨rfl, rfl, rfl, Nat.le_of_ble_eq_true rfl, Nat.le_of_ble_eq_true rfl, rfl⟩ (fun g1 => (t_qmd_look X K M self (v6 + 1) (by omega))) (fun v7 => ?_)
        refine z_iload h181 rfl rfl (Or.inl rfl) ?_
        refine z_icne h181 rfl ?_ ?_
        · refine z_aload h181 rfl rfl (Or.inl rfl) (by omega) ?_
          refine z_aload h181 rfl rfl (Or.inl rfl) (by omega) ?_
          refine z_getf (a := 12) (b := 38) (l := [252, 49]) h181 rfl (fun v8 => ?_)
          refine z_iconst h181 rfl ?_
          refine z_iadd h181 rfl ?_
          refine z_cv (a := 179) (b := 0) (l := [261, 2, 12, 49]) (as := [zi (v8 + 2)]) (lsE := [zr self, zi (v8 + 2)]) (st' := []) (val := fun p => some (zi p)) (mem := fun _ => M) h181 rfl ⟨rfl, rfl, rfl, Nat.le_of_ble_eq_true rfl, Nat.le_of_ble_eq_true rfl, rfl⟩ (fun g1 => (t_qmd_look X K M self (v8 + 2) (by omega))) (fun v9 => ?_)
          refine z_iload h181 rfl rfl (Or.inr rfl) ?_
          refine z_icne h181 rfl ?_ ?_
          · refine z_iload h181 rfl rfl (Or.inl rfl) ?_
            refine z_iconst h181 rfl ?_
            refine Rz.esc (t := fun j10 => (44, [zr self, zi a1, zU, zU, zU, zU, zi a6], [], M, K)) ?_ (fun j10 => ?_)
            · refine z_iclt h181 rfl ?_ ?_
              · refine z_kill h181 rfl (ls' := [zr self, zi a1, zU, zU, zU, zU, zi a6]) rfl ?_
                exact Rz.here fun _ q => q
              · refine z_aload h181 rfl rfl (Or.inl rfl) (by omega) ?_
                refine z_aload h181 rfl rfl (Or.inl rfl) (by omega) ?_
                refine z_getf (a := 12) (b := 38) (l := [252, 49]) h181 rfl (fun v14 => ?_)
                refine z_iconst h181 rfl ?_
                refine z_iadd h181 rfl ?_
                refine z_cv (a := 179) (b := 0) (l := [261, 2, 12, 49]) (as := [zi (v14 + 3)]) (lsE := [zr self, zi (v14 + 3)]) (st' := []) (val := fun p => some (zi p)) (mem := fun _ => M) h181 rfl ⟨rfl, rfl, rfl, Nat.le_of_ble_eq_true rfl, Nat.le_of_ble_eq_true rfl, rfl⟩ (fun g1 => (t_qmd_look X K M self (v14 + 3) (by omega))) (fun v15 => ?_)
                refine z_iload h181 rfl rfl (Or.inr rfl) ?_
                refine z_icne h181 rfl ?_ ?_
                · refine z_kill h181 rfl (ls' := [zr self, zi a1, zU, zU, zU, zU, zi a6]) rfl ?_
                  exact Rz.here fun _ q => q
                · refine z_kill h181 rfl (ls' := [zU, zU, zU, zU, zU, zU, zU]) rfl ?_
                  refine z_iconst h181 rfl ?_
                  refine z_kill h181 rfl (ls' := [zU, zU, zU, zU, zU, zU, zU]) rfl ?_
                  exact z_zret h181 rfl (Or.inl rfl) (fun _ q => q)
            · (try dsimp only)
              refine z_iload h181 rfl rfl (Or.inl rfl) ?_
              refine z_iconst h181 rfl ?_
              refine Rz.esc (t := fun j11 => (55, [zU, zU, zU, zU, zU, zU, zU], [], M, K)) ?_ (fun j11 => ?_)
              · refine z_iclt h181 rfl ?_ ?_
                · refine z_kill h181 rfl (ls' := [zU, zU, zU, zU, zU, zU, zU]) rfl ?_
                  exact Rz.here fun _ q => q
                · refine z_aload h181 rfl rfl (Or.inl rfl) (by omega) ?_
                  refine z_aload h181 rfl rfl (Or.inl rfl) (by omega) ?_
                  refine z_getf (a := 12) (b := 38) (l := [252, 49]) h181 rfl (fun v12 => ?_)
                  refine z_iconst h181 rfl ?_
                  refine z_iadd h181 rfl ?_
                  refine z_cv (a := 179) (b := 0) (l := [261, 2, 12, 49]) (as := [zi (v12 + 4)]) (lsE := [zr self, zi (v12 + 4)]) (st' := []) (val := fun p => some (zi p)) (mem := fun _ => M) h181 rfl ⟨rfl, rfl, rfl, Nat.le_of_ble_eq_true rfl, Nat.le_of_ble_eq_true rfl, rfl⟩ (fun g1 => (t_qmd_look X K M self (v12 + 4) (by omega))) (fun v13 => ?_)
                  refine z_iload h181 rfl rfl (Or.inr rfl) ?_
                  refine z_icne h181 rfl ?_ ?_
                  · refine z_kill h181 rfl (ls' := [zU, zU, zU, zU, zU, zU, zU]) rfl ?_
                    exact Rz.here fun _ q => q
                  · refine z_kill h181 rfl (ls' := [zU, zU, zU, zU, zU, zU, zU]) rfl ?_
                    refine z_iconst h181 rfl ?_
                    refine z_kill h181 rfl (ls' := [zU, zU, zU, zU, zU, zU, zU]) rfl ?_
                    exact z_zret h181 rfl (Or.inl rfl) (fun _ q => q)
              · (try dsimp only)
                refine z_iconst h181 rfl ?_
                refine z_goto h181 rfl ?_
                refine z_kill h181 rfl (ls' := [zU, zU, zU, zU, zU, zU, zU]) rfl ?_
                exact z_zret h181 rfl (Or.inr rfl) (fun _ q => q)
          · refine z_kill h181 rfl (ls' := [zU, zU, zU, zU, zU, zU, zU]) rfl ?_
            refine z_iconst h181 rfl ?_
            refine z_kill h181 rfl (ls' := [zU, zU, zU, zU, zU, zU, zU]) rfl ?_
            exact z_zret h181 rfl (Or.inl rfl) (fun _ q => q)
        · refine z_kill h181 rfl (ls' := [zU, zU, zU, zU, zU, zU, zU]) rfl ?_
          refine z_iconst h181 rfl ?_
          refine z_kill h181 rfl (ls' := [zU, zU, zU, zU, zU, zU, zU]) rfl ?_
          exact z_zret h181 rfl (Or.inl rfl) (fun _ q => q)
      · refine z_kill h181 rfl (ls' := [zU, zU, zU, zU, zU, zU, zU]) rfl ?_
        refine z_iconst h181 rfl ?_
        refine z_kill h181 rfl (ls' := [zU, zU, zU, zU, zU, zU, zU]) rfl ?_
        exact z_zret h181 rfl (Or.inl rfl) (fun _ q => q)
    · refine z_kill h181 rfl (ls' := [zU, zU, zU, zU, zU, zU, zU]) rfl ?_
      refine z_iconst h181 rfl ?_
      refine z_kill h181 rfl (ls' := [zU, zU, zU, zU, zU, zU, zU]) rfl ?_
      exact z_zret h181 rfl (Or.inl rfl) (fun _ q => q)
  · refine z_kill h181 rfl (ls' := [zU, zU, zU, zU, zU, zU, zU]) rfl ?_
    refine z_iconst h181 rfl ?_
    refine z_kill h181 rfl (ls' := [zU, zU, zU, zU, zU, zU, zU]) rfl ?_
    exact z_zret h181 rfl (Or.inl rfl) (fun _ q => q)
set_option maxRecDepth 20000 in
theorem t_qmd_lineNow (X : Int × (Int → Int)) (K : zK) (M : zM) (self : Int) (g_self : 1 ≤ self) : Rz X 182 (0, [zr self], [], M, K) (qmd_lineNow K M self) (fun e P => P (some (zi e), M, K)) := by
  have h182 : zT 182 = zt182 := rfl
  unfold qmd_lineNow
  refine z_aload h182 rfl rfl (Or.inl rfl) (by omega) ?_
  refine z_iconst h182 rfl ?_
  refine z_iconst h182 rfl ?_
  refine z_iconst h182 rfl ?_
  refine z_iconst h182 rfl ?_
  refine z_iconst h182 rfl ?_
  refine z_iconst h182 rfl ?_
  refine z_cv (a := 181) (b := 0) (l := [282, 7, 12, 49]) (as := [zi 4, zi 108, zi 111, zi 97, zi 100, zi 0]) (lsE := [zr self, zi 4, zi 108, zi 111, zi 97, zi 100, zi 0]) (st' := []) (val := fun p => some (zi p)) (mem := fun _ => M) h182 rfl ⟨rfl, rfl, rfl, Nat.le_of_ble_eq_true rfl, Nat.le_of_ble_eq_true rfl, rfl⟩ (fun g1 => (t_qmd_is X K M self 4 108 111 97 100 0 (by omega))) (fun v1 => ?_)
  refine z_ifeq h182 rfl ?_ ?_
  · refine z_aload h182 rfl rfl (Or.inl rfl) (by omega) ?_
    refine z_iconst h182 rfl ?_
    refine z_iconst h182 rfl ?_
    refine z_iconst h182 rfl ?_
    refine z_iconst h182 rfl ?_
    refine z_iconst h182 rfl ?_
    refine z_iconst h182 rfl ?_
    refine z_cv (a := 181) (b := 0) (l := [282, 7, 12, 49]) (as := [zi 5, zi 115, zi 116, zi 111, zi 114, zi 101]) (lsE := [zr self, zi 5, zi 115, zi 116, zi 111, zi 114, zi 101]) (st' := []) (val := fun p => some (zi p)) (mem := fun _ => M) h182 rfl ⟨rfl, rfl, rfl, Nat.le_of_ble_eq_true rfl, Nat.le_of_ble_eq_true rfl, rfl⟩ (fun g1 => (t_qmd_is X K M self 5 115 116 111 114 101 (by omega))) (fun v2 => ?_)
    refine z_ifeq h182 rfl ?_ ?_
    · refine z_aload h182 rfl rfl (Or.inl rfl) (by omega) ?_
      refine z_iconst h182 rfl ?_
      refine z_iconst h182 rfl ?_
      refine z_iconst h182 rfl ?_
      refine z_iconst h182 rfl ?_
      refine z_iconst h182 rfl ?_
      refine z_iconst h182 rfl ?_
      refine z_cv (a := 181) (b := 0) (l := [282, 7, 12, 49]) (as := [zi 3, zi 97, zi 100, zi 100, zi 0, zi 0]) (lsE := [zr self, zi 3, zi 97, zi 100, zi 100, zi 0, zi 0]) (st' := []) (val := fun p => some (zi p)) (mem := fun _ => M) h182 rfl ⟨rfl, rfl, rfl, Nat.le_of_ble_eq_true rfl, Nat.le_of_ble_eq_true rfl, rfl⟩ (fun g1 => (t_qmd_is X K M self 3 97 100 100 0 0 (by omega))) (fun v3 => ?_)
      refine z_ifeq h182 rfl ?_ ?_
      · refine z_aload h182 rfl rfl (Or.inl rfl) (by omega) ?_
        refine z_iconst h182 rfl ?_
        refine z_iconst h182 rfl ?_
        refine z_iconst h182 rfl ?_
        refine z_iconst h182 rfl ?_
        refine z_iconst h182 rfl ?_
        refine z_iconst h182 rfl ?_
        refine z_cv (a := 181) (b := 0) (l := [282, 7, 12, 49]) (as := [zi 3, zi 109, zi 117, zi 108, zi 0, zi 0]) (lsE := [zr self, zi 3, zi 109, zi 117, zi 108, zi 0, zi 0]) (st' := []) (val := fun p => some (zi p)) (mem := fun _ => M) h182 rfl ⟨rfl, rfl, rfl, Nat.le_of_ble_eq_true rfl, Nat.le_of_ble_eq_true rfl, rfl⟩ (fun g1 => (t_qmd_is X K M self 3 109 117 108 0 0 (by omega))) (fun v4 => ?_)
        refine z_ifeq h182 rfl ?_ ?_
        · refine z_iconst h182 rfl ?_
          refine z_kill h182 rfl (ls' := [zU]) rfl ?_
          exact z_iret h182 rfl (fun _ q => q)
        · refine z_iconst h182 rfl ?_
          refine z_goto h182 rfl ?_
          refine z_kill h182 rfl (ls' := [zU]) rfl ?_
          exact z_iret h182 rfl (fun _ q => q)
      · refine z_iconst h182 rfl ?_
        refine z_goto h182 rfl ?_
        refine z_kill h182 rfl (ls' := [zU]) rfl ?_
        exact z_iret h182 rfl (fun _ q => q)
    · refine z_iconst h182 rfl ?_
      exact z_iret h182 rfl (fun _ q => q)
  · refine z_iconst h182 rfl ?_
    exact z_iret h182 rfl (fun _ q => q)
set_option maxRecDepth 20000 in
theorem t_qmd_readRow (X : Int × (Int → Int)) (n : Nat) (K : zK) (M : zM) (self a1 : Int) (g_self : 1 ≤ self) : Rz X 183 (0, [zr self, zi a1, zU], [], M, K) (qmd_readRow n K M self a1) (fun e P => P (some (zi e.1), e.2, K)) := by
  have h183 : zT 183 = zt183 := rfl
  unfold qmd_readRow
  refine z_aload h183 rfl rfl (Or.inl rfl) (by omega) ?_
  refine z_aload h183 rfl rfl (Or.inl rfl) (by omega) ?_
  refine z_getf (a := 12) (b := 39) (l := [264, 49]) h183 rfl (fun v1 => ?_)
  refine z_iconst h183 rfl ?_
  refine Rz.esc (t := fun j2 => (23, [zr self, zi a1, zU], [zr self], M, K)) ?_ (fun j2 => ?_)
  · refine z_icne h183 rfl ?_ ?_
    · refine z_aload h183 rfl rfl (Or.inl rfl) (by omega) ?_
      refine z_getf (a := 12) (b := 37) (l := [258, 49]) h183 rfl (fun v15 => ?_)
      refine z_aload h183 rfl rfl (Or.inl rfl) (by omega) ?_
      refine z_getf (a := 12) (b := 38) (l := [252, 49]) h183 rfl (fun v16 => ?_)
      refine z_isub h183 rfl ?_
      refine z_iconst h183 rfl ?_
      refine z_icne h183 rfl ?_ ?_
      · refine z_aload h183 rfl rfl (Or.inl rfl) (by omega) ?_
        refine z_aload h183 rfl rfl (Or.inl rfl) (by omega) ?_
        refine z_getf (a := 12) (b := 38) (l := [252, 49]) h183 rfl (fun v17 => ?_)
        refine z_cv (a := 179) (b := 0) (l := [261, 2, 12, 49]) (as := [zi v17]) (lsE := [zr self, zi v17]) (st' := [zr self]) (val := fun p => some (zi p)) (mem := fun _ => M) h183 rfl ⟨rfl, rfl, rfl, Nat.le_of_ble_eq_true rfl, Nat.le_of_ble_eq_true rfl, rfl⟩ (fun g1 => (t_qmd_look X K M self v17 (by omega))) (fun v18 => ?_)
        refine z_ci2l h183 rfl ?_
        refine z_lconst h183 rfl ?_
        refine z_lconst h183 rfl ?_
        refine z_cs (a := 129) (b := 0) (l := [110, 3]) (as := [zl (zw v18), zl 97, zl 104]) (lsE := [zl (zw v18), zU, zl 97, zU, zl 104, zU]) (st' := [zr self]) (val := fun p => some (zi p)) (mem := fun _ => M) h183 rfl ⟨rfl, rfl, rfl, Nat.le_of_ble_eq_true rfl, Nat.le_of_ble_eq_true rfl, rfl⟩ (t_qmd_in X K M (zw v18) 97 104 ) (fun v19 => ?_)
        refine z_ifeq h183 rfl ?_ ?_
        · refine z_kill h183 rfl (ls' := [zr self, zi a1, zU]) rfl ?_
          exact Rz.here fun _ q => q
        · refine z_iconst h183 rfl ?_
          refine z_goto h183 rfl ?_
          refine z_kill h183 rfl (ls' := [zr self, zi a1, zU]) rfl ?_
          refine z_iconst h183 rfl ?_
          refine z_cv (a := 178) (b := 0) (l := [278, 3, 12, 49]) (as := [zi 1, zi 2]) (lsE := [zr self, zi 1, zi 2]) (st' := []) (val := fun _ => none) (mem := fun p => p) h183 rfl ⟨rfl, rfl, rfl, Nat.le_of_ble_eq_true rfl, Nat.le_of_ble_eq_true rfl, rfl⟩ (fun g1 => (t_qmd_wants X K M self 1 2 (by omega))) (fun M20 => ?_)
          refine z_aload h183 rfl rfl (Or.inl rfl) (by omega) ?_
          refine z_getf (a := 12) (b := 41) (l := [249, 49]) h183 rfl (fun v21 => ?_)
          refine Rz.bind (t := fun j22 => (37, [zr self, zi a1, zU], [zi j22], M20, K)) ?_ (fun j22 => ?_)
          · refine z_ifne h183 rfl ?_ ?_
            · refine z_aload h183 rfl rfl (Or.inl rfl) (by omega) ?_
              refine z_aload h183 rfl rfl (Or.inl rfl) (by omega) ?_
              refine z_getf (a := 12) (b := 38) (l := [252, 49]) h183 rfl (fun v30 => ?_)
              refine z_cv (a := 179) (b := 0) (l := [261, 2, 12, 49]) (as := [zi v30]) (lsE := [zr self, zi v30]) (st' := []) (val := fun p => some (zi p)) (mem := fun _ => M20) h183 rfl ⟨rfl, rfl, rfl, Nat.le_of_ble_eq_true rfl, Nat.le_of_ble_eq_true rfl, rfl⟩ (fun g1 => (t_qmd_look X K M20 self v30 (by omega))) (fun v31 => ?_)
              refine z_iconst h183 rfl ?_
              refine z_isub h183 rfl ?_
              refine z_goto h183 rfl ?_
              refine z_kill h183 rfl (ls' := [zr self, zi a1, zU]) rfl ?_
              exact Rz.here fun _ q => q
            · refine z_iconst h183 rfl ?_
              refine z_kill h183 rfl (ls' := [zr self, zi a1, zU]) rfl ?_
              exact Rz.here fun _ q => q
          · (try dsimp only)
            refine z_istore h183 rfl (Or.inl rfl) (ls' := [zr self, zi a1, zi j22]) rfl ?_
            refine z_aload h183 rfl rfl (Or.inl rfl) (by omega) ?_
            refine z_getf (a := 12) (b := 41) (l := [249, 49]) h183 rfl (fun v23 => ?_)
            refine Rz.bind (t := fun j24 => (57, [zr self, zU, zi j22], [], j24, K)) ?_ (fun j24 => ?_)
            · refine z_ifne h183 rfl ?_ ?_
              · refine z_aload h183 rfl rfl (Or.inl rfl) (by omega) ?_
                refine z_iload h183 rfl rfl (Or.inl rfl) ?_
                refine Rz.esc (t := fun j26 => (52, [zr self, zU, zi j22], [zr self], M20, K)) ?_ (fun j26 => ?_)
                · refine z_ifeq h183 rfl ?_ ?_
                  · refine z_kill h183 rfl (ls' := [zr self, zU, zi j22]) rfl ?_
                    exact Rz.here fun _ q => q
                  · refine z_aload h183 rfl rfl (Or.inl rfl) (by omega) ?_
                    refine z_getf (a := 12) (b := 34) (l := [288, 49]) h183 rfl (fun v28 => ?_)
                    refine z_iload h183 rfl rfl (Or.inl rfl) ?_
                    refine z_ishr h183 rfl ?_
                    refine z_iconst h183 rfl ?_
                    refine z_iand h183 rfl ?_
                    refine z_iconst h183 rfl ?_
                    refine z_icne h183 rfl ?_ ?_
                    · refine z_kill h183 rfl (ls' := [zr self, zU, zi j22]) rfl ?_
                      exact Rz.here fun _ q => q
                    · refine z_iconst h183 rfl ?_
                      refine z_kill h183 rfl (ls' := [zr self, zU, zi j22]) rfl ?_
                      refine z_iconst h183 rfl ?_
                      refine z_cv (a := 178) (b := 0) (l := [278, 3, 12, 49]) (as := [zi 0, zi 4]) (lsE := [zr self, zi 0, zi 4]) (st' := []) (val := fun _ => none) (mem := fun p => p) h183 rfl ⟨rfl, rfl, rfl, Nat.le_of_ble_eq_true rfl, Nat.le_of_ble_eq_true rfl, rfl⟩ (fun g1 => (t_qmd_wants X K M20 self 0 4 (by omega))) (fun M29 => ?_)
                      refine z_kill h183 rfl (ls' := [zr self, zU, zi j22]) rfl ?_
                      exact Rz.here fun _ q => q
                · (try dsimp only)
                  refine z_iconst h183 rfl ?_
                  refine z_goto h183 rfl ?_
                  refine z_kill h183 rfl (ls' := [zr self, zU, zi j22]) rfl ?_
                  refine z_iconst h183 rfl ?_
                  refine z_cv (a := 178) (b := 0) (l := [278, 3, 12, 49]) (as := [zi 1, zi 4]) (lsE := [zr self, zi 1, zi 4]) (st' := []) (val := fun _ => none) (mem := fun p => p) h183 rfl ⟨rfl, rfl, rfl, Nat.le_of_ble_eq_true rfl, Nat.le_of_ble_eq_true rfl, rfl⟩ (fun g1 => (t_qmd_wants X K M20 self 1 4 (by omega))) (fun M27 => ?_)
                  refine z_kill h183 rfl (ls' := [zr self, zU, zi j22]) rfl ?_
                  exact Rz.here fun _ q => q
              · refine z_kill h183 rfl (ls' := [zr self, zU, zi j22]) rfl ?_
                exact Rz.here fun _ q => q
            · (try dsimp only)
              refine z_aload h183 rfl rfl (Or.inl rfl) (by omega) ?_
              refine z_cv (a := 180) (b := 0) (l := [291, 1, 12, 49]) (as := []) (lsE := [zr self, zU]) (st' := []) (val := fun _ => none) (mem := fun p => p) h183 rfl ⟨rfl, rfl, rfl, Nat.le_of_ble_eq_true rfl, Nat.le_of_ble_eq_true rfl, rfl⟩ (fun g1 => (t_qmd_next X n K j24 self (by omega))) (fun M25 => ?_)
              refine z_iload h183 rfl rfl (Or.inl rfl) ?_
              exact z_iret h183 rfl (fun _ q => q)
      · refine z_kill h183 rfl (ls' := [zr self, zi a1, zU]) rfl ?_
        exact Rz.here fun _ q => q
    · refine z_kill h183 rfl (ls' := [zr self, zi a1, zU]) rfl ?_
      exact Rz.here fun _ q => q
  · (try dsimp only)
    refine z_iconst h183 rfl ?_
    refine z_kill h183 rfl (ls' := [zr self, zi a1, zU]) rfl ?_
    refine z_iconst h183 rfl ?_
    refine z_cv (a := 178) (b := 0) (l := [278, 3, 12, 49]) (as := [zi 0, zi 2]) (lsE := [zr self, zi 0, zi 2]) (st' := []) (val := fun _ => none) (mem := fun p => p) h183 rfl ⟨rfl, rfl, rfl, Nat.le_of_ble_eq_true rfl, Nat.le_of_ble_eq_true rfl, rfl⟩ (fun g1 => (t_qmd_wants X K M self 0 2 (by omega))) (fun M3 => ?_)
    refine z_aload h183 rfl rfl (Or.inl rfl) (by omega) ?_
    refine z_getf (a := 12) (b := 41) (l := [249, 49]) h183 rfl (fun v4 => ?_)
    refine Rz.bind (t := fun j5 => (37, [zr self, zi a1, zU], [zi j5], M3, K)) ?_ (fun j5 => ?_)
    · refine z_ifne h183 rfl ?_ ?_
      · refine z_aload h183 rfl rfl (Or.inl rfl) (by omega) ?_
        refine z_aload h183 rfl rfl (Or.inl rfl) (by omega) ?_
        refine z_getf (a := 12) (b := 38) (l := [252, 49]) h183 rfl (fun v13 => ?_)
        refine z_cv (a := 179) (b := 0) (l := [261, 2, 12, 49]) (as := [zi v13]) (lsE := [zr self, zi v13]) (st' := []) (val := fun p => some (zi p)) (mem := fun _ => M3) h183 rfl ⟨rfl, rfl, rfl, Nat.le_of_ble_eq_true rfl, Nat.le_of_ble_eq_true rfl, rfl⟩ (fun g1 => (t_qmd_look X K M3 self v13 (by omega))) (fun v14 => ?_)
        refine z_iconst h183 rfl ?_
        refine z_isub h183 rfl ?_
        refine z_goto h183 rfl ?_
        refine z_kill h183 rfl (ls' := [zr self, zi a1, zU]) rfl ?_
        exact Rz.here fun _ q => q
      · refine z_iconst h183 rfl ?_
        refine z_kill h183 rfl (ls' := [zr self, zi a1, zU]) rfl ?_
        exact Rz.here fun _ q => q
    · (try dsimp only)
      refine z_istore h183 rfl (Or.inl rfl) (ls' := [zr self, zi a1, zi j5]) rfl ?_
      refine z_aload h183 rfl rfl (Or.inl rfl) (by omega) ?_
      refine z_getf (a := 12) (b := 41) (l := [249, 49]) h183 rfl (fun v6 => ?_)
      refine Rz.bind (t := fun j7 => (57, [zr self, zU, zi j5], [], j7, K)) ?_ (fun j7 => ?_)
      · refine z_ifne h183 rfl ?_ ?_
        · refine z_aload h183 rfl rfl (Or.inl rfl) (by omega) ?_
          refine z_iload h183 rfl rfl (Or.inl rfl) ?_
          refine Rz.esc (t := fun j9 => (52, [zr self, zU, zi j5], [zr self], M3, K)) ?_ (fun j9 => ?_)
          · refine z_ifeq h183 rfl ?_ ?_
            · refine z_kill h183 rfl (ls' := [zr self, zU, zi j5]) rfl ?_
              exact Rz.here fun _ q => q
            · refine z_aload h183 rfl rfl (Or.inl rfl) (by omega) ?_
              refine z_getf (a := 12) (b := 34) (l := [288, 49]) h183 rfl (fun v11 => ?_)
              refine z_iload h183 rfl rfl (Or.inl rfl) ?_
              refine z_ishr h183 rfl ?_
              refine z_iconst h183 rfl ?_
              refine z_iand h183 rfl ?_
              refine z_iconst h183 rfl ?_
              refine z_icne h183 rfl ?_ ?_
              · refine z_kill h183 rfl (ls' := [zr self, zU, zi j5]) rfl ?_
                exact Rz.here fun _ q => q
              · refine z_iconst h183 rfl ?_
                refine z_kill h183 rfl (ls' := [zr self, zU, zi j5]) rfl ?_
                refine z_iconst h183 rfl ?_
                refine z_cv (a := 178) (b := 0) (l := [278, 3, 12, 49]) (as := [zi 0, zi 4]) (lsE := [zr self, zi 0, zi 4]) (st' := []) (val := fun _ => none) (mem := fun p => p) h183 rfl ⟨rfl, rfl, rfl, Nat.le_of_ble_eq_true rfl, Nat.le_of_ble_eq_true rfl, rfl⟩ (fun g1 => (t_qmd_wants X K M3 self 0 4 (by omega))) (fun M12 => ?_)
                refine z_kill h183 rfl (ls' := [zr self, zU, zi j5]) rfl ?_
                exact Rz.here fun _ q => q
          · (try dsimp only)
            refine z_iconst h183 rfl ?_
            refine z_goto h183 rfl ?_
            refine z_kill h183 rfl (ls' := [zr self, zU, zi j5]) rfl ?_
            refine z_iconst h183 rfl ?_
            refine z_cv (a := 178) (b := 0) (l := [278, 3, 12, 49]) (as := [zi 1, zi 4]) (lsE := [zr self, zi 1, zi 4]) (st' := []) (val := fun _ => none) (mem := fun p => p) h183 rfl ⟨rfl, rfl, rfl, Nat.le_of_ble_eq_true rfl, Nat.le_of_ble_eq_true rfl, rfl⟩ (fun g1 => (t_qmd_wants X K M3 self 1 4 (by omega))) (fun M10 => ?_)
            refine z_kill h183 rfl (ls' := [zr self, zU, zi j5]) rfl ?_
            exact Rz.here fun _ q => q
        · refine z_kill h183 rfl (ls' := [zr self, zU, zi j5]) rfl ?_
          exact Rz.here fun _ q => q
      · (try dsimp only)
        refine z_aload h183 rfl rfl (Or.inl rfl) (by omega) ?_
        refine z_cv (a := 180) (b := 0) (l := [291, 1, 12, 49]) (as := []) (lsE := [zr self, zU]) (st' := []) (val := fun _ => none) (mem := fun p => p) h183 rfl ⟨rfl, rfl, rfl, Nat.le_of_ble_eq_true rfl, Nat.le_of_ble_eq_true rfl, rfl⟩ (fun g1 => (t_qmd_next X n K j7 self (by omega))) (fun M8 => ?_)
        refine z_iload h183 rfl rfl (Or.inl rfl) ?_
        exact z_iret h183 rfl (fun _ q => q)
set_option maxRecDepth 20000 in
theorem t_qmd_readNumber (X : Int × (Int → Int)) (n : Nat) (K : zK) (M : zM) (self a1 a2 : Int) (g_self : 1 ≤ self) : Rz X 184 (0, [zr self, zi a1, zi a2, zU], [], M, K) (qmd_readNumber n K M self a1 a2) (fun e P => P (some (zi e.1), e.2, K)) := by
  have h184 : zT 184 = zt184 := rfl
  unfold qmd_readNumber
  refine z_aload h184 rfl rfl (Or.inl rfl) (by omega) ?_
  refine z_aload h184 rfl rfl (Or.inl rfl) (by omega) ?_
  refine z_getf (a := 12) (b := 39) (l := [264, 49]) h184 rfl (fun v1 => ?_)
  refine z_iconst h184 rfl ?_
  refine Rz.bind (t := fun j2 => (8, [zr self, zi a1, zi a2, zU], [zi j2, zr self], M, K)) ?_ (fun j2 => ?_)
  · refine z_icne h184 rfl ?_ ?_
    · refine z_iconst h184 rfl ?_
      refine z_goto h184 rfl ?_
      refine z_kill h184 rfl (ls' := [zr self, zi a1, zi a2, zU]) rfl ?_
      exact Rz.here fun _ q => q
    · refine z_iconst h184 rfl ?_
      refine z_kill h184 rfl (ls' := [zr self, zi a1, zi a2, zU]) rfl ?_
      exact Rz.here fun _ q => q
  · (try dsimp only)
    refine z_iconst h184 rfl ?_
    refine z_cv (a := 178) (b := 0) (l := [278, 3, 12, 49]) (as := [zi j2, zi 2]) (lsE := [zr self, zi j2, zi 2]) (st' := []) (val := fun _ => none) (mem := fun p => p) h184 rfl ⟨rfl, rfl, rfl, Nat.le_of_ble_eq_true rfl, Nat.le_of_ble_eq_true rfl, rfl⟩ (fun g1 => (t_qmd_wants X K M self j2 2 (by omega))) (fun M3 => ?_)
    refine z_aload h184 rfl rfl (Or.inl rfl) (by omega) ?_
    refine z_getf (a := 12) (b := 41) (l := [249, 49]) h184 rfl (fun v4 => ?_)
    refine Rz.bind (t := fun j5 => (24, [zr self, zU, zU, zU], [], j5, K)) ?_ (fun j5 => ?_)
    · refine z_ifne h184 rfl ?_ ?_
      · refine z_aload h184 rfl rfl (Or.inl rfl) (by omega) ?_
        refine z_aload h184 rfl rfl (Or.inl rfl) (by omega) ?_
        refine z_getf (a := 12) (b := 40) (l := [275, 49]) h184 rfl (fun v8 => ?_)
        refine z_ci2l h184 rfl ?_
        refine z_iload h184 rfl rfl (Or.inl rfl) ?_
        refine z_ci2l h184 rfl ?_
        refine z_iload h184 rfl rfl (Or.inl rfl) ?_
        refine z_ci2l h184 rfl ?_
        refine z_cs (a := 129) (b := 0) (l := [110, 3]) (as := [zl (zw v8), zl (zw a1), zl (zw a2)]) (lsE := [zl (zw v8), zU, zl (zw a1), zU, zl (zw a2), zU]) (st' := [zr self]) (val := fun p => some (zi p)) (mem := fun _ => M3) h184 rfl ⟨rfl, rfl, rfl, Nat.le_of_ble_eq_true rfl, Nat.le_of_ble_eq_true rfl, rfl⟩ (t_qmd_in X K M3 (zw v8) (zw a1) (zw a2) ) (fun v9 => ?_)
        refine z_iconst h184 rfl ?_
        refine z_cv (a := 178) (b := 0) (l := [278, 3, 12, 49]) (as := [zi v9, zi 3]) (lsE := [zr self, zi v9, zi 3]) (st' := []) (val := fun _ => none) (mem := fun p => p) h184 rfl ⟨rfl, rfl, rfl, Nat.le_of_ble_eq_true rfl, Nat.le_of_ble_eq_true rfl, rfl⟩ (fun g1 => (t_qmd_wants X K M3 self v9 3 (by omega))) (fun M10 => ?_)
        refine z_kill h184 rfl (ls' := [zr self, zU, zU, zU]) rfl ?_
        exact Rz.here fun _ q => q
      · refine z_kill h184 rfl (ls' := [zr self, zU, zU, zU]) rfl ?_
        exact Rz.here fun _ q => q
    · (try dsimp only)
      refine z_aload h184 rfl rfl (Or.inl rfl) (by omega) ?_
      refine z_getf (a := 12) (b := 40) (l := [275, 49]) h184 rfl (fun v6 => ?_)
      refine z_istore h184 rfl (Or.inl rfl) (ls' := [zr self, zU, zU, zi v6]) rfl ?_
      refine z_aload h184 rfl rfl (Or.inl rfl) (by omega) ?_
      refine z_cv (a := 180) (b := 0) (l := [291, 1, 12, 49]) (as := []) (lsE := [zr self, zU]) (st' := []) (val := fun _ => none) (mem := fun p => p) h184 rfl ⟨rfl, rfl, rfl, Nat.le_of_ble_eq_true rfl, Nat.le_of_ble_eq_true rfl, rfl⟩ (fun g1 => (t_qmd_next X n K j5 self (by omega))) (fun M7 => ?_)
      refine z_iload h184 rfl rfl (Or.inl rfl) ?_
      exact z_iret h184 rfl (fun _ q => q)
set_option maxRecDepth 20000 in
theorem t_qmd_readLine (X : Int × (Int → Int)) (n : Nat) (K : zK) (M : zM) (self : Int) (g_self : 1 ≤ self) : Rz X 185 (0, [zr self, zU, zU, zU, zU], [], M, K) (qmd_readLine n K M self) (fun e P => P (none, e, K)) := by
  have h185 : zT 185 = zt185 := rfl
  unfold qmd_readLine
  refine z_aload h185 rfl rfl (Or.inl rfl) (by omega) ?_
  refine z_cv (a := 182) (b := 0) (l := [294, 1, 12, 49]) (as := []) (lsE := [zr self]) (st' := []) (val := fun p => some (zi p)) (mem := fun _ => M) h185 rfl ⟨rfl, rfl, rfl, Nat.le_of_ble_eq_true rfl, Nat.le_of_ble_eq_true rfl, rfl⟩ (fun g1 => (t_qmd_lineNow X K M self (by omega))) (fun v1 => ?_)
  refine z_istore h185 rfl (Or.inl rfl) (ls' := [zr self, zi v1, zU, zU, zU]) rfl ?_
  refine z_aload h185 rfl rfl (Or.inl rfl) (by omega) ?_
  refine z_iload h185 rfl rfl (Or.inl rfl) ?_
  refine z_iconst h185 rfl ?_
  refine Rz.bind (t := fun j2 => (10, [zr self, zi v1, zU, zU, zU], [zi j2, zr self], M, K)) ?_ (fun j2 => ?_)
  · refine z_iceq h185 rfl ?_ ?_
    · refine z_iconst h185 rfl ?_
      refine z_kill h185 rfl (ls' := [zr self, zi v1, zU, zU, zU]) rfl ?_
      exact Rz.here fun _ q => q
    · refine z_iconst h185 rfl ?_
      refine z_goto h185 rfl ?_
      refine z_kill h185 rfl (ls' := [zr self, zi v1, zU, zU, zU]) rfl ?_
      exact Rz.here fun _ q => q
  · (try dsimp only)
    refine z_iconst h185 rfl ?_
    refine z_cv (a := 178) (b := 0) (l := [278, 3, 12, 49]) (as := [zi j2, zi 2]) (lsE := [zr self, zi j2, zi 2]) (st' := []) (val := fun _ => none) (mem := fun p => p) h185 rfl ⟨rfl, rfl, rfl, Nat.le_of_ble_eq_true rfl, Nat.le_of_ble_eq_true rfl, rfl⟩ (fun g1 => (t_qmd_wants X K M self j2 2 (by omega))) (fun M3 => ?_)
    refine z_aload h185 rfl rfl (Or.inl rfl) (by omega) ?_
    refine z_aload h185 rfl rfl (Or.inl rfl) (by omega) ?_
    refine z_getf (a := 12) (b := 29) (l := [297, 49]) h185 rfl (fun v4 => ?_)
    refine z_iconst h185 rfl ?_
    refine Rz.bind (t := fun j5 => (20, [zr self, zi v1, zU, zU, zU], [zi j5, zr self], M3, K)) ?_ (fun j5 => ?_)
    · refine z_icge h185 rfl ?_ ?_
      · refine z_iconst h185 rfl ?_
        refine z_kill h185 rfl (ls' := [zr self, zi v1, zU, zU, zU]) rfl ?_
        exact Rz.here fun _ q => q
      · refine z_iconst h185 rfl ?_
        refine z_goto h185 rfl ?_
        refine z_kill h185 rfl (ls' := [zr self, zi v1, zU, zU, zU]) rfl ?_
        exact Rz.here fun _ q => q
    · (try dsimp only)
      refine z_iconst h185 rfl ?_
      refine z_cv (a := 178) (b := 0) (l := [278, 3, 12, 49]) (as := [zi j5, zi 5]) (lsE := [zr self, zi j5, zi 5]) (st' := []) (val := fun _ => none) (mem := fun p => p) h185 rfl ⟨rfl, rfl, rfl, Nat.le_of_ble_eq_true rfl, Nat.le_of_ble_eq_true rfl, rfl⟩ (fun g1 => (t_qmd_wants X K M3 self j5 5 (by omega))) (fun M6 => ?_)
      refine z_aload h185 rfl rfl (Or.inl rfl) (by omega) ?_
      refine z_getf (a := 12) (b := 41) (l := [249, 49]) h185 rfl (fun v7 => ?_)
      refine z_ifle h185 rfl ?_ ?_
      · refine z_aload h185 rfl rfl (Or.inl rfl) (by omega) ?_
        refine z_cv (a := 180) (b := 0) (l := [291, 1, 12, 49]) (as := []) (lsE := [zr self, zU]) (st' := []) (val := fun _ => none) (mem := fun p => p) h185 rfl ⟨rfl, rfl, rfl, Nat.le_of_ble_eq_true rfl, Nat.le_of_ble_eq_true rfl, rfl⟩ (fun g1 => (t_qmd_next X n K M6 self (by omega))) (fun M8 => ?_)
        refine z_aload h185 rfl rfl (Or.inl rfl) (by omega) ?_
        refine z_iload h185 rfl rfl (Or.inl rfl) ?_
        refine z_iconst h185 rfl ?_
        refine Rz.bind (t := fun j9 => (35, [zr self, zi v1, zU, zU, zU], [zi j9, zr self], M8, K)) ?_ (fun j9 => ?_)
        · refine z_icne h185 rfl ?_ ?_
          · refine z_iconst h185 rfl ?_
            refine z_goto h185 rfl ?_
            refine z_kill h185 rfl (ls' := [zr self, zi v1, zU, zU, zU]) rfl ?_
            exact Rz.here fun _ q => q
          · refine z_iconst h185 rfl ?_
            refine z_kill h185 rfl (ls' := [zr self, zi v1, zU, zU, zU]) rfl ?_
            exact Rz.here fun _ q => q
        · (try dsimp only)
          refine z_cv (a := 183) (b := 0) (l := [300, 2, 12, 49]) (as := [zi j9]) (lsE := [zr self, zi j9, zU]) (st' := []) (val := fun p => some (zi p.1)) (mem := fun p => p.2) h185 rfl ⟨rfl, rfl, rfl, Nat.le_of_ble_eq_true rfl, Nat.le_of_ble_eq_true rfl, rfl⟩ (fun g1 => (t_qmd_readRow X n K M8 self j9 (by omega))) (fun p10 => ?_)
          refine z_istore h185 rfl (Or.inl rfl) (ls' := [zr self, zi v1, zi p10.1, zU, zU]) rfl ?_
          refine z_iload h185 rfl rfl (Or.inl rfl) ?_
          refine z_iconst h185 rfl ?_
          refine Rz.bind (t := fun j11 => (48, [zr self, zi v1, zi p10.1, zU, zU], [zi j11.1], j11.2, K)) ?_ (fun j11 => ?_)
          · refine z_icge h185 rfl ?_ ?_
            · refine z_aload h185 rfl rfl (Or.inl rfl) (by omega) ?_
              refine z_iconst h185 rfl ?_
              refine z_cv (a := 183) (b := 0) (l := [300, 2, 12, 49]) (as := [zi 1]) (lsE := [zr self, zi 1, zU]) (st' := []) (val := fun p => some (zi p.1)) (mem := fun p => p.2) h185 rfl ⟨rfl, rfl, rfl, Nat.le_of_ble_eq_true rfl, Nat.le_of_ble_eq_true rfl, rfl⟩ (fun g1 => (t_qmd_readRow X n K p10.2 self 1 (by omega))) (fun p38 => ?_)
              refine z_kill h185 rfl (ls' := [zr self, zi v1, zi p10.1, zU, zU]) rfl ?_
              exact Rz.here fun _ q => q
            · refine z_aload h185 rfl rfl (Or.inl rfl) (by omega) ?_
              refine z_iconst h185 rfl ?_
              refine z_iconst h185 rfl ?_
              refine z_cv (a := 184) (b := 0) (l := [304, 3, 12, 49]) (as := [zi 0, zi 999]) (lsE := [zr self, zi 0, zi 999, zU]) (st' := []) (val := fun p => some (zi p.1)) (mem := fun p => p.2) h185 rfl ⟨rfl, rfl, rfl, Nat.le_of_ble_eq_true rfl, Nat.le_of_ble_eq_true rfl, rfl⟩ (fun g1 => (t_qmd_readNumber X n K p10.2 self 0 999 (by omega))) (fun p39 => ?_)
              refine z_goto h185 rfl ?_
              refine z_kill h185 rfl (ls' := [zr self, zi v1, zi p10.1, zU, zU]) rfl ?_
              exact Rz.here fun _ q => q
          · (try dsimp only)
            refine z_istore h185 rfl (Or.inl rfl) (ls' := [zr self, zi v1, zi p10.1, zi j11.1, zU]) rfl ?_
            refine z_iload h185 rfl rfl (Or.inl rfl) ?_
            refine z_iconst h185 rfl ?_
            refine Rz.bind (t := fun j12 => (60, [zr self, zi v1, zi p10.1, zi j11.1, zU], [zi j12.1], j12.2, K)) ?_ (fun j12 => ?_)
            · refine z_icge h185 rfl ?_ ?_
              · refine z_aload h185 rfl rfl (Or.inl rfl) (by omega) ?_
                refine z_iconst h185 rfl ?_
                refine z_cv (a := 183) (b := 0) (l := [300, 2, 12, 49]) (as := [zi 1]) (lsE := [zr self, zi 1, zU]) (st' := []) (val := fun p => some (zi p.1)) (mem := fun p => p.2) h185 rfl ⟨rfl, rfl, rfl, Nat.le_of_ble_eq_true rfl, Nat.le_of_ble_eq_true rfl, rfl⟩ (fun g1 => (t_qmd_readRow X n K j11.2 self 1 (by omega))) (fun p36 => ?_)
                refine z_kill h185 rfl (ls' := [zr self, zi v1, zi p10.1, zi j11.1, zU]) rfl ?_
                exact Rz.here fun _ q => q
              · refine z_aload h185 rfl rfl (Or.inl rfl) (by omega) ?_
                refine z_iconst h185 rfl ?_
                refine z_iconst h185 rfl ?_
                refine z_cv (a := 184) (b := 0) (l := [304, 3, 12, 49]) (as := [zi 1, zi 99]) (lsE := [zr self, zi 1, zi 99, zU]) (st' := []) (val := fun p => some (zi p.1)) (mem := fun p => p.2) h185 rfl ⟨rfl, rfl, rfl, Nat.le_of_ble_eq_true rfl, Nat.le_of_ble_eq_true rfl, rfl⟩ (fun g1 => (t_qmd_readNumber X n K j11.2 self 1 99 (by omega))) (fun p37 => ?_)
                refine z_goto h185 rfl ?_
                refine z_kill h185 rfl (ls' := [zr self, zi v1, zi p10.1, zi j11.1, zU]) rfl ?_
                exact Rz.here fun _ q => q
            · (try dsimp only)
              refine z_istore h185 rfl (Or.inr rfl) (ls' := [zr self, zi v1, zi p10.1, zi j11.1, zi j12.1]) rfl ?_
              refine z_aload h185 rfl rfl (Or.inl rfl) (by omega) ?_
              refine z_getf (a := 12) (b := 41) (l := [249, 49]) h185 rfl (fun v13 => ?_)
              refine Rz.bind (t := fun j14 => (74, [zr self, zi v1, zi p10.1, zi j11.1, zi j12.1], [], j14, K)) ?_ (fun j14 => ?_)
              · refine z_ifne h185 rfl ?_ ?_
                · refine z_aload h185 rfl rfl (Or.inl rfl) (by omega) ?_
                  refine z_aload h185 rfl rfl (Or.inl rfl) (by omega) ?_
                  refine z_getf (a := 12) (b := 39) (l := [264, 49]) h185 rfl (fun v33 => ?_)
                  refine z_iconst h185 rfl ?_
                  refine Rz.bind (t := fun j34 => (72, [zr self, zi v1, zi p10.1, zi j11.1, zi j12.1], [zi j34, zr self], j12.2, K)) ?_ (fun j34 => ?_)
                  · refine z_icne h185 rfl ?_ ?_
                    · refine z_iconst h185 rfl ?_
                      refine z_goto h185 rfl ?_
                      exact Rz.here fun _ q => q
                    · refine z_iconst h185 rfl ?_
                      exact Rz.here fun _ q => q
                  · (try dsimp only)
                    refine z_iconst h185 rfl ?_
                    refine z_cv (a := 178) (b := 0) (l := [278, 3, 12, 49]) (as := [zi j34, zi 2]) (lsE := [zr self, zi j34, zi 2]) (st' := []) (val := fun _ => none) (mem := fun p => p) h185 rfl ⟨rfl, rfl, rfl, Nat.le_of_ble_eq_true rfl, Nat.le_of_ble_eq_true rfl, rfl⟩ (fun g1 => (t_qmd_wants X K j12.2 self j34 2 (by omega))) (fun M35 => ?_)
                    exact Rz.here fun _ q => q
                · exact Rz.here fun _ q => q
              · (try dsimp only)
                refine z_aload h185 rfl rfl (Or.inl rfl) (by omega) ?_
                refine z_getr (a := 12) (b := 30) (l := [75, 49]) h185 rfl (fun r15 g_r15 => ?_)
                refine z_aload h185 rfl rfl (Or.inl rfl) (by omega) ?_
                refine z_getf (a := 12) (b := 29) (l := [297, 49]) h185 rfl (fun v16 => ?_)
                refine z_iload h185 rfl rfl (Or.inl rfl) ?_
                refine z_iast h185 rfl (fun M17 => ?_)
                refine z_aload h185 rfl rfl (Or.inl rfl) (by omega) ?_
                refine z_getr (a := 12) (b := 31) (l := [78, 49]) h185 rfl (fun r18 g_r18 => ?_)
                refine z_aload h185 rfl rfl (Or.inl rfl) (by omega) ?_
                refine z_getf (a := 12) (b := 29) (l := [297, 49]) h185 rfl (fun v19 => ?_)
                refine z_iload h185 rfl rfl (Or.inl rfl) ?_
                refine z_iast h185 rfl (fun M20 => ?_)
                refine z_aload h185 rfl rfl (Or.inl rfl) (by omega) ?_
                refine z_getr (a := 12) (b := 32) (l := [81, 49]) h185 rfl (fun r21 g_r21 => ?_)
                refine z_aload h185 rfl rfl (Or.inl rfl) (by omega) ?_
                refine z_getf (a := 12) (b := 29) (l := [297, 49]) h185 rfl (fun v22 => ?_)
                refine z_iload h185 rfl rfl (Or.inl rfl) ?_
                refine z_iast h185 rfl (fun M23 => ?_)
                refine z_aload h185 rfl rfl (Or.inl rfl) (by omega) ?_
                refine z_getr (a := 12) (b := 33) (l := [84, 49]) h185 rfl (fun r24 g_r24 => ?_)
                refine z_aload h185 rfl rfl (Or.inl rfl) (by omega) ?_
                refine z_getf (a := 12) (b := 29) (l := [297, 49]) h185 rfl (fun v25 => ?_)
                refine z_iload h185 rfl rfl (Or.inr rfl) ?_
                refine z_iast h185 rfl (fun M26 => ?_)
                refine z_aload h185 rfl rfl (Or.inl rfl) (by omega) ?_
                refine z_dupr h185 rfl ?_
                refine z_getf (a := 12) (b := 34) (l := [288, 49]) h185 rfl (fun v27 => ?_)
                refine z_iload h185 rfl rfl (Or.inl rfl) ?_
                refine z_iconst h185 rfl ?_
                refine Rz.bind (t := fun j28 => (109, [zr self, zU, zU, zU, zU], [zi j28, zi v27, zr self], M26, K)) ?_ (fun j28 => ?_)
                · refine z_icne h185 rfl ?_ ?_
                  · refine z_iconst h185 rfl ?_
                    refine z_goto h185 rfl ?_
                    refine z_kill h185 rfl (ls' := [zr self, zU, zU, zU, zU]) rfl ?_
                    exact Rz.here fun _ q => q
                  · refine z_iconst h185 rfl ?_
                    refine z_iload h185 rfl rfl (Or.inl rfl) ?_
                    refine z_ishl h185 rfl ?_
                    refine z_kill h185 rfl (ls' := [zr self, zU, zU, zU, zU]) rfl ?_
                    exact Rz.here fun _ q => q
                · (try dsimp only)
                  refine z_ior h185 rfl ?_
                  refine z_putf (a := 12) (b := 34) (l := [288, 49]) h185 rfl (fun M29 => ?_)
                  refine z_aload h185 rfl rfl (Or.inl rfl) (by omega) ?_
                  refine z_dupr h185 rfl ?_
                  refine z_getf (a := 12) (b := 29) (l := [297, 49]) h185 rfl (fun v30 => ?_)
                  refine z_iconst h185 rfl ?_
                  refine z_iadd h185 rfl ?_
                  refine z_putf (a := 12) (b := 29) (l := [297, 49]) h185 rfl (fun M31 => ?_)
                  refine z_aload h185 rfl rfl (Or.inl rfl) (by omega) ?_
                  refine z_cv (a := 180) (b := 0) (l := [291, 1, 12, 49]) (as := []) (lsE := [zr self, zU]) (st' := []) (val := fun _ => none) (mem := fun p => p) h185 rfl ⟨rfl, rfl, rfl, Nat.le_of_ble_eq_true rfl, Nat.le_of_ble_eq_true rfl, rfl⟩ (fun g1 => (t_qmd_next X n K M31 self (by omega))) (fun M32 => ?_)
                  exact z_vret h185 rfl (fun _ q => q)
      · exact z_vret h185 rfl (fun _ q => q)
set_option maxRecDepth 20000 in
theorem t_qmd_program (X : Int × (Int → Int)) (n : Nat) (K : zK) (M : zM) (self : Int) (g_self : 1 ≤ self) : Rz X 186 (0, [zr self, zU], [], M, K) (qmd_program n K M self) (fun e P => P (some (zi e.1), e.2, K)) := by
  have h186 : zT 186 = zt186 := rfl
  unfold qmd_program
  refine z_aload h186 rfl rfl (Or.inl rfl) (by omega) ?_
  refine z_iconst h186 rfl ?_
  refine z_putf (a := 12) (b := 41) (l := [249, 49]) h186 rfl (fun M1 => ?_)
  refine z_aload h186 rfl rfl (Or.inl rfl) (by omega) ?_
  refine z_iconst h186 rfl ?_
  refine z_putf (a := 12) (b := 37) (l := [258, 49]) h186 rfl (fun M2 => ?_)
  refine z_aload h186 rfl rfl (Or.inl rfl) (by omega) ?_
  refine z_iconst h186 rfl ?_
  refine z_putf (a := 12) (b := 29) (l := [297, 49]) h186 rfl (fun M3 => ?_)
  refine z_aload h186 rfl rfl (Or.inl rfl) (by omega) ?_
  refine z_iconst h186 rfl ?_
  refine z_putf (a := 12) (b := 34) (l := [288, 49]) h186 rfl (fun M4 => ?_)
  refine z_aload h186 rfl rfl (Or.inl rfl) (by omega) ?_
  refine z_cv (a := 180) (b := 0) (l := [291, 1, 12, 49]) (as := []) (lsE := [zr self, zU]) (st' := []) (val := fun _ => none) (mem := fun p => p) h186 rfl ⟨rfl, rfl, rfl, Nat.le_of_ble_eq_true rfl, Nat.le_of_ble_eq_true rfl, rfl⟩ (fun g1 => (t_qmd_next X n K M4 self (by omega))) (fun M5 => ?_)
  refine z_kill h186 rfl (ls' := [zr self, zU]) rfl ?_
  refine Rz.bind (t := fun e7 => (81, [zr self, zU], [], e7, K)) ?_ (fun e7 => ?_)
  · refine Rz.wh (hd := fun s6 => (14, [zr self, zU], [], s6, K)) (fun s6 => ?_) n M5
    (try dsimp only)
    refine z_aload h186 rfl rfl (Or.inl rfl) (by omega) ?_
    refine z_getf (a := 12) (b := 41) (l := [249, 49]) h186 rfl (fun v31 => ?_)
    refine z_ifne h186 rfl ?_ ?_
    · refine z_aload h186 rfl rfl (Or.inl rfl) (by omega) ?_
      refine z_getf (a := 12) (b := 39) (l := [264, 49]) h186 rfl (fun v32 => ?_)
      refine z_ifeq h186 rfl ?_ ?_
      · exact Rz.here fun _ q => q
      · refine z_aload h186 rfl rfl (Or.inl rfl) (by omega) ?_
        refine z_cv (a := 185) (b := 0) (l := [307, 1, 12, 49]) (as := []) (lsE := [zr self, zU, zU, zU, zU]) (st' := []) (val := fun _ => none) (mem := fun p => p) h186 rfl ⟨rfl, rfl, rfl, Nat.le_of_ble_eq_true rfl, Nat.le_of_ble_eq_true rfl, rfl⟩ (fun g1 => (t_qmd_readLine X n K s6 self (by omega))) (fun M33 => ?_)
        refine z_goto h186 rfl ?_
        refine z_kill h186 rfl (ls' := [zr self, zU]) rfl ?_
        exact Rz.here fun _ q => q
    · exact Rz.here fun _ q => q
  · (try dsimp only)
    refine z_kill h186 rfl (ls' := [zr self, zU]) rfl ?_
    refine z_aload h186 rfl rfl (Or.inl rfl) (by omega) ?_
    refine z_iconst h186 rfl ?_
    refine z_putf (a := 12) (b := 36) (l := [244, 49]) h186 rfl (fun M8 => ?_)
    refine z_aload h186 rfl rfl (Or.inl rfl) (by omega) ?_
    refine z_getf (a := 12) (b := 41) (l := [249, 49]) h186 rfl (fun v9 => ?_)
    refine z_ifle h186 rfl ?_ ?_
    · refine z_aload h186 rfl rfl (Or.inl rfl) (by omega) ?_
      refine z_aload h186 rfl rfl (Or.inl rfl) (by omega) ?_
      refine z_getf (a := 12) (b := 29) (l := [297, 49]) h186 rfl (fun v10 => ?_)
      refine z_putf (a := 12) (b := 24) (l := [310, 49]) h186 rfl (fun M11 => ?_)
      refine z_iconst h186 rfl ?_
      refine z_istore h186 rfl (Or.inl rfl) (ls' := [zr self, zi 0]) rfl ?_
      refine Rz.wh (hd := fun s12 => (40, [zr self, zi s12.1], [], s12.2, K)) (fun s12 => ?_) n (0, M11)
      (try dsimp only)
      refine z_iload h186 rfl rfl (Or.inl rfl) ?_
      refine z_iconst h186 rfl ?_
      refine z_icge h186 rfl ?_ ?_
      · refine z_aload h186 rfl rfl (Or.inl rfl) (by omega) ?_
        refine z_getf (a := 12) (b := 24) (l := [310, 49]) h186 rfl (fun v13 => ?_)
        exact z_iret h186 rfl (fun _ q => q)
      · refine z_aload h186 rfl rfl (Or.inl rfl) (by omega) ?_
        refine z_getr (a := 12) (b := 25) (l := [63, 49]) h186 rfl (fun r14 g_r14 => ?_)
        refine z_iload h186 rfl rfl (Or.inl rfl) ?_
        refine z_aload h186 rfl rfl (Or.inl rfl) (by omega) ?_
        refine z_getr (a := 12) (b := 30) (l := [75, 49]) h186 rfl (fun r15 g_r15 => ?_)
        refine z_iload h186 rfl rfl (Or.inl rfl) ?_
        refine z_iald h186 rfl (fun v16 => ?_)
        refine z_iast h186 rfl (fun M17 => ?_)
        refine z_aload h186 rfl rfl (Or.inl rfl) (by omega) ?_
        refine z_getr (a := 12) (b := 26) (l := [66, 49]) h186 rfl (fun r18 g_r18 => ?_)
        refine z_iload h186 rfl rfl (Or.inl rfl) ?_
        refine z_aload h186 rfl rfl (Or.inl rfl) (by omega) ?_
        refine z_getr (a := 12) (b := 31) (l := [78, 49]) h186 rfl (fun r19 g_r19 => ?_)
        refine z_iload h186 rfl rfl (Or.inl rfl) ?_
        refine z_iald h186 rfl (fun v20 => ?_)
        refine z_iast h186 rfl (fun M21 => ?_)
        refine z_aload h186 rfl rfl (Or.inl rfl) (by omega) ?_
        refine z_getr (a := 12) (b := 27) (l := [69, 49]) h186 rfl (fun r22 g_r22 => ?_)
        refine z_iload h186 rfl rfl (Or.inl rfl) ?_
        refine z_aload h186 rfl rfl (Or.inl rfl) (by omega) ?_
        refine z_getr (a := 12) (b := 32) (l := [81, 49]) h186 rfl (fun r23 g_r23 => ?_)
        refine z_iload h186 rfl rfl (Or.inl rfl) ?_
        refine z_iald h186 rfl (fun v24 => ?_)
        refine z_iast h186 rfl (fun M25 => ?_)
        refine z_aload h186 rfl rfl (Or.inl rfl) (by omega) ?_
        refine z_getr (a := 12) (b := 28) (l := [72, 49]) h186 rfl (fun r26 g_r26 => ?_)
        refine z_iload h186 rfl rfl (Or.inl rfl) ?_
        refine z_aload h186 rfl rfl (Or.inl rfl) (by omega) ?_
        refine z_getr (a := 12) (b := 33) (l := [84, 49]) h186 rfl (fun r27 g_r27 => ?_)
        refine z_iload h186 rfl rfl (Or.inl rfl) ?_
        refine z_iald h186 rfl (fun v28 => ?_)
        refine z_iast h186 rfl (fun M29 => ?_)
        refine z_iinc h186 rfl rfl (ls' := [zr self, zi (s12.1 + 1)]) rfl ?_
        refine z_goto h186 rfl ?_
        exact Rz.here fun _ q => q
    · refine z_iconst h186 rfl ?_
      refine z_aload h186 rfl rfl (Or.inl rfl) (by omega) ?_
      refine z_getf (a := 12) (b := 42) (l := [255, 49]) h186 rfl (fun v30 => ?_)
      refine z_isub h186 rfl ?_
      exact z_iret h186 rfl (fun _ q => q)
set_option maxRecDepth 20000 in
theorem t_qmd_fault (X : Int × (Int → Int)) (K : zK) (M : zM) (self : Int) (g_self : 1 ≤ self) : Rz X 187 (0, [zr self], [], M, K) (qmd_fault K M self) (fun e P => P (some (zi e), M, K)) := by
  have h187 : zT 187 = zt187 := rfl
  unfold qmd_fault
  refine z_aload h187 rfl rfl (Or.inl rfl) (by omega) ?_
  refine z_getf (a := 12) (b := 41) (l := [249, 49]) h187 rfl (fun v1 => ?_)
  exact z_iret h187 rfl (fun _ q => q)
set_option maxRecDepth 20000 in
theorem t_qmd_isLine (X : Int × (Int → Int)) (K : zK) (M : zM) (self a1 : Int) (g_self : 1 ≤ self) : Rz X 188 (0, [zr self, zi a1], [], M, K) (qmd_isLine K M self a1) (fun e P => P (some (zi e), M, K)) := by
  have h188 : zT 188 = zt188 := rfl
  unfold qmd_isLine
  refine z_iload h188 rfl rfl (Or.inl rfl) ?_
  refine z_ci2l h188 rfl ?_
  refine z_lconst h188 rfl ?_
  refine z_aload h188 rfl rfl (Or.inl rfl) (by omega) ?_
  refine z_getf (a := 12) (b := 24) (l := [310, 49]) h188 rfl (fun v1 => ?_)
  refine z_iconst h188 rfl ?_
  refine z_isub h188 rfl ?_
  refine z_ci2l h188 rfl ?_
  refine z_cs (a := 129) (b := 0) (l := [110, 3]) (as := [zl (zw a1), zl 0, zl (zw (v1 - 1))]) (lsE := [zl (zw a1), zU, zl 0, zU, zl (zw (v1 - 1)), zU]) (st' := []) (val := fun p => some (zi p)) (mem := fun _ => M) h188 rfl ⟨rfl, rfl, rfl, Nat.le_of_ble_eq_true rfl, Nat.le_of_ble_eq_true rfl, rfl⟩ (t_qmd_in X K M (zw a1) 0 (zw (v1 - 1)) ) (fun v2 => ?_)
  exact z_zretb h188 rfl (fun z hz P q => by cases hz; exact q)
set_option maxRecDepth 20000 in
theorem t_qmd_line (X : Int × (Int → Int)) (K : zK) (M : zM) (self a1 a2 : Int) (g_self : 1 ≤ self) : Rz X 189 (0, [zr self, zi a1, zi a2], [], M, K) (qmd_line K M self a1 a2) (fun e P => P (some (zi e), M, K)) := by
  have h189 : zT 189 = zt189 := rfl
  unfold qmd_line
  refine z_aload h189 rfl rfl (Or.inl rfl) (by omega) ?_
  refine z_iload h189 rfl rfl (Or.inl rfl) ?_
  refine z_cv (a := 188) (b := 0) (l := [313, 2, 12, 49]) (as := [zi a1]) (lsE := [zr self, zi a1]) (st' := []) (val := fun p => some (zi p)) (mem := fun _ => M) h189 rfl ⟨rfl, rfl, rfl, Nat.le_of_ble_eq_true rfl, Nat.le_of_ble_eq_true rfl, rfl⟩ (fun g1 => (t_qmd_isLine X K M self a1 (by omega))) (fun v1 => ?_)
  refine Rz.esc (t := fun j2 => (10, [zU, zU, zU], [], M, K)) ?_ (fun j2 => ?_)
  · refine z_ifeq h189 rfl ?_ ?_
    · refine z_kill h189 rfl (ls' := [zU, zU, zU]) rfl ?_
      exact Rz.here fun _ q => q
    · refine z_iload h189 rfl rfl (Or.inl rfl) ?_
      refine z_ci2l h189 rfl ?_
      refine z_lconst h189 rfl ?_
      refine z_lconst h189 rfl ?_
      refine z_cs (a := 129) (b := 0) (l := [110, 3]) (as := [zl (zw a2), zl 0, zl 3]) (lsE := [zl (zw a2), zU, zl 0, zU, zl 3, zU]) (st' := []) (val := fun p => some (zi p)) (mem := fun _ => M) h189 rfl ⟨rfl, rfl, rfl, Nat.le_of_ble_eq_true rfl, Nat.le_of_ble_eq_true rfl, rfl⟩ (t_qmd_in X K M (zw a2) 0 3 ) (fun v3 => ?_)
      refine z_ifne h189 rfl ?_ ?_
      · refine z_kill h189 rfl (ls' := [zU, zU, zU]) rfl ?_
        exact Rz.here fun _ q => q
      · refine z_iload h189 rfl rfl (Or.inl rfl) ?_
        refine z_ifne h189 rfl ?_ ?_
        · refine z_aload h189 rfl rfl (Or.inl rfl) (by omega) ?_
          refine z_getr (a := 12) (b := 25) (l := [63, 49]) h189 rfl (fun r4 g_r4 => ?_)
          refine z_iload h189 rfl rfl (Or.inl rfl) ?_
          refine z_iald h189 rfl (fun v5 => ?_)
          refine z_goto h189 rfl ?_
          refine z_kill h189 rfl (ls' := [zU, zU, zU]) rfl ?_
          exact z_iret h189 rfl (fun _ q => q)
        · refine z_iload h189 rfl rfl (Or.inl rfl) ?_
          refine z_iconst h189 rfl ?_
          refine z_icne h189 rfl ?_ ?_
          · refine z_aload h189 rfl rfl (Or.inl rfl) (by omega) ?_
            refine z_getr (a := 12) (b := 26) (l := [66, 49]) h189 rfl (fun r6 g_r6 => ?_)
            refine z_iload h189 rfl rfl (Or.inl rfl) ?_
            refine z_iald h189 rfl (fun v7 => ?_)
            refine z_goto h189 rfl ?_
            refine z_kill h189 rfl (ls' := [zU, zU, zU]) rfl ?_
            exact z_iret h189 rfl (fun _ q => q)
          · refine z_iload h189 rfl rfl (Or.inl rfl) ?_
            refine z_iconst h189 rfl ?_
            refine z_icne h189 rfl ?_ ?_
            · refine z_aload h189 rfl rfl (Or.inl rfl) (by omega) ?_
              refine z_getr (a := 12) (b := 27) (l := [69, 49]) h189 rfl (fun r8 g_r8 => ?_)
              refine z_iload h189 rfl rfl (Or.inl rfl) ?_
              refine z_iald h189 rfl (fun v9 => ?_)
              refine z_goto h189 rfl ?_
              refine z_kill h189 rfl (ls' := [zU, zU, zU]) rfl ?_
              exact z_iret h189 rfl (fun _ q => q)
            · refine z_aload h189 rfl rfl (Or.inl rfl) (by omega) ?_
              refine z_getr (a := 12) (b := 28) (l := [72, 49]) h189 rfl (fun r10 g_r10 => ?_)
              refine z_iload h189 rfl rfl (Or.inl rfl) ?_
              refine z_iald h189 rfl (fun v11 => ?_)
              refine z_kill h189 rfl (ls' := [zU, zU, zU]) rfl ?_
              exact z_iret h189 rfl (fun _ q => q)
  · (try dsimp only)
    refine z_iconst h189 rfl ?_
    refine z_goto h189 rfl ?_
    refine z_kill h189 rfl (ls' := [zU, zU, zU]) rfl ?_
    exact z_iret h189 rfl (fun _ q => q)
set_option maxRecDepth 20000 in
theorem t_qmd_madeBy (X : Int × (Int → Int)) (n : Nat) (K : zK) (M : zM) (self a1 a2 : Int) (g_self : 1 ≤ self) : Rz X 190 (0, [zr self, zi a1, zi a2, zU], [], M, K) (qmd_madeBy n K M self a1 a2) (fun e P => P (some (zi e), M, K)) := by
  have h190 : zT 190 = zt190 := rfl
  unfold qmd_madeBy
  refine z_iload h190 rfl rfl (Or.inl rfl) ?_
  refine z_iconst h190 rfl ?_
  refine z_isub h190 rfl ?_
  refine z_istoreL (lsf := fun x1 => [zr self, zi a1, zi a2, zi x1]) h190 rfl (Or.inl rfl) (fun _ => rfl) (fun x1 => ?_)
  (try dsimp only)
  refine z_kill h190 rfl (ls' := [zr self, zU, zi a2, zi x1]) rfl ?_
  refine Rz.wh (hd := fun s2 => (4, [zr self, zU, zi a2, zi s2], [], M, K)) (fun s2 => ?_) n x1
  (try dsimp only)
  refine z_aload h190 rfl rfl (Or.inl rfl) (by omega) ?_
  refine z_getr (a := 12) (b := 25) (l := [63, 49]) h190 rfl (fun r3 g_r3 => ?_)
  refine z_iload h190 rfl rfl (Or.inl rfl) ?_
  refine z_iald h190 rfl (fun v4 => ?_)
  refine z_iconst h190 rfl ?_
  refine Rz.esc (t := fun j5 => (16, [zr self, zU, zi a2, zi s2], [], M, K)) ?_ (fun j5 => ?_)
  · refine z_iceq h190 rfl ?_ ?_
    · refine z_kill h190 rfl (ls' := [zr self, zU, zi a2, zi s2]) rfl ?_
      exact Rz.here fun _ q => q
    · refine z_aload h190 rfl rfl (Or.inl rfl) (by omega) ?_
      refine z_getr (a := 12) (b := 26) (l := [66, 49]) h190 rfl (fun r6 g_r6 => ?_)
      refine z_iload h190 rfl rfl (Or.inl rfl) ?_
      refine z_iald h190 rfl (fun v7 => ?_)
      refine z_iload h190 rfl rfl (Or.inl rfl) ?_
      refine z_iceq h190 rfl ?_ ?_
      · refine z_iload h190 rfl rfl (Or.inl rfl) ?_
        exact z_iret h190 rfl (fun _ q => q)
      · refine z_kill h190 rfl (ls' := [zr self, zU, zi a2, zi s2]) rfl ?_
        exact Rz.here fun _ q => q
  · (try dsimp only)
    refine z_iinc h190 rfl rfl (ls' := [zr self, zU, zi a2, zi (s2 + (-1))]) rfl ?_
    refine z_goto h190 rfl ?_
    refine z_kill h190 rfl (ls' := [zr self, zU, zi a2, zi (s2 + (-1))]) rfl ?_
    exact Rz.here fun _ q => q
set_option maxRecDepth 20000 in
theorem t_qmd_thereAt (X : Int × (Int → Int)) (n : Nat) (K : zK) (M : zM) (self a1 a2 a3 a4 : Int) (g_self : 1 ≤ self) : Rz X 191 (0, [zr self, zi a1, zi a2, zi a3, zi a4, zU, zU], [], M, K) (qmd_thereAt n K M self a1 a2 a3 a4) (fun e P => P (some (zi e), M, K)) := by
  have h191 : zT 191 = zt191 := rfl
  unfold qmd_thereAt
  refine z_aload h191 rfl rfl (Or.inl rfl) (by omega) ?_
  refine z_getr (a := 12) (b := 44) (l := [93, 49]) h191 rfl (fun r1 g_r1 => ?_)
  refine z_iconst h191 rfl ?_
  refine z_iload h191 rfl rfl (Or.inl rfl) ?_
  refine z_imul h191 rfl ?_
  refine z_iload h191 rfl rfl (Or.inl rfl) ?_
  refine z_iadd h191 rfl ?_
  refine z_iald h191 rfl (fun v2 => ?_)
  refine z_istore h191 rfl (Or.inr rfl) (ls' := [zr self, zi a1, zi a2, zi a3, zi a4, zi v2, zU]) rfl ?_
  refine z_iconst h191 rfl ?_
  refine z_istore h191 rfl (Or.inr rfl) (ls' := [zr self, zi a1, zi a2, zi a3, zi a4, zi v2, zi 0]) rfl ?_
  refine z_kill h191 rfl (ls' := [zr self, zi a1, zU, zi a3, zi a4, zi v2, zi 0]) rfl ?_
  refine Rz.wh (hd := fun s3 => (11, [zr self, zi a1, zU, zi a3, zi a4, zi s3.1, zi s3.2], [], M, K)) (fun s3 => ?_) n (v2, 0)
  (try dsimp only)
  refine z_iload h191 rfl rfl (Or.inr rfl) ?_
  refine z_iload h191 rfl rfl (Or.inl rfl) ?_
  refine z_icge h191 rfl ?_ ?_
  · refine z_kill h191 rfl (ls' := [zU, zU, zU, zU, zU, zi s3.1, zU]) rfl ?_
    refine z_iload h191 rfl rfl (Or.inr rfl) ?_
    exact z_iret h191 rfl (fun _ q => q)
  · refine z_iload h191 rfl rfl (Or.inr rfl) ?_
    refine z_ifne h191 rfl ?_ ?_
    · refine z_aload h191 rfl rfl (Or.inl rfl) (by omega) ?_
      refine z_getr (a := 12) (b := 44) (l := [93, 49]) h191 rfl (fun r4 g_r4 => ?_)
      refine z_iconst h191 rfl ?_
      refine z_iload h191 rfl rfl (Or.inl rfl) ?_
      refine z_imul h191 rfl ?_
      refine z_iload h191 rfl rfl (Or.inr rfl) ?_
      refine z_iadd h191 rfl ?_
      refine z_iald h191 rfl (fun v5 => ?_)
      refine z_iload h191 rfl rfl (Or.inr rfl) ?_
      refine Rz.bind (t := fun j6 => (36, [zr self, zi a1, zU, zi a3, zi a4, zU, zi s3.2], [zi j6], M, K)) ?_ (fun j6 => ?_)
      · refine z_icle h191 rfl ?_ ?_
        · refine z_iload h191 rfl rfl (Or.inr rfl) ?_
          refine z_kill h191 rfl (ls' := [zr self, zi a1, zU, zi a3, zi a4, zU, zi s3.2]) rfl ?_
          exact Rz.here fun _ q => q
        · refine z_aload h191 rfl rfl (Or.inl rfl) (by omega) ?_
          refine z_getr (a := 12) (b := 44) (l := [93, 49]) h191 rfl (fun r7 g_r7 => ?_)
          refine z_iconst h191 rfl ?_
          refine z_iload h191 rfl rfl (Or.inl rfl) ?_
          refine z_imul h191 rfl ?_
          refine z_iload h191 rfl rfl (Or.inr rfl) ?_
          refine z_iadd h191 rfl ?_
          refine z_iald h191 rfl (fun v8 => ?_)
          refine z_goto h191 rfl ?_
          refine z_kill h191 rfl (ls' := [zr self, zi a1, zU, zi a3, zi a4, zU, zi s3.2]) rfl ?_
          exact Rz.here fun _ q => q
      · (try dsimp only)
        refine z_istore h191 rfl (Or.inr rfl) (ls' := [zr self, zi a1, zU, zi a3, zi a4, zi j6, zi s3.2]) rfl ?_
        refine z_iinc h191 rfl rfl (ls' := [zr self, zi a1, zU, zi a3, zi a4, zi j6, zi (s3.2 + 1)]) rfl ?_
        refine z_goto h191 rfl ?_
        refine z_kill h191 rfl (ls' := [zr self, zi a1, zU, zi a3, zi a4, zi j6, zi (s3.2 + 1)]) rfl ?_
        exact Rz.here fun _ q => q
    · refine z_kill h191 rfl (ls' := [zU, zU, zU, zU, zU, zi s3.1, zU]) rfl ?_
      refine z_iload h191 rfl rfl (Or.inr rfl) ?_
      exact z_iret h191 rfl (fun _ q => q)
set_option maxRecDepth 20000 in
theorem t_qmd_more (X : Int × (Int → Int)) (K : zK) (M : zM) (a0 a1 : Int) : Rz X 192 (0, [zi a0, zi a1], [], M, K) (qmd_more K M a0 a1) (fun e P => P (some (zi e), M, K)) := by
  have h192 : zT 192 = zt192 := rfl
  unfold qmd_more
  refine z_iload h192 rfl rfl (Or.inl rfl) ?_
  refine z_iload h192 rfl rfl (Or.inl rfl) ?_
  refine z_icle h192 rfl ?_ ?_
  · refine z_iload h192 rfl rfl (Or.inl rfl) ?_
    refine z_kill h192 rfl (ls' := [zU, zU]) rfl ?_
    exact z_iret h192 rfl (fun _ q => q)
  · refine z_iload h192 rfl rfl (Or.inl rfl) ?_
    refine z_goto h192 rfl ?_
    refine z_kill h192 rfl (ls' := [zU, zU]) rfl ?_
    exact z_iret h192 rfl (fun _ q => q)
set_option maxRecDepth 20000 in
theorem t_qmd_runsLine (X : Int × (Int → Int)) (n : Nat) (K : zK) (M : zM) (self a1 a2 a3 : Int) (g_self : 1 ≤ self) : Rz X 193 (0, [zr self, zi a1, zi a2, zi a3, zU, zU, zU, zU], [], M, K) (qmd_runsLine n K M self a1 a2 a3) (fun e P => P (none, e, K)) := by
  have h193 : zT 193 = zt193 := rfl
  unfold qmd_runsLine
  refine z_aload h193 rfl rfl (Or.inl rfl) (by omega) ?_
  refine z_getr (a := 12) (b := 25) (l := [63, 49]) h193 rfl (fun r1 g_r1 => ?_)
  refine z_iload h193 rfl rfl (Or.inl rfl) ?_
  refine z_iald h193 rfl (fun v2 => ?_)
  refine z_iconst h193 rfl ?_
  refine Rz.bind (t := fun j3 => (14, [zr self, zi a1, zi a2, zi a3, zU, zU, zU, zU], [zi j3], M, K)) ?_ (fun j3 => ?_)
  · refine z_icge h193 rfl ?_ ?_
    · refine z_aload h193 rfl rfl (Or.inl rfl) (by omega) ?_
      refine z_getr (a := 12) (b := 25) (l := [63, 49]) h193 rfl (fun r45 g_r45 => ?_)
      refine z_iload h193 rfl rfl (Or.inl rfl) ?_
      refine z_iald h193 rfl (fun v46 => ?_)
      refine z_iconst h193 rfl ?_
      refine z_isub h193 rfl ?_
      refine z_kill h193 rfl (ls' := [zr self, zi a1, zi a2, zi a3, zU, zU, zU, zU]) rfl ?_
      exact Rz.here fun _ q => q
    · refine z_iconst h193 rfl ?_
      refine z_goto h193 rfl ?_
      refine z_kill h193 rfl (ls' := [zr self, zi a1, zi a2, zi a3, zU, zU, zU, zU]) rfl ?_
      exact Rz.here fun _ q => q
  · (try dsimp only)
    refine z_istore h193 rfl (Or.inr rfl) (ls' := [zr self, zi a1, zi a2, zi a3, zi j3, zU, zU, zU]) rfl ?_
    refine z_iconst h193 rfl ?_
    refine z_istore h193 rfl (Or.inr rfl) (ls' := [zr self, zi a1, zi a2, zi a3, zi j3, zi 0, zU, zU]) rfl ?_
    refine z_kill h193 rfl (ls' := [zr self, zi a1, zi a2, zi a3, zi j3, zi 0, zU, zU]) rfl ?_
    refine Rz.wh (hd := fun s4 => (17, [zr self, zi a1, zi a2, zi a3, zi j3, zi s4.1, zU, zU], [], s4.2, K)) (fun s4 => ?_) n (0, M)
    (try dsimp only)
    refine z_iload h193 rfl rfl (Or.inr rfl) ?_
    refine z_iload h193 rfl rfl (Or.inl rfl) ?_
    refine z_icge h193 rfl ?_ ?_
    · exact z_vret h193 rfl (fun _ q => q)
    · refine z_aload h193 rfl rfl (Or.inl rfl) (by omega) ?_
      refine z_getr (a := 12) (b := 45) (l := [96, 49]) h193 rfl (fun r5 g_r5 => ?_)
      refine z_iload h193 rfl rfl (Or.inr rfl) ?_
      refine z_iald h193 rfl (fun v6 => ?_)
      refine z_istore h193 rfl (Or.inr rfl) (ls' := [zr self, zi a1, zi a2, zi a3, zi j3, zi s4.1, zi v6, zU]) rfl ?_
      refine z_aload h193 rfl rfl (Or.inl rfl) (by omega) ?_
      refine z_getr (a := 12) (b := 25) (l := [63, 49]) h193 rfl (fun r7 g_r7 => ?_)
      refine z_iload h193 rfl rfl (Or.inl rfl) ?_
      refine z_iald h193 rfl (fun v8 => ?_)
      refine z_iconst h193 rfl ?_
      refine Rz.bind (t := fun j9 => (46, [zr self, zi a1, zi a2, zi a3, zi j3, zi s4.1, zi j9, zU], [], s4.2, K)) ?_ (fun j9 => ?_)
      · refine z_icne h193 rfl ?_ ?_
        · refine z_iload h193 rfl rfl (Or.inr rfl) ?_
          refine z_aload h193 rfl rfl (Or.inl rfl) (by omega) ?_
          refine z_aload h193 rfl rfl (Or.inl rfl) (by omega) ?_
          refine z_iload h193 rfl rfl (Or.inl rfl) ?_
          refine z_aload h193 rfl rfl (Or.inl rfl) (by omega) ?_
          refine z_getr (a := 12) (b := 26) (l := [66, 49]) h193 rfl (fun r40 g_r40 => ?_)
          refine z_iload h193 rfl rfl (Or.inl rfl) ?_
          refine z_iald h193 rfl (fun v41 => ?_)
          refine z_cv (a := 190) (b := 0) (l := [316, 3, 12, 49]) (as := [zi a1, zi v41]) (lsE := [zr self, zi a1, zi v41, zU]) (st' := [zr self, zi v6]) (val := fun p => some (zi p)) (mem := fun _ => s4.2) h193 rfl ⟨rfl, rfl, rfl, Nat.le_of_ble_eq_true rfl, Nat.le_of_ble_eq_true rfl, rfl⟩ (fun g1 => (t_qmd_madeBy X n K s4.2 self a1 v41 (by omega))) (fun v42 => ?_)
          refine z_iload h193 rfl rfl (Or.inr rfl) ?_
          refine z_iload h193 rfl rfl (Or.inl rfl) ?_
          refine z_iload h193 rfl rfl (Or.inl rfl) ?_
          refine z_cv (a := 191) (b := 0) (l := [319, 5, 12, 49]) (as := [zi v42, zi s4.1, zi a2, zi a3]) (lsE := [zr self, zi v42, zi s4.1, zi a2, zi a3, zU, zU]) (st' := [zi v6]) (val := fun p => some (zi p)) (mem := fun _ => s4.2) h193 rfl ⟨rfl, rfl, rfl, Nat.le_of_ble_eq_true rfl, Nat.le_of_ble_eq_true rfl, rfl⟩ (fun g1 => (t_qmd_thereAt X n K s4.2 self v42 s4.1 a2 a3 (by omega))) (fun v43 => ?_)
          refine z_cs (a := 192) (b := 0) (l := [323, 2]) (as := [zi v6, zi v43]) (lsE := [zi v6, zi v43]) (st' := []) (val := fun p => some (zi p)) (mem := fun _ => s4.2) h193 rfl ⟨rfl, rfl, rfl, Nat.le_of_ble_eq_true rfl, Nat.le_of_ble_eq_true rfl, rfl⟩ (t_qmd_more X K s4.2 v6 v43 ) (fun v44 => ?_)
          refine z_istore h193 rfl (Or.inr rfl) (ls' := [zr self, zi a1, zi a2, zi a3, zi j3, zi s4.1, zi v44, zU]) rfl ?_
          refine z_kill h193 rfl (ls' := [zr self, zi a1, zi a2, zi a3, zi j3, zi s4.1, zi v44, zU]) rfl ?_
          exact Rz.here fun _ q => q
        · refine z_kill h193 rfl (ls' := [zr self, zi a1, zi a2, zi a3, zi j3, zi s4.1, zi v6, zU]) rfl ?_
          exact Rz.here fun _ q => q
      · (try dsimp only)
        refine z_iload h193 rfl rfl (Or.inr rfl) ?_
        refine Rz.bind (t := fun j10 => (106, [zr self, zi a1, zi a2, zi a3, zi j3, zi s4.1, zi j10.1, zU], [], j10.2, K)) ?_ (fun j10 => ?_)
        · refine z_ifle h193 rfl ?_ ?_
          · refine z_aload h193 rfl rfl (Or.inl rfl) (by omega) ?_
            refine z_aload h193 rfl rfl (Or.inl rfl) (by omega) ?_
            refine z_getr (a := 12) (b := 27) (l := [69, 49]) h193 rfl (fun r19 g_r19 => ?_)
            refine z_iload h193 rfl rfl (Or.inl rfl) ?_
            refine z_iald h193 rfl (fun v20 => ?_)
            refine z_iload h193 rfl rfl (Or.inr rfl) ?_
            refine z_aload h193 rfl rfl (Or.inl rfl) (by omega) ?_
            refine z_getr (a := 12) (b := 28) (l := [72, 49]) h193 rfl (fun r21 g_r21 => ?_)
            refine z_iload h193 rfl rfl (Or.inl rfl) ?_
            refine z_iald h193 rfl (fun v22 => ?_)
            refine z_imul h193 rfl ?_
            refine z_iadd h193 rfl ?_
            refine z_cv (a := 164) (b := 0) (l := [206, 2, 12, 49]) (as := [zi (v20 + (s4.1 * v22))]) (lsE := [zr self, zi (v20 + (s4.1 * v22)), zU]) (st' := []) (val := fun p => some (zi p)) (mem := fun _ => s4.2) h193 rfl ⟨rfl, rfl, rfl, Nat.le_of_ble_eq_true rfl, Nat.le_of_ble_eq_true rfl, rfl⟩ (fun g1 => (t_qmd_bankAt X K s4.2 self (v20 + (s4.1 * v22)) (by omega))) (fun v23 => ?_)
            refine z_istore h193 rfl (Or.inr rfl) (ls' := [zr self, zi a1, zi a2, zi a3, zi j3, zi s4.1, zi j9, zi v23]) rfl ?_
            refine z_iload h193 rfl rfl (Or.inr rfl) ?_
            refine z_aload h193 rfl rfl (Or.inl rfl) (by omega) ?_
            refine z_getr (a := 12) (b := 17) (l := [51, 49]) h193 rfl (fun r24 g_r24 => ?_)
            refine z_iload h193 rfl rfl (Or.inr rfl) ?_
            refine z_iald h193 rfl (fun v25 => ?_)
            refine z_cs (a := 192) (b := 0) (l := [323, 2]) (as := [zi j9, zi v25]) (lsE := [zi j9, zi v25]) (st' := []) (val := fun p => some (zi p)) (mem := fun _ => s4.2) h193 rfl ⟨rfl, rfl, rfl, Nat.le_of_ble_eq_true rfl, Nat.le_of_ble_eq_true rfl, rfl⟩ (t_qmd_more X K s4.2 j9 v25 ) (fun v26 => ?_)
            refine z_istore h193 rfl (Or.inr rfl) (ls' := [zr self, zi a1, zi a2, zi a3, zi j3, zi s4.1, zi v26, zi v23]) rfl ?_
            refine z_aload h193 rfl rfl (Or.inl rfl) (by omega) ?_
            refine z_getr (a := 12) (b := 17) (l := [51, 49]) h193 rfl (fun r27 g_r27 => ?_)
            refine z_iload h193 rfl rfl (Or.inr rfl) ?_
            refine z_iload h193 rfl rfl (Or.inr rfl) ?_
            refine z_aload h193 rfl rfl (Or.inl rfl) (by omega) ?_
            refine z_getf (a := 12) (b := 16) (l := [48, 49]) h193 rfl (fun v28 => ?_)
            refine z_iadd h193 rfl ?_
            refine z_iast h193 rfl (fun M29 => ?_)
            refine z_kill h193 rfl (ls' := [zr self, zi a1, zi a2, zi a3, zi j3, zi s4.1, zi v26, zU]) rfl ?_
            exact Rz.here fun _ q => q
          · refine z_iload h193 rfl rfl (Or.inr rfl) ?_
            refine z_aload h193 rfl rfl (Or.inl rfl) (by omega) ?_
            refine z_aload h193 rfl rfl (Or.inl rfl) (by omega) ?_
            refine z_iload h193 rfl rfl (Or.inl rfl) ?_
            refine z_aload h193 rfl rfl (Or.inl rfl) (by omega) ?_
            refine z_getr (a := 12) (b := 27) (l := [69, 49]) h193 rfl (fun r30 g_r30 => ?_)
            refine z_iload h193 rfl rfl (Or.inl rfl) ?_
            refine z_iald h193 rfl (fun v31 => ?_)
            refine z_cv (a := 190) (b := 0) (l := [316, 3, 12, 49]) (as := [zi a1, zi v31]) (lsE := [zr self, zi a1, zi v31, zU]) (st' := [zr self, zi j9]) (val := fun p => some (zi p)) (mem := fun _ => s4.2) h193 rfl ⟨rfl, rfl, rfl, Nat.le_of_ble_eq_true rfl, Nat.le_of_ble_eq_true rfl, rfl⟩ (fun g1 => (t_qmd_madeBy X n K s4.2 self a1 v31 (by omega))) (fun v32 => ?_)
            refine z_iload h193 rfl rfl (Or.inr rfl) ?_
            refine z_iload h193 rfl rfl (Or.inl rfl) ?_
            refine z_iload h193 rfl rfl (Or.inl rfl) ?_
            refine z_cv (a := 191) (b := 0) (l := [319, 5, 12, 49]) (as := [zi v32, zi s4.1, zi a2, zi a3]) (lsE := [zr self, zi v32, zi s4.1, zi a2, zi a3, zU, zU]) (st' := [zi j9]) (val := fun p => some (zi p)) (mem := fun _ => s4.2) h193 rfl ⟨rfl, rfl, rfl, Nat.le_of_ble_eq_true rfl, Nat.le_of_ble_eq_true rfl, rfl⟩ (fun g1 => (t_qmd_thereAt X n K s4.2 self v32 s4.1 a2 a3 (by omega))) (fun v33 => ?_)
            refine z_aload h193 rfl rfl (Or.inl rfl) (by omega) ?_
            refine z_aload h193 rfl rfl (Or.inl rfl) (by omega) ?_
            refine z_iload h193 rfl rfl (Or.inl rfl) ?_
            refine z_aload h193 rfl rfl (Or.inl rfl) (by omega) ?_
            refine z_getr (a := 12) (b := 28) (l := [72, 49]) h193 rfl (fun r34 g_r34 => ?_)
            refine z_iload h193 rfl rfl (Or.inl rfl) ?_
            refine z_iald h193 rfl (fun v35 => ?_)
            refine z_cv (a := 190) (b := 0) (l := [316, 3, 12, 49]) (as := [zi a1, zi v35]) (lsE := [zr self, zi a1, zi v35, zU]) (st' := [zr self, zi v33, zi j9]) (val := fun p => some (zi p)) (mem := fun _ => s4.2) h193 rfl ⟨rfl, rfl, rfl, Nat.le_of_ble_eq_true rfl, Nat.le_of_ble_eq_true rfl, rfl⟩ (fun g1 => (t_qmd_madeBy X n K s4.2 self a1 v35 (by omega))) (fun v36 => ?_)
            refine z_iload h193 rfl rfl (Or.inr rfl) ?_
            refine z_iload h193 rfl rfl (Or.inl rfl) ?_
            refine z_iload h193 rfl rfl (Or.inl rfl) ?_
            refine z_cv (a := 191) (b := 0) (l := [319, 5, 12, 49]) (as := [zi v36, zi s4.1, zi a2, zi a3]) (lsE := [zr self, zi v36, zi s4.1, zi a2, zi a3, zU, zU]) (st' := [zi v33, zi j9]) (val := fun p => some (zi p)) (mem := fun _ => s4.2) h193 rfl ⟨rfl, rfl, rfl, Nat.le_of_ble_eq_true rfl, Nat.le_of_ble_eq_true rfl, rfl⟩ (fun g1 => (t_qmd_thereAt X n K s4.2 self v36 s4.1 a2 a3 (by omega))) (fun v37 => ?_)
            refine z_cs (a := 192) (b := 0) (l := [323, 2]) (as := [zi v33, zi v37]) (lsE := [zi v33, zi v37]) (st' := [zi j9]) (val := fun p => some (zi p)) (mem := fun _ => s4.2) h193 rfl ⟨rfl, rfl, rfl, Nat.le_of_ble_eq_true rfl, Nat.le_of_ble_eq_true rfl, rfl⟩ (t_qmd_more X K s4.2 v33 v37 ) (fun v38 => ?_)
            refine z_cs (a := 192) (b := 0) (l := [323, 2]) (as := [zi j9, zi v38]) (lsE := [zi j9, zi v38]) (st' := []) (val := fun p => some (zi p)) (mem := fun _ => s4.2) h193 rfl ⟨rfl, rfl, rfl, Nat.le_of_ble_eq_true rfl, Nat.le_of_ble_eq_true rfl, rfl⟩ (t_qmd_more X K s4.2 j9 v38 ) (fun v39 => ?_)
            refine z_istore h193 rfl (Or.inr rfl) (ls' := [zr self, zi a1, zi a2, zi a3, zi j3, zi s4.1, zi v39, zU]) rfl ?_
            refine z_goto h193 rfl ?_
            refine z_kill h193 rfl (ls' := [zr self, zi a1, zi a2, zi a3, zi j3, zi s4.1, zi v39, zU]) rfl ?_
            exact Rz.here fun _ q => q
        · (try dsimp only)
          refine z_aload h193 rfl rfl (Or.inl rfl) (by omega) ?_
          refine z_getr (a := 12) (b := 43) (l := [90, 49]) h193 rfl (fun r11 g_r11 => ?_)
          refine z_iconst h193 rfl ?_
          refine z_iload h193 rfl rfl (Or.inl rfl) ?_
          refine z_imul h193 rfl ?_
          refine z_iload h193 rfl rfl (Or.inr rfl) ?_
          refine z_iadd h193 rfl ?_
          refine z_iload h193 rfl rfl (Or.inr rfl) ?_
          refine z_iast h193 rfl (fun M12 => ?_)
          refine z_aload h193 rfl rfl (Or.inl rfl) (by omega) ?_
          refine z_getr (a := 12) (b := 44) (l := [93, 49]) h193 rfl (fun r13 g_r13 => ?_)
          refine z_iconst h193 rfl ?_
          refine z_iload h193 rfl rfl (Or.inl rfl) ?_
          refine z_imul h193 rfl ?_
          refine z_iload h193 rfl rfl (Or.inr rfl) ?_
          refine z_iadd h193 rfl ?_
          refine z_iload h193 rfl rfl (Or.inr rfl) ?_
          refine z_iload h193 rfl rfl (Or.inr rfl) ?_
          refine Rz.bind (t := fun j14 => (134, [zr self, zi a1, zi a2, zi a3, zi j3, zi s4.1, zi j10.1, zU], [zi j14, zi j10.1, zi ((64 * a1) + s4.1), zr r13], M12, K)) ?_ (fun j14 => ?_)
          · refine z_ifne h193 rfl ?_ ?_
            · refine z_aload h193 rfl rfl (Or.inl rfl) (by omega) ?_
              refine z_getf (a := 12) (b := 16) (l := [48, 49]) h193 rfl (fun v18 => ?_)
              refine z_goto h193 rfl ?_
              refine z_kill h193 rfl (ls' := [zr self, zi a1, zi a2, zi a3, zi j3, zi s4.1, zi j10.1, zU]) rfl ?_
              exact Rz.here fun _ q => q
            · refine z_iload h193 rfl rfl (Or.inr rfl) ?_
              refine z_iconst h193 rfl ?_
              refine z_icne h193 rfl ?_ ?_
              · refine z_iconst h193 rfl ?_
                refine z_goto h193 rfl ?_
                refine z_kill h193 rfl (ls' := [zr self, zi a1, zi a2, zi a3, zi j3, zi s4.1, zi j10.1, zU]) rfl ?_
                exact Rz.here fun _ q => q
              · refine z_iconst h193 rfl ?_
                refine z_kill h193 rfl (ls' := [zr self, zi a1, zi a2, zi a3, zi j3, zi s4.1, zi j10.1, zU]) rfl ?_
                exact Rz.here fun _ q => q
          · (try dsimp only)
            refine z_iadd h193 rfl ?_
            refine z_iast h193 rfl (fun M15 => ?_)
            refine z_aload h193 rfl rfl (Or.inl rfl) (by omega) ?_
            refine z_getr (a := 12) (b := 45) (l := [96, 49]) h193 rfl (fun r16 g_r16 => ?_)
            refine z_iload h193 rfl rfl (Or.inr rfl) ?_
            refine z_iload h193 rfl rfl (Or.inr rfl) ?_
            refine z_iconst h193 rfl ?_
            refine z_iadd h193 rfl ?_
            refine z_iast h193 rfl (fun M17 => ?_)
            refine z_iinc h193 rfl rfl (ls' := [zr self, zi a1, zi a2, zi a3, zi j3, zi (s4.1 + 1), zi j10.1, zU]) rfl ?_
            refine z_goto h193 rfl ?_
            refine z_kill h193 rfl (ls' := [zr self, zi a1, zi a2, zi a3, zi j3, zi (s4.1 + 1), zU, zU]) rfl ?_
            exact Rz.here fun _ q => q
set_option maxRecDepth 20000 in
theorem t_qmd_runs (X : Int × (Int → Int)) (n : Nat) (K : zK) (M : zM) (self a1 a2 : Int) (g_self : 1 ≤ self) : Rz X 194 (0, [zr self, zi a1, zi a2, zU, zU], [], M, K) (qmd_runs n K M self a1 a2) (fun e P => P (some (zi e.1), e.2, K)) := by
  have h194 : zT 194 = zt194 := rfl
  unfold qmd_runs
  refine z_iconst h194 rfl ?_
  refine z_istore h194 rfl (Or.inl rfl) (ls' := [zr self, zi a1, zi a2, zi 0, zU]) rfl ?_
  refine z_iconst h194 rfl ?_
  refine z_istore h194 rfl (Or.inr rfl) (ls' := [zr self, zi a1, zi a2, zi 0, zi 0]) rfl ?_
  refine Rz.bind (t := fun e2 => (14, [zr self, zi a1, zi a2, zi 0, zi e2.1], [], e2.2, K)) ?_ (fun e2 => ?_)
  · refine Rz.wh (hd := fun s1 => (4, [zr self, zi a1, zi a2, zi 0, zi s1.1], [], s1.2, K)) (fun s1 => ?_) n (0, M)
    (try dsimp only)
    refine z_iload h194 rfl rfl (Or.inr rfl) ?_
    refine z_iconst h194 rfl ?_
    refine z_icge h194 rfl ?_ ?_
    · exact Rz.here fun _ q => q
    · refine z_aload h194 rfl rfl (Or.inl rfl) (by omega) ?_
      refine z_getr (a := 12) (b := 17) (l := [51, 49]) h194 rfl (fun r13 g_r13 => ?_)
      refine z_iload h194 rfl rfl (Or.inr rfl) ?_
      refine z_iconst h194 rfl ?_
      refine z_iast h194 rfl (fun M14 => ?_)
      refine z_iinc h194 rfl rfl (ls' := [zr self, zi a1, zi a2, zi 0, zi (s1.1 + 1)]) rfl ?_
      refine z_goto h194 rfl ?_
      exact Rz.here fun _ q => q
  · (try dsimp only)
    refine z_iconst h194 rfl ?_
    refine z_istore h194 rfl (Or.inr rfl) (ls' := [zr self, zi a1, zi a2, zi 0, zi 0]) rfl ?_
    refine Rz.bind (t := fun e4 => (26, [zr self, zi a1, zi a2, zi 0, zi e4.1], [], e4.2, K)) ?_ (fun e4 => ?_)
    · refine Rz.wh (hd := fun s3 => (16, [zr self, zi a1, zi a2, zi 0, zi s3.1], [], s3.2, K)) (fun s3 => ?_) n (0, e2.2)
      (try dsimp only)
      refine z_iload h194 rfl rfl (Or.inr rfl) ?_
      refine z_iconst h194 rfl ?_
      refine z_icge h194 rfl ?_ ?_
      · exact Rz.here fun _ q => q
      · refine z_aload h194 rfl rfl (Or.inl rfl) (by omega) ?_
        refine z_getr (a := 12) (b := 45) (l := [96, 49]) h194 rfl (fun r11 g_r11 => ?_)
        refine z_iload h194 rfl rfl (Or.inr rfl) ?_
        refine z_iconst h194 rfl ?_
        refine z_iast h194 rfl (fun M12 => ?_)
        refine z_iinc h194 rfl rfl (ls' := [zr self, zi a1, zi a2, zi 0, zi (s3.1 + 1)]) rfl ?_
        refine z_goto h194 rfl ?_
        exact Rz.here fun _ q => q
    · (try dsimp only)
      refine z_iconst h194 rfl ?_
      refine z_istore h194 rfl (Or.inr rfl) (ls' := [zr self, zi a1, zi a2, zi 0, zi 0]) rfl ?_
      refine Rz.wh (hd := fun s5 => (28, [zr self, zi a1, zi a2, zi s5.1, zi s5.2.1], [], s5.2.2, K)) (fun s5 => ?_) n (0, 0, e4.2)
      (try dsimp only)
      refine z_iload h194 rfl rfl (Or.inr rfl) ?_
      refine z_aload h194 rfl rfl (Or.inl rfl) (by omega) ?_
      refine z_getf (a := 12) (b := 24) (l := [310, 49]) h194 rfl (fun v6 => ?_)
      refine z_icge h194 rfl ?_ ?_
      · refine z_iload h194 rfl rfl (Or.inl rfl) ?_
        exact z_iret h194 rfl (fun _ q => q)
      · refine z_aload h194 rfl rfl (Or.inl rfl) (by omega) ?_
        refine z_iload h194 rfl rfl (Or.inr rfl) ?_
        refine z_iload h194 rfl rfl (Or.inl rfl) ?_
        refine z_iload h194 rfl rfl (Or.inl rfl) ?_
        refine z_cv (a := 193) (b := 0) (l := [326, 4, 12, 49]) (as := [zi s5.2.1, zi a1, zi a2]) (lsE := [zr self, zi s5.2.1, zi a1, zi a2, zU, zU, zU, zU]) (st' := []) (val := fun _ => none) (mem := fun p => p) h194 rfl ⟨rfl, rfl, rfl, Nat.le_of_ble_eq_true rfl, Nat.le_of_ble_eq_true rfl, rfl⟩ (fun g1 => (t_qmd_runsLine X n K s5.2.2 self s5.2.1 a1 a2 (by omega))) (fun M7 => ?_)
        refine z_iload h194 rfl rfl (Or.inl rfl) ?_
        refine z_aload h194 rfl rfl (Or.inl rfl) (by omega) ?_
        refine z_getr (a := 12) (b := 44) (l := [93, 49]) h194 rfl (fun r8 g_r8 => ?_)
        refine z_iconst h194 rfl ?_
        refine z_iload h194 rfl rfl (Or.inr rfl) ?_
        refine z_imul h194 rfl ?_
        refine z_iload h194 rfl rfl (Or.inl rfl) ?_
        refine z_iadd h194 rfl ?_
        refine z_iconst h194 rfl ?_
        refine z_isub h194 rfl ?_
        refine z_iald h194 rfl (fun v9 => ?_)
        refine z_cs (a := 192) (b := 0) (l := [323, 2]) (as := [zi s5.1, zi v9]) (lsE := [zi s5.1, zi v9]) (st' := []) (val := fun p => some (zi p)) (mem := fun _ => M7) h194 rfl ⟨rfl, rfl, rfl, Nat.le_of_ble_eq_true rfl, Nat.le_of_ble_eq_true rfl, rfl⟩ (t_qmd_more X K M7 s5.1 v9 ) (fun v10 => ?_)
        refine z_istore h194 rfl (Or.inl rfl) (ls' := [zr self, zi a1, zi a2, zi v10, zi s5.2.1]) rfl ?_
        refine z_iinc h194 rfl rfl (ls' := [zr self, zi a1, zi a2, zi v10, zi (s5.2.1 + 1)]) rfl ?_
        refine z_goto h194 rfl ?_
        exact Rz.here fun _ q => q
set_option maxRecDepth 20000 in
theorem t_qmd_isLong (X : Int × (Int → Int)) (K : zK) (M : zM) (a0 : Int) : Rz X 195 (0, [zi a0], [], M, K) (qmd_isLong K M a0) (fun e P => P (some (zi e), M, K)) := by
  have h195 : zT 195 = zt195 := rfl
  unfold qmd_isLong
  refine z_iload h195 rfl rfl (Or.inl rfl) ?_
  refine z_ci2l h195 rfl ?_
  refine z_lconst h195 rfl ?_
  refine z_lconst h195 rfl ?_
  refine z_cs (a := 129) (b := 0) (l := [110, 3]) (as := [zl (zw a0), zl 1, zl 64]) (lsE := [zl (zw a0), zU, zl 1, zU, zl 64, zU]) (st' := []) (val := fun p => some (zi p)) (mem := fun _ => M) h195 rfl ⟨rfl, rfl, rfl, Nat.le_of_ble_eq_true rfl, Nat.le_of_ble_eq_true rfl, rfl⟩ (t_qmd_in X K M (zw a0) 1 64 ) (fun v1 => ?_)
  exact z_zretb h195 rfl (fun z hz P q => by cases hz; exact q)
set_option maxRecDepth 20000 in
theorem t_qmd_time (X : Int × (Int → Int)) (n : Nat) (K : zK) (M : zM) (self a1 a2 a3 : Int) (g_self : 1 ≤ self) : Rz X 196 (0, [zr self, zi a1, zi a2, zi a3, zU], [], M, K) (qmd_time n K M self a1 a2 a3) (fun e P => P (some (zi e.1), e.2, K)) := by
  have h196 : zT 196 = zt196 := rfl
  unfold qmd_time
  refine z_iload h196 rfl rfl (Or.inl rfl) ?_
  refine z_cs (a := 195) (b := 0) (l := [332, 1]) (as := [zi a1]) (lsE := [zi a1]) (st' := []) (val := fun p => some (zi p)) (mem := fun _ => M) h196 rfl ⟨rfl, rfl, rfl, Nat.le_of_ble_eq_true rfl, Nat.le_of_ble_eq_true rfl, rfl⟩ (t_qmd_isLong X K M a1 ) (fun v1 => ?_)
  refine z_ifeq h196 rfl ?_ ?_
  · refine z_kill h196 rfl (ls' := [zU, zU, zU, zU, zU]) rfl ?_
    refine z_iconst h196 rfl ?_
    exact z_iret h196 rfl (fun _ q => q)
  · refine z_iload h196 rfl rfl (Or.inl rfl) ?_
    refine z_iconst h196 rfl ?_
    refine Rz.esc (t := fun j2 => (12, [zr self, zi a1, zi a2, zi a3, zU], [], M, K)) ?_ (fun j2 => ?_)
    · refine z_iceq h196 rfl ?_ ?_
      · refine z_kill h196 rfl (ls' := [zr self, zi a1, zi a2, zi a3, zU]) rfl ?_
        exact Rz.here fun _ q => q
      · refine z_aload h196 rfl rfl (Or.inl rfl) (by omega) ?_
        refine z_iload h196 rfl rfl (Or.inl rfl) ?_
        refine z_cv (a := 188) (b := 0) (l := [313, 2, 12, 49]) (as := [zi a3]) (lsE := [zr self, zi a3]) (st' := []) (val := fun p => some (zi p)) (mem := fun _ => M) h196 rfl ⟨rfl, rfl, rfl, Nat.le_of_ble_eq_true rfl, Nat.le_of_ble_eq_true rfl, rfl⟩ (fun g1 => (t_qmd_isLine X K M self a3 (by omega))) (fun v7 => ?_)
        refine z_ifne h196 rfl ?_ ?_
        · refine z_kill h196 rfl (ls' := [zU, zU, zU, zU, zU]) rfl ?_
          refine z_iconst h196 rfl ?_
          exact z_iret h196 rfl (fun _ q => q)
        · refine z_kill h196 rfl (ls' := [zr self, zi a1, zi a2, zi a3, zU]) rfl ?_
          exact Rz.here fun _ q => q
    · (try dsimp only)
      refine z_aload h196 rfl rfl (Or.inl rfl) (by omega) ?_
      refine z_cv (a := 137) (b := 0) (l := [135, 1, 12, 49]) (as := []) (lsE := [zr self]) (st' := []) (val := fun _ => none) (mem := fun p => p) h196 rfl ⟨rfl, rfl, rfl, Nat.le_of_ble_eq_true rfl, Nat.le_of_ble_eq_true rfl, rfl⟩ (fun g1 => (t_qmd_laysNow X n K M self (by omega))) (fun M3 => ?_)
      refine z_aload h196 rfl rfl (Or.inl rfl) (by omega) ?_
      refine z_iload h196 rfl rfl (Or.inl rfl) ?_
      refine z_iload h196 rfl rfl (Or.inl rfl) ?_
      refine z_cv (a := 194) (b := 0) (l := [335, 3, 12, 49]) (as := [zi a1, zi a2]) (lsE := [zr self, zi a1, zi a2, zU, zU]) (st' := []) (val := fun p => some (zi p.1)) (mem := fun p => p.2) h196 rfl ⟨rfl, rfl, rfl, Nat.le_of_ble_eq_true rfl, Nat.le_of_ble_eq_true rfl, rfl⟩ (fun g1 => (t_qmd_runs X n K M3 self a1 a2 (by omega))) (fun p4 => ?_)
      refine z_istore h196 rfl (Or.inr rfl) (ls' := [zr self, zi a1, zi a2, zi a3, zi p4.1]) rfl ?_
      refine z_iload h196 rfl rfl (Or.inl rfl) ?_
      refine z_iconst h196 rfl ?_
      refine z_icne h196 rfl ?_ ?_
      · refine z_iload h196 rfl rfl (Or.inr rfl) ?_
        refine z_goto h196 rfl ?_
        refine z_kill h196 rfl (ls' := [zU, zU, zU, zU, zU]) rfl ?_
        exact z_iret h196 rfl (fun _ q => q)
      · refine z_aload h196 rfl rfl (Or.inl rfl) (by omega) ?_
        refine z_getr (a := 12) (b := 44) (l := [93, 49]) h196 rfl (fun r5 g_r5 => ?_)
        refine z_iconst h196 rfl ?_
        refine z_iload h196 rfl rfl (Or.inl rfl) ?_
        refine z_imul h196 rfl ?_
        refine z_iload h196 rfl rfl (Or.inl rfl) ?_
        refine z_iadd h196 rfl ?_
        refine z_iconst h196 rfl ?_
        refine z_isub h196 rfl ?_
        refine z_iald h196 rfl (fun v6 => ?_)
        refine z_kill h196 rfl (ls' := [zU, zU, zU, zU, zU]) rfl ?_
        exact z_iret h196 rfl (fun _ q => q)
set_option maxRecDepth 20000 in
theorem t_qmd_when (X : Int × (Int → Int)) (n : Nat) (K : zK) (M : zM) (self a1 a2 a3 a4 a5 : Int) (g_self : 1 ≤ self) : Rz X 197 (0, [zr self, zi a1, zi a2, zi a3, zi a4, zi a5], [], M, K) (qmd_when n K M self a1 a2 a3 a4 a5) (fun e P => P (some (zi e.1), e.2, K)) := by
  have h197 : zT 197 = zt197 := rfl
  unfold qmd_when
  refine z_iload h197 rfl rfl (Or.inl rfl) ?_
  refine z_cs (a := 195) (b := 0) (l := [332, 1]) (as := [zi a1]) (lsE := [zi a1]) (st' := []) (val := fun p => some (zi p)) (mem := fun _ => M) h197 rfl ⟨rfl, rfl, rfl, Nat.le_of_ble_eq_true rfl, Nat.le_of_ble_eq_true rfl, rfl⟩ (t_qmd_isLong X K M a1 ) (fun v1 => ?_)
  refine z_ifeq h197 rfl ?_ ?_
  · refine z_kill h197 rfl (ls' := [zU, zU, zU, zU, zU, zU]) rfl ?_
    refine z_iconst h197 rfl ?_
    exact z_iret h197 rfl (fun _ q => q)
  · refine z_aload h197 rfl rfl (Or.inl rfl) (by omega) ?_
    refine z_iload h197 rfl rfl (Or.inl rfl) ?_
    refine z_cv (a := 188) (b := 0) (l := [313, 2, 12, 49]) (as := [zi a3]) (lsE := [zr self, zi a3]) (st' := []) (val := fun p => some (zi p)) (mem := fun _ => M) h197 rfl ⟨rfl, rfl, rfl, Nat.le_of_ble_eq_true rfl, Nat.le_of_ble_eq_true rfl, rfl⟩ (fun g1 => (t_qmd_isLine X K M self a3 (by omega))) (fun v2 => ?_)
    refine z_ifeq h197 rfl ?_ ?_
    · refine z_kill h197 rfl (ls' := [zU, zU, zU, zU, zU, zU]) rfl ?_
      refine z_iconst h197 rfl ?_
      exact z_iret h197 rfl (fun _ q => q)
    · refine z_iload h197 rfl rfl (Or.inr rfl) ?_
      refine z_ci2l h197 rfl ?_
      refine z_lconst h197 rfl ?_
      refine z_iload h197 rfl rfl (Or.inl rfl) ?_
      refine z_iconst h197 rfl ?_
      refine z_isub h197 rfl ?_
      refine z_ci2l h197 rfl ?_
      refine z_cs (a := 129) (b := 0) (l := [110, 3]) (as := [zl (zw a4), zl 0, zl (zw (a1 - 1))]) (lsE := [zl (zw a4), zU, zl 0, zU, zl (zw (a1 - 1)), zU]) (st' := []) (val := fun p => some (zi p)) (mem := fun _ => M) h197 rfl ⟨rfl, rfl, rfl, Nat.le_of_ble_eq_true rfl, Nat.le_of_ble_eq_true rfl, rfl⟩ (t_qmd_in X K M (zw a4) 0 (zw (a1 - 1)) ) (fun v3 => ?_)
      refine z_ifeq h197 rfl ?_ ?_
      · refine z_kill h197 rfl (ls' := [zU, zU, zU, zU, zU, zU]) rfl ?_
        refine z_iconst h197 rfl ?_
        exact z_iret h197 rfl (fun _ q => q)
      · refine z_iload h197 rfl rfl (Or.inr rfl) ?_
        refine z_ci2l h197 rfl ?_
        refine z_lconst h197 rfl ?_
        refine z_lconst h197 rfl ?_
        refine z_cs (a := 129) (b := 0) (l := [110, 3]) (as := [zl (zw a5), zl 0, zl 1]) (lsE := [zl (zw a5), zU, zl 0, zU, zl 1, zU]) (st' := []) (val := fun p => some (zi p)) (mem := fun _ => M) h197 rfl ⟨rfl, rfl, rfl, Nat.le_of_ble_eq_true rfl, Nat.le_of_ble_eq_true rfl, rfl⟩ (t_qmd_in X K M (zw a5) 0 1 ) (fun v4 => ?_)
        refine z_ifne h197 rfl ?_ ?_
        · refine z_kill h197 rfl (ls' := [zU, zU, zU, zU, zU, zU]) rfl ?_
          refine z_iconst h197 rfl ?_
          exact z_iret h197 rfl (fun _ q => q)
        · refine z_aload h197 rfl rfl (Or.inl rfl) (by omega) ?_
          refine z_cv (a := 137) (b := 0) (l := [135, 1, 12, 49]) (as := []) (lsE := [zr self]) (st' := []) (val := fun _ => none) (mem := fun p => p) h197 rfl ⟨rfl, rfl, rfl, Nat.le_of_ble_eq_true rfl, Nat.le_of_ble_eq_true rfl, rfl⟩ (fun g1 => (t_qmd_laysNow X n K M self (by omega))) (fun M5 => ?_)
          refine z_aload h197 rfl rfl (Or.inl rfl) (by omega) ?_
          refine z_iload h197 rfl rfl (Or.inl rfl) ?_
          refine z_iload h197 rfl rfl (Or.inl rfl) ?_
          refine z_cv (a := 194) (b := 0) (l := [335, 3, 12, 49]) (as := [zi a1, zi a2]) (lsE := [zr self, zi a1, zi a2, zU, zU]) (st' := []) (val := fun p => some (zi p.1)) (mem := fun p => p.2) h197 rfl ⟨rfl, rfl, rfl, Nat.le_of_ble_eq_true rfl, Nat.le_of_ble_eq_true rfl, rfl⟩ (fun g1 => (t_qmd_runs X n K M5 self a1 a2 (by omega))) (fun p6 => ?_)
          refine z_pop h197 rfl ?_
          refine z_iload h197 rfl rfl (Or.inr rfl) ?_
          refine z_ifne h197 rfl ?_ ?_
          · refine z_aload h197 rfl rfl (Or.inl rfl) (by omega) ?_
            refine z_getr (a := 12) (b := 43) (l := [90, 49]) h197 rfl (fun r7 g_r7 => ?_)
            refine z_iconst h197 rfl ?_
            refine z_iload h197 rfl rfl (Or.inl rfl) ?_
            refine z_imul h197 rfl ?_
            refine z_iload h197 rfl rfl (Or.inr rfl) ?_
            refine z_iadd h197 rfl ?_
            refine z_iald h197 rfl (fun v8 => ?_)
            refine z_goto h197 rfl ?_
            refine z_kill h197 rfl (ls' := [zU, zU, zU, zU, zU, zU]) rfl ?_
            exact z_iret h197 rfl (fun _ q => q)
          · refine z_aload h197 rfl rfl (Or.inl rfl) (by omega) ?_
            refine z_getr (a := 12) (b := 44) (l := [93, 49]) h197 rfl (fun r9 g_r9 => ?_)
            refine z_iconst h197 rfl ?_
            refine z_iload h197 rfl rfl (Or.inl rfl) ?_
            refine z_imul h197 rfl ?_
            refine z_iload h197 rfl rfl (Or.inr rfl) ?_
            refine z_iadd h197 rfl ?_
            refine z_iald h197 rfl (fun v10 => ?_)
            refine z_kill h197 rfl (ls' := [zU, zU, zU, zU, zU, zU]) rfl ?_
            exact z_iret h197 rfl (fun _ q => q)
