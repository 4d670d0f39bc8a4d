/-! LAYER 1: the runs (written by wip/whole/gen_f.py) -/
set_option maxRecDepth 20000 in
theorem T_X11_shelf_0 {sc : Option (Nat × (Nat → Int32))} {RF : Nat → Nat → Option Nat} {d : Nat} (hR : am_RFok RF) (hd : 2 ≤ d) {a1 : Int32} {a2 : Int32} {a3 : Int32} {s : am_S} {r : Int32 × am_S} (h : F_X11_shelf_0 a1 a2 a3 s = some r) : am_Q sc d mX11_shelf (0, am_L0 mX11_shelf [.ref 0, .int a1, .int a2, .int a3], [], am_hp RF s) (.int r.1, am_hp RF r.2) := by
  obtain ⟨e, rfl⟩ : ∃ e, d = e + 1 := ⟨d - 1, by omega⟩
  unfold F_X11_shelf_0 at h
  show am_Q _ _ _ (0, [.ref 0, .int a1, .int a2, .int a3], [], _) _
  refine aq_iload_n (am_dg dkX11_shelf (i := 0) rfl) rfl ?_
  obtain ⟨q1, hq2, h⟩ := am_bnd h
  refine aq_static (a := [.int a1]) (S1 := []) (v1 := .int q1.1) (S2 := [.int q1.1]) (am_dg dkX11_shelf (i := 1) rfl) ct_11_361 rfl rfl rfl (Nat.le_of_ble_eq_true rfl) (Nat.le_of_ble_eq_true rfl) (T_X11_isShelf hR (by omega) hq2) rfl ?_
  by_cases hc3 : q1.1 = (0 : Int32)
  · rw [if_pos hc3] at h
    refine aq_ifF (t := 9) (am_dg dkX11_shelf (i := 2) rfl) rfl (decide_eq_false (not_not_intro hc3)) ?_
    refine aq_iconst (v := (-1 : Int32)) (am_dg dkX11_shelf (i := 3) rfl) (by decide) ?_
    obtain rfl := Option.some.inj h
    exact aq_ireturn (am_dg dkX11_shelf (i := 4) rfl) rfl (Or.inl rfl) rfl
  · rw [if_neg hc3] at h
    refine aq_ifT (t := 9) (am_dg dkX11_shelf (i := 2) rfl) rfl (decide_eq_true hc3) ?_
    refine aq_iload_n (am_dg dkX11_shelf (i := 5) rfl) rfl ?_
    by_cases hc4 : a2 = (0 : Int32)
    · rw [if_pos hc4] at h
      refine aq_tsw (t := 36) (am_dg dkX11_shelf (i := 6) rfl) (by rw [hc4]; rfl) ?_
      refine aq_aload_n (am_dg dkX11_shelf (i := 7) rfl) rfl ?_
      refine aq_getR (am_dg dkX11_shelf (i := 8) rfl) gk_11_30_0 (rf_0_0 hR) ?_
      refine aq_iload_n (am_dg dkX11_shelf (i := 9) rfl) rfl ?_
      obtain ⟨q5, hq6, h⟩ := am_bnd h
      refine aq_virt (a := [.ref 8, .int a3]) (S1 := []) (v1 := .int q5.1) (S2 := [.int q5.1]) (am_dg dkX11_shelf (i := 10) rfl) cv_11_110_8 (am_cls_c sh_8 (by decide)) rfl rfl rfl (Nat.le_of_ble_eq_true rfl) (Nat.le_of_ble_eq_true rfl) (T_X8_has_8 hR (by omega) hq6) rfl ?_
      by_cases hc7 : q5.1 = (0 : Int32)
      · rw [if_pos hc7] at h
        refine aq_ifT (t := 58) (am_dg dkX11_shelf (i := 11) rfl) rfl (decide_eq_true hc7) ?_
        refine aq_iconst (v := (-1 : Int32)) (am_dg dkX11_shelf (i := 19) rfl) (by decide) ?_
        obtain rfl := Option.some.inj h
        exact aq_ireturn (am_dg dkX11_shelf (i := 20) rfl) rfl (Or.inl rfl) rfl
      · rw [if_neg hc7] at h
        refine aq_ifF (t := 58) (am_dg dkX11_shelf (i := 11) rfl) rfl (decide_eq_false hc7) ?_
        refine aq_aload_n (am_dg dkX11_shelf (i := 12) rfl) rfl ?_
        refine aq_iload_n (am_dg dkX11_shelf (i := 13) rfl) rfl ?_
        refine aq_iconst (v := (0 : Int32)) (am_dg dkX11_shelf (i := 14) rfl) (by decide) ?_
        refine aq_iload_n (am_dg dkX11_shelf (i := 15) rfl) rfl ?_
        refine aq_iconst (v := (0 : Int32)) (am_dg dkX11_shelf (i := 16) rfl) (by decide) ?_
        obtain ⟨q8, hq9, h⟩ := am_bnd h
        refine aq_virt (a := [.ref 0, .int a1, .int (0 : Int32), .int a3, .int (0 : Int32)]) (S1 := []) (v1 := .int q8.1) (S2 := [.int q8.1]) (am_dg dkX11_shelf (i := 17) rfl) cv_11_364_11 (am_cls_c sh_0 (by decide)) rfl rfl rfl (Nat.le_of_ble_eq_true rfl) (Nat.le_of_ble_eq_true rfl) (T_X11_putOn_0 hR (by omega) hq9) rfl ?_
        refine aq_goto (t := 59) (am_dg dkX11_shelf (i := 18) rfl) rfl ?_
        obtain rfl := Option.some.inj h
        exact aq_ireturn (am_dg dkX11_shelf (i := 20) rfl) rfl (Or.inl rfl) rfl
    rw [if_neg hc4] at h
    by_cases hc10 : a2 = (1 : Int32)
    · rw [if_pos hc10] at h
      refine aq_tsw (t := 60) (am_dg dkX11_shelf (i := 6) rfl) (by rw [hc10]; rfl) ?_
      refine aq_iload_n (am_dg dkX11_shelf (i := 21) rfl) rfl ?_
      obtain ⟨q11, hq12, h⟩ := am_bnd h
      refine aq_static (a := [.int a3]) (S1 := []) (v1 := .int q11.1) (S2 := [.int q11.1]) (am_dg dkX11_shelf (i := 22) rfl) ct_11_326 rfl rfl rfl (Nat.le_of_ble_eq_true rfl) (Nat.le_of_ble_eq_true rfl) (T_X11_isSheet hR (by omega) hq12) rfl ?_
      by_cases hc13 : q11.1 = (0 : Int32)
      · rw [if_pos hc13] at h
        refine aq_ifT (t := 76) (am_dg dkX11_shelf (i := 23) rfl) rfl (decide_eq_true hc13) ?_
        refine aq_iconst (v := (-1 : Int32)) (am_dg dkX11_shelf (i := 29) rfl) (by decide) ?_
        obtain rfl := Option.some.inj h
        exact aq_ireturn (am_dg dkX11_shelf (i := 30) rfl) rfl (Or.inl rfl) rfl
      · rw [if_neg hc13] at h
        refine aq_ifF (t := 76) (am_dg dkX11_shelf (i := 23) rfl) rfl (decide_eq_false hc13) ?_
        refine aq_aload_n (am_dg dkX11_shelf (i := 24) rfl) rfl ?_
        refine aq_iload_n (am_dg dkX11_shelf (i := 25) rfl) rfl ?_
        refine aq_iload_n (am_dg dkX11_shelf (i := 26) rfl) rfl ?_
        obtain ⟨q14, hq15, h⟩ := am_bnd h
        refine aq_virt (a := [.ref 0, .int a1, .int a3]) (S1 := []) (v1 := .int q14.1) (S2 := [.int q14.1]) (am_dg dkX11_shelf (i := 27) rfl) cv_11_367_11 (am_cls_c sh_0 (by decide)) rfl rfl rfl (Nat.le_of_ble_eq_true rfl) (Nat.le_of_ble_eq_true rfl) (T_X11_putRowOn_0 hR (by omega) hq15) rfl ?_
        refine aq_goto (t := 77) (am_dg dkX11_shelf (i := 28) rfl) rfl ?_
        obtain rfl := Option.some.inj h
        exact aq_ireturn (am_dg dkX11_shelf (i := 30) rfl) rfl (Or.inl rfl) rfl
    rw [if_neg hc10] at h
    by_cases hc16 : a2 = (2 : Int32)
    · rw [if_pos hc16] at h
      refine aq_tsw (t := 78) (am_dg dkX11_shelf (i := 6) rfl) (by rw [hc16]; rfl) ?_
      refine aq_aload_n (am_dg dkX11_shelf (i := 31) rfl) rfl ?_
      refine aq_iload_n (am_dg dkX11_shelf (i := 32) rfl) rfl ?_
      refine aq_iconst (v := (2 : Int32)) (am_dg dkX11_shelf (i := 33) rfl) (by decide) ?_
      refine aq_iconst (v := (0 : Int32)) (am_dg dkX11_shelf (i := 34) rfl) (by decide) ?_
      refine aq_iconst (v := (0 : Int32)) (am_dg dkX11_shelf (i := 35) rfl) (by decide) ?_
      obtain ⟨q17, hq18, h⟩ := am_bnd h
      refine aq_virt (a := [.ref 0, .int a1, .int (2 : Int32), .int (0 : Int32), .int (0 : Int32)]) (S1 := []) (v1 := .int q17.1) (S2 := [.int q17.1]) (am_dg dkX11_shelf (i := 36) rfl) cv_11_364_11 (am_cls_c sh_0 (by decide)) rfl rfl rfl (Nat.le_of_ble_eq_true rfl) (Nat.le_of_ble_eq_true rfl) (T_X11_putOn_0 hR (by omega) hq18) rfl ?_
      obtain rfl := Option.some.inj h
      exact aq_ireturn (am_dg dkX11_shelf (i := 37) rfl) rfl (Or.inl rfl) rfl
    rw [if_neg hc16] at h
    refine aq_tsw (t := 87) (am_dg dkX11_shelf (i := 6) rfl) (am_tsw_d (by have := lv_neT hc4 (show ((0 : Int32)).toInt = 0 by decide); have := lv_neT hc10 (show ((1 : Int32)).toInt = 1 by decide); have := lv_neT hc16 (show ((2 : Int32)).toInt = 2 by decide); omega) rfl) ?_
    refine aq_iconst (v := (-1 : Int32)) (am_dg dkX11_shelf (i := 38) rfl) (by decide) ?_
    obtain rfl := Option.some.inj h
    exact aq_ireturn (am_dg dkX11_shelf (i := 39) rfl) rfl (Or.inl rfl) rfl
set_option maxRecDepth 20000 in
theorem T_X12_shelf_82_b106 {sc : Option (Nat × (Nat → Int32))} {RF : Nat → Nat → Option Nat} {d : Nat} (hR : am_RFok RF) (hd : 2 ≤ d) : ∀ (x1 : Int32) (x2 : Int32) (x3 : Int32) (y0 : Int32) (y1 : Int32) (s : am_S) (r : Int32 × am_S), F_X12_shelf_82_b106 x1 x2 x3 y0 y1 s = some r → am_Q sc d mX12_shelf (106, [.ref 82, .int x1, .int x2, .int x3], [.int y0, .int y1, .ref 97], am_hp RF s) (.int r.1, am_hp RF r.2) := by
  obtain ⟨e, rfl⟩ : ∃ e, d = e + 1 := ⟨d - 1, by omega⟩
  intro x1 x2 x3 y0 y1 s r h
  unfold F_X12_shelf_82_b106 at h
  obtain ⟨hg1, h⟩ := am_guard h
  refine aq_iast (am_dg dkX12_shelf (i := 58) rfl) sh_97 hg1 ?_
  obtain ⟨s2, hs3, h⟩ := am_bnd h
  rw [Option.some.inj hs3]
  refine aq_aload_n (am_dg dkX12_shelf (i := 59) rfl) rfl ?_
  refine aq_getR (am_dg dkX12_shelf (i := 60) rfl) gk_12_55_82 (rf_82_34 hR) ?_
  refine aq_iload_n (am_dg dkX12_shelf (i := 61) rfl) rfl ?_
  refine aq_iload_n (am_dg dkX12_shelf (i := 62) rfl) rfl ?_
  refine aq_iconst (v := (1 : Int32)) (am_dg dkX12_shelf (i := 63) rfl) (by decide) ?_
  by_cases hc4 : x2 = (1 : Int32)
  · rw [if_pos hc4] at h
    refine aq_icF (t := 126) (am_dg dkX12_shelf (i := 64) rfl) rfl (decide_eq_false (not_not_intro hc4)) ?_
    refine aq_aload_n (am_dg dkX12_shelf (i := 65) rfl) rfl ?_
    refine aq_getR (am_dg dkX12_shelf (i := 66) rfl) gk_12_40_82 (rf_82_29 hR) ?_
    refine aq_iload_n (am_dg dkX12_shelf (i := 67) rfl) rfl ?_
    obtain ⟨hg5, h⟩ := am_guard h
    refine aq_iald (am_dg dkX12_shelf (i := 68) rfl) sh_93 hg5 ?_
    refine aq_goto (t := 127) (am_dg dkX12_shelf (i := 69) rfl) rfl ?_
    obtain ⟨hg6, h⟩ := am_guard h
    refine aq_iast (am_dg dkX12_shelf (i := 71) rfl) sh_98 hg6 ?_
    obtain ⟨s7, hs8, h⟩ := am_bnd h
    rw [Option.some.inj hs8]
    refine aq_iconst (v := (1 : Int32)) (am_dg dkX12_shelf (i := 72) rfl) (by decide) ?_
    obtain rfl := Option.some.inj h
    exact aq_ireturn (am_dg dkX12_shelf (i := 73) rfl) rfl (Or.inl rfl) rfl
  · rw [if_neg hc4] at h
    refine aq_icT (t := 126) (am_dg dkX12_shelf (i := 64) rfl) rfl (decide_eq_true hc4) ?_
    refine aq_iconst (v := (0 : Int32)) (am_dg dkX12_shelf (i := 70) rfl) (by decide) ?_
    obtain ⟨hg9, h⟩ := am_guard h
    refine aq_iast (am_dg dkX12_shelf (i := 71) rfl) sh_98 hg9 ?_
    obtain ⟨s10, hs11, h⟩ := am_bnd h
    rw [Option.some.inj hs11]
    refine aq_iconst (v := (1 : Int32)) (am_dg dkX12_shelf (i := 72) rfl) (by decide) ?_
    obtain rfl := Option.some.inj h
    exact aq_ireturn (am_dg dkX12_shelf (i := 73) rfl) rfl (Or.inl rfl) rfl
set_option maxRecDepth 20000 in
theorem T_X12_shelf_82_b77 {sc : Option (Nat × (Nat → Int32))} {RF : Nat → Nat → Option Nat} {d : Nat} (hR : am_RFok RF) (hd : 2 ≤ d) : ∀ (x1 : Int32) (x2 : Int32) (x3 : Int32) (y0 : Int32) (y1 : Int32) (s : am_S) (r : Int32 × am_S), F_X12_shelf_82_b77 x1 x2 x3 y0 y1 s = some r → am_Q sc d mX12_shelf (77, [.ref 82, .int x1, .int x2, .int x3], [.int y0, .int y1, .ref 96], am_hp RF s) (.int r.1, am_hp RF r.2) := by
  obtain ⟨e, rfl⟩ : ∃ e, d = e + 1 := ⟨d - 1, by omega⟩
  intro x1 x2 x3 y0 y1 s r h
  unfold F_X12_shelf_82_b77 at h
  obtain ⟨hg1, h⟩ := am_guard h
  refine aq_iast (am_dg dkX12_shelf (i := 41) rfl) sh_96 hg1 ?_
  obtain ⟨s2, hs3, h⟩ := am_bnd h
  rw [Option.some.inj hs3]
  refine aq_aload_n (am_dg dkX12_shelf (i := 42) rfl) rfl ?_
  refine aq_getR (am_dg dkX12_shelf (i := 43) rfl) gk_12_52_82 (rf_82_33 hR) ?_
  refine aq_iload_n (am_dg dkX12_shelf (i := 44) rfl) rfl ?_
  refine aq_iload_n (am_dg dkX12_shelf (i := 45) rfl) rfl ?_
  by_cases hc4 : x2 = (0 : Int32)
  · rw [if_pos hc4] at h
    refine aq_ifF (t := 91) (am_dg dkX12_shelf (i := 46) rfl) rfl (decide_eq_false (not_not_intro hc4)) ?_
    refine aq_iload_n (am_dg dkX12_shelf (i := 47) rfl) rfl ?_
    refine aq_goto (t := 106) (am_dg dkX12_shelf (i := 48) rfl) rfl ?_
    exact T_X12_shelf_82_b106 hR (by omega) _ _ _ _ _ _ _ h
  · rw [if_neg hc4] at h
    refine aq_ifT (t := 91) (am_dg dkX12_shelf (i := 46) rfl) rfl (decide_eq_true hc4) ?_
    refine aq_iload_n (am_dg dkX12_shelf (i := 49) rfl) rfl ?_
    refine aq_iconst (v := (1 : Int32)) (am_dg dkX12_shelf (i := 50) rfl) (by decide) ?_
    by_cases hc5 : x2 = (1 : Int32)
    · rw [if_pos hc5] at h
      refine aq_icF (t := 105) (am_dg dkX12_shelf (i := 51) rfl) rfl (decide_eq_false (not_not_intro hc5)) ?_
      refine aq_aload_n (am_dg dkX12_shelf (i := 52) rfl) rfl ?_
      refine aq_getR (am_dg dkX12_shelf (i := 53) rfl) gk_12_43_82 (rf_82_30 hR) ?_
      refine aq_iload_n (am_dg dkX12_shelf (i := 54) rfl) rfl ?_
      obtain ⟨hg6, h⟩ := am_guard h
      refine aq_iald (am_dg dkX12_shelf (i := 55) rfl) sh_94 hg6 ?_
      refine aq_goto (t := 106) (am_dg dkX12_shelf (i := 56) rfl) rfl ?_
      exact T_X12_shelf_82_b106 hR (by omega) _ _ _ _ _ _ _ h
    · rw [if_neg hc5] at h
      refine aq_icT (t := 105) (am_dg dkX12_shelf (i := 51) rfl) rfl (decide_eq_true hc5) ?_
      refine aq_iconst (v := (0 : Int32)) (am_dg dkX12_shelf (i := 57) rfl) (by decide) ?_
      exact T_X12_shelf_82_b106 hR (by omega) _ _ _ _ _ _ _ h
set_option maxRecDepth 20000 in
theorem T_X12_shelf_82_b76 {sc : Option (Nat × (Nat → Int32))} {RF : Nat → Nat → Option Nat} {d : Nat} (hR : am_RFok RF) (hd : 2 ≤ d) : ∀ (x1 : Int32) (x2 : Int32) (x3 : Int32) (y0 : Int32) (s : am_S) (r : Int32 × am_S), F_X12_shelf_82_b76 x1 x2 x3 y0 s = some r → am_Q sc d mX12_shelf (76, [.ref 82, .int x1, .int x2, .int x3], [.int y0, .ref 96], am_hp RF s) (.int r.1, am_hp RF r.2) := by
  obtain ⟨e, rfl⟩ : ∃ e, d = e + 1 := ⟨d - 1, by omega⟩
  intro x1 x2 x3 y0 s r h
  unfold F_X12_shelf_82_b76 at h
  refine aq_iconst (v := (0 : Int32)) (am_dg dkX12_shelf (i := 40) rfl) (by decide) ?_
  exact T_X12_shelf_82_b77 hR (by omega) _ _ _ _ _ _ _ h
set_option maxRecDepth 20000 in
theorem T_X12_shelf_82_b45 {sc : Option (Nat × (Nat → Int32))} {RF : Nat → Nat → Option Nat} {d : Nat} (hR : am_RFok RF) (hd : 2 ≤ d) : ∀ (x1 : Int32) (x2 : Int32) (x3 : Int32) (s : am_S) (r : Int32 × am_S), F_X12_shelf_82_b45 x1 x2 x3 s = some r → am_Q sc d mX12_shelf (45, [.ref 82, .int x1, .int x2, .int x3], [], am_hp RF s) (.int r.1, am_hp RF r.2) := by
  obtain ⟨e, rfl⟩ : ∃ e, d = e + 1 := ⟨d - 1, by omega⟩
  intro x1 x2 x3 s r h
  unfold F_X12_shelf_82_b45 at h
  refine aq_aload_n (am_dg dkX12_shelf (i := 23) rfl) rfl ?_
  refine aq_getR (am_dg dkX12_shelf (i := 24) rfl) gk_12_49_82 (rf_82_32 hR) ?_
  refine aq_iload_n (am_dg dkX12_shelf (i := 25) rfl) rfl ?_
  refine aq_iload_n (am_dg dkX12_shelf (i := 26) rfl) rfl ?_
  by_cases hc1 : x2 = (0 : Int32)
  · rw [if_pos hc1] at h
    refine aq_ifF (t := 58) (am_dg dkX12_shelf (i := 27) rfl) rfl (decide_eq_false (not_not_intro hc1)) ?_
    refine aq_iconst (v := (1 : Int32)) (am_dg dkX12_shelf (i := 28) rfl) (by decide) ?_
    refine aq_goto (t := 77) (am_dg dkX12_shelf (i := 29) rfl) rfl ?_
    exact T_X12_shelf_82_b77 hR (by omega) _ _ _ _ _ _ _ h
  · rw [if_neg hc1] at h
    refine aq_ifT (t := 58) (am_dg dkX12_shelf (i := 27) rfl) rfl (decide_eq_true hc1) ?_
    refine aq_iload_n (am_dg dkX12_shelf (i := 30) rfl) rfl ?_
    refine aq_iconst (v := (1 : Int32)) (am_dg dkX12_shelf (i := 31) rfl) (by decide) ?_
    by_cases hc2 : x2 = (1 : Int32)
    · rw [if_pos hc2] at h
      refine aq_icF (t := 76) (am_dg dkX12_shelf (i := 32) rfl) rfl (decide_eq_false (not_not_intro hc2)) ?_
      refine aq_aload_n (am_dg dkX12_shelf (i := 33) rfl) rfl ?_
      refine aq_getR (am_dg dkX12_shelf (i := 34) rfl) gk_12_40_82 (rf_82_29 hR) ?_
      refine aq_iload_n (am_dg dkX12_shelf (i := 35) rfl) rfl ?_
      obtain ⟨hg3, h⟩ := am_guard h
      refine aq_iald (am_dg dkX12_shelf (i := 36) rfl) sh_93 hg3 ?_
      by_cases hc4 : (s.1 93 x3.toNatClampNeg) < (0 : Int32)
      · rw [if_pos hc4] at h
        refine aq_ifT (t := 76) (am_dg dkX12_shelf (i := 37) rfl) rfl (decide_eq_true hc4) ?_
        exact T_X12_shelf_82_b76 hR (by omega) _ _ _ _ _ _ h
      · rw [if_neg hc4] at h
        refine aq_ifF (t := 76) (am_dg dkX12_shelf (i := 37) rfl) rfl (decide_eq_false hc4) ?_
        refine aq_iconst (v := (2 : Int32)) (am_dg dkX12_shelf (i := 38) rfl) (by decide) ?_
        refine aq_goto (t := 77) (am_dg dkX12_shelf (i := 39) rfl) rfl ?_
        exact T_X12_shelf_82_b77 hR (by omega) _ _ _ _ _ _ _ h
    · rw [if_neg hc2] at h
      refine aq_icT (t := 76) (am_dg dkX12_shelf (i := 32) rfl) rfl (decide_eq_true hc2) ?_
      exact T_X12_shelf_82_b76 hR (by omega) _ _ _ _ _ _ h
set_option maxRecDepth 20000 in
theorem T_X12_shelf_82_b31 {sc : Option (Nat × (Nat → Int32))} {RF : Nat → Nat → Option Nat} {d : Nat} (hR : am_RFok RF) (hd : 2 ≤ d) : ∀ (x1 : Int32) (x2 : Int32) (x3 : Int32) (s : am_S) (r : Int32 × am_S), F_X12_shelf_82_b31 x1 x2 x3 s = some r → am_Q sc d mX12_shelf (31, [.ref 82, .int x1, .int x2, .int x3], [], am_hp RF s) (.int r.1, am_hp RF r.2) := by
  obtain ⟨e, rfl⟩ : ∃ e, d = e + 1 := ⟨d - 1, by omega⟩
  intro x1 x2 x3 s r h
  unfold F_X12_shelf_82_b31 at h
  refine aq_iload_n (am_dg dkX12_shelf (i := 15) rfl) rfl ?_
  refine aq_iconst (v := (1 : Int32)) (am_dg dkX12_shelf (i := 16) rfl) (by decide) ?_
  by_cases hc1 : x2 = (1 : Int32)
  · rw [if_pos hc1] at h
    refine aq_icF (t := 45) (am_dg dkX12_shelf (i := 17) rfl) rfl (decide_eq_false (not_not_intro hc1)) ?_
    refine aq_iload_n (am_dg dkX12_shelf (i := 18) rfl) rfl ?_
    obtain ⟨q2, hq3, h⟩ := am_bnd h
    refine aq_static (a := [.int x3]) (S1 := []) (v1 := .int q2.1) (S2 := [.int q2.1]) (am_dg dkX12_shelf (i := 19) rfl) ct_12_403 rfl rfl rfl (Nat.le_of_ble_eq_true rfl) (Nat.le_of_ble_eq_true rfl) (T_X12_isOne hR (by omega) hq3) rfl ?_
    by_cases hc4 : q2.1 = (0 : Int32)
    · rw [if_pos hc4] at h
      refine aq_ifF (t := 45) (am_dg dkX12_shelf (i := 20) rfl) rfl (decide_eq_false (not_not_intro hc4)) ?_
      refine aq_iconst (v := (-1 : Int32)) (am_dg dkX12_shelf (i := 21) rfl) (by decide) ?_
      obtain rfl := Option.some.inj h
      exact aq_ireturn (am_dg dkX12_shelf (i := 22) rfl) rfl (Or.inl rfl) rfl
    · rw [if_neg hc4] at h
      refine aq_ifT (t := 45) (am_dg dkX12_shelf (i := 20) rfl) rfl (decide_eq_true hc4) ?_
      exact T_X12_shelf_82_b45 hR (by omega) _ _ _ _ _ h
  · rw [if_neg hc1] at h
    refine aq_icT (t := 45) (am_dg dkX12_shelf (i := 17) rfl) rfl (decide_eq_true hc1) ?_
    exact T_X12_shelf_82_b45 hR (by omega) _ _ _ _ _ h
set_option maxRecDepth 20000 in
theorem T_X12_shelf_82 {sc : Option (Nat × (Nat → Int32))} {RF : Nat → Nat → Option Nat} {d : Nat} (hR : am_RFok RF) (hd : 2 ≤ d) {a1 : Int32} {a2 : Int32} {a3 : Int32} {s : am_S} {r : Int32 × am_S} (h : F_X12_shelf_82 a1 a2 a3 s = some r) : am_Q sc d mX12_shelf (0, am_L0 mX12_shelf [.ref 82, .int a1, .int a2, .int a3], [], am_hp RF s) (.int r.1, am_hp RF r.2) := by
  obtain ⟨e, rfl⟩ : ∃ e, d = e + 1 := ⟨d - 1, by omega⟩
  unfold F_X12_shelf_82 at h
  show am_Q _ _ _ (0, [.ref 82, .int a1, .int a2, .int a3], [], _) _
  refine aq_iload_n (am_dg dkX12_shelf (i := 0) rfl) rfl ?_
  obtain ⟨q1, hq2, h⟩ := am_bnd h
  refine aq_static (a := [.int a1]) (S1 := []) (v1 := .int q1.1) (S2 := [.int q1.1]) (am_dg dkX12_shelf (i := 1) rfl) ct_12_403 rfl rfl rfl (Nat.le_of_ble_eq_true rfl) (Nat.le_of_ble_eq_true rfl) (T_X12_isOne hR (by omega) hq2) rfl ?_
  by_cases hc3 : q1.1 = (0 : Int32)
  · rw [if_pos hc3] at h
    refine aq_ifT (t := 43) (am_dg dkX12_shelf (i := 2) rfl) rfl (decide_eq_true hc3) ?_
    refine aq_iconst (v := (-1 : Int32)) (am_dg dkX12_shelf (i := 21) rfl) (by decide) ?_
    obtain rfl := Option.some.inj h
    exact aq_ireturn (am_dg dkX12_shelf (i := 22) rfl) rfl (Or.inl rfl) rfl
  · rw [if_neg hc3] at h
    refine aq_ifF (t := 43) (am_dg dkX12_shelf (i := 2) rfl) rfl (decide_eq_false hc3) ?_
    refine aq_iload_n (am_dg dkX12_shelf (i := 3) rfl) rfl ?_
    refine aq_i2l (am_dg dkX12_shelf (i := 4) rfl) ?_
    refine aq_lconst (v := (0 : Int64)) (am_dg dkX12_shelf (i := 5) rfl) (by decide) ?_
    refine aq_ldc2 (am_dg dkX12_shelf (i := 6) rfl) cl_12_114 ?_
    obtain ⟨q4, hq5, h⟩ := am_bnd h
    refine aq_static (a := [.long a2.toInt64, .long (0 : Int64), .long (2 : Int64)]) (S1 := []) (v1 := .int q4.1) (S2 := [.int q4.1]) (am_dg dkX12_shelf (i := 7) rfl) ct_12_61 rfl rfl rfl (Nat.le_of_ble_eq_true rfl) (Nat.le_of_ble_eq_true rfl) (T_X12_in hR (by omega) hq5) rfl ?_
    by_cases hc6 : q4.1 = (0 : Int32)
    · rw [if_pos hc6] at h
      refine aq_ifT (t := 43) (am_dg dkX12_shelf (i := 8) rfl) rfl (decide_eq_true hc6) ?_
      refine aq_iconst (v := (-1 : Int32)) (am_dg dkX12_shelf (i := 21) rfl) (by decide) ?_
      obtain rfl := Option.some.inj h
      exact aq_ireturn (am_dg dkX12_shelf (i := 22) rfl) rfl (Or.inl rfl) rfl
    · rw [if_neg hc6] at h
      refine aq_ifF (t := 43) (am_dg dkX12_shelf (i := 8) rfl) rfl (decide_eq_false hc6) ?_
      refine aq_iload_n (am_dg dkX12_shelf (i := 9) rfl) rfl ?_
      by_cases hc7 : a2 = (0 : Int32)
      · rw [if_pos hc7] at h
        refine aq_ifF (t := 31) (am_dg dkX12_shelf (i := 10) rfl) rfl (decide_eq_false (not_not_intro hc7)) ?_
        refine aq_aload_n (am_dg dkX12_shelf (i := 11) rfl) rfl ?_
        refine aq_iload_n (am_dg dkX12_shelf (i := 12) rfl) rfl ?_
        obtain ⟨q8, hq9, h⟩ := am_bnd h
        refine aq_virt (a := [.ref 82, .int a3]) (S1 := []) (v1 := .int q8.1) (S2 := [.int q8.1]) (am_dg dkX12_shelf (i := 13) rfl) cv_12_90_12 (am_cls_c sh_82 (by decide)) rfl rfl rfl (Nat.le_of_ble_eq_true rfl) (Nat.le_of_ble_eq_true rfl) (T_X12_isVoice_82 hR (by omega) hq9) rfl ?_
        by_cases hc10 : q8.1 = (0 : Int32)
        · rw [if_pos hc10] at h
          refine aq_ifT (t := 43) (am_dg dkX12_shelf (i := 14) rfl) rfl (decide_eq_true hc10) ?_
          refine aq_iconst (v := (-1 : Int32)) (am_dg dkX12_shelf (i := 21) rfl) (by decide) ?_
          obtain rfl := Option.some.inj h
          exact aq_ireturn (am_dg dkX12_shelf (i := 22) rfl) rfl (Or.inl rfl) rfl
        · rw [if_neg hc10] at h
          refine aq_ifF (t := 43) (am_dg dkX12_shelf (i := 14) rfl) rfl (decide_eq_false hc10) ?_
          exact T_X12_shelf_82_b31 hR (by omega) _ _ _ _ _ h
      · rw [if_neg hc7] at h
        refine aq_ifT (t := 31) (am_dg dkX12_shelf (i := 10) rfl) rfl (decide_eq_true hc7) ?_
        exact T_X12_shelf_82_b31 hR (by omega) _ _ _ _ _ h
set_option maxRecDepth 20000 in
theorem T_X11_holdsVoice_0 {sc : Option (Nat × (Nat → Int32))} {RF : Nat → Nat → Option Nat} {d : Nat} (hR : am_RFok RF) (hd : 1 ≤ d) {a1 : Int32} {s : am_S} {r : Int32 × am_S} (h : F_X11_holdsVoice_0 a1 s = some r) : am_Q sc d mX11_holdsVoice (0, am_L0 mX11_holdsVoice [.ref 0, .int a1], [], am_hp RF s) (.int r.1, am_hp RF r.2) := by
  obtain ⟨e, rfl⟩ : ∃ e, d = e + 1 := ⟨d - 1, by omega⟩
  unfold F_X11_holdsVoice_0 at h
  show am_Q _ _ _ (0, [.ref 0, .int a1], [], _) _
  refine aq_aload_n (am_dg dkX11_holdsVoice (i := 0) rfl) rfl ?_
  refine aq_getR (am_dg dkX11_holdsVoice (i := 1) rfl) gk_11_84_0 (rf_0_9 hR) ?_
  refine aq_iload_n (am_dg dkX11_holdsVoice (i := 2) rfl) rfl ?_
  obtain ⟨hg1, h⟩ := am_guard h
  refine aq_iald (am_dg dkX11_holdsVoice (i := 3) rfl) sh_79 hg1 ?_
  by_cases hc2 : (s.1 79 a1.toNatClampNeg) = (0 : Int32)
  · rw [if_pos hc2] at h
    refine aq_ifF (t := 29) (am_dg dkX11_holdsVoice (i := 4) rfl) rfl (decide_eq_false (not_not_intro hc2)) ?_
    refine aq_aload_n (am_dg dkX11_holdsVoice (i := 5) rfl) rfl ?_
    refine aq_getR (am_dg dkX11_holdsVoice (i := 6) rfl) gk_11_30_0 (rf_0_0 hR) ?_
    refine aq_aload_n (am_dg dkX11_holdsVoice (i := 7) rfl) rfl ?_
    refine aq_getR (am_dg dkX11_holdsVoice (i := 8) rfl) gk_11_87_0 (rf_0_10 hR) ?_
    refine aq_iload_n (am_dg dkX11_holdsVoice (i := 9) rfl) rfl ?_
    obtain ⟨hg3, h⟩ := am_guard h
    refine aq_iald (am_dg dkX11_holdsVoice (i := 10) rfl) sh_80 hg3 ?_
    obtain ⟨q4, hq5, h⟩ := am_bnd h
    refine aq_virt (a := [.ref 8, .int (s.1 80 a1.toNatClampNeg)]) (S1 := []) (v1 := .int q4.1) (S2 := [.int q4.1]) (am_dg dkX11_holdsVoice (i := 11) rfl) cv_11_110_8 (am_cls_c sh_8 (by decide)) rfl rfl rfl (Nat.le_of_ble_eq_true rfl) (Nat.le_of_ble_eq_true rfl) (T_X8_has_8 hR (by omega) hq5) rfl ?_
    by_cases hc6 : q4.1 = (0 : Int32)
    · rw [if_pos hc6] at h
      refine aq_ifT (t := 29) (am_dg dkX11_holdsVoice (i := 12) rfl) rfl (decide_eq_true hc6) ?_
      refine aq_iconst (v := (0 : Int32)) (am_dg dkX11_holdsVoice (i := 15) rfl) (by decide) ?_
      obtain rfl := Option.some.inj h
      exact aq_ireturn (am_dg dkX11_holdsVoice (i := 16) rfl) rfl (Or.inr (Or.inl rfl)) rfl
    · rw [if_neg hc6] at h
      refine aq_ifF (t := 29) (am_dg dkX11_holdsVoice (i := 12) rfl) rfl (decide_eq_false hc6) ?_
      refine aq_iconst (v := (1 : Int32)) (am_dg dkX11_holdsVoice (i := 13) rfl) (by decide) ?_
      refine aq_goto (t := 30) (am_dg dkX11_holdsVoice (i := 14) rfl) rfl ?_
      obtain rfl := Option.some.inj h
      exact aq_ireturn (am_dg dkX11_holdsVoice (i := 16) rfl) rfl (Or.inr (Or.inl rfl)) rfl
  · rw [if_neg hc2] at h
    refine aq_ifT (t := 29) (am_dg dkX11_holdsVoice (i := 4) rfl) rfl (decide_eq_true hc2) ?_
    refine aq_iconst (v := (0 : Int32)) (am_dg dkX11_holdsVoice (i := 15) rfl) (by decide) ?_
    obtain rfl := Option.some.inj h
    exact aq_ireturn (am_dg dkX11_holdsVoice (i := 16) rfl) rfl (Or.inr (Or.inl rfl)) rfl
set_option maxRecDepth 20000 in
theorem T_X11_taken_0_b30 {sc : Option (Nat × (Nat → Int32))} {RF : Nat → Nat → Option Nat} {d : Nat} (hR : am_RFok RF) (hd : 2 ≤ d) : ∀ (x1 : Int32) (x2 : Int32) (x3 : Int32) (w4 : Value) (s : am_S) (r : Int32 × am_S), F_X11_taken_0_b30 x1 x2 x3 s = some r → am_Q sc d mX11_taken (30, [.ref 0, .int x1, .int x2, .int x3, w4], [], am_hp RF s) (.int r.1, am_hp RF r.2) := by
  obtain ⟨e, rfl⟩ : ∃ e, d = e + 1 := ⟨d - 1, by omega⟩
  intro x1 x2 x3 w4 s r h
  unfold F_X11_taken_0_b30 at h
  refine aq_aload_n (am_dg dkX11_taken (i := 17) rfl) rfl ?_
  refine aq_getR (am_dg dkX11_taken (i := 18) rfl) gk_11_87_0 (rf_0_10 hR) ?_
  refine aq_iload_n (am_dg dkX11_taken (i := 19) rfl) rfl ?_
  obtain ⟨hg1, h⟩ := am_guard h
  refine aq_iald (am_dg dkX11_taken (i := 20) rfl) sh_80 hg1 ?_
  refine aq_istore (L1 := [.ref 0, .int x1, .int x2, .int x3, .int (s.1 80 x1.toNatClampNeg)]) (am_dg dkX11_taken (i := 21) rfl) rfl ?_
  refine aq_aload_n (am_dg dkX11_taken (i := 22) rfl) rfl ?_
  refine aq_iload_n (am_dg dkX11_taken (i := 23) rfl) rfl ?_
  obtain ⟨q2, hq3, h⟩ := am_bnd h
  refine aq_virt (a := [.ref 0, .int x1]) (S1 := []) (v1 := .int q2.1) (S2 := [.int q2.1]) (am_dg dkX11_taken (i := 24) rfl) cv_11_370_11 (am_cls_c sh_0 (by decide)) rfl rfl rfl (Nat.le_of_ble_eq_true rfl) (Nat.le_of_ble_eq_true rfl) (T_X11_holdsVoice_0 hR (by omega) hq3) rfl ?_
  by_cases hc4 : q2.1 = (0 : Int32)
  · rw [if_pos hc4] at h
    refine aq_ifT (t := 75) (am_dg dkX11_taken (i := 25) rfl) rfl (decide_eq_true hc4) ?_
    refine aq_aload_n (am_dg dkX11_taken (i := 40) rfl) rfl ?_
    refine aq_getR (am_dg dkX11_taken (i := 41) rfl) gk_11_84_0 (rf_0_9 hR) ?_
    refine aq_iload_n (am_dg dkX11_taken (i := 42) rfl) rfl ?_
    obtain ⟨hg5, h⟩ := am_guard h
    refine aq_iald (am_dg dkX11_taken (i := 43) rfl) sh_79 hg5 ?_
    refine aq_iconst (v := (1 : Int32)) (am_dg dkX11_taken (i := 44) rfl) (by decide) ?_
    by_cases hc6 : (q2.2.1 79 x1.toNatClampNeg) = (1 : Int32)
    · rw [if_pos hc6] at h
      refine aq_icF (t := 106) (am_dg dkX11_taken (i := 45) rfl) rfl (decide_eq_false (not_not_intro hc6)) ?_
      refine aq_iload (am_dg dkX11_taken (i := 46) rfl) rfl ?_
      refine aq_iload_n (am_dg dkX11_taken (i := 47) rfl) rfl ?_
      refine aq_bipush (v := (10 : Int32)) (am_dg dkX11_taken (i := 48) rfl) (by decide) ?_
      refine aq_isub (am_dg dkX11_taken (i := 49) rfl) ?_
      by_cases hc7 : (s.1 80 x1.toNatClampNeg) = (x2 - (10 : Int32))
      · rw [if_pos hc7] at h
        refine aq_icF (t := 103) (am_dg dkX11_taken (i := 50) rfl) rfl (decide_eq_false (not_not_intro hc7)) ?_
        refine aq_aload_n (am_dg dkX11_taken (i := 51) rfl) rfl ?_
        refine aq_getR (am_dg dkX11_taken (i := 52) rfl) gk_11_90_0 (rf_0_11 hR) ?_
        refine aq_iload_n (am_dg dkX11_taken (i := 53) rfl) rfl ?_
        obtain ⟨hg8, h⟩ := am_guard h
        refine aq_iald (am_dg dkX11_taken (i := 54) rfl) sh_81 hg8 ?_
        refine aq_goto (t := 105) (am_dg dkX11_taken (i := 55) rfl) rfl ?_
        obtain rfl := Option.some.inj h
        exact aq_ireturn (am_dg dkX11_taken (i := 57) rfl) rfl (Or.inl rfl) rfl
      · rw [if_neg hc7] at h
        refine aq_icT (t := 103) (am_dg dkX11_taken (i := 50) rfl) rfl (decide_eq_true hc7) ?_
        refine aq_bipush (v := (-13 : Int32)) (am_dg dkX11_taken (i := 56) rfl) (by decide) ?_
        obtain rfl := Option.some.inj h
        exact aq_ireturn (am_dg dkX11_taken (i := 57) rfl) rfl (Or.inl rfl) rfl
    · rw [if_neg hc6] at h
      refine aq_icT (t := 106) (am_dg dkX11_taken (i := 45) rfl) rfl (decide_eq_true hc6) ?_
      refine aq_bipush (v := (-11 : Int32)) (am_dg dkX11_taken (i := 58) rfl) (by decide) ?_
      obtain rfl := Option.some.inj h
      exact aq_ireturn (am_dg dkX11_taken (i := 59) rfl) rfl (Or.inl rfl) rfl
  · rw [if_neg hc4] at h
    refine aq_ifF (t := 75) (am_dg dkX11_taken (i := 25) rfl) rfl (decide_eq_false hc4) ?_
    refine aq_iload_n (am_dg dkX11_taken (i := 26) rfl) rfl ?_
    by_cases hc9 : x3 = (0 : Int32)
    · rw [if_pos hc9] at h
      refine aq_ifT (t := 72) (am_dg dkX11_taken (i := 27) rfl) rfl (decide_eq_true hc9) ?_
      refine aq_bipush (v := (-13 : Int32)) (am_dg dkX11_taken (i := 38) rfl) (by decide) ?_
      obtain rfl := Option.some.inj h
      exact aq_ireturn (am_dg dkX11_taken (i := 39) rfl) rfl (Or.inl rfl) rfl
    · rw [if_neg hc9] at h
      refine aq_ifF (t := 72) (am_dg dkX11_taken (i := 27) rfl) rfl (decide_eq_false hc9) ?_
      refine aq_aload_n (am_dg dkX11_taken (i := 28) rfl) rfl ?_
      refine aq_getR (am_dg dkX11_taken (i := 29) rfl) gk_11_30_0 (rf_0_0 hR) ?_
      refine aq_getR (am_dg dkX11_taken (i := 30) rfl) gk_11_113_8 (rf_8_9 hR) ?_
      refine aq_iload (am_dg dkX11_taken (i := 31) rfl) rfl ?_
      obtain ⟨hg10, h⟩ := am_guard h
      refine aq_iald (am_dg dkX11_taken (i := 32) rfl) sh_10 hg10 ?_
      refine aq_iload_n (am_dg dkX11_taken (i := 33) rfl) rfl ?_
      obtain ⟨q11, hq12, h⟩ := am_bnd h
      refine aq_static (a := [.int (q2.2.1 10 (s.1 80 x1.toNatClampNeg).toNatClampNeg), .int x2]) (S1 := []) (v1 := .int q11.1) (S2 := [.int q11.1]) (am_dg dkX11_taken (i := 34) rfl) ct_11_373 rfl rfl rfl (Nat.le_of_ble_eq_true rfl) (Nat.le_of_ble_eq_true rfl) (T_X11_isUnder hR (by omega) hq12) rfl ?_
      by_cases hc13 : q11.1 = (0 : Int32)
      · rw [if_pos hc13] at h
        refine aq_ifT (t := 72) (am_dg dkX11_taken (i := 35) rfl) rfl (decide_eq_true hc13) ?_
        refine aq_bipush (v := (-13 : Int32)) (am_dg dkX11_taken (i := 38) rfl) (by decide) ?_
        obtain rfl := Option.some.inj h
        exact aq_ireturn (am_dg dkX11_taken (i := 39) rfl) rfl (Or.inl rfl) rfl
      · rw [if_neg hc13] at h
        refine aq_ifF (t := 72) (am_dg dkX11_taken (i := 35) rfl) rfl (decide_eq_false hc13) ?_
        refine aq_iload (am_dg dkX11_taken (i := 36) rfl) rfl ?_
        refine aq_goto (t := 74) (am_dg dkX11_taken (i := 37) rfl) rfl ?_
        obtain rfl := Option.some.inj h
        exact aq_ireturn (am_dg dkX11_taken (i := 39) rfl) rfl (Or.inl rfl) rfl
set_option maxRecDepth 20000 in
theorem T_X11_taken_0 {sc : Option (Nat × (Nat → Int32))} {RF : Nat → Nat → Option Nat} {d : Nat} (hR : am_RFok RF) (hd : 2 ≤ d) {a1 : Int32} {a2 : Int32} {s : am_S} {r : Int32 × am_S} (h : F_X11_taken_0 a1 a2 s = some r) : am_Q sc d mX11_taken (0, am_L0 mX11_taken [.ref 0, .int a1, .int a2], [], am_hp RF s) (.int r.1, am_hp RF r.2) := by
  obtain ⟨e, rfl⟩ : ∃ e, d = e + 1 := ⟨d - 1, by omega⟩
  unfold F_X11_taken_0 at h
  show am_Q _ _ _ (0, [.ref 0, .int a1, .int a2, .null, .null], [], _) _
  refine aq_iload_n (am_dg dkX11_taken (i := 0) rfl) rfl ?_
  refine aq_iconst (v := (0 : Int32)) (am_dg dkX11_taken (i := 1) rfl) (by decide) ?_
  refine aq_iconst (v := (5 : Int32)) (am_dg dkX11_taken (i := 2) rfl) (by decide) ?_
  obtain ⟨q1, hq2, h⟩ := am_bnd h
  refine aq_static (a := [.int a2, .int (0 : Int32), .int (5 : Int32)]) (S1 := []) (v1 := .int q1.1) (S2 := [.int q1.1]) (am_dg dkX11_taken (i := 3) rfl) ct_11_149 rfl rfl rfl (Nat.le_of_ble_eq_true rfl) (Nat.le_of_ble_eq_true rfl) (T_X11_isWithin hR (by omega) hq2) rfl ?_
  refine aq_istore_n (L1 := [.ref 0, .int a1, .int a2, .int q1.1, .null]) (am_dg dkX11_taken (i := 4) rfl) rfl ?_
  refine aq_iload_n (am_dg dkX11_taken (i := 5) rfl) rfl ?_
  obtain ⟨q3, hq4, h⟩ := am_bnd h
  refine aq_static (a := [.int a1]) (S1 := []) (v1 := .int q3.1) (S2 := [.int q3.1]) (am_dg dkX11_taken (i := 6) rfl) ct_11_361 rfl rfl rfl (Nat.le_of_ble_eq_true rfl) (Nat.le_of_ble_eq_true rfl) (T_X11_isShelf hR (by omega) hq4) rfl ?_
  by_cases hc5 : q3.1 = (0 : Int32)
  · rw [if_pos hc5] at h
    refine aq_ifT (t := 28) (am_dg dkX11_taken (i := 7) rfl) rfl (decide_eq_true hc5) ?_
    refine aq_iconst (v := (-1 : Int32)) (am_dg dkX11_taken (i := 15) rfl) (by decide) ?_
    obtain rfl := Option.some.inj h
    exact aq_ireturn (am_dg dkX11_taken (i := 16) rfl) rfl (Or.inl rfl) rfl
  · rw [if_neg hc5] at h
    refine aq_ifF (t := 28) (am_dg dkX11_taken (i := 7) rfl) rfl (decide_eq_false hc5) ?_
    refine aq_iload_n (am_dg dkX11_taken (i := 8) rfl) rfl ?_
    by_cases hc6 : q1.1 = (0 : Int32)
    · rw [if_pos hc6] at h
      refine aq_ifF (t := 30) (am_dg dkX11_taken (i := 9) rfl) rfl (decide_eq_false (not_not_intro hc6)) ?_
      refine aq_iload_n (am_dg dkX11_taken (i := 10) rfl) rfl ?_
      refine aq_bipush (v := (10 : Int32)) (am_dg dkX11_taken (i := 11) rfl) (by decide) ?_
      refine aq_isub (am_dg dkX11_taken (i := 12) rfl) ?_
      obtain ⟨q7, hq8, h⟩ := am_bnd h
      refine aq_static (a := [.int (a2 - (10 : Int32))]) (S1 := []) (v1 := .int q7.1) (S2 := [.int q7.1]) (am_dg dkX11_taken (i := 13) rfl) ct_11_340 rfl rfl rfl (Nat.le_of_ble_eq_true rfl) (Nat.le_of_ble_eq_true rfl) (T_X11_isSort hR (by omega) hq8) rfl ?_
      by_cases hc9 : q7.1 = (0 : Int32)
      · rw [if_pos hc9] at h
        refine aq_ifF (t := 30) (am_dg dkX11_taken (i := 14) rfl) rfl (decide_eq_false (not_not_intro hc9)) ?_
        refine aq_iconst (v := (-1 : Int32)) (am_dg dkX11_taken (i := 15) rfl) (by decide) ?_
        obtain rfl := Option.some.inj h
        exact aq_ireturn (am_dg dkX11_taken (i := 16) rfl) rfl (Or.inl rfl) rfl
      · rw [if_neg hc9] at h
        refine aq_ifT (t := 30) (am_dg dkX11_taken (i := 14) rfl) rfl (decide_eq_true hc9) ?_
        exact T_X11_taken_0_b30 hR (by omega) _ _ _ _ _ _ h
    · rw [if_neg hc6] at h
      refine aq_ifT (t := 30) (am_dg dkX11_taken (i := 9) rfl) rfl (decide_eq_true hc6) ?_
      exact T_X11_taken_0_b30 hR (by omega) _ _ _ _ _ _ h
set_option maxRecDepth 20000 in
theorem T_X12_onShelf_82 {sc : Option (Nat × (Nat → Int32))} {RF : Nat → Nat → Option Nat} {d : Nat} (hR : am_RFok RF) (hd : 2 ≤ d) {a1 : Int32} {s : am_S} {r : Int32 × am_S} (h : F_X12_onShelf_82 a1 s = some r) : am_Q sc d mX12_onShelf (0, am_L0 mX12_onShelf [.ref 82, .int a1], [], am_hp RF s) (.int r.1, am_hp RF r.2) := by
  obtain ⟨e, rfl⟩ : ∃ e, d = e + 1 := ⟨d - 1, by omega⟩
  unfold F_X12_onShelf_82 at h
  show am_Q _ _ _ (0, [.ref 82, .int a1], [], _) _
  refine aq_iload_n (am_dg dkX12_onShelf (i := 0) rfl) rfl ?_
  obtain ⟨q1, hq2, h⟩ := am_bnd h
  refine aq_static (a := [.int a1]) (S1 := []) (v1 := .int q1.1) (S2 := [.int q1.1]) (am_dg dkX12_onShelf (i := 1) rfl) ct_12_403 rfl rfl rfl (Nat.le_of_ble_eq_true rfl) (Nat.le_of_ble_eq_true rfl) (T_X12_isOne hR (by omega) hq2) rfl ?_
  by_cases hc3 : q1.1 = (0 : Int32)
  · rw [if_pos hc3] at h
    refine aq_ifT (t := 39) (am_dg dkX12_onShelf (i := 2) rfl) rfl (decide_eq_true hc3) ?_
    refine aq_iconst (v := (-1 : Int32)) (am_dg dkX12_onShelf (i := 21) rfl) (by decide) ?_
    obtain rfl := Option.some.inj h
    exact aq_ireturn (am_dg dkX12_onShelf (i := 22) rfl) rfl (Or.inl rfl) rfl
  · rw [if_neg hc3] at h
    refine aq_ifF (t := 39) (am_dg dkX12_onShelf (i := 2) rfl) rfl (decide_eq_false hc3) ?_
    refine aq_aload_n (am_dg dkX12_onShelf (i := 3) rfl) rfl ?_
    refine aq_getR (am_dg dkX12_onShelf (i := 4) rfl) gk_12_49_82 (rf_82_32 hR) ?_
    refine aq_iload_n (am_dg dkX12_onShelf (i := 5) rfl) rfl ?_
    obtain ⟨hg4, h⟩ := am_guard h
    refine aq_iald (am_dg dkX12_onShelf (i := 6) rfl) sh_96 hg4 ?_
    refine aq_iconst (v := (1 : Int32)) (am_dg dkX12_onShelf (i := 7) rfl) (by decide) ?_
    by_cases hc5 : (q1.2.1 96 a1.toNatClampNeg) = (1 : Int32)
    · rw [if_pos hc5] at h
      refine aq_icF (t := 39) (am_dg dkX12_onShelf (i := 8) rfl) rfl (decide_eq_false (not_not_intro hc5)) ?_
      refine aq_aload_n (am_dg dkX12_onShelf (i := 9) rfl) rfl ?_
      refine aq_aload_n (am_dg dkX12_onShelf (i := 10) rfl) rfl ?_
      refine aq_getR (am_dg dkX12_onShelf (i := 11) rfl) gk_12_52_82 (rf_82_33 hR) ?_
      refine aq_iload_n (am_dg dkX12_onShelf (i := 12) rfl) rfl ?_
      obtain ⟨hg6, h⟩ := am_guard h
      refine aq_iald (am_dg dkX12_onShelf (i := 13) rfl) sh_97 hg6 ?_
      obtain ⟨q7, hq8, h⟩ := am_bnd h
      refine aq_virt (a := [.ref 82, .int (q1.2.1 97 a1.toNatClampNeg)]) (S1 := []) (v1 := .int q7.1) (S2 := [.int q7.1]) (am_dg dkX12_onShelf (i := 14) rfl) cv_12_90_12 (am_cls_c sh_82 (by decide)) rfl rfl rfl (Nat.le_of_ble_eq_true rfl) (Nat.le_of_ble_eq_true rfl) (T_X12_isVoice_82 hR (by omega) hq8) rfl ?_
      by_cases hc9 : q7.1 = (0 : Int32)
      · rw [if_pos hc9] at h
        refine aq_ifT (t := 39) (am_dg dkX12_onShelf (i := 15) rfl) rfl (decide_eq_true hc9) ?_
        refine aq_iconst (v := (-1 : Int32)) (am_dg dkX12_onShelf (i := 21) rfl) (by decide) ?_
        obtain rfl := Option.some.inj h
        exact aq_ireturn (am_dg dkX12_onShelf (i := 22) rfl) rfl (Or.inl rfl) rfl
      · rw [if_neg hc9] at h
        refine aq_ifF (t := 39) (am_dg dkX12_onShelf (i := 15) rfl) rfl (decide_eq_false hc9) ?_
        refine aq_aload_n (am_dg dkX12_onShelf (i := 16) rfl) rfl ?_
        refine aq_getR (am_dg dkX12_onShelf (i := 17) rfl) gk_12_52_82 (rf_82_33 hR) ?_
        refine aq_iload_n (am_dg dkX12_onShelf (i := 18) rfl) rfl ?_
        obtain ⟨hg10, h⟩ := am_guard h
        refine aq_iald (am_dg dkX12_onShelf (i := 19) rfl) sh_97 hg10 ?_
        refine aq_goto (t := 40) (am_dg dkX12_onShelf (i := 20) rfl) rfl ?_
        obtain rfl := Option.some.inj h
        exact aq_ireturn (am_dg dkX12_onShelf (i := 22) rfl) rfl (Or.inl rfl) rfl
    · rw [if_neg hc5] at h
      refine aq_icT (t := 39) (am_dg dkX12_onShelf (i := 8) rfl) rfl (decide_eq_true hc5) ?_
      refine aq_iconst (v := (-1 : Int32)) (am_dg dkX12_onShelf (i := 21) rfl) (by decide) ?_
      obtain rfl := Option.some.inj h
      exact aq_ireturn (am_dg dkX12_onShelf (i := 22) rfl) rfl (Or.inl rfl) rfl
set_option maxRecDepth 20000 in
theorem T_X12_taken_82_b107 {sc : Option (Nat × (Nat → Int32))} {RF : Nat → Nat → Option Nat} {d : Nat} (hR : am_RFok RF) (hd : 3 ≤ d) : ∀ (x1 : Int32) (x3 : Int32) (y0 : Int32) (w2 : Value) (w4 : Value) (s : am_S) (r : Int32 × am_S), F_X12_taken_82_b107 x1 x3 y0 s = some r → am_Q sc d mX12_taken (107, [.ref 82, .int x1, w2, .int x3, w4], [.int y0], am_hp RF s) (.int r.1, am_hp RF r.2) := by
  obtain ⟨e, rfl⟩ : ∃ e, d = e + 1 := ⟨d - 1, by omega⟩
  intro x1 x3 y0 w2 w4 s r h
  unfold F_X12_taken_82_b107 at h
  refine aq_istore (L1 := [.ref 82, .int x1, w2, .int x3, .int y0]) (am_dg dkX12_taken (i := 58) rfl) rfl ?_
  refine aq_iload (am_dg dkX12_taken (i := 59) rfl) rfl ?_
  by_cases hc1 : y0 = (0 : Int32)
  · rw [if_pos hc1] at h
    refine aq_ifT (t := 123) (am_dg dkX12_taken (i := 60) rfl) rfl (decide_eq_true hc1) ?_
    refine aq_bipush (v := (-13 : Int32)) (am_dg dkX12_taken (i := 66) rfl) (by decide) ?_
    obtain rfl := Option.some.inj h
    exact aq_ireturn (am_dg dkX12_taken (i := 67) rfl) rfl (Or.inl rfl) rfl
  · rw [if_neg hc1] at h
    refine aq_ifF (t := 123) (am_dg dkX12_taken (i := 60) rfl) rfl (decide_eq_false hc1) ?_
    refine aq_aload_n (am_dg dkX12_taken (i := 61) rfl) rfl ?_
    refine aq_getR (am_dg dkX12_taken (i := 62) rfl) gk_12_52_82 (rf_82_33 hR) ?_
    refine aq_iload_n (am_dg dkX12_taken (i := 63) rfl) rfl ?_
    obtain ⟨hg2, h⟩ := am_guard h
    refine aq_iald (am_dg dkX12_taken (i := 64) rfl) sh_97 hg2 ?_
    refine aq_goto (t := 125) (am_dg dkX12_taken (i := 65) rfl) rfl ?_
    obtain rfl := Option.some.inj h
    exact aq_ireturn (am_dg dkX12_taken (i := 67) rfl) rfl (Or.inl rfl) rfl
set_option maxRecDepth 20000 in
theorem T_X12_taken_82_b85 {sc : Option (Nat × (Nat → Int32))} {RF : Nat → Nat → Option Nat} {d : Nat} (hR : am_RFok RF) (hd : 3 ≤ d) : ∀ (x1 : Int32) (x3 : Int32) (w2 : Value) (w4 : Value) (s : am_S) (r : Int32 × am_S), F_X12_taken_82_b85 x1 x3 s = some r → am_Q sc d mX12_taken (85, [.ref 82, .int x1, w2, .int x3, w4], [], am_hp RF s) (.int r.1, am_hp RF r.2) := by
  obtain ⟨e, rfl⟩ : ∃ e, d = e + 1 := ⟨d - 1, by omega⟩
  intro x1 x3 w2 w4 s r h
  unfold F_X12_taken_82_b85 at h
  refine aq_iconst (v := (0 : Int32)) (am_dg dkX12_taken (i := 45) rfl) (by decide) ?_
  refine aq_goto (t := 107) (am_dg dkX12_taken (i := 46) rfl) rfl ?_
  exact T_X12_taken_82_b107 hR (by omega) _ _ _ _ _ _ _ h
set_option maxRecDepth 20000 in
theorem T_X12_taken_82_b58 {sc : Option (Nat × (Nat → Int32))} {RF : Nat → Nat → Option Nat} {d : Nat} (hR : am_RFok RF) (hd : 3 ≤ d) : ∀ (x1 : Int32) (x2 : Int32) (x3 : Int32) (w4 : Value) (s : am_S) (r : Int32 × am_S), F_X12_taken_82_b58 x1 x2 x3 s = some r → am_Q sc d mX12_taken (58, [.ref 82, .int x1, .int x2, .int x3, w4], [], am_hp RF s) (.int r.1, am_hp RF r.2) := by
  obtain ⟨e, rfl⟩ : ∃ e, d = e + 1 := ⟨d - 1, by omega⟩
  intro x1 x2 x3 w4 s r h
  unfold F_X12_taken_82_b58 at h
  refine aq_iload_n (am_dg dkX12_taken (i := 31) rfl) rfl ?_
  by_cases hc1 : x3 < (0 : Int32)
  · rw [if_pos hc1] at h
    refine aq_ifT (t := 89) (am_dg dkX12_taken (i := 32) rfl) rfl (decide_eq_true hc1) ?_
    refine aq_iload_n (am_dg dkX12_taken (i := 47) rfl) rfl ?_
    refine aq_bipush (v := (10 : Int32)) (am_dg dkX12_taken (i := 48) rfl) (by decide) ?_
    refine aq_isub (am_dg dkX12_taken (i := 49) rfl) ?_
    refine aq_aload_n (am_dg dkX12_taken (i := 50) rfl) rfl ?_
    refine aq_getR (am_dg dkX12_taken (i := 51) rfl) gk_12_55_82 (rf_82_34 hR) ?_
    refine aq_iload_n (am_dg dkX12_taken (i := 52) rfl) rfl ?_
    obtain ⟨hg2, h⟩ := am_guard h
    refine aq_iald (am_dg dkX12_taken (i := 53) rfl) sh_98 hg2 ?_
    by_cases hc3 : (x2 - (10 : Int32)) = (s.1 98 x1.toNatClampNeg)
    · rw [if_pos hc3] at h
      refine aq_icF (t := 106) (am_dg dkX12_taken (i := 54) rfl) rfl (decide_eq_false (not_not_intro hc3)) ?_
      refine aq_iconst (v := (1 : Int32)) (am_dg dkX12_taken (i := 55) rfl) (by decide) ?_
      refine aq_goto (t := 107) (am_dg dkX12_taken (i := 56) rfl) rfl ?_
      exact T_X12_taken_82_b107 hR (by omega) _ _ _ _ _ _ _ h
    · rw [if_neg hc3] at h
      refine aq_icT (t := 106) (am_dg dkX12_taken (i := 54) rfl) rfl (decide_eq_true hc3) ?_
      refine aq_iconst (v := (0 : Int32)) (am_dg dkX12_taken (i := 57) rfl) (by decide) ?_
      exact T_X12_taken_82_b107 hR (by omega) _ _ _ _ _ _ _ h
  · rw [if_neg hc1] at h
    refine aq_ifF (t := 89) (am_dg dkX12_taken (i := 32) rfl) rfl (decide_eq_false hc1) ?_
    refine aq_iload_n (am_dg dkX12_taken (i := 33) rfl) rfl ?_
    refine aq_bipush (v := (6 : Int32)) (am_dg dkX12_taken (i := 34) rfl) (by decide) ?_
    by_cases hc4 : (6 : Int32) ≤ x2
    · rw [if_pos hc4] at h
      refine aq_icT (t := 85) (am_dg dkX12_taken (i := 35) rfl) rfl (decide_eq_true hc4) ?_
      exact T_X12_taken_82_b85 hR (by omega) _ _ _ _ _ _ h
    · rw [if_neg hc4] at h
      refine aq_icF (t := 85) (am_dg dkX12_taken (i := 35) rfl) rfl (decide_eq_false hc4) ?_
      refine aq_aload_n (am_dg dkX12_taken (i := 36) rfl) rfl ?_
      refine aq_iload_n (am_dg dkX12_taken (i := 37) rfl) rfl ?_
      refine aq_iconst (v := (0 : Int32)) (am_dg dkX12_taken (i := 38) rfl) (by decide) ?_
      obtain ⟨q5, hq6, h⟩ := am_bnd h
      refine aq_virt (a := [.ref 82, .int x3, .int (0 : Int32)]) (S1 := []) (v1 := .int q5.1) (S2 := [.int q5.1]) (am_dg dkX12_taken (i := 39) rfl) cv_12_83_12 (am_cls_c sh_82 (by decide)) rfl rfl rfl (Nat.le_of_ble_eq_true rfl) (Nat.le_of_ble_eq_true rfl) (T_X12_its_82 hR (by omega) hq6) rfl ?_
      refine aq_iload_n (am_dg dkX12_taken (i := 40) rfl) rfl ?_
      obtain ⟨q7, hq8, h⟩ := am_bnd h
      refine aq_static (a := [.int q5.1, .int x2]) (S1 := []) (v1 := .int q7.1) (S2 := [.int q7.1]) (am_dg dkX12_taken (i := 41) rfl) ct_12_133 rfl rfl rfl (Nat.le_of_ble_eq_true rfl) (Nat.le_of_ble_eq_true rfl) (T_X12_isUnder hR (by omega) hq8) rfl ?_
      by_cases hc9 : q7.1 = (0 : Int32)
      · rw [if_pos hc9] at h
        refine aq_ifT (t := 85) (am_dg dkX12_taken (i := 42) rfl) rfl (decide_eq_true hc9) ?_
        exact T_X12_taken_82_b85 hR (by omega) _ _ _ _ _ _ h
      · rw [if_neg hc9] at h
        refine aq_ifF (t := 85) (am_dg dkX12_taken (i := 42) rfl) rfl (decide_eq_false hc9) ?_
        refine aq_iconst (v := (1 : Int32)) (am_dg dkX12_taken (i := 43) rfl) (by decide) ?_
        refine aq_goto (t := 107) (am_dg dkX12_taken (i := 44) rfl) rfl ?_
        exact T_X12_taken_82_b107 hR (by omega) _ _ _ _ _ _ _ h
set_option maxRecDepth 20000 in
theorem T_X12_taken_82_b35 {sc : Option (Nat × (Nat → Int32))} {RF : Nat → Nat → Option Nat} {d : Nat} (hR : am_RFok RF) (hd : 3 ≤ d) : ∀ (x1 : Int32) (x2 : Int32) (w3 : Value) (w4 : Value) (s : am_S) (r : Int32 × am_S), F_X12_taken_82_b35 x1 x2 s = some r → am_Q sc d mX12_taken (35, [.ref 82, .int x1, .int x2, w3, w4], [], am_hp RF s) (.int r.1, am_hp RF r.2) := by
  obtain ⟨e, rfl⟩ : ∃ e, d = e + 1 := ⟨d - 1, by omega⟩
  intro x1 x2 w3 w4 s r h
  unfold F_X12_taken_82_b35 at h
  refine aq_aload_n (am_dg dkX12_taken (i := 17) rfl) rfl ?_
  refine aq_iload_n (am_dg dkX12_taken (i := 18) rfl) rfl ?_
  obtain ⟨q1, hq2, h⟩ := am_bnd h
  refine aq_virt (a := [.ref 82, .int x1]) (S1 := []) (v1 := .int q1.1) (S2 := [.int q1.1]) (am_dg dkX12_taken (i := 19) rfl) cv_12_425_12 (am_cls_c sh_82 (by decide)) rfl rfl rfl (Nat.le_of_ble_eq_true rfl) (Nat.le_of_ble_eq_true rfl) (T_X12_onShelf_82 hR (by omega) hq2) rfl ?_
  refine aq_istore_n (L1 := [.ref 82, .int x1, .int x2, .int q1.1, w4]) (am_dg dkX12_taken (i := 20) rfl) rfl ?_
  refine aq_iload_n (am_dg dkX12_taken (i := 21) rfl) rfl ?_
  by_cases hc3 : (0 : Int32) ≤ q1.1
  · rw [if_pos hc3] at h
    refine aq_ifT (t := 58) (am_dg dkX12_taken (i := 22) rfl) rfl (decide_eq_true hc3) ?_
    exact T_X12_taken_82_b58 hR (by omega) _ _ _ _ _ _ h
  · rw [if_neg hc3] at h
    refine aq_ifF (t := 58) (am_dg dkX12_taken (i := 22) rfl) rfl (decide_eq_false hc3) ?_
    refine aq_aload_n (am_dg dkX12_taken (i := 23) rfl) rfl ?_
    refine aq_getR (am_dg dkX12_taken (i := 24) rfl) gk_12_49_82 (rf_82_32 hR) ?_
    refine aq_iload_n (am_dg dkX12_taken (i := 25) rfl) rfl ?_
    obtain ⟨hg4, h⟩ := am_guard h
    refine aq_iald (am_dg dkX12_taken (i := 26) rfl) sh_96 hg4 ?_
    refine aq_iconst (v := (2 : Int32)) (am_dg dkX12_taken (i := 27) rfl) (by decide) ?_
    by_cases hc5 : (2 : Int32) ≤ (q1.2.1 96 x1.toNatClampNeg)
    · rw [if_pos hc5] at h
      refine aq_icT (t := 58) (am_dg dkX12_taken (i := 28) rfl) rfl (decide_eq_true hc5) ?_
      exact T_X12_taken_82_b58 hR (by omega) _ _ _ _ _ _ h
    · rw [if_neg hc5] at h
      refine aq_icF (t := 58) (am_dg dkX12_taken (i := 28) rfl) rfl (decide_eq_false hc5) ?_
      refine aq_bipush (v := (-11 : Int32)) (am_dg dkX12_taken (i := 29) rfl) (by decide) ?_
      obtain rfl := Option.some.inj h
      exact aq_ireturn (am_dg dkX12_taken (i := 30) rfl) rfl (Or.inl rfl) rfl
set_option maxRecDepth 20000 in
theorem T_X12_taken_82 {sc : Option (Nat × (Nat → Int32))} {RF : Nat → Nat → Option Nat} {d : Nat} (hR : am_RFok RF) (hd : 3 ≤ d) {a1 : Int32} {a2 : Int32} {s : am_S} {r : Int32 × am_S} (h : F_X12_taken_82 a1 a2 s = some r) : am_Q sc d mX12_taken (0, am_L0 mX12_taken [.ref 82, .int a1, .int a2], [], am_hp RF s) (.int r.1, am_hp RF r.2) := by
  obtain ⟨e, rfl⟩ : ∃ e, d = e + 1 := ⟨d - 1, by omega⟩
  unfold F_X12_taken_82 at h
  show am_Q _ _ _ (0, [.ref 82, .int a1, .int a2, .null, .null], [], _) _
  refine aq_iload_n (am_dg dkX12_taken (i := 0) rfl) rfl ?_
  obtain ⟨q1, hq2, h⟩ := am_bnd h
  refine aq_static (a := [.int a1]) (S1 := []) (v1 := .int q1.1) (S2 := [.int q1.1]) (am_dg dkX12_taken (i := 1) rfl) ct_12_403 rfl rfl rfl (Nat.le_of_ble_eq_true rfl) (Nat.le_of_ble_eq_true rfl) (T_X12_isOne hR (by omega) hq2) rfl ?_
  by_cases hc3 : q1.1 = (0 : Int32)
  · rw [if_pos hc3] at h
    refine aq_ifT (t := 33) (am_dg dkX12_taken (i := 2) rfl) rfl (decide_eq_true hc3) ?_
    refine aq_iconst (v := (-1 : Int32)) (am_dg dkX12_taken (i := 15) rfl) (by decide) ?_
    obtain rfl := Option.some.inj h
    exact aq_ireturn (am_dg dkX12_taken (i := 16) rfl) rfl (Or.inl rfl) rfl
  · rw [if_neg hc3] at h
    refine aq_ifF (t := 33) (am_dg dkX12_taken (i := 2) rfl) rfl (decide_eq_false hc3) ?_
    refine aq_iload_n (am_dg dkX12_taken (i := 3) rfl) rfl ?_
    refine aq_i2l (am_dg dkX12_taken (i := 4) rfl) ?_
    refine aq_lconst (v := (0 : Int64)) (am_dg dkX12_taken (i := 5) rfl) (by decide) ?_
    refine aq_ldc2 (am_dg dkX12_taken (i := 6) rfl) cl_12_69 ?_
    obtain ⟨q4, hq5, h⟩ := am_bnd h
    refine aq_static (a := [.long a2.toInt64, .long (0 : Int64), .long (5 : Int64)]) (S1 := []) (v1 := .int q4.1) (S2 := [.int q4.1]) (am_dg dkX12_taken (i := 7) rfl) ct_12_61 rfl rfl rfl (Nat.le_of_ble_eq_true rfl) (Nat.le_of_ble_eq_true rfl) (T_X12_in hR (by omega) hq5) rfl ?_
    by_cases hc6 : q4.1 = (0 : Int32)
    · rw [if_pos hc6] at h
      refine aq_ifF (t := 35) (am_dg dkX12_taken (i := 8) rfl) rfl (decide_eq_false (not_not_intro hc6)) ?_
      refine aq_iload_n (am_dg dkX12_taken (i := 9) rfl) rfl ?_
      refine aq_i2l (am_dg dkX12_taken (i := 10) rfl) ?_
      refine aq_ldc2 (am_dg dkX12_taken (i := 11) rfl) cl_12_421 ?_
      refine aq_ldc2 (am_dg dkX12_taken (i := 12) rfl) cl_12_423 ?_
      obtain ⟨q7, hq8, h⟩ := am_bnd h
      refine aq_static (a := [.long a2.toInt64, .long (10 : Int64), .long (14 : Int64)]) (S1 := []) (v1 := .int q7.1) (S2 := [.int q7.1]) (am_dg dkX12_taken (i := 13) rfl) ct_12_61 rfl rfl rfl (Nat.le_of_ble_eq_true rfl) (Nat.le_of_ble_eq_true rfl) (T_X12_in hR (by omega) hq8) rfl ?_
      by_cases hc9 : q7.1 = (0 : Int32)
      · rw [if_pos hc9] at h
        refine aq_ifF (t := 35) (am_dg dkX12_taken (i := 14) rfl) rfl (decide_eq_false (not_not_intro hc9)) ?_
        refine aq_iconst (v := (-1 : Int32)) (am_dg dkX12_taken (i := 15) rfl) (by decide) ?_
        obtain rfl := Option.some.inj h
        exact aq_ireturn (am_dg dkX12_taken (i := 16) rfl) rfl (Or.inl rfl) rfl
      · rw [if_neg hc9] at h
        refine aq_ifT (t := 35) (am_dg dkX12_taken (i := 14) rfl) rfl (decide_eq_true hc9) ?_
        exact T_X12_taken_82_b35 hR (by omega) _ _ _ _ _ _ h
    · rw [if_neg hc6] at h
      refine aq_ifT (t := 35) (am_dg dkX12_taken (i := 8) rfl) rfl (decide_eq_true hc6) ?_
      exact T_X12_taken_82_b35 hR (by omega) _ _ _ _ _ _ h
set_option maxRecDepth 20000 in
theorem T_X9_begin_70 {sc : Option (Nat × (Nat → Int32))} {RF : Nat → Nat → Option Nat} {d : Nat} (hR : am_RFok RF) (hd : 0 ≤ d) {a1 : Int32} {a2 : Int32} {s : am_S} {r : am_S} (h : F_X9_begin_70 a1 a2 s = some r) : am_Q sc d mX9_begin (0, am_L0 mX9_begin [.ref 70, .int a1, .int a2], [], am_hp RF s) (.null, am_hp RF r) := by
  unfold F_X9_begin_70 at h
  show am_Q _ _ _ (0, [.ref 70, .int a1, .int a2], [], _) _
  refine aq_aload_n (am_dg dkX9_begin (i := 0) rfl) rfl ?_
  refine aq_iload_n (am_dg dkX9_begin (i := 1) rfl) rfl ?_
  refine aq_putI (am_dg dkX9_begin (i := 2) rfl) gk_9_13_70 ?_
  obtain ⟨s1, hs2, h⟩ := am_bnd h
  rw [Option.some.inj hs2]
  refine aq_aload_n (am_dg dkX9_begin (i := 3) rfl) rfl ?_
  refine aq_iload_n (am_dg dkX9_begin (i := 4) rfl) rfl ?_
  refine aq_putI (am_dg dkX9_begin (i := 5) rfl) gk_9_17_70 ?_
  obtain ⟨s3, hs4, h⟩ := am_bnd h
  rw [Option.some.inj hs4]
  refine aq_aload_n (am_dg dkX9_begin (i := 6) rfl) rfl ?_
  refine aq_iconst (v := (0 : Int32)) (am_dg dkX9_begin (i := 7) rfl) (by decide) ?_
  refine aq_putZ (am_dg dkX9_begin (i := 8) rfl) gk_9_20_70 (by decide) ?_
  obtain ⟨s5, hs6, h⟩ := am_bnd h
  rw [Option.some.inj hs6]
  refine aq_aload_n (am_dg dkX9_begin (i := 9) rfl) rfl ?_
  refine aq_iconst (v := (0 : Int32)) (am_dg dkX9_begin (i := 10) rfl) (by decide) ?_
  refine aq_putI (am_dg dkX9_begin (i := 11) rfl) gk_9_24_70 ?_
  obtain ⟨s7, hs8, h⟩ := am_bnd h
  rw [Option.some.inj hs8]
  obtain rfl := Option.some.inj h
  exact aq_return (am_dg dkX9_begin (i := 12) rfl) rfl
set_option maxRecDepth 20000 in
theorem T_X9_began_70 {sc : Option (Nat × (Nat → Int32))} {RF : Nat → Nat → Option Nat} {d : Nat} (hR : am_RFok RF) (hd : 0 ≤ d) {a1 : Int32} {s : am_S} {r : am_S} (h : F_X9_began_70 a1 s = some r) : am_Q sc d mX9_began (0, am_L0 mX9_began [.ref 70, .int a1], [], am_hp RF s) (.null, am_hp RF r) := by
  unfold F_X9_began_70 at h
  show am_Q _ _ _ (0, [.ref 70, .int a1], [], _) _
  refine aq_aload_n (am_dg dkX9_began (i := 0) rfl) rfl ?_
  refine aq_getI (am_dg dkX9_began (i := 1) rfl) gk_9_20_70 (by decide) ?_
  by_cases hc1 : (s.1 70 2) = (0 : Int32)
  · rw [if_pos hc1] at h
    refine aq_ifF (t := 39) (am_dg dkX9_began (i := 2) rfl) rfl (decide_eq_false (not_not_intro hc1)) ?_
    refine aq_aload_n (am_dg dkX9_began (i := 3) rfl) rfl ?_
    refine aq_getI (am_dg dkX9_began (i := 4) rfl) gk_9_24_70 (by decide) ?_
    refine aq_aload_n (am_dg dkX9_began (i := 5) rfl) rfl ?_
    refine aq_getR (am_dg dkX9_began (i := 6) rfl) gk_9_7_70 (rf_70_4 hR) ?_
    refine aq_alen (v := (30 : Int32)) (am_dg dkX9_began (i := 7) rfl) sh_71 (by decide) (by decide) ?_
    by_cases hc2 : (30 : Int32) ≤ (s.1 70 3)
    · rw [if_pos hc2] at h
      refine aq_icT (t := 39) (am_dg dkX9_began (i := 8) rfl) rfl (decide_eq_true hc2) ?_
      obtain rfl := Option.some.inj h
      exact aq_return (am_dg dkX9_began (i := 21) rfl) rfl
    · rw [if_neg hc2] at h
      refine aq_icF (t := 39) (am_dg dkX9_began (i := 8) rfl) rfl (decide_eq_false hc2) ?_
      refine aq_aload_n (am_dg dkX9_began (i := 9) rfl) rfl ?_
      refine aq_getR (am_dg dkX9_began (i := 10) rfl) gk_9_7_70 (rf_70_4 hR) ?_
      refine aq_aload_n (am_dg dkX9_began (i := 11) rfl) rfl ?_
      refine aq_getI (am_dg dkX9_began (i := 12) rfl) gk_9_24_70 (by decide) ?_
      refine aq_iload_n (am_dg dkX9_began (i := 13) rfl) rfl ?_
      obtain ⟨hg3, h⟩ := am_guard h
      refine aq_iast (am_dg dkX9_began (i := 14) rfl) sh_71 hg3 ?_
      obtain ⟨s4, hs5, h⟩ := am_bnd h
      rw [Option.some.inj hs5]
      refine aq_aload_n (am_dg dkX9_began (i := 15) rfl) rfl ?_
      refine aq_dup (am_dg dkX9_began (i := 16) rfl) rfl ?_
      refine aq_getI (am_dg dkX9_began (i := 17) rfl) gk_9_24_70 (by decide) ?_
      refine aq_iconst (v := (1 : Int32)) (am_dg dkX9_began (i := 18) rfl) (by decide) ?_
      refine aq_iadd (am_dg dkX9_began (i := 19) rfl) ?_
      refine aq_putI (am_dg dkX9_began (i := 20) rfl) gk_9_24_70 ?_
      obtain ⟨s6, hs7, h⟩ := am_bnd h
      rw [Option.some.inj hs7]
      obtain rfl := Option.some.inj h
      exact aq_return (am_dg dkX9_began (i := 21) rfl) rfl
  · rw [if_neg hc1] at h
    refine aq_ifT (t := 39) (am_dg dkX9_began (i := 2) rfl) rfl (decide_eq_true hc1) ?_
    obtain rfl := Option.some.inj h
    exact aq_return (am_dg dkX9_began (i := 21) rfl) rfl
set_option maxRecDepth 20000 in
theorem T_X10_hums_2_70 {sc : Option (Nat × (Nat → Int32))} {RF : Nat → Nat → Option Nat} {d : Nat} (hR : am_RFok RF) (hd : 1 ≤ d) {a2 : Int32} {s : am_S} {r : Int32 × am_S} (h : F_X10_hums_2_70 a2 s = some r) : am_Q sc d mX10_hums (0, am_L0 mX10_hums [.ref 2, .ref 70, .int a2], [], am_hp RF s) (.int r.1, am_hp RF r.2) := by
  obtain ⟨e, rfl⟩ : ∃ e, d = e + 1 := ⟨d - 1, by omega⟩
  unfold F_X10_hums_2_70 at h
  show am_Q _ _ _ (0, [.ref 2, .ref 70, .int a2], [], _) _
  refine aq_aload_n (am_dg dkX10_hums (i := 0) rfl) rfl ?_
  refine aq_bipush (v := (10 : Int32)) (am_dg dkX10_hums (i := 1) rfl) (by decide) ?_
  obtain ⟨q1, hq2, h⟩ := am_bnd h
  refine aq_virt (a := [.ref 70, .int (10 : Int32)]) (S1 := []) (v1 := .null) (S2 := []) (am_dg dkX10_hums (i := 2) rfl) cv_10_7_9 (am_cls_c sh_70 (by decide)) rfl rfl rfl (Nat.le_of_ble_eq_true rfl) (Nat.le_of_ble_eq_true rfl) (T_X9_began_70 hR (by omega) hq2) rfl ?_
  refine aq_iload_n (am_dg dkX10_hums (i := 3) rfl) rfl ?_
  refine aq_iconst (v := (3 : Int32)) (am_dg dkX10_hums (i := 4) rfl) (by decide) ?_
  refine aq_imul (am_dg dkX10_hums (i := 5) rfl) ?_
  refine aq_aload_n (am_dg dkX10_hums (i := 6) rfl) rfl ?_
  refine aq_getI (am_dg dkX10_hums (i := 7) rfl) gk_10_13_70 (by decide) ?_
  refine aq_isub (am_dg dkX10_hums (i := 8) rfl) ?_
  obtain rfl := Option.some.inj h
  exact aq_ireturn (am_dg dkX10_hums (i := 9) rfl) rfl (Or.inl rfl) rfl
set_option maxRecDepth 20000 in
theorem T_X10_hums_3_70 {sc : Option (Nat × (Nat → Int32))} {RF : Nat → Nat → Option Nat} {d : Nat} (hR : am_RFok RF) (hd : 1 ≤ d) {a2 : Int32} {s : am_S} {r : Int32 × am_S} (h : F_X10_hums_3_70 a2 s = some r) : am_Q sc d mX10_hums (0, am_L0 mX10_hums [.ref 3, .ref 70, .int a2], [], am_hp RF s) (.int r.1, am_hp RF r.2) := by
  obtain ⟨e, rfl⟩ : ∃ e, d = e + 1 := ⟨d - 1, by omega⟩
  unfold F_X10_hums_3_70 at h
  show am_Q _ _ _ (0, [.ref 3, .ref 70, .int a2], [], _) _
  refine aq_aload_n (am_dg dkX10_hums (i := 0) rfl) rfl ?_
  refine aq_bipush (v := (10 : Int32)) (am_dg dkX10_hums (i := 1) rfl) (by decide) ?_
  obtain ⟨q1, hq2, h⟩ := am_bnd h
  refine aq_virt (a := [.ref 70, .int (10 : Int32)]) (S1 := []) (v1 := .null) (S2 := []) (am_dg dkX10_hums (i := 2) rfl) cv_10_7_9 (am_cls_c sh_70 (by decide)) rfl rfl rfl (Nat.le_of_ble_eq_true rfl) (Nat.le_of_ble_eq_true rfl) (T_X9_began_70 hR (by omega) hq2) rfl ?_
  refine aq_iload_n (am_dg dkX10_hums (i := 3) rfl) rfl ?_
  refine aq_iconst (v := (3 : Int32)) (am_dg dkX10_hums (i := 4) rfl) (by decide) ?_
  refine aq_imul (am_dg dkX10_hums (i := 5) rfl) ?_
  refine aq_aload_n (am_dg dkX10_hums (i := 6) rfl) rfl ?_
  refine aq_getI (am_dg dkX10_hums (i := 7) rfl) gk_10_13_70 (by decide) ?_
  refine aq_isub (am_dg dkX10_hums (i := 8) rfl) ?_
  obtain rfl := Option.some.inj h
  exact aq_ireturn (am_dg dkX10_hums (i := 9) rfl) rfl (Or.inl rfl) rfl
set_option maxRecDepth 20000 in
theorem T_X0_hums_3_70 {sc : Option (Nat × (Nat → Int32))} {RF : Nat → Nat → Option Nat} {d : Nat} (hR : am_RFok RF) (hd : 2 ≤ d) {a2 : Int32} {s : am_S} {r : Int32 × am_S} (h : F_X0_hums_3_70 a2 s = some r) : am_Q sc d mX0_hums (0, am_L0 mX0_hums [.ref 3, .ref 70, .int a2], [], am_hp RF s) (.int r.1, am_hp RF r.2) := by
  obtain ⟨e, rfl⟩ : ∃ e, d = e + 1 := ⟨d - 1, by omega⟩
  unfold F_X0_hums_3_70 at h
  show am_Q _ _ _ (0, [.ref 3, .ref 70, .int a2], [], _) _
  refine aq_aload_n (am_dg dkX0_hums (i := 0) rfl) rfl ?_
  refine aq_bipush (v := (20 : Int32)) (am_dg dkX0_hums (i := 1) rfl) (by decide) ?_
  obtain ⟨q1, hq2, h⟩ := am_bnd h
  refine aq_virt (a := [.ref 70, .int (20 : Int32)]) (S1 := []) (v1 := .null) (S2 := []) (am_dg dkX0_hums (i := 2) rfl) cv_0_15_9 (am_cls_c sh_70 (by decide)) rfl rfl rfl (Nat.le_of_ble_eq_true rfl) (Nat.le_of_ble_eq_true rfl) (T_X9_began_70 hR (by omega) hq2) rfl ?_
  refine aq_aload_n (am_dg dkX0_hums (i := 3) rfl) rfl ?_
  refine aq_aload_n (am_dg dkX0_hums (i := 4) rfl) rfl ?_
  refine aq_iload_n (am_dg dkX0_hums (i := 5) rfl) rfl ?_
  obtain ⟨q3, hq4, h⟩ := am_bnd h
  refine aq_spec (a := [.ref 3, .ref 70, .int a2]) (S1 := []) (v1 := .int q3.1) (S2 := [.int q3.1]) (am_dg dkX0_hums (i := 6) rfl) cp_0_21 sh_3 (by decide) rfl rfl rfl (Nat.le_of_ble_eq_true rfl) (Nat.le_of_ble_eq_true rfl) (T_X10_hums_3_70 hR (by omega) hq4) rfl ?_
  refine aq_bipush (v := (7 : Int32)) (am_dg dkX0_hums (i := 7) rfl) (by decide) ?_
  refine aq_iadd (am_dg dkX0_hums (i := 8) rfl) ?_
  obtain rfl := Option.some.inj h
  exact aq_ireturn (am_dg dkX0_hums (i := 9) rfl) rfl (Or.inl rfl) rfl
set_option maxRecDepth 20000 in
theorem T_X10_hums_4_70 {sc : Option (Nat × (Nat → Int32))} {RF : Nat → Nat → Option Nat} {d : Nat} (hR : am_RFok RF) (hd : 1 ≤ d) {a2 : Int32} {s : am_S} {r : Int32 × am_S} (h : F_X10_hums_4_70 a2 s = some r) : am_Q sc d mX10_hums (0, am_L0 mX10_hums [.ref 4, .ref 70, .int a2], [], am_hp RF s) (.int r.1, am_hp RF r.2) := by
  obtain ⟨e, rfl⟩ : ∃ e, d = e + 1 := ⟨d - 1, by omega⟩
  unfold F_X10_hums_4_70 at h
  show am_Q _ _ _ (0, [.ref 4, .ref 70, .int a2], [], _) _
  refine aq_aload_n (am_dg dkX10_hums (i := 0) rfl) rfl ?_
  refine aq_bipush (v := (10 : Int32)) (am_dg dkX10_hums (i := 1) rfl) (by decide) ?_
  obtain ⟨q1, hq2, h⟩ := am_bnd h
  refine aq_virt (a := [.ref 70, .int (10 : Int32)]) (S1 := []) (v1 := .null) (S2 := []) (am_dg dkX10_hums (i := 2) rfl) cv_10_7_9 (am_cls_c sh_70 (by decide)) rfl rfl rfl (Nat.le_of_ble_eq_true rfl) (Nat.le_of_ble_eq_true rfl) (T_X9_began_70 hR (by omega) hq2) rfl ?_
  refine aq_iload_n (am_dg dkX10_hums (i := 3) rfl) rfl ?_
  refine aq_iconst (v := (3 : Int32)) (am_dg dkX10_hums (i := 4) rfl) (by decide) ?_
  refine aq_imul (am_dg dkX10_hums (i := 5) rfl) ?_
  refine aq_aload_n (am_dg dkX10_hums (i := 6) rfl) rfl ?_
  refine aq_getI (am_dg dkX10_hums (i := 7) rfl) gk_10_13_70 (by decide) ?_
  refine aq_isub (am_dg dkX10_hums (i := 8) rfl) ?_
  obtain rfl := Option.some.inj h
  exact aq_ireturn (am_dg dkX10_hums (i := 9) rfl) rfl (Or.inl rfl) rfl
set_option maxRecDepth 20000 in
theorem T_X10_hums_5_70 {sc : Option (Nat × (Nat → Int32))} {RF : Nat → Nat → Option Nat} {d : Nat} (hR : am_RFok RF) (hd : 1 ≤ d) {a2 : Int32} {s : am_S} {r : Int32 × am_S} (h : F_X10_hums_5_70 a2 s = some r) : am_Q sc d mX10_hums (0, am_L0 mX10_hums [.ref 5, .ref 70, .int a2], [], am_hp RF s) (.int r.1, am_hp RF r.2) := by
  obtain ⟨e, rfl⟩ : ∃ e, d = e + 1 := ⟨d - 1, by omega⟩
  unfold F_X10_hums_5_70 at h
  show am_Q _ _ _ (0, [.ref 5, .ref 70, .int a2], [], _) _
  refine aq_aload_n (am_dg dkX10_hums (i := 0) rfl) rfl ?_
  refine aq_bipush (v := (10 : Int32)) (am_dg dkX10_hums (i := 1) rfl) (by decide) ?_
  obtain ⟨q1, hq2, h⟩ := am_bnd h
  refine aq_virt (a := [.ref 70, .int (10 : Int32)]) (S1 := []) (v1 := .null) (S2 := []) (am_dg dkX10_hums (i := 2) rfl) cv_10_7_9 (am_cls_c sh_70 (by decide)) rfl rfl rfl (Nat.le_of_ble_eq_true rfl) (Nat.le_of_ble_eq_true rfl) (T_X9_began_70 hR (by omega) hq2) rfl ?_
  refine aq_iload_n (am_dg dkX10_hums (i := 3) rfl) rfl ?_
  refine aq_iconst (v := (3 : Int32)) (am_dg dkX10_hums (i := 4) rfl) (by decide) ?_
  refine aq_imul (am_dg dkX10_hums (i := 5) rfl) ?_
  refine aq_aload_n (am_dg dkX10_hums (i := 6) rfl) rfl ?_
  refine aq_getI (am_dg dkX10_hums (i := 7) rfl) gk_10_13_70 (by decide) ?_
  refine aq_isub (am_dg dkX10_hums (i := 8) rfl) ?_
  obtain rfl := Option.some.inj h
  exact aq_ireturn (am_dg dkX10_hums (i := 9) rfl) rfl (Or.inl rfl) rfl
set_option maxRecDepth 20000 in
theorem T_X4_hums_5_70 {sc : Option (Nat × (Nat → Int32))} {RF : Nat → Nat → Option Nat} {d : Nat} (hR : am_RFok RF) (hd : 2 ≤ d) {a2 : Int32} {s : am_S} {r : Int32 × am_S} (h : F_X4_hums_5_70 a2 s = some r) : am_Q sc d mX4_hums (0, am_L0 mX4_hums [.ref 5, .ref 70, .int a2], [], am_hp RF s) (.int r.1, am_hp RF r.2) := by
  obtain ⟨e, rfl⟩ : ∃ e, d = e + 1 := ⟨d - 1, by omega⟩
  unfold F_X4_hums_5_70 at h
  show am_Q _ _ _ (0, [.ref 5, .ref 70, .int a2], [], _) _
  refine aq_aload_n (am_dg dkX4_hums (i := 0) rfl) rfl ?_
  refine aq_bipush (v := (50 : Int32)) (am_dg dkX4_hums (i := 1) rfl) (by decide) ?_
  obtain ⟨q1, hq2, h⟩ := am_bnd h
  refine aq_virt (a := [.ref 70, .int (50 : Int32)]) (S1 := []) (v1 := .null) (S2 := []) (am_dg dkX4_hums (i := 2) rfl) cv_4_15_9 (am_cls_c sh_70 (by decide)) rfl rfl rfl (Nat.le_of_ble_eq_true rfl) (Nat.le_of_ble_eq_true rfl) (T_X9_began_70 hR (by omega) hq2) rfl ?_
  refine aq_aload_n (am_dg dkX4_hums (i := 3) rfl) rfl ?_
  refine aq_aload_n (am_dg dkX4_hums (i := 4) rfl) rfl ?_
  refine aq_iload_n (am_dg dkX4_hums (i := 5) rfl) rfl ?_
  refine aq_iconst (v := (1 : Int32)) (am_dg dkX4_hums (i := 6) rfl) (by decide) ?_
  refine aq_isub (am_dg dkX4_hums (i := 7) rfl) ?_
  obtain ⟨q3, hq4, h⟩ := am_bnd h
  refine aq_spec (a := [.ref 5, .ref 70, .int (a2 - (1 : Int32))]) (S1 := []) (v1 := .int q3.1) (S2 := [.int q3.1]) (am_dg dkX4_hums (i := 8) rfl) cp_4_21 sh_5 (by decide) rfl rfl rfl (Nat.le_of_ble_eq_true rfl) (Nat.le_of_ble_eq_true rfl) (T_X10_hums_5_70 hR (by omega) hq4) rfl ?_
  obtain rfl := Option.some.inj h
  exact aq_ireturn (am_dg dkX4_hums (i := 9) rfl) rfl (Or.inl rfl) rfl
set_option maxRecDepth 20000 in
theorem T_X10_hums_6_70 {sc : Option (Nat × (Nat → Int32))} {RF : Nat → Nat → Option Nat} {d : Nat} (hR : am_RFok RF) (hd : 1 ≤ d) {a2 : Int32} {s : am_S} {r : Int32 × am_S} (h : F_X10_hums_6_70 a2 s = some r) : am_Q sc d mX10_hums (0, am_L0 mX10_hums [.ref 6, .ref 70, .int a2], [], am_hp RF s) (.int r.1, am_hp RF r.2) := by
  obtain ⟨e, rfl⟩ : ∃ e, d = e + 1 := ⟨d - 1, by omega⟩
  unfold F_X10_hums_6_70 at h
  show am_Q _ _ _ (0, [.ref 6, .ref 70, .int a2], [], _) _
  refine aq_aload_n (am_dg dkX10_hums (i := 0) rfl) rfl ?_
  refine aq_bipush (v := (10 : Int32)) (am_dg dkX10_hums (i := 1) rfl) (by decide) ?_
  obtain ⟨q1, hq2, h⟩ := am_bnd h
  refine aq_virt (a := [.ref 70, .int (10 : Int32)]) (S1 := []) (v1 := .null) (S2 := []) (am_dg dkX10_hums (i := 2) rfl) cv_10_7_9 (am_cls_c sh_70 (by decide)) rfl rfl rfl (Nat.le_of_ble_eq_true rfl) (Nat.le_of_ble_eq_true rfl) (T_X9_began_70 hR (by omega) hq2) rfl ?_
  refine aq_iload_n (am_dg dkX10_hums (i := 3) rfl) rfl ?_
  refine aq_iconst (v := (3 : Int32)) (am_dg dkX10_hums (i := 4) rfl) (by decide) ?_
  refine aq_imul (am_dg dkX10_hums (i := 5) rfl) ?_
  refine aq_aload_n (am_dg dkX10_hums (i := 6) rfl) rfl ?_
  refine aq_getI (am_dg dkX10_hums (i := 7) rfl) gk_10_13_70 (by decide) ?_
  refine aq_isub (am_dg dkX10_hums (i := 8) rfl) ?_
  obtain rfl := Option.some.inj h
  exact aq_ireturn (am_dg dkX10_hums (i := 9) rfl) rfl (Or.inl rfl) rfl
set_option maxRecDepth 20000 in
theorem T_X10_hums_7_70 {sc : Option (Nat × (Nat → Int32))} {RF : Nat → Nat → Option Nat} {d : Nat} (hR : am_RFok RF) (hd : 1 ≤ d) {a2 : Int32} {s : am_S} {r : Int32 × am_S} (h : F_X10_hums_7_70 a2 s = some r) : am_Q sc d mX10_hums (0, am_L0 mX10_hums [.ref 7, .ref 70, .int a2], [], am_hp RF s) (.int r.1, am_hp RF r.2) := by
  obtain ⟨e, rfl⟩ : ∃ e, d = e + 1 := ⟨d - 1, by omega⟩
  unfold F_X10_hums_7_70 at h
  show am_Q _ _ _ (0, [.ref 7, .ref 70, .int a2], [], _) _
  refine aq_aload_n (am_dg dkX10_hums (i := 0) rfl) rfl ?_
  refine aq_bipush (v := (10 : Int32)) (am_dg dkX10_hums (i := 1) rfl) (by decide) ?_
  obtain ⟨q1, hq2, h⟩ := am_bnd h
  refine aq_virt (a := [.ref 70, .int (10 : Int32)]) (S1 := []) (v1 := .null) (S2 := []) (am_dg dkX10_hums (i := 2) rfl) cv_10_7_9 (am_cls_c sh_70 (by decide)) rfl rfl rfl (Nat.le_of_ble_eq_true rfl) (Nat.le_of_ble_eq_true rfl) (T_X9_began_70 hR (by omega) hq2) rfl ?_
  refine aq_iload_n (am_dg dkX10_hums (i := 3) rfl) rfl ?_
  refine aq_iconst (v := (3 : Int32)) (am_dg dkX10_hums (i := 4) rfl) (by decide) ?_
  refine aq_imul (am_dg dkX10_hums (i := 5) rfl) ?_
  refine aq_aload_n (am_dg dkX10_hums (i := 6) rfl) rfl ?_
  refine aq_getI (am_dg dkX10_hums (i := 7) rfl) gk_10_13_70 (by decide) ?_
  refine aq_isub (am_dg dkX10_hums (i := 8) rfl) ?_
  obtain rfl := Option.some.inj h
  exact aq_ireturn (am_dg dkX10_hums (i := 9) rfl) rfl (Or.inl rfl) rfl
set_option maxRecDepth 20000 in
theorem T_X10_calls_2_70 {sc : Option (Nat × (Nat → Int32))} {RF : Nat → Nat → Option Nat} {d : Nat} (hR : am_RFok RF) (hd : 2 ≤ d) {a2 : Int32} {s : am_S} {r : Int32 × am_S} (h : F_X10_calls_2_70 a2 s = some r) : am_Q sc d mX10_calls (0, am_L0 mX10_calls [.ref 2, .ref 70, .int a2], [], am_hp RF s) (.int r.1, am_hp RF r.2) := by
  obtain ⟨e, rfl⟩ : ∃ e, d = e + 1 := ⟨d - 1, by omega⟩
  unfold F_X10_calls_2_70 at h
  show am_Q _ _ _ (0, [.ref 2, .ref 70, .int a2], [], _) _
  refine aq_aload_n (am_dg dkX10_calls (i := 0) rfl) rfl ?_
  refine aq_bipush (v := (11 : Int32)) (am_dg dkX10_calls (i := 1) rfl) (by decide) ?_
  obtain ⟨q1, hq2, h⟩ := am_bnd h
  refine aq_virt (a := [.ref 70, .int (11 : Int32)]) (S1 := []) (v1 := .null) (S2 := []) (am_dg dkX10_calls (i := 2) rfl) cv_10_7_9 (am_cls_c sh_70 (by decide)) rfl rfl rfl (Nat.le_of_ble_eq_true rfl) (Nat.le_of_ble_eq_true rfl) (T_X9_began_70 hR (by omega) hq2) rfl ?_
  refine aq_aload_n (am_dg dkX10_calls (i := 3) rfl) rfl ?_
  refine aq_aload_n (am_dg dkX10_calls (i := 4) rfl) rfl ?_
  refine aq_iload_n (am_dg dkX10_calls (i := 5) rfl) rfl ?_
  obtain ⟨q3, hq4, h⟩ := am_bnd h
  refine aq_virt (a := [.ref 2, .ref 70, .int a2]) (S1 := []) (v1 := .int q3.1) (S2 := [.int q3.1]) (am_dg dkX10_calls (i := 6) rfl) cv_10_17_10 (am_cls_c sh_2 (by decide)) rfl rfl rfl (Nat.le_of_ble_eq_true rfl) (Nat.le_of_ble_eq_true rfl) (T_X10_hums_2_70 hR (by omega) hq4) rfl ?_
  refine aq_aload_n (am_dg dkX10_calls (i := 7) rfl) rfl ?_
  refine aq_getI (am_dg dkX10_calls (i := 8) rfl) gk_10_23_70 (by decide) ?_
  refine aq_iadd (am_dg dkX10_calls (i := 9) rfl) ?_
  obtain rfl := Option.some.inj h
  exact aq_ireturn (am_dg dkX10_calls (i := 10) rfl) rfl (Or.inl rfl) rfl
set_option maxRecDepth 20000 in
theorem T_X10_calls_3_70 {sc : Option (Nat × (Nat → Int32))} {RF : Nat → Nat → Option Nat} {d : Nat} (hR : am_RFok RF) (hd : 3 ≤ d) {a2 : Int32} {s : am_S} {r : Int32 × am_S} (h : F_X10_calls_3_70 a2 s = some r) : am_Q sc d mX10_calls (0, am_L0 mX10_calls [.ref 3, .ref 70, .int a2], [], am_hp RF s) (.int r.1, am_hp RF r.2) := by
  obtain ⟨e, rfl⟩ : ∃ e, d = e + 1 := ⟨d - 1, by omega⟩
  unfold F_X10_calls_3_70 at h
  show am_Q _ _ _ (0, [.ref 3, .ref 70, .int a2], [], _) _
  refine aq_aload_n (am_dg dkX10_calls (i := 0) rfl) rfl ?_
  refine aq_bipush (v := (11 : Int32)) (am_dg dkX10_calls (i := 1) rfl) (by decide) ?_
  obtain ⟨q1, hq2, h⟩ := am_bnd h
  refine aq_virt (a := [.ref 70, .int (11 : Int32)]) (S1 := []) (v1 := .null) (S2 := []) (am_dg dkX10_calls (i := 2) rfl) cv_10_7_9 (am_cls_c sh_70 (by decide)) rfl rfl rfl (Nat.le_of_ble_eq_true rfl) (Nat.le_of_ble_eq_true rfl) (T_X9_began_70 hR (by omega) hq2) rfl ?_
  refine aq_aload_n (am_dg dkX10_calls (i := 3) rfl) rfl ?_
  refine aq_aload_n (am_dg dkX10_calls (i := 4) rfl) rfl ?_
  refine aq_iload_n (am_dg dkX10_calls (i := 5) rfl) rfl ?_
  obtain ⟨q3, hq4, h⟩ := am_bnd h
  refine aq_virt (a := [.ref 3, .ref 70, .int a2]) (S1 := []) (v1 := .int q3.1) (S2 := [.int q3.1]) (am_dg dkX10_calls (i := 6) rfl) cv_10_17_0 (am_cls_c sh_3 (by decide)) rfl rfl rfl (Nat.le_of_ble_eq_true rfl) (Nat.le_of_ble_eq_true rfl) (T_X0_hums_3_70 hR (by omega) hq4) rfl ?_
  refine aq_aload_n (am_dg dkX10_calls (i := 7) rfl) rfl ?_
  refine aq_getI (am_dg dkX10_calls (i := 8) rfl) gk_10_23_70 (by decide) ?_
  refine aq_iadd (am_dg dkX10_calls (i := 9) rfl) ?_
  obtain rfl := Option.some.inj h
  exact aq_ireturn (am_dg dkX10_calls (i := 10) rfl) rfl (Or.inl rfl) rfl
set_option maxRecDepth 20000 in
theorem T_X10_calls_4_70 {sc : Option (Nat × (Nat → Int32))} {RF : Nat → Nat → Option Nat} {d : Nat} (hR : am_RFok RF) (hd : 2 ≤ d) {a2 : Int32} {s : am_S} {r : Int32 × am_S} (h : F_X10_calls_4_70 a2 s = some r) : am_Q sc d mX10_calls (0, am_L0 mX10_calls [.ref 4, .ref 70, .int a2], [], am_hp RF s) (.int r.1, am_hp RF r.2) := by
  obtain ⟨e, rfl⟩ : ∃ e, d = e + 1 := ⟨d - 1, by omega⟩
  unfold F_X10_calls_4_70 at h
  show am_Q _ _ _ (0, [.ref 4, .ref 70, .int a2], [], _) _
  refine aq_aload_n (am_dg dkX10_calls (i := 0) rfl) rfl ?_
  refine aq_bipush (v := (11 : Int32)) (am_dg dkX10_calls (i := 1) rfl) (by decide) ?_
  obtain ⟨q1, hq2, h⟩ := am_bnd h
  refine aq_virt (a := [.ref 70, .int (11 : Int32)]) (S1 := []) (v1 := .null) (S2 := []) (am_dg dkX10_calls (i := 2) rfl) cv_10_7_9 (am_cls_c sh_70 (by decide)) rfl rfl rfl (Nat.le_of_ble_eq_true rfl) (Nat.le_of_ble_eq_true rfl) (T_X9_began_70 hR (by omega) hq2) rfl ?_
  refine aq_aload_n (am_dg dkX10_calls (i := 3) rfl) rfl ?_
  refine aq_aload_n (am_dg dkX10_calls (i := 4) rfl) rfl ?_
  refine aq_iload_n (am_dg dkX10_calls (i := 5) rfl) rfl ?_
  obtain ⟨q3, hq4, h⟩ := am_bnd h
  refine aq_virt (a := [.ref 4, .ref 70, .int a2]) (S1 := []) (v1 := .int q3.1) (S2 := [.int q3.1]) (am_dg dkX10_calls (i := 6) rfl) cv_10_17_5 (am_cls_c sh_4 (by decide)) rfl rfl rfl (Nat.le_of_ble_eq_true rfl) (Nat.le_of_ble_eq_true rfl) (T_X10_hums_4_70 hR (by omega) hq4) rfl ?_
  refine aq_aload_n (am_dg dkX10_calls (i := 7) rfl) rfl ?_
  refine aq_getI (am_dg dkX10_calls (i := 8) rfl) gk_10_23_70 (by decide) ?_
  refine aq_iadd (am_dg dkX10_calls (i := 9) rfl) ?_
  obtain rfl := Option.some.inj h
  exact aq_ireturn (am_dg dkX10_calls (i := 10) rfl) rfl (Or.inl rfl) rfl
set_option maxRecDepth 20000 in
theorem T_X5_calls_4_70 {sc : Option (Nat × (Nat → Int32))} {RF : Nat → Nat → Option Nat} {d : Nat} (hR : am_RFok RF) (hd : 3 ≤ d) {a2 : Int32} {s : am_S} {r : Int32 × am_S} (h : F_X5_calls_4_70 a2 s = some r) : am_Q sc d mX5_calls (0, am_L0 mX5_calls [.ref 4, .ref 70, .int a2], [], am_hp RF s) (.int r.1, am_hp RF r.2) := by
  obtain ⟨e, rfl⟩ : ∃ e, d = e + 1 := ⟨d - 1, by omega⟩
  unfold F_X5_calls_4_70 at h
  show am_Q _ _ _ (0, [.ref 4, .ref 70, .int a2], [], _) _
  refine aq_aload_n (am_dg dkX5_calls (i := 0) rfl) rfl ?_
  refine aq_bipush (v := (30 : Int32)) (am_dg dkX5_calls (i := 1) rfl) (by decide) ?_
  obtain ⟨q1, hq2, h⟩ := am_bnd h
  refine aq_virt (a := [.ref 70, .int (30 : Int32)]) (S1 := []) (v1 := .null) (S2 := []) (am_dg dkX5_calls (i := 2) rfl) cv_5_20_9 (am_cls_c sh_70 (by decide)) rfl rfl rfl (Nat.le_of_ble_eq_true rfl) (Nat.le_of_ble_eq_true rfl) (T_X9_began_70 hR (by omega) hq2) rfl ?_
  refine aq_iconst (v := (0 : Int32)) (am_dg dkX5_calls (i := 3) rfl) (by decide) ?_
  refine aq_aload_n (am_dg dkX5_calls (i := 4) rfl) rfl ?_
  refine aq_aload_n (am_dg dkX5_calls (i := 5) rfl) rfl ?_
  refine aq_iload_n (am_dg dkX5_calls (i := 6) rfl) rfl ?_
  obtain ⟨q3, hq4, h⟩ := am_bnd h
  refine aq_spec (a := [.ref 4, .ref 70, .int a2]) (S1 := [.int (0 : Int32)]) (v1 := .int q3.1) (S2 := [.int q3.1, .int (0 : Int32)]) (am_dg dkX5_calls (i := 7) rfl) cp_5_26 sh_4 (by decide) rfl rfl rfl (Nat.le_of_ble_eq_true rfl) (Nat.le_of_ble_eq_true rfl) (T_X10_calls_4_70 hR (by omega) hq4) rfl ?_
  refine aq_isub (am_dg dkX5_calls (i := 8) rfl) ?_
  obtain rfl := Option.some.inj h
  exact aq_ireturn (am_dg dkX5_calls (i := 9) rfl) rfl (Or.inl rfl) rfl
set_option maxRecDepth 20000 in
theorem T_X10_calls_5_70 {sc : Option (Nat × (Nat → Int32))} {RF : Nat → Nat → Option Nat} {d : Nat} (hR : am_RFok RF) (hd : 3 ≤ d) {a2 : Int32} {s : am_S} {r : Int32 × am_S} (h : F_X10_calls_5_70 a2 s = some r) : am_Q sc d mX10_calls (0, am_L0 mX10_calls [.ref 5, .ref 70, .int a2], [], am_hp RF s) (.int r.1, am_hp RF r.2) := by
  obtain ⟨e, rfl⟩ : ∃ e, d = e + 1 := ⟨d - 1, by omega⟩
  unfold F_X10_calls_5_70 at h
  show am_Q _ _ _ (0, [.ref 5, .ref 70, .int a2], [], _) _
  refine aq_aload_n (am_dg dkX10_calls (i := 0) rfl) rfl ?_
  refine aq_bipush (v := (11 : Int32)) (am_dg dkX10_calls (i := 1) rfl) (by decide) ?_
  obtain ⟨q1, hq2, h⟩ := am_bnd h
  refine aq_virt (a := [.ref 70, .int (11 : Int32)]) (S1 := []) (v1 := .null) (S2 := []) (am_dg dkX10_calls (i := 2) rfl) cv_10_7_9 (am_cls_c sh_70 (by decide)) rfl rfl rfl (Nat.le_of_ble_eq_true rfl) (Nat.le_of_ble_eq_true rfl) (T_X9_began_70 hR (by omega) hq2) rfl ?_
  refine aq_aload_n (am_dg dkX10_calls (i := 3) rfl) rfl ?_
  refine aq_aload_n (am_dg dkX10_calls (i := 4) rfl) rfl ?_
  refine aq_iload_n (am_dg dkX10_calls (i := 5) rfl) rfl ?_
  obtain ⟨q3, hq4, h⟩ := am_bnd h
  refine aq_virt (a := [.ref 5, .ref 70, .int a2]) (S1 := []) (v1 := .int q3.1) (S2 := [.int q3.1]) (am_dg dkX10_calls (i := 6) rfl) cv_10_17_4 (am_cls_c sh_5 (by decide)) rfl rfl rfl (Nat.le_of_ble_eq_true rfl) (Nat.le_of_ble_eq_true rfl) (T_X4_hums_5_70 hR (by omega) hq4) rfl ?_
  refine aq_aload_n (am_dg dkX10_calls (i := 7) rfl) rfl ?_
  refine aq_getI (am_dg dkX10_calls (i := 8) rfl) gk_10_23_70 (by decide) ?_
  refine aq_iadd (am_dg dkX10_calls (i := 9) rfl) ?_
  obtain rfl := Option.some.inj h
  exact aq_ireturn (am_dg dkX10_calls (i := 10) rfl) rfl (Or.inl rfl) rfl
set_option maxRecDepth 20000 in
theorem T_X5_calls_5_70 {sc : Option (Nat × (Nat → Int32))} {RF : Nat → Nat → Option Nat} {d : Nat} (hR : am_RFok RF) (hd : 4 ≤ d) {a2 : Int32} {s : am_S} {r : Int32 × am_S} (h : F_X5_calls_5_70 a2 s = some r) : am_Q sc d mX5_calls (0, am_L0 mX5_calls [.ref 5, .ref 70, .int a2], [], am_hp RF s) (.int r.1, am_hp RF r.2) := by
  obtain ⟨e, rfl⟩ : ∃ e, d = e + 1 := ⟨d - 1, by omega⟩
  unfold F_X5_calls_5_70 at h
  show am_Q _ _ _ (0, [.ref 5, .ref 70, .int a2], [], _) _
  refine aq_aload_n (am_dg dkX5_calls (i := 0) rfl) rfl ?_
  refine aq_bipush (v := (30 : Int32)) (am_dg dkX5_calls (i := 1) rfl) (by decide) ?_
  obtain ⟨q1, hq2, h⟩ := am_bnd h
  refine aq_virt (a := [.ref 70, .int (30 : Int32)]) (S1 := []) (v1 := .null) (S2 := []) (am_dg dkX5_calls (i := 2) rfl) cv_5_20_9 (am_cls_c sh_70 (by decide)) rfl rfl rfl (Nat.le_of_ble_eq_true rfl) (Nat.le_of_ble_eq_true rfl) (T_X9_began_70 hR (by omega) hq2) rfl ?_
  refine aq_iconst (v := (0 : Int32)) (am_dg dkX5_calls (i := 3) rfl) (by decide) ?_
  refine aq_aload_n (am_dg dkX5_calls (i := 4) rfl) rfl ?_
  refine aq_aload_n (am_dg dkX5_calls (i := 5) rfl) rfl ?_
  refine aq_iload_n (am_dg dkX5_calls (i := 6) rfl) rfl ?_
  obtain ⟨q3, hq4, h⟩ := am_bnd h
  refine aq_spec (a := [.ref 5, .ref 70, .int a2]) (S1 := [.int (0 : Int32)]) (v1 := .int q3.1) (S2 := [.int q3.1, .int (0 : Int32)]) (am_dg dkX5_calls (i := 7) rfl) cp_5_26 sh_5 (by decide) rfl rfl rfl (Nat.le_of_ble_eq_true rfl) (Nat.le_of_ble_eq_true rfl) (T_X10_calls_5_70 hR (by omega) hq4) rfl ?_
  refine aq_isub (am_dg dkX5_calls (i := 8) rfl) ?_
  obtain rfl := Option.some.inj h
  exact aq_ireturn (am_dg dkX5_calls (i := 9) rfl) rfl (Or.inl rfl) rfl
set_option maxRecDepth 20000 in
theorem T_X10_calls_6_70 {sc : Option (Nat × (Nat → Int32))} {RF : Nat → Nat → Option Nat} {d : Nat} (hR : am_RFok RF) (hd : 2 ≤ d) {a2 : Int32} {s : am_S} {r : Int32 × am_S} (h : F_X10_calls_6_70 a2 s = some r) : am_Q sc d mX10_calls (0, am_L0 mX10_calls [.ref 6, .ref 70, .int a2], [], am_hp RF s) (.int r.1, am_hp RF r.2) := by
  obtain ⟨e, rfl⟩ : ∃ e, d = e + 1 := ⟨d - 1, by omega⟩
  unfold F_X10_calls_6_70 at h
  show am_Q _ _ _ (0, [.ref 6, .ref 70, .int a2], [], _) _
  refine aq_aload_n (am_dg dkX10_calls (i := 0) rfl) rfl ?_
  refine aq_bipush (v := (11 : Int32)) (am_dg dkX10_calls (i := 1) rfl) (by decide) ?_
  obtain ⟨q1, hq2, h⟩ := am_bnd h
  refine aq_virt (a := [.ref 70, .int (11 : Int32)]) (S1 := []) (v1 := .null) (S2 := []) (am_dg dkX10_calls (i := 2) rfl) cv_10_7_9 (am_cls_c sh_70 (by decide)) rfl rfl rfl (Nat.le_of_ble_eq_true rfl) (Nat.le_of_ble_eq_true rfl) (T_X9_began_70 hR (by omega) hq2) rfl ?_
  refine aq_aload_n (am_dg dkX10_calls (i := 3) rfl) rfl ?_
  refine aq_aload_n (am_dg dkX10_calls (i := 4) rfl) rfl ?_
  refine aq_iload_n (am_dg dkX10_calls (i := 5) rfl) rfl ?_
  obtain ⟨q3, hq4, h⟩ := am_bnd h
  refine aq_virt (a := [.ref 6, .ref 70, .int a2]) (S1 := []) (v1 := .int q3.1) (S2 := [.int q3.1]) (am_dg dkX10_calls (i := 6) rfl) cv_10_17_1 (am_cls_c sh_6 (by decide)) rfl rfl rfl (Nat.le_of_ble_eq_true rfl) (Nat.le_of_ble_eq_true rfl) (T_X10_hums_6_70 hR (by omega) hq4) rfl ?_
  refine aq_aload_n (am_dg dkX10_calls (i := 7) rfl) rfl ?_
  refine aq_getI (am_dg dkX10_calls (i := 8) rfl) gk_10_23_70 (by decide) ?_
  refine aq_iadd (am_dg dkX10_calls (i := 9) rfl) ?_
  obtain rfl := Option.some.inj h
  exact aq_ireturn (am_dg dkX10_calls (i := 10) rfl) rfl (Or.inl rfl) rfl
set_option maxRecDepth 20000 in
theorem T_X10_calls_7_70 {sc : Option (Nat × (Nat → Int32))} {RF : Nat → Nat → Option Nat} {d : Nat} (hR : am_RFok RF) (hd : 2 ≤ d) {a2 : Int32} {s : am_S} {r : Int32 × am_S} (h : F_X10_calls_7_70 a2 s = some r) : am_Q sc d mX10_calls (0, am_L0 mX10_calls [.ref 7, .ref 70, .int a2], [], am_hp RF s) (.int r.1, am_hp RF r.2) := by
  obtain ⟨e, rfl⟩ : ∃ e, d = e + 1 := ⟨d - 1, by omega⟩
  unfold F_X10_calls_7_70 at h
  show am_Q _ _ _ (0, [.ref 7, .ref 70, .int a2], [], _) _
  refine aq_aload_n (am_dg dkX10_calls (i := 0) rfl) rfl ?_
  refine aq_bipush (v := (11 : Int32)) (am_dg dkX10_calls (i := 1) rfl) (by decide) ?_
  obtain ⟨q1, hq2, h⟩ := am_bnd h
  refine aq_virt (a := [.ref 70, .int (11 : Int32)]) (S1 := []) (v1 := .null) (S2 := []) (am_dg dkX10_calls (i := 2) rfl) cv_10_7_9 (am_cls_c sh_70 (by decide)) rfl rfl rfl (Nat.le_of_ble_eq_true rfl) (Nat.le_of_ble_eq_true rfl) (T_X9_began_70 hR (by omega) hq2) rfl ?_
  refine aq_aload_n (am_dg dkX10_calls (i := 3) rfl) rfl ?_
  refine aq_aload_n (am_dg dkX10_calls (i := 4) rfl) rfl ?_
  refine aq_iload_n (am_dg dkX10_calls (i := 5) rfl) rfl ?_
  obtain ⟨q3, hq4, h⟩ := am_bnd h
  refine aq_virt (a := [.ref 7, .ref 70, .int a2]) (S1 := []) (v1 := .int q3.1) (S2 := [.int q3.1]) (am_dg dkX10_calls (i := 6) rfl) cv_10_17_2 (am_cls_c sh_7 (by decide)) rfl rfl rfl (Nat.le_of_ble_eq_true rfl) (Nat.le_of_ble_eq_true rfl) (T_X10_hums_7_70 hR (by omega) hq4) rfl ?_
  refine aq_aload_n (am_dg dkX10_calls (i := 7) rfl) rfl ?_
  refine aq_getI (am_dg dkX10_calls (i := 8) rfl) gk_10_23_70 (by decide) ?_
  refine aq_iadd (am_dg dkX10_calls (i := 9) rfl) ?_
  obtain rfl := Option.some.inj h
  exact aq_ireturn (am_dg dkX10_calls (i := 10) rfl) rfl (Or.inl rfl) rfl
set_option maxRecDepth 20000 in
theorem T_X2_calls_7_70 {sc : Option (Nat × (Nat → Int32))} {RF : Nat → Nat → Option Nat} {d : Nat} (hR : am_RFok RF) (hd : 3 ≤ d) {a2 : Int32} {s : am_S} {r : Int32 × am_S} (h : F_X2_calls_7_70 a2 s = some r) : am_Q sc d mX2_calls (0, am_L0 mX2_calls [.ref 7, .ref 70, .int a2], [], am_hp RF s) (.int r.1, am_hp RF r.2) := by
  obtain ⟨e, rfl⟩ : ∃ e, d = e + 1 := ⟨d - 1, by omega⟩
  unfold F_X2_calls_7_70 at h
  show am_Q _ _ _ (0, [.ref 7, .ref 70, .int a2], [], _) _
  refine aq_aload_n (am_dg dkX2_calls (i := 0) rfl) rfl ?_
  refine aq_bipush (v := (60 : Int32)) (am_dg dkX2_calls (i := 1) rfl) (by decide) ?_
  obtain ⟨q1, hq2, h⟩ := am_bnd h
  refine aq_virt (a := [.ref 70, .int (60 : Int32)]) (S1 := []) (v1 := .null) (S2 := []) (am_dg dkX2_calls (i := 2) rfl) cv_2_15_9 (am_cls_c sh_70 (by decide)) rfl rfl rfl (Nat.le_of_ble_eq_true rfl) (Nat.le_of_ble_eq_true rfl) (T_X9_began_70 hR (by omega) hq2) rfl ?_
  refine aq_aload_n (am_dg dkX2_calls (i := 3) rfl) rfl ?_
  refine aq_aload_n (am_dg dkX2_calls (i := 4) rfl) rfl ?_
  refine aq_iload_n (am_dg dkX2_calls (i := 5) rfl) rfl ?_
  obtain ⟨q3, hq4, h⟩ := am_bnd h
  refine aq_spec (a := [.ref 7, .ref 70, .int a2]) (S1 := []) (v1 := .int q3.1) (S2 := [.int q3.1]) (am_dg dkX2_calls (i := 6) rfl) cp_2_21 sh_7 (by decide) rfl rfl rfl (Nat.le_of_ble_eq_true rfl) (Nat.le_of_ble_eq_true rfl) (T_X10_calls_7_70 hR (by omega) hq4) rfl ?_
  refine aq_bipush (v := (9 : Int32)) (am_dg dkX2_calls (i := 7) rfl) (by decide) ?_
  refine aq_ixor (am_dg dkX2_calls (i := 8) rfl) ?_
  obtain rfl := Option.some.inj h
  exact aq_ireturn (am_dg dkX2_calls (i := 9) rfl) rfl (Or.inl rfl) rfl
set_option maxRecDepth 20000 in
theorem T_X10_parts_2_70 {sc : Option (Nat × (Nat → Int32))} {RF : Nat → Nat → Option Nat} {d : Nat} (hR : am_RFok RF) (hd : 1 ≤ d) {a2 : Int32} {s : am_S} {r : Int32 × am_S} (h : F_X10_parts_2_70 a2 s = some r) : am_Q sc d mX10_parts (0, am_L0 mX10_parts [.ref 2, .ref 70, .int a2], [], am_hp RF s) (.int r.1, am_hp RF r.2) := by
  obtain ⟨e, rfl⟩ : ∃ e, d = e + 1 := ⟨d - 1, by omega⟩
  unfold F_X10_parts_2_70 at h
  show am_Q _ _ _ (0, [.ref 2, .ref 70, .int a2, .null], [], _) _
  refine aq_aload_n (am_dg dkX10_parts (i := 0) rfl) rfl ?_
  refine aq_bipush (v := (12 : Int32)) (am_dg dkX10_parts (i := 1) rfl) (by decide) ?_
  obtain ⟨q1, hq2, h⟩ := am_bnd h
  refine aq_virt (a := [.ref 70, .int (12 : Int32)]) (S1 := []) (v1 := .null) (S2 := []) (am_dg dkX10_parts (i := 2) rfl) cv_10_7_9 (am_cls_c sh_70 (by decide)) rfl rfl rfl (Nat.le_of_ble_eq_true rfl) (Nat.le_of_ble_eq_true rfl) (T_X9_began_70 hR (by omega) hq2) rfl ?_
  refine aq_aload_n (am_dg dkX10_parts (i := 3) rfl) rfl ?_
  refine aq_getI (am_dg dkX10_parts (i := 4) rfl) gk_10_13_70 (by decide) ?_
  refine aq_aload_n (am_dg dkX10_parts (i := 5) rfl) rfl ?_
  refine aq_getI (am_dg dkX10_parts (i := 6) rfl) gk_10_23_70 (by decide) ?_
  refine aq_isub (am_dg dkX10_parts (i := 7) rfl) ?_
  refine aq_istore_n (L1 := [.ref 2, .ref 70, .int a2, .int ((q1.1 70 0) - (q1.1 70 1))]) (am_dg dkX10_parts (i := 8) rfl) rfl ?_
  refine aq_iload_n (am_dg dkX10_parts (i := 9) rfl) rfl ?_
  by_cases hc3 : ((q1.1 70 0) - (q1.1 70 1)) = (0 : Int32)
  · rw [if_pos hc3] at h
    refine aq_ifF (t := 27) (am_dg dkX10_parts (i := 10) rfl) rfl (decide_eq_false (not_not_intro hc3)) ?_
    refine aq_aload_n (am_dg dkX10_parts (i := 11) rfl) rfl ?_
    refine aq_iconst (v := (1 : Int32)) (am_dg dkX10_parts (i := 12) rfl) (by decide) ?_
    refine aq_putZ (am_dg dkX10_parts (i := 13) rfl) gk_10_26_70 (by decide) ?_
    obtain ⟨s4, hs5, h⟩ := am_bnd h
    rw [Option.some.inj hs5]
    refine aq_iconst (v := (0 : Int32)) (am_dg dkX10_parts (i := 14) rfl) (by decide) ?_
    obtain rfl := Option.some.inj h
    exact aq_ireturn (am_dg dkX10_parts (i := 15) rfl) rfl (Or.inl rfl) rfl
  · rw [if_neg hc3] at h
    refine aq_ifT (t := 27) (am_dg dkX10_parts (i := 10) rfl) rfl (decide_eq_true hc3) ?_
    refine aq_iload_n (am_dg dkX10_parts (i := 16) rfl) rfl ?_
    refine aq_iload_n (am_dg dkX10_parts (i := 17) rfl) rfl ?_
    obtain ⟨hg6, h⟩ := am_guard h
    refine aq_idiv (am_dg dkX10_parts (i := 18) rfl) hg6 ?_
    obtain rfl := Option.some.inj h
    exact aq_ireturn (am_dg dkX10_parts (i := 19) rfl) rfl (Or.inl rfl) rfl
set_option maxRecDepth 20000 in
theorem T_X10_parts_3_70 {sc : Option (Nat × (Nat → Int32))} {RF : Nat → Nat → Option Nat} {d : Nat} (hR : am_RFok RF) (hd : 1 ≤ d) {a2 : Int32} {s : am_S} {r : Int32 × am_S} (h : F_X10_parts_3_70 a2 s = some r) : am_Q sc d mX10_parts (0, am_L0 mX10_parts [.ref 3, .ref 70, .int a2], [], am_hp RF s) (.int r.1, am_hp RF r.2) := by
  obtain ⟨e, rfl⟩ : ∃ e, d = e + 1 := ⟨d - 1, by omega⟩
  unfold F_X10_parts_3_70 at h
  show am_Q _ _ _ (0, [.ref 3, .ref 70, .int a2, .null], [], _) _
  refine aq_aload_n (am_dg dkX10_parts (i := 0) rfl) rfl ?_
  refine aq_bipush (v := (12 : Int32)) (am_dg dkX10_parts (i := 1) rfl) (by decide) ?_
  obtain ⟨q1, hq2, h⟩ := am_bnd h
  refine aq_virt (a := [.ref 70, .int (12 : Int32)]) (S1 := []) (v1 := .null) (S2 := []) (am_dg dkX10_parts (i := 2) rfl) cv_10_7_9 (am_cls_c sh_70 (by decide)) rfl rfl rfl (Nat.le_of_ble_eq_true rfl) (Nat.le_of_ble_eq_true rfl) (T_X9_began_70 hR (by omega) hq2) rfl ?_
  refine aq_aload_n (am_dg dkX10_parts (i := 3) rfl) rfl ?_
  refine aq_getI (am_dg dkX10_parts (i := 4) rfl) gk_10_13_70 (by decide) ?_
  refine aq_aload_n (am_dg dkX10_parts (i := 5) rfl) rfl ?_
  refine aq_getI (am_dg dkX10_parts (i := 6) rfl) gk_10_23_70 (by decide) ?_
  refine aq_isub (am_dg dkX10_parts (i := 7) rfl) ?_
  refine aq_istore_n (L1 := [.ref 3, .ref 70, .int a2, .int ((q1.1 70 0) - (q1.1 70 1))]) (am_dg dkX10_parts (i := 8) rfl) rfl ?_
  refine aq_iload_n (am_dg dkX10_parts (i := 9) rfl) rfl ?_
  by_cases hc3 : ((q1.1 70 0) - (q1.1 70 1)) = (0 : Int32)
  · rw [if_pos hc3] at h
    refine aq_ifF (t := 27) (am_dg dkX10_parts (i := 10) rfl) rfl (decide_eq_false (not_not_intro hc3)) ?_
    refine aq_aload_n (am_dg dkX10_parts (i := 11) rfl) rfl ?_
    refine aq_iconst (v := (1 : Int32)) (am_dg dkX10_parts (i := 12) rfl) (by decide) ?_
    refine aq_putZ (am_dg dkX10_parts (i := 13) rfl) gk_10_26_70 (by decide) ?_
    obtain ⟨s4, hs5, h⟩ := am_bnd h
    rw [Option.some.inj hs5]
    refine aq_iconst (v := (0 : Int32)) (am_dg dkX10_parts (i := 14) rfl) (by decide) ?_
    obtain rfl := Option.some.inj h
    exact aq_ireturn (am_dg dkX10_parts (i := 15) rfl) rfl (Or.inl rfl) rfl
  · rw [if_neg hc3] at h
    refine aq_ifT (t := 27) (am_dg dkX10_parts (i := 10) rfl) rfl (decide_eq_true hc3) ?_
    refine aq_iload_n (am_dg dkX10_parts (i := 16) rfl) rfl ?_
    refine aq_iload_n (am_dg dkX10_parts (i := 17) rfl) rfl ?_
    obtain ⟨hg6, h⟩ := am_guard h
    refine aq_idiv (am_dg dkX10_parts (i := 18) rfl) hg6 ?_
    obtain rfl := Option.some.inj h
    exact aq_ireturn (am_dg dkX10_parts (i := 19) rfl) rfl (Or.inl rfl) rfl
set_option maxRecDepth 20000 in
theorem T_X10_parts_4_70 {sc : Option (Nat × (Nat → Int32))} {RF : Nat → Nat → Option Nat} {d : Nat} (hR : am_RFok RF) (hd : 1 ≤ d) {a2 : Int32} {s : am_S} {r : Int32 × am_S} (h : F_X10_parts_4_70 a2 s = some r) : am_Q sc d mX10_parts (0, am_L0 mX10_parts [.ref 4, .ref 70, .int a2], [], am_hp RF s) (.int r.1, am_hp RF r.2) := by
  obtain ⟨e, rfl⟩ : ∃ e, d = e + 1 := ⟨d - 1, by omega⟩
  unfold F_X10_parts_4_70 at h
  show am_Q _ _ _ (0, [.ref 4, .ref 70, .int a2, .null], [], _) _
  refine aq_aload_n (am_dg dkX10_parts (i := 0) rfl) rfl ?_
  refine aq_bipush (v := (12 : Int32)) (am_dg dkX10_parts (i := 1) rfl) (by decide) ?_
  obtain ⟨q1, hq2, h⟩ := am_bnd h
  refine aq_virt (a := [.ref 70, .int (12 : Int32)]) (S1 := []) (v1 := .null) (S2 := []) (am_dg dkX10_parts (i := 2) rfl) cv_10_7_9 (am_cls_c sh_70 (by decide)) rfl rfl rfl (Nat.le_of_ble_eq_true rfl) (Nat.le_of_ble_eq_true rfl) (T_X9_began_70 hR (by omega) hq2) rfl ?_
  refine aq_aload_n (am_dg dkX10_parts (i := 3) rfl) rfl ?_
  refine aq_getI (am_dg dkX10_parts (i := 4) rfl) gk_10_13_70 (by decide) ?_
  refine aq_aload_n (am_dg dkX10_parts (i := 5) rfl) rfl ?_
  refine aq_getI (am_dg dkX10_parts (i := 6) rfl) gk_10_23_70 (by decide) ?_
  refine aq_isub (am_dg dkX10_parts (i := 7) rfl) ?_
  refine aq_istore_n (L1 := [.ref 4, .ref 70, .int a2, .int ((q1.1 70 0) - (q1.1 70 1))]) (am_dg dkX10_parts (i := 8) rfl) rfl ?_
  refine aq_iload_n (am_dg dkX10_parts (i := 9) rfl) rfl ?_
  by_cases hc3 : ((q1.1 70 0) - (q1.1 70 1)) = (0 : Int32)
  · rw [if_pos hc3] at h
    refine aq_ifF (t := 27) (am_dg dkX10_parts (i := 10) rfl) rfl (decide_eq_false (not_not_intro hc3)) ?_
    refine aq_aload_n (am_dg dkX10_parts (i := 11) rfl) rfl ?_
    refine aq_iconst (v := (1 : Int32)) (am_dg dkX10_parts (i := 12) rfl) (by decide) ?_
    refine aq_putZ (am_dg dkX10_parts (i := 13) rfl) gk_10_26_70 (by decide) ?_
    obtain ⟨s4, hs5, h⟩ := am_bnd h
    rw [Option.some.inj hs5]
    refine aq_iconst (v := (0 : Int32)) (am_dg dkX10_parts (i := 14) rfl) (by decide) ?_
    obtain rfl := Option.some.inj h
    exact aq_ireturn (am_dg dkX10_parts (i := 15) rfl) rfl (Or.inl rfl) rfl
  · rw [if_neg hc3] at h
    refine aq_ifT (t := 27) (am_dg dkX10_parts (i := 10) rfl) rfl (decide_eq_true hc3) ?_
    refine aq_iload_n (am_dg dkX10_parts (i := 16) rfl) rfl ?_
    refine aq_iload_n (am_dg dkX10_parts (i := 17) rfl) rfl ?_
    obtain ⟨hg6, h⟩ := am_guard h
    refine aq_idiv (am_dg dkX10_parts (i := 18) rfl) hg6 ?_
    obtain rfl := Option.some.inj h
    exact aq_ireturn (am_dg dkX10_parts (i := 19) rfl) rfl (Or.inl rfl) rfl
set_option maxRecDepth 20000 in
theorem T_X10_parts_5_70 {sc : Option (Nat × (Nat → Int32))} {RF : Nat → Nat → Option Nat} {d : Nat} (hR : am_RFok RF) (hd : 1 ≤ d) {a2 : Int32} {s : am_S} {r : Int32 × am_S} (h : F_X10_parts_5_70 a2 s = some r) : am_Q sc d mX10_parts (0, am_L0 mX10_parts [.ref 5, .ref 70, .int a2], [], am_hp RF s) (.int r.1, am_hp RF r.2) := by
  obtain ⟨e, rfl⟩ : ∃ e, d = e + 1 := ⟨d - 1, by omega⟩
  unfold F_X10_parts_5_70 at h
  show am_Q _ _ _ (0, [.ref 5, .ref 70, .int a2, .null], [], _) _
  refine aq_aload_n (am_dg dkX10_parts (i := 0) rfl) rfl ?_
  refine aq_bipush (v := (12 : Int32)) (am_dg dkX10_parts (i := 1) rfl) (by decide) ?_
  obtain ⟨q1, hq2, h⟩ := am_bnd h
  refine aq_virt (a := [.ref 70, .int (12 : Int32)]) (S1 := []) (v1 := .null) (S2 := []) (am_dg dkX10_parts (i := 2) rfl) cv_10_7_9 (am_cls_c sh_70 (by decide)) rfl rfl rfl (Nat.le_of_ble_eq_true rfl) (Nat.le_of_ble_eq_true rfl) (T_X9_began_70 hR (by omega) hq2) rfl ?_
  refine aq_aload_n (am_dg dkX10_parts (i := 3) rfl) rfl ?_
  refine aq_getI (am_dg dkX10_parts (i := 4) rfl) gk_10_13_70 (by decide) ?_
  refine aq_aload_n (am_dg dkX10_parts (i := 5) rfl) rfl ?_
  refine aq_getI (am_dg dkX10_parts (i := 6) rfl) gk_10_23_70 (by decide) ?_
  refine aq_isub (am_dg dkX10_parts (i := 7) rfl) ?_
  refine aq_istore_n (L1 := [.ref 5, .ref 70, .int a2, .int ((q1.1 70 0) - (q1.1 70 1))]) (am_dg dkX10_parts (i := 8) rfl) rfl ?_
  refine aq_iload_n (am_dg dkX10_parts (i := 9) rfl) rfl ?_
  by_cases hc3 : ((q1.1 70 0) - (q1.1 70 1)) = (0 : Int32)
  · rw [if_pos hc3] at h
    refine aq_ifF (t := 27) (am_dg dkX10_parts (i := 10) rfl) rfl (decide_eq_false (not_not_intro hc3)) ?_
    refine aq_aload_n (am_dg dkX10_parts (i := 11) rfl) rfl ?_
    refine aq_iconst (v := (1 : Int32)) (am_dg dkX10_parts (i := 12) rfl) (by decide) ?_
    refine aq_putZ (am_dg dkX10_parts (i := 13) rfl) gk_10_26_70 (by decide) ?_
    obtain ⟨s4, hs5, h⟩ := am_bnd h
    rw [Option.some.inj hs5]
    refine aq_iconst (v := (0 : Int32)) (am_dg dkX10_parts (i := 14) rfl) (by decide) ?_
    obtain rfl := Option.some.inj h
    exact aq_ireturn (am_dg dkX10_parts (i := 15) rfl) rfl (Or.inl rfl) rfl
  · rw [if_neg hc3] at h
    refine aq_ifT (t := 27) (am_dg dkX10_parts (i := 10) rfl) rfl (decide_eq_true hc3) ?_
    refine aq_iload_n (am_dg dkX10_parts (i := 16) rfl) rfl ?_
    refine aq_iload_n (am_dg dkX10_parts (i := 17) rfl) rfl ?_
    obtain ⟨hg6, h⟩ := am_guard h
    refine aq_idiv (am_dg dkX10_parts (i := 18) rfl) hg6 ?_
    obtain rfl := Option.some.inj h
    exact aq_ireturn (am_dg dkX10_parts (i := 19) rfl) rfl (Or.inl rfl) rfl
set_option maxRecDepth 20000 in
theorem T_X10_parts_6_70 {sc : Option (Nat × (Nat → Int32))} {RF : Nat → Nat → Option Nat} {d : Nat} (hR : am_RFok RF) (hd : 1 ≤ d) {a2 : Int32} {s : am_S} {r : Int32 × am_S} (h : F_X10_parts_6_70 a2 s = some r) : am_Q sc d mX10_parts (0, am_L0 mX10_parts [.ref 6, .ref 70, .int a2], [], am_hp RF s) (.int r.1, am_hp RF r.2) := by
  obtain ⟨e, rfl⟩ : ∃ e, d = e + 1 := ⟨d - 1, by omega⟩
  unfold F_X10_parts_6_70 at h
  show am_Q _ _ _ (0, [.ref 6, .ref 70, .int a2, .null], [], _) _
  refine aq_aload_n (am_dg dkX10_parts (i := 0) rfl) rfl ?_
  refine aq_bipush (v := (12 : Int32)) (am_dg dkX10_parts (i := 1) rfl) (by decide) ?_
  obtain ⟨q1, hq2, h⟩ := am_bnd h
  refine aq_virt (a := [.ref 70, .int (12 : Int32)]) (S1 := []) (v1 := .null) (S2 := []) (am_dg dkX10_parts (i := 2) rfl) cv_10_7_9 (am_cls_c sh_70 (by decide)) rfl rfl rfl (Nat.le_of_ble_eq_true rfl) (Nat.le_of_ble_eq_true rfl) (T_X9_began_70 hR (by omega) hq2) rfl ?_
  refine aq_aload_n (am_dg dkX10_parts (i := 3) rfl) rfl ?_
  refine aq_getI (am_dg dkX10_parts (i := 4) rfl) gk_10_13_70 (by decide) ?_
  refine aq_aload_n (am_dg dkX10_parts (i := 5) rfl) rfl ?_
  refine aq_getI (am_dg dkX10_parts (i := 6) rfl) gk_10_23_70 (by decide) ?_
  refine aq_isub (am_dg dkX10_parts (i := 7) rfl) ?_
  refine aq_istore_n (L1 := [.ref 6, .ref 70, .int a2, .int ((q1.1 70 0) - (q1.1 70 1))]) (am_dg dkX10_parts (i := 8) rfl) rfl ?_
  refine aq_iload_n (am_dg dkX10_parts (i := 9) rfl) rfl ?_
  by_cases hc3 : ((q1.1 70 0) - (q1.1 70 1)) = (0 : Int32)
  · rw [if_pos hc3] at h
    refine aq_ifF (t := 27) (am_dg dkX10_parts (i := 10) rfl) rfl (decide_eq_false (not_not_intro hc3)) ?_
    refine aq_aload_n (am_dg dkX10_parts (i := 11) rfl) rfl ?_
    refine aq_iconst (v := (1 : Int32)) (am_dg dkX10_parts (i := 12) rfl) (by decide) ?_
    refine aq_putZ (am_dg dkX10_parts (i := 13) rfl) gk_10_26_70 (by decide) ?_
    obtain ⟨s4, hs5, h⟩ := am_bnd h
    rw [Option.some.inj hs5]
    refine aq_iconst (v := (0 : Int32)) (am_dg dkX10_parts (i := 14) rfl) (by decide) ?_
    obtain rfl := Option.some.inj h
    exact aq_ireturn (am_dg dkX10_parts (i := 15) rfl) rfl (Or.inl rfl) rfl
  · rw [if_neg hc3] at h
    refine aq_ifT (t := 27) (am_dg dkX10_parts (i := 10) rfl) rfl (decide_eq_true hc3) ?_
    refine aq_iload_n (am_dg dkX10_parts (i := 16) rfl) rfl ?_
    refine aq_iload_n (am_dg dkX10_parts (i := 17) rfl) rfl ?_
    obtain ⟨hg6, h⟩ := am_guard h
    refine aq_idiv (am_dg dkX10_parts (i := 18) rfl) hg6 ?_
    obtain rfl := Option.some.inj h
    exact aq_ireturn (am_dg dkX10_parts (i := 19) rfl) rfl (Or.inl rfl) rfl
set_option maxRecDepth 20000 in
theorem T_X1_parts_6_70 {sc : Option (Nat × (Nat → Int32))} {RF : Nat → Nat → Option Nat} {d : Nat} (hR : am_RFok RF) (hd : 2 ≤ d) {a2 : Int32} {s : am_S} {r : Int32 × am_S} (h : F_X1_parts_6_70 a2 s = some r) : am_Q sc d mX1_parts (0, am_L0 mX1_parts [.ref 6, .ref 70, .int a2], [], am_hp RF s) (.int r.1, am_hp RF r.2) := by
  obtain ⟨e, rfl⟩ : ∃ e, d = e + 1 := ⟨d - 1, by omega⟩
  unfold F_X1_parts_6_70 at h
  show am_Q _ _ _ (0, [.ref 6, .ref 70, .int a2], [], _) _
  refine aq_aload_n (am_dg dkX1_parts (i := 0) rfl) rfl ?_
  refine aq_bipush (v := (40 : Int32)) (am_dg dkX1_parts (i := 1) rfl) (by decide) ?_
  obtain ⟨q1, hq2, h⟩ := am_bnd h
  refine aq_virt (a := [.ref 70, .int (40 : Int32)]) (S1 := []) (v1 := .null) (S2 := []) (am_dg dkX1_parts (i := 2) rfl) cv_1_7_9 (am_cls_c sh_70 (by decide)) rfl rfl rfl (Nat.le_of_ble_eq_true rfl) (Nat.le_of_ble_eq_true rfl) (T_X9_began_70 hR (by omega) hq2) rfl ?_
  refine aq_aload_n (am_dg dkX1_parts (i := 3) rfl) rfl ?_
  refine aq_aload_n (am_dg dkX1_parts (i := 4) rfl) rfl ?_
  refine aq_iload_n (am_dg dkX1_parts (i := 5) rfl) rfl ?_
  obtain ⟨q3, hq4, h⟩ := am_bnd h
  refine aq_spec (a := [.ref 6, .ref 70, .int a2]) (S1 := []) (v1 := .int q3.1) (S2 := [.int q3.1]) (am_dg dkX1_parts (i := 6) rfl) cp_1_13 sh_6 (by decide) rfl rfl rfl (Nat.le_of_ble_eq_true rfl) (Nat.le_of_ble_eq_true rfl) (T_X10_parts_6_70 hR (by omega) hq4) rfl ?_
  refine aq_aload_n (am_dg dkX1_parts (i := 7) rfl) rfl ?_
  refine aq_getI (am_dg dkX1_parts (i := 8) rfl) gk_1_17_70 (by decide) ?_
  refine aq_imul (am_dg dkX1_parts (i := 9) rfl) ?_
  obtain rfl := Option.some.inj h
  exact aq_ireturn (am_dg dkX1_parts (i := 10) rfl) rfl (Or.inl rfl) rfl
set_option maxRecDepth 20000 in
theorem T_X10_parts_7_70 {sc : Option (Nat × (Nat → Int32))} {RF : Nat → Nat → Option Nat} {d : Nat} (hR : am_RFok RF) (hd : 1 ≤ d) {a2 : Int32} {s : am_S} {r : Int32 × am_S} (h : F_X10_parts_7_70 a2 s = some r) : am_Q sc d mX10_parts (0, am_L0 mX10_parts [.ref 7, .ref 70, .int a2], [], am_hp RF s) (.int r.1, am_hp RF r.2) := by
  obtain ⟨e, rfl⟩ : ∃ e, d = e + 1 := ⟨d - 1, by omega⟩
  unfold F_X10_parts_7_70 at h
  show am_Q _ _ _ (0, [.ref 7, .ref 70, .int a2, .null], [], _) _
  refine aq_aload_n (am_dg dkX10_parts (i := 0) rfl) rfl ?_
  refine aq_bipush (v := (12 : Int32)) (am_dg dkX10_parts (i := 1) rfl) (by decide) ?_
  obtain ⟨q1, hq2, h⟩ := am_bnd h
  refine aq_virt (a := [.ref 70, .int (12 : Int32)]) (S1 := []) (v1 := .null) (S2 := []) (am_dg dkX10_parts (i := 2) rfl) cv_10_7_9 (am_cls_c sh_70 (by decide)) rfl rfl rfl (Nat.le_of_ble_eq_true rfl) (Nat.le_of_ble_eq_true rfl) (T_X9_began_70 hR (by omega) hq2) rfl ?_
  refine aq_aload_n (am_dg dkX10_parts (i := 3) rfl) rfl ?_
  refine aq_getI (am_dg dkX10_parts (i := 4) rfl) gk_10_13_70 (by decide) ?_
  refine aq_aload_n (am_dg dkX10_parts (i := 5) rfl) rfl ?_
  refine aq_getI (am_dg dkX10_parts (i := 6) rfl) gk_10_23_70 (by decide) ?_
  refine aq_isub (am_dg dkX10_parts (i := 7) rfl) ?_
  refine aq_istore_n (L1 := [.ref 7, .ref 70, .int a2, .int ((q1.1 70 0) - (q1.1 70 1))]) (am_dg dkX10_parts (i := 8) rfl) rfl ?_
  refine aq_iload_n (am_dg dkX10_parts (i := 9) rfl) rfl ?_
  by_cases hc3 : ((q1.1 70 0) - (q1.1 70 1)) = (0 : Int32)
  · rw [if_pos hc3] at h
    refine aq_ifF (t := 27) (am_dg dkX10_parts (i := 10) rfl) rfl (decide_eq_false (not_not_intro hc3)) ?_
    refine aq_aload_n (am_dg dkX10_parts (i := 11) rfl) rfl ?_
    refine aq_iconst (v := (1 : Int32)) (am_dg dkX10_parts (i := 12) rfl) (by decide) ?_
    refine aq_putZ (am_dg dkX10_parts (i := 13) rfl) gk_10_26_70 (by decide) ?_
    obtain ⟨s4, hs5, h⟩ := am_bnd h
    rw [Option.some.inj hs5]
    refine aq_iconst (v := (0 : Int32)) (am_dg dkX10_parts (i := 14) rfl) (by decide) ?_
    obtain rfl := Option.some.inj h
    exact aq_ireturn (am_dg dkX10_parts (i := 15) rfl) rfl (Or.inl rfl) rfl
  · rw [if_neg hc3] at h
    refine aq_ifT (t := 27) (am_dg dkX10_parts (i := 10) rfl) rfl (decide_eq_true hc3) ?_
    refine aq_iload_n (am_dg dkX10_parts (i := 16) rfl) rfl ?_
    refine aq_iload_n (am_dg dkX10_parts (i := 17) rfl) rfl ?_
    obtain ⟨hg6, h⟩ := am_guard h
    refine aq_idiv (am_dg dkX10_parts (i := 18) rfl) hg6 ?_
    obtain rfl := Option.some.inj h
    exact aq_ireturn (am_dg dkX10_parts (i := 19) rfl) rfl (Or.inl rfl) rfl
set_option maxRecDepth 20000 in
theorem T_X1_parts_7_70 {sc : Option (Nat × (Nat → Int32))} {RF : Nat → Nat → Option Nat} {d : Nat} (hR : am_RFok RF) (hd : 2 ≤ d) {a2 : Int32} {s : am_S} {r : Int32 × am_S} (h : F_X1_parts_7_70 a2 s = some r) : am_Q sc d mX1_parts (0, am_L0 mX1_parts [.ref 7, .ref 70, .int a2], [], am_hp RF s) (.int r.1, am_hp RF r.2) := by
  obtain ⟨e, rfl⟩ : ∃ e, d = e + 1 := ⟨d - 1, by omega⟩
  unfold F_X1_parts_7_70 at h
  show am_Q _ _ _ (0, [.ref 7, .ref 70, .int a2], [], _) _
  refine aq_aload_n (am_dg dkX1_parts (i := 0) rfl) rfl ?_
  refine aq_bipush (v := (40 : Int32)) (am_dg dkX1_parts (i := 1) rfl) (by decide) ?_
  obtain ⟨q1, hq2, h⟩ := am_bnd h
  refine aq_virt (a := [.ref 70, .int (40 : Int32)]) (S1 := []) (v1 := .null) (S2 := []) (am_dg dkX1_parts (i := 2) rfl) cv_1_7_9 (am_cls_c sh_70 (by decide)) rfl rfl rfl (Nat.le_of_ble_eq_true rfl) (Nat.le_of_ble_eq_true rfl) (T_X9_began_70 hR (by omega) hq2) rfl ?_
  refine aq_aload_n (am_dg dkX1_parts (i := 3) rfl) rfl ?_
  refine aq_aload_n (am_dg dkX1_parts (i := 4) rfl) rfl ?_
  refine aq_iload_n (am_dg dkX1_parts (i := 5) rfl) rfl ?_
  obtain ⟨q3, hq4, h⟩ := am_bnd h
  refine aq_spec (a := [.ref 7, .ref 70, .int a2]) (S1 := []) (v1 := .int q3.1) (S2 := [.int q3.1]) (am_dg dkX1_parts (i := 6) rfl) cp_1_13 sh_7 (by decide) rfl rfl rfl (Nat.le_of_ble_eq_true rfl) (Nat.le_of_ble_eq_true rfl) (T_X10_parts_7_70 hR (by omega) hq4) rfl ?_
  refine aq_aload_n (am_dg dkX1_parts (i := 7) rfl) rfl ?_
  refine aq_getI (am_dg dkX1_parts (i := 8) rfl) gk_1_17_70 (by decide) ?_
  refine aq_imul (am_dg dkX1_parts (i := 9) rfl) ?_
  obtain rfl := Option.some.inj h
  exact aq_ireturn (am_dg dkX1_parts (i := 10) rfl) rfl (Or.inl rfl) rfl
set_option maxRecDepth 20000 in
theorem T_X2_parts_7_70 {sc : Option (Nat × (Nat → Int32))} {RF : Nat → Nat → Option Nat} {d : Nat} (hR : am_RFok RF) (hd : 3 ≤ d) {a2 : Int32} {s : am_S} {r : Int32 × am_S} (h : F_X2_parts_7_70 a2 s = some r) : am_Q sc d mX2_parts (0, am_L0 mX2_parts [.ref 7, .ref 70, .int a2], [], am_hp RF s) (.int r.1, am_hp RF r.2) := by
  obtain ⟨e, rfl⟩ : ∃ e, d = e + 1 := ⟨d - 1, by omega⟩
  unfold F_X2_parts_7_70 at h
  show am_Q _ _ _ (0, [.ref 7, .ref 70, .int a2], [], _) _
  refine aq_aload_n (am_dg dkX2_parts (i := 0) rfl) rfl ?_
  refine aq_bipush (v := (61 : Int32)) (am_dg dkX2_parts (i := 1) rfl) (by decide) ?_
  obtain ⟨q1, hq2, h⟩ := am_bnd h
  refine aq_virt (a := [.ref 70, .int (61 : Int32)]) (S1 := []) (v1 := .null) (S2 := []) (am_dg dkX2_parts (i := 2) rfl) cv_2_15_9 (am_cls_c sh_70 (by decide)) rfl rfl rfl (Nat.le_of_ble_eq_true rfl) (Nat.le_of_ble_eq_true rfl) (T_X9_began_70 hR (by omega) hq2) rfl ?_
  refine aq_aload_n (am_dg dkX2_parts (i := 3) rfl) rfl ?_
  refine aq_aload_n (am_dg dkX2_parts (i := 4) rfl) rfl ?_
  refine aq_iload_n (am_dg dkX2_parts (i := 5) rfl) rfl ?_
  obtain ⟨q3, hq4, h⟩ := am_bnd h
  refine aq_spec (a := [.ref 7, .ref 70, .int a2]) (S1 := []) (v1 := .int q3.1) (S2 := [.int q3.1]) (am_dg dkX2_parts (i := 6) rfl) cp_2_25 sh_7 (by decide) rfl rfl rfl (Nat.le_of_ble_eq_true rfl) (Nat.le_of_ble_eq_true rfl) (T_X1_parts_7_70 hR (by omega) hq4) rfl ?_
  refine aq_aload_n (am_dg dkX2_parts (i := 7) rfl) rfl ?_
  refine aq_aload_n (am_dg dkX2_parts (i := 8) rfl) rfl ?_
  refine aq_aload_n (am_dg dkX2_parts (i := 9) rfl) rfl ?_
  refine aq_getI (am_dg dkX2_parts (i := 10) rfl) gk_2_28_70 (by decide) ?_
  obtain ⟨q5, hq6, h⟩ := am_bnd h
  refine aq_virt (a := [.ref 7, .ref 70, .int (q3.2.1 70 1)]) (S1 := [.int q3.1]) (v1 := .int q5.1) (S2 := [.int q5.1, .int q3.1]) (am_dg dkX2_parts (i := 11) rfl) cv_2_32_2 (am_cls_c sh_7 (by decide)) rfl rfl rfl (Nat.le_of_ble_eq_true rfl) (Nat.le_of_ble_eq_true rfl) (T_X10_hums_7_70 hR (by omega) hq6) rfl ?_
  refine aq_iadd (am_dg dkX2_parts (i := 12) rfl) ?_
  obtain rfl := Option.some.inj h
  exact aq_ireturn (am_dg dkX2_parts (i := 13) rfl) rfl (Or.inl rfl) rfl
set_option maxRecDepth 20000 in
theorem T_X10_rings_2_70 {sc : Option (Nat × (Nat → Int32))} {RF : Nat → Nat → Option Nat} {d : Nat} (hR : am_RFok RF) (hd : 3 ≤ d) {a2 : Int32} {s : am_S} {r : Int32 × am_S} (h : F_X10_rings_2_70 a2 s = some r) : am_Q sc d mX10_rings (0, am_L0 mX10_rings [.ref 2, .ref 70, .int a2], [], am_hp RF s) (.int r.1, am_hp RF r.2) := by
  obtain ⟨e, rfl⟩ : ∃ e, d = e + 1 := ⟨d - 1, by omega⟩
  unfold F_X10_rings_2_70 at h
  show am_Q _ _ _ (0, [.ref 2, .ref 70, .int a2], [], _) _
  refine aq_aload_n (am_dg dkX10_rings (i := 0) rfl) rfl ?_
  refine aq_bipush (v := (13 : Int32)) (am_dg dkX10_rings (i := 1) rfl) (by decide) ?_
  obtain ⟨q1, hq2, h⟩ := am_bnd h
  refine aq_virt (a := [.ref 70, .int (13 : Int32)]) (S1 := []) (v1 := .null) (S2 := []) (am_dg dkX10_rings (i := 2) rfl) cv_10_7_9 (am_cls_c sh_70 (by decide)) rfl rfl rfl (Nat.le_of_ble_eq_true rfl) (Nat.le_of_ble_eq_true rfl) (T_X9_began_70 hR (by omega) hq2) rfl ?_
  refine aq_aload_n (am_dg dkX10_rings (i := 3) rfl) rfl ?_
  refine aq_aload_n (am_dg dkX10_rings (i := 4) rfl) rfl ?_
  refine aq_iload_n (am_dg dkX10_rings (i := 5) rfl) rfl ?_
  obtain ⟨q3, hq4, h⟩ := am_bnd h
  refine aq_virt (a := [.ref 2, .ref 70, .int a2]) (S1 := []) (v1 := .int q3.1) (S2 := [.int q3.1]) (am_dg dkX10_rings (i := 6) rfl) cv_10_30_10 (am_cls_c sh_2 (by decide)) rfl rfl rfl (Nat.le_of_ble_eq_true rfl) (Nat.le_of_ble_eq_true rfl) (T_X10_calls_2_70 hR (by omega) hq4) rfl ?_
  refine aq_aload_n (am_dg dkX10_rings (i := 7) rfl) rfl ?_
  refine aq_aload_n (am_dg dkX10_rings (i := 8) rfl) rfl ?_
  refine aq_iload_n (am_dg dkX10_rings (i := 9) rfl) rfl ?_
  obtain ⟨q5, hq6, h⟩ := am_bnd h
  refine aq_virt (a := [.ref 2, .ref 70, .int a2]) (S1 := [.int q3.1]) (v1 := .int q5.1) (S2 := [.int q5.1, .int q3.1]) (am_dg dkX10_rings (i := 10) rfl) cv_10_33_10 (am_cls_c sh_2 (by decide)) rfl rfl rfl (Nat.le_of_ble_eq_true rfl) (Nat.le_of_ble_eq_true rfl) (T_X10_parts_2_70 hR (by omega) hq6) rfl ?_
  refine aq_ixor (am_dg dkX10_rings (i := 11) rfl) ?_
  obtain rfl := Option.some.inj h
  exact aq_ireturn (am_dg dkX10_rings (i := 12) rfl) rfl (Or.inl rfl) rfl
set_option maxRecDepth 20000 in
theorem T_X10_rings_3_70 {sc : Option (Nat × (Nat → Int32))} {RF : Nat → Nat → Option Nat} {d : Nat} (hR : am_RFok RF) (hd : 4 ≤ d) {a2 : Int32} {s : am_S} {r : Int32 × am_S} (h : F_X10_rings_3_70 a2 s = some r) : am_Q sc d mX10_rings (0, am_L0 mX10_rings [.ref 3, .ref 70, .int a2], [], am_hp RF s) (.int r.1, am_hp RF r.2) := by
  obtain ⟨e, rfl⟩ : ∃ e, d = e + 1 := ⟨d - 1, by omega⟩
  unfold F_X10_rings_3_70 at h
  show am_Q _ _ _ (0, [.ref 3, .ref 70, .int a2], [], _) _
  refine aq_aload_n (am_dg dkX10_rings (i := 0) rfl) rfl ?_
  refine aq_bipush (v := (13 : Int32)) (am_dg dkX10_rings (i := 1) rfl) (by decide) ?_
  obtain ⟨q1, hq2, h⟩ := am_bnd h
  refine aq_virt (a := [.ref 70, .int (13 : Int32)]) (S1 := []) (v1 := .null) (S2 := []) (am_dg dkX10_rings (i := 2) rfl) cv_10_7_9 (am_cls_c sh_70 (by decide)) rfl rfl rfl (Nat.le_of_ble_eq_true rfl) (Nat.le_of_ble_eq_true rfl) (T_X9_began_70 hR (by omega) hq2) rfl ?_
  refine aq_aload_n (am_dg dkX10_rings (i := 3) rfl) rfl ?_
  refine aq_aload_n (am_dg dkX10_rings (i := 4) rfl) rfl ?_
  refine aq_iload_n (am_dg dkX10_rings (i := 5) rfl) rfl ?_
  obtain ⟨q3, hq4, h⟩ := am_bnd h
  refine aq_virt (a := [.ref 3, .ref 70, .int a2]) (S1 := []) (v1 := .int q3.1) (S2 := [.int q3.1]) (am_dg dkX10_rings (i := 6) rfl) cv_10_30_0 (am_cls_c sh_3 (by decide)) rfl rfl rfl (Nat.le_of_ble_eq_true rfl) (Nat.le_of_ble_eq_true rfl) (T_X10_calls_3_70 hR (by omega) hq4) rfl ?_
  refine aq_aload_n (am_dg dkX10_rings (i := 7) rfl) rfl ?_
  refine aq_aload_n (am_dg dkX10_rings (i := 8) rfl) rfl ?_
  refine aq_iload_n (am_dg dkX10_rings (i := 9) rfl) rfl ?_
  obtain ⟨q5, hq6, h⟩ := am_bnd h
  refine aq_virt (a := [.ref 3, .ref 70, .int a2]) (S1 := [.int q3.1]) (v1 := .int q5.1) (S2 := [.int q5.1, .int q3.1]) (am_dg dkX10_rings (i := 10) rfl) cv_10_33_0 (am_cls_c sh_3 (by decide)) rfl rfl rfl (Nat.le_of_ble_eq_true rfl) (Nat.le_of_ble_eq_true rfl) (T_X10_parts_3_70 hR (by omega) hq6) rfl ?_
  refine aq_ixor (am_dg dkX10_rings (i := 11) rfl) ?_
  obtain rfl := Option.some.inj h
  exact aq_ireturn (am_dg dkX10_rings (i := 12) rfl) rfl (Or.inl rfl) rfl
set_option maxRecDepth 20000 in
theorem T_X10_rings_4_70 {sc : Option (Nat × (Nat → Int32))} {RF : Nat → Nat → Option Nat} {d : Nat} (hR : am_RFok RF) (hd : 4 ≤ d) {a2 : Int32} {s : am_S} {r : Int32 × am_S} (h : F_X10_rings_4_70 a2 s = some r) : am_Q sc d mX10_rings (0, am_L0 mX10_rings [.ref 4, .ref 70, .int a2], [], am_hp RF s) (.int r.1, am_hp RF r.2) := by
  obtain ⟨e, rfl⟩ : ∃ e, d = e + 1 := ⟨d - 1, by omega⟩
  unfold F_X10_rings_4_70 at h
  show am_Q _ _ _ (0, [.ref 4, .ref 70, .int a2], [], _) _
  refine aq_aload_n (am_dg dkX10_rings (i := 0) rfl) rfl ?_
  refine aq_bipush (v := (13 : Int32)) (am_dg dkX10_rings (i := 1) rfl) (by decide) ?_
  obtain ⟨q1, hq2, h⟩ := am_bnd h
  refine aq_virt (a := [.ref 70, .int (13 : Int32)]) (S1 := []) (v1 := .null) (S2 := []) (am_dg dkX10_rings (i := 2) rfl) cv_10_7_9 (am_cls_c sh_70 (by decide)) rfl rfl rfl (Nat.le_of_ble_eq_true rfl) (Nat.le_of_ble_eq_true rfl) (T_X9_began_70 hR (by omega) hq2) rfl ?_
  refine aq_aload_n (am_dg dkX10_rings (i := 3) rfl) rfl ?_
  refine aq_aload_n (am_dg dkX10_rings (i := 4) rfl) rfl ?_
  refine aq_iload_n (am_dg dkX10_rings (i := 5) rfl) rfl ?_
  obtain ⟨q3, hq4, h⟩ := am_bnd h
  refine aq_virt (a := [.ref 4, .ref 70, .int a2]) (S1 := []) (v1 := .int q3.1) (S2 := [.int q3.1]) (am_dg dkX10_rings (i := 6) rfl) cv_10_30_5 (am_cls_c sh_4 (by decide)) rfl rfl rfl (Nat.le_of_ble_eq_true rfl) (Nat.le_of_ble_eq_true rfl) (T_X5_calls_4_70 hR (by omega) hq4) rfl ?_
  refine aq_aload_n (am_dg dkX10_rings (i := 7) rfl) rfl ?_
  refine aq_aload_n (am_dg dkX10_rings (i := 8) rfl) rfl ?_
  refine aq_iload_n (am_dg dkX10_rings (i := 9) rfl) rfl ?_
  obtain ⟨q5, hq6, h⟩ := am_bnd h
  refine aq_virt (a := [.ref 4, .ref 70, .int a2]) (S1 := [.int q3.1]) (v1 := .int q5.1) (S2 := [.int q5.1, .int q3.1]) (am_dg dkX10_rings (i := 10) rfl) cv_10_33_5 (am_cls_c sh_4 (by decide)) rfl rfl rfl (Nat.le_of_ble_eq_true rfl) (Nat.le_of_ble_eq_true rfl) (T_X10_parts_4_70 hR (by omega) hq6) rfl ?_
  refine aq_ixor (am_dg dkX10_rings (i := 11) rfl) ?_
  obtain rfl := Option.some.inj h
  exact aq_ireturn (am_dg dkX10_rings (i := 12) rfl) rfl (Or.inl rfl) rfl
set_option maxRecDepth 20000 in
theorem T_X10_rings_5_70 {sc : Option (Nat × (Nat → Int32))} {RF : Nat → Nat → Option Nat} {d : Nat} (hR : am_RFok RF) (hd : 5 ≤ d) {a2 : Int32} {s : am_S} {r : Int32 × am_S} (h : F_X10_rings_5_70 a2 s = some r) : am_Q sc d mX10_rings (0, am_L0 mX10_rings [.ref 5, .ref 70, .int a2], [], am_hp RF s) (.int r.1, am_hp RF r.2) := by
  obtain ⟨e, rfl⟩ : ∃ e, d = e + 1 := ⟨d - 1, by omega⟩
  unfold F_X10_rings_5_70 at h
  show am_Q _ _ _ (0, [.ref 5, .ref 70, .int a2], [], _) _
  refine aq_aload_n (am_dg dkX10_rings (i := 0) rfl) rfl ?_
  refine aq_bipush (v := (13 : Int32)) (am_dg dkX10_rings (i := 1) rfl) (by decide) ?_
  obtain ⟨q1, hq2, h⟩ := am_bnd h
  refine aq_virt (a := [.ref 70, .int (13 : Int32)]) (S1 := []) (v1 := .null) (S2 := []) (am_dg dkX10_rings (i := 2) rfl) cv_10_7_9 (am_cls_c sh_70 (by decide)) rfl rfl rfl (Nat.le_of_ble_eq_true rfl) (Nat.le_of_ble_eq_true rfl) (T_X9_began_70 hR (by omega) hq2) rfl ?_
  refine aq_aload_n (am_dg dkX10_rings (i := 3) rfl) rfl ?_
  refine aq_aload_n (am_dg dkX10_rings (i := 4) rfl) rfl ?_
  refine aq_iload_n (am_dg dkX10_rings (i := 5) rfl) rfl ?_
  obtain ⟨q3, hq4, h⟩ := am_bnd h
  refine aq_virt (a := [.ref 5, .ref 70, .int a2]) (S1 := []) (v1 := .int q3.1) (S2 := [.int q3.1]) (am_dg dkX10_rings (i := 6) rfl) cv_10_30_4 (am_cls_c sh_5 (by decide)) rfl rfl rfl (Nat.le_of_ble_eq_true rfl) (Nat.le_of_ble_eq_true rfl) (T_X5_calls_5_70 hR (by omega) hq4) rfl ?_
  refine aq_aload_n (am_dg dkX10_rings (i := 7) rfl) rfl ?_
  refine aq_aload_n (am_dg dkX10_rings (i := 8) rfl) rfl ?_
  refine aq_iload_n (am_dg dkX10_rings (i := 9) rfl) rfl ?_
  obtain ⟨q5, hq6, h⟩ := am_bnd h
  refine aq_virt (a := [.ref 5, .ref 70, .int a2]) (S1 := [.int q3.1]) (v1 := .int q5.1) (S2 := [.int q5.1, .int q3.1]) (am_dg dkX10_rings (i := 10) rfl) cv_10_33_4 (am_cls_c sh_5 (by decide)) rfl rfl rfl (Nat.le_of_ble_eq_true rfl) (Nat.le_of_ble_eq_true rfl) (T_X10_parts_5_70 hR (by omega) hq6) rfl ?_
  refine aq_ixor (am_dg dkX10_rings (i := 11) rfl) ?_
  obtain rfl := Option.some.inj h
  exact aq_ireturn (am_dg dkX10_rings (i := 12) rfl) rfl (Or.inl rfl) rfl
set_option maxRecDepth 20000 in
theorem T_X4_rings_5_70 {sc : Option (Nat × (Nat → Int32))} {RF : Nat → Nat → Option Nat} {d : Nat} (hR : am_RFok RF) (hd : 6 ≤ d) {a2 : Int32} {s : am_S} {r : Int32 × am_S} (h : F_X4_rings_5_70 a2 s = some r) : am_Q sc d mX4_rings (0, am_L0 mX4_rings [.ref 5, .ref 70, .int a2], [], am_hp RF s) (.int r.1, am_hp RF r.2) := by
  obtain ⟨e, rfl⟩ : ∃ e, d = e + 1 := ⟨d - 1, by omega⟩
  unfold F_X4_rings_5_70 at h
  show am_Q _ _ _ (0, [.ref 5, .ref 70, .int a2], [], _) _
  refine aq_aload_n (am_dg dkX4_rings (i := 0) rfl) rfl ?_
  refine aq_bipush (v := (51 : Int32)) (am_dg dkX4_rings (i := 1) rfl) (by decide) ?_
  obtain ⟨q1, hq2, h⟩ := am_bnd h
  refine aq_virt (a := [.ref 70, .int (51 : Int32)]) (S1 := []) (v1 := .null) (S2 := []) (am_dg dkX4_rings (i := 2) rfl) cv_4_15_9 (am_cls_c sh_70 (by decide)) rfl rfl rfl (Nat.le_of_ble_eq_true rfl) (Nat.le_of_ble_eq_true rfl) (T_X9_began_70 hR (by omega) hq2) rfl ?_
  refine aq_aload_n (am_dg dkX4_rings (i := 3) rfl) rfl ?_
  refine aq_aload_n (am_dg dkX4_rings (i := 4) rfl) rfl ?_
  refine aq_iload_n (am_dg dkX4_rings (i := 5) rfl) rfl ?_
  obtain ⟨q3, hq4, h⟩ := am_bnd h
  refine aq_spec (a := [.ref 5, .ref 70, .int a2]) (S1 := []) (v1 := .int q3.1) (S2 := [.int q3.1]) (am_dg dkX4_rings (i := 6) rfl) cp_4_25 sh_5 (by decide) rfl rfl rfl (Nat.le_of_ble_eq_true rfl) (Nat.le_of_ble_eq_true rfl) (T_X10_rings_5_70 hR (by omega) hq4) rfl ?_
  refine aq_aload_n (am_dg dkX4_rings (i := 7) rfl) rfl ?_
  refine aq_aload_n (am_dg dkX4_rings (i := 8) rfl) rfl ?_
  refine aq_aload_n (am_dg dkX4_rings (i := 9) rfl) rfl ?_
  refine aq_getI (am_dg dkX4_rings (i := 10) rfl) gk_4_28_70 (by decide) ?_
  obtain ⟨q5, hq6, h⟩ := am_bnd h
  refine aq_virt (a := [.ref 5, .ref 70, .int (q3.2.1 70 0)]) (S1 := [.int q3.1]) (v1 := .int q5.1) (S2 := [.int q5.1, .int q3.1]) (am_dg dkX4_rings (i := 11) rfl) cv_4_32_4 (am_cls_c sh_5 (by decide)) rfl rfl rfl (Nat.le_of_ble_eq_true rfl) (Nat.le_of_ble_eq_true rfl) (T_X5_calls_5_70 hR (by omega) hq6) rfl ?_
  refine aq_iadd (am_dg dkX4_rings (i := 12) rfl) ?_
  obtain rfl := Option.some.inj h
  exact aq_ireturn (am_dg dkX4_rings (i := 13) rfl) rfl (Or.inl rfl) rfl
set_option maxRecDepth 20000 in
theorem T_X10_rings_6_70 {sc : Option (Nat × (Nat → Int32))} {RF : Nat → Nat → Option Nat} {d : Nat} (hR : am_RFok RF) (hd : 3 ≤ d) {a2 : Int32} {s : am_S} {r : Int32 × am_S} (h : F_X10_rings_6_70 a2 s = some r) : am_Q sc d mX10_rings (0, am_L0 mX10_rings [.ref 6, .ref 70, .int a2], [], am_hp RF s) (.int r.1, am_hp RF r.2) := by
  obtain ⟨e, rfl⟩ : ∃ e, d = e + 1 := ⟨d - 1, by omega⟩
  unfold F_X10_rings_6_70 at h
  show am_Q _ _ _ (0, [.ref 6, .ref 70, .int a2], [], _) _
  refine aq_aload_n (am_dg dkX10_rings (i := 0) rfl) rfl ?_
  refine aq_bipush (v := (13 : Int32)) (am_dg dkX10_rings (i := 1) rfl) (by decide) ?_
  obtain ⟨q1, hq2, h⟩ := am_bnd h
  refine aq_virt (a := [.ref 70, .int (13 : Int32)]) (S1 := []) (v1 := .null) (S2 := []) (am_dg dkX10_rings (i := 2) rfl) cv_10_7_9 (am_cls_c sh_70 (by decide)) rfl rfl rfl (Nat.le_of_ble_eq_true rfl) (Nat.le_of_ble_eq_true rfl) (T_X9_began_70 hR (by omega) hq2) rfl ?_
  refine aq_aload_n (am_dg dkX10_rings (i := 3) rfl) rfl ?_
  refine aq_aload_n (am_dg dkX10_rings (i := 4) rfl) rfl ?_
  refine aq_iload_n (am_dg dkX10_rings (i := 5) rfl) rfl ?_
  obtain ⟨q3, hq4, h⟩ := am_bnd h
  refine aq_virt (a := [.ref 6, .ref 70, .int a2]) (S1 := []) (v1 := .int q3.1) (S2 := [.int q3.1]) (am_dg dkX10_rings (i := 6) rfl) cv_10_30_1 (am_cls_c sh_6 (by decide)) rfl rfl rfl (Nat.le_of_ble_eq_true rfl) (Nat.le_of_ble_eq_true rfl) (T_X10_calls_6_70 hR (by omega) hq4) rfl ?_
  refine aq_aload_n (am_dg dkX10_rings (i := 7) rfl) rfl ?_
  refine aq_aload_n (am_dg dkX10_rings (i := 8) rfl) rfl ?_
  refine aq_iload_n (am_dg dkX10_rings (i := 9) rfl) rfl ?_
  obtain ⟨q5, hq6, h⟩ := am_bnd h
  refine aq_virt (a := [.ref 6, .ref 70, .int a2]) (S1 := [.int q3.1]) (v1 := .int q5.1) (S2 := [.int q5.1, .int q3.1]) (am_dg dkX10_rings (i := 10) rfl) cv_10_33_1 (am_cls_c sh_6 (by decide)) rfl rfl rfl (Nat.le_of_ble_eq_true rfl) (Nat.le_of_ble_eq_true rfl) (T_X1_parts_6_70 hR (by omega) hq6) rfl ?_
  refine aq_ixor (am_dg dkX10_rings (i := 11) rfl) ?_
  obtain rfl := Option.some.inj h
  exact aq_ireturn (am_dg dkX10_rings (i := 12) rfl) rfl (Or.inl rfl) rfl
set_option maxRecDepth 20000 in
theorem T_X10_rings_7_70 {sc : Option (Nat × (Nat → Int32))} {RF : Nat → Nat → Option Nat} {d : Nat} (hR : am_RFok RF) (hd : 4 ≤ d) {a2 : Int32} {s : am_S} {r : Int32 × am_S} (h : F_X10_rings_7_70 a2 s = some r) : am_Q sc d mX10_rings (0, am_L0 mX10_rings [.ref 7, .ref 70, .int a2], [], am_hp RF s) (.int r.1, am_hp RF r.2) := by
  obtain ⟨e, rfl⟩ : ∃ e, d = e + 1 := ⟨d - 1, by omega⟩
  unfold F_X10_rings_7_70 at h
  show am_Q _ _ _ (0, [.ref 7, .ref 70, .int a2], [], _) _
  refine aq_aload_n (am_dg dkX10_rings (i := 0) rfl) rfl ?_
  refine aq_bipush (v := (13 : Int32)) (am_dg dkX10_rings (i := 1) rfl) (by decide) ?_
  obtain ⟨q1, hq2, h⟩ := am_bnd h
  refine aq_virt (a := [.ref 70, .int (13 : Int32)]) (S1 := []) (v1 := .null) (S2 := []) (am_dg dkX10_rings (i := 2) rfl) cv_10_7_9 (am_cls_c sh_70 (by decide)) rfl rfl rfl (Nat.le_of_ble_eq_true rfl) (Nat.le_of_ble_eq_true rfl) (T_X9_began_70 hR (by omega) hq2) rfl ?_
  refine aq_aload_n (am_dg dkX10_rings (i := 3) rfl) rfl ?_
  refine aq_aload_n (am_dg dkX10_rings (i := 4) rfl) rfl ?_
  refine aq_iload_n (am_dg dkX10_rings (i := 5) rfl) rfl ?_
  obtain ⟨q3, hq4, h⟩ := am_bnd h
  refine aq_virt (a := [.ref 7, .ref 70, .int a2]) (S1 := []) (v1 := .int q3.1) (S2 := [.int q3.1]) (am_dg dkX10_rings (i := 6) rfl) cv_10_30_2 (am_cls_c sh_7 (by decide)) rfl rfl rfl (Nat.le_of_ble_eq_true rfl) (Nat.le_of_ble_eq_true rfl) (T_X2_calls_7_70 hR (by omega) hq4) rfl ?_
  refine aq_aload_n (am_dg dkX10_rings (i := 7) rfl) rfl ?_
  refine aq_aload_n (am_dg dkX10_rings (i := 8) rfl) rfl ?_
  refine aq_iload_n (am_dg dkX10_rings (i := 9) rfl) rfl ?_
  obtain ⟨q5, hq6, h⟩ := am_bnd h
  refine aq_virt (a := [.ref 7, .ref 70, .int a2]) (S1 := [.int q3.1]) (v1 := .int q5.1) (S2 := [.int q5.1, .int q3.1]) (am_dg dkX10_rings (i := 10) rfl) cv_10_33_2 (am_cls_c sh_7 (by decide)) rfl rfl rfl (Nat.le_of_ble_eq_true rfl) (Nat.le_of_ble_eq_true rfl) (T_X2_parts_7_70 hR (by omega) hq6) rfl ?_
  refine aq_ixor (am_dg dkX10_rings (i := 11) rfl) ?_
  obtain rfl := Option.some.inj h
  exact aq_ireturn (am_dg dkX10_rings (i := 12) rfl) rfl (Or.inl rfl) rfl
set_option maxRecDepth 20000 in
theorem T_X11_act_0_b24 {sc : Option (Nat × (Nat → Int32))} {RF : Nat → Nat → Option Nat} {d : Nat} (hR : am_RFok RF) (hd : 7 ≤ d) : ∀ (w1 : Value) (w2 : Value) (w3 : Value) (w4 : Value) (w5 : Value) (w6 : Value) (s : am_S) (r : Int32 × am_S), F_X11_act_0_b24 s = some r → am_Q sc d mX11_act (24, [.ref 0, w1, w2, w3, w4, w5, w6], [], am_hp RF s) (.int r.1, am_hp RF r.2) := by
  obtain ⟨e, rfl⟩ : ∃ e, d = e + 1 := ⟨d - 1, by omega⟩
  intro w1 w2 w3 w4 w5 w6 s r h
  unfold F_X11_act_0_b24 at h
  refine aq_aload_n (am_dg dkX11_act (i := 12) rfl) rfl ?_
  refine aq_getR (am_dg dkX11_act (i := 13) rfl) gk_11_62_0 (rf_0_5 hR) ?_
  refine aq_iconst (v := (0 : Int32)) (am_dg dkX11_act (i := 14) rfl) (by decide) ?_
  refine aq_iconst (v := (0 : Int32)) (am_dg dkX11_act (i := 15) rfl) (by decide) ?_
  obtain ⟨q1, hq2, h⟩ := am_bnd h
  refine aq_virt (a := [.ref 70, .int (0 : Int32), .int (0 : Int32)]) (S1 := []) (v1 := .null) (S2 := []) (am_dg dkX11_act (i := 16) rfl) cv_11_376_9 (am_cls_c sh_70 (by decide)) rfl rfl rfl (Nat.le_of_ble_eq_true rfl) (Nat.le_of_ble_eq_true rfl) (T_X9_begin_70 hR (by omega) hq2) rfl ?_
  refine aq_iconst (v := (0 : Int32)) (am_dg dkX11_act (i := 17) rfl) (by decide) ?_
  obtain rfl := Option.some.inj h
  exact aq_ireturn (am_dg dkX11_act (i := 18) rfl) rfl (Or.inl rfl) rfl
set_option maxRecDepth 20000 in
theorem T_X11_act_0_b161 {sc : Option (Nat × (Nat → Int32))} {RF : Nat → Nat → Option Nat} {d : Nat} (hR : am_RFok RF) (hd : 7 ≤ d) : ∀ (x5 : Int32) (w1 : Value) (w2 : Value) (w3 : Value) (w4 : Value) (w6 : Value) (s : am_S) (r : Int32 × am_S), F_X11_act_0_b161 x5 s = some r → am_Q sc d mX11_act (161, [.ref 0, w1, w2, w3, w4, .int x5, w6], [], am_hp RF s) (.int r.1, am_hp RF r.2) := by
  obtain ⟨e, rfl⟩ : ∃ e, d = e + 1 := ⟨d - 1, by omega⟩
  intro x5 w1 w2 w3 w4 w6 s r h
  unfold F_X11_act_0_b161 at h
  refine aq_aload_n (am_dg dkX11_act (i := 69) rfl) rfl ?_
  refine aq_getR (am_dg dkX11_act (i := 70) rfl) gk_11_62_0 (rf_0_5 hR) ?_
  refine aq_getI (am_dg dkX11_act (i := 71) rfl) gk_11_392_70 (by decide) ?_
  by_cases hc1 : (s.1 70 2) = (0 : Int32)
  · rw [if_pos hc1] at h
    refine aq_ifT (t := 176) (am_dg dkX11_act (i := 72) rfl) rfl (decide_eq_true hc1) ?_
    refine aq_iload (am_dg dkX11_act (i := 75) rfl) rfl ?_
    obtain rfl := Option.some.inj h
    exact aq_ireturn (am_dg dkX11_act (i := 76) rfl) rfl (Or.inl rfl) rfl
  · rw [if_neg hc1] at h
    refine aq_ifF (t := 176) (am_dg dkX11_act (i := 72) rfl) rfl (decide_eq_false hc1) ?_
    refine aq_bipush (v := (-15 : Int32)) (am_dg dkX11_act (i := 73) rfl) (by decide) ?_
    refine aq_goto (t := 178) (am_dg dkX11_act (i := 74) rfl) rfl ?_
    obtain rfl := Option.some.inj h
    exact aq_ireturn (am_dg dkX11_act (i := 76) rfl) rfl (Or.inl rfl) rfl
set_option maxRecDepth 20000 in
theorem T_X11_act_0 {sc : Option (Nat × (Nat → Int32))} {RF : Nat → Nat → Option Nat} {d : Nat} (hR : am_RFok RF) (hd : 7 ≤ d) {a1 : Int32} {a2 : Int32} {a3 : Int32} {s : am_S} {r : Int32 × am_S} (h : F_X11_act_0 a1 a2 a3 s = some r) : am_Q sc d mX11_act (0, am_L0 mX11_act [.ref 0, .int a1, .int a2, .int a3], [], am_hp RF s) (.int r.1, am_hp RF r.2) := by
  obtain ⟨e, rfl⟩ : ∃ e, d = e + 1 := ⟨d - 1, by omega⟩
  unfold F_X11_act_0 at h
  show am_Q _ _ _ (0, [.ref 0, .int a1, .int a2, .int a3, .null, .null, .null], [], _) _
  refine aq_iload_n (am_dg dkX11_act (i := 0) rfl) rfl ?_
  obtain ⟨q1, hq2, h⟩ := am_bnd h
  refine aq_static (a := [.int a1]) (S1 := []) (v1 := .int q1.1) (S2 := [.int q1.1]) (am_dg dkX11_act (i := 1) rfl) ct_11_361 rfl rfl rfl (Nat.le_of_ble_eq_true rfl) (Nat.le_of_ble_eq_true rfl) (T_X11_isShelf hR (by omega) hq2) rfl ?_
  by_cases hc3 : q1.1 = (0 : Int32)
  · rw [if_pos hc3] at h
    refine aq_ifT (t := 24) (am_dg dkX11_act (i := 2) rfl) rfl (decide_eq_true hc3) ?_
    exact T_X11_act_0_b24 hR (by omega) _ _ _ _ _ _ _ _ h
  · rw [if_neg hc3] at h
    refine aq_ifF (t := 24) (am_dg dkX11_act (i := 2) rfl) rfl (decide_eq_false hc3) ?_
    refine aq_iload_n (am_dg dkX11_act (i := 3) rfl) rfl ?_
    refine aq_iconst (v := (0 : Int32)) (am_dg dkX11_act (i := 4) rfl) (by decide) ?_
    refine aq_iconst (v := (3 : Int32)) (am_dg dkX11_act (i := 5) rfl) (by decide) ?_
    obtain ⟨q4, hq5, h⟩ := am_bnd h
    refine aq_static (a := [.int a2, .int (0 : Int32), .int (3 : Int32)]) (S1 := []) (v1 := .int q4.1) (S2 := [.int q4.1]) (am_dg dkX11_act (i := 6) rfl) ct_11_149 rfl rfl rfl (Nat.le_of_ble_eq_true rfl) (Nat.le_of_ble_eq_true rfl) (T_X11_isWithin hR (by omega) hq5) rfl ?_
    by_cases hc6 : q4.1 = (0 : Int32)
    · rw [if_pos hc6] at h
      refine aq_ifT (t := 24) (am_dg dkX11_act (i := 7) rfl) rfl (decide_eq_true hc6) ?_
      exact T_X11_act_0_b24 hR (by omega) _ _ _ _ _ _ _ _ h
    · rw [if_neg hc6] at h
      refine aq_ifF (t := 24) (am_dg dkX11_act (i := 7) rfl) rfl (decide_eq_false hc6) ?_
      refine aq_aload_n (am_dg dkX11_act (i := 8) rfl) rfl ?_
      refine aq_iload_n (am_dg dkX11_act (i := 9) rfl) rfl ?_
      obtain ⟨q7, hq8, h⟩ := am_bnd h
      refine aq_virt (a := [.ref 0, .int a1]) (S1 := []) (v1 := .int q7.1) (S2 := [.int q7.1]) (am_dg dkX11_act (i := 10) rfl) cv_11_370_11 (am_cls_c sh_0 (by decide)) rfl rfl rfl (Nat.le_of_ble_eq_true rfl) (Nat.le_of_ble_eq_true rfl) (T_X11_holdsVoice_0 hR (by omega) hq8) rfl ?_
      by_cases hc9 : q7.1 = (0 : Int32)
      · rw [if_pos hc9] at h
        refine aq_ifF (t := 35) (am_dg dkX11_act (i := 11) rfl) rfl (decide_eq_false (not_not_intro hc9)) ?_
        exact T_X11_act_0_b24 hR (by omega) _ _ _ _ _ _ _ _ h
      · rw [if_neg hc9] at h
        refine aq_ifT (t := 35) (am_dg dkX11_act (i := 11) rfl) rfl (decide_eq_true hc9) ?_
        refine aq_aload_n (am_dg dkX11_act (i := 19) rfl) rfl ?_
        refine aq_getR (am_dg dkX11_act (i := 20) rfl) gk_11_87_0 (rf_0_10 hR) ?_
        refine aq_iload_n (am_dg dkX11_act (i := 21) rfl) rfl ?_
        obtain ⟨hg10, h⟩ := am_guard h
        refine aq_iald (am_dg dkX11_act (i := 22) rfl) sh_80 hg10 ?_
        refine aq_istore (L1 := [.ref 0, .int a1, .int a2, .int a3, .int (q7.2.1 80 a1.toNatClampNeg), .null, .null]) (am_dg dkX11_act (i := 23) rfl) rfl ?_
        refine aq_aload_n (am_dg dkX11_act (i := 24) rfl) rfl ?_
        refine aq_getR (am_dg dkX11_act (i := 25) rfl) gk_11_62_0 (rf_0_5 hR) ?_
        refine aq_iload (am_dg dkX11_act (i := 26) rfl) rfl ?_
        refine aq_aload_n (am_dg dkX11_act (i := 27) rfl) rfl ?_
        refine aq_getR (am_dg dkX11_act (i := 28) rfl) gk_11_30_0 (rf_0_0 hR) ?_
        refine aq_getR (am_dg dkX11_act (i := 29) rfl) gk_11_119_8 (rf_8_11 hR) ?_
        refine aq_iload (am_dg dkX11_act (i := 30) rfl) rfl ?_
        obtain ⟨hg11, h⟩ := am_guard h
        refine aq_iald (am_dg dkX11_act (i := 31) rfl) sh_12 hg11 ?_
        obtain ⟨q12, hq13, h⟩ := am_bnd h
        refine aq_virt (a := [.ref 70, .int (q7.2.1 80 a1.toNatClampNeg), .int (q7.2.1 12 (q7.2.1 80 a1.toNatClampNeg).toNatClampNeg)]) (S1 := []) (v1 := .null) (S2 := []) (am_dg dkX11_act (i := 32) rfl) cv_11_376_9 (am_cls_c sh_70 (by decide)) rfl rfl rfl (Nat.le_of_ble_eq_true rfl) (Nat.le_of_ble_eq_true rfl) (T_X9_begin_70 hR (by omega) hq13) rfl ?_
        refine aq_iconst (v := (0 : Int32)) (am_dg dkX11_act (i := 33) rfl) (by decide) ?_
        refine aq_istore (L1 := [.ref 0, .int a1, .int a2, .int a3, .int (q7.2.1 80 a1.toNatClampNeg), .int (0 : Int32), .null]) (am_dg dkX11_act (i := 34) rfl) rfl ?_
        refine aq_aload_n (am_dg dkX11_act (i := 35) rfl) rfl ?_
        refine aq_getR (am_dg dkX11_act (i := 36) rfl) gk_11_30_0 (rf_0_0 hR) ?_
        refine aq_iload (am_dg dkX11_act (i := 37) rfl) rfl ?_
        obtain ⟨q14, hq15, h⟩ := am_bnd h
        refine aq_virt (a := [.ref 8, .int (q7.2.1 80 a1.toNatClampNeg)]) (S1 := []) (v1 := .ref (2 + q14.1)) (S2 := [.ref (2 + q14.1)]) (am_dg dkX11_act (i := 38) rfl) cv_11_132_8 (am_cls_c sh_8 (by decide)) rfl rfl rfl (Nat.le_of_ble_eq_true rfl) (Nat.le_of_ble_eq_true rfl) (T_X8_thing_8 hR (by omega) hq15) rfl ?_
        refine aq_astore (L1 := [.ref 0, .int a1, .int a2, .int a3, .int (q7.2.1 80 a1.toNatClampNeg), .int (0 : Int32), .ref (2 + q14.1)]) (am_dg dkX11_act (i := 39) rfl) rfl ?_
        refine aq_iload_n (am_dg dkX11_act (i := 40) rfl) rfl ?_
        by_cases hc16 : a2 = (0 : Int32)
        · rw [if_pos hc16] at h
          refine aq_tsw (t := 104) (am_dg dkX11_act (i := 41) rfl) (by rw [hc16]; rfl) ?_
          refine aq_aload (am_dg dkX11_act (i := 42) rfl) rfl ?_
          refine aq_aload_n (am_dg dkX11_act (i := 43) rfl) rfl ?_
          refine aq_getR (am_dg dkX11_act (i := 44) rfl) gk_11_62_0 (rf_0_5 hR) ?_
          refine aq_iload_n (am_dg dkX11_act (i := 45) rfl) rfl ?_
          by_cases hc17 : q14.1 = 0
          · rw [if_pos hc17] at h
            obtain ⟨q18, hq19, h⟩ := am_bnd h
            refine aq_virt (a := [.ref 2, .ref 70, .int a3]) (S1 := []) (v1 := .int q18.1) (S2 := [.int q18.1]) (am_dg dkX11_act (i := 46) rfl) cv_11_379_10 (by rw [(show 2 + q14.1 = 2 by rw [hc17])]; exact am_cls_c sh_2 (by decide)) rfl (congrArg (fun z => Value.ref z :: _) (show 2 + q14.1 = 2 by rw [hc17])) rfl (Nat.le_of_ble_eq_true rfl) (Nat.le_of_ble_eq_true rfl) (T_X10_hums_2_70 hR (by omega) hq19) rfl ?_
            refine aq_istore (L1 := [.ref 0, .int a1, .int a2, .int a3, .int (q7.2.1 80 a1.toNatClampNeg), .int q18.1, .ref (2 + q14.1)]) (am_dg dkX11_act (i := 47) rfl) rfl ?_
            refine aq_goto (t := 161) (am_dg dkX11_act (i := 48) rfl) rfl ?_
            exact T_X11_act_0_b161 hR (by omega) _ _ _ _ _ _ _ _ h
          rw [if_neg hc17] at h
          by_cases hc20 : q14.1 = 1
          · rw [if_pos hc20] at h
            obtain ⟨q21, hq22, h⟩ := am_bnd h
            refine aq_virt (a := [.ref 3, .ref 70, .int a3]) (S1 := []) (v1 := .int q21.1) (S2 := [.int q21.1]) (am_dg dkX11_act (i := 46) rfl) cv_11_379_0 (by rw [(show 2 + q14.1 = 3 by rw [hc20])]; exact am_cls_c sh_3 (by decide)) rfl (congrArg (fun z => Value.ref z :: _) (show 2 + q14.1 = 3 by rw [hc20])) rfl (Nat.le_of_ble_eq_true rfl) (Nat.le_of_ble_eq_true rfl) (T_X0_hums_3_70 hR (by omega) hq22) rfl ?_
            refine aq_istore (L1 := [.ref 0, .int a1, .int a2, .int a3, .int (q7.2.1 80 a1.toNatClampNeg), .int q21.1, .ref (2 + q14.1)]) (am_dg dkX11_act (i := 47) rfl) rfl ?_
            refine aq_goto (t := 161) (am_dg dkX11_act (i := 48) rfl) rfl ?_
            exact T_X11_act_0_b161 hR (by omega) _ _ _ _ _ _ _ _ h
          rw [if_neg hc20] at h
          by_cases hc23 : q14.1 = 2
          · rw [if_pos hc23] at h
            obtain ⟨q24, hq25, h⟩ := am_bnd h
            refine aq_virt (a := [.ref 4, .ref 70, .int a3]) (S1 := []) (v1 := .int q24.1) (S2 := [.int q24.1]) (am_dg dkX11_act (i := 46) rfl) cv_11_379_5 (by rw [(show 2 + q14.1 = 4 by rw [hc23])]; exact am_cls_c sh_4 (by decide)) rfl (congrArg (fun z => Value.ref z :: _) (show 2 + q14.1 = 4 by rw [hc23])) rfl (Nat.le_of_ble_eq_true rfl) (Nat.le_of_ble_eq_true rfl) (T_X10_hums_4_70 hR (by omega) hq25) rfl ?_
            refine aq_istore (L1 := [.ref 0, .int a1, .int a2, .int a3, .int (q7.2.1 80 a1.toNatClampNeg), .int q24.1, .ref (2 + q14.1)]) (am_dg dkX11_act (i := 47) rfl) rfl ?_
            refine aq_goto (t := 161) (am_dg dkX11_act (i := 48) rfl) rfl ?_
            exact T_X11_act_0_b161 hR (by omega) _ _ _ _ _ _ _ _ h
          rw [if_neg hc23] at h
          by_cases hc26 : q14.1 = 3
          · rw [if_pos hc26] at h
            obtain ⟨q27, hq28, h⟩ := am_bnd h
            refine aq_virt (a := [.ref 5, .ref 70, .int a3]) (S1 := []) (v1 := .int q27.1) (S2 := [.int q27.1]) (am_dg dkX11_act (i := 46) rfl) cv_11_379_4 (by rw [(show 2 + q14.1 = 5 by rw [hc26])]; exact am_cls_c sh_5 (by decide)) rfl (congrArg (fun z => Value.ref z :: _) (show 2 + q14.1 = 5 by rw [hc26])) rfl (Nat.le_of_ble_eq_true rfl) (Nat.le_of_ble_eq_true rfl) (T_X4_hums_5_70 hR (by omega) hq28) rfl ?_
            refine aq_istore (L1 := [.ref 0, .int a1, .int a2, .int a3, .int (q7.2.1 80 a1.toNatClampNeg), .int q27.1, .ref (2 + q14.1)]) (am_dg dkX11_act (i := 47) rfl) rfl ?_
            refine aq_goto (t := 161) (am_dg dkX11_act (i := 48) rfl) rfl ?_
            exact T_X11_act_0_b161 hR (by omega) _ _ _ _ _ _ _ _ h
          rw [if_neg hc26] at h
          by_cases hc29 : q14.1 = 4
          · rw [if_pos hc29] at h
            obtain ⟨q30, hq31, h⟩ := am_bnd h
            refine aq_virt (a := [.ref 6, .ref 70, .int a3]) (S1 := []) (v1 := .int q30.1) (S2 := [.int q30.1]) (am_dg dkX11_act (i := 46) rfl) cv_11_379_1 (by rw [(show 2 + q14.1 = 6 by rw [hc29])]; exact am_cls_c sh_6 (by decide)) rfl (congrArg (fun z => Value.ref z :: _) (show 2 + q14.1 = 6 by rw [hc29])) rfl (Nat.le_of_ble_eq_true rfl) (Nat.le_of_ble_eq_true rfl) (T_X10_hums_6_70 hR (by omega) hq31) rfl ?_
            refine aq_istore (L1 := [.ref 0, .int a1, .int a2, .int a3, .int (q7.2.1 80 a1.toNatClampNeg), .int q30.1, .ref (2 + q14.1)]) (am_dg dkX11_act (i := 47) rfl) rfl ?_
            refine aq_goto (t := 161) (am_dg dkX11_act (i := 48) rfl) rfl ?_
            exact T_X11_act_0_b161 hR (by omega) _ _ _ _ _ _ _ _ h
          rw [if_neg hc29] at h
          have hc32 : q14.1 = 5 := by have := (T_X8_thing_8_b hq15); omega
          obtain ⟨q33, hq34, h⟩ := am_bnd h
          refine aq_virt (a := [.ref 7, .ref 70, .int a3]) (S1 := []) (v1 := .int q33.1) (S2 := [.int q33.1]) (am_dg dkX11_act (i := 46) rfl) cv_11_379_2 (by rw [(show 2 + q14.1 = 7 by rw [hc32])]; exact am_cls_c sh_7 (by decide)) rfl (congrArg (fun z => Value.ref z :: _) (show 2 + q14.1 = 7 by rw [hc32])) rfl (Nat.le_of_ble_eq_true rfl) (Nat.le_of_ble_eq_true rfl) (T_X10_hums_7_70 hR (by omega) hq34) rfl ?_
          refine aq_istore (L1 := [.ref 0, .int a1, .int a2, .int a3, .int (q7.2.1 80 a1.toNatClampNeg), .int q33.1, .ref (2 + q14.1)]) (am_dg dkX11_act (i := 47) rfl) rfl ?_
          refine aq_goto (t := 161) (am_dg dkX11_act (i := 48) rfl) rfl ?_
          exact T_X11_act_0_b161 hR (by omega) _ _ _ _ _ _ _ _ h
        rw [if_neg hc16] at h
        by_cases hc35 : a2 = (1 : Int32)
        · rw [if_pos hc35] at h
          refine aq_tsw (t := 119) (am_dg dkX11_act (i := 41) rfl) (by rw [hc35]; rfl) ?_
          refine aq_aload (am_dg dkX11_act (i := 49) rfl) rfl ?_
          refine aq_aload_n (am_dg dkX11_act (i := 50) rfl) rfl ?_
          refine aq_getR (am_dg dkX11_act (i := 51) rfl) gk_11_62_0 (rf_0_5 hR) ?_
          refine aq_iload_n (am_dg dkX11_act (i := 52) rfl) rfl ?_
          by_cases hc36 : q14.1 = 0
          · rw [if_pos hc36] at h
            obtain ⟨q37, hq38, h⟩ := am_bnd h
            refine aq_virt (a := [.ref 2, .ref 70, .int a3]) (S1 := []) (v1 := .int q37.1) (S2 := [.int q37.1]) (am_dg dkX11_act (i := 53) rfl) cv_11_383_10 (by rw [(show 2 + q14.1 = 2 by rw [hc36])]; exact am_cls_c sh_2 (by decide)) rfl (congrArg (fun z => Value.ref z :: _) (show 2 + q14.1 = 2 by rw [hc36])) rfl (Nat.le_of_ble_eq_true rfl) (Nat.le_of_ble_eq_true rfl) (T_X10_calls_2_70 hR (by omega) hq38) rfl ?_
            refine aq_istore (L1 := [.ref 0, .int a1, .int a2, .int a3, .int (q7.2.1 80 a1.toNatClampNeg), .int q37.1, .ref (2 + q14.1)]) (am_dg dkX11_act (i := 54) rfl) rfl ?_
            refine aq_goto (t := 161) (am_dg dkX11_act (i := 55) rfl) rfl ?_
            exact T_X11_act_0_b161 hR (by omega) _ _ _ _ _ _ _ _ h
          rw [if_neg hc36] at h
          by_cases hc39 : q14.1 = 1
          · rw [if_pos hc39] at h
            obtain ⟨q40, hq41, h⟩ := am_bnd h
            refine aq_virt (a := [.ref 3, .ref 70, .int a3]) (S1 := []) (v1 := .int q40.1) (S2 := [.int q40.1]) (am_dg dkX11_act (i := 53) rfl) cv_11_383_0 (by rw [(show 2 + q14.1 = 3 by rw [hc39])]; exact am_cls_c sh_3 (by decide)) rfl (congrArg (fun z => Value.ref z :: _) (show 2 + q14.1 = 3 by rw [hc39])) rfl (Nat.le_of_ble_eq_true rfl) (Nat.le_of_ble_eq_true rfl) (T_X10_calls_3_70 hR (by omega) hq41) rfl ?_
            refine aq_istore (L1 := [.ref 0, .int a1, .int a2, .int a3, .int (q7.2.1 80 a1.toNatClampNeg), .int q40.1, .ref (2 + q14.1)]) (am_dg dkX11_act (i := 54) rfl) rfl ?_
            refine aq_goto (t := 161) (am_dg dkX11_act (i := 55) rfl) rfl ?_
            exact T_X11_act_0_b161 hR (by omega) _ _ _ _ _ _ _ _ h
          rw [if_neg hc39] at h
          by_cases hc42 : q14.1 = 2
          · rw [if_pos hc42] at h
            obtain ⟨q43, hq44, h⟩ := am_bnd h
            refine aq_virt (a := [.ref 4, .ref 70, .int a3]) (S1 := []) (v1 := .int q43.1) (S2 := [.int q43.1]) (am_dg dkX11_act (i := 53) rfl) cv_11_383_5 (by rw [(show 2 + q14.1 = 4 by rw [hc42])]; exact am_cls_c sh_4 (by decide)) rfl (congrArg (fun z => Value.ref z :: _) (show 2 + q14.1 = 4 by rw [hc42])) rfl (Nat.le_of_ble_eq_true rfl) (Nat.le_of_ble_eq_true rfl) (T_X5_calls_4_70 hR (by omega) hq44) rfl ?_
            refine aq_istore (L1 := [.ref 0, .int a1, .int a2, .int a3, .int (q7.2.1 80 a1.toNatClampNeg), .int q43.1, .ref (2 + q14.1)]) (am_dg dkX11_act (i := 54) rfl) rfl ?_
            refine aq_goto (t := 161) (am_dg dkX11_act (i := 55) rfl) rfl ?_
            exact T_X11_act_0_b161 hR (by omega) _ _ _ _ _ _ _ _ h
          rw [if_neg hc42] at h
          by_cases hc45 : q14.1 = 3
          · rw [if_pos hc45] at h
            obtain ⟨q46, hq47, h⟩ := am_bnd h
            refine aq_virt (a := [.ref 5, .ref 70, .int a3]) (S1 := []) (v1 := .int q46.1) (S2 := [.int q46.1]) (am_dg dkX11_act (i := 53) rfl) cv_11_383_4 (by rw [(show 2 + q14.1 = 5 by rw [hc45])]; exact am_cls_c sh_5 (by decide)) rfl (congrArg (fun z => Value.ref z :: _) (show 2 + q14.1 = 5 by rw [hc45])) rfl (Nat.le_of_ble_eq_true rfl) (Nat.le_of_ble_eq_true rfl) (T_X5_calls_5_70 hR (by omega) hq47) rfl ?_
            refine aq_istore (L1 := [.ref 0, .int a1, .int a2, .int a3, .int (q7.2.1 80 a1.toNatClampNeg), .int q46.1, .ref (2 + q14.1)]) (am_dg dkX11_act (i := 54) rfl) rfl ?_
            refine aq_goto (t := 161) (am_dg dkX11_act (i := 55) rfl) rfl ?_
            exact T_X11_act_0_b161 hR (by omega) _ _ _ _ _ _ _ _ h
          rw [if_neg hc45] at h
          by_cases hc48 : q14.1 = 4
          · rw [if_pos hc48] at h
            obtain ⟨q49, hq50, h⟩ := am_bnd h
            refine aq_virt (a := [.ref 6, .ref 70, .int a3]) (S1 := []) (v1 := .int q49.1) (S2 := [.int q49.1]) (am_dg dkX11_act (i := 53) rfl) cv_11_383_1 (by rw [(show 2 + q14.1 = 6 by rw [hc48])]; exact am_cls_c sh_6 (by decide)) rfl (congrArg (fun z => Value.ref z :: _) (show 2 + q14.1 = 6 by rw [hc48])) rfl (Nat.le_of_ble_eq_true rfl) (Nat.le_of_ble_eq_true rfl) (T_X10_calls_6_70 hR (by omega) hq50) rfl ?_
            refine aq_istore (L1 := [.ref 0, .int a1, .int a2, .int a3, .int (q7.2.1 80 a1.toNatClampNeg), .int q49.1, .ref (2 + q14.1)]) (am_dg dkX11_act (i := 54) rfl) rfl ?_
            refine aq_goto (t := 161) (am_dg dkX11_act (i := 55) rfl) rfl ?_
            exact T_X11_act_0_b161 hR (by omega) _ _ _ _ _ _ _ _ h
          rw [if_neg hc48] at h
          have hc51 : q14.1 = 5 := by have := (T_X8_thing_8_b hq15); omega
          obtain ⟨q52, hq53, h⟩ := am_bnd h
          refine aq_virt (a := [.ref 7, .ref 70, .int a3]) (S1 := []) (v1 := .int q52.1) (S2 := [.int q52.1]) (am_dg dkX11_act (i := 53) rfl) cv_11_383_2 (by rw [(show 2 + q14.1 = 7 by rw [hc51])]; exact am_cls_c sh_7 (by decide)) rfl (congrArg (fun z => Value.ref z :: _) (show 2 + q14.1 = 7 by rw [hc51])) rfl (Nat.le_of_ble_eq_true rfl) (Nat.le_of_ble_eq_true rfl) (T_X2_calls_7_70 hR (by omega) hq53) rfl ?_
          refine aq_istore (L1 := [.ref 0, .int a1, .int a2, .int a3, .int (q7.2.1 80 a1.toNatClampNeg), .int q52.1, .ref (2 + q14.1)]) (am_dg dkX11_act (i := 54) rfl) rfl ?_
          refine aq_goto (t := 161) (am_dg dkX11_act (i := 55) rfl) rfl ?_
          exact T_X11_act_0_b161 hR (by omega) _ _ _ _ _ _ _ _ h
        rw [if_neg hc35] at h
        by_cases hc54 : a2 = (2 : Int32)
        · rw [if_pos hc54] at h
          refine aq_tsw (t := 134) (am_dg dkX11_act (i := 41) rfl) (by rw [hc54]; rfl) ?_
          refine aq_aload (am_dg dkX11_act (i := 56) rfl) rfl ?_
          refine aq_aload_n (am_dg dkX11_act (i := 57) rfl) rfl ?_
          refine aq_getR (am_dg dkX11_act (i := 58) rfl) gk_11_62_0 (rf_0_5 hR) ?_
          refine aq_iload_n (am_dg dkX11_act (i := 59) rfl) rfl ?_
          by_cases hc55 : q14.1 = 0
          · rw [if_pos hc55] at h
            obtain ⟨q56, hq57, h⟩ := am_bnd h
            refine aq_virt (a := [.ref 2, .ref 70, .int a3]) (S1 := []) (v1 := .int q56.1) (S2 := [.int q56.1]) (am_dg dkX11_act (i := 60) rfl) cv_11_386_10 (by rw [(show 2 + q14.1 = 2 by rw [hc55])]; exact am_cls_c sh_2 (by decide)) rfl (congrArg (fun z => Value.ref z :: _) (show 2 + q14.1 = 2 by rw [hc55])) rfl (Nat.le_of_ble_eq_true rfl) (Nat.le_of_ble_eq_true rfl) (T_X10_parts_2_70 hR (by omega) hq57) rfl ?_
            refine aq_istore (L1 := [.ref 0, .int a1, .int a2, .int a3, .int (q7.2.1 80 a1.toNatClampNeg), .int q56.1, .ref (2 + q14.1)]) (am_dg dkX11_act (i := 61) rfl) rfl ?_
            refine aq_goto (t := 161) (am_dg dkX11_act (i := 62) rfl) rfl ?_
            exact T_X11_act_0_b161 hR (by omega) _ _ _ _ _ _ _ _ h
          rw [if_neg hc55] at h
          by_cases hc58 : q14.1 = 1
          · rw [if_pos hc58] at h
            obtain ⟨q59, hq60, h⟩ := am_bnd h
            refine aq_virt (a := [.ref 3, .ref 70, .int a3]) (S1 := []) (v1 := .int q59.1) (S2 := [.int q59.1]) (am_dg dkX11_act (i := 60) rfl) cv_11_386_0 (by rw [(show 2 + q14.1 = 3 by rw [hc58])]; exact am_cls_c sh_3 (by decide)) rfl (congrArg (fun z => Value.ref z :: _) (show 2 + q14.1 = 3 by rw [hc58])) rfl (Nat.le_of_ble_eq_true rfl) (Nat.le_of_ble_eq_true rfl) (T_X10_parts_3_70 hR (by omega) hq60) rfl ?_
            refine aq_istore (L1 := [.ref 0, .int a1, .int a2, .int a3, .int (q7.2.1 80 a1.toNatClampNeg), .int q59.1, .ref (2 + q14.1)]) (am_dg dkX11_act (i := 61) rfl) rfl ?_
            refine aq_goto (t := 161) (am_dg dkX11_act (i := 62) rfl) rfl ?_
            exact T_X11_act_0_b161 hR (by omega) _ _ _ _ _ _ _ _ h
          rw [if_neg hc58] at h
          by_cases hc61 : q14.1 = 2
          · rw [if_pos hc61] at h
            obtain ⟨q62, hq63, h⟩ := am_bnd h
            refine aq_virt (a := [.ref 4, .ref 70, .int a3]) (S1 := []) (v1 := .int q62.1) (S2 := [.int q62.1]) (am_dg dkX11_act (i := 60) rfl) cv_11_386_5 (by rw [(show 2 + q14.1 = 4 by rw [hc61])]; exact am_cls_c sh_4 (by decide)) rfl (congrArg (fun z => Value.ref z :: _) (show 2 + q14.1 = 4 by rw [hc61])) rfl (Nat.le_of_ble_eq_true rfl) (Nat.le_of_ble_eq_true rfl) (T_X10_parts_4_70 hR (by omega) hq63) rfl ?_
            refine aq_istore (L1 := [.ref 0, .int a1, .int a2, .int a3, .int (q7.2.1 80 a1.toNatClampNeg), .int q62.1, .ref (2 + q14.1)]) (am_dg dkX11_act (i := 61) rfl) rfl ?_
            refine aq_goto (t := 161) (am_dg dkX11_act (i := 62) rfl) rfl ?_
            exact T_X11_act_0_b161 hR (by omega) _ _ _ _ _ _ _ _ h
          rw [if_neg hc61] at h
          by_cases hc64 : q14.1 = 3
          · rw [if_pos hc64] at h
            obtain ⟨q65, hq66, h⟩ := am_bnd h
            refine aq_virt (a := [.ref 5, .ref 70, .int a3]) (S1 := []) (v1 := .int q65.1) (S2 := [.int q65.1]) (am_dg dkX11_act (i := 60) rfl) cv_11_386_4 (by rw [(show 2 + q14.1 = 5 by rw [hc64])]; exact am_cls_c sh_5 (by decide)) rfl (congrArg (fun z => Value.ref z :: _) (show 2 + q14.1 = 5 by rw [hc64])) rfl (Nat.le_of_ble_eq_true rfl) (Nat.le_of_ble_eq_true rfl) (T_X10_parts_5_70 hR (by omega) hq66) rfl ?_
            refine aq_istore (L1 := [.ref 0, .int a1, .int a2, .int a3, .int (q7.2.1 80 a1.toNatClampNeg), .int q65.1, .ref (2 + q14.1)]) (am_dg dkX11_act (i := 61) rfl) rfl ?_
            refine aq_goto (t := 161) (am_dg dkX11_act (i := 62) rfl) rfl ?_
            exact T_X11_act_0_b161 hR (by omega) _ _ _ _ _ _ _ _ h
          rw [if_neg hc64] at h
          by_cases hc67 : q14.1 = 4
          · rw [if_pos hc67] at h
            obtain ⟨q68, hq69, h⟩ := am_bnd h
            refine aq_virt (a := [.ref 6, .ref 70, .int a3]) (S1 := []) (v1 := .int q68.1) (S2 := [.int q68.1]) (am_dg dkX11_act (i := 60) rfl) cv_11_386_1 (by rw [(show 2 + q14.1 = 6 by rw [hc67])]; exact am_cls_c sh_6 (by decide)) rfl (congrArg (fun z => Value.ref z :: _) (show 2 + q14.1 = 6 by rw [hc67])) rfl (Nat.le_of_ble_eq_true rfl) (Nat.le_of_ble_eq_true rfl) (T_X1_parts_6_70 hR (by omega) hq69) rfl ?_
            refine aq_istore (L1 := [.ref 0, .int a1, .int a2, .int a3, .int (q7.2.1 80 a1.toNatClampNeg), .int q68.1, .ref (2 + q14.1)]) (am_dg dkX11_act (i := 61) rfl) rfl ?_
            refine aq_goto (t := 161) (am_dg dkX11_act (i := 62) rfl) rfl ?_
            exact T_X11_act_0_b161 hR (by omega) _ _ _ _ _ _ _ _ h
          rw [if_neg hc67] at h
          have hc70 : q14.1 = 5 := by have := (T_X8_thing_8_b hq15); omega
          obtain ⟨q71, hq72, h⟩ := am_bnd h
          refine aq_virt (a := [.ref 7, .ref 70, .int a3]) (S1 := []) (v1 := .int q71.1) (S2 := [.int q71.1]) (am_dg dkX11_act (i := 60) rfl) cv_11_386_2 (by rw [(show 2 + q14.1 = 7 by rw [hc70])]; exact am_cls_c sh_7 (by decide)) rfl (congrArg (fun z => Value.ref z :: _) (show 2 + q14.1 = 7 by rw [hc70])) rfl (Nat.le_of_ble_eq_true rfl) (Nat.le_of_ble_eq_true rfl) (T_X2_parts_7_70 hR (by omega) hq72) rfl ?_
          refine aq_istore (L1 := [.ref 0, .int a1, .int a2, .int a3, .int (q7.2.1 80 a1.toNatClampNeg), .int q71.1, .ref (2 + q14.1)]) (am_dg dkX11_act (i := 61) rfl) rfl ?_
          refine aq_goto (t := 161) (am_dg dkX11_act (i := 62) rfl) rfl ?_
          exact T_X11_act_0_b161 hR (by omega) _ _ _ _ _ _ _ _ h
        rw [if_neg hc54] at h
        refine aq_tsw (t := 149) (am_dg dkX11_act (i := 41) rfl) (am_tsw_d (by have := lv_neT hc16 (show ((0 : Int32)).toInt = 0 by decide); have := lv_neT hc35 (show ((1 : Int32)).toInt = 1 by decide); have := lv_neT hc54 (show ((2 : Int32)).toInt = 2 by decide); omega) rfl) ?_
        refine aq_aload (am_dg dkX11_act (i := 63) rfl) rfl ?_
        refine aq_aload_n (am_dg dkX11_act (i := 64) rfl) rfl ?_
        refine aq_getR (am_dg dkX11_act (i := 65) rfl) gk_11_62_0 (rf_0_5 hR) ?_
        refine aq_iload_n (am_dg dkX11_act (i := 66) rfl) rfl ?_
        by_cases hc73 : q14.1 = 0
        · rw [if_pos hc73] at h
          obtain ⟨q74, hq75, h⟩ := am_bnd h
          refine aq_virt (a := [.ref 2, .ref 70, .int a3]) (S1 := []) (v1 := .int q74.1) (S2 := [.int q74.1]) (am_dg dkX11_act (i := 67) rfl) cv_11_389_10 (by rw [(show 2 + q14.1 = 2 by rw [hc73])]; exact am_cls_c sh_2 (by decide)) rfl (congrArg (fun z => Value.ref z :: _) (show 2 + q14.1 = 2 by rw [hc73])) rfl (Nat.le_of_ble_eq_true rfl) (Nat.le_of_ble_eq_true rfl) (T_X10_rings_2_70 hR (by omega) hq75) rfl ?_
          refine aq_istore (L1 := [.ref 0, .int a1, .int a2, .int a3, .int (q7.2.1 80 a1.toNatClampNeg), .int q74.1, .ref (2 + q14.1)]) (am_dg dkX11_act (i := 68) rfl) rfl ?_
          exact T_X11_act_0_b161 hR (by omega) _ _ _ _ _ _ _ _ h
        rw [if_neg hc73] at h
        by_cases hc76 : q14.1 = 1
        · rw [if_pos hc76] at h
          obtain ⟨q77, hq78, h⟩ := am_bnd h
          refine aq_virt (a := [.ref 3, .ref 70, .int a3]) (S1 := []) (v1 := .int q77.1) (S2 := [.int q77.1]) (am_dg dkX11_act (i := 67) rfl) cv_11_389_0 (by rw [(show 2 + q14.1 = 3 by rw [hc76])]; exact am_cls_c sh_3 (by decide)) rfl (congrArg (fun z => Value.ref z :: _) (show 2 + q14.1 = 3 by rw [hc76])) rfl (Nat.le_of_ble_eq_true rfl) (Nat.le_of_ble_eq_true rfl) (T_X10_rings_3_70 hR (by omega) hq78) rfl ?_
          refine aq_istore (L1 := [.ref 0, .int a1, .int a2, .int a3, .int (q7.2.1 80 a1.toNatClampNeg), .int q77.1, .ref (2 + q14.1)]) (am_dg dkX11_act (i := 68) rfl) rfl ?_
          exact T_X11_act_0_b161 hR (by omega) _ _ _ _ _ _ _ _ h
        rw [if_neg hc76] at h
        by_cases hc79 : q14.1 = 2
        · rw [if_pos hc79] at h
          obtain ⟨q80, hq81, h⟩ := am_bnd h
          refine aq_virt (a := [.ref 4, .ref 70, .int a3]) (S1 := []) (v1 := .int q80.1) (S2 := [.int q80.1]) (am_dg dkX11_act (i := 67) rfl) cv_11_389_5 (by rw [(show 2 + q14.1 = 4 by rw [hc79])]; exact am_cls_c sh_4 (by decide)) rfl (congrArg (fun z => Value.ref z :: _) (show 2 + q14.1 = 4 by rw [hc79])) rfl (Nat.le_of_ble_eq_true rfl) (Nat.le_of_ble_eq_true rfl) (T_X10_rings_4_70 hR (by omega) hq81) rfl ?_
          refine aq_istore (L1 := [.ref 0, .int a1, .int a2, .int a3, .int (q7.2.1 80 a1.toNatClampNeg), .int q80.1, .ref (2 + q14.1)]) (am_dg dkX11_act (i := 68) rfl) rfl ?_
          exact T_X11_act_0_b161 hR (by omega) _ _ _ _ _ _ _ _ h
        rw [if_neg hc79] at h
        by_cases hc82 : q14.1 = 3
        · rw [if_pos hc82] at h
          obtain ⟨q83, hq84, h⟩ := am_bnd h
          refine aq_virt (a := [.ref 5, .ref 70, .int a3]) (S1 := []) (v1 := .int q83.1) (S2 := [.int q83.1]) (am_dg dkX11_act (i := 67) rfl) cv_11_389_4 (by rw [(show 2 + q14.1 = 5 by rw [hc82])]; exact am_cls_c sh_5 (by decide)) rfl (congrArg (fun z => Value.ref z :: _) (show 2 + q14.1 = 5 by rw [hc82])) rfl (Nat.le_of_ble_eq_true rfl) (Nat.le_of_ble_eq_true rfl) (T_X4_rings_5_70 hR (by omega) hq84) rfl ?_
          refine aq_istore (L1 := [.ref 0, .int a1, .int a2, .int a3, .int (q7.2.1 80 a1.toNatClampNeg), .int q83.1, .ref (2 + q14.1)]) (am_dg dkX11_act (i := 68) rfl) rfl ?_
          exact T_X11_act_0_b161 hR (by omega) _ _ _ _ _ _ _ _ h
        rw [if_neg hc82] at h
        by_cases hc85 : q14.1 = 4
        · rw [if_pos hc85] at h
          obtain ⟨q86, hq87, h⟩ := am_bnd h
          refine aq_virt (a := [.ref 6, .ref 70, .int a3]) (S1 := []) (v1 := .int q86.1) (S2 := [.int q86.1]) (am_dg dkX11_act (i := 67) rfl) cv_11_389_1 (by rw [(show 2 + q14.1 = 6 by rw [hc85])]; exact am_cls_c sh_6 (by decide)) rfl (congrArg (fun z => Value.ref z :: _) (show 2 + q14.1 = 6 by rw [hc85])) rfl (Nat.le_of_ble_eq_true rfl) (Nat.le_of_ble_eq_true rfl) (T_X10_rings_6_70 hR (by omega) hq87) rfl ?_
          refine aq_istore (L1 := [.ref 0, .int a1, .int a2, .int a3, .int (q7.2.1 80 a1.toNatClampNeg), .int q86.1, .ref (2 + q14.1)]) (am_dg dkX11_act (i := 68) rfl) rfl ?_
          exact T_X11_act_0_b161 hR (by omega) _ _ _ _ _ _ _ _ h
        rw [if_neg hc85] at h
        have hc88 : q14.1 = 5 := by have := (T_X8_thing_8_b hq15); omega
        obtain ⟨q89, hq90, h⟩ := am_bnd h
        refine aq_virt (a := [.ref 7, .ref 70, .int a3]) (S1 := []) (v1 := .int q89.1) (S2 := [.int q89.1]) (am_dg dkX11_act (i := 67) rfl) cv_11_389_2 (by rw [(show 2 + q14.1 = 7 by rw [hc88])]; exact am_cls_c sh_7 (by decide)) rfl (congrArg (fun z => Value.ref z :: _) (show 2 + q14.1 = 7 by rw [hc88])) rfl (Nat.le_of_ble_eq_true rfl) (Nat.le_of_ble_eq_true rfl) (T_X10_rings_7_70 hR (by omega) hq90) rfl ?_
        refine aq_istore (L1 := [.ref 0, .int a1, .int a2, .int a3, .int (q7.2.1 80 a1.toNatClampNeg), .int q89.1, .ref (2 + q14.1)]) (am_dg dkX11_act (i := 68) rfl) rfl ?_
        exact T_X11_act_0_b161 hR (by omega) _ _ _ _ _ _ _ _ h
set_option maxRecDepth 20000 in
theorem T_X12_runs_82 {sc : Option (Nat × (Nat → Int32))} {RF : Nat → Nat → Option Nat} {d : Nat} (hR : am_RFok RF) (hd : 0 ≤ d) {a1 : Int32} {s : am_S} {r : am_S} (h : F_X12_runs_82 a1 s = some r) : am_Q sc d mX12_runs (0, am_L0 mX12_runs [.ref 82, .int a1], [], am_hp RF s) (.null, am_hp RF r) := by
  unfold F_X12_runs_82 at h
  show am_Q _ _ _ (0, [.ref 82, .int a1], [], _) _
  refine aq_aload_n (am_dg dkX12_runs (i := 0) rfl) rfl ?_
  refine aq_getI (am_dg dkX12_runs (i := 1) rfl) gk_12_428_82 (by decide) ?_
  by_cases hc1 : (s.1 82 40) = (0 : Int32)
  · rw [if_pos hc1] at h
    refine aq_ifF (t := 36) (am_dg dkX12_runs (i := 2) rfl) rfl (decide_eq_false (not_not_intro hc1)) ?_
    refine aq_aload_n (am_dg dkX12_runs (i := 3) rfl) rfl ?_
    refine aq_getI (am_dg dkX12_runs (i := 4) rfl) gk_12_431_82 (by decide) ?_
    refine aq_bipush (v := (30 : Int32)) (am_dg dkX12_runs (i := 5) rfl) (by decide) ?_
    by_cases hc2 : (30 : Int32) ≤ (s.1 82 36)
    · rw [if_pos hc2] at h
      refine aq_icT (t := 26) (am_dg dkX12_runs (i := 6) rfl) rfl (decide_eq_true hc2) ?_
      refine aq_aload_n (am_dg dkX12_runs (i := 13) rfl) rfl ?_
      refine aq_dup (am_dg dkX12_runs (i := 14) rfl) rfl ?_
      refine aq_getI (am_dg dkX12_runs (i := 15) rfl) gk_12_431_82 (by decide) ?_
      refine aq_iconst (v := (1 : Int32)) (am_dg dkX12_runs (i := 16) rfl) (by decide) ?_
      refine aq_iadd (am_dg dkX12_runs (i := 17) rfl) ?_
      refine aq_putI (am_dg dkX12_runs (i := 18) rfl) gk_12_431_82 ?_
      obtain ⟨s3, hs4, h⟩ := am_bnd h
      rw [Option.some.inj hs4]
      obtain rfl := Option.some.inj h
      exact aq_return (am_dg dkX12_runs (i := 19) rfl) rfl
    · rw [if_neg hc2] at h
      refine aq_icF (t := 26) (am_dg dkX12_runs (i := 6) rfl) rfl (decide_eq_false hc2) ?_
      refine aq_aload_n (am_dg dkX12_runs (i := 7) rfl) rfl ?_
      refine aq_getR (am_dg dkX12_runs (i := 8) rfl) gk_12_58_82 (rf_82_35 hR) ?_
      refine aq_aload_n (am_dg dkX12_runs (i := 9) rfl) rfl ?_
      refine aq_getI (am_dg dkX12_runs (i := 10) rfl) gk_12_431_82 (by decide) ?_
      refine aq_iload_n (am_dg dkX12_runs (i := 11) rfl) rfl ?_
      obtain ⟨hg5, h⟩ := am_guard h
      refine aq_iast (am_dg dkX12_runs (i := 12) rfl) sh_99 hg5 ?_
      obtain ⟨s6, hs7, h⟩ := am_bnd h
      rw [Option.some.inj hs7]
      refine aq_aload_n (am_dg dkX12_runs (i := 13) rfl) rfl ?_
      refine aq_dup (am_dg dkX12_runs (i := 14) rfl) rfl ?_
      refine aq_getI (am_dg dkX12_runs (i := 15) rfl) gk_12_431_82 (by decide) ?_
      refine aq_iconst (v := (1 : Int32)) (am_dg dkX12_runs (i := 16) rfl) (by decide) ?_
      refine aq_iadd (am_dg dkX12_runs (i := 17) rfl) ?_
      refine aq_putI (am_dg dkX12_runs (i := 18) rfl) gk_12_431_82 ?_
      obtain ⟨s8, hs9, h⟩ := am_bnd h
      rw [Option.some.inj hs9]
      obtain rfl := Option.some.inj h
      exact aq_return (am_dg dkX12_runs (i := 19) rfl) rfl
  · rw [if_neg hc1] at h
    refine aq_ifT (t := 36) (am_dg dkX12_runs (i := 2) rfl) rfl (decide_eq_true hc1) ?_
    obtain rfl := Option.some.inj h
    exact aq_return (am_dg dkX12_runs (i := 19) rfl) rfl
