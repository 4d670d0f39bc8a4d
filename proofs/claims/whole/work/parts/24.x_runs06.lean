/-! LAYER 1: the runs (written by wip/whole/gen_f.py) -/
set_option maxRecDepth 20000 in
theorem T_X3_walk_50 {sc : Option (Nat × (Nat → Int32))} {RF : Nat → Nat → Option Nat} {d : Nat} (hR : am_RFok RF) (hd : 15 ≤ d) {a1 : Int32} {a2 : Int32} {a3 : Int32} {s : am_S} {r : am_S} (h : F_X3_walk_50 10 a1 a2 a3 s = some r) : am_Q sc d mX3_walk (0, am_L0 mX3_walk [.ref 50, .int a1, .int a2, .int a3], [], am_hp RF s) (.null, am_hp RF r) := T_X3_walk_50_n hR 10 d (by omega) _ _ _ _ _ h
set_option maxRecDepth 20000 in
theorem T_X3_search_50 {sc : Option (Nat × (Nat → Int32))} {RF : Nat → Nat → Option Nat} {d : Nat} (hR : am_RFok RF) (hd : 16 ≤ d) {a1 : Int32} {a2 : Int32} {s : am_S} {r : am_S} (h : F_X3_search_50 a1 a2 s = some r) : am_Q sc d mX3_search (0, am_L0 mX3_search [.ref 50, .int a1, .int a2], [], am_hp RF s) (.null, am_hp RF r) := by
  obtain ⟨e, rfl⟩ : ∃ e, d = e + 1 := ⟨d - 1, by omega⟩
  unfold F_X3_search_50 at h
  show am_Q _ _ _ (0, [.ref 50, .int a1, .int a2], [], _) _
  refine aq_aload_n (am_dg dkX3_search (i := 0) rfl) rfl ?_
  refine aq_aload_n (am_dg dkX3_search (i := 1) rfl) rfl ?_
  refine aq_iload_n (am_dg dkX3_search (i := 2) rfl) rfl ?_
  obtain ⟨q1, hq2, h⟩ := am_bnd h
  refine aq_virt (a := [.ref 50, .int a1]) (S1 := [.ref 50]) (v1 := .int q1.1) (S2 := [.int q1.1, .ref 50]) (am_dg dkX3_search (i := 3) rfl) cv_3_123_3 (am_cls_c sh_50 (by decide)) rfl rfl rfl (Nat.le_of_ble_eq_true rfl) (Nat.le_of_ble_eq_true rfl) (T_X3_planLength_50 hR (by omega) hq2) rfl ?_
  refine aq_putI (am_dg dkX3_search (i := 4) rfl) gk_3_126_50 ?_
  obtain ⟨s3, hs4, h⟩ := am_bnd h
  rw [Option.some.inj hs4]
  refine aq_aload_n (am_dg dkX3_search (i := 5) rfl) rfl ?_
  refine aq_iload_n (am_dg dkX3_search (i := 6) rfl) rfl ?_
  refine aq_putI (am_dg dkX3_search (i := 7) rfl) gk_3_129_50 ?_
  obtain ⟨s5, hs6, h⟩ := am_bnd h
  rw [Option.some.inj hs6]
  refine aq_aload_n (am_dg dkX3_search (i := 8) rfl) rfl ?_
  refine aq_iconst (v := (-1 : Int32)) (am_dg dkX3_search (i := 9) rfl) (by decide) ?_
  refine aq_putI (am_dg dkX3_search (i := 10) rfl) gk_3_132_50 ?_
  obtain ⟨s7, hs8, h⟩ := am_bnd h
  rw [Option.some.inj hs8]
  refine aq_aload_n (am_dg dkX3_search (i := 11) rfl) rfl ?_
  refine aq_iconst (v := (0 : Int32)) (am_dg dkX3_search (i := 12) rfl) (by decide) ?_
  refine aq_putI (am_dg dkX3_search (i := 13) rfl) gk_3_135_50 ?_
  obtain ⟨s9, hs10, h⟩ := am_bnd h
  rw [Option.some.inj hs10]
  refine aq_aload_n (am_dg dkX3_search (i := 14) rfl) rfl ?_
  refine aq_bipush (v := (-3 : Int32)) (am_dg dkX3_search (i := 15) rfl) (by decide) ?_
  refine aq_putI (am_dg dkX3_search (i := 16) rfl) gk_3_138_50 ?_
  obtain ⟨s11, hs12, h⟩ := am_bnd h
  rw [Option.some.inj hs12]
  refine aq_aload_n (am_dg dkX3_search (i := 17) rfl) rfl ?_
  refine aq_iconst (v := (0 : Int32)) (am_dg dkX3_search (i := 18) rfl) (by decide) ?_
  refine aq_putI (am_dg dkX3_search (i := 19) rfl) gk_3_141_50 ?_
  obtain ⟨s13, hs14, h⟩ := am_bnd h
  rw [Option.some.inj hs14]
  refine aq_aload_n (am_dg dkX3_search (i := 20) rfl) rfl ?_
  refine aq_iconst (v := (0 : Int32)) (am_dg dkX3_search (i := 21) rfl) (by decide) ?_
  refine aq_iconst (v := (0 : Int32)) (am_dg dkX3_search (i := 22) rfl) (by decide) ?_
  refine aq_iconst (v := (0 : Int32)) (am_dg dkX3_search (i := 23) rfl) (by decide) ?_
  obtain ⟨q15, hq16, h⟩ := am_bnd h
  refine aq_virt (a := [.ref 50, .int (0 : Int32), .int (0 : Int32), .int (0 : Int32)]) (S1 := []) (v1 := .null) (S2 := []) (am_dg dkX3_search (i := 24) rfl) cv_3_144_3 (am_cls_c sh_50 (by decide)) rfl rfl rfl (Nat.le_of_ble_eq_true rfl) (Nat.le_of_ble_eq_true rfl) (T_X3_walk_50 hR (by omega) hq16) rfl ?_
  obtain rfl := Option.some.inj h
  exact aq_return (am_dg dkX3_search (i := 25) rfl) rfl
set_option maxRecDepth 20000 in
theorem T_X11_best_0 {sc : Option (Nat × (Nat → Int32))} {RF : Nat → Nat → Option Nat} {d : Nat} (hR : am_RFok RF) (hd : 17 ≤ d) {a1 : Int32} {s : am_S} {r : Int32 × am_S} (h : F_X11_best_0 a1 s = some r) : am_Q sc d mX11_best (0, am_L0 mX11_best [.ref 0, .int a1], [], am_hp RF s) (.int r.1, am_hp RF r.2) := by
  obtain ⟨e, rfl⟩ : ∃ e, d = e + 1 := ⟨d - 1, by omega⟩
  unfold F_X11_best_0 at h
  show am_Q _ _ _ (0, [.ref 0, .int a1], [], _) _
  refine aq_iload_n (am_dg dkX11_best (i := 0) rfl) rfl ?_
  obtain ⟨q1, hq2, h⟩ := am_bnd h
  refine aq_static (a := [.int a1]) (S1 := []) (v1 := .int q1.1) (S2 := [.int q1.1]) (am_dg dkX11_best (i := 1) rfl) ct_11_242 rfl rfl rfl (Nat.le_of_ble_eq_true rfl) (Nat.le_of_ble_eq_true rfl) (T_X11_isPlan hR (by omega) hq2) rfl ?_
  by_cases hc3 : q1.1 = (0 : Int32)
  · rw [if_pos hc3] at h
    refine aq_ifF (t := 9) (am_dg dkX11_best (i := 2) rfl) rfl (decide_eq_false (not_not_intro hc3)) ?_
    refine aq_iconst (v := (-1 : Int32)) (am_dg dkX11_best (i := 3) rfl) (by decide) ?_
    obtain rfl := Option.some.inj h
    exact aq_ireturn (am_dg dkX11_best (i := 4) rfl) rfl (Or.inl rfl) rfl
  · rw [if_neg hc3] at h
    refine aq_ifT (t := 9) (am_dg dkX11_best (i := 2) rfl) rfl (decide_eq_true hc3) ?_
    refine aq_aload_n (am_dg dkX11_best (i := 5) rfl) rfl ?_
    refine aq_getR (am_dg dkX11_best (i := 6) rfl) gk_11_55_0 (rf_0_4 hR) ?_
    refine aq_iload_n (am_dg dkX11_best (i := 7) rfl) rfl ?_
    refine aq_iconst (v := (0 : Int32)) (am_dg dkX11_best (i := 8) rfl) (by decide) ?_
    obtain ⟨q4, hq5, h⟩ := am_bnd h
    refine aq_virt (a := [.ref 50, .int a1, .int (0 : Int32)]) (S1 := []) (v1 := .null) (S2 := []) (am_dg dkX11_best (i := 9) rfl) cv_11_245_3 (am_cls_c sh_50 (by decide)) rfl rfl rfl (Nat.le_of_ble_eq_true rfl) (Nat.le_of_ble_eq_true rfl) (T_X3_search_50 hR (by omega) hq5) rfl ?_
    refine aq_aload_n (am_dg dkX11_best (i := 10) rfl) rfl ?_
    refine aq_getR (am_dg dkX11_best (i := 11) rfl) gk_11_55_0 (rf_0_4 hR) ?_
    refine aq_getI (am_dg dkX11_best (i := 12) rfl) gk_11_249_50 (by decide) ?_
    obtain rfl := Option.some.inj h
    exact aq_ireturn (am_dg dkX11_best (i := 13) rfl) rfl (Or.inl rfl) rfl
set_option maxRecDepth 20000 in
theorem T_X12_isLong {sc : Option (Nat × (Nat → Int32))} {RF : Nat → Nat → Option Nat} {d : Nat} (hR : am_RFok RF) (hd : 1 ≤ d) {a0 : Int32} {s : am_S} {r : Int32 × am_S} (h : F_X12_isLong a0 s = some r) : am_Q sc d mX12_isLong (0, am_L0 mX12_isLong [.int a0], [], am_hp RF s) (.int r.1, am_hp RF r.2) := by
  obtain ⟨e, rfl⟩ : ∃ e, d = e + 1 := ⟨d - 1, by omega⟩
  unfold F_X12_isLong at h
  show am_Q _ _ _ (0, [.int a0], [], _) _
  refine aq_iload_n (am_dg dkX12_isLong (i := 0) rfl) rfl ?_
  refine aq_i2l (am_dg dkX12_isLong (i := 1) rfl) ?_
  refine aq_lconst (v := (0 : Int64)) (am_dg dkX12_isLong (i := 2) rfl) (by decide) ?_
  refine aq_ldc2 (am_dg dkX12_isLong (i := 3) rfl) cl_12_226 ?_
  obtain ⟨q1, hq2, h⟩ := am_bnd h
  refine aq_static (a := [.long a0.toInt64, .long (0 : Int64), .long (4 : Int64)]) (S1 := []) (v1 := .int q1.1) (S2 := [.int q1.1]) (am_dg dkX12_isLong (i := 4) rfl) ct_12_61 rfl rfl rfl (Nat.le_of_ble_eq_true rfl) (Nat.le_of_ble_eq_true rfl) (T_X12_in hR (by omega) hq2) rfl ?_
  obtain ⟨hg3, h⟩ := am_guard h
  obtain rfl := Option.some.inj h
  exact aq_ireturn (am_dg dkX12_isLong (i := 5) rfl) rfl (Or.inr (Or.inl rfl)) (am_nz hg3)
set_option maxRecDepth 20000 in
theorem T_X12_saves_82_b2 {sc : Option (Nat × (Nat → Int32))} {RF : Nat → Nat → Option Nat} {d : Nat} (hR : am_RFok RF) (hd : 2 ≤ d) : ∀ (n : Nat) (x1 : Int32) (x2 : Int32) (s : am_S) (r : am_S), F_X12_saves_82_b2 n x1 x2 s = some r → am_Q sc d mX12_saves (2, [.ref 82, .int x1, .int x2], [], am_hp RF s) (.null, am_hp RF r) := by
  obtain ⟨e, rfl⟩ : ∃ e, d = e + 1 := ⟨d - 1, by omega⟩
  intro n
  induction n with
  | zero => intro x1 x2 s r h; rw [F_X12_saves_82_b2] at h; cases h
  | succ n ih =>
  intro x1 x2 s r h
  rw [F_X12_saves_82_b2] at h
  refine aq_iload_n (am_dg dkX12_saves (i := 2) rfl) rfl ?_
  refine aq_bipush (v := (6 : Int32)) (am_dg dkX12_saves (i := 3) rfl) (by decide) ?_
  by_cases hc1 : (6 : Int32) ≤ x2
  · rw [if_pos hc1] at h
    refine aq_icT (t := 51) (am_dg dkX12_saves (i := 4) rfl) rfl (decide_eq_true hc1) ?_
    refine aq_aload_n (am_dg dkX12_saves (i := 33) rfl) rfl ?_
    refine aq_getR (am_dg dkX12_saves (i := 34) rfl) gk_12_25_82 (rf_82_6 hR) ?_
    refine aq_bipush (v := (14 : Int32)) (am_dg dkX12_saves (i := 35) rfl) (by decide) ?_
    refine aq_iload_n (am_dg dkX12_saves (i := 36) rfl) rfl ?_
    refine aq_imul (am_dg dkX12_saves (i := 37) rfl) ?_
    refine aq_bipush (v := (12 : Int32)) (am_dg dkX12_saves (i := 38) rfl) (by decide) ?_
    refine aq_iadd (am_dg dkX12_saves (i := 39) rfl) ?_
    refine aq_aload_n (am_dg dkX12_saves (i := 40) rfl) rfl ?_
    refine aq_getR (am_dg dkX12_saves (i := 41) rfl) gk_12_7_82 (rf_82_0 hR) ?_
    refine aq_iconst (v := (3 : Int32)) (am_dg dkX12_saves (i := 42) rfl) (by decide) ?_
    obtain ⟨hg2, h⟩ := am_guard h
    refine aq_iald (am_dg dkX12_saves (i := 43) rfl) sh_83 hg2 ?_
    obtain ⟨hg3, h⟩ := am_guard h
    refine aq_iast (am_dg dkX12_saves (i := 44) rfl) sh_88 hg3 ?_
    obtain ⟨s4, hs5, h⟩ := am_bnd h
    rw [Option.some.inj hs5]
    refine aq_aload_n (am_dg dkX12_saves (i := 45) rfl) rfl ?_
    refine aq_getR (am_dg dkX12_saves (i := 46) rfl) gk_12_25_82 (rf_82_6 hR) ?_
    refine aq_bipush (v := (14 : Int32)) (am_dg dkX12_saves (i := 47) rfl) (by decide) ?_
    refine aq_iload_n (am_dg dkX12_saves (i := 48) rfl) rfl ?_
    refine aq_imul (am_dg dkX12_saves (i := 49) rfl) ?_
    refine aq_bipush (v := (13 : Int32)) (am_dg dkX12_saves (i := 50) rfl) (by decide) ?_
    refine aq_iadd (am_dg dkX12_saves (i := 51) rfl) ?_
    refine aq_aload_n (am_dg dkX12_saves (i := 52) rfl) rfl ?_
    refine aq_getR (am_dg dkX12_saves (i := 53) rfl) gk_12_7_82 (rf_82_0 hR) ?_
    refine aq_iconst (v := (4 : Int32)) (am_dg dkX12_saves (i := 54) rfl) (by decide) ?_
    obtain ⟨hg6, h⟩ := am_guard h
    refine aq_iald (am_dg dkX12_saves (i := 55) rfl) sh_83 hg6 ?_
    obtain ⟨hg7, h⟩ := am_guard h
    refine aq_iast (am_dg dkX12_saves (i := 56) rfl) sh_88 hg7 ?_
    obtain ⟨s8, hs9, h⟩ := am_bnd h
    rw [Option.some.inj hs9]
    obtain rfl := Option.some.inj h
    exact aq_return (am_dg dkX12_saves (i := 57) rfl) rfl
  · rw [if_neg hc1] at h
    refine aq_icF (t := 51) (am_dg dkX12_saves (i := 4) rfl) rfl (decide_eq_false hc1) ?_
    refine aq_aload_n (am_dg dkX12_saves (i := 5) rfl) rfl ?_
    refine aq_getR (am_dg dkX12_saves (i := 6) rfl) gk_12_25_82 (rf_82_6 hR) ?_
    refine aq_bipush (v := (14 : Int32)) (am_dg dkX12_saves (i := 7) rfl) (by decide) ?_
    refine aq_iload_n (am_dg dkX12_saves (i := 8) rfl) rfl ?_
    refine aq_imul (am_dg dkX12_saves (i := 9) rfl) ?_
    refine aq_iload_n (am_dg dkX12_saves (i := 10) rfl) rfl ?_
    refine aq_iadd (am_dg dkX12_saves (i := 11) rfl) ?_
    refine aq_aload_n (am_dg dkX12_saves (i := 12) rfl) rfl ?_
    refine aq_iload_n (am_dg dkX12_saves (i := 13) rfl) rfl ?_
    refine aq_iconst (v := (3 : Int32)) (am_dg dkX12_saves (i := 14) rfl) (by decide) ?_
    obtain ⟨q10, hq11, h⟩ := am_bnd h
    refine aq_virt (a := [.ref 82, .int x2, .int (3 : Int32)]) (S1 := [.int (((14 : Int32) * x1) + x2), .ref 88]) (v1 := .int q10.1) (S2 := [.int q10.1, .int (((14 : Int32) * x1) + x2), .ref 88]) (am_dg dkX12_saves (i := 15) rfl) cv_12_83_12 (am_cls_c sh_82 (by decide)) rfl rfl rfl (Nat.le_of_ble_eq_true rfl) (Nat.le_of_ble_eq_true rfl) (T_X12_its_82 hR (by omega) hq11) rfl ?_
    obtain ⟨hg12, h⟩ := am_guard h
    refine aq_iast (am_dg dkX12_saves (i := 16) rfl) sh_88 hg12 ?_
    obtain ⟨s13, hs14, h⟩ := am_bnd h
    rw [Option.some.inj hs14]
    refine aq_aload_n (am_dg dkX12_saves (i := 17) rfl) rfl ?_
    refine aq_getR (am_dg dkX12_saves (i := 18) rfl) gk_12_25_82 (rf_82_6 hR) ?_
    refine aq_bipush (v := (14 : Int32)) (am_dg dkX12_saves (i := 19) rfl) (by decide) ?_
    refine aq_iload_n (am_dg dkX12_saves (i := 20) rfl) rfl ?_
    refine aq_imul (am_dg dkX12_saves (i := 21) rfl) ?_
    refine aq_bipush (v := (6 : Int32)) (am_dg dkX12_saves (i := 22) rfl) (by decide) ?_
    refine aq_iadd (am_dg dkX12_saves (i := 23) rfl) ?_
    refine aq_iload_n (am_dg dkX12_saves (i := 24) rfl) rfl ?_
    refine aq_iadd (am_dg dkX12_saves (i := 25) rfl) ?_
    refine aq_aload_n (am_dg dkX12_saves (i := 26) rfl) rfl ?_
    refine aq_iload_n (am_dg dkX12_saves (i := 27) rfl) rfl ?_
    refine aq_iconst (v := (4 : Int32)) (am_dg dkX12_saves (i := 28) rfl) (by decide) ?_
    obtain ⟨q15, hq16, h⟩ := am_bnd h
    refine aq_virt (a := [.ref 82, .int x2, .int (4 : Int32)]) (S1 := [.int ((((14 : Int32) * x1) + (6 : Int32)) + x2), .ref 88]) (v1 := .int q15.1) (S2 := [.int q15.1, .int ((((14 : Int32) * x1) + (6 : Int32)) + x2), .ref 88]) (am_dg dkX12_saves (i := 29) rfl) cv_12_83_12 (am_cls_c sh_82 (by decide)) rfl rfl rfl (Nat.le_of_ble_eq_true rfl) (Nat.le_of_ble_eq_true rfl) (T_X12_its_82 hR (by omega) hq16) rfl ?_
    obtain ⟨hg17, h⟩ := am_guard h
    refine aq_iast (am_dg dkX12_saves (i := 30) rfl) sh_88 hg17 ?_
    obtain ⟨s18, hs19, h⟩ := am_bnd h
    rw [Option.some.inj hs19]
    refine aq_iinc (v := (1 : Int32)) (L1 := [.ref 82, .int x1, .int (x2 + (1 : Int32))]) (am_dg dkX12_saves (i := 31) rfl) rfl (by decide) rfl ?_
    refine aq_goto (t := 2) (am_dg dkX12_saves (i := 32) rfl) rfl ?_
    exact ih _ _ _ _ h
set_option maxRecDepth 20000 in
theorem T_X12_saves_82 {sc : Option (Nat × (Nat → Int32))} {RF : Nat → Nat → Option Nat} {d : Nat} (hR : am_RFok RF) (hd : 2 ≤ d) {a1 : Int32} {s : am_S} {r : am_S} (h : F_X12_saves_82 a1 s = some r) : am_Q sc d mX12_saves (0, am_L0 mX12_saves [.ref 82, .int a1], [], am_hp RF s) (.null, am_hp RF r) := by
  obtain ⟨e, rfl⟩ : ∃ e, d = e + 1 := ⟨d - 1, by omega⟩
  unfold F_X12_saves_82 at h
  show am_Q _ _ _ (0, [.ref 82, .int a1, .null], [], _) _
  refine aq_iconst (v := (0 : Int32)) (am_dg dkX12_saves (i := 0) rfl) (by decide) ?_
  refine aq_istore_n (L1 := [.ref 82, .int a1, .int (0 : Int32)]) (am_dg dkX12_saves (i := 1) rfl) rfl ?_
  exact T_X12_saves_82_b2 hR (by omega) _ _ _ _ _ h
set_option maxRecDepth 20000 in
theorem T_X12_takesBack_82_b2 {sc : Option (Nat × (Nat → Int32))} {RF : Nat → Nat → Option Nat} {d : Nat} (hR : am_RFok RF) (hd : 1 ≤ d) : ∀ (n : Nat) (x1 : Int32) (x2 : Int32) (s : am_S) (r : am_S), F_X12_takesBack_82_b2 n x1 x2 s = some r → am_Q sc d mX12_takesBack (2, [.ref 82, .int x1, .int x2], [], am_hp RF s) (.null, am_hp RF r) := by
  obtain ⟨e, rfl⟩ : ∃ e, d = e + 1 := ⟨d - 1, by omega⟩
  intro n
  induction n with
  | zero => intro x1 x2 s r h; rw [F_X12_takesBack_82_b2] at h; cases h
  | succ n ih =>
  intro x1 x2 s r h
  rw [F_X12_takesBack_82_b2] at h
  refine aq_iload_n (am_dg dkX12_takesBack (i := 2) rfl) rfl ?_
  refine aq_bipush (v := (6 : Int32)) (am_dg dkX12_takesBack (i := 3) rfl) (by decide) ?_
  by_cases hc1 : (6 : Int32) ≤ x2
  · rw [if_pos hc1] at h
    refine aq_icT (t := 59) (am_dg dkX12_takesBack (i := 4) rfl) rfl (decide_eq_true hc1) ?_
    refine aq_aload_n (am_dg dkX12_takesBack (i := 37) rfl) rfl ?_
    refine aq_getR (am_dg dkX12_takesBack (i := 38) rfl) gk_12_7_82 (rf_82_0 hR) ?_
    refine aq_iconst (v := (3 : Int32)) (am_dg dkX12_takesBack (i := 39) rfl) (by decide) ?_
    refine aq_aload_n (am_dg dkX12_takesBack (i := 40) rfl) rfl ?_
    refine aq_getR (am_dg dkX12_takesBack (i := 41) rfl) gk_12_25_82 (rf_82_6 hR) ?_
    refine aq_bipush (v := (14 : Int32)) (am_dg dkX12_takesBack (i := 42) rfl) (by decide) ?_
    refine aq_iload_n (am_dg dkX12_takesBack (i := 43) rfl) rfl ?_
    refine aq_imul (am_dg dkX12_takesBack (i := 44) rfl) ?_
    refine aq_bipush (v := (12 : Int32)) (am_dg dkX12_takesBack (i := 45) rfl) (by decide) ?_
    refine aq_iadd (am_dg dkX12_takesBack (i := 46) rfl) ?_
    obtain ⟨hg2, h⟩ := am_guard h
    refine aq_iald (am_dg dkX12_takesBack (i := 47) rfl) sh_88 hg2 ?_
    obtain ⟨hg3, h⟩ := am_guard h
    refine aq_iast (am_dg dkX12_takesBack (i := 48) rfl) sh_83 hg3 ?_
    obtain ⟨s4, hs5, h⟩ := am_bnd h
    rw [Option.some.inj hs5]
    refine aq_aload_n (am_dg dkX12_takesBack (i := 49) rfl) rfl ?_
    refine aq_getR (am_dg dkX12_takesBack (i := 50) rfl) gk_12_7_82 (rf_82_0 hR) ?_
    refine aq_iconst (v := (4 : Int32)) (am_dg dkX12_takesBack (i := 51) rfl) (by decide) ?_
    refine aq_aload_n (am_dg dkX12_takesBack (i := 52) rfl) rfl ?_
    refine aq_getR (am_dg dkX12_takesBack (i := 53) rfl) gk_12_25_82 (rf_82_6 hR) ?_
    refine aq_bipush (v := (14 : Int32)) (am_dg dkX12_takesBack (i := 54) rfl) (by decide) ?_
    refine aq_iload_n (am_dg dkX12_takesBack (i := 55) rfl) rfl ?_
    refine aq_imul (am_dg dkX12_takesBack (i := 56) rfl) ?_
    refine aq_bipush (v := (13 : Int32)) (am_dg dkX12_takesBack (i := 57) rfl) (by decide) ?_
    refine aq_iadd (am_dg dkX12_takesBack (i := 58) rfl) ?_
    obtain ⟨hg6, h⟩ := am_guard h
    refine aq_iald (am_dg dkX12_takesBack (i := 59) rfl) sh_88 hg6 ?_
    obtain ⟨hg7, h⟩ := am_guard h
    refine aq_iast (am_dg dkX12_takesBack (i := 60) rfl) sh_83 hg7 ?_
    obtain ⟨s8, hs9, h⟩ := am_bnd h
    rw [Option.some.inj hs9]
    obtain rfl := Option.some.inj h
    exact aq_return (am_dg dkX12_takesBack (i := 61) rfl) rfl
  · rw [if_neg hc1] at h
    refine aq_icF (t := 59) (am_dg dkX12_takesBack (i := 4) rfl) rfl (decide_eq_false hc1) ?_
    refine aq_aload_n (am_dg dkX12_takesBack (i := 5) rfl) rfl ?_
    refine aq_getR (am_dg dkX12_takesBack (i := 6) rfl) gk_12_7_82 (rf_82_0 hR) ?_
    refine aq_iload_n (am_dg dkX12_takesBack (i := 7) rfl) rfl ?_
    refine aq_iconst (v := (3 : Int32)) (am_dg dkX12_takesBack (i := 8) rfl) (by decide) ?_
    obtain ⟨q10, hq11, h⟩ := am_bnd h
    refine aq_static (a := [.int x2, .int (3 : Int32)]) (S1 := [.ref 83]) (v1 := .int q10.1) (S2 := [.int q10.1, .ref 83]) (am_dg dkX12_takesBack (i := 9) rfl) ct_12_65 rfl rfl rfl (Nat.le_of_ble_eq_true rfl) (Nat.le_of_ble_eq_true rfl) (T_X12_at hR (by omega) hq11) rfl ?_
    refine aq_aload_n (am_dg dkX12_takesBack (i := 10) rfl) rfl ?_
    refine aq_getR (am_dg dkX12_takesBack (i := 11) rfl) gk_12_25_82 (rf_82_6 hR) ?_
    refine aq_bipush (v := (14 : Int32)) (am_dg dkX12_takesBack (i := 12) rfl) (by decide) ?_
    refine aq_iload_n (am_dg dkX12_takesBack (i := 13) rfl) rfl ?_
    refine aq_imul (am_dg dkX12_takesBack (i := 14) rfl) ?_
    refine aq_iload_n (am_dg dkX12_takesBack (i := 15) rfl) rfl ?_
    refine aq_iadd (am_dg dkX12_takesBack (i := 16) rfl) ?_
    obtain ⟨hg12, h⟩ := am_guard h
    refine aq_iald (am_dg dkX12_takesBack (i := 17) rfl) sh_88 hg12 ?_
    obtain ⟨hg13, h⟩ := am_guard h
    refine aq_iast (am_dg dkX12_takesBack (i := 18) rfl) sh_83 hg13 ?_
    obtain ⟨s14, hs15, h⟩ := am_bnd h
    rw [Option.some.inj hs15]
    refine aq_aload_n (am_dg dkX12_takesBack (i := 19) rfl) rfl ?_
    refine aq_getR (am_dg dkX12_takesBack (i := 20) rfl) gk_12_7_82 (rf_82_0 hR) ?_
    refine aq_iload_n (am_dg dkX12_takesBack (i := 21) rfl) rfl ?_
    refine aq_iconst (v := (4 : Int32)) (am_dg dkX12_takesBack (i := 22) rfl) (by decide) ?_
    obtain ⟨q16, hq17, h⟩ := am_bnd h
    refine aq_static (a := [.int x2, .int (4 : Int32)]) (S1 := [.ref 83]) (v1 := .int q16.1) (S2 := [.int q16.1, .ref 83]) (am_dg dkX12_takesBack (i := 23) rfl) ct_12_65 rfl rfl rfl (Nat.le_of_ble_eq_true rfl) (Nat.le_of_ble_eq_true rfl) (T_X12_at hR (by omega) hq17) rfl ?_
    refine aq_aload_n (am_dg dkX12_takesBack (i := 24) rfl) rfl ?_
    refine aq_getR (am_dg dkX12_takesBack (i := 25) rfl) gk_12_25_82 (rf_82_6 hR) ?_
    refine aq_bipush (v := (14 : Int32)) (am_dg dkX12_takesBack (i := 26) rfl) (by decide) ?_
    refine aq_iload_n (am_dg dkX12_takesBack (i := 27) rfl) rfl ?_
    refine aq_imul (am_dg dkX12_takesBack (i := 28) rfl) ?_
    refine aq_bipush (v := (6 : Int32)) (am_dg dkX12_takesBack (i := 29) rfl) (by decide) ?_
    refine aq_iadd (am_dg dkX12_takesBack (i := 30) rfl) ?_
    refine aq_iload_n (am_dg dkX12_takesBack (i := 31) rfl) rfl ?_
    refine aq_iadd (am_dg dkX12_takesBack (i := 32) rfl) ?_
    obtain ⟨hg18, h⟩ := am_guard h
    refine aq_iald (am_dg dkX12_takesBack (i := 33) rfl) sh_88 hg18 ?_
    obtain ⟨hg19, h⟩ := am_guard h
    refine aq_iast (am_dg dkX12_takesBack (i := 34) rfl) sh_83 hg19 ?_
    obtain ⟨s20, hs21, h⟩ := am_bnd h
    rw [Option.some.inj hs21]
    refine aq_iinc (v := (1 : Int32)) (L1 := [.ref 82, .int x1, .int (x2 + (1 : Int32))]) (am_dg dkX12_takesBack (i := 35) rfl) rfl (by decide) rfl ?_
    refine aq_goto (t := 2) (am_dg dkX12_takesBack (i := 36) rfl) rfl ?_
    exact ih _ _ _ _ h
set_option maxRecDepth 20000 in
theorem T_X12_takesBack_82 {sc : Option (Nat × (Nat → Int32))} {RF : Nat → Nat → Option Nat} {d : Nat} (hR : am_RFok RF) (hd : 1 ≤ d) {a1 : Int32} {s : am_S} {r : am_S} (h : F_X12_takesBack_82 a1 s = some r) : am_Q sc d mX12_takesBack (0, am_L0 mX12_takesBack [.ref 82, .int a1], [], am_hp RF s) (.null, am_hp RF r) := by
  obtain ⟨e, rfl⟩ : ∃ e, d = e + 1 := ⟨d - 1, by omega⟩
  unfold F_X12_takesBack_82 at h
  show am_Q _ _ _ (0, [.ref 82, .int a1, .null], [], _) _
  refine aq_iconst (v := (0 : Int32)) (am_dg dkX12_takesBack (i := 0) rfl) (by decide) ?_
  refine aq_istore_n (L1 := [.ref 82, .int a1, .int (0 : Int32)]) (am_dg dkX12_takesBack (i := 1) rfl) rfl ?_
  exact T_X12_takesBack_82_b2 hR (by omega) _ _ _ _ _ h
set_option maxRecDepth 20000 in
theorem T_X12_ended_82_b97 {sc : Option (Nat × (Nat → Int32))} {RF : Nat → Nat → Option Nat} {d : Nat} (hR : am_RFok RF) (hd : 3 ≤ d) {k75 : Int32 → Int32 → Int32 → Int32 → am_S → Option (am_S)} (hk75 : ∀ (x1 : Int32) (x2 : Int32) (x3 : Int32) (x4 : Int32) (s2 : am_S) (r2 : am_S), k75 x1 x2 x3 x4 s2 = some r2 → am_Q sc d mX12_ended (75, [.ref 82, .int x1, .int x2, .int x3, .int x4], [], am_hp RF s2) (.null, am_hp RF r2)) : ∀ (x1 : Int32) (x2 : Int32) (x4 : Int32) (y0 : Int32) (y1 : Int32) (w3 : Value) (s : am_S) (r : am_S), F_X12_ended_82_b97 k75 x1 x2 x4 y0 y1 s = some r → am_Q sc d mX12_ended (97, [.ref 82, .int x1, .int x2, w3, .int x4], [.int y0, .int y1], am_hp RF s) (.null, am_hp RF r) := by
  obtain ⟨e, rfl⟩ : ∃ e, d = e + 1 := ⟨d - 1, by omega⟩
  intro x1 x2 x4 y0 y1 w3 s r h
  unfold F_X12_ended_82_b97 at h
  refine aq_iadd (am_dg dkX12_ended (i := 56) rfl) ?_
  refine aq_istore_n (L1 := [.ref 82, .int x1, .int x2, .int (y1 + y0), .int x4]) (am_dg dkX12_ended (i := 57) rfl) rfl ?_
  refine aq_iinc (v := (1 : Int32)) (L1 := [.ref 82, .int x1, .int x2, .int (y1 + y0), .int (x4 + (1 : Int32))]) (am_dg dkX12_ended (i := 58) rfl) rfl (by decide) rfl ?_
  refine aq_goto (t := 75) (am_dg dkX12_ended (i := 59) rfl) rfl ?_
  exact hk75 _ _ _ _ _ _ h
set_option maxRecDepth 20000 in
theorem T_X12_ended_82_b75 {sc : Option (Nat × (Nat → Int32))} {RF : Nat → Nat → Option Nat} {d : Nat} (hR : am_RFok RF) (hd : 3 ≤ d) : ∀ (n : Nat) (x1 : Int32) (x2 : Int32) (x3 : Int32) (x4 : Int32) (s : am_S) (r : am_S), F_X12_ended_82_b75 n x1 x2 x3 x4 s = some r → am_Q sc d mX12_ended (75, [.ref 82, .int x1, .int x2, .int x3, .int x4], [], am_hp RF s) (.null, am_hp RF r) := by
  obtain ⟨e, rfl⟩ : ∃ e, d = e + 1 := ⟨d - 1, by omega⟩
  intro n
  induction n with
  | zero => intro x1 x2 x3 x4 s r h; rw [F_X12_ended_82_b75] at h; cases h
  | succ n ih =>
  intro x1 x2 x3 x4 s r h
  rw [F_X12_ended_82_b75] at h
  refine aq_iload (am_dg dkX12_ended (i := 44) rfl) rfl ?_
  refine aq_iload_n (am_dg dkX12_ended (i := 45) rfl) rfl ?_
  by_cases hc1 : x1 ≤ x4
  · rw [if_pos hc1] at h
    refine aq_icT (t := 105) (am_dg dkX12_ended (i := 46) rfl) rfl (decide_eq_true hc1) ?_
    refine aq_aload_n (am_dg dkX12_ended (i := 60) rfl) rfl ?_
    obtain ⟨q2, hq3, h⟩ := am_bnd h
    refine aq_virt (a := [.ref 82]) (S1 := []) (v1 := .int q2.1) (S2 := [.int q2.1]) (am_dg dkX12_ended (i := 61) rfl) cv_12_122_12 (am_cls_c sh_82 (by decide)) rfl rfl rfl (Nat.le_of_ble_eq_true rfl) (Nat.le_of_ble_eq_true rfl) (T_X12_caught_82 hR (by omega) hq3) rfl ?_
    refine aq_istore (L1 := [.ref 82, .int x1, .int x2, .int x3, .int q2.1]) (am_dg dkX12_ended (i := 62) rfl) rfl ?_
    refine aq_aload_n (am_dg dkX12_ended (i := 63) rfl) rfl ?_
    refine aq_dup (am_dg dkX12_ended (i := 64) rfl) rfl ?_
    refine aq_getI (am_dg dkX12_ended (i := 65) rfl) gk_12_202_82 (by decide) ?_
    refine aq_iload (am_dg dkX12_ended (i := 66) rfl) rfl ?_
    refine aq_ior (am_dg dkX12_ended (i := 67) rfl) ?_
    refine aq_putI (am_dg dkX12_ended (i := 68) rfl) gk_12_202_82 ?_
    obtain ⟨s4, hs5, h⟩ := am_bnd h
    rw [Option.some.inj hs5]
    refine aq_aload_n (am_dg dkX12_ended (i := 69) rfl) rfl ?_
    refine aq_aload_n (am_dg dkX12_ended (i := 70) rfl) rfl ?_
    refine aq_getI (am_dg dkX12_ended (i := 71) rfl) gk_12_205_82 (by decide) ?_
    refine aq_iload (am_dg dkX12_ended (i := 72) rfl) rfl ?_
    refine aq_iconst (v := (-1 : Int32)) (am_dg dkX12_ended (i := 73) rfl) (by decide) ?_
    refine aq_ixor (am_dg dkX12_ended (i := 74) rfl) ?_
    refine aq_iand (am_dg dkX12_ended (i := 75) rfl) ?_
    by_cases hc6 : ((s4.1 82 13) &&& (q2.1 ^^^ (-1 : Int32))) = (0 : Int32)
    · rw [if_pos hc6] at h
      refine aq_ifF (t := 147) (am_dg dkX12_ended (i := 76) rfl) rfl (decide_eq_false (not_not_intro hc6)) ?_
      refine aq_iload_n (am_dg dkX12_ended (i := 77) rfl) rfl ?_
      refine aq_aload_n (am_dg dkX12_ended (i := 78) rfl) rfl ?_
      refine aq_getI (am_dg dkX12_ended (i := 79) rfl) gk_12_208_82 (by decide) ?_
      by_cases hc7 : (s4.1 82 11) ≤ x3
      · rw [if_pos hc7] at h
        refine aq_icT (t := 147) (am_dg dkX12_ended (i := 80) rfl) rfl (decide_eq_true hc7) ?_
        refine aq_aload_n (am_dg dkX12_ended (i := 83) rfl) rfl ?_
        refine aq_getI (am_dg dkX12_ended (i := 84) rfl) gk_12_208_82 (by decide) ?_
        refine aq_putI (am_dg dkX12_ended (i := 85) rfl) gk_12_208_82 ?_
        obtain ⟨s8, hs9, h⟩ := am_bnd h
        rw [Option.some.inj hs9]
        obtain rfl := Option.some.inj h
        exact aq_return (am_dg dkX12_ended (i := 86) rfl) rfl
      · rw [if_neg hc7] at h
        refine aq_icF (t := 147) (am_dg dkX12_ended (i := 80) rfl) rfl (decide_eq_false hc7) ?_
        refine aq_iload_n (am_dg dkX12_ended (i := 81) rfl) rfl ?_
        refine aq_goto (t := 151) (am_dg dkX12_ended (i := 82) rfl) rfl ?_
        refine aq_putI (am_dg dkX12_ended (i := 85) rfl) gk_12_208_82 ?_
        obtain ⟨s10, hs11, h⟩ := am_bnd h
        rw [Option.some.inj hs11]
        obtain rfl := Option.some.inj h
        exact aq_return (am_dg dkX12_ended (i := 86) rfl) rfl
    · rw [if_neg hc6] at h
      refine aq_ifT (t := 147) (am_dg dkX12_ended (i := 76) rfl) rfl (decide_eq_true hc6) ?_
      refine aq_aload_n (am_dg dkX12_ended (i := 83) rfl) rfl ?_
      refine aq_getI (am_dg dkX12_ended (i := 84) rfl) gk_12_208_82 (by decide) ?_
      refine aq_putI (am_dg dkX12_ended (i := 85) rfl) gk_12_208_82 ?_
      obtain ⟨s12, hs13, h⟩ := am_bnd h
      rw [Option.some.inj hs13]
      obtain rfl := Option.some.inj h
      exact aq_return (am_dg dkX12_ended (i := 86) rfl) rfl
  · rw [if_neg hc1] at h
    refine aq_icF (t := 105) (am_dg dkX12_ended (i := 46) rfl) rfl (decide_eq_false hc1) ?_
    refine aq_iload_n (am_dg dkX12_ended (i := 47) rfl) rfl ?_
    refine aq_aload_n (am_dg dkX12_ended (i := 48) rfl) rfl ?_
    refine aq_getR (am_dg dkX12_ended (i := 49) rfl) gk_12_28_82 (rf_82_7 hR) ?_
    refine aq_iload (am_dg dkX12_ended (i := 50) rfl) rfl ?_
    obtain ⟨hg14, h⟩ := am_guard h
    refine aq_iald (am_dg dkX12_ended (i := 51) rfl) sh_89 hg14 ?_
    by_cases hc15 : (s.1 89 x4.toNatClampNeg) ≤ (0 : Int32)
    · rw [if_pos hc15] at h
      refine aq_ifT (t := 96) (am_dg dkX12_ended (i := 52) rfl) rfl (decide_eq_true hc15) ?_
      refine aq_iconst (v := (0 : Int32)) (am_dg dkX12_ended (i := 55) rfl) (by decide) ?_
      exact T_X12_ended_82_b97 hR (by omega) ih _ _ _ _ _ _ _ _ h
    · rw [if_neg hc15] at h
      refine aq_ifF (t := 96) (am_dg dkX12_ended (i := 52) rfl) rfl (decide_eq_false hc15) ?_
      refine aq_iconst (v := (1 : Int32)) (am_dg dkX12_ended (i := 53) rfl) (by decide) ?_
      refine aq_goto (t := 97) (am_dg dkX12_ended (i := 54) rfl) rfl ?_
      exact T_X12_ended_82_b97 hR (by omega) ih _ _ _ _ _ _ _ _ h
set_option maxRecDepth 20000 in
theorem T_X12_ended_82_b66 {sc : Option (Nat × (Nat → Int32))} {RF : Nat → Nat → Option Nat} {d : Nat} (hR : am_RFok RF) (hd : 3 ≤ d) : ∀ (x1 : Int32) (x2 : Int32) (y0 : Int32) (y1 : Int32) (w3 : Value) (w4 : Value) (s : am_S) (r : am_S), F_X12_ended_82_b66 x1 x2 y0 y1 s = some r → am_Q sc d mX12_ended (66, [.ref 82, .int x1, .int x2, w3, w4], [.int y0, .int y1, .ref 82], am_hp RF s) (.null, am_hp RF r) := by
  obtain ⟨e, rfl⟩ : ∃ e, d = e + 1 := ⟨d - 1, by omega⟩
  intro x1 x2 y0 y1 w3 w4 s r h
  unfold F_X12_ended_82_b66 at h
  refine aq_iadd (am_dg dkX12_ended (i := 38) rfl) ?_
  refine aq_putI (am_dg dkX12_ended (i := 39) rfl) gk_12_196_82 ?_
  obtain ⟨s1, hs2, h⟩ := am_bnd h
  rw [Option.some.inj hs2]
  refine aq_iconst (v := (0 : Int32)) (am_dg dkX12_ended (i := 40) rfl) (by decide) ?_
  refine aq_istore_n (L1 := [.ref 82, .int x1, .int x2, .int (0 : Int32), w4]) (am_dg dkX12_ended (i := 41) rfl) rfl ?_
  refine aq_iconst (v := (0 : Int32)) (am_dg dkX12_ended (i := 42) rfl) (by decide) ?_
  refine aq_istore (L1 := [.ref 82, .int x1, .int x2, .int (0 : Int32), .int (0 : Int32)]) (am_dg dkX12_ended (i := 43) rfl) rfl ?_
  exact T_X12_ended_82_b75 hR (by omega) _ _ _ _ _ _ _ h
set_option maxRecDepth 20000 in
theorem T_X12_ended_82_b48 {sc : Option (Nat × (Nat → Int32))} {RF : Nat → Nat → Option Nat} {d : Nat} (hR : am_RFok RF) (hd : 3 ≤ d) : ∀ (x1 : Int32) (x2 : Int32) (w3 : Value) (w4 : Value) (s : am_S) (r : am_S), F_X12_ended_82_b48 x1 x2 s = some r → am_Q sc d mX12_ended (48, [.ref 82, .int x1, .int x2, w3, w4], [], am_hp RF s) (.null, am_hp RF r) := by
  obtain ⟨e, rfl⟩ : ∃ e, d = e + 1 := ⟨d - 1, by omega⟩
  intro x1 x2 w3 w4 s r h
  unfold F_X12_ended_82_b48 at h
  refine aq_aload_n (am_dg dkX12_ended (i := 28) rfl) rfl ?_
  refine aq_dup (am_dg dkX12_ended (i := 29) rfl) rfl ?_
  refine aq_getI (am_dg dkX12_ended (i := 30) rfl) gk_12_196_82 (by decide) ?_
  refine aq_iload_n (am_dg dkX12_ended (i := 31) rfl) rfl ?_
  refine aq_aload_n (am_dg dkX12_ended (i := 32) rfl) rfl ?_
  refine aq_getI (am_dg dkX12_ended (i := 33) rfl) gk_12_192_82 (by decide) ?_
  by_cases hc1 : x2 = (s.1 82 9)
  · rw [if_pos hc1] at h
    refine aq_icF (t := 65) (am_dg dkX12_ended (i := 34) rfl) rfl (decide_eq_false (not_not_intro hc1)) ?_
    refine aq_iconst (v := (1 : Int32)) (am_dg dkX12_ended (i := 35) rfl) (by decide) ?_
    refine aq_goto (t := 66) (am_dg dkX12_ended (i := 36) rfl) rfl ?_
    exact T_X12_ended_82_b66 hR (by omega) _ _ _ _ _ _ _ _ h
  · rw [if_neg hc1] at h
    refine aq_icT (t := 65) (am_dg dkX12_ended (i := 34) rfl) rfl (decide_eq_true hc1) ?_
    refine aq_iconst (v := (0 : Int32)) (am_dg dkX12_ended (i := 37) rfl) (by decide) ?_
    exact T_X12_ended_82_b66 hR (by omega) _ _ _ _ _ _ _ _ h
set_option maxRecDepth 20000 in
theorem T_X12_ended_82_b25 {sc : Option (Nat × (Nat → Int32))} {RF : Nat → Nat → Option Nat} {d : Nat} (hR : am_RFok RF) (hd : 3 ≤ d) : ∀ (n : Nat) (x1 : Int32) (x2 : Int32) (x3 : Int32) (w4 : Value) (s : am_S) (r : am_S), F_X12_ended_82_b25 n x1 x2 x3 s = some r → am_Q sc d mX12_ended (25, [.ref 82, .int x1, .int x2, .int x3, w4], [], am_hp RF s) (.null, am_hp RF r) := by
  obtain ⟨e, rfl⟩ : ∃ e, d = e + 1 := ⟨d - 1, by omega⟩
  intro n
  induction n with
  | zero => intro x1 x2 x3 w4 s r h; rw [F_X12_ended_82_b25] at h; cases h
  | succ n ih =>
  intro x1 x2 x3 w4 s r h
  rw [F_X12_ended_82_b25] at h
  refine aq_iload_n (am_dg dkX12_ended (i := 15) rfl) rfl ?_
  refine aq_iload_n (am_dg dkX12_ended (i := 16) rfl) rfl ?_
  by_cases hc1 : x1 ≤ x3
  · rw [if_pos hc1] at h
    refine aq_icT (t := 48) (am_dg dkX12_ended (i := 17) rfl) rfl (decide_eq_true hc1) ?_
    exact T_X12_ended_82_b48 hR (by omega) _ _ _ _ _ _ h
  · rw [if_neg hc1] at h
    refine aq_icF (t := 48) (am_dg dkX12_ended (i := 17) rfl) rfl (decide_eq_false hc1) ?_
    refine aq_aload_n (am_dg dkX12_ended (i := 18) rfl) rfl ?_
    refine aq_getR (am_dg dkX12_ended (i := 19) rfl) gk_12_31_82 (rf_82_8 hR) ?_
    refine aq_iload_n (am_dg dkX12_ended (i := 20) rfl) rfl ?_
    refine aq_aload_n (am_dg dkX12_ended (i := 21) rfl) rfl ?_
    refine aq_getR (am_dg dkX12_ended (i := 22) rfl) gk_12_28_82 (rf_82_7 hR) ?_
    refine aq_iload_n (am_dg dkX12_ended (i := 23) rfl) rfl ?_
    obtain ⟨hg2, h⟩ := am_guard h
    refine aq_iald (am_dg dkX12_ended (i := 24) rfl) sh_89 hg2 ?_
    obtain ⟨hg3, h⟩ := am_guard h
    refine aq_iast (am_dg dkX12_ended (i := 25) rfl) sh_90 hg3 ?_
    obtain ⟨s4, hs5, h⟩ := am_bnd h
    rw [Option.some.inj hs5]
    refine aq_iinc (v := (1 : Int32)) (L1 := [.ref 82, .int x1, .int x2, .int (x3 + (1 : Int32)), w4]) (am_dg dkX12_ended (i := 26) rfl) rfl (by decide) rfl ?_
    refine aq_goto (t := 25) (am_dg dkX12_ended (i := 27) rfl) rfl ?_
    exact ih _ _ _ _ _ _ h
set_option maxRecDepth 20000 in
theorem T_X12_ended_82 {sc : Option (Nat × (Nat → Int32))} {RF : Nat → Nat → Option Nat} {d : Nat} (hR : am_RFok RF) (hd : 3 ≤ d) {a1 : Int32} {a2 : Int32} {s : am_S} {r : am_S} (h : F_X12_ended_82 a1 a2 s = some r) : am_Q sc d mX12_ended (0, am_L0 mX12_ended [.ref 82, .int a1, .int a2], [], am_hp RF s) (.null, am_hp RF r) := by
  obtain ⟨e, rfl⟩ : ∃ e, d = e + 1 := ⟨d - 1, by omega⟩
  unfold F_X12_ended_82 at h
  show am_Q _ _ _ (0, [.ref 82, .int a1, .int a2, .null, .null], [], _) _
  refine aq_iload_n (am_dg dkX12_ended (i := 0) rfl) rfl ?_
  refine aq_aload_n (am_dg dkX12_ended (i := 1) rfl) rfl ?_
  refine aq_getI (am_dg dkX12_ended (i := 2) rfl) gk_12_192_82 (by decide) ?_
  by_cases hc1 : a2 ≤ (s.1 82 9)
  · rw [if_pos hc1] at h
    refine aq_icT (t := 48) (am_dg dkX12_ended (i := 3) rfl) rfl (decide_eq_true hc1) ?_
    exact T_X12_ended_82_b48 hR (by omega) _ _ _ _ _ _ h
  · rw [if_neg hc1] at h
    refine aq_icF (t := 48) (am_dg dkX12_ended (i := 3) rfl) rfl (decide_eq_false hc1) ?_
    refine aq_aload_n (am_dg dkX12_ended (i := 4) rfl) rfl ?_
    refine aq_iload_n (am_dg dkX12_ended (i := 5) rfl) rfl ?_
    refine aq_putI (am_dg dkX12_ended (i := 6) rfl) gk_12_192_82 ?_
    obtain ⟨s2, hs3, h⟩ := am_bnd h
    rw [Option.some.inj hs3]
    refine aq_aload_n (am_dg dkX12_ended (i := 7) rfl) rfl ?_
    refine aq_iconst (v := (0 : Int32)) (am_dg dkX12_ended (i := 8) rfl) (by decide) ?_
    refine aq_putI (am_dg dkX12_ended (i := 9) rfl) gk_12_196_82 ?_
    obtain ⟨s4, hs5, h⟩ := am_bnd h
    rw [Option.some.inj hs5]
    refine aq_aload_n (am_dg dkX12_ended (i := 10) rfl) rfl ?_
    refine aq_iload_n (am_dg dkX12_ended (i := 11) rfl) rfl ?_
    refine aq_putI (am_dg dkX12_ended (i := 12) rfl) gk_12_199_82 ?_
    obtain ⟨s6, hs7, h⟩ := am_bnd h
    rw [Option.some.inj hs7]
    refine aq_iconst (v := (0 : Int32)) (am_dg dkX12_ended (i := 13) rfl) (by decide) ?_
    refine aq_istore_n (L1 := [.ref 82, .int a1, .int a2, .int (0 : Int32), .null]) (am_dg dkX12_ended (i := 14) rfl) rfl ?_
    exact T_X12_ended_82_b25 hR (by omega) _ _ _ _ _ _ _ h
set_option maxRecDepth 20000 in
theorem T_X12_plans_82_b12 {sc : Option (Nat × (Nat → Int32))} {RF : Nat → Nat → Option Nat} {d : Nat} (hR : am_RFok RF) (hd : 7 ≤ d) {rc : Int32 → Int32 → Int32 → am_S → Option (am_S)} {dr : Nat} (hdr : dr + 1 ≤ d) (hrc : ∀ (c0 : Int32) (c1 : Int32) (c2 : Int32) (s2 : am_S) (r2 : am_S), rc c0 c1 c2 s2 = some r2 → am_Q sc dr mX12_plans (0, am_L0 mX12_plans [.ref 82, .int c0, .int c1, .int c2], [], am_hp RF s2) (.null, am_hp RF r2)) : ∀ (x1 : Int32) (x3 : Int32) (w2 : Value) (w4 : Value) (s : am_S) (r : am_S), F_X12_plans_82_b12 rc x1 x3 s = some r → am_Q sc d mX12_plans (12, [.ref 82, .int x1, w2, .int x3, w4], [], am_hp RF s) (.null, am_hp RF r) := by
  obtain ⟨e, rfl⟩ : ∃ e, d = e + 1 := ⟨d - 1, by omega⟩
  intro x1 x3 w2 w4 s r h
  unfold F_X12_plans_82_b12 at h
  refine aq_aload_n (am_dg dkX12_plans (i := 6) rfl) rfl ?_
  refine aq_iload_n (am_dg dkX12_plans (i := 7) rfl) rfl ?_
  refine aq_iload_n (am_dg dkX12_plans (i := 8) rfl) rfl ?_
  obtain ⟨q1, hq2, h⟩ := am_bnd h
  refine aq_virt (a := [.ref 82, .int x1, .int x3]) (S1 := []) (v1 := .null) (S2 := []) (am_dg dkX12_plans (i := 9) rfl) cv_12_211_12 (am_cls_c sh_82 (by decide)) rfl rfl rfl (Nat.le_of_ble_eq_true rfl) (Nat.le_of_ble_eq_true rfl) (T_X12_ended_82 hR (by omega) hq2) rfl ?_
  obtain rfl := Option.some.inj h
  exact aq_return (am_dg dkX12_plans (i := 10) rfl) rfl
set_option maxRecDepth 20000 in
theorem T_X12_plans_82_b22 {sc : Option (Nat × (Nat → Int32))} {RF : Nat → Nat → Option Nat} {d : Nat} (hR : am_RFok RF) (hd : 7 ≤ d) {rc : Int32 → Int32 → Int32 → am_S → Option (am_S)} {dr : Nat} (hdr : dr + 1 ≤ d) (hrc : ∀ (c0 : Int32) (c1 : Int32) (c2 : Int32) (s2 : am_S) (r2 : am_S), rc c0 c1 c2 s2 = some r2 → am_Q sc dr mX12_plans (0, am_L0 mX12_plans [.ref 82, .int c0, .int c1, .int c2], [], am_hp RF s2) (.null, am_hp RF r2)) : ∀ (n : Nat) (x1 : Int32) (x2 : Int32) (x3 : Int32) (x4 : Int32) (s : am_S) (r : am_S), F_X12_plans_82_b22 rc n x1 x2 x3 x4 s = some r → am_Q sc d mX12_plans (22, [.ref 82, .int x1, .int x2, .int x3, .int x4], [], am_hp RF s) (.null, am_hp RF r) := by
  obtain ⟨e, rfl⟩ : ∃ e, d = e + 1 := ⟨d - 1, by omega⟩
  intro n
  induction n with
  | zero => intro x1 x2 x3 x4 s r h; rw [F_X12_plans_82_b22] at h; cases h
  | succ n ih =>
  intro x1 x2 x3 x4 s r h
  rw [F_X12_plans_82_b22] at h
  refine aq_iload (am_dg dkX12_plans (i := 13) rfl) rfl ?_
  refine aq_aload_n (am_dg dkX12_plans (i := 14) rfl) rfl ?_
  refine aq_getR (am_dg dkX12_plans (i := 15) rfl) gk_12_7_82 (rf_82_0 hR) ?_
  refine aq_iconst (v := (0 : Int32)) (am_dg dkX12_plans (i := 16) rfl) (by decide) ?_
  obtain ⟨hg1, h⟩ := am_guard h
  refine aq_iald (am_dg dkX12_plans (i := 17) rfl) sh_83 hg1 ?_
  by_cases hc2 : (s.1 83 (0 : Int32).toNatClampNeg) < x4
  · rw [if_pos hc2] at h
    refine aq_icT (t := 73) (am_dg dkX12_plans (i := 18) rfl) rfl (decide_eq_true hc2) ?_
    obtain rfl := Option.some.inj h
    exact aq_return (am_dg dkX12_plans (i := 43) rfl) rfl
  · rw [if_neg hc2] at h
    refine aq_icF (t := 73) (am_dg dkX12_plans (i := 18) rfl) rfl (decide_eq_false hc2) ?_
    refine aq_aload_n (am_dg dkX12_plans (i := 19) rfl) rfl ?_
    refine aq_iload_n (am_dg dkX12_plans (i := 20) rfl) rfl ?_
    obtain ⟨q3, hq4, h⟩ := am_bnd h
    refine aq_virt (a := [.ref 82, .int x1]) (S1 := []) (v1 := .null) (S2 := []) (am_dg dkX12_plans (i := 21) rfl) cv_12_215_12 (am_cls_c sh_82 (by decide)) rfl rfl rfl (Nat.le_of_ble_eq_true rfl) (Nat.le_of_ble_eq_true rfl) (T_X12_saves_82 hR (by omega) hq4) rfl ?_
    refine aq_aload_n (am_dg dkX12_plans (i := 22) rfl) rfl ?_
    refine aq_getR (am_dg dkX12_plans (i := 23) rfl) gk_12_28_82 (rf_82_7 hR) ?_
    refine aq_iload_n (am_dg dkX12_plans (i := 24) rfl) rfl ?_
    refine aq_iload (am_dg dkX12_plans (i := 25) rfl) rfl ?_
    obtain ⟨hg5, h⟩ := am_guard h
    refine aq_iast (am_dg dkX12_plans (i := 26) rfl) sh_89 hg5 ?_
    obtain ⟨s6, hs7, h⟩ := am_bnd h
    rw [Option.some.inj hs7]
    refine aq_aload_n (am_dg dkX12_plans (i := 27) rfl) rfl ?_
    refine aq_iload_n (am_dg dkX12_plans (i := 28) rfl) rfl ?_
    refine aq_iconst (v := (1 : Int32)) (am_dg dkX12_plans (i := 29) rfl) (by decide) ?_
    refine aq_iadd (am_dg dkX12_plans (i := 30) rfl) ?_
    refine aq_iload_n (am_dg dkX12_plans (i := 31) rfl) rfl ?_
    refine aq_iload_n (am_dg dkX12_plans (i := 32) rfl) rfl ?_
    refine aq_aload_n (am_dg dkX12_plans (i := 33) rfl) rfl ?_
    refine aq_iload (am_dg dkX12_plans (i := 34) rfl) rfl ?_
    obtain ⟨q8, hq9, h⟩ := am_bnd h
    refine aq_virt (a := [.ref 82, .int x4]) (S1 := [.int x3, .int x2, .int (x1 + (1 : Int32)), .ref 82]) (v1 := .int q8.1) (S2 := [.int q8.1, .int x3, .int x2, .int (x1 + (1 : Int32)), .ref 82]) (am_dg dkX12_plans (i := 35) rfl) cv_12_159_12 (am_cls_c sh_82 (by decide)) rfl rfl rfl (Nat.le_of_ble_eq_true rfl) (Nat.le_of_ble_eq_true rfl) (T_X12_goes_82 hR (by omega) hq9) rfl ?_
    refine aq_iadd (am_dg dkX12_plans (i := 36) rfl) ?_
    obtain ⟨q10, hq11, h⟩ := am_bnd h
    refine aq_virt (a := [.ref 82, .int (x1 + (1 : Int32)), .int x2, .int (x3 + q8.1)]) (S1 := []) (v1 := .null) (S2 := []) (am_dg dkX12_plans (i := 37) rfl) cv_12_219_12 (am_cls_c sh_82 (by decide)) rfl rfl rfl (Nat.le_of_ble_eq_true rfl) (Nat.le_of_ble_eq_true rfl) (am_Q_le (hrc _ _ _ _ _ hq11) (by omega)) rfl ?_
    refine aq_aload_n (am_dg dkX12_plans (i := 38) rfl) rfl ?_
    refine aq_iload_n (am_dg dkX12_plans (i := 39) rfl) rfl ?_
    obtain ⟨q12, hq13, h⟩ := am_bnd h
    refine aq_virt (a := [.ref 82, .int x1]) (S1 := []) (v1 := .null) (S2 := []) (am_dg dkX12_plans (i := 40) rfl) cv_12_223_12 (am_cls_c sh_82 (by decide)) rfl rfl rfl (Nat.le_of_ble_eq_true rfl) (Nat.le_of_ble_eq_true rfl) (T_X12_takesBack_82 hR (by omega) hq13) rfl ?_
    refine aq_iinc (v := (1 : Int32)) (L1 := [.ref 82, .int x1, .int x2, .int x3, .int (x4 + (1 : Int32))]) (am_dg dkX12_plans (i := 41) rfl) rfl (by decide) rfl ?_
    refine aq_goto (t := 22) (am_dg dkX12_plans (i := 42) rfl) rfl ?_
    exact ih _ _ _ _ _ _ h
set_option maxRecDepth 20000 in
theorem T_X12_plans_82_o {sc : Option (Nat × (Nat → Int32))} {RF : Nat → Nat → Option Nat} {d : Nat} (hR : am_RFok RF) (hd : 7 ≤ d) {rc : Int32 → Int32 → Int32 → am_S → Option (am_S)} {dr : Nat} (hdr : dr + 1 ≤ d) (hrc : ∀ (c0 : Int32) (c1 : Int32) (c2 : Int32) (s2 : am_S) (r2 : am_S), rc c0 c1 c2 s2 = some r2 → am_Q sc dr mX12_plans (0, am_L0 mX12_plans [.ref 82, .int c0, .int c1, .int c2], [], am_hp RF s2) (.null, am_hp RF r2)) {a1 : Int32} {a2 : Int32} {a3 : Int32} {s : am_S} {r : am_S} (h : F_X12_plans_82_o rc a1 a2 a3 s = some r) : am_Q sc d mX12_plans (0, am_L0 mX12_plans [.ref 82, .int a1, .int a2, .int a3], [], am_hp RF s) (.null, am_hp RF r) := by
  obtain ⟨e, rfl⟩ : ∃ e, d = e + 1 := ⟨d - 1, by omega⟩
  unfold F_X12_plans_82_o at h
  show am_Q _ _ _ (0, [.ref 82, .int a1, .int a2, .int a3, .null], [], _) _
  refine aq_iload_n (am_dg dkX12_plans (i := 0) rfl) rfl ?_
  refine aq_iload_n (am_dg dkX12_plans (i := 1) rfl) rfl ?_
  by_cases hc1 : a1 = a2
  · rw [if_pos hc1] at h
    refine aq_icT (t := 12) (am_dg dkX12_plans (i := 2) rfl) rfl (decide_eq_true hc1) ?_
    exact T_X12_plans_82_b12 hR (by omega) (by omega) hrc _ _ _ _ _ _ h
  · rw [if_neg hc1] at h
    refine aq_icF (t := 12) (am_dg dkX12_plans (i := 2) rfl) rfl (decide_eq_false hc1) ?_
    refine aq_aload_n (am_dg dkX12_plans (i := 3) rfl) rfl ?_
    obtain ⟨q2, hq3, h⟩ := am_bnd h
    refine aq_virt (a := [.ref 82]) (S1 := []) (v1 := .int q2.1) (S2 := [.int q2.1]) (am_dg dkX12_plans (i := 4) rfl) cv_12_118_12 (am_cls_c sh_82 (by decide)) rfl rfl rfl (Nat.le_of_ble_eq_true rfl) (Nat.le_of_ble_eq_true rfl) (T_X12_isOver_82 hR (by omega) hq3) rfl ?_
    by_cases hc4 : q2.1 = (0 : Int32)
    · rw [if_pos hc4] at h
      refine aq_ifT (t := 19) (am_dg dkX12_plans (i := 5) rfl) rfl (decide_eq_true hc4) ?_
      refine aq_iconst (v := (0 : Int32)) (am_dg dkX12_plans (i := 11) rfl) (by decide) ?_
      refine aq_istore (L1 := [.ref 82, .int a1, .int a2, .int a3, .int (0 : Int32)]) (am_dg dkX12_plans (i := 12) rfl) rfl ?_
      exact T_X12_plans_82_b22 hR (by omega) (by omega) hrc _ _ _ _ _ _ _ h
    · rw [if_neg hc4] at h
      refine aq_ifF (t := 19) (am_dg dkX12_plans (i := 5) rfl) rfl (decide_eq_false hc4) ?_
      exact T_X12_plans_82_b12 hR (by omega) (by omega) hrc _ _ _ _ _ _ h
set_option maxRecDepth 20000 in
theorem T_X12_plans_82_n {sc : Option (Nat × (Nat → Int32))} {RF : Nat → Nat → Option Nat} (hR : am_RFok RF) : ∀ (n d : Nat) (hd : 1 * n + 7 ≤ d) (a1 : Int32) (a2 : Int32) (a3 : Int32) (s : am_S) (r : am_S), F_X12_plans_82 n a1 a2 a3 s = some r → am_Q sc d mX12_plans (0, am_L0 mX12_plans [.ref 82, .int a1, .int a2, .int a3], [], am_hp RF s) (.null, am_hp RF r) := by
  intro n
  induction n with
  | zero => intro d hd a1 a2 a3 s r h; cases h
  | succ n ih =>
    intro d hd a1 a2 a3 s r h
    exact T_X12_plans_82_o hR (by omega) (rc := F_X12_plans_82 n) (dr := d - 1) (by omega) (fun c0 c1 c2 s2 r2 h2 => ih (d - 1) (by omega) c0 c1 c2 s2 r2 h2) h
set_option maxRecDepth 20000 in
theorem T_X12_plans_82 {sc : Option (Nat × (Nat → Int32))} {RF : Nat → Nat → Option Nat} {d : Nat} (hR : am_RFok RF) (hd : 18 ≤ d) {a1 : Int32} {a2 : Int32} {a3 : Int32} {s : am_S} {r : am_S} (h : F_X12_plans_82 10 a1 a2 a3 s = some r) : am_Q sc d mX12_plans (0, am_L0 mX12_plans [.ref 82, .int a1, .int a2, .int a3], [], am_hp RF s) (.null, am_hp RF r) := T_X12_plans_82_n hR 10 d (by omega) _ _ _ _ _ h
set_option maxRecDepth 20000 in
theorem T_X12_plansOf_82 {sc : Option (Nat × (Nat → Int32))} {RF : Nat → Nat → Option Nat} {d : Nat} (hR : am_RFok RF) (hd : 19 ≤ d) {a1 : Int32} {a2 : Int32} {s : am_S} {r : Int32 × am_S} (h : F_X12_plansOf_82 a1 a2 s = some r) : am_Q sc d mX12_plansOf (0, am_L0 mX12_plansOf [.ref 82, .int a1, .int a2], [], am_hp RF s) (.int r.1, am_hp RF r.2) := by
  obtain ⟨e, rfl⟩ : ∃ e, d = e + 1 := ⟨d - 1, by omega⟩
  unfold F_X12_plansOf_82 at h
  show am_Q _ _ _ (0, [.ref 82, .int a1, .int a2], [], _) _
  refine aq_aload_n (am_dg dkX12_plansOf (i := 0) rfl) rfl ?_
  refine aq_iconst (v := (-1 : Int32)) (am_dg dkX12_plansOf (i := 1) rfl) (by decide) ?_
  refine aq_putI (am_dg dkX12_plansOf (i := 2) rfl) gk_12_192_82 ?_
  obtain ⟨s1, hs2, h⟩ := am_bnd h
  rw [Option.some.inj hs2]
  refine aq_aload_n (am_dg dkX12_plansOf (i := 3) rfl) rfl ?_
  refine aq_iconst (v := (0 : Int32)) (am_dg dkX12_plansOf (i := 4) rfl) (by decide) ?_
  refine aq_putI (am_dg dkX12_plansOf (i := 5) rfl) gk_12_196_82 ?_
  obtain ⟨s3, hs4, h⟩ := am_bnd h
  rw [Option.some.inj hs4]
  refine aq_aload_n (am_dg dkX12_plansOf (i := 6) rfl) rfl ?_
  refine aq_iconst (v := (5 : Int32)) (am_dg dkX12_plansOf (i := 7) rfl) (by decide) ?_
  refine aq_putI (am_dg dkX12_plansOf (i := 8) rfl) gk_12_208_82 ?_
  obtain ⟨s5, hs6, h⟩ := am_bnd h
  rw [Option.some.inj hs6]
  refine aq_aload_n (am_dg dkX12_plansOf (i := 9) rfl) rfl ?_
  refine aq_iconst (v := (0 : Int32)) (am_dg dkX12_plansOf (i := 10) rfl) (by decide) ?_
  refine aq_putI (am_dg dkX12_plansOf (i := 11) rfl) gk_12_202_82 ?_
  obtain ⟨s7, hs8, h⟩ := am_bnd h
  rw [Option.some.inj hs8]
  refine aq_aload_n (am_dg dkX12_plansOf (i := 12) rfl) rfl ?_
  refine aq_iload_n (am_dg dkX12_plansOf (i := 13) rfl) rfl ?_
  refine aq_putI (am_dg dkX12_plansOf (i := 14) rfl) gk_12_205_82 ?_
  obtain ⟨s9, hs10, h⟩ := am_bnd h
  rw [Option.some.inj hs10]
  refine aq_aload_n (am_dg dkX12_plansOf (i := 15) rfl) rfl ?_
  refine aq_iconst (v := (0 : Int32)) (am_dg dkX12_plansOf (i := 16) rfl) (by decide) ?_
  refine aq_iload_n (am_dg dkX12_plansOf (i := 17) rfl) rfl ?_
  refine aq_iconst (v := (0 : Int32)) (am_dg dkX12_plansOf (i := 18) rfl) (by decide) ?_
  obtain ⟨q11, hq12, h⟩ := am_bnd h
  refine aq_virt (a := [.ref 82, .int (0 : Int32), .int a1, .int (0 : Int32)]) (S1 := []) (v1 := .null) (S2 := []) (am_dg dkX12_plansOf (i := 19) rfl) cv_12_219_12 (am_cls_c sh_82 (by decide)) rfl rfl rfl (Nat.le_of_ble_eq_true rfl) (Nat.le_of_ble_eq_true rfl) (T_X12_plans_82 hR (by omega) hq12) rfl ?_
  refine aq_aload_n (am_dg dkX12_plansOf (i := 20) rfl) rfl ?_
  refine aq_getI (am_dg dkX12_plansOf (i := 21) rfl) gk_12_199_82 (by decide) ?_
  obtain rfl := Option.some.inj h
  exact aq_ireturn (am_dg dkX12_plansOf (i := 22) rfl) rfl (Or.inl rfl) rfl
set_option maxRecDepth 20000 in
theorem T_X12_best_82 {sc : Option (Nat × (Nat → Int32))} {RF : Nat → Nat → Option Nat} {d : Nat} (hR : am_RFok RF) (hd : 20 ≤ d) {a1 : Int32} {s : am_S} {r : Int32 × am_S} (h : F_X12_best_82 a1 s = some r) : am_Q sc d mX12_best (0, am_L0 mX12_best [.ref 82, .int a1], [], am_hp RF s) (.int r.1, am_hp RF r.2) := by
  obtain ⟨e, rfl⟩ : ∃ e, d = e + 1 := ⟨d - 1, by omega⟩
  unfold F_X12_best_82 at h
  show am_Q _ _ _ (0, [.ref 82, .int a1, .null], [], _) _
  refine aq_iload_n (am_dg dkX12_best (i := 0) rfl) rfl ?_
  obtain ⟨q1, hq2, h⟩ := am_bnd h
  refine aq_static (a := [.int a1]) (S1 := []) (v1 := .int q1.1) (S2 := [.int q1.1]) (am_dg dkX12_best (i := 1) rfl) ct_12_228 rfl rfl rfl (Nat.le_of_ble_eq_true rfl) (Nat.le_of_ble_eq_true rfl) (T_X12_isLong hR (by omega) hq2) rfl ?_
  by_cases hc3 : q1.1 = (0 : Int32)
  · rw [if_pos hc3] at h
    refine aq_ifF (t := 9) (am_dg dkX12_best (i := 2) rfl) rfl (decide_eq_false (not_not_intro hc3)) ?_
    refine aq_iconst (v := (-1 : Int32)) (am_dg dkX12_best (i := 3) rfl) (by decide) ?_
    obtain rfl := Option.some.inj h
    exact aq_ireturn (am_dg dkX12_best (i := 4) rfl) rfl (Or.inl rfl) rfl
  · rw [if_neg hc3] at h
    refine aq_ifT (t := 9) (am_dg dkX12_best (i := 2) rfl) rfl (decide_eq_true hc3) ?_
    refine aq_aload_n (am_dg dkX12_best (i := 5) rfl) rfl ?_
    refine aq_iload_n (am_dg dkX12_best (i := 6) rfl) rfl ?_
    refine aq_iconst (v := (0 : Int32)) (am_dg dkX12_best (i := 7) rfl) (by decide) ?_
    obtain ⟨q4, hq5, h⟩ := am_bnd h
    refine aq_virt (a := [.ref 82, .int a1, .int (0 : Int32)]) (S1 := []) (v1 := .int q4.1) (S2 := [.int q4.1]) (am_dg dkX12_best (i := 8) rfl) cv_12_231_12 (am_cls_c sh_82 (by decide)) rfl rfl rfl (Nat.le_of_ble_eq_true rfl) (Nat.le_of_ble_eq_true rfl) (T_X12_plansOf_82 hR (by omega) hq5) rfl ?_
    refine aq_istore_n (L1 := [.ref 82, .int a1, .int q4.1]) (am_dg dkX12_best (i := 9) rfl) rfl ?_
    refine aq_aload_n (am_dg dkX12_best (i := 10) rfl) rfl ?_
    refine aq_getI (am_dg dkX12_best (i := 11) rfl) gk_12_192_82 (by decide) ?_
    obtain rfl := Option.some.inj h
    exact aq_ireturn (am_dg dkX12_best (i := 12) rfl) rfl (Or.inl rfl) rfl
set_option maxRecDepth 20000 in
theorem T_X11_ith_0 {sc : Option (Nat × (Nat → Int32))} {RF : Nat → Nat → Option Nat} {d : Nat} (hR : am_RFok RF) (hd : 17 ≤ d) {a1 : Int32} {a2 : Int32} {s : am_S} {r : Int32 × am_S} (h : F_X11_ith_0 a1 a2 s = some r) : am_Q sc d mX11_ith (0, am_L0 mX11_ith [.ref 0, .int a1, .int a2], [], am_hp RF s) (.int r.1, am_hp RF r.2) := by
  obtain ⟨e, rfl⟩ : ∃ e, d = e + 1 := ⟨d - 1, by omega⟩
  unfold F_X11_ith_0 at h
  show am_Q _ _ _ (0, [.ref 0, .int a1, .int a2], [], _) _
  refine aq_iload_n (am_dg dkX11_ith (i := 0) rfl) rfl ?_
  obtain ⟨q1, hq2, h⟩ := am_bnd h
  refine aq_static (a := [.int a1]) (S1 := []) (v1 := .int q1.1) (S2 := [.int q1.1]) (am_dg dkX11_ith (i := 1) rfl) ct_11_242 rfl rfl rfl (Nat.le_of_ble_eq_true rfl) (Nat.le_of_ble_eq_true rfl) (T_X11_isPlan hR (by omega) hq2) rfl ?_
  by_cases hc3 : q1.1 = (0 : Int32)
  · rw [if_pos hc3] at h
    refine aq_ifT (t := 16) (am_dg dkX11_ith (i := 2) rfl) rfl (decide_eq_true hc3) ?_
    refine aq_iconst (v := (-1 : Int32)) (am_dg dkX11_ith (i := 8) rfl) (by decide) ?_
    obtain rfl := Option.some.inj h
    exact aq_ireturn (am_dg dkX11_ith (i := 9) rfl) rfl (Or.inl rfl) rfl
  · rw [if_neg hc3] at h
    refine aq_ifF (t := 16) (am_dg dkX11_ith (i := 2) rfl) rfl (decide_eq_false hc3) ?_
    refine aq_iload_n (am_dg dkX11_ith (i := 3) rfl) rfl ?_
    refine aq_iconst (v := (0 : Int32)) (am_dg dkX11_ith (i := 4) rfl) (by decide) ?_
    refine aq_iconst (v := (3 : Int32)) (am_dg dkX11_ith (i := 5) rfl) (by decide) ?_
    obtain ⟨q4, hq5, h⟩ := am_bnd h
    refine aq_static (a := [.int a2, .int (0 : Int32), .int (3 : Int32)]) (S1 := []) (v1 := .int q4.1) (S2 := [.int q4.1]) (am_dg dkX11_ith (i := 6) rfl) ct_11_149 rfl rfl rfl (Nat.le_of_ble_eq_true rfl) (Nat.le_of_ble_eq_true rfl) (T_X11_isWithin hR (by omega) hq5) rfl ?_
    by_cases hc6 : q4.1 = (0 : Int32)
    · rw [if_pos hc6] at h
      refine aq_ifF (t := 18) (am_dg dkX11_ith (i := 7) rfl) rfl (decide_eq_false (not_not_intro hc6)) ?_
      refine aq_iconst (v := (-1 : Int32)) (am_dg dkX11_ith (i := 8) rfl) (by decide) ?_
      obtain rfl := Option.some.inj h
      exact aq_ireturn (am_dg dkX11_ith (i := 9) rfl) rfl (Or.inl rfl) rfl
    · rw [if_neg hc6] at h
      refine aq_ifT (t := 18) (am_dg dkX11_ith (i := 7) rfl) rfl (decide_eq_true hc6) ?_
      refine aq_iload_n (am_dg dkX11_ith (i := 10) rfl) rfl ?_
      refine aq_aload_n (am_dg dkX11_ith (i := 11) rfl) rfl ?_
      refine aq_getR (am_dg dkX11_ith (i := 12) rfl) gk_11_55_0 (rf_0_4 hR) ?_
      refine aq_iload_n (am_dg dkX11_ith (i := 13) rfl) rfl ?_
      obtain ⟨q7, hq8, h⟩ := am_bnd h
      refine aq_virt (a := [.ref 50, .int a1]) (S1 := [.int a2]) (v1 := .int q7.1) (S2 := [.int q7.1, .int a2]) (am_dg dkX11_ith (i := 14) rfl) cv_11_252_3 (am_cls_c sh_50 (by decide)) rfl rfl rfl (Nat.le_of_ble_eq_true rfl) (Nat.le_of_ble_eq_true rfl) (T_X3_planLength_50 hR (by omega) hq8) rfl ?_
      by_cases hc9 : a2 < q7.1
      · rw [if_pos hc9] at h
        refine aq_icT (t := 33) (am_dg dkX11_ith (i := 15) rfl) rfl (decide_eq_true hc9) ?_
        refine aq_aload_n (am_dg dkX11_ith (i := 18) rfl) rfl ?_
        refine aq_getR (am_dg dkX11_ith (i := 19) rfl) gk_11_55_0 (rf_0_4 hR) ?_
        refine aq_iload_n (am_dg dkX11_ith (i := 20) rfl) rfl ?_
        refine aq_iconst (v := (0 : Int32)) (am_dg dkX11_ith (i := 21) rfl) (by decide) ?_
        obtain ⟨q10, hq11, h⟩ := am_bnd h
        refine aq_virt (a := [.ref 50, .int a1, .int (0 : Int32)]) (S1 := []) (v1 := .null) (S2 := []) (am_dg dkX11_ith (i := 22) rfl) cv_11_245_3 (am_cls_c sh_50 (by decide)) rfl rfl rfl (Nat.le_of_ble_eq_true rfl) (Nat.le_of_ble_eq_true rfl) (T_X3_search_50 hR (by omega) hq11) rfl ?_
        refine aq_aload_n (am_dg dkX11_ith (i := 23) rfl) rfl ?_
        refine aq_getR (am_dg dkX11_ith (i := 24) rfl) gk_11_55_0 (rf_0_4 hR) ?_
        refine aq_getR (am_dg dkX11_ith (i := 25) rfl) gk_11_255_50 (rf_50_7 hR) ?_
        refine aq_iload_n (am_dg dkX11_ith (i := 26) rfl) rfl ?_
        obtain ⟨hg12, h⟩ := am_guard h
        refine aq_iald (am_dg dkX11_ith (i := 27) rfl) sh_63 hg12 ?_
        obtain rfl := Option.some.inj h
        exact aq_ireturn (am_dg dkX11_ith (i := 28) rfl) rfl (Or.inl rfl) rfl
      · rw [if_neg hc9] at h
        refine aq_icF (t := 33) (am_dg dkX11_ith (i := 15) rfl) rfl (decide_eq_false hc9) ?_
        refine aq_bipush (v := (-3 : Int32)) (am_dg dkX11_ith (i := 16) rfl) (by decide) ?_
        obtain rfl := Option.some.inj h
        exact aq_ireturn (am_dg dkX11_ith (i := 17) rfl) rfl (Or.inl rfl) rfl
set_option maxRecDepth 20000 in
theorem T_X12_ith_82 {sc : Option (Nat × (Nat → Int32))} {RF : Nat → Nat → Option Nat} {d : Nat} (hR : am_RFok RF) (hd : 20 ≤ d) {a1 : Int32} {a2 : Int32} {s : am_S} {r : Int32 × am_S} (h : F_X12_ith_82 a1 a2 s = some r) : am_Q sc d mX12_ith (0, am_L0 mX12_ith [.ref 82, .int a1, .int a2], [], am_hp RF s) (.int r.1, am_hp RF r.2) := by
  obtain ⟨e, rfl⟩ : ∃ e, d = e + 1 := ⟨d - 1, by omega⟩
  unfold F_X12_ith_82 at h
  show am_Q _ _ _ (0, [.ref 82, .int a1, .int a2], [], _) _
  refine aq_iload_n (am_dg dkX12_ith (i := 0) rfl) rfl ?_
  obtain ⟨q1, hq2, h⟩ := am_bnd h
  refine aq_static (a := [.int a1]) (S1 := []) (v1 := .int q1.1) (S2 := [.int q1.1]) (am_dg dkX12_ith (i := 1) rfl) ct_12_228 rfl rfl rfl (Nat.le_of_ble_eq_true rfl) (Nat.le_of_ble_eq_true rfl) (T_X12_isLong hR (by omega) hq2) rfl ?_
  by_cases hc3 : q1.1 = (0 : Int32)
  · rw [if_pos hc3] at h
    refine aq_ifT (t := 19) (am_dg dkX12_ith (i := 2) rfl) rfl (decide_eq_true hc3) ?_
    refine aq_iconst (v := (-1 : Int32)) (am_dg dkX12_ith (i := 9) rfl) (by decide) ?_
    obtain rfl := Option.some.inj h
    exact aq_ireturn (am_dg dkX12_ith (i := 10) rfl) rfl (Or.inl rfl) rfl
  · rw [if_neg hc3] at h
    refine aq_ifF (t := 19) (am_dg dkX12_ith (i := 2) rfl) rfl (decide_eq_false hc3) ?_
    refine aq_iload_n (am_dg dkX12_ith (i := 3) rfl) rfl ?_
    refine aq_i2l (am_dg dkX12_ith (i := 4) rfl) ?_
    refine aq_lconst (v := (0 : Int64)) (am_dg dkX12_ith (i := 5) rfl) (by decide) ?_
    refine aq_ldc2 (am_dg dkX12_ith (i := 6) rfl) cl_12_234 ?_
    obtain ⟨q4, hq5, h⟩ := am_bnd h
    refine aq_static (a := [.long a2.toInt64, .long (0 : Int64), .long (3 : Int64)]) (S1 := []) (v1 := .int q4.1) (S2 := [.int q4.1]) (am_dg dkX12_ith (i := 7) rfl) ct_12_61 rfl rfl rfl (Nat.le_of_ble_eq_true rfl) (Nat.le_of_ble_eq_true rfl) (T_X12_in hR (by omega) hq5) rfl ?_
    by_cases hc6 : q4.1 = (0 : Int32)
    · rw [if_pos hc6] at h
      refine aq_ifF (t := 21) (am_dg dkX12_ith (i := 8) rfl) rfl (decide_eq_false (not_not_intro hc6)) ?_
      refine aq_iconst (v := (-1 : Int32)) (am_dg dkX12_ith (i := 9) rfl) (by decide) ?_
      obtain rfl := Option.some.inj h
      exact aq_ireturn (am_dg dkX12_ith (i := 10) rfl) rfl (Or.inl rfl) rfl
    · rw [if_neg hc6] at h
      refine aq_ifT (t := 21) (am_dg dkX12_ith (i := 8) rfl) rfl (decide_eq_true hc6) ?_
      refine aq_iload_n (am_dg dkX12_ith (i := 11) rfl) rfl ?_
      refine aq_aload_n (am_dg dkX12_ith (i := 12) rfl) rfl ?_
      refine aq_iload_n (am_dg dkX12_ith (i := 13) rfl) rfl ?_
      refine aq_iconst (v := (0 : Int32)) (am_dg dkX12_ith (i := 14) rfl) (by decide) ?_
      obtain ⟨q7, hq8, h⟩ := am_bnd h
      refine aq_virt (a := [.ref 82, .int a1, .int (0 : Int32)]) (S1 := [.int a2]) (v1 := .int q7.1) (S2 := [.int q7.1, .int a2]) (am_dg dkX12_ith (i := 15) rfl) cv_12_231_12 (am_cls_c sh_82 (by decide)) rfl rfl rfl (Nat.le_of_ble_eq_true rfl) (Nat.le_of_ble_eq_true rfl) (T_X12_plansOf_82 hR (by omega) hq8) rfl ?_
      by_cases hc9 : q7.1 ≤ a2
      · rw [if_pos hc9] at h
        refine aq_icT (t := 40) (am_dg dkX12_ith (i := 16) rfl) rfl (decide_eq_true hc9) ?_
        refine aq_bipush (v := (-3 : Int32)) (am_dg dkX12_ith (i := 22) rfl) (by decide) ?_
        obtain rfl := Option.some.inj h
        exact aq_ireturn (am_dg dkX12_ith (i := 23) rfl) rfl (Or.inl rfl) rfl
      · rw [if_neg hc9] at h
        refine aq_icF (t := 40) (am_dg dkX12_ith (i := 16) rfl) rfl (decide_eq_false hc9) ?_
        refine aq_aload_n (am_dg dkX12_ith (i := 17) rfl) rfl ?_
        refine aq_getR (am_dg dkX12_ith (i := 18) rfl) gk_12_31_82 (rf_82_8 hR) ?_
        refine aq_iload_n (am_dg dkX12_ith (i := 19) rfl) rfl ?_
        obtain ⟨hg10, h⟩ := am_guard h
        refine aq_iald (am_dg dkX12_ith (i := 20) rfl) sh_90 hg10 ?_
        refine aq_goto (t := 42) (am_dg dkX12_ith (i := 21) rfl) rfl ?_
        obtain rfl := Option.some.inj h
        exact aq_ireturn (am_dg dkX12_ith (i := 23) rfl) rfl (Or.inl rfl) rfl
set_option maxRecDepth 20000 in
theorem T_X11_ways_0 {sc : Option (Nat × (Nat → Int32))} {RF : Nat → Nat → Option Nat} {d : Nat} (hR : am_RFok RF) (hd : 17 ≤ d) {a1 : Int32} {s : am_S} {r : Int32 × am_S} (h : F_X11_ways_0 a1 s = some r) : am_Q sc d mX11_ways (0, am_L0 mX11_ways [.ref 0, .int a1], [], am_hp RF s) (.int r.1, am_hp RF r.2) := by
  obtain ⟨e, rfl⟩ : ∃ e, d = e + 1 := ⟨d - 1, by omega⟩
  unfold F_X11_ways_0 at h
  show am_Q _ _ _ (0, [.ref 0, .int a1], [], _) _
  refine aq_iload_n (am_dg dkX11_ways (i := 0) rfl) rfl ?_
  obtain ⟨q1, hq2, h⟩ := am_bnd h
  refine aq_static (a := [.int a1]) (S1 := []) (v1 := .int q1.1) (S2 := [.int q1.1]) (am_dg dkX11_ways (i := 1) rfl) ct_11_242 rfl rfl rfl (Nat.le_of_ble_eq_true rfl) (Nat.le_of_ble_eq_true rfl) (T_X11_isPlan hR (by omega) hq2) rfl ?_
  by_cases hc3 : q1.1 = (0 : Int32)
  · rw [if_pos hc3] at h
    refine aq_ifF (t := 9) (am_dg dkX11_ways (i := 2) rfl) rfl (decide_eq_false (not_not_intro hc3)) ?_
    refine aq_iconst (v := (-1 : Int32)) (am_dg dkX11_ways (i := 3) rfl) (by decide) ?_
    obtain rfl := Option.some.inj h
    exact aq_ireturn (am_dg dkX11_ways (i := 4) rfl) rfl (Or.inl rfl) rfl
  · rw [if_neg hc3] at h
    refine aq_ifT (t := 9) (am_dg dkX11_ways (i := 2) rfl) rfl (decide_eq_true hc3) ?_
    refine aq_aload_n (am_dg dkX11_ways (i := 5) rfl) rfl ?_
    refine aq_getR (am_dg dkX11_ways (i := 6) rfl) gk_11_55_0 (rf_0_4 hR) ?_
    refine aq_iload_n (am_dg dkX11_ways (i := 7) rfl) rfl ?_
    refine aq_iconst (v := (0 : Int32)) (am_dg dkX11_ways (i := 8) rfl) (by decide) ?_
    obtain ⟨q4, hq5, h⟩ := am_bnd h
    refine aq_virt (a := [.ref 50, .int a1, .int (0 : Int32)]) (S1 := []) (v1 := .null) (S2 := []) (am_dg dkX11_ways (i := 9) rfl) cv_11_245_3 (am_cls_c sh_50 (by decide)) rfl rfl rfl (Nat.le_of_ble_eq_true rfl) (Nat.le_of_ble_eq_true rfl) (T_X3_search_50 hR (by omega) hq5) rfl ?_
    refine aq_aload_n (am_dg dkX11_ways (i := 10) rfl) rfl ?_
    refine aq_getR (am_dg dkX11_ways (i := 11) rfl) gk_11_55_0 (rf_0_4 hR) ?_
    refine aq_getI (am_dg dkX11_ways (i := 12) rfl) gk_11_258_50 (by decide) ?_
    obtain rfl := Option.some.inj h
    exact aq_ireturn (am_dg dkX11_ways (i := 13) rfl) rfl (Or.inl rfl) rfl
set_option maxRecDepth 20000 in
theorem T_X12_ways_82 {sc : Option (Nat × (Nat → Int32))} {RF : Nat → Nat → Option Nat} {d : Nat} (hR : am_RFok RF) (hd : 20 ≤ d) {a1 : Int32} {s : am_S} {r : Int32 × am_S} (h : F_X12_ways_82 a1 s = some r) : am_Q sc d mX12_ways (0, am_L0 mX12_ways [.ref 82, .int a1], [], am_hp RF s) (.int r.1, am_hp RF r.2) := by
  obtain ⟨e, rfl⟩ : ∃ e, d = e + 1 := ⟨d - 1, by omega⟩
  unfold F_X12_ways_82 at h
  show am_Q _ _ _ (0, [.ref 82, .int a1, .null], [], _) _
  refine aq_iload_n (am_dg dkX12_ways (i := 0) rfl) rfl ?_
  obtain ⟨q1, hq2, h⟩ := am_bnd h
  refine aq_static (a := [.int a1]) (S1 := []) (v1 := .int q1.1) (S2 := [.int q1.1]) (am_dg dkX12_ways (i := 1) rfl) ct_12_228 rfl rfl rfl (Nat.le_of_ble_eq_true rfl) (Nat.le_of_ble_eq_true rfl) (T_X12_isLong hR (by omega) hq2) rfl ?_
  by_cases hc3 : q1.1 = (0 : Int32)
  · rw [if_pos hc3] at h
    refine aq_ifF (t := 9) (am_dg dkX12_ways (i := 2) rfl) rfl (decide_eq_false (not_not_intro hc3)) ?_
    refine aq_iconst (v := (-1 : Int32)) (am_dg dkX12_ways (i := 3) rfl) (by decide) ?_
    obtain rfl := Option.some.inj h
    exact aq_ireturn (am_dg dkX12_ways (i := 4) rfl) rfl (Or.inl rfl) rfl
  · rw [if_neg hc3] at h
    refine aq_ifT (t := 9) (am_dg dkX12_ways (i := 2) rfl) rfl (decide_eq_true hc3) ?_
    refine aq_aload_n (am_dg dkX12_ways (i := 5) rfl) rfl ?_
    refine aq_iload_n (am_dg dkX12_ways (i := 6) rfl) rfl ?_
    refine aq_iconst (v := (0 : Int32)) (am_dg dkX12_ways (i := 7) rfl) (by decide) ?_
    obtain ⟨q4, hq5, h⟩ := am_bnd h
    refine aq_virt (a := [.ref 82, .int a1, .int (0 : Int32)]) (S1 := []) (v1 := .int q4.1) (S2 := [.int q4.1]) (am_dg dkX12_ways (i := 8) rfl) cv_12_231_12 (am_cls_c sh_82 (by decide)) rfl rfl rfl (Nat.le_of_ble_eq_true rfl) (Nat.le_of_ble_eq_true rfl) (T_X12_plansOf_82 hR (by omega) hq5) rfl ?_
    refine aq_istore_n (L1 := [.ref 82, .int a1, .int q4.1]) (am_dg dkX12_ways (i := 9) rfl) rfl ?_
    refine aq_aload_n (am_dg dkX12_ways (i := 10) rfl) rfl ?_
    refine aq_getI (am_dg dkX12_ways (i := 11) rfl) gk_12_196_82 (by decide) ?_
    obtain rfl := Option.some.inj h
    exact aq_ireturn (am_dg dkX12_ways (i := 12) rfl) rfl (Or.inl rfl) rfl
set_option maxRecDepth 20000 in
theorem T_X8_hasAll_8 {sc : Option (Nat × (Nat → Int32))} {RF : Nat → Nat → Option Nat} {d : Nat} (hR : am_RFok RF) (hd : 0 ≤ d) {a1 : Int32} {s : am_S} {r : Int32 × am_S} (h : F_X8_hasAll_8 a1 s = some r) : am_Q sc d mX8_hasAll (0, am_L0 mX8_hasAll [.ref 8, .int a1], [], am_hp RF s) (.int r.1, am_hp RF r.2) := by
  unfold F_X8_hasAll_8 at h
  show am_Q _ _ _ (0, [.ref 8, .int a1], [], _) _
  refine aq_iload_n (am_dg dkX8_hasAll (i := 0) rfl) rfl ?_
  by_cases hc1 : a1 < (0 : Int32)
  · rw [if_pos hc1] at h
    refine aq_ifT (t := 18) (am_dg dkX8_hasAll (i := 1) rfl) rfl (decide_eq_true hc1) ?_
    refine aq_iconst (v := (0 : Int32)) (am_dg dkX8_hasAll (i := 10) rfl) (by decide) ?_
    obtain rfl := Option.some.inj h
    exact aq_ireturn (am_dg dkX8_hasAll (i := 11) rfl) rfl (Or.inr (Or.inl rfl)) rfl
  · rw [if_neg hc1] at h
    refine aq_ifF (t := 18) (am_dg dkX8_hasAll (i := 1) rfl) rfl (decide_eq_false hc1) ?_
    refine aq_iload_n (am_dg dkX8_hasAll (i := 2) rfl) rfl ?_
    refine aq_iconst (v := (1 : Int32)) (am_dg dkX8_hasAll (i := 3) rfl) (by decide) ?_
    refine aq_aload_n (am_dg dkX8_hasAll (i := 4) rfl) rfl ?_
    refine aq_getI (am_dg dkX8_hasAll (i := 5) rfl) gk_8_72_8 (by decide) ?_
    refine aq_ishl (am_dg dkX8_hasAll (i := 6) rfl) ?_
    by_cases hc2 : ((1 : Int32) <<< ((s.1 8 5) &&& 31)) ≤ a1
    · rw [if_pos hc2] at h
      refine aq_icT (t := 18) (am_dg dkX8_hasAll (i := 7) rfl) rfl (decide_eq_true hc2) ?_
      refine aq_iconst (v := (0 : Int32)) (am_dg dkX8_hasAll (i := 10) rfl) (by decide) ?_
      obtain rfl := Option.some.inj h
      exact aq_ireturn (am_dg dkX8_hasAll (i := 11) rfl) rfl (Or.inr (Or.inl rfl)) rfl
    · rw [if_neg hc2] at h
      refine aq_icF (t := 18) (am_dg dkX8_hasAll (i := 7) rfl) rfl (decide_eq_false hc2) ?_
      refine aq_iconst (v := (1 : Int32)) (am_dg dkX8_hasAll (i := 8) rfl) (by decide) ?_
      refine aq_goto (t := 19) (am_dg dkX8_hasAll (i := 9) rfl) rfl ?_
      obtain rfl := Option.some.inj h
      exact aq_ireturn (am_dg dkX8_hasAll (i := 11) rfl) rfl (Or.inr (Or.inl rfl)) rfl
set_option maxRecDepth 20000 in
theorem T_X11_haul_0 {sc : Option (Nat × (Nat → Int32))} {RF : Nat → Nat → Option Nat} {d : Nat} (hR : am_RFok RF) (hd : 17 ≤ d) {a1 : Int32} {a2 : Int32} {s : am_S} {r : Int32 × am_S} (h : F_X11_haul_0 a1 a2 s = some r) : am_Q sc d mX11_haul (0, am_L0 mX11_haul [.ref 0, .int a1, .int a2], [], am_hp RF s) (.int r.1, am_hp RF r.2) := by
  obtain ⟨e, rfl⟩ : ∃ e, d = e + 1 := ⟨d - 1, by omega⟩
  unfold F_X11_haul_0 at h
  show am_Q _ _ _ (0, [.ref 0, .int a1, .int a2], [], _) _
  refine aq_iload_n (am_dg dkX11_haul (i := 0) rfl) rfl ?_
  obtain ⟨q1, hq2, h⟩ := am_bnd h
  refine aq_static (a := [.int a1]) (S1 := []) (v1 := .int q1.1) (S2 := [.int q1.1]) (am_dg dkX11_haul (i := 1) rfl) ct_11_242 rfl rfl rfl (Nat.le_of_ble_eq_true rfl) (Nat.le_of_ble_eq_true rfl) (T_X11_isPlan hR (by omega) hq2) rfl ?_
  by_cases hc3 : q1.1 = (0 : Int32)
  · rw [if_pos hc3] at h
    refine aq_ifT (t := 18) (am_dg dkX11_haul (i := 2) rfl) rfl (decide_eq_true hc3) ?_
    refine aq_iconst (v := (-1 : Int32)) (am_dg dkX11_haul (i := 8) rfl) (by decide) ?_
    obtain rfl := Option.some.inj h
    exact aq_ireturn (am_dg dkX11_haul (i := 9) rfl) rfl (Or.inl rfl) rfl
  · rw [if_neg hc3] at h
    refine aq_ifF (t := 18) (am_dg dkX11_haul (i := 2) rfl) rfl (decide_eq_false hc3) ?_
    refine aq_aload_n (am_dg dkX11_haul (i := 3) rfl) rfl ?_
    refine aq_getR (am_dg dkX11_haul (i := 4) rfl) gk_11_30_0 (rf_0_0 hR) ?_
    refine aq_iload_n (am_dg dkX11_haul (i := 5) rfl) rfl ?_
    obtain ⟨q4, hq5, h⟩ := am_bnd h
    refine aq_virt (a := [.ref 8, .int a2]) (S1 := []) (v1 := .int q4.1) (S2 := [.int q4.1]) (am_dg dkX11_haul (i := 6) rfl) cv_11_261_8 (am_cls_c sh_8 (by decide)) rfl rfl rfl (Nat.le_of_ble_eq_true rfl) (Nat.le_of_ble_eq_true rfl) (T_X8_hasAll_8 hR (by omega) hq5) rfl ?_
    by_cases hc6 : q4.1 = (0 : Int32)
    · rw [if_pos hc6] at h
      refine aq_ifF (t := 20) (am_dg dkX11_haul (i := 7) rfl) rfl (decide_eq_false (not_not_intro hc6)) ?_
      refine aq_iconst (v := (-1 : Int32)) (am_dg dkX11_haul (i := 8) rfl) (by decide) ?_
      obtain rfl := Option.some.inj h
      exact aq_ireturn (am_dg dkX11_haul (i := 9) rfl) rfl (Or.inl rfl) rfl
    · rw [if_neg hc6] at h
      refine aq_ifT (t := 20) (am_dg dkX11_haul (i := 7) rfl) rfl (decide_eq_true hc6) ?_
      refine aq_aload_n (am_dg dkX11_haul (i := 10) rfl) rfl ?_
      refine aq_getR (am_dg dkX11_haul (i := 11) rfl) gk_11_55_0 (rf_0_4 hR) ?_
      refine aq_iload_n (am_dg dkX11_haul (i := 12) rfl) rfl ?_
      refine aq_iload_n (am_dg dkX11_haul (i := 13) rfl) rfl ?_
      obtain ⟨q7, hq8, h⟩ := am_bnd h
      refine aq_virt (a := [.ref 50, .int a1, .int a2]) (S1 := []) (v1 := .null) (S2 := []) (am_dg dkX11_haul (i := 14) rfl) cv_11_245_3 (am_cls_c sh_50 (by decide)) rfl rfl rfl (Nat.le_of_ble_eq_true rfl) (Nat.le_of_ble_eq_true rfl) (T_X3_search_50 hR (by omega) hq8) rfl ?_
      refine aq_aload_n (am_dg dkX11_haul (i := 15) rfl) rfl ?_
      refine aq_getR (am_dg dkX11_haul (i := 16) rfl) gk_11_55_0 (rf_0_4 hR) ?_
      refine aq_getI (am_dg dkX11_haul (i := 17) rfl) gk_11_264_50 (by decide) ?_
      obtain rfl := Option.some.inj h
      exact aq_ireturn (am_dg dkX11_haul (i := 18) rfl) rfl (Or.inl rfl) rfl
set_option maxRecDepth 20000 in
theorem T_X12_areVoices_82 {sc : Option (Nat × (Nat → Int32))} {RF : Nat → Nat → Option Nat} {d : Nat} (hR : am_RFok RF) (hd : 1 ≤ d) {a1 : Int32} {s : am_S} {r : Int32 × am_S} (h : F_X12_areVoices_82 a1 s = some r) : am_Q sc d mX12_areVoices (0, am_L0 mX12_areVoices [.ref 82, .int a1], [], am_hp RF s) (.int r.1, am_hp RF r.2) := by
  obtain ⟨e, rfl⟩ : ∃ e, d = e + 1 := ⟨d - 1, by omega⟩
  unfold F_X12_areVoices_82 at h
  show am_Q _ _ _ (0, [.ref 82, .int a1], [], _) _
  refine aq_iload_n (am_dg dkX12_areVoices (i := 0) rfl) rfl ?_
  refine aq_i2l (am_dg dkX12_areVoices (i := 1) rfl) ?_
  refine aq_lconst (v := (0 : Int64)) (am_dg dkX12_areVoices (i := 2) rfl) (by decide) ?_
  refine aq_iconst (v := (1 : Int32)) (am_dg dkX12_areVoices (i := 3) rfl) (by decide) ?_
  refine aq_aload_n (am_dg dkX12_areVoices (i := 4) rfl) rfl ?_
  refine aq_getR (am_dg dkX12_areVoices (i := 5) rfl) gk_12_7_82 (rf_82_0 hR) ?_
  refine aq_iconst (v := (0 : Int32)) (am_dg dkX12_areVoices (i := 6) rfl) (by decide) ?_
  obtain ⟨hg1, h⟩ := am_guard h
  refine aq_iald (am_dg dkX12_areVoices (i := 7) rfl) sh_83 hg1 ?_
  refine aq_ishl (am_dg dkX12_areVoices (i := 8) rfl) ?_
  refine aq_iconst (v := (1 : Int32)) (am_dg dkX12_areVoices (i := 9) rfl) (by decide) ?_
  refine aq_isub (am_dg dkX12_areVoices (i := 10) rfl) ?_
  refine aq_i2l (am_dg dkX12_areVoices (i := 11) rfl) ?_
  obtain ⟨q2, hq3, h⟩ := am_bnd h
  refine aq_static (a := [.long a1.toInt64, .long (0 : Int64), .long (((1 : Int32) <<< ((s.1 83 (0 : Int32).toNatClampNeg) &&& 31)) - (1 : Int32)).toInt64]) (S1 := []) (v1 := .int q2.1) (S2 := [.int q2.1]) (am_dg dkX12_areVoices (i := 12) rfl) ct_12_61 rfl rfl rfl (Nat.le_of_ble_eq_true rfl) (Nat.le_of_ble_eq_true rfl) (T_X12_in hR (by omega) hq3) rfl ?_
  obtain ⟨hg4, h⟩ := am_guard h
  obtain rfl := Option.some.inj h
  exact aq_ireturn (am_dg dkX12_areVoices (i := 13) rfl) rfl (Or.inr (Or.inl rfl)) (am_nz hg4)
set_option maxRecDepth 20000 in
theorem T_X12_haul_82 {sc : Option (Nat × (Nat → Int32))} {RF : Nat → Nat → Option Nat} {d : Nat} (hR : am_RFok RF) (hd : 20 ≤ d) {a1 : Int32} {a2 : Int32} {s : am_S} {r : Int32 × am_S} (h : F_X12_haul_82 a1 a2 s = some r) : am_Q sc d mX12_haul (0, am_L0 mX12_haul [.ref 82, .int a1, .int a2], [], am_hp RF s) (.int r.1, am_hp RF r.2) := by
  obtain ⟨e, rfl⟩ : ∃ e, d = e + 1 := ⟨d - 1, by omega⟩
  unfold F_X12_haul_82 at h
  show am_Q _ _ _ (0, [.ref 82, .int a1, .int a2, .null], [], _) _
  refine aq_iload_n (am_dg dkX12_haul (i := 0) rfl) rfl ?_
  obtain ⟨q1, hq2, h⟩ := am_bnd h
  refine aq_static (a := [.int a1]) (S1 := []) (v1 := .int q1.1) (S2 := [.int q1.1]) (am_dg dkX12_haul (i := 1) rfl) ct_12_228 rfl rfl rfl (Nat.le_of_ble_eq_true rfl) (Nat.le_of_ble_eq_true rfl) (T_X12_isLong hR (by omega) hq2) rfl ?_
  by_cases hc3 : q1.1 = (0 : Int32)
  · rw [if_pos hc3] at h
    refine aq_ifT (t := 15) (am_dg dkX12_haul (i := 2) rfl) rfl (decide_eq_true hc3) ?_
    refine aq_iconst (v := (-1 : Int32)) (am_dg dkX12_haul (i := 7) rfl) (by decide) ?_
    obtain rfl := Option.some.inj h
    exact aq_ireturn (am_dg dkX12_haul (i := 8) rfl) rfl (Or.inl rfl) rfl
  · rw [if_neg hc3] at h
    refine aq_ifF (t := 15) (am_dg dkX12_haul (i := 2) rfl) rfl (decide_eq_false hc3) ?_
    refine aq_aload_n (am_dg dkX12_haul (i := 3) rfl) rfl ?_
    refine aq_iload_n (am_dg dkX12_haul (i := 4) rfl) rfl ?_
    obtain ⟨q4, hq5, h⟩ := am_bnd h
    refine aq_virt (a := [.ref 82, .int a2]) (S1 := []) (v1 := .int q4.1) (S2 := [.int q4.1]) (am_dg dkX12_haul (i := 5) rfl) cv_12_236_12 (am_cls_c sh_82 (by decide)) rfl rfl rfl (Nat.le_of_ble_eq_true rfl) (Nat.le_of_ble_eq_true rfl) (T_X12_areVoices_82 hR (by omega) hq5) rfl ?_
    by_cases hc6 : q4.1 = (0 : Int32)
    · rw [if_pos hc6] at h
      refine aq_ifF (t := 17) (am_dg dkX12_haul (i := 6) rfl) rfl (decide_eq_false (not_not_intro hc6)) ?_
      refine aq_iconst (v := (-1 : Int32)) (am_dg dkX12_haul (i := 7) rfl) (by decide) ?_
      obtain rfl := Option.some.inj h
      exact aq_ireturn (am_dg dkX12_haul (i := 8) rfl) rfl (Or.inl rfl) rfl
    · rw [if_neg hc6] at h
      refine aq_ifT (t := 17) (am_dg dkX12_haul (i := 6) rfl) rfl (decide_eq_true hc6) ?_
      refine aq_aload_n (am_dg dkX12_haul (i := 9) rfl) rfl ?_
      refine aq_iload_n (am_dg dkX12_haul (i := 10) rfl) rfl ?_
      refine aq_iload_n (am_dg dkX12_haul (i := 11) rfl) rfl ?_
      obtain ⟨q7, hq8, h⟩ := am_bnd h
      refine aq_virt (a := [.ref 82, .int a1, .int a2]) (S1 := []) (v1 := .int q7.1) (S2 := [.int q7.1]) (am_dg dkX12_haul (i := 12) rfl) cv_12_231_12 (am_cls_c sh_82 (by decide)) rfl rfl rfl (Nat.le_of_ble_eq_true rfl) (Nat.le_of_ble_eq_true rfl) (T_X12_plansOf_82 hR (by omega) hq8) rfl ?_
      refine aq_istore_n (L1 := [.ref 82, .int a1, .int a2, .int q7.1]) (am_dg dkX12_haul (i := 13) rfl) rfl ?_
      refine aq_aload_n (am_dg dkX12_haul (i := 14) rfl) rfl ?_
      refine aq_getI (am_dg dkX12_haul (i := 15) rfl) gk_12_208_82 (by decide) ?_
      refine aq_iconst (v := (4 : Int32)) (am_dg dkX12_haul (i := 16) rfl) (by decide) ?_
      by_cases hc9 : (q7.2.1 82 11) ≤ (4 : Int32)
      · rw [if_pos hc9] at h
        refine aq_icT (t := 37) (am_dg dkX12_haul (i := 17) rfl) rfl (decide_eq_true hc9) ?_
        refine aq_aload_n (am_dg dkX12_haul (i := 20) rfl) rfl ?_
        refine aq_getI (am_dg dkX12_haul (i := 21) rfl) gk_12_208_82 (by decide) ?_
        obtain rfl := Option.some.inj h
        exact aq_ireturn (am_dg dkX12_haul (i := 22) rfl) rfl (Or.inl rfl) rfl
      · rw [if_neg hc9] at h
        refine aq_icF (t := 37) (am_dg dkX12_haul (i := 17) rfl) rfl (decide_eq_false hc9) ?_
        refine aq_bipush (v := (-3 : Int32)) (am_dg dkX12_haul (i := 18) rfl) (by decide) ?_
        refine aq_goto (t := 41) (am_dg dkX12_haul (i := 19) rfl) rfl ?_
        obtain rfl := Option.some.inj h
        exact aq_ireturn (am_dg dkX12_haul (i := 22) rfl) rfl (Or.inl rfl) rfl
set_option maxRecDepth 20000 in
theorem T_X11_leastOf_b2 {sc : Option (Nat × (Nat → Int32))} {RF : Nat → Nat → Option Nat} {d : Nat} (hR : am_RFok RF) (hd : 0 ≤ d) : ∀ (n : Nat) (x0 : Int32) (x1 : Int32) (s : am_S) (r : Int32 × am_S), F_X11_leastOf_b2 n x0 x1 s = some r → am_Q sc d mX11_leastOf (2, [.int x0, .int x1], [], am_hp RF s) (.int r.1, am_hp RF r.2) := by
  intro n
  induction n with
  | zero => intro x0 x1 s r h; rw [F_X11_leastOf_b2] at h; cases h
  | succ n ih =>
  intro x0 x1 s r h
  rw [F_X11_leastOf_b2] at h
  refine aq_iload_n (am_dg dkX11_leastOf (i := 2) rfl) rfl ?_
  refine aq_bipush (v := (6 : Int32)) (am_dg dkX11_leastOf (i := 3) rfl) (by decide) ?_
  by_cases hc1 : (6 : Int32) ≤ x1
  · rw [if_pos hc1] at h
    refine aq_icT (t := 25) (am_dg dkX11_leastOf (i := 4) rfl) rfl (decide_eq_true hc1) ?_
    refine aq_bipush (v := (-3 : Int32)) (am_dg dkX11_leastOf (i := 16) rfl) (by decide) ?_
    obtain rfl := Option.some.inj h
    exact aq_ireturn (am_dg dkX11_leastOf (i := 17) rfl) rfl (Or.inl rfl) rfl
  · rw [if_neg hc1] at h
    refine aq_icF (t := 25) (am_dg dkX11_leastOf (i := 4) rfl) rfl (decide_eq_false hc1) ?_
    refine aq_iload_n (am_dg dkX11_leastOf (i := 5) rfl) rfl ?_
    refine aq_iload_n (am_dg dkX11_leastOf (i := 6) rfl) rfl ?_
    refine aq_ishr (am_dg dkX11_leastOf (i := 7) rfl) ?_
    refine aq_iconst (v := (1 : Int32)) (am_dg dkX11_leastOf (i := 8) rfl) (by decide) ?_
    refine aq_iand (am_dg dkX11_leastOf (i := 9) rfl) ?_
    refine aq_iconst (v := (1 : Int32)) (am_dg dkX11_leastOf (i := 10) rfl) (by decide) ?_
    by_cases hc2 : ((x0 >>> (x1 &&& 31)) &&& (1 : Int32)) = (1 : Int32)
    · rw [if_pos hc2] at h
      refine aq_icF (t := 19) (am_dg dkX11_leastOf (i := 11) rfl) rfl (decide_eq_false (not_not_intro hc2)) ?_
      refine aq_iload_n (am_dg dkX11_leastOf (i := 12) rfl) rfl ?_
      obtain rfl := Option.some.inj h
      exact aq_ireturn (am_dg dkX11_leastOf (i := 13) rfl) rfl (Or.inl rfl) rfl
    · rw [if_neg hc2] at h
      refine aq_icT (t := 19) (am_dg dkX11_leastOf (i := 11) rfl) rfl (decide_eq_true hc2) ?_
      refine aq_iinc (v := (1 : Int32)) (L1 := [.int x0, .int (x1 + (1 : Int32))]) (am_dg dkX11_leastOf (i := 14) rfl) rfl (by decide) rfl ?_
      refine aq_goto (t := 2) (am_dg dkX11_leastOf (i := 15) rfl) rfl ?_
      exact ih _ _ _ _ h
set_option maxRecDepth 20000 in
theorem T_X11_leastOf {sc : Option (Nat × (Nat → Int32))} {RF : Nat → Nat → Option Nat} {d : Nat} (hR : am_RFok RF) (hd : 0 ≤ d) {a0 : Int32} {s : am_S} {r : Int32 × am_S} (h : F_X11_leastOf a0 s = some r) : am_Q sc d mX11_leastOf (0, am_L0 mX11_leastOf [.int a0], [], am_hp RF s) (.int r.1, am_hp RF r.2) := by
  unfold F_X11_leastOf at h
  show am_Q _ _ _ (0, [.int a0, .null], [], _) _
  refine aq_iconst (v := (0 : Int32)) (am_dg dkX11_leastOf (i := 0) rfl) (by decide) ?_
  refine aq_istore_n (L1 := [.int a0, .int (0 : Int32)]) (am_dg dkX11_leastOf (i := 1) rfl) rfl ?_
  exact T_X11_leastOf_b2 hR (by omega) _ _ _ _ _ h
set_option maxRecDepth 20000 in
theorem T_X11_bars_0 {sc : Option (Nat × (Nat → Int32))} {RF : Nat → Nat → Option Nat} {d : Nat} (hR : am_RFok RF) (hd : 17 ≤ d) {a1 : Int32} {a2 : Int32} {s : am_S} {r : Int32 × am_S} (h : F_X11_bars_0 a1 a2 s = some r) : am_Q sc d mX11_bars (0, am_L0 mX11_bars [.ref 0, .int a1, .int a2], [], am_hp RF s) (.int r.1, am_hp RF r.2) := by
  obtain ⟨e, rfl⟩ : ∃ e, d = e + 1 := ⟨d - 1, by omega⟩
  unfold F_X11_bars_0 at h
  show am_Q _ _ _ (0, [.ref 0, .int a1, .int a2], [], _) _
  refine aq_iload_n (am_dg dkX11_bars (i := 0) rfl) rfl ?_
  obtain ⟨q1, hq2, h⟩ := am_bnd h
  refine aq_static (a := [.int a1]) (S1 := []) (v1 := .int q1.1) (S2 := [.int q1.1]) (am_dg dkX11_bars (i := 1) rfl) ct_11_242 rfl rfl rfl (Nat.le_of_ble_eq_true rfl) (Nat.le_of_ble_eq_true rfl) (T_X11_isPlan hR (by omega) hq2) rfl ?_
  by_cases hc3 : q1.1 = (0 : Int32)
  · rw [if_pos hc3] at h
    refine aq_ifT (t := 18) (am_dg dkX11_bars (i := 2) rfl) rfl (decide_eq_true hc3) ?_
    refine aq_iconst (v := (-1 : Int32)) (am_dg dkX11_bars (i := 8) rfl) (by decide) ?_
    obtain rfl := Option.some.inj h
    exact aq_ireturn (am_dg dkX11_bars (i := 9) rfl) rfl (Or.inl rfl) rfl
  · rw [if_neg hc3] at h
    refine aq_ifF (t := 18) (am_dg dkX11_bars (i := 2) rfl) rfl (decide_eq_false hc3) ?_
    refine aq_aload_n (am_dg dkX11_bars (i := 3) rfl) rfl ?_
    refine aq_getR (am_dg dkX11_bars (i := 4) rfl) gk_11_30_0 (rf_0_0 hR) ?_
    refine aq_iload_n (am_dg dkX11_bars (i := 5) rfl) rfl ?_
    obtain ⟨q4, hq5, h⟩ := am_bnd h
    refine aq_virt (a := [.ref 8, .int a2]) (S1 := []) (v1 := .int q4.1) (S2 := [.int q4.1]) (am_dg dkX11_bars (i := 6) rfl) cv_11_261_8 (am_cls_c sh_8 (by decide)) rfl rfl rfl (Nat.le_of_ble_eq_true rfl) (Nat.le_of_ble_eq_true rfl) (T_X8_hasAll_8 hR (by omega) hq5) rfl ?_
    by_cases hc6 : q4.1 = (0 : Int32)
    · rw [if_pos hc6] at h
      refine aq_ifF (t := 20) (am_dg dkX11_bars (i := 7) rfl) rfl (decide_eq_false (not_not_intro hc6)) ?_
      refine aq_iconst (v := (-1 : Int32)) (am_dg dkX11_bars (i := 8) rfl) (by decide) ?_
      obtain rfl := Option.some.inj h
      exact aq_ireturn (am_dg dkX11_bars (i := 9) rfl) rfl (Or.inl rfl) rfl
    · rw [if_neg hc6] at h
      refine aq_ifT (t := 20) (am_dg dkX11_bars (i := 7) rfl) rfl (decide_eq_true hc6) ?_
      refine aq_aload_n (am_dg dkX11_bars (i := 10) rfl) rfl ?_
      refine aq_getR (am_dg dkX11_bars (i := 11) rfl) gk_11_55_0 (rf_0_4 hR) ?_
      refine aq_iload_n (am_dg dkX11_bars (i := 12) rfl) rfl ?_
      refine aq_iload_n (am_dg dkX11_bars (i := 13) rfl) rfl ?_
      obtain ⟨q7, hq8, h⟩ := am_bnd h
      refine aq_virt (a := [.ref 50, .int a1, .int a2]) (S1 := []) (v1 := .null) (S2 := []) (am_dg dkX11_bars (i := 14) rfl) cv_11_245_3 (am_cls_c sh_50 (by decide)) rfl rfl rfl (Nat.le_of_ble_eq_true rfl) (Nat.le_of_ble_eq_true rfl) (T_X3_search_50 hR (by omega) hq8) rfl ?_
      refine aq_iload_n (am_dg dkX11_bars (i := 15) rfl) rfl ?_
      refine aq_aload_n (am_dg dkX11_bars (i := 16) rfl) rfl ?_
      refine aq_getR (am_dg dkX11_bars (i := 17) rfl) gk_11_55_0 (rf_0_4 hR) ?_
      refine aq_getI (am_dg dkX11_bars (i := 18) rfl) gk_11_267_50 (by decide) ?_
      refine aq_iconst (v := (-1 : Int32)) (am_dg dkX11_bars (i := 19) rfl) (by decide) ?_
      refine aq_ixor (am_dg dkX11_bars (i := 20) rfl) ?_
      refine aq_iand (am_dg dkX11_bars (i := 21) rfl) ?_
      obtain ⟨q9, hq10, h⟩ := am_bnd h
      refine aq_static (a := [.int (a2 &&& ((q7.1 50 11) ^^^ (-1 : Int32)))]) (S1 := []) (v1 := .int q9.1) (S2 := [.int q9.1]) (am_dg dkX11_bars (i := 22) rfl) ct_11_270 rfl rfl rfl (Nat.le_of_ble_eq_true rfl) (Nat.le_of_ble_eq_true rfl) (T_X11_leastOf hR (by omega) hq10) rfl ?_
      obtain rfl := Option.some.inj h
      exact aq_ireturn (am_dg dkX11_bars (i := 23) rfl) rfl (Or.inl rfl) rfl
set_option maxRecDepth 20000 in
theorem T_X12_bars_82_b27 {sc : Option (Nat × (Nat → Int32))} {RF : Nat → Nat → Option Nat} {d : Nat} (hR : am_RFok RF) (hd : 20 ≤ d) : ∀ (n : Nat) (x2 : Int32) (x3 : Int32) (x4 : Int32) (w1 : Value) (s : am_S) (r : Int32 × am_S), F_X12_bars_82_b27 n x2 x3 x4 s = some r → am_Q sc d mX12_bars (27, [.ref 82, w1, .int x2, .int x3, .int x4], [], am_hp RF s) (.int r.1, am_hp RF r.2) := by
  obtain ⟨e, rfl⟩ : ∃ e, d = e + 1 := ⟨d - 1, by omega⟩
  intro n
  induction n with
  | zero => intro x2 x3 x4 w1 s r h; rw [F_X12_bars_82_b27] at h; cases h
  | succ n ih =>
  intro x2 x3 x4 w1 s r h
  rw [F_X12_bars_82_b27] at h
  refine aq_iload (am_dg dkX12_bars (i := 16) rfl) rfl ?_
  refine aq_aload_n (am_dg dkX12_bars (i := 17) rfl) rfl ?_
  refine aq_getR (am_dg dkX12_bars (i := 18) rfl) gk_12_7_82 (rf_82_0 hR) ?_
  refine aq_iconst (v := (0 : Int32)) (am_dg dkX12_bars (i := 19) rfl) (by decide) ?_
  obtain ⟨hg1, h⟩ := am_guard h
  refine aq_iald (am_dg dkX12_bars (i := 20) rfl) sh_83 hg1 ?_
  by_cases hc2 : (s.1 83 (0 : Int32).toNatClampNeg) ≤ x4
  · rw [if_pos hc2] at h
    refine aq_icT (t := 64) (am_dg dkX12_bars (i := 21) rfl) rfl (decide_eq_true hc2) ?_
    refine aq_bipush (v := (-3 : Int32)) (am_dg dkX12_bars (i := 38) rfl) (by decide) ?_
    obtain rfl := Option.some.inj h
    exact aq_ireturn (am_dg dkX12_bars (i := 39) rfl) rfl (Or.inl rfl) rfl
  · rw [if_neg hc2] at h
    refine aq_icF (t := 64) (am_dg dkX12_bars (i := 21) rfl) rfl (decide_eq_false hc2) ?_
    refine aq_iload_n (am_dg dkX12_bars (i := 22) rfl) rfl ?_
    refine aq_aload_n (am_dg dkX12_bars (i := 23) rfl) rfl ?_
    refine aq_getI (am_dg dkX12_bars (i := 24) rfl) gk_12_202_82 (by decide) ?_
    refine aq_iconst (v := (-1 : Int32)) (am_dg dkX12_bars (i := 25) rfl) (by decide) ?_
    refine aq_ixor (am_dg dkX12_bars (i := 26) rfl) ?_
    refine aq_iand (am_dg dkX12_bars (i := 27) rfl) ?_
    refine aq_iload (am_dg dkX12_bars (i := 28) rfl) rfl ?_
    refine aq_ishr (am_dg dkX12_bars (i := 29) rfl) ?_
    refine aq_iconst (v := (1 : Int32)) (am_dg dkX12_bars (i := 30) rfl) (by decide) ?_
    refine aq_iand (am_dg dkX12_bars (i := 31) rfl) ?_
    refine aq_iconst (v := (1 : Int32)) (am_dg dkX12_bars (i := 32) rfl) (by decide) ?_
    by_cases hc3 : (((x2 &&& ((s.1 82 12) ^^^ (-1 : Int32))) >>> (x4 &&& 31)) &&& (1 : Int32)) = (1 : Int32)
    · rw [if_pos hc3] at h
      refine aq_icF (t := 58) (am_dg dkX12_bars (i := 33) rfl) rfl (decide_eq_false (not_not_intro hc3)) ?_
      refine aq_iload (am_dg dkX12_bars (i := 34) rfl) rfl ?_
      obtain rfl := Option.some.inj h
      exact aq_ireturn (am_dg dkX12_bars (i := 35) rfl) rfl (Or.inl rfl) rfl
    · rw [if_neg hc3] at h
      refine aq_icT (t := 58) (am_dg dkX12_bars (i := 33) rfl) rfl (decide_eq_true hc3) ?_
      refine aq_iinc (v := (1 : Int32)) (L1 := [.ref 82, w1, .int x2, .int x3, .int (x4 + (1 : Int32))]) (am_dg dkX12_bars (i := 36) rfl) rfl (by decide) rfl ?_
      refine aq_goto (t := 27) (am_dg dkX12_bars (i := 37) rfl) rfl ?_
      exact ih _ _ _ _ _ _ h
set_option maxRecDepth 20000 in
theorem T_X12_bars_82 {sc : Option (Nat × (Nat → Int32))} {RF : Nat → Nat → Option Nat} {d : Nat} (hR : am_RFok RF) (hd : 20 ≤ d) {a1 : Int32} {a2 : Int32} {s : am_S} {r : Int32 × am_S} (h : F_X12_bars_82 a1 a2 s = some r) : am_Q sc d mX12_bars (0, am_L0 mX12_bars [.ref 82, .int a1, .int a2], [], am_hp RF s) (.int r.1, am_hp RF r.2) := by
  obtain ⟨e, rfl⟩ : ∃ e, d = e + 1 := ⟨d - 1, by omega⟩
  unfold F_X12_bars_82 at h
  show am_Q _ _ _ (0, [.ref 82, .int a1, .int a2, .null, .null], [], _) _
  refine aq_iload_n (am_dg dkX12_bars (i := 0) rfl) rfl ?_
  obtain ⟨q1, hq2, h⟩ := am_bnd h
  refine aq_static (a := [.int a1]) (S1 := []) (v1 := .int q1.1) (S2 := [.int q1.1]) (am_dg dkX12_bars (i := 1) rfl) ct_12_228 rfl rfl rfl (Nat.le_of_ble_eq_true rfl) (Nat.le_of_ble_eq_true rfl) (T_X12_isLong hR (by omega) hq2) rfl ?_
  by_cases hc3 : q1.1 = (0 : Int32)
  · rw [if_pos hc3] at h
    refine aq_ifT (t := 15) (am_dg dkX12_bars (i := 2) rfl) rfl (decide_eq_true hc3) ?_
    refine aq_iconst (v := (-1 : Int32)) (am_dg dkX12_bars (i := 7) rfl) (by decide) ?_
    obtain rfl := Option.some.inj h
    exact aq_ireturn (am_dg dkX12_bars (i := 8) rfl) rfl (Or.inl rfl) rfl
  · rw [if_neg hc3] at h
    refine aq_ifF (t := 15) (am_dg dkX12_bars (i := 2) rfl) rfl (decide_eq_false hc3) ?_
    refine aq_aload_n (am_dg dkX12_bars (i := 3) rfl) rfl ?_
    refine aq_iload_n (am_dg dkX12_bars (i := 4) rfl) rfl ?_
    obtain ⟨q4, hq5, h⟩ := am_bnd h
    refine aq_virt (a := [.ref 82, .int a2]) (S1 := []) (v1 := .int q4.1) (S2 := [.int q4.1]) (am_dg dkX12_bars (i := 5) rfl) cv_12_236_12 (am_cls_c sh_82 (by decide)) rfl rfl rfl (Nat.le_of_ble_eq_true rfl) (Nat.le_of_ble_eq_true rfl) (T_X12_areVoices_82 hR (by omega) hq5) rfl ?_
    by_cases hc6 : q4.1 = (0 : Int32)
    · rw [if_pos hc6] at h
      refine aq_ifF (t := 17) (am_dg dkX12_bars (i := 6) rfl) rfl (decide_eq_false (not_not_intro hc6)) ?_
      refine aq_iconst (v := (-1 : Int32)) (am_dg dkX12_bars (i := 7) rfl) (by decide) ?_
      obtain rfl := Option.some.inj h
      exact aq_ireturn (am_dg dkX12_bars (i := 8) rfl) rfl (Or.inl rfl) rfl
    · rw [if_neg hc6] at h
      refine aq_ifT (t := 17) (am_dg dkX12_bars (i := 6) rfl) rfl (decide_eq_true hc6) ?_
      refine aq_aload_n (am_dg dkX12_bars (i := 9) rfl) rfl ?_
      refine aq_iload_n (am_dg dkX12_bars (i := 10) rfl) rfl ?_
      refine aq_iload_n (am_dg dkX12_bars (i := 11) rfl) rfl ?_
      obtain ⟨q7, hq8, h⟩ := am_bnd h
      refine aq_virt (a := [.ref 82, .int a1, .int a2]) (S1 := []) (v1 := .int q7.1) (S2 := [.int q7.1]) (am_dg dkX12_bars (i := 12) rfl) cv_12_231_12 (am_cls_c sh_82 (by decide)) rfl rfl rfl (Nat.le_of_ble_eq_true rfl) (Nat.le_of_ble_eq_true rfl) (T_X12_plansOf_82 hR (by omega) hq8) rfl ?_
      refine aq_istore_n (L1 := [.ref 82, .int a1, .int a2, .int q7.1, .null]) (am_dg dkX12_bars (i := 13) rfl) rfl ?_
      refine aq_iconst (v := (0 : Int32)) (am_dg dkX12_bars (i := 14) rfl) (by decide) ?_
      refine aq_istore (L1 := [.ref 82, .int a1, .int a2, .int q7.1, .int (0 : Int32)]) (am_dg dkX12_bars (i := 15) rfl) rfl ?_
      exact T_X12_bars_82_b27 hR (by omega) _ _ _ _ _ _ _ h
set_option maxRecDepth 20000 in
theorem T_X11_isGame {sc : Option (Nat × (Nat → Int32))} {RF : Nat → Nat → Option Nat} {d : Nat} (hR : am_RFok RF) (hd : 1 ≤ d) {a0 : Int32} {s : am_S} {r : Int32 × am_S} (h : F_X11_isGame a0 s = some r) : am_Q sc d mX11_isGame (0, am_L0 mX11_isGame [.int a0], [], am_hp RF s) (.int r.1, am_hp RF r.2) := by
  obtain ⟨e, rfl⟩ : ∃ e, d = e + 1 := ⟨d - 1, by omega⟩
  unfold F_X11_isGame at h
  show am_Q _ _ _ (0, [.int a0], [], _) _
  refine aq_iload_n (am_dg dkX11_isGame (i := 0) rfl) rfl ?_
  refine aq_iconst (v := (1 : Int32)) (am_dg dkX11_isGame (i := 1) rfl) (by decide) ?_
  refine aq_iconst (v := (4 : Int32)) (am_dg dkX11_isGame (i := 2) rfl) (by decide) ?_
  obtain ⟨q1, hq2, h⟩ := am_bnd h
  refine aq_static (a := [.int a0, .int (1 : Int32), .int (4 : Int32)]) (S1 := []) (v1 := .int q1.1) (S2 := [.int q1.1]) (am_dg dkX11_isGame (i := 3) rfl) ct_11_149 rfl rfl rfl (Nat.le_of_ble_eq_true rfl) (Nat.le_of_ble_eq_true rfl) (T_X11_isWithin hR (by omega) hq2) rfl ?_
  obtain ⟨hg3, h⟩ := am_guard h
  obtain rfl := Option.some.inj h
  exact aq_ireturn (am_dg dkX11_isGame (i := 4) rfl) rfl (Or.inr (Or.inl rfl)) (am_nz hg3)
set_option maxRecDepth 20000 in
theorem T_X3_valueFrom_50_b141 {sc : Option (Nat × (Nat → Int32))} {RF : Nat → Nat → Option Nat} {d : Nat} (hR : am_RFok RF) (hd : 4 ≤ d) {rc : Int32 → am_S → Option (Int32 × am_S)} {dr : Nat} (hdr : dr + 1 ≤ d) (hrc : ∀ (c0 : Int32) (s2 : am_S) (r2 : Int32 × am_S), rc c0 s2 = some r2 → am_Q sc dr mX3_valueFrom (0, am_L0 mX3_valueFrom [.ref 50, .int c0], [], am_hp RF s2) (.int r2.1, am_hp RF r2.2)) {k60 : Int32 → Int32 → Int32 → Int32 → am_S → Option (Int32 × am_S)} (hk60 : ∀ (x1 : Int32) (x2 : Int32) (x3 : Int32) (x4 : Int32) (w5 : Value) (s2 : am_S) (r2 : Int32 × am_S), k60 x1 x2 x3 x4 s2 = some r2 → am_Q sc d mX3_valueFrom (60, [.ref 50, .int x1, .int x2, .int x3, .int x4, w5], [], am_hp RF s2) (.int r2.1, am_hp RF r2.2)) : ∀ (x1 : Int32) (x2 : Int32) (x3 : Int32) (x4 : Int32) (w5 : Value) (s : am_S) (r : Int32 × am_S), F_X3_valueFrom_50_b141 rc k60 x1 x2 x3 x4 s = some r → am_Q sc d mX3_valueFrom (141, [.ref 50, .int x1, .int x2, .int x3, .int x4, w5], [], am_hp RF s) (.int r.1, am_hp RF r.2) := by
  obtain ⟨e, rfl⟩ : ∃ e, d = e + 1 := ⟨d - 1, by omega⟩
  intro x1 x2 x3 x4 w5 s r h
  unfold F_X3_valueFrom_50_b141 at h
  refine aq_iinc (v := (1 : Int32)) (L1 := [.ref 50, .int x1, .int x2, .int x3, .int (x4 + (1 : Int32)), w5]) (am_dg dkX3_valueFrom (i := 76) rfl) rfl (by decide) rfl ?_
  refine aq_goto (t := 60) (am_dg dkX3_valueFrom (i := 77) rfl) rfl ?_
  exact hk60 _ _ _ _ _ _ _ h
set_option maxRecDepth 20000 in
theorem T_X3_valueFrom_50_b128 {sc : Option (Nat × (Nat → Int32))} {RF : Nat → Nat → Option Nat} {d : Nat} (hR : am_RFok RF) (hd : 4 ≤ d) {rc : Int32 → am_S → Option (Int32 × am_S)} {dr : Nat} (hdr : dr + 1 ≤ d) (hrc : ∀ (c0 : Int32) (s2 : am_S) (r2 : Int32 × am_S), rc c0 s2 = some r2 → am_Q sc dr mX3_valueFrom (0, am_L0 mX3_valueFrom [.ref 50, .int c0], [], am_hp RF s2) (.int r2.1, am_hp RF r2.2)) {k60 : Int32 → Int32 → Int32 → Int32 → am_S → Option (Int32 × am_S)} (hk60 : ∀ (x1 : Int32) (x2 : Int32) (x3 : Int32) (x4 : Int32) (w5 : Value) (s2 : am_S) (r2 : Int32 × am_S), k60 x1 x2 x3 x4 s2 = some r2 → am_Q sc d mX3_valueFrom (60, [.ref 50, .int x1, .int x2, .int x3, .int x4, w5], [], am_hp RF s2) (.int r2.1, am_hp RF r2.2)) : ∀ (x1 : Int32) (x2 : Int32) (x4 : Int32) (x5 : Int32) (w3 : Value) (s : am_S) (r : Int32 × am_S), F_X3_valueFrom_50_b128 rc k60 x1 x2 x4 x5 s = some r → am_Q sc d mX3_valueFrom (128, [.ref 50, .int x1, .int x2, w3, .int x4, .int x5], [], am_hp RF s) (.int r.1, am_hp RF r.2) := by
  obtain ⟨e, rfl⟩ : ∃ e, d = e + 1 := ⟨d - 1, by omega⟩
  intro x1 x2 x4 x5 w3 s r h
  unfold F_X3_valueFrom_50_b128 at h
  refine aq_iload (am_dg dkX3_valueFrom (i := 69) rfl) rfl ?_
  refine aq_istore_n (L1 := [.ref 50, .int x1, .int x2, .int x5, .int x4, .int x5]) (am_dg dkX3_valueFrom (i := 70) rfl) rfl ?_
  refine aq_iload_n (am_dg dkX3_valueFrom (i := 71) rfl) rfl ?_
  by_cases hc1 : x1 = (0 : Int32)
  · rw [if_pos hc1] at h
    refine aq_ifF (t := 141) (am_dg dkX3_valueFrom (i := 72) rfl) rfl (decide_eq_false (not_not_intro hc1)) ?_
    refine aq_aload_n (am_dg dkX3_valueFrom (i := 73) rfl) rfl ?_
    refine aq_iload (am_dg dkX3_valueFrom (i := 74) rfl) rfl ?_
    refine aq_putI (am_dg dkX3_valueFrom (i := 75) rfl) gk_3_167_50 ?_
    obtain ⟨s2, hs3, h⟩ := am_bnd h
    rw [Option.some.inj hs3]
    exact T_X3_valueFrom_50_b141 hR (by omega) (by omega) hrc hk60 _ _ _ _ _ _ _ h
  · rw [if_neg hc1] at h
    refine aq_ifT (t := 141) (am_dg dkX3_valueFrom (i := 72) rfl) rfl (decide_eq_true hc1) ?_
    exact T_X3_valueFrom_50_b141 hR (by omega) (by omega) hrc hk60 _ _ _ _ _ _ _ h
set_option maxRecDepth 20000 in
theorem T_X3_valueFrom_50_b60 {sc : Option (Nat × (Nat → Int32))} {RF : Nat → Nat → Option Nat} {d : Nat} (hR : am_RFok RF) (hd : 4 ≤ d) {rc : Int32 → am_S → Option (Int32 × am_S)} {dr : Nat} (hdr : dr + 1 ≤ d) (hrc : ∀ (c0 : Int32) (s2 : am_S) (r2 : Int32 × am_S), rc c0 s2 = some r2 → am_Q sc dr mX3_valueFrom (0, am_L0 mX3_valueFrom [.ref 50, .int c0], [], am_hp RF s2) (.int r2.1, am_hp RF r2.2)) : ∀ (n : Nat) (x1 : Int32) (x2 : Int32) (x3 : Int32) (x4 : Int32) (w5 : Value) (s : am_S) (r : Int32 × am_S), F_X3_valueFrom_50_b60 rc n x1 x2 x3 x4 s = some r → am_Q sc d mX3_valueFrom (60, [.ref 50, .int x1, .int x2, .int x3, .int x4, w5], [], am_hp RF s) (.int r.1, am_hp RF r.2) := by
  obtain ⟨e, rfl⟩ : ∃ e, d = e + 1 := ⟨d - 1, by omega⟩
  intro n
  induction n with
  | zero => intro x1 x2 x3 x4 w5 s r h; rw [F_X3_valueFrom_50_b60] at h; cases h
  | succ n ih =>
  intro x1 x2 x3 x4 w5 s r h
  rw [F_X3_valueFrom_50_b60] at h
  refine aq_iload (am_dg dkX3_valueFrom (i := 35) rfl) rfl ?_
  refine aq_aload_n (am_dg dkX3_valueFrom (i := 36) rfl) rfl ?_
  refine aq_getR (am_dg dkX3_valueFrom (i := 37) rfl) gk_3_37_50 (rf_50_0 hR) ?_
  refine aq_getI (am_dg dkX3_valueFrom (i := 38) rfl) gk_3_91_8 (by decide) ?_
  by_cases hc1 : (s.1 8 5) < x4
  · rw [if_pos hc1] at h
    refine aq_icT (t := 147) (am_dg dkX3_valueFrom (i := 39) rfl) rfl (decide_eq_true hc1) ?_
    refine aq_aload_n (am_dg dkX3_valueFrom (i := 78) rfl) rfl ?_
    refine aq_getR (am_dg dkX3_valueFrom (i := 79) rfl) gk_3_37_50 (rf_50_0 hR) ?_
    refine aq_aload_n (am_dg dkX3_valueFrom (i := 80) rfl) rfl ?_
    refine aq_getR (am_dg dkX3_valueFrom (i := 81) rfl) gk_3_19_50 (rf_50_2 hR) ?_
    refine aq_iload_n (am_dg dkX3_valueFrom (i := 82) rfl) rfl ?_
    obtain ⟨hg2, h⟩ := am_guard h
    refine aq_aald (am_dg dkX3_valueFrom (i := 83) rfl) sh_52 (by decide) hg2 (fm_52 hR _ (am_in_lt hg2)) ?_
    obtain ⟨q3, hq4, h⟩ := am_bnd h
    refine aq_virt (a := [.ref 8, .ref (53 + x1.toNatClampNeg)]) (S1 := []) (v1 := .null) (S2 := []) (am_dg dkX3_valueFrom (i := 84) rfl) cv_3_45_8 (am_cls_c sh_8 (by decide)) rfl rfl rfl (Nat.le_of_ble_eq_true rfl) (Nat.le_of_ble_eq_true rfl) (T_X8_comeBackTo_8_f52 hR (by omega) (am_in_lt hg2) hq4) rfl ?_
    refine aq_iload_n (am_dg dkX3_valueFrom (i := 85) rfl) rfl ?_
    obtain rfl := Option.some.inj h
    exact aq_ireturn (am_dg dkX3_valueFrom (i := 86) rfl) rfl (Or.inl rfl) rfl
  · rw [if_neg hc1] at h
    refine aq_icF (t := 147) (am_dg dkX3_valueFrom (i := 39) rfl) rfl (decide_eq_false hc1) ?_
    refine aq_aload_n (am_dg dkX3_valueFrom (i := 40) rfl) rfl ?_
    refine aq_getR (am_dg dkX3_valueFrom (i := 41) rfl) gk_3_37_50 (rf_50_0 hR) ?_
    refine aq_iload (am_dg dkX3_valueFrom (i := 42) rfl) rfl ?_
    obtain ⟨q5, hq6, h⟩ := am_bnd h
    refine aq_virt (a := [.ref 8, .int x4]) (S1 := []) (v1 := .int q5.1) (S2 := [.int q5.1]) (am_dg dkX3_valueFrom (i := 43) rfl) cv_3_155_8 (am_cls_c sh_8 (by decide)) rfl rfl rfl (Nat.le_of_ble_eq_true rfl) (Nat.le_of_ble_eq_true rfl) (T_X8_cast_8 hR (by omega) hq6) rfl ?_
    refine aq_aload_n (am_dg dkX3_valueFrom (i := 44) rfl) rfl ?_
    refine aq_iload_n (am_dg dkX3_valueFrom (i := 45) rfl) rfl ?_
    refine aq_iconst (v := (1 : Int32)) (am_dg dkX3_valueFrom (i := 46) rfl) (by decide) ?_
    refine aq_iadd (am_dg dkX3_valueFrom (i := 47) rfl) ?_
    obtain ⟨q7, hq8, h⟩ := am_bnd h
    refine aq_virt (a := [.ref 50, .int (x1 + (1 : Int32))]) (S1 := [.int q5.1]) (v1 := .int q7.1) (S2 := [.int q7.1, .int q5.1]) (am_dg dkX3_valueFrom (i := 48) rfl) cv_3_170_3 (am_cls_c sh_50 (by decide)) rfl rfl rfl (Nat.le_of_ble_eq_true rfl) (Nat.le_of_ble_eq_true rfl) (am_Q_le (hrc _ _ _ hq8) (by omega)) rfl ?_
    refine aq_iadd (am_dg dkX3_valueFrom (i := 49) rfl) ?_
    refine aq_istore (L1 := [.ref 50, .int x1, .int x2, .int x3, .int x4, .int (q5.1 + q7.1)]) (am_dg dkX3_valueFrom (i := 50) rfl) rfl ?_
    refine aq_aload_n (am_dg dkX3_valueFrom (i := 51) rfl) rfl ?_
    refine aq_getR (am_dg dkX3_valueFrom (i := 52) rfl) gk_3_37_50 (rf_50_0 hR) ?_
    refine aq_aload_n (am_dg dkX3_valueFrom (i := 53) rfl) rfl ?_
    refine aq_getR (am_dg dkX3_valueFrom (i := 54) rfl) gk_3_22_50 (rf_50_3 hR) ?_
    refine aq_iload_n (am_dg dkX3_valueFrom (i := 55) rfl) rfl ?_
    obtain ⟨hg9, h⟩ := am_guard h
    refine aq_aald (am_dg dkX3_valueFrom (i := 56) rfl) sh_57 (by decide) hg9 (fm_57 hR _ (am_in_lt hg9)) ?_
    obtain ⟨q10, hq11, h⟩ := am_bnd h
    refine aq_virt (a := [.ref 8, .ref (58 + x1.toNatClampNeg)]) (S1 := []) (v1 := .null) (S2 := []) (am_dg dkX3_valueFrom (i := 57) rfl) cv_3_45_8 (am_cls_c sh_8 (by decide)) rfl rfl rfl (Nat.le_of_ble_eq_true rfl) (Nat.le_of_ble_eq_true rfl) (T_X8_comeBackTo_8_f57 hR (by omega) (am_in_lt hg9) hq11) rfl ?_
    refine aq_iload (am_dg dkX3_valueFrom (i := 58) rfl) rfl ?_
    by_cases hc12 : x4 = (0 : Int32)
    · rw [if_pos hc12] at h
      refine aq_ifT (t := 128) (am_dg dkX3_valueFrom (i := 59) rfl) rfl (decide_eq_true hc12) ?_
      exact T_X3_valueFrom_50_b128 hR (by omega) (by omega) hrc ih _ _ _ _ _ _ _ h
    · rw [if_neg hc12] at h
      refine aq_ifF (t := 128) (am_dg dkX3_valueFrom (i := 59) rfl) rfl (decide_eq_false hc12) ?_
      refine aq_iload_n (am_dg dkX3_valueFrom (i := 60) rfl) rfl ?_
      by_cases hc13 : x2 = (0 : Int32)
      · rw [if_pos hc13] at h
        refine aq_ifT (t := 122) (am_dg dkX3_valueFrom (i := 61) rfl) rfl (decide_eq_true hc13) ?_
        refine aq_iload (am_dg dkX3_valueFrom (i := 66) rfl) rfl ?_
        refine aq_iload_n (am_dg dkX3_valueFrom (i := 67) rfl) rfl ?_
        by_cases hc14 : x3 ≤ (q5.1 + q7.1)
        · rw [if_pos hc14] at h
          refine aq_icT (t := 141) (am_dg dkX3_valueFrom (i := 68) rfl) rfl (decide_eq_true hc14) ?_
          exact T_X3_valueFrom_50_b141 hR (by omega) (by omega) hrc ih _ _ _ _ _ _ _ h
        · rw [if_neg hc14] at h
          refine aq_icF (t := 141) (am_dg dkX3_valueFrom (i := 68) rfl) rfl (decide_eq_false hc14) ?_
          exact T_X3_valueFrom_50_b128 hR (by omega) (by omega) hrc ih _ _ _ _ _ _ _ h
      · rw [if_neg hc13] at h
        refine aq_ifF (t := 122) (am_dg dkX3_valueFrom (i := 61) rfl) rfl (decide_eq_false hc13) ?_
        refine aq_iload (am_dg dkX3_valueFrom (i := 62) rfl) rfl ?_
        refine aq_iload_n (am_dg dkX3_valueFrom (i := 63) rfl) rfl ?_
        by_cases hc15 : (q5.1 + q7.1) ≤ x3
        · rw [if_pos hc15] at h
          refine aq_icT (t := 141) (am_dg dkX3_valueFrom (i := 64) rfl) rfl (decide_eq_true hc15) ?_
          exact T_X3_valueFrom_50_b141 hR (by omega) (by omega) hrc ih _ _ _ _ _ _ _ h
        · rw [if_neg hc15] at h
          refine aq_icF (t := 141) (am_dg dkX3_valueFrom (i := 64) rfl) rfl (decide_eq_false hc15) ?_
          refine aq_goto (t := 128) (am_dg dkX3_valueFrom (i := 65) rfl) rfl ?_
          exact T_X3_valueFrom_50_b128 hR (by omega) (by omega) hrc ih _ _ _ _ _ _ _ h
set_option maxRecDepth 20000 in
theorem T_X3_valueFrom_50_b21 {sc : Option (Nat × (Nat → Int32))} {RF : Nat → Nat → Option Nat} {d : Nat} (hR : am_RFok RF) (hd : 4 ≤ d) {rc : Int32 → am_S → Option (Int32 × am_S)} {dr : Nat} (hdr : dr + 1 ≤ d) (hrc : ∀ (c0 : Int32) (s2 : am_S) (r2 : Int32 × am_S), rc c0 s2 = some r2 → am_Q sc dr mX3_valueFrom (0, am_L0 mX3_valueFrom [.ref 50, .int c0], [], am_hp RF s2) (.int r2.1, am_hp RF r2.2)) : ∀ (x1 : Int32) (y0 : Int32) (w2 : Value) (w3 : Value) (w4 : Value) (w5 : Value) (s : am_S) (r : Int32 × am_S), F_X3_valueFrom_50_b21 rc x1 y0 s = some r → am_Q sc d mX3_valueFrom (21, [.ref 50, .int x1, w2, w3, w4, w5], [.int y0], am_hp RF s) (.int r.1, am_hp RF r.2) := by
  obtain ⟨e, rfl⟩ : ∃ e, d = e + 1 := ⟨d - 1, by omega⟩
  intro x1 y0 w2 w3 w4 w5 s r h
  unfold F_X3_valueFrom_50_b21 at h
  refine aq_istore_n (L1 := [.ref 50, .int x1, .int y0, w3, w4, w5]) (am_dg dkX3_valueFrom (i := 13) rfl) rfl ?_
  refine aq_iconst (v := (0 : Int32)) (am_dg dkX3_valueFrom (i := 14) rfl) (by decide) ?_
  refine aq_istore_n (L1 := [.ref 50, .int x1, .int y0, .int (0 : Int32), w4, w5]) (am_dg dkX3_valueFrom (i := 15) rfl) rfl ?_
  refine aq_aload_n (am_dg dkX3_valueFrom (i := 16) rfl) rfl ?_
  refine aq_getR (am_dg dkX3_valueFrom (i := 17) rfl) gk_3_37_50 (rf_50_0 hR) ?_
  refine aq_aload_n (am_dg dkX3_valueFrom (i := 18) rfl) rfl ?_
  refine aq_getR (am_dg dkX3_valueFrom (i := 19) rfl) gk_3_19_50 (rf_50_2 hR) ?_
  refine aq_iload_n (am_dg dkX3_valueFrom (i := 20) rfl) rfl ?_
  obtain ⟨hg1, h⟩ := am_guard h
  refine aq_aald (am_dg dkX3_valueFrom (i := 21) rfl) sh_52 (by decide) hg1 (fm_52 hR _ (am_in_lt hg1)) ?_
  obtain ⟨q2, hq3, h⟩ := am_bnd h
  refine aq_virt (a := [.ref 8, .ref (53 + x1.toNatClampNeg)]) (S1 := []) (v1 := .null) (S2 := []) (am_dg dkX3_valueFrom (i := 22) rfl) cv_3_41_8 (am_cls_c sh_8 (by decide)) rfl rfl rfl (Nat.le_of_ble_eq_true rfl) (Nat.le_of_ble_eq_true rfl) (T_X8_saveTo_8_f52 hR (by omega) (am_in_lt hg1) hq3) rfl ?_
  refine aq_aload_n (am_dg dkX3_valueFrom (i := 23) rfl) rfl ?_
  refine aq_getR (am_dg dkX3_valueFrom (i := 24) rfl) gk_3_37_50 (rf_50_0 hR) ?_
  obtain ⟨q4, hq5, h⟩ := am_bnd h
  refine aq_virt (a := [.ref 8]) (S1 := []) (v1 := .null) (S2 := []) (am_dg dkX3_valueFrom (i := 25) rfl) cv_3_152_8 (am_cls_c sh_8 (by decide)) rfl rfl rfl (Nat.le_of_ble_eq_true rfl) (Nat.le_of_ble_eq_true rfl) (T_X8_drift_8 hR (by omega) hq5) rfl ?_
  refine aq_aload_n (am_dg dkX3_valueFrom (i := 26) rfl) rfl ?_
  refine aq_getR (am_dg dkX3_valueFrom (i := 27) rfl) gk_3_37_50 (rf_50_0 hR) ?_
  refine aq_aload_n (am_dg dkX3_valueFrom (i := 28) rfl) rfl ?_
  refine aq_getR (am_dg dkX3_valueFrom (i := 29) rfl) gk_3_22_50 (rf_50_3 hR) ?_
  refine aq_iload_n (am_dg dkX3_valueFrom (i := 30) rfl) rfl ?_
  obtain ⟨hg6, h⟩ := am_guard h
  refine aq_aald (am_dg dkX3_valueFrom (i := 31) rfl) sh_57 (by decide) hg6 (fm_57 hR _ (am_in_lt hg6)) ?_
  obtain ⟨q7, hq8, h⟩ := am_bnd h
  refine aq_virt (a := [.ref 8, .ref (58 + x1.toNatClampNeg)]) (S1 := []) (v1 := .null) (S2 := []) (am_dg dkX3_valueFrom (i := 32) rfl) cv_3_41_8 (am_cls_c sh_8 (by decide)) rfl rfl rfl (Nat.le_of_ble_eq_true rfl) (Nat.le_of_ble_eq_true rfl) (T_X8_saveTo_8_f57 hR (by omega) (am_in_lt hg6) hq8) rfl ?_
  refine aq_iconst (v := (0 : Int32)) (am_dg dkX3_valueFrom (i := 33) rfl) (by decide) ?_
  refine aq_istore (L1 := [.ref 50, .int x1, .int y0, .int (0 : Int32), .int (0 : Int32), w5]) (am_dg dkX3_valueFrom (i := 34) rfl) rfl ?_
  exact T_X3_valueFrom_50_b60 hR (by omega) (by omega) hrc _ _ _ _ _ _ _ _ h
set_option maxRecDepth 20000 in
theorem T_X3_valueFrom_50_o {sc : Option (Nat × (Nat → Int32))} {RF : Nat → Nat → Option Nat} {d : Nat} (hR : am_RFok RF) (hd : 4 ≤ d) {rc : Int32 → am_S → Option (Int32 × am_S)} {dr : Nat} (hdr : dr + 1 ≤ d) (hrc : ∀ (c0 : Int32) (s2 : am_S) (r2 : Int32 × am_S), rc c0 s2 = some r2 → am_Q sc dr mX3_valueFrom (0, am_L0 mX3_valueFrom [.ref 50, .int c0], [], am_hp RF s2) (.int r2.1, am_hp RF r2.2)) {a1 : Int32} {s : am_S} {r : Int32 × am_S} (h : F_X3_valueFrom_50_o rc a1 s = some r) : am_Q sc d mX3_valueFrom (0, am_L0 mX3_valueFrom [.ref 50, .int a1], [], am_hp RF s) (.int r.1, am_hp RF r.2) := by
  obtain ⟨e, rfl⟩ : ∃ e, d = e + 1 := ⟨d - 1, by omega⟩
  unfold F_X3_valueFrom_50_o at h
  show am_Q _ _ _ (0, [.ref 50, .int a1, .null, .null, .null, .null], [], _) _
  refine aq_iload_n (am_dg dkX3_valueFrom (i := 0) rfl) rfl ?_
  refine aq_aload_n (am_dg dkX3_valueFrom (i := 1) rfl) rfl ?_
  refine aq_getI (am_dg dkX3_valueFrom (i := 2) rfl) gk_3_126_50 (by decide) ?_
  by_cases hc1 : a1 < (s.1 50 5)
  · rw [if_pos hc1] at h
    refine aq_icT (t := 10) (am_dg dkX3_valueFrom (i := 3) rfl) rfl (decide_eq_true hc1) ?_
    refine aq_iload_n (am_dg dkX3_valueFrom (i := 6) rfl) rfl ?_
    refine aq_iconst (v := (1 : Int32)) (am_dg dkX3_valueFrom (i := 7) rfl) (by decide) ?_
    refine aq_iand (am_dg dkX3_valueFrom (i := 8) rfl) ?_
    by_cases hc2 : (a1 &&& (1 : Int32)) = (0 : Int32)
    · rw [if_pos hc2] at h
      refine aq_ifF (t := 20) (am_dg dkX3_valueFrom (i := 9) rfl) rfl (decide_eq_false (not_not_intro hc2)) ?_
      refine aq_iconst (v := (1 : Int32)) (am_dg dkX3_valueFrom (i := 10) rfl) (by decide) ?_
      refine aq_goto (t := 21) (am_dg dkX3_valueFrom (i := 11) rfl) rfl ?_
      exact T_X3_valueFrom_50_b21 hR (by omega) (by omega) hrc _ _ _ _ _ _ _ _ h
    · rw [if_neg hc2] at h
      refine aq_ifT (t := 20) (am_dg dkX3_valueFrom (i := 9) rfl) rfl (decide_eq_true hc2) ?_
      refine aq_iconst (v := (0 : Int32)) (am_dg dkX3_valueFrom (i := 12) rfl) (by decide) ?_
      exact T_X3_valueFrom_50_b21 hR (by omega) (by omega) hrc _ _ _ _ _ _ _ _ h
  · rw [if_neg hc1] at h
    refine aq_icF (t := 10) (am_dg dkX3_valueFrom (i := 3) rfl) rfl (decide_eq_false hc1) ?_
    refine aq_iconst (v := (0 : Int32)) (am_dg dkX3_valueFrom (i := 4) rfl) (by decide) ?_
    obtain rfl := Option.some.inj h
    exact aq_ireturn (am_dg dkX3_valueFrom (i := 5) rfl) rfl (Or.inl rfl) rfl
set_option maxRecDepth 20000 in
theorem T_X3_valueFrom_50_n {sc : Option (Nat × (Nat → Int32))} {RF : Nat → Nat → Option Nat} (hR : am_RFok RF) : ∀ (n d : Nat) (hd : 1 * n + 4 ≤ d) (a1 : Int32) (s : am_S) (r : Int32 × am_S), F_X3_valueFrom_50 n a1 s = some r → am_Q sc d mX3_valueFrom (0, am_L0 mX3_valueFrom [.ref 50, .int a1], [], am_hp RF s) (.int r.1, am_hp RF r.2) := by
  intro n
  induction n with
  | zero => intro d hd a1 s r h; cases h
  | succ n ih =>
    intro d hd a1 s r h
    exact T_X3_valueFrom_50_o hR (by omega) (rc := F_X3_valueFrom_50 n) (dr := d - 1) (by omega) (fun c0 s2 r2 h2 => ih (d - 1) (by omega) c0 s2 r2 h2) h
set_option maxRecDepth 20000 in
theorem T_X3_valueFrom_50 {sc : Option (Nat × (Nat → Int32))} {RF : Nat → Nat → Option Nat} {d : Nat} (hR : am_RFok RF) (hd : 15 ≤ d) {a1 : Int32} {s : am_S} {r : Int32 × am_S} (h : F_X3_valueFrom_50 10 a1 s = some r) : am_Q sc d mX3_valueFrom (0, am_L0 mX3_valueFrom [.ref 50, .int a1], [], am_hp RF s) (.int r.1, am_hp RF r.2) := T_X3_valueFrom_50_n hR 10 d (by omega) _ _ _ h
set_option maxRecDepth 20000 in
theorem T_X3_valueOfGame_50 {sc : Option (Nat × (Nat → Int32))} {RF : Nat → Nat → Option Nat} {d : Nat} (hR : am_RFok RF) (hd : 16 ≤ d) {a1 : Int32} {s : am_S} {r : Int32 × am_S} (h : F_X3_valueOfGame_50 a1 s = some r) : am_Q sc d mX3_valueOfGame (0, am_L0 mX3_valueOfGame [.ref 50, .int a1], [], am_hp RF s) (.int r.1, am_hp RF r.2) := by
  obtain ⟨e, rfl⟩ : ∃ e, d = e + 1 := ⟨d - 1, by omega⟩
  unfold F_X3_valueOfGame_50 at h
  show am_Q _ _ _ (0, [.ref 50, .int a1], [], _) _
  refine aq_aload_n (am_dg dkX3_valueOfGame (i := 0) rfl) rfl ?_
  refine aq_aload_n (am_dg dkX3_valueOfGame (i := 1) rfl) rfl ?_
  refine aq_iload_n (am_dg dkX3_valueOfGame (i := 2) rfl) rfl ?_
  obtain ⟨q1, hq2, h⟩ := am_bnd h
  refine aq_virt (a := [.ref 50, .int a1]) (S1 := [.ref 50]) (v1 := .int q1.1) (S2 := [.int q1.1, .ref 50]) (am_dg dkX3_valueOfGame (i := 3) rfl) cv_3_123_3 (am_cls_c sh_50 (by decide)) rfl rfl rfl (Nat.le_of_ble_eq_true rfl) (Nat.le_of_ble_eq_true rfl) (T_X3_planLength_50 hR (by omega) hq2) rfl ?_
  refine aq_putI (am_dg dkX3_valueOfGame (i := 4) rfl) gk_3_126_50 ?_
  obtain ⟨s3, hs4, h⟩ := am_bnd h
  rw [Option.some.inj hs4]
  refine aq_aload_n (am_dg dkX3_valueOfGame (i := 5) rfl) rfl ?_
  refine aq_iconst (v := (0 : Int32)) (am_dg dkX3_valueOfGame (i := 6) rfl) (by decide) ?_
  refine aq_putI (am_dg dkX3_valueOfGame (i := 7) rfl) gk_3_167_50 ?_
  obtain ⟨s5, hs6, h⟩ := am_bnd h
  rw [Option.some.inj hs6]
  refine aq_aload_n (am_dg dkX3_valueOfGame (i := 8) rfl) rfl ?_
  refine aq_iconst (v := (0 : Int32)) (am_dg dkX3_valueOfGame (i := 9) rfl) (by decide) ?_
  obtain ⟨q7, hq8, h⟩ := am_bnd h
  refine aq_virt (a := [.ref 50, .int (0 : Int32)]) (S1 := []) (v1 := .int q7.1) (S2 := [.int q7.1]) (am_dg dkX3_valueOfGame (i := 10) rfl) cv_3_170_3 (am_cls_c sh_50 (by decide)) rfl rfl rfl (Nat.le_of_ble_eq_true rfl) (Nat.le_of_ble_eq_true rfl) (T_X3_valueFrom_50 hR (by omega) hq8) rfl ?_
  obtain rfl := Option.some.inj h
  exact aq_ireturn (am_dg dkX3_valueOfGame (i := 11) rfl) rfl (Or.inl rfl) rfl
set_option maxRecDepth 20000 in
theorem T_X11_game_0 {sc : Option (Nat × (Nat → Int32))} {RF : Nat → Nat → Option Nat} {d : Nat} (hR : am_RFok RF) (hd : 17 ≤ d) {a1 : Int32} {s : am_S} {r : Int32 × am_S} (h : F_X11_game_0 a1 s = some r) : am_Q sc d mX11_game (0, am_L0 mX11_game [.ref 0, .int a1], [], am_hp RF s) (.int r.1, am_hp RF r.2) := by
  obtain ⟨e, rfl⟩ : ∃ e, d = e + 1 := ⟨d - 1, by omega⟩
  unfold F_X11_game_0 at h
  show am_Q _ _ _ (0, [.ref 0, .int a1], [], _) _
  refine aq_iload_n (am_dg dkX11_game (i := 0) rfl) rfl ?_
  obtain ⟨q1, hq2, h⟩ := am_bnd h
  refine aq_static (a := [.int a1]) (S1 := []) (v1 := .int q1.1) (S2 := [.int q1.1]) (am_dg dkX11_game (i := 1) rfl) ct_11_273 rfl rfl rfl (Nat.le_of_ble_eq_true rfl) (Nat.le_of_ble_eq_true rfl) (T_X11_isGame hR (by omega) hq2) rfl ?_
  by_cases hc3 : q1.1 = (0 : Int32)
  · rw [if_pos hc3] at h
    refine aq_ifF (t := 9) (am_dg dkX11_game (i := 2) rfl) rfl (decide_eq_false (not_not_intro hc3)) ?_
    refine aq_iconst (v := (-1 : Int32)) (am_dg dkX11_game (i := 3) rfl) (by decide) ?_
    obtain rfl := Option.some.inj h
    exact aq_ireturn (am_dg dkX11_game (i := 4) rfl) rfl (Or.inl rfl) rfl
  · rw [if_neg hc3] at h
    refine aq_ifT (t := 9) (am_dg dkX11_game (i := 2) rfl) rfl (decide_eq_true hc3) ?_
    refine aq_aload_n (am_dg dkX11_game (i := 5) rfl) rfl ?_
    refine aq_getR (am_dg dkX11_game (i := 6) rfl) gk_11_55_0 (rf_0_4 hR) ?_
    refine aq_iload_n (am_dg dkX11_game (i := 7) rfl) rfl ?_
    obtain ⟨q4, hq5, h⟩ := am_bnd h
    refine aq_virt (a := [.ref 50, .int a1]) (S1 := []) (v1 := .int q4.1) (S2 := [.int q4.1]) (am_dg dkX11_game (i := 8) rfl) cv_11_276_3 (am_cls_c sh_50 (by decide)) rfl rfl rfl (Nat.le_of_ble_eq_true rfl) (Nat.le_of_ble_eq_true rfl) (T_X3_valueOfGame_50 hR (by omega) hq5) rfl ?_
    obtain rfl := Option.some.inj h
    exact aq_ireturn (am_dg dkX11_game (i := 9) rfl) rfl (Or.inl rfl) rfl
set_option maxRecDepth 20000 in
theorem T_X12_played_82_b133 {sc : Option (Nat × (Nat → Int32))} {RF : Nat → Nat → Option Nat} {d : Nat} (hR : am_RFok RF) (hd : 7 ≤ d) {rc : Int32 → Int32 → Int32 → am_S → Option (Int32 × am_S)} {dr : Nat} (hdr : dr + 1 ≤ d) (hrc : ∀ (c0 : Int32) (c1 : Int32) (c2 : Int32) (s2 : am_S) (r2 : Int32 × am_S), rc c0 c1 c2 s2 = some r2 → am_Q sc dr mX12_played (0, am_L0 mX12_played [.ref 82, .int c0, .int c1, .int c2], [], am_hp RF s2) (.int r2.1, am_hp RF r2.2)) {k23 : Int32 → Int32 → Int32 → Int32 → Int32 → Int32 → am_S → Option (Int32 × am_S)} (hk23 : ∀ (x1 : Int32) (x2 : Int32) (x3 : Int32) (x4 : Int32) (x5 : Int32) (x6 : Int32) (w7 : Value) (w8 : Value) (s2 : am_S) (r2 : Int32 × am_S), k23 x1 x2 x3 x4 x5 x6 s2 = some r2 → am_Q sc d mX12_played (23, [.ref 82, .int x1, .int x2, .int x3, .int x4, .int x5, .int x6, w7, w8], [], am_hp RF s2) (.int r2.1, am_hp RF r2.2)) : ∀ (x1 : Int32) (x2 : Int32) (x3 : Int32) (x4 : Int32) (x6 : Int32) (y0 : Int32) (w5 : Value) (w7 : Value) (w8 : Value) (s : am_S) (r : Int32 × am_S), F_X12_played_82_b133 rc k23 x1 x2 x3 x4 x6 y0 s = some r → am_Q sc d mX12_played (133, [.ref 82, .int x1, .int x2, .int x3, .int x4, w5, .int x6, w7, w8], [.int y0], am_hp RF s) (.int r.1, am_hp RF r.2) := by
  obtain ⟨e, rfl⟩ : ∃ e, d = e + 1 := ⟨d - 1, by omega⟩
  intro x1 x2 x3 x4 x6 y0 w5 w7 w8 s r h
  unfold F_X12_played_82_b133 at h
  refine aq_istore (L1 := [.ref 82, .int x1, .int x2, .int x3, .int x4, .int y0, .int x6, w7, w8]) (am_dg dkX12_played (i := 70) rfl) rfl ?_
  refine aq_iinc (v := (1 : Int32)) (L1 := [.ref 82, .int x1, .int x2, .int x3, .int x4, .int y0, .int (x6 + (1 : Int32)), w7, w8]) (am_dg dkX12_played (i := 71) rfl) rfl (by decide) rfl ?_
  refine aq_goto (t := 23) (am_dg dkX12_played (i := 72) rfl) rfl ?_
  exact hk23 _ _ _ _ _ _ _ _ _ _ h
set_option maxRecDepth 20000 in
theorem T_X12_played_82_b119 {sc : Option (Nat × (Nat → Int32))} {RF : Nat → Nat → Option Nat} {d : Nat} (hR : am_RFok RF) (hd : 7 ≤ d) {rc : Int32 → Int32 → Int32 → am_S → Option (Int32 × am_S)} {dr : Nat} (hdr : dr + 1 ≤ d) (hrc : ∀ (c0 : Int32) (c1 : Int32) (c2 : Int32) (s2 : am_S) (r2 : Int32 × am_S), rc c0 c1 c2 s2 = some r2 → am_Q sc dr mX12_played (0, am_L0 mX12_played [.ref 82, .int c0, .int c1, .int c2], [], am_hp RF s2) (.int r2.1, am_hp RF r2.2)) {k23 : Int32 → Int32 → Int32 → Int32 → Int32 → Int32 → am_S → Option (Int32 × am_S)} (hk23 : ∀ (x1 : Int32) (x2 : Int32) (x3 : Int32) (x4 : Int32) (x5 : Int32) (x6 : Int32) (w7 : Value) (w8 : Value) (s2 : am_S) (r2 : Int32 × am_S), k23 x1 x2 x3 x4 x5 x6 s2 = some r2 → am_Q sc d mX12_played (23, [.ref 82, .int x1, .int x2, .int x3, .int x4, .int x5, .int x6, w7, w8], [], am_hp RF s2) (.int r2.1, am_hp RF r2.2)) : ∀ (x1 : Int32) (x2 : Int32) (x3 : Int32) (x5 : Int32) (x6 : Int32) (x8 : Int32) (y0 : Int32) (w4 : Value) (w7 : Value) (s : am_S) (r : Int32 × am_S), F_X12_played_82_b119 rc k23 x1 x2 x3 x5 x6 x8 y0 s = some r → am_Q sc d mX12_played (119, [.ref 82, .int x1, .int x2, .int x3, w4, .int x5, .int x6, w7, .int x8], [.int y0], am_hp RF s) (.int r.1, am_hp RF r.2) := by
  obtain ⟨e, rfl⟩ : ∃ e, d = e + 1 := ⟨d - 1, by omega⟩
  intro x1 x2 x3 x5 x6 x8 y0 w4 w7 s r h
  unfold F_X12_played_82_b119 at h
  refine aq_istore (L1 := [.ref 82, .int x1, .int x2, .int x3, .int y0, .int x5, .int x6, w7, .int x8]) (am_dg dkX12_played (i := 64) rfl) rfl ?_
  refine aq_iload (am_dg dkX12_played (i := 65) rfl) rfl ?_
  by_cases hc1 : x8 = (0 : Int32)
  · rw [if_pos hc1] at h
    refine aq_ifT (t := 131) (am_dg dkX12_played (i := 66) rfl) rfl (decide_eq_true hc1) ?_
    refine aq_iload (am_dg dkX12_played (i := 69) rfl) rfl ?_
    exact T_X12_played_82_b133 hR (by omega) (by omega) hrc hk23 _ _ _ _ _ _ _ _ _ _ _ h
  · rw [if_neg hc1] at h
    refine aq_ifF (t := 131) (am_dg dkX12_played (i := 66) rfl) rfl (decide_eq_false hc1) ?_
    refine aq_iload (am_dg dkX12_played (i := 67) rfl) rfl ?_
    refine aq_goto (t := 133) (am_dg dkX12_played (i := 68) rfl) rfl ?_
    exact T_X12_played_82_b133 hR (by omega) (by omega) hrc hk23 _ _ _ _ _ _ _ _ _ _ _ h
set_option maxRecDepth 20000 in
theorem T_X12_played_82_b105 {sc : Option (Nat × (Nat → Int32))} {RF : Nat → Nat → Option Nat} {d : Nat} (hR : am_RFok RF) (hd : 7 ≤ d) {rc : Int32 → Int32 → Int32 → am_S → Option (Int32 × am_S)} {dr : Nat} (hdr : dr + 1 ≤ d) (hrc : ∀ (c0 : Int32) (c1 : Int32) (c2 : Int32) (s2 : am_S) (r2 : Int32 × am_S), rc c0 c1 c2 s2 = some r2 → am_Q sc dr mX12_played (0, am_L0 mX12_played [.ref 82, .int c0, .int c1, .int c2], [], am_hp RF s2) (.int r2.1, am_hp RF r2.2)) {k23 : Int32 → Int32 → Int32 → Int32 → Int32 → Int32 → am_S → Option (Int32 × am_S)} (hk23 : ∀ (x1 : Int32) (x2 : Int32) (x3 : Int32) (x4 : Int32) (x5 : Int32) (x6 : Int32) (w7 : Value) (w8 : Value) (s2 : am_S) (r2 : Int32 × am_S), k23 x1 x2 x3 x4 x5 x6 s2 = some r2 → am_Q sc d mX12_played (23, [.ref 82, .int x1, .int x2, .int x3, .int x4, .int x5, .int x6, w7, w8], [], am_hp RF s2) (.int r2.1, am_hp RF r2.2)) : ∀ (x1 : Int32) (x2 : Int32) (x3 : Int32) (x4 : Int32) (x5 : Int32) (x6 : Int32) (x7 : Int32) (y0 : Int32) (w8 : Value) (s : am_S) (r : Int32 × am_S), F_X12_played_82_b105 rc k23 x1 x2 x3 x4 x5 x6 x7 y0 s = some r → am_Q sc d mX12_played (105, [.ref 82, .int x1, .int x2, .int x3, .int x4, .int x5, .int x6, .int x7, w8], [.int y0], am_hp RF s) (.int r.1, am_hp RF r.2) := by
  obtain ⟨e, rfl⟩ : ∃ e, d = e + 1 := ⟨d - 1, by omega⟩
  intro x1 x2 x3 x4 x5 x6 x7 y0 w8 s r h
  unfold F_X12_played_82_b105 at h
  refine aq_istore (L1 := [.ref 82, .int x1, .int x2, .int x3, .int x4, .int x5, .int x6, .int x7, .int y0]) (am_dg dkX12_played (i := 58) rfl) rfl ?_
  refine aq_iload (am_dg dkX12_played (i := 59) rfl) rfl ?_
  by_cases hc1 : y0 = (0 : Int32)
  · rw [if_pos hc1] at h
    refine aq_ifT (t := 117) (am_dg dkX12_played (i := 60) rfl) rfl (decide_eq_true hc1) ?_
    refine aq_iload (am_dg dkX12_played (i := 63) rfl) rfl ?_
    exact T_X12_played_82_b119 hR (by omega) (by omega) hrc hk23 _ _ _ _ _ _ _ _ _ _ _ h
  · rw [if_neg hc1] at h
    refine aq_ifF (t := 117) (am_dg dkX12_played (i := 60) rfl) rfl (decide_eq_false hc1) ?_
    refine aq_iload (am_dg dkX12_played (i := 61) rfl) rfl ?_
    refine aq_goto (t := 119) (am_dg dkX12_played (i := 62) rfl) rfl ?_
    exact T_X12_played_82_b119 hR (by omega) (by omega) hrc hk23 _ _ _ _ _ _ _ _ _ _ _ h
set_option maxRecDepth 20000 in
theorem T_X12_played_82_b100 {sc : Option (Nat × (Nat → Int32))} {RF : Nat → Nat → Option Nat} {d : Nat} (hR : am_RFok RF) (hd : 7 ≤ d) {rc : Int32 → Int32 → Int32 → am_S → Option (Int32 × am_S)} {dr : Nat} (hdr : dr + 1 ≤ d) (hrc : ∀ (c0 : Int32) (c1 : Int32) (c2 : Int32) (s2 : am_S) (r2 : Int32 × am_S), rc c0 c1 c2 s2 = some r2 → am_Q sc dr mX12_played (0, am_L0 mX12_played [.ref 82, .int c0, .int c1, .int c2], [], am_hp RF s2) (.int r2.1, am_hp RF r2.2)) {k23 : Int32 → Int32 → Int32 → Int32 → Int32 → Int32 → am_S → Option (Int32 × am_S)} (hk23 : ∀ (x1 : Int32) (x2 : Int32) (x3 : Int32) (x4 : Int32) (x5 : Int32) (x6 : Int32) (w7 : Value) (w8 : Value) (s2 : am_S) (r2 : Int32 × am_S), k23 x1 x2 x3 x4 x5 x6 s2 = some r2 → am_Q sc d mX12_played (23, [.ref 82, .int x1, .int x2, .int x3, .int x4, .int x5, .int x6, w7, w8], [], am_hp RF s2) (.int r2.1, am_hp RF r2.2)) : ∀ (x1 : Int32) (x2 : Int32) (x3 : Int32) (x4 : Int32) (x5 : Int32) (x6 : Int32) (x7 : Int32) (w8 : Value) (s : am_S) (r : Int32 × am_S), F_X12_played_82_b100 rc k23 x1 x2 x3 x4 x5 x6 x7 s = some r → am_Q sc d mX12_played (100, [.ref 82, .int x1, .int x2, .int x3, .int x4, .int x5, .int x6, .int x7, w8], [], am_hp RF s) (.int r.1, am_hp RF r.2) := by
  obtain ⟨e, rfl⟩ : ∃ e, d = e + 1 := ⟨d - 1, by omega⟩
  intro x1 x2 x3 x4 x5 x6 x7 w8 s r h
  unfold F_X12_played_82_b100 at h
  refine aq_iconst (v := (1 : Int32)) (am_dg dkX12_played (i := 55) rfl) (by decide) ?_
  refine aq_goto (t := 105) (am_dg dkX12_played (i := 56) rfl) rfl ?_
  exact T_X12_played_82_b105 hR (by omega) (by omega) hrc hk23 _ _ _ _ _ _ _ _ _ _ _ h
set_option maxRecDepth 20000 in
theorem T_X12_played_82_b104 {sc : Option (Nat × (Nat → Int32))} {RF : Nat → Nat → Option Nat} {d : Nat} (hR : am_RFok RF) (hd : 7 ≤ d) {rc : Int32 → Int32 → Int32 → am_S → Option (Int32 × am_S)} {dr : Nat} (hdr : dr + 1 ≤ d) (hrc : ∀ (c0 : Int32) (c1 : Int32) (c2 : Int32) (s2 : am_S) (r2 : Int32 × am_S), rc c0 c1 c2 s2 = some r2 → am_Q sc dr mX12_played (0, am_L0 mX12_played [.ref 82, .int c0, .int c1, .int c2], [], am_hp RF s2) (.int r2.1, am_hp RF r2.2)) {k23 : Int32 → Int32 → Int32 → Int32 → Int32 → Int32 → am_S → Option (Int32 × am_S)} (hk23 : ∀ (x1 : Int32) (x2 : Int32) (x3 : Int32) (x4 : Int32) (x5 : Int32) (x6 : Int32) (w7 : Value) (w8 : Value) (s2 : am_S) (r2 : Int32 × am_S), k23 x1 x2 x3 x4 x5 x6 s2 = some r2 → am_Q sc d mX12_played (23, [.ref 82, .int x1, .int x2, .int x3, .int x4, .int x5, .int x6, w7, w8], [], am_hp RF s2) (.int r2.1, am_hp RF r2.2)) : ∀ (x1 : Int32) (x2 : Int32) (x3 : Int32) (x4 : Int32) (x5 : Int32) (x6 : Int32) (x7 : Int32) (w8 : Value) (s : am_S) (r : Int32 × am_S), F_X12_played_82_b104 rc k23 x1 x2 x3 x4 x5 x6 x7 s = some r → am_Q sc d mX12_played (104, [.ref 82, .int x1, .int x2, .int x3, .int x4, .int x5, .int x6, .int x7, w8], [], am_hp RF s) (.int r.1, am_hp RF r.2) := by
  obtain ⟨e, rfl⟩ : ∃ e, d = e + 1 := ⟨d - 1, by omega⟩
  intro x1 x2 x3 x4 x5 x6 x7 w8 s r h
  unfold F_X12_played_82_b104 at h
  refine aq_iconst (v := (0 : Int32)) (am_dg dkX12_played (i := 57) rfl) (by decide) ?_
  exact T_X12_played_82_b105 hR (by omega) (by omega) hrc hk23 _ _ _ _ _ _ _ _ _ _ _ h
set_option maxRecDepth 20000 in
theorem T_X12_played_82_b63 {sc : Option (Nat × (Nat → Int32))} {RF : Nat → Nat → Option Nat} {d : Nat} (hR : am_RFok RF) (hd : 7 ≤ d) {rc : Int32 → Int32 → Int32 → am_S → Option (Int32 × am_S)} {dr : Nat} (hdr : dr + 1 ≤ d) (hrc : ∀ (c0 : Int32) (c1 : Int32) (c2 : Int32) (s2 : am_S) (r2 : Int32 × am_S), rc c0 c1 c2 s2 = some r2 → am_Q sc dr mX12_played (0, am_L0 mX12_played [.ref 82, .int c0, .int c1, .int c2], [], am_hp RF s2) (.int r2.1, am_hp RF r2.2)) {k23 : Int32 → Int32 → Int32 → Int32 → Int32 → Int32 → am_S → Option (Int32 × am_S)} (hk23 : ∀ (x1 : Int32) (x2 : Int32) (x3 : Int32) (x4 : Int32) (x5 : Int32) (x6 : Int32) (w7 : Value) (w8 : Value) (s2 : am_S) (r2 : Int32 × am_S), k23 x1 x2 x3 x4 x5 x6 s2 = some r2 → am_Q sc d mX12_played (23, [.ref 82, .int x1, .int x2, .int x3, .int x4, .int x5, .int x6, w7, w8], [], am_hp RF s2) (.int r2.1, am_hp RF r2.2)) : ∀ (x1 : Int32) (x2 : Int32) (x3 : Int32) (x4 : Int32) (x5 : Int32) (x6 : Int32) (y0 : Int32) (y1 : Int32) (y2 : Int32) (y4 : Int32) (w7 : Value) (w8 : Value) (s : am_S) (r : Int32 × am_S), F_X12_played_82_b63 rc k23 x1 x2 x3 x4 x5 x6 y0 y1 y2 y4 s = some r → am_Q sc d mX12_played (63, [.ref 82, .int x1, .int x2, .int x3, .int x4, .int x5, .int x6, w7, w8], [.int y0, .int y1, .int y2, .ref 82, .int y4], am_hp RF s) (.int r.1, am_hp RF r.2) := by
  obtain ⟨e, rfl⟩ : ∃ e, d = e + 1 := ⟨d - 1, by omega⟩
  intro x1 x2 x3 x4 x5 x6 y0 y1 y2 y4 w7 w8 s r h
  unfold F_X12_played_82_b63 at h
  obtain ⟨q1, hq2, h⟩ := am_bnd h
  refine aq_virt (a := [.ref 82, .int y2, .int y1, .int y0]) (S1 := [.int y4]) (v1 := .int q1.1) (S2 := [.int q1.1, .int y4]) (am_dg dkX12_played (i := 38) rfl) cv_12_239_12 (am_cls_c sh_82 (by decide)) rfl rfl rfl (Nat.le_of_ble_eq_true rfl) (Nat.le_of_ble_eq_true rfl) (am_Q_le (hrc _ _ _ _ _ hq2) (by omega)) rfl ?_
  refine aq_iadd (am_dg dkX12_played (i := 39) rfl) ?_
  refine aq_istore (L1 := [.ref 82, .int x1, .int x2, .int x3, .int x4, .int x5, .int x6, .int (y4 + q1.1), w8]) (am_dg dkX12_played (i := 40) rfl) rfl ?_
  refine aq_aload_n (am_dg dkX12_played (i := 41) rfl) rfl ?_
  refine aq_iload_n (am_dg dkX12_played (i := 42) rfl) rfl ?_
  obtain ⟨q3, hq4, h⟩ := am_bnd h
  refine aq_virt (a := [.ref 82, .int x1]) (S1 := []) (v1 := .null) (S2 := []) (am_dg dkX12_played (i := 43) rfl) cv_12_223_12 (am_cls_c sh_82 (by decide)) rfl rfl rfl (Nat.le_of_ble_eq_true rfl) (Nat.le_of_ble_eq_true rfl) (T_X12_takesBack_82 hR (by omega) hq4) rfl ?_
  refine aq_iload (am_dg dkX12_played (i := 44) rfl) rfl ?_
  by_cases hc5 : x5 < (0 : Int32)
  · rw [if_pos hc5] at h
    refine aq_ifT (t := 100) (am_dg dkX12_played (i := 45) rfl) rfl (decide_eq_true hc5) ?_
    exact T_X12_played_82_b100 hR (by omega) (by omega) hrc hk23 _ _ _ _ _ _ _ _ _ _ h
  · rw [if_neg hc5] at h
    refine aq_ifF (t := 100) (am_dg dkX12_played (i := 45) rfl) rfl (decide_eq_false hc5) ?_
    refine aq_iload_n (am_dg dkX12_played (i := 46) rfl) rfl ?_
    by_cases hc6 : x3 = (0 : Int32)
    · rw [if_pos hc6] at h
      refine aq_ifT (t := 93) (am_dg dkX12_played (i := 47) rfl) rfl (decide_eq_true hc6) ?_
      refine aq_iload (am_dg dkX12_played (i := 52) rfl) rfl ?_
      refine aq_iload (am_dg dkX12_played (i := 53) rfl) rfl ?_
      by_cases hc7 : x4 ≤ (y4 + q1.1)
      · rw [if_pos hc7] at h
        refine aq_icT (t := 104) (am_dg dkX12_played (i := 54) rfl) rfl (decide_eq_true hc7) ?_
        exact T_X12_played_82_b104 hR (by omega) (by omega) hrc hk23 _ _ _ _ _ _ _ _ _ _ h
      · rw [if_neg hc7] at h
        refine aq_icF (t := 104) (am_dg dkX12_played (i := 54) rfl) rfl (decide_eq_false hc7) ?_
        exact T_X12_played_82_b100 hR (by omega) (by omega) hrc hk23 _ _ _ _ _ _ _ _ _ _ h
    · rw [if_neg hc6] at h
      refine aq_ifF (t := 93) (am_dg dkX12_played (i := 47) rfl) rfl (decide_eq_false hc6) ?_
      refine aq_iload (am_dg dkX12_played (i := 48) rfl) rfl ?_
      refine aq_iload (am_dg dkX12_played (i := 49) rfl) rfl ?_
      by_cases hc8 : (y4 + q1.1) ≤ x4
      · rw [if_pos hc8] at h
        refine aq_icT (t := 104) (am_dg dkX12_played (i := 50) rfl) rfl (decide_eq_true hc8) ?_
        exact T_X12_played_82_b104 hR (by omega) (by omega) hrc hk23 _ _ _ _ _ _ _ _ _ _ h
      · rw [if_neg hc8] at h
        refine aq_icF (t := 104) (am_dg dkX12_played (i := 50) rfl) rfl (decide_eq_false hc8) ?_
        refine aq_goto (t := 100) (am_dg dkX12_played (i := 51) rfl) rfl ?_
        exact T_X12_played_82_b100 hR (by omega) (by omega) hrc hk23 _ _ _ _ _ _ _ _ _ _ h
set_option maxRecDepth 20000 in
theorem T_X12_played_82_b23 {sc : Option (Nat × (Nat → Int32))} {RF : Nat → Nat → Option Nat} {d : Nat} (hR : am_RFok RF) (hd : 7 ≤ d) {rc : Int32 → Int32 → Int32 → am_S → Option (Int32 × am_S)} {dr : Nat} (hdr : dr + 1 ≤ d) (hrc : ∀ (c0 : Int32) (c1 : Int32) (c2 : Int32) (s2 : am_S) (r2 : Int32 × am_S), rc c0 c1 c2 s2 = some r2 → am_Q sc dr mX12_played (0, am_L0 mX12_played [.ref 82, .int c0, .int c1, .int c2], [], am_hp RF s2) (.int r2.1, am_hp RF r2.2)) : ∀ (n : Nat) (x1 : Int32) (x2 : Int32) (x3 : Int32) (x4 : Int32) (x5 : Int32) (x6 : Int32) (w7 : Value) (w8 : Value) (s : am_S) (r : Int32 × am_S), F_X12_played_82_b23 rc n x1 x2 x3 x4 x5 x6 s = some r → am_Q sc d mX12_played (23, [.ref 82, .int x1, .int x2, .int x3, .int x4, .int x5, .int x6, w7, w8], [], am_hp RF s) (.int r.1, am_hp RF r.2) := by
  obtain ⟨e, rfl⟩ : ∃ e, d = e + 1 := ⟨d - 1, by omega⟩
  intro n
  induction n with
  | zero => intro x1 x2 x3 x4 x5 x6 w7 w8 s r h; rw [F_X12_played_82_b23] at h; cases h
  | succ n ih =>
  intro x1 x2 x3 x4 x5 x6 w7 w8 s r h
  rw [F_X12_played_82_b23] at h
  refine aq_iload (am_dg dkX12_played (i := 14) rfl) rfl ?_
  refine aq_aload_n (am_dg dkX12_played (i := 15) rfl) rfl ?_
  refine aq_getR (am_dg dkX12_played (i := 16) rfl) gk_12_7_82 (rf_82_0 hR) ?_
  refine aq_iconst (v := (0 : Int32)) (am_dg dkX12_played (i := 17) rfl) (by decide) ?_
  obtain ⟨hg1, h⟩ := am_guard h
  refine aq_iald (am_dg dkX12_played (i := 18) rfl) sh_83 hg1 ?_
  by_cases hc2 : (s.1 83 (0 : Int32).toNatClampNeg) < x6
  · rw [if_pos hc2] at h
    refine aq_icT (t := 141) (am_dg dkX12_played (i := 19) rfl) rfl (decide_eq_true hc2) ?_
    refine aq_aload_n (am_dg dkX12_played (i := 73) rfl) rfl ?_
    refine aq_iload (am_dg dkX12_played (i := 74) rfl) rfl ?_
    refine aq_putI (am_dg dkX12_played (i := 75) rfl) gk_12_243_82 ?_
    obtain ⟨s3, hs4, h⟩ := am_bnd h
    rw [Option.some.inj hs4]
    refine aq_iload (am_dg dkX12_played (i := 76) rfl) rfl ?_
    obtain rfl := Option.some.inj h
    exact aq_ireturn (am_dg dkX12_played (i := 77) rfl) rfl (Or.inl rfl) rfl
  · rw [if_neg hc2] at h
    refine aq_icF (t := 141) (am_dg dkX12_played (i := 19) rfl) rfl (decide_eq_false hc2) ?_
    refine aq_aload_n (am_dg dkX12_played (i := 20) rfl) rfl ?_
    refine aq_iload_n (am_dg dkX12_played (i := 21) rfl) rfl ?_
    obtain ⟨q5, hq6, h⟩ := am_bnd h
    refine aq_virt (a := [.ref 82, .int x1]) (S1 := []) (v1 := .null) (S2 := []) (am_dg dkX12_played (i := 22) rfl) cv_12_215_12 (am_cls_c sh_82 (by decide)) rfl rfl rfl (Nat.le_of_ble_eq_true rfl) (Nat.le_of_ble_eq_true rfl) (T_X12_saves_82 hR (by omega) hq6) rfl ?_
    refine aq_aload_n (am_dg dkX12_played (i := 23) rfl) rfl ?_
    refine aq_iload (am_dg dkX12_played (i := 24) rfl) rfl ?_
    obtain ⟨q7, hq8, h⟩ := am_bnd h
    refine aq_virt (a := [.ref 82, .int x6]) (S1 := []) (v1 := .int q7.1) (S2 := [.int q7.1]) (am_dg dkX12_played (i := 25) rfl) cv_12_159_12 (am_cls_c sh_82 (by decide)) rfl rfl rfl (Nat.le_of_ble_eq_true rfl) (Nat.le_of_ble_eq_true rfl) (T_X12_goes_82 hR (by omega) hq8) rfl ?_
    refine aq_istore (L1 := [.ref 82, .int x1, .int x2, .int x3, .int x4, .int x5, .int x6, .int q7.1, w8]) (am_dg dkX12_played (i := 26) rfl) rfl ?_
    refine aq_iload (am_dg dkX12_played (i := 27) rfl) rfl ?_
    refine aq_aload_n (am_dg dkX12_played (i := 28) rfl) rfl ?_
    refine aq_iload_n (am_dg dkX12_played (i := 29) rfl) rfl ?_
    refine aq_iconst (v := (1 : Int32)) (am_dg dkX12_played (i := 30) rfl) (by decide) ?_
    refine aq_iadd (am_dg dkX12_played (i := 31) rfl) ?_
    refine aq_iload_n (am_dg dkX12_played (i := 32) rfl) rfl ?_
    refine aq_iload_n (am_dg dkX12_played (i := 33) rfl) rfl ?_
    by_cases hc9 : x3 = (0 : Int32)
    · rw [if_pos hc9] at h
      refine aq_ifF (t := 62) (am_dg dkX12_played (i := 34) rfl) rfl (decide_eq_false (not_not_intro hc9)) ?_
      refine aq_iconst (v := (1 : Int32)) (am_dg dkX12_played (i := 35) rfl) (by decide) ?_
      refine aq_goto (t := 63) (am_dg dkX12_played (i := 36) rfl) rfl ?_
      exact T_X12_played_82_b63 hR (by omega) (by omega) hrc ih _ _ _ _ _ _ _ _ _ _ _ _ _ _ h
    · rw [if_neg hc9] at h
      refine aq_ifT (t := 62) (am_dg dkX12_played (i := 34) rfl) rfl (decide_eq_true hc9) ?_
      refine aq_iconst (v := (0 : Int32)) (am_dg dkX12_played (i := 37) rfl) (by decide) ?_
      exact T_X12_played_82_b63 hR (by omega) (by omega) hrc ih _ _ _ _ _ _ _ _ _ _ _ _ _ _ h
set_option maxRecDepth 20000 in
theorem T_X12_played_82_o {sc : Option (Nat × (Nat → Int32))} {RF : Nat → Nat → Option Nat} {d : Nat} (hR : am_RFok RF) (hd : 7 ≤ d) {rc : Int32 → Int32 → Int32 → am_S → Option (Int32 × am_S)} {dr : Nat} (hdr : dr + 1 ≤ d) (hrc : ∀ (c0 : Int32) (c1 : Int32) (c2 : Int32) (s2 : am_S) (r2 : Int32 × am_S), rc c0 c1 c2 s2 = some r2 → am_Q sc dr mX12_played (0, am_L0 mX12_played [.ref 82, .int c0, .int c1, .int c2], [], am_hp RF s2) (.int r2.1, am_hp RF r2.2)) {a1 : Int32} {a2 : Int32} {a3 : Int32} {s : am_S} {r : Int32 × am_S} (h : F_X12_played_82_o rc a1 a2 a3 s = some r) : am_Q sc d mX12_played (0, am_L0 mX12_played [.ref 82, .int a1, .int a2, .int a3], [], am_hp RF s) (.int r.1, am_hp RF r.2) := by
  obtain ⟨e, rfl⟩ : ∃ e, d = e + 1 := ⟨d - 1, by omega⟩
  unfold F_X12_played_82_o at h
  show am_Q _ _ _ (0, [.ref 82, .int a1, .int a2, .int a3, .null, .null, .null, .null, .null], [], _) _
  refine aq_iload_n (am_dg dkX12_played (i := 0) rfl) rfl ?_
  refine aq_iload_n (am_dg dkX12_played (i := 1) rfl) rfl ?_
  by_cases hc1 : a1 = a2
  · rw [if_pos hc1] at h
    refine aq_icT (t := 12) (am_dg dkX12_played (i := 2) rfl) rfl (decide_eq_true hc1) ?_
    refine aq_iconst (v := (0 : Int32)) (am_dg dkX12_played (i := 6) rfl) (by decide) ?_
    obtain rfl := Option.some.inj h
    exact aq_ireturn (am_dg dkX12_played (i := 7) rfl) rfl (Or.inl rfl) rfl
  · rw [if_neg hc1] at h
    refine aq_icF (t := 12) (am_dg dkX12_played (i := 2) rfl) rfl (decide_eq_false hc1) ?_
    refine aq_aload_n (am_dg dkX12_played (i := 3) rfl) rfl ?_
    obtain ⟨q2, hq3, h⟩ := am_bnd h
    refine aq_virt (a := [.ref 82]) (S1 := []) (v1 := .int q2.1) (S2 := [.int q2.1]) (am_dg dkX12_played (i := 4) rfl) cv_12_118_12 (am_cls_c sh_82 (by decide)) rfl rfl rfl (Nat.le_of_ble_eq_true rfl) (Nat.le_of_ble_eq_true rfl) (T_X12_isOver_82 hR (by omega) hq3) rfl ?_
    by_cases hc4 : q2.1 = (0 : Int32)
    · rw [if_pos hc4] at h
      refine aq_ifT (t := 14) (am_dg dkX12_played (i := 5) rfl) rfl (decide_eq_true hc4) ?_
      refine aq_iconst (v := (0 : Int32)) (am_dg dkX12_played (i := 8) rfl) (by decide) ?_
      refine aq_istore (L1 := [.ref 82, .int a1, .int a2, .int a3, .int (0 : Int32), .null, .null, .null, .null]) (am_dg dkX12_played (i := 9) rfl) rfl ?_
      refine aq_iconst (v := (-1 : Int32)) (am_dg dkX12_played (i := 10) rfl) (by decide) ?_
      refine aq_istore (L1 := [.ref 82, .int a1, .int a2, .int a3, .int (0 : Int32), .int (-1 : Int32), .null, .null, .null]) (am_dg dkX12_played (i := 11) rfl) rfl ?_
      refine aq_iconst (v := (0 : Int32)) (am_dg dkX12_played (i := 12) rfl) (by decide) ?_
      refine aq_istore (L1 := [.ref 82, .int a1, .int a2, .int a3, .int (0 : Int32), .int (-1 : Int32), .int (0 : Int32), .null, .null]) (am_dg dkX12_played (i := 13) rfl) rfl ?_
      exact T_X12_played_82_b23 hR (by omega) (by omega) hrc _ _ _ _ _ _ _ _ _ _ _ h
    · rw [if_neg hc4] at h
      refine aq_ifF (t := 14) (am_dg dkX12_played (i := 5) rfl) rfl (decide_eq_false hc4) ?_
      refine aq_iconst (v := (0 : Int32)) (am_dg dkX12_played (i := 6) rfl) (by decide) ?_
      obtain rfl := Option.some.inj h
      exact aq_ireturn (am_dg dkX12_played (i := 7) rfl) rfl (Or.inl rfl) rfl
set_option maxRecDepth 20000 in
theorem T_X12_played_82_n {sc : Option (Nat × (Nat → Int32))} {RF : Nat → Nat → Option Nat} (hR : am_RFok RF) : ∀ (n d : Nat) (hd : 1 * n + 7 ≤ d) (a1 : Int32) (a2 : Int32) (a3 : Int32) (s : am_S) (r : Int32 × am_S), F_X12_played_82 n a1 a2 a3 s = some r → am_Q sc d mX12_played (0, am_L0 mX12_played [.ref 82, .int a1, .int a2, .int a3], [], am_hp RF s) (.int r.1, am_hp RF r.2) := by
  intro n
  induction n with
  | zero => intro d hd a1 a2 a3 s r h; cases h
  | succ n ih =>
    intro d hd a1 a2 a3 s r h
    exact T_X12_played_82_o hR (by omega) (rc := F_X12_played_82 n) (dr := d - 1) (by omega) (fun c0 c1 c2 s2 r2 h2 => ih (d - 1) (by omega) c0 c1 c2 s2 r2 h2) h
set_option maxRecDepth 20000 in
theorem T_X12_played_82 {sc : Option (Nat × (Nat → Int32))} {RF : Nat → Nat → Option Nat} {d : Nat} (hR : am_RFok RF) (hd : 18 ≤ d) {a1 : Int32} {a2 : Int32} {a3 : Int32} {s : am_S} {r : Int32 × am_S} (h : F_X12_played_82 10 a1 a2 a3 s = some r) : am_Q sc d mX12_played (0, am_L0 mX12_played [.ref 82, .int a1, .int a2, .int a3], [], am_hp RF s) (.int r.1, am_hp RF r.2) := T_X12_played_82_n hR 10 d (by omega) _ _ _ _ _ h
set_option maxRecDepth 20000 in
theorem T_X12_game_82 {sc : Option (Nat × (Nat → Int32))} {RF : Nat → Nat → Option Nat} {d : Nat} (hR : am_RFok RF) (hd : 19 ≤ d) {a1 : Int32} {s : am_S} {r : Int32 × am_S} (h : F_X12_game_82 a1 s = some r) : am_Q sc d mX12_game (0, am_L0 mX12_game [.ref 82, .int a1], [], am_hp RF s) (.int r.1, am_hp RF r.2) := by
  obtain ⟨e, rfl⟩ : ∃ e, d = e + 1 := ⟨d - 1, by omega⟩
  unfold F_X12_game_82 at h
  show am_Q _ _ _ (0, [.ref 82, .int a1], [], _) _
  refine aq_iload_n (am_dg dkX12_game (i := 0) rfl) rfl ?_
  refine aq_i2l (am_dg dkX12_game (i := 1) rfl) ?_
  refine aq_lconst (v := (1 : Int64)) (am_dg dkX12_game (i := 2) rfl) (by decide) ?_
  refine aq_ldc2 (am_dg dkX12_game (i := 3) rfl) cl_12_226 ?_
  obtain ⟨q1, hq2, h⟩ := am_bnd h
  refine aq_static (a := [.long a1.toInt64, .long (1 : Int64), .long (4 : Int64)]) (S1 := []) (v1 := .int q1.1) (S2 := [.int q1.1]) (am_dg dkX12_game (i := 4) rfl) ct_12_61 rfl rfl rfl (Nat.le_of_ble_eq_true rfl) (Nat.le_of_ble_eq_true rfl) (T_X12_in hR (by omega) hq2) rfl ?_
  by_cases hc3 : q1.1 = (0 : Int32)
  · rw [if_pos hc3] at h
    refine aq_ifT (t := 22) (am_dg dkX12_game (i := 5) rfl) rfl (decide_eq_true hc3) ?_
    refine aq_iconst (v := (-1 : Int32)) (am_dg dkX12_game (i := 12) rfl) (by decide) ?_
    obtain rfl := Option.some.inj h
    exact aq_ireturn (am_dg dkX12_game (i := 13) rfl) rfl (Or.inl rfl) rfl
  · rw [if_neg hc3] at h
    refine aq_ifF (t := 22) (am_dg dkX12_game (i := 5) rfl) rfl (decide_eq_false hc3) ?_
    refine aq_aload_n (am_dg dkX12_game (i := 6) rfl) rfl ?_
    refine aq_iconst (v := (0 : Int32)) (am_dg dkX12_game (i := 7) rfl) (by decide) ?_
    refine aq_iload_n (am_dg dkX12_game (i := 8) rfl) rfl ?_
    refine aq_iconst (v := (1 : Int32)) (am_dg dkX12_game (i := 9) rfl) (by decide) ?_
    obtain ⟨q4, hq5, h⟩ := am_bnd h
    refine aq_virt (a := [.ref 82, .int (0 : Int32), .int a1, .int (1 : Int32)]) (S1 := []) (v1 := .int q4.1) (S2 := [.int q4.1]) (am_dg dkX12_game (i := 10) rfl) cv_12_239_12 (am_cls_c sh_82 (by decide)) rfl rfl rfl (Nat.le_of_ble_eq_true rfl) (Nat.le_of_ble_eq_true rfl) (T_X12_played_82 hR (by omega) hq5) rfl ?_
    refine aq_goto (t := 23) (am_dg dkX12_game (i := 11) rfl) rfl ?_
    obtain rfl := Option.some.inj h
    exact aq_ireturn (am_dg dkX12_game (i := 13) rfl) rfl (Or.inl rfl) rfl
set_option maxRecDepth 20000 in
theorem T_X11_play_0 {sc : Option (Nat × (Nat → Int32))} {RF : Nat → Nat → Option Nat} {d : Nat} (hR : am_RFok RF) (hd : 17 ≤ d) {a1 : Int32} {s : am_S} {r : Int32 × am_S} (h : F_X11_play_0 a1 s = some r) : am_Q sc d mX11_play (0, am_L0 mX11_play [.ref 0, .int a1], [], am_hp RF s) (.int r.1, am_hp RF r.2) := by
  obtain ⟨e, rfl⟩ : ∃ e, d = e + 1 := ⟨d - 1, by omega⟩
  unfold F_X11_play_0 at h
  show am_Q _ _ _ (0, [.ref 0, .int a1], [], _) _
  refine aq_iload_n (am_dg dkX11_play (i := 0) rfl) rfl ?_
  obtain ⟨q1, hq2, h⟩ := am_bnd h
  refine aq_static (a := [.int a1]) (S1 := []) (v1 := .int q1.1) (S2 := [.int q1.1]) (am_dg dkX11_play (i := 1) rfl) ct_11_273 rfl rfl rfl (Nat.le_of_ble_eq_true rfl) (Nat.le_of_ble_eq_true rfl) (T_X11_isGame hR (by omega) hq2) rfl ?_
  by_cases hc3 : q1.1 = (0 : Int32)
  · rw [if_pos hc3] at h
    refine aq_ifF (t := 9) (am_dg dkX11_play (i := 2) rfl) rfl (decide_eq_false (not_not_intro hc3)) ?_
    refine aq_iconst (v := (-1 : Int32)) (am_dg dkX11_play (i := 3) rfl) (by decide) ?_
    obtain rfl := Option.some.inj h
    exact aq_ireturn (am_dg dkX11_play (i := 4) rfl) rfl (Or.inl rfl) rfl
  · rw [if_neg hc3] at h
    refine aq_ifT (t := 9) (am_dg dkX11_play (i := 2) rfl) rfl (decide_eq_true hc3) ?_
    refine aq_aload_n (am_dg dkX11_play (i := 5) rfl) rfl ?_
    refine aq_getR (am_dg dkX11_play (i := 6) rfl) gk_11_30_0 (rf_0_0 hR) ?_
    obtain ⟨q4, hq5, h⟩ := am_bnd h
    refine aq_virt (a := [.ref 8]) (S1 := []) (v1 := .int q4.1) (S2 := [.int q4.1]) (am_dg dkX11_play (i := 7) rfl) cv_11_189_8 (am_cls_c sh_8 (by decide)) rfl rfl rfl (Nat.le_of_ble_eq_true rfl) (Nat.le_of_ble_eq_true rfl) (T_X8_isOver_8 hR (by omega) hq5) rfl ?_
    by_cases hc6 : q4.1 = (0 : Int32)
    · rw [if_pos hc6] at h
      refine aq_ifT (t := 22) (am_dg dkX11_play (i := 8) rfl) rfl (decide_eq_true hc6) ?_
      refine aq_aload_n (am_dg dkX11_play (i := 11) rfl) rfl ?_
      refine aq_getR (am_dg dkX11_play (i := 12) rfl) gk_11_55_0 (rf_0_4 hR) ?_
      refine aq_iload_n (am_dg dkX11_play (i := 13) rfl) rfl ?_
      obtain ⟨q7, hq8, h⟩ := am_bnd h
      refine aq_virt (a := [.ref 50, .int a1]) (S1 := []) (v1 := .int q7.1) (S2 := [.int q7.1]) (am_dg dkX11_play (i := 14) rfl) cv_11_276_3 (am_cls_c sh_50 (by decide)) rfl rfl rfl (Nat.le_of_ble_eq_true rfl) (Nat.le_of_ble_eq_true rfl) (T_X3_valueOfGame_50 hR (by omega) hq8) rfl ?_
      refine aq_pop (am_dg dkX11_play (i := 15) rfl) rfl ?_
      refine aq_aload_n (am_dg dkX11_play (i := 16) rfl) rfl ?_
      refine aq_getR (am_dg dkX11_play (i := 17) rfl) gk_11_55_0 (rf_0_4 hR) ?_
      refine aq_getI (am_dg dkX11_play (i := 18) rfl) gk_11_279_50 (by decide) ?_
      obtain rfl := Option.some.inj h
      exact aq_ireturn (am_dg dkX11_play (i := 19) rfl) rfl (Or.inl rfl) rfl
    · rw [if_neg hc6] at h
      refine aq_ifF (t := 22) (am_dg dkX11_play (i := 8) rfl) rfl (decide_eq_false hc6) ?_
      refine aq_bipush (v := (-3 : Int32)) (am_dg dkX11_play (i := 9) rfl) (by decide) ?_
      obtain rfl := Option.some.inj h
      exact aq_ireturn (am_dg dkX11_play (i := 10) rfl) rfl (Or.inl rfl) rfl
set_option maxRecDepth 20000 in
theorem T_X12_play_82 {sc : Option (Nat × (Nat → Int32))} {RF : Nat → Nat → Option Nat} {d : Nat} (hR : am_RFok RF) (hd : 19 ≤ d) {a1 : Int32} {s : am_S} {r : Int32 × am_S} (h : F_X12_play_82 a1 s = some r) : am_Q sc d mX12_play (0, am_L0 mX12_play [.ref 82, .int a1], [], am_hp RF s) (.int r.1, am_hp RF r.2) := by
  obtain ⟨e, rfl⟩ : ∃ e, d = e + 1 := ⟨d - 1, by omega⟩
  unfold F_X12_play_82 at h
  show am_Q _ _ _ (0, [.ref 82, .int a1, .null], [], _) _
  refine aq_iload_n (am_dg dkX12_play (i := 0) rfl) rfl ?_
  refine aq_i2l (am_dg dkX12_play (i := 1) rfl) ?_
  refine aq_lconst (v := (1 : Int64)) (am_dg dkX12_play (i := 2) rfl) (by decide) ?_
  refine aq_ldc2 (am_dg dkX12_play (i := 3) rfl) cl_12_226 ?_
  obtain ⟨q1, hq2, h⟩ := am_bnd h
  refine aq_static (a := [.long a1.toInt64, .long (1 : Int64), .long (4 : Int64)]) (S1 := []) (v1 := .int q1.1) (S2 := [.int q1.1]) (am_dg dkX12_play (i := 4) rfl) ct_12_61 rfl rfl rfl (Nat.le_of_ble_eq_true rfl) (Nat.le_of_ble_eq_true rfl) (T_X12_in hR (by omega) hq2) rfl ?_
  by_cases hc3 : q1.1 = (0 : Int32)
  · rw [if_pos hc3] at h
    refine aq_ifF (t := 14) (am_dg dkX12_play (i := 5) rfl) rfl (decide_eq_false (not_not_intro hc3)) ?_
    refine aq_iconst (v := (-1 : Int32)) (am_dg dkX12_play (i := 6) rfl) (by decide) ?_
    obtain rfl := Option.some.inj h
    exact aq_ireturn (am_dg dkX12_play (i := 7) rfl) rfl (Or.inl rfl) rfl
  · rw [if_neg hc3] at h
    refine aq_ifT (t := 14) (am_dg dkX12_play (i := 5) rfl) rfl (decide_eq_true hc3) ?_
    refine aq_aload_n (am_dg dkX12_play (i := 8) rfl) rfl ?_
    obtain ⟨q4, hq5, h⟩ := am_bnd h
    refine aq_virt (a := [.ref 82]) (S1 := []) (v1 := .int q4.1) (S2 := [.int q4.1]) (am_dg dkX12_play (i := 9) rfl) cv_12_118_12 (am_cls_c sh_82 (by decide)) rfl rfl rfl (Nat.le_of_ble_eq_true rfl) (Nat.le_of_ble_eq_true rfl) (T_X12_isOver_82 hR (by omega) hq5) rfl ?_
    by_cases hc6 : q4.1 = (0 : Int32)
    · rw [if_pos hc6] at h
      refine aq_ifT (t := 24) (am_dg dkX12_play (i := 10) rfl) rfl (decide_eq_true hc6) ?_
      refine aq_aload_n (am_dg dkX12_play (i := 13) rfl) rfl ?_
      refine aq_iconst (v := (0 : Int32)) (am_dg dkX12_play (i := 14) rfl) (by decide) ?_
      refine aq_iload_n (am_dg dkX12_play (i := 15) rfl) rfl ?_
      refine aq_iconst (v := (1 : Int32)) (am_dg dkX12_play (i := 16) rfl) (by decide) ?_
      obtain ⟨q7, hq8, h⟩ := am_bnd h
      refine aq_virt (a := [.ref 82, .int (0 : Int32), .int a1, .int (1 : Int32)]) (S1 := []) (v1 := .int q7.1) (S2 := [.int q7.1]) (am_dg dkX12_play (i := 17) rfl) cv_12_239_12 (am_cls_c sh_82 (by decide)) rfl rfl rfl (Nat.le_of_ble_eq_true rfl) (Nat.le_of_ble_eq_true rfl) (T_X12_played_82 hR (by omega) hq8) rfl ?_
      refine aq_istore_n (L1 := [.ref 82, .int a1, .int q7.1]) (am_dg dkX12_play (i := 18) rfl) rfl ?_
      refine aq_aload_n (am_dg dkX12_play (i := 19) rfl) rfl ?_
      refine aq_getI (am_dg dkX12_play (i := 20) rfl) gk_12_243_82 (by decide) ?_
      obtain rfl := Option.some.inj h
      exact aq_ireturn (am_dg dkX12_play (i := 21) rfl) rfl (Or.inl rfl) rfl
    · rw [if_neg hc6] at h
      refine aq_ifF (t := 24) (am_dg dkX12_play (i := 10) rfl) rfl (decide_eq_false hc6) ?_
      refine aq_bipush (v := (-3 : Int32)) (am_dg dkX12_play (i := 11) rfl) (by decide) ?_
      obtain rfl := Option.some.inj h
      exact aq_ireturn (am_dg dkX12_play (i := 12) rfl) rfl (Or.inl rfl) rfl
set_option maxRecDepth 20000 in
theorem T_X8_addReport_8 {sc : Option (Nat × (Nat → Int32))} {RF : Nat → Nat → Option Nat} {d : Nat} (hR : am_RFok RF) (hd : 0 ≤ d) {a1 : Int32} {a2 : Int32} {a3 : Int32} {s : am_S} {r : Int32 × am_S} (h : F_X8_addReport_8 a1 a2 a3 s = some r) : am_Q sc d mX8_addReport (0, am_L0 mX8_addReport [.ref 8, .int a1, .int a2, .int a3], [], am_hp RF s) (.int r.1, am_hp RF r.2) := by
  unfold F_X8_addReport_8 at h
  show am_Q _ _ _ (0, [.ref 8, .int a1, .int a2, .int a3], [], _) _
  refine aq_aload_n (am_dg dkX8_addReport (i := 0) rfl) rfl ?_
  refine aq_getI (am_dg dkX8_addReport (i := 1) rfl) gk_8_78_8 (by decide) ?_
  refine aq_bipush (v := (6 : Int32)) (am_dg dkX8_addReport (i := 2) rfl) (by decide) ?_
  by_cases hc1 : (s.1 8 7) < (6 : Int32)
  · rw [if_pos hc1] at h
    refine aq_icT (t := 12) (am_dg dkX8_addReport (i := 3) rfl) rfl (decide_eq_true hc1) ?_
    refine aq_aload_n (am_dg dkX8_addReport (i := 6) rfl) rfl ?_
    refine aq_getR (am_dg dkX8_addReport (i := 7) rfl) gk_8_27_8 (rf_8_13 hR) ?_
    refine aq_aload_n (am_dg dkX8_addReport (i := 8) rfl) rfl ?_
    refine aq_getI (am_dg dkX8_addReport (i := 9) rfl) gk_8_78_8 (by decide) ?_
    refine aq_iload_n (am_dg dkX8_addReport (i := 10) rfl) rfl ?_
    obtain ⟨hg2, h⟩ := am_guard h
    refine aq_iast (am_dg dkX8_addReport (i := 11) rfl) sh_14 hg2 ?_
    obtain ⟨s3, hs4, h⟩ := am_bnd h
    rw [Option.some.inj hs4]
    refine aq_aload_n (am_dg dkX8_addReport (i := 12) rfl) rfl ?_
    refine aq_getR (am_dg dkX8_addReport (i := 13) rfl) gk_8_30_8 (rf_8_14 hR) ?_
    refine aq_aload_n (am_dg dkX8_addReport (i := 14) rfl) rfl ?_
    refine aq_getI (am_dg dkX8_addReport (i := 15) rfl) gk_8_78_8 (by decide) ?_
    refine aq_iload_n (am_dg dkX8_addReport (i := 16) rfl) rfl ?_
    obtain ⟨hg5, h⟩ := am_guard h
    refine aq_iast (am_dg dkX8_addReport (i := 17) rfl) sh_15 hg5 ?_
    obtain ⟨s6, hs7, h⟩ := am_bnd h
    rw [Option.some.inj hs7]
    refine aq_aload_n (am_dg dkX8_addReport (i := 18) rfl) rfl ?_
    refine aq_getR (am_dg dkX8_addReport (i := 19) rfl) gk_8_33_8 (rf_8_15 hR) ?_
    refine aq_aload_n (am_dg dkX8_addReport (i := 20) rfl) rfl ?_
    refine aq_getI (am_dg dkX8_addReport (i := 21) rfl) gk_8_78_8 (by decide) ?_
    refine aq_iload_n (am_dg dkX8_addReport (i := 22) rfl) rfl ?_
    obtain ⟨hg8, h⟩ := am_guard h
    refine aq_iast (am_dg dkX8_addReport (i := 23) rfl) sh_16 hg8 ?_
    obtain ⟨s9, hs10, h⟩ := am_bnd h
    rw [Option.some.inj hs10]
    refine aq_aload_n (am_dg dkX8_addReport (i := 24) rfl) rfl ?_
    refine aq_dup (am_dg dkX8_addReport (i := 25) rfl) rfl ?_
    refine aq_getI (am_dg dkX8_addReport (i := 26) rfl) gk_8_78_8 (by decide) ?_
    refine aq_iconst (v := (1 : Int32)) (am_dg dkX8_addReport (i := 27) rfl) (by decide) ?_
    refine aq_iadd (am_dg dkX8_addReport (i := 28) rfl) ?_
    refine aq_putI (am_dg dkX8_addReport (i := 29) rfl) gk_8_78_8 ?_
    obtain ⟨s11, hs12, h⟩ := am_bnd h
    rw [Option.some.inj hs12]
    refine aq_aload_n (am_dg dkX8_addReport (i := 30) rfl) rfl ?_
    refine aq_getI (am_dg dkX8_addReport (i := 31) rfl) gk_8_78_8 (by decide) ?_
    refine aq_iconst (v := (1 : Int32)) (am_dg dkX8_addReport (i := 32) rfl) (by decide) ?_
    refine aq_isub (am_dg dkX8_addReport (i := 33) rfl) ?_
    obtain rfl := Option.some.inj h
    exact aq_ireturn (am_dg dkX8_addReport (i := 34) rfl) rfl (Or.inl rfl) rfl
  · rw [if_neg hc1] at h
    refine aq_icF (t := 12) (am_dg dkX8_addReport (i := 3) rfl) rfl (decide_eq_false hc1) ?_
    refine aq_bipush (v := (-2 : Int32)) (am_dg dkX8_addReport (i := 4) rfl) (by decide) ?_
    obtain rfl := Option.some.inj h
    exact aq_ireturn (am_dg dkX8_addReport (i := 5) rfl) rfl (Or.inl rfl) rfl
set_option maxRecDepth 20000 in
theorem T_X11_report_0_b34 {sc : Option (Nat × (Nat → Int32))} {RF : Nat → Nat → Option Nat} {d : Nat} (hR : am_RFok RF) (hd : 2 ≤ d) : ∀ (x1 : Int32) (x2 : Int32) (x3 : Int32) (y0 : Int32) (w4 : Value) (s : am_S) (r : Int32 × am_S), F_X11_report_0_b34 x1 x2 x3 y0 s = some r → am_Q sc d mX11_report (34, [.ref 0, .int x1, .int x2, .int x3, w4], [.int y0], am_hp RF s) (.int r.1, am_hp RF r.2) := by
  obtain ⟨e, rfl⟩ : ∃ e, d = e + 1 := ⟨d - 1, by omega⟩
  intro x1 x2 x3 y0 w4 s r h
  unfold F_X11_report_0_b34 at h
  refine aq_istore (L1 := [.ref 0, .int x1, .int x2, .int x3, .int y0]) (am_dg dkX11_report (i := 17) rfl) rfl ?_
  refine aq_iload (am_dg dkX11_report (i := 18) rfl) rfl ?_
  by_cases hc1 : y0 = (0 : Int32)
  · rw [if_pos hc1] at h
    refine aq_ifT (t := 54) (am_dg dkX11_report (i := 19) rfl) rfl (decide_eq_true hc1) ?_
    refine aq_iconst (v := (-1 : Int32)) (am_dg dkX11_report (i := 27) rfl) (by decide) ?_
    obtain rfl := Option.some.inj h
    exact aq_ireturn (am_dg dkX11_report (i := 28) rfl) rfl (Or.inl rfl) rfl
  · rw [if_neg hc1] at h
    refine aq_ifF (t := 54) (am_dg dkX11_report (i := 19) rfl) rfl (decide_eq_false hc1) ?_
    refine aq_aload_n (am_dg dkX11_report (i := 20) rfl) rfl ?_
    refine aq_getR (am_dg dkX11_report (i := 21) rfl) gk_11_30_0 (rf_0_0 hR) ?_
    refine aq_iload_n (am_dg dkX11_report (i := 22) rfl) rfl ?_
    refine aq_iload_n (am_dg dkX11_report (i := 23) rfl) rfl ?_
    refine aq_iload_n (am_dg dkX11_report (i := 24) rfl) rfl ?_
    obtain ⟨q2, hq3, h⟩ := am_bnd h
    refine aq_virt (a := [.ref 8, .int x1, .int x2, .int x3]) (S1 := []) (v1 := .int q2.1) (S2 := [.int q2.1]) (am_dg dkX11_report (i := 25) rfl) cv_11_282_8 (am_cls_c sh_8 (by decide)) rfl rfl rfl (Nat.le_of_ble_eq_true rfl) (Nat.le_of_ble_eq_true rfl) (T_X8_addReport_8 hR (by omega) hq3) rfl ?_
    refine aq_goto (t := 55) (am_dg dkX11_report (i := 26) rfl) rfl ?_
    obtain rfl := Option.some.inj h
    exact aq_ireturn (am_dg dkX11_report (i := 28) rfl) rfl (Or.inl rfl) rfl
set_option maxRecDepth 20000 in
theorem T_X11_report_0_b33 {sc : Option (Nat × (Nat → Int32))} {RF : Nat → Nat → Option Nat} {d : Nat} (hR : am_RFok RF) (hd : 2 ≤ d) : ∀ (x1 : Int32) (x2 : Int32) (x3 : Int32) (w4 : Value) (s : am_S) (r : Int32 × am_S), F_X11_report_0_b33 x1 x2 x3 s = some r → am_Q sc d mX11_report (33, [.ref 0, .int x1, .int x2, .int x3, w4], [], am_hp RF s) (.int r.1, am_hp RF r.2) := by
  obtain ⟨e, rfl⟩ : ∃ e, d = e + 1 := ⟨d - 1, by omega⟩
  intro x1 x2 x3 w4 s r h
  unfold F_X11_report_0_b33 at h
  refine aq_iconst (v := (0 : Int32)) (am_dg dkX11_report (i := 16) rfl) (by decide) ?_
  exact T_X11_report_0_b34 hR (by omega) _ _ _ _ _ _ _ h
set_option maxRecDepth 20000 in
theorem T_X11_report_0 {sc : Option (Nat × (Nat → Int32))} {RF : Nat → Nat → Option Nat} {d : Nat} (hR : am_RFok RF) (hd : 2 ≤ d) {a1 : Int32} {a2 : Int32} {a3 : Int32} {s : am_S} {r : Int32 × am_S} (h : F_X11_report_0 a1 a2 a3 s = some r) : am_Q sc d mX11_report (0, am_L0 mX11_report [.ref 0, .int a1, .int a2, .int a3], [], am_hp RF s) (.int r.1, am_hp RF r.2) := by
  obtain ⟨e, rfl⟩ : ∃ e, d = e + 1 := ⟨d - 1, by omega⟩
  unfold F_X11_report_0 at h
  show am_Q _ _ _ (0, [.ref 0, .int a1, .int a2, .int a3, .null], [], _) _
  refine aq_iload_n (am_dg dkX11_report (i := 0) rfl) rfl ?_
  refine aq_iconst (v := (0 : Int32)) (am_dg dkX11_report (i := 1) rfl) (by decide) ?_
  refine aq_bipush (v := (15 : Int32)) (am_dg dkX11_report (i := 2) rfl) (by decide) ?_
  obtain ⟨q1, hq2, h⟩ := am_bnd h
  refine aq_static (a := [.int a1, .int (0 : Int32), .int (15 : Int32)]) (S1 := []) (v1 := .int q1.1) (S2 := [.int q1.1]) (am_dg dkX11_report (i := 3) rfl) ct_11_149 rfl rfl rfl (Nat.le_of_ble_eq_true rfl) (Nat.le_of_ble_eq_true rfl) (T_X11_isWithin hR (by omega) hq2) rfl ?_
  by_cases hc3 : q1.1 = (0 : Int32)
  · rw [if_pos hc3] at h
    refine aq_ifT (t := 33) (am_dg dkX11_report (i := 4) rfl) rfl (decide_eq_true hc3) ?_
    exact T_X11_report_0_b33 hR (by omega) _ _ _ _ _ _ h
  · rw [if_neg hc3] at h
    refine aq_ifF (t := 33) (am_dg dkX11_report (i := 4) rfl) rfl (decide_eq_false hc3) ?_
    refine aq_iload_n (am_dg dkX11_report (i := 5) rfl) rfl ?_
    obtain ⟨q4, hq5, h⟩ := am_bnd h
    refine aq_static (a := [.int a2]) (S1 := []) (v1 := .int q4.1) (S2 := [.int q4.1]) (am_dg dkX11_report (i := 6) rfl) ct_11_103 rfl rfl rfl (Nat.le_of_ble_eq_true rfl) (Nat.le_of_ble_eq_true rfl) (T_X11_isPlace hR (by omega) hq5) rfl ?_
    by_cases hc6 : q4.1 = (0 : Int32)
    · rw [if_pos hc6] at h
      refine aq_ifT (t := 33) (am_dg dkX11_report (i := 7) rfl) rfl (decide_eq_true hc6) ?_
      exact T_X11_report_0_b33 hR (by omega) _ _ _ _ _ _ h
    · rw [if_neg hc6] at h
      refine aq_ifF (t := 33) (am_dg dkX11_report (i := 7) rfl) rfl (decide_eq_false hc6) ?_
      refine aq_iload_n (am_dg dkX11_report (i := 8) rfl) rfl ?_
      obtain ⟨q7, hq8, h⟩ := am_bnd h
      refine aq_static (a := [.int a3]) (S1 := []) (v1 := .int q7.1) (S2 := [.int q7.1]) (am_dg dkX11_report (i := 9) rfl) ct_11_103 rfl rfl rfl (Nat.le_of_ble_eq_true rfl) (Nat.le_of_ble_eq_true rfl) (T_X11_isPlace hR (by omega) hq8) rfl ?_
      by_cases hc9 : q7.1 = (0 : Int32)
      · rw [if_pos hc9] at h
        refine aq_ifT (t := 33) (am_dg dkX11_report (i := 10) rfl) rfl (decide_eq_true hc9) ?_
        exact T_X11_report_0_b33 hR (by omega) _ _ _ _ _ _ h
      · rw [if_neg hc9] at h
        refine aq_ifF (t := 33) (am_dg dkX11_report (i := 10) rfl) rfl (decide_eq_false hc9) ?_
        refine aq_iload_n (am_dg dkX11_report (i := 11) rfl) rfl ?_
        refine aq_iload_n (am_dg dkX11_report (i := 12) rfl) rfl ?_
        by_cases hc10 : a3 < a2
        · rw [if_pos hc10] at h
          refine aq_icT (t := 33) (am_dg dkX11_report (i := 13) rfl) rfl (decide_eq_true hc10) ?_
          exact T_X11_report_0_b33 hR (by omega) _ _ _ _ _ _ h
        · rw [if_neg hc10] at h
          refine aq_icF (t := 33) (am_dg dkX11_report (i := 13) rfl) rfl (decide_eq_false hc10) ?_
          refine aq_iconst (v := (1 : Int32)) (am_dg dkX11_report (i := 14) rfl) (by decide) ?_
          refine aq_goto (t := 34) (am_dg dkX11_report (i := 15) rfl) rfl ?_
          exact T_X11_report_0_b34 hR (by omega) _ _ _ _ _ _ _ h
set_option maxRecDepth 20000 in
theorem T_X12_report_82 {sc : Option (Nat × (Nat → Int32))} {RF : Nat → Nat → Option Nat} {d : Nat} (hR : am_RFok RF) (hd : 2 ≤ d) {a1 : Int32} {a2 : Int32} {a3 : Int32} {s : am_S} {r : Int32 × am_S} (h : F_X12_report_82 a1 a2 a3 s = some r) : am_Q sc d mX12_report (0, am_L0 mX12_report [.ref 82, .int a1, .int a2, .int a3], [], am_hp RF s) (.int r.1, am_hp RF r.2) := by
  obtain ⟨e, rfl⟩ : ∃ e, d = e + 1 := ⟨d - 1, by omega⟩
  unfold F_X12_report_82 at h
  show am_Q _ _ _ (0, [.ref 82, .int a1, .int a2, .int a3, .null], [], _) _
  refine aq_iload_n (am_dg dkX12_report (i := 0) rfl) rfl ?_
  obtain ⟨q1, hq2, h⟩ := am_bnd h
  refine aq_static (a := [.int a1]) (S1 := []) (v1 := .int q1.1) (S2 := [.int q1.1]) (am_dg dkX12_report (i := 1) rfl) ct_12_111 rfl rfl rfl (Nat.le_of_ble_eq_true rfl) (Nat.le_of_ble_eq_true rfl) (T_X12_isTurn hR (by omega) hq2) rfl ?_
  by_cases hc3 : q1.1 = (0 : Int32)
  · rw [if_pos hc3] at h
    refine aq_ifT (t := 32) (am_dg dkX12_report (i := 2) rfl) rfl (decide_eq_true hc3) ?_
    refine aq_iconst (v := (-1 : Int32)) (am_dg dkX12_report (i := 16) rfl) (by decide) ?_
    obtain rfl := Option.some.inj h
    exact aq_ireturn (am_dg dkX12_report (i := 17) rfl) rfl (Or.inl rfl) rfl
  · rw [if_neg hc3] at h
    refine aq_ifF (t := 32) (am_dg dkX12_report (i := 2) rfl) rfl (decide_eq_false hc3) ?_
    refine aq_iload_n (am_dg dkX12_report (i := 3) rfl) rfl ?_
    refine aq_i2l (am_dg dkX12_report (i := 4) rfl) ?_
    refine aq_lconst (v := (0 : Int64)) (am_dg dkX12_report (i := 5) rfl) (by decide) ?_
    refine aq_ldc2 (am_dg dkX12_report (i := 6) rfl) cl_12_73 ?_
    obtain ⟨q4, hq5, h⟩ := am_bnd h
    refine aq_static (a := [.long a2.toInt64, .long (0 : Int64), .long (15 : Int64)]) (S1 := []) (v1 := .int q4.1) (S2 := [.int q4.1]) (am_dg dkX12_report (i := 7) rfl) ct_12_61 rfl rfl rfl (Nat.le_of_ble_eq_true rfl) (Nat.le_of_ble_eq_true rfl) (T_X12_in hR (by omega) hq5) rfl ?_
    by_cases hc6 : q4.1 = (0 : Int32)
    · rw [if_pos hc6] at h
      refine aq_ifT (t := 32) (am_dg dkX12_report (i := 8) rfl) rfl (decide_eq_true hc6) ?_
      refine aq_iconst (v := (-1 : Int32)) (am_dg dkX12_report (i := 16) rfl) (by decide) ?_
      obtain rfl := Option.some.inj h
      exact aq_ireturn (am_dg dkX12_report (i := 17) rfl) rfl (Or.inl rfl) rfl
    · rw [if_neg hc6] at h
      refine aq_ifF (t := 32) (am_dg dkX12_report (i := 8) rfl) rfl (decide_eq_false hc6) ?_
      refine aq_iload_n (am_dg dkX12_report (i := 9) rfl) rfl ?_
      refine aq_i2l (am_dg dkX12_report (i := 10) rfl) ?_
      refine aq_iload_n (am_dg dkX12_report (i := 11) rfl) rfl ?_
      refine aq_i2l (am_dg dkX12_report (i := 12) rfl) ?_
      refine aq_ldc2 (am_dg dkX12_report (i := 13) rfl) cl_12_73 ?_
      obtain ⟨q7, hq8, h⟩ := am_bnd h
      refine aq_static (a := [.long a3.toInt64, .long a2.toInt64, .long (15 : Int64)]) (S1 := []) (v1 := .int q7.1) (S2 := [.int q7.1]) (am_dg dkX12_report (i := 14) rfl) ct_12_61 rfl rfl rfl (Nat.le_of_ble_eq_true rfl) (Nat.le_of_ble_eq_true rfl) (T_X12_in hR (by omega) hq8) rfl ?_
      by_cases hc9 : q7.1 = (0 : Int32)
      · rw [if_pos hc9] at h
        refine aq_ifF (t := 34) (am_dg dkX12_report (i := 15) rfl) rfl (decide_eq_false (not_not_intro hc9)) ?_
        refine aq_iconst (v := (-1 : Int32)) (am_dg dkX12_report (i := 16) rfl) (by decide) ?_
        obtain rfl := Option.some.inj h
        exact aq_ireturn (am_dg dkX12_report (i := 17) rfl) rfl (Or.inl rfl) rfl
      · rw [if_neg hc9] at h
        refine aq_ifT (t := 34) (am_dg dkX12_report (i := 15) rfl) rfl (decide_eq_true hc9) ?_
        refine aq_aload_n (am_dg dkX12_report (i := 18) rfl) rfl ?_
        refine aq_getR (am_dg dkX12_report (i := 19) rfl) gk_12_7_82 (rf_82_0 hR) ?_
        refine aq_bipush (v := (6 : Int32)) (am_dg dkX12_report (i := 20) rfl) (by decide) ?_
        obtain ⟨hg10, h⟩ := am_guard h
        refine aq_iald (am_dg dkX12_report (i := 21) rfl) sh_83 hg10 ?_
        refine aq_bipush (v := (6 : Int32)) (am_dg dkX12_report (i := 22) rfl) (by decide) ?_
        by_cases hc11 : (q7.2.1 83 (6 : Int32).toNatClampNeg) = (6 : Int32)
        · rw [if_pos hc11] at h
          refine aq_icF (t := 49) (am_dg dkX12_report (i := 23) rfl) rfl (decide_eq_false (not_not_intro hc11)) ?_
          refine aq_bipush (v := (-2 : Int32)) (am_dg dkX12_report (i := 24) rfl) (by decide) ?_
          obtain rfl := Option.some.inj h
          exact aq_ireturn (am_dg dkX12_report (i := 25) rfl) rfl (Or.inl rfl) rfl
        · rw [if_neg hc11] at h
          refine aq_icT (t := 49) (am_dg dkX12_report (i := 23) rfl) rfl (decide_eq_true hc11) ?_
          refine aq_bipush (v := (54 : Int32)) (am_dg dkX12_report (i := 26) rfl) (by decide) ?_
          refine aq_iconst (v := (3 : Int32)) (am_dg dkX12_report (i := 27) rfl) (by decide) ?_
          refine aq_aload_n (am_dg dkX12_report (i := 28) rfl) rfl ?_
          refine aq_getR (am_dg dkX12_report (i := 29) rfl) gk_12_7_82 (rf_82_0 hR) ?_
          refine aq_bipush (v := (6 : Int32)) (am_dg dkX12_report (i := 30) rfl) (by decide) ?_
          obtain ⟨hg12, h⟩ := am_guard h
          refine aq_iald (am_dg dkX12_report (i := 31) rfl) sh_83 hg12 ?_
          refine aq_imul (am_dg dkX12_report (i := 32) rfl) ?_
          refine aq_iadd (am_dg dkX12_report (i := 33) rfl) ?_
          obtain ⟨v13, hv14, h⟩ := am_bnd h
          rw [Option.some.inj hv14]
          refine aq_istore (L1 := [.ref 82, .int a1, .int a2, .int a3, .int v13]) (am_dg dkX12_report (i := 34) rfl) rfl ?_
          refine aq_aload_n (am_dg dkX12_report (i := 35) rfl) rfl ?_
          refine aq_getR (am_dg dkX12_report (i := 36) rfl) gk_12_7_82 (rf_82_0 hR) ?_
          refine aq_iload (am_dg dkX12_report (i := 37) rfl) rfl ?_
          refine aq_iload_n (am_dg dkX12_report (i := 38) rfl) rfl ?_
          obtain ⟨hg15, h⟩ := am_guard h
          refine aq_iast (am_dg dkX12_report (i := 39) rfl) sh_83 hg15 ?_
          obtain ⟨s16, hs17, h⟩ := am_bnd h
          rw [Option.some.inj hs17]
          refine aq_aload_n (am_dg dkX12_report (i := 40) rfl) rfl ?_
          refine aq_getR (am_dg dkX12_report (i := 41) rfl) gk_12_7_82 (rf_82_0 hR) ?_
          refine aq_iload (am_dg dkX12_report (i := 42) rfl) rfl ?_
          refine aq_iconst (v := (1 : Int32)) (am_dg dkX12_report (i := 43) rfl) (by decide) ?_
          refine aq_iadd (am_dg dkX12_report (i := 44) rfl) ?_
          refine aq_iload_n (am_dg dkX12_report (i := 45) rfl) rfl ?_
          obtain ⟨hg18, h⟩ := am_guard h
          refine aq_iast (am_dg dkX12_report (i := 46) rfl) sh_83 hg18 ?_
          obtain ⟨s19, hs20, h⟩ := am_bnd h
          rw [Option.some.inj hs20]
          refine aq_aload_n (am_dg dkX12_report (i := 47) rfl) rfl ?_
          refine aq_getR (am_dg dkX12_report (i := 48) rfl) gk_12_7_82 (rf_82_0 hR) ?_
          refine aq_iload (am_dg dkX12_report (i := 49) rfl) rfl ?_
          refine aq_iconst (v := (2 : Int32)) (am_dg dkX12_report (i := 50) rfl) (by decide) ?_
          refine aq_iadd (am_dg dkX12_report (i := 51) rfl) ?_
          refine aq_iload_n (am_dg dkX12_report (i := 52) rfl) rfl ?_
          obtain ⟨hg21, h⟩ := am_guard h
          refine aq_iast (am_dg dkX12_report (i := 53) rfl) sh_83 hg21 ?_
          obtain ⟨s22, hs23, h⟩ := am_bnd h
          rw [Option.some.inj hs23]
          refine aq_aload_n (am_dg dkX12_report (i := 54) rfl) rfl ?_
          refine aq_getR (am_dg dkX12_report (i := 55) rfl) gk_12_7_82 (rf_82_0 hR) ?_
          refine aq_bipush (v := (6 : Int32)) (am_dg dkX12_report (i := 56) rfl) (by decide) ?_
          refine aq_dup2 (am_dg dkX12_report (i := 57) rfl) rfl rfl ?_
          obtain ⟨hg24, h⟩ := am_guard h
          refine aq_iald (am_dg dkX12_report (i := 58) rfl) sh_83 hg24 ?_
          refine aq_iconst (v := (1 : Int32)) (am_dg dkX12_report (i := 59) rfl) (by decide) ?_
          refine aq_iadd (am_dg dkX12_report (i := 60) rfl) ?_
          obtain ⟨hg25, h⟩ := am_guard h
          refine aq_iast (am_dg dkX12_report (i := 61) rfl) sh_83 hg25 ?_
          obtain ⟨s26, hs27, h⟩ := am_bnd h
          rw [Option.some.inj hs27]
          refine aq_aload_n (am_dg dkX12_report (i := 62) rfl) rfl ?_
          refine aq_getR (am_dg dkX12_report (i := 63) rfl) gk_12_7_82 (rf_82_0 hR) ?_
          refine aq_bipush (v := (6 : Int32)) (am_dg dkX12_report (i := 64) rfl) (by decide) ?_
          obtain ⟨hg28, h⟩ := am_guard h
          refine aq_iald (am_dg dkX12_report (i := 65) rfl) sh_83 hg28 ?_
          refine aq_iconst (v := (1 : Int32)) (am_dg dkX12_report (i := 66) rfl) (by decide) ?_
          refine aq_isub (am_dg dkX12_report (i := 67) rfl) ?_
          obtain rfl := Option.some.inj h
          exact aq_ireturn (am_dg dkX12_report (i := 68) rfl) rfl (Or.inl rfl) rfl
