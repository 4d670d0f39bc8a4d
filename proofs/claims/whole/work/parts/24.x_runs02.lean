/-! LAYER 1: the runs (written by wip/whole/gen_f.py) -/
set_option maxRecDepth 20000 in
theorem T_X6_take_40_b22 {sc : Option (Nat × (Nat → Int32))} {RF : Nat → Nat → Option Nat} {d : Nat} (hR : am_RFok RF) (hd : 0 ≤ d) : ∀ (n : Nat) (x1 : Int64) (x3 : Int32) (x4 : Int32) (s : am_S) (r : Int32 × am_S), F_X6_take_40_b22 n x1 x3 x4 s = some r → am_Q sc d mX6_take (22, [.ref 40, .long x1, .null, .int x3, .int x4], [], am_hp RF s) (.int r.1, am_hp RF r.2) := by
  intro n
  induction n with
  | zero => intro x1 x3 x4 s r h; rw [F_X6_take_40_b22] at h; cases h
  | succ n ih =>
  intro x1 x3 x4 s r h
  rw [F_X6_take_40_b22] at h
  refine aq_iload (am_dg dkX6_take (i := 12) rfl) rfl ?_
  refine aq_iload_n (am_dg dkX6_take (i := 13) rfl) rfl ?_
  by_cases hc1 : x3 ≤ x4
  · rw [if_pos hc1] at h
    refine aq_icT (t := 65) (am_dg dkX6_take (i := 14) rfl) rfl (decide_eq_true hc1) ?_
    refine aq_aload_n (am_dg dkX6_take (i := 36) rfl) rfl ?_
    refine aq_getI (am_dg dkX6_take (i := 37) rfl) gk_6_28_40 (by decide) ?_
    obtain rfl := Option.some.inj h
    exact aq_ireturn (am_dg dkX6_take (i := 38) rfl) rfl (Or.inl rfl) rfl
  · rw [if_neg hc1] at h
    refine aq_icF (t := 65) (am_dg dkX6_take (i := 14) rfl) rfl (decide_eq_false hc1) ?_
    refine aq_aload_n (am_dg dkX6_take (i := 15) rfl) rfl ?_
    refine aq_getR (am_dg dkX6_take (i := 16) rfl) gk_6_11_40 (rf_40_1 hR) ?_
    refine aq_aload_n (am_dg dkX6_take (i := 17) rfl) rfl ?_
    refine aq_getI (am_dg dkX6_take (i := 18) rfl) gk_6_28_40 (by decide) ?_
    refine aq_lload_n (am_dg dkX6_take (i := 19) rfl) rfl ?_
    refine aq_bipush (v := (8 : Int32)) (am_dg dkX6_take (i := 20) rfl) (by decide) ?_
    refine aq_iload (am_dg dkX6_take (i := 21) rfl) rfl ?_
    refine aq_imul (am_dg dkX6_take (i := 22) rfl) ?_
    refine aq_lushrN (am_dg dkX6_take (i := 23) rfl) ?_
    refine aq_l2i (am_dg dkX6_take (i := 24) rfl) ?_
    refine aq_sipush (v := (255 : Int32)) (am_dg dkX6_take (i := 25) rfl) (by decide) ?_
    refine aq_iand (am_dg dkX6_take (i := 26) rfl) ?_
    obtain ⟨hg2, h⟩ := am_guard h
    refine aq_iast (am_dg dkX6_take (i := 27) rfl) sh_41 hg2 ?_
    obtain ⟨s3, hs4, h⟩ := am_bnd h
    rw [Option.some.inj hs4]
    refine aq_aload_n (am_dg dkX6_take (i := 28) rfl) rfl ?_
    refine aq_dup (am_dg dkX6_take (i := 29) rfl) rfl ?_
    refine aq_getI (am_dg dkX6_take (i := 30) rfl) gk_6_28_40 (by decide) ?_
    refine aq_iconst (v := (1 : Int32)) (am_dg dkX6_take (i := 31) rfl) (by decide) ?_
    refine aq_iadd (am_dg dkX6_take (i := 32) rfl) ?_
    refine aq_putI (am_dg dkX6_take (i := 33) rfl) gk_6_28_40 ?_
    obtain ⟨s5, hs6, h⟩ := am_bnd h
    rw [Option.some.inj hs6]
    refine aq_iinc (v := (1 : Int32)) (L1 := [.ref 40, .long x1, .null, .int x3, .int (x4 + (1 : Int32))]) (am_dg dkX6_take (i := 34) rfl) rfl (by decide) rfl ?_
    refine aq_goto (t := 22) (am_dg dkX6_take (i := 35) rfl) rfl ?_
    exact ih _ _ _ _ _ h
set_option maxRecDepth 20000 in
theorem T_X6_take_40 {sc : Option (Nat × (Nat → Int32))} {RF : Nat → Nat → Option Nat} {d : Nat} (hR : am_RFok RF) (hd : 0 ≤ d) {a1 : Int64} {a2 : Int32} {s : am_S} {r : Int32 × am_S} (h : F_X6_take_40 a1 a2 s = some r) : am_Q sc d mX6_take (0, am_L0 mX6_take [.ref 40, .long a1, .int a2], [], am_hp RF s) (.int r.1, am_hp RF r.2) := by
  unfold F_X6_take_40 at h
  show am_Q _ _ _ (0, [.ref 40, .long a1, .null, .int a2, .null], [], _) _
  refine aq_iload_n (am_dg dkX6_take (i := 0) rfl) rfl ?_
  by_cases hc1 : a2 < (0 : Int32)
  · rw [if_pos hc1] at h
    refine aq_ifT (t := 16) (am_dg dkX6_take (i := 1) rfl) rfl (decide_eq_true hc1) ?_
    refine aq_bipush (v := (-2 : Int32)) (am_dg dkX6_take (i := 8) rfl) (by decide) ?_
    obtain rfl := Option.some.inj h
    exact aq_ireturn (am_dg dkX6_take (i := 9) rfl) rfl (Or.inl rfl) rfl
  · rw [if_neg hc1] at h
    refine aq_ifF (t := 16) (am_dg dkX6_take (i := 1) rfl) rfl (decide_eq_false hc1) ?_
    refine aq_aload_n (am_dg dkX6_take (i := 2) rfl) rfl ?_
    refine aq_getI (am_dg dkX6_take (i := 3) rfl) gk_6_28_40 (by decide) ?_
    refine aq_iload_n (am_dg dkX6_take (i := 4) rfl) rfl ?_
    refine aq_iadd (am_dg dkX6_take (i := 5) rfl) ?_
    refine aq_sipush (v := (200 : Int32)) (am_dg dkX6_take (i := 6) rfl) (by decide) ?_
    by_cases hc2 : ((s.1 40 0) + a2) ≤ (200 : Int32)
    · rw [if_pos hc2] at h
      refine aq_icT (t := 19) (am_dg dkX6_take (i := 7) rfl) rfl (decide_eq_true hc2) ?_
      refine aq_iconst (v := (0 : Int32)) (am_dg dkX6_take (i := 10) rfl) (by decide) ?_
      refine aq_istore (L1 := [.ref 40, .long a1, .null, .int a2, .int (0 : Int32)]) (am_dg dkX6_take (i := 11) rfl) rfl ?_
      exact T_X6_take_40_b22 hR (by omega) _ _ _ _ _ _ h
    · rw [if_neg hc2] at h
      refine aq_icF (t := 19) (am_dg dkX6_take (i := 7) rfl) rfl (decide_eq_false hc2) ?_
      refine aq_bipush (v := (-2 : Int32)) (am_dg dkX6_take (i := 8) rfl) (by decide) ?_
      obtain rfl := Option.some.inj h
      exact aq_ireturn (am_dg dkX6_take (i := 9) rfl) rfl (Or.inl rfl) rfl
set_option maxRecDepth 20000 in
theorem T_X11_feed_0 {sc : Option (Nat × (Nat → Int32))} {RF : Nat → Nat → Option Nat} {d : Nat} (hR : am_RFok RF) (hd : 1 ≤ d) {a1 : Int64} {a2 : Int32} {s : am_S} {r : Int32 × am_S} (h : F_X11_feed_0 a1 a2 s = some r) : am_Q sc d mX11_feed (0, am_L0 mX11_feed [.ref 0, .long a1, .int a2], [], am_hp RF s) (.int r.1, am_hp RF r.2) := by
  obtain ⟨e, rfl⟩ : ∃ e, d = e + 1 := ⟨d - 1, by omega⟩
  unfold F_X11_feed_0 at h
  show am_Q _ _ _ (0, [.ref 0, .long a1, .null, .int a2], [], _) _
  refine aq_iload_n (am_dg dkX11_feed (i := 0) rfl) rfl ?_
  refine aq_iconst (v := (1 : Int32)) (am_dg dkX11_feed (i := 1) rfl) (by decide) ?_
  refine aq_bipush (v := (8 : Int32)) (am_dg dkX11_feed (i := 2) rfl) (by decide) ?_
  obtain ⟨q1, hq2, h⟩ := am_bnd h
  refine aq_static (a := [.int a2, .int (1 : Int32), .int (8 : Int32)]) (S1 := []) (v1 := .int q1.1) (S2 := [.int q1.1]) (am_dg dkX11_feed (i := 3) rfl) ct_11_149 rfl rfl rfl (Nat.le_of_ble_eq_true rfl) (Nat.le_of_ble_eq_true rfl) (T_X11_isWithin hR (by omega) hq2) rfl ?_
  by_cases hc3 : q1.1 = (0 : Int32)
  · rw [if_pos hc3] at h
    refine aq_ifT (t := 22) (am_dg dkX11_feed (i := 4) rfl) rfl (decide_eq_true hc3) ?_
    refine aq_iconst (v := (-1 : Int32)) (am_dg dkX11_feed (i := 11) rfl) (by decide) ?_
    obtain rfl := Option.some.inj h
    exact aq_ireturn (am_dg dkX11_feed (i := 12) rfl) rfl (Or.inl rfl) rfl
  · rw [if_neg hc3] at h
    refine aq_ifF (t := 22) (am_dg dkX11_feed (i := 4) rfl) rfl (decide_eq_false hc3) ?_
    refine aq_aload_n (am_dg dkX11_feed (i := 5) rfl) rfl ?_
    refine aq_getR (am_dg dkX11_feed (i := 6) rfl) gk_11_46_0 (rf_0_3 hR) ?_
    refine aq_lload_n (am_dg dkX11_feed (i := 7) rfl) rfl ?_
    refine aq_iload_n (am_dg dkX11_feed (i := 8) rfl) rfl ?_
    obtain ⟨q4, hq5, h⟩ := am_bnd h
    refine aq_virt (a := [.ref 40, .long a1, .int a2]) (S1 := []) (v1 := .int q4.1) (S2 := [.int q4.1]) (am_dg dkX11_feed (i := 9) rfl) cv_11_193_6 (am_cls_c sh_40 (by decide)) rfl rfl rfl (Nat.le_of_ble_eq_true rfl) (Nat.le_of_ble_eq_true rfl) (T_X6_take_40 hR (by omega) hq5) rfl ?_
    refine aq_goto (t := 23) (am_dg dkX11_feed (i := 10) rfl) rfl ?_
    obtain rfl := Option.some.inj h
    exact aq_ireturn (am_dg dkX11_feed (i := 12) rfl) rfl (Or.inl rfl) rfl
set_option maxRecDepth 20000 in
theorem T_X12_feed_82_b32 {sc : Option (Nat × (Nat → Int32))} {RF : Nat → Nat → Option Nat} {d : Nat} (hR : am_RFok RF) (hd : 1 ≤ d) : ∀ (n : Nat) (x1 : Int64) (x3 : Int32) (x4 : Int32) (s : am_S) (r : Int32 × am_S), F_X12_feed_82_b32 n x1 x3 x4 s = some r → am_Q sc d mX12_feed (32, [.ref 82, .long x1, .null, .int x3, .int x4], [], am_hp RF s) (.int r.1, am_hp RF r.2) := by
  obtain ⟨e, rfl⟩ : ∃ e, d = e + 1 := ⟨d - 1, by omega⟩
  intro n
  induction n with
  | zero => intro x1 x3 x4 s r h; rw [F_X12_feed_82_b32] at h; cases h
  | succ n ih =>
  intro x1 x3 x4 s r h
  rw [F_X12_feed_82_b32] at h
  refine aq_iload (am_dg dkX12_feed (i := 18) rfl) rfl ?_
  refine aq_iload_n (am_dg dkX12_feed (i := 19) rfl) rfl ?_
  by_cases hc1 : x3 ≤ x4
  · rw [if_pos hc1] at h
    refine aq_icT (t := 75) (am_dg dkX12_feed (i := 20) rfl) rfl (decide_eq_true hc1) ?_
    refine aq_aload_n (am_dg dkX12_feed (i := 42) rfl) rfl ?_
    refine aq_getI (am_dg dkX12_feed (i := 43) rfl) gk_12_281_82 (by decide) ?_
    obtain rfl := Option.some.inj h
    exact aq_ireturn (am_dg dkX12_feed (i := 44) rfl) rfl (Or.inl rfl) rfl
  · rw [if_neg hc1] at h
    refine aq_icF (t := 75) (am_dg dkX12_feed (i := 20) rfl) rfl (decide_eq_false hc1) ?_
    refine aq_aload_n (am_dg dkX12_feed (i := 21) rfl) rfl ?_
    refine aq_getR (am_dg dkX12_feed (i := 22) rfl) gk_12_37_82 (rf_82_21 hR) ?_
    refine aq_aload_n (am_dg dkX12_feed (i := 23) rfl) rfl ?_
    refine aq_getI (am_dg dkX12_feed (i := 24) rfl) gk_12_281_82 (by decide) ?_
    refine aq_lload_n (am_dg dkX12_feed (i := 25) rfl) rfl ?_
    refine aq_bipush (v := (8 : Int32)) (am_dg dkX12_feed (i := 26) rfl) (by decide) ?_
    refine aq_iload (am_dg dkX12_feed (i := 27) rfl) rfl ?_
    refine aq_imul (am_dg dkX12_feed (i := 28) rfl) ?_
    refine aq_lshr (am_dg dkX12_feed (i := 29) rfl) ?_
    refine aq_ldc2 (am_dg dkX12_feed (i := 30) rfl) cl_12_284 ?_
    refine aq_land (am_dg dkX12_feed (i := 31) rfl) ?_
    refine aq_l2i (am_dg dkX12_feed (i := 32) rfl) ?_
    obtain ⟨hg2, h⟩ := am_guard h
    refine aq_iast (am_dg dkX12_feed (i := 33) rfl) sh_92 hg2 ?_
    obtain ⟨s3, hs4, h⟩ := am_bnd h
    rw [Option.some.inj hs4]
    refine aq_aload_n (am_dg dkX12_feed (i := 34) rfl) rfl ?_
    refine aq_dup (am_dg dkX12_feed (i := 35) rfl) rfl ?_
    refine aq_getI (am_dg dkX12_feed (i := 36) rfl) gk_12_281_82 (by decide) ?_
    refine aq_iconst (v := (1 : Int32)) (am_dg dkX12_feed (i := 37) rfl) (by decide) ?_
    refine aq_iadd (am_dg dkX12_feed (i := 38) rfl) ?_
    refine aq_putI (am_dg dkX12_feed (i := 39) rfl) gk_12_281_82 ?_
    obtain ⟨s5, hs6, h⟩ := am_bnd h
    rw [Option.some.inj hs6]
    refine aq_iinc (v := (1 : Int32)) (L1 := [.ref 82, .long x1, .null, .int x3, .int (x4 + (1 : Int32))]) (am_dg dkX12_feed (i := 40) rfl) rfl (by decide) rfl ?_
    refine aq_goto (t := 32) (am_dg dkX12_feed (i := 41) rfl) rfl ?_
    exact ih _ _ _ _ _ h
set_option maxRecDepth 20000 in
theorem T_X12_feed_82 {sc : Option (Nat × (Nat → Int32))} {RF : Nat → Nat → Option Nat} {d : Nat} (hR : am_RFok RF) (hd : 1 ≤ d) {a1 : Int64} {a2 : Int32} {s : am_S} {r : Int32 × am_S} (h : F_X12_feed_82 a1 a2 s = some r) : am_Q sc d mX12_feed (0, am_L0 mX12_feed [.ref 82, .long a1, .int a2], [], am_hp RF s) (.int r.1, am_hp RF r.2) := by
  obtain ⟨e, rfl⟩ : ∃ e, d = e + 1 := ⟨d - 1, by omega⟩
  unfold F_X12_feed_82 at h
  show am_Q _ _ _ (0, [.ref 82, .long a1, .null, .int a2, .null], [], _) _
  refine aq_iload_n (am_dg dkX12_feed (i := 0) rfl) rfl ?_
  refine aq_i2l (am_dg dkX12_feed (i := 1) rfl) ?_
  refine aq_lconst (v := (1 : Int64)) (am_dg dkX12_feed (i := 2) rfl) (by decide) ?_
  refine aq_ldc2 (am_dg dkX12_feed (i := 3) rfl) cl_12_93 ?_
  obtain ⟨q1, hq2, h⟩ := am_bnd h
  refine aq_static (a := [.long a2.toInt64, .long (1 : Int64), .long (8 : Int64)]) (S1 := []) (v1 := .int q1.1) (S2 := [.int q1.1]) (am_dg dkX12_feed (i := 4) rfl) ct_12_61 rfl rfl rfl (Nat.le_of_ble_eq_true rfl) (Nat.le_of_ble_eq_true rfl) (T_X12_in hR (by omega) hq2) rfl ?_
  by_cases hc3 : q1.1 = (0 : Int32)
  · rw [if_pos hc3] at h
    refine aq_ifF (t := 14) (am_dg dkX12_feed (i := 5) rfl) rfl (decide_eq_false (not_not_intro hc3)) ?_
    refine aq_iconst (v := (-1 : Int32)) (am_dg dkX12_feed (i := 6) rfl) (by decide) ?_
    obtain rfl := Option.some.inj h
    exact aq_ireturn (am_dg dkX12_feed (i := 7) rfl) rfl (Or.inl rfl) rfl
  · rw [if_neg hc3] at h
    refine aq_ifT (t := 14) (am_dg dkX12_feed (i := 5) rfl) rfl (decide_eq_true hc3) ?_
    refine aq_aload_n (am_dg dkX12_feed (i := 8) rfl) rfl ?_
    refine aq_getI (am_dg dkX12_feed (i := 9) rfl) gk_12_281_82 (by decide) ?_
    refine aq_iload_n (am_dg dkX12_feed (i := 10) rfl) rfl ?_
    refine aq_iadd (am_dg dkX12_feed (i := 11) rfl) ?_
    refine aq_sipush (v := (200 : Int32)) (am_dg dkX12_feed (i := 12) rfl) (by decide) ?_
    by_cases hc4 : ((q1.2.1 82 22) + a2) ≤ (200 : Int32)
    · rw [if_pos hc4] at h
      refine aq_icT (t := 29) (am_dg dkX12_feed (i := 13) rfl) rfl (decide_eq_true hc4) ?_
      refine aq_iconst (v := (0 : Int32)) (am_dg dkX12_feed (i := 16) rfl) (by decide) ?_
      refine aq_istore (L1 := [.ref 82, .long a1, .null, .int a2, .int (0 : Int32)]) (am_dg dkX12_feed (i := 17) rfl) rfl ?_
      exact T_X12_feed_82_b32 hR (by omega) _ _ _ _ _ _ h
    · rw [if_neg hc4] at h
      refine aq_icF (t := 29) (am_dg dkX12_feed (i := 13) rfl) rfl (decide_eq_false hc4) ?_
      refine aq_bipush (v := (-2 : Int32)) (am_dg dkX12_feed (i := 14) rfl) (by decide) ?_
      obtain rfl := Option.some.inj h
      exact aq_ireturn (am_dg dkX12_feed (i := 15) rfl) rfl (Or.inl rfl) rfl
set_option maxRecDepth 20000 in
theorem T_X6_addToken_40 {sc : Option (Nat × (Nat → Int32))} {RF : Nat → Nat → Option Nat} {d : Nat} (hR : am_RFok RF) (hd : 0 ≤ d) {a1 : Int32} {a2 : Int32} {s : am_S} {r : am_S} (h : F_X6_addToken_40 a1 a2 s = some r) : am_Q sc d mX6_addToken (0, am_L0 mX6_addToken [.ref 40, .int a1, .int a2], [], am_hp RF s) (.null, am_hp RF r) := by
  unfold F_X6_addToken_40 at h
  show am_Q _ _ _ (0, [.ref 40, .int a1, .int a2], [], _) _
  refine aq_aload_n (am_dg dkX6_addToken (i := 0) rfl) rfl ?_
  refine aq_getI (am_dg dkX6_addToken (i := 1) rfl) gk_6_49_40 (by decide) ?_
  refine aq_aload_n (am_dg dkX6_addToken (i := 2) rfl) rfl ?_
  refine aq_getR (am_dg dkX6_addToken (i := 3) rfl) gk_6_15_40 (rf_40_3 hR) ?_
  refine aq_alen (v := (201 : Int32)) (am_dg dkX6_addToken (i := 4) rfl) sh_42 (by decide) (by decide) ?_
  by_cases hc1 : (201 : Int32) ≤ (s.1 40 2)
  · rw [if_pos hc1] at h
    refine aq_icT (t := 42) (am_dg dkX6_addToken (i := 5) rfl) rfl (decide_eq_true hc1) ?_
    obtain rfl := Option.some.inj h
    exact aq_return (am_dg dkX6_addToken (i := 24) rfl) rfl
  · rw [if_neg hc1] at h
    refine aq_icF (t := 42) (am_dg dkX6_addToken (i := 5) rfl) rfl (decide_eq_false hc1) ?_
    refine aq_aload_n (am_dg dkX6_addToken (i := 6) rfl) rfl ?_
    refine aq_getR (am_dg dkX6_addToken (i := 7) rfl) gk_6_15_40 (rf_40_3 hR) ?_
    refine aq_aload_n (am_dg dkX6_addToken (i := 8) rfl) rfl ?_
    refine aq_getI (am_dg dkX6_addToken (i := 9) rfl) gk_6_49_40 (by decide) ?_
    refine aq_iload_n (am_dg dkX6_addToken (i := 10) rfl) rfl ?_
    obtain ⟨hg2, h⟩ := am_guard h
    refine aq_iast (am_dg dkX6_addToken (i := 11) rfl) sh_42 hg2 ?_
    obtain ⟨s3, hs4, h⟩ := am_bnd h
    rw [Option.some.inj hs4]
    refine aq_aload_n (am_dg dkX6_addToken (i := 12) rfl) rfl ?_
    refine aq_getR (am_dg dkX6_addToken (i := 13) rfl) gk_6_18_40 (rf_40_4 hR) ?_
    refine aq_aload_n (am_dg dkX6_addToken (i := 14) rfl) rfl ?_
    refine aq_getI (am_dg dkX6_addToken (i := 15) rfl) gk_6_49_40 (by decide) ?_
    refine aq_iload_n (am_dg dkX6_addToken (i := 16) rfl) rfl ?_
    obtain ⟨hg5, h⟩ := am_guard h
    refine aq_iast (am_dg dkX6_addToken (i := 17) rfl) sh_43 hg5 ?_
    obtain ⟨s6, hs7, h⟩ := am_bnd h
    rw [Option.some.inj hs7]
    refine aq_aload_n (am_dg dkX6_addToken (i := 18) rfl) rfl ?_
    refine aq_dup (am_dg dkX6_addToken (i := 19) rfl) rfl ?_
    refine aq_getI (am_dg dkX6_addToken (i := 20) rfl) gk_6_49_40 (by decide) ?_
    refine aq_iconst (v := (1 : Int32)) (am_dg dkX6_addToken (i := 21) rfl) (by decide) ?_
    refine aq_iadd (am_dg dkX6_addToken (i := 22) rfl) ?_
    refine aq_putI (am_dg dkX6_addToken (i := 23) rfl) gk_6_49_40 ?_
    obtain ⟨s8, hs9, h⟩ := am_bnd h
    rw [Option.some.inj hs9]
    obtain rfl := Option.some.inj h
    exact aq_return (am_dg dkX6_addToken (i := 24) rfl) rfl
set_option maxRecDepth 20000 in
theorem T_X6_sortOf_b22 {sc : Option (Nat × (Nat → Int32))} {RF : Nat → Nat → Option Nat} {d : Nat} (hR : am_RFok RF) (hd : 0 ≤ d) : ∀ (x0 : Int32) (s : am_S) (r : Int32 × am_S), F_X6_sortOf_b22 x0 s = some r → am_Q sc d mX6_sortOf (22, [.int x0], [], am_hp RF s) (.int r.1, am_hp RF r.2) := by
  intro x0 s r h
  unfold F_X6_sortOf_b22 at h
  refine aq_iload_n (am_dg dkX6_sortOf (i := 13) rfl) rfl ?_
  refine aq_bipush (v := (48 : Int32)) (am_dg dkX6_sortOf (i := 14) rfl) (by decide) ?_
  by_cases hc1 : x0 < (48 : Int32)
  · rw [if_pos hc1] at h
    refine aq_icT (t := 38) (am_dg dkX6_sortOf (i := 15) rfl) rfl (decide_eq_true hc1) ?_
    refine aq_iconst (v := (3 : Int32)) (am_dg dkX6_sortOf (i := 21) rfl) (by decide) ?_
    obtain rfl := Option.some.inj h
    exact aq_ireturn (am_dg dkX6_sortOf (i := 22) rfl) rfl (Or.inl rfl) rfl
  · rw [if_neg hc1] at h
    refine aq_icF (t := 38) (am_dg dkX6_sortOf (i := 15) rfl) rfl (decide_eq_false hc1) ?_
    refine aq_iload_n (am_dg dkX6_sortOf (i := 16) rfl) rfl ?_
    refine aq_bipush (v := (57 : Int32)) (am_dg dkX6_sortOf (i := 17) rfl) (by decide) ?_
    by_cases hc2 : (57 : Int32) < x0
    · rw [if_pos hc2] at h
      refine aq_icT (t := 38) (am_dg dkX6_sortOf (i := 18) rfl) rfl (decide_eq_true hc2) ?_
      refine aq_iconst (v := (3 : Int32)) (am_dg dkX6_sortOf (i := 21) rfl) (by decide) ?_
      obtain rfl := Option.some.inj h
      exact aq_ireturn (am_dg dkX6_sortOf (i := 22) rfl) rfl (Or.inl rfl) rfl
    · rw [if_neg hc2] at h
      refine aq_icF (t := 38) (am_dg dkX6_sortOf (i := 18) rfl) rfl (decide_eq_false hc2) ?_
      refine aq_iconst (v := (2 : Int32)) (am_dg dkX6_sortOf (i := 19) rfl) (by decide) ?_
      refine aq_goto (t := 39) (am_dg dkX6_sortOf (i := 20) rfl) rfl ?_
      obtain rfl := Option.some.inj h
      exact aq_ireturn (am_dg dkX6_sortOf (i := 22) rfl) rfl (Or.inl rfl) rfl
set_option maxRecDepth 20000 in
theorem T_X6_sortOf {sc : Option (Nat × (Nat → Int32))} {RF : Nat → Nat → Option Nat} {d : Nat} (hR : am_RFok RF) (hd : 0 ≤ d) {a0 : Int32} {s : am_S} {r : Int32 × am_S} (h : F_X6_sortOf a0 s = some r) : am_Q sc d mX6_sortOf (0, am_L0 mX6_sortOf [.int a0], [], am_hp RF s) (.int r.1, am_hp RF r.2) := by
  unfold F_X6_sortOf at h
  show am_Q _ _ _ (0, [.int a0], [], _) _
  refine aq_iload_n (am_dg dkX6_sortOf (i := 0) rfl) rfl ?_
  refine aq_bipush (v := (32 : Int32)) (am_dg dkX6_sortOf (i := 1) rfl) (by decide) ?_
  by_cases hc1 : a0 = (32 : Int32)
  · rw [if_pos hc1] at h
    refine aq_icF (t := 8) (am_dg dkX6_sortOf (i := 2) rfl) rfl (decide_eq_false (not_not_intro hc1)) ?_
    refine aq_iconst (v := (0 : Int32)) (am_dg dkX6_sortOf (i := 3) rfl) (by decide) ?_
    obtain rfl := Option.some.inj h
    exact aq_ireturn (am_dg dkX6_sortOf (i := 4) rfl) rfl (Or.inl rfl) rfl
  · rw [if_neg hc1] at h
    refine aq_icT (t := 8) (am_dg dkX6_sortOf (i := 2) rfl) rfl (decide_eq_true hc1) ?_
    refine aq_iload_n (am_dg dkX6_sortOf (i := 5) rfl) rfl ?_
    refine aq_bipush (v := (97 : Int32)) (am_dg dkX6_sortOf (i := 6) rfl) (by decide) ?_
    by_cases hc2 : a0 < (97 : Int32)
    · rw [if_pos hc2] at h
      refine aq_icT (t := 22) (am_dg dkX6_sortOf (i := 7) rfl) rfl (decide_eq_true hc2) ?_
      exact T_X6_sortOf_b22 hR (by omega) _ _ _ h
    · rw [if_neg hc2] at h
      refine aq_icF (t := 22) (am_dg dkX6_sortOf (i := 7) rfl) rfl (decide_eq_false hc2) ?_
      refine aq_iload_n (am_dg dkX6_sortOf (i := 8) rfl) rfl ?_
      refine aq_bipush (v := (122 : Int32)) (am_dg dkX6_sortOf (i := 9) rfl) (by decide) ?_
      by_cases hc3 : (122 : Int32) < a0
      · rw [if_pos hc3] at h
        refine aq_icT (t := 22) (am_dg dkX6_sortOf (i := 10) rfl) rfl (decide_eq_true hc3) ?_
        exact T_X6_sortOf_b22 hR (by omega) _ _ _ h
      · rw [if_neg hc3] at h
        refine aq_icF (t := 22) (am_dg dkX6_sortOf (i := 10) rfl) rfl (decide_eq_false hc3) ?_
        refine aq_iconst (v := (1 : Int32)) (am_dg dkX6_sortOf (i := 11) rfl) (by decide) ?_
        obtain rfl := Option.some.inj h
        exact aq_ireturn (am_dg dkX6_sortOf (i := 12) rfl) rfl (Or.inl rfl) rfl
set_option maxRecDepth 20000 in
theorem T_J0_coder_7d493 {sc : Option (Nat × (Nat → Int32))} {RF : Nat → Nat → Option Nat} {d : Nat} (hR : am_RFok RF) (hd : 0 ≤ d) {i0 : Nat} {bs0 : List Int32} (hi0 : i0 < 18) (hb0 : am_sB[i0]? = some bs0) {s : am_S} {r : Int32 × am_S} (h : F_J0_coder_7d493 bs0 s = some r) : am_Q sc d mJ0_coder_7d493 (0, am_L0 mJ0_coder_7d493 [.ref (1000010 + i0)], [], am_hp RF s) (.int r.1, am_hp RF r.2) := by
  unfold F_J0_coder_7d493 at h
  show am_Q _ _ _ (0, [.ref (1000010 + i0)], [], _) _
  refine aq_gets (am_dg dkJ0_coder_7d493 (i := 0) rfl) gs_13_38 ?_
  by_cases hc1 : (1 : Int32) = (0 : Int32)
  · rw [if_pos hc1] at h
    refine aq_ifT (t := 13) (am_dg dkJ0_coder_7d493 (i := 1) rfl) rfl (decide_eq_true hc1) ?_
    refine aq_iconst (v := (1 : Int32)) (am_dg dkJ0_coder_7d493 (i := 5) rfl) (by decide) ?_
    obtain rfl := Option.some.inj h
    exact aq_ireturn (am_dg dkJ0_coder_7d493 (i := 6) rfl) rfl (Or.inr (Or.inr (Or.inl rfl))) rfl
  · rw [if_neg hc1] at h
    refine aq_ifF (t := 13) (am_dg dkJ0_coder_7d493 (i := 1) rfl) rfl (decide_eq_false hc1) ?_
    refine aq_aload_n (am_dg dkJ0_coder_7d493 (i := 2) rfl) rfl ?_
    refine aq_getSc (am_dg dkJ0_coder_7d493 (i := 3) rfl) fl_13_15 hi0 ?_
    refine aq_goto (t := 14) (am_dg dkJ0_coder_7d493 (i := 4) rfl) rfl ?_
    obtain rfl := Option.some.inj h
    exact aq_ireturn (am_dg dkJ0_coder_7d493 (i := 6) rfl) rfl (Or.inr (Or.inr (Or.inl rfl))) rfl
set_option maxRecDepth 20000 in
theorem T_J0_length_8abf5 {sc : Option (Nat × (Nat → Int32))} {RF : Nat → Nat → Option Nat} {d : Nat} (hR : am_RFok RF) (hd : 1 ≤ d) {i0 : Nat} {bs0 : List Int32} (hi0 : i0 < 18) (hb0 : am_sB[i0]? = some bs0) {s : am_S} {r : Int32 × am_S} (h : F_J0_length_8abf5 bs0 s = some r) : am_Q sc d mJ0_length_8abf5 (0, am_L0 mJ0_length_8abf5 [.ref (1000010 + i0)], [], am_hp RF s) (.int r.1, am_hp RF r.2) := by
  obtain ⟨e, rfl⟩ : ∃ e, d = e + 1 := ⟨d - 1, by omega⟩
  unfold F_J0_length_8abf5 at h
  show am_Q _ _ _ (0, [.ref (1000010 + i0)], [], _) _
  refine aq_aload_n (am_dg dkJ0_length_8abf5 (i := 0) rfl) rfl ?_
  refine aq_getSv (am_dg dkJ0_length_8abf5 (i := 1) rfl) fl_13_9 hi0 ?_
  refine aq_alenS (am_dg dkJ0_length_8abf5 (i := 2) rfl) hb0 ?_
  refine aq_aload_n (am_dg dkJ0_length_8abf5 (i := 3) rfl) rfl ?_
  obtain ⟨q1, hq2, h⟩ := am_bnd h
  refine aq_virt (a := [.ref (1000010 + i0)]) (S1 := [.int (Int32.ofNat bs0.length)]) (v1 := .int q1.1) (S2 := [.int q1.1, .int (Int32.ofNat bs0.length)]) (am_dg dkJ0_length_8abf5 (i := 4) rfl) cv_13_335_13 (am_cls_s hi0) rfl rfl rfl (Nat.le_of_ble_eq_true rfl) (Nat.le_of_ble_eq_true rfl) (T_J0_coder_7d493 hR (by omega) hi0 hb0 hq2) rfl ?_
  refine aq_ishr (am_dg dkJ0_length_8abf5 (i := 5) rfl) ?_
  obtain rfl := Option.some.inj h
  exact aq_ireturn (am_dg dkJ0_length_8abf5 (i := 6) rfl) rfl (Or.inl rfl) rfl
set_option maxRecDepth 20000 in
theorem T_J0_isLatin1_aae02 {sc : Option (Nat × (Nat → Int32))} {RF : Nat → Nat → Option Nat} {d : Nat} (hR : am_RFok RF) (hd : 0 ≤ d) {i0 : Nat} {bs0 : List Int32} (hi0 : i0 < 18) (hb0 : am_sB[i0]? = some bs0) {s : am_S} {r : Int32 × am_S} (h : F_J0_isLatin1_aae02 bs0 s = some r) : am_Q sc d mJ0_isLatin1_aae02 (0, am_L0 mJ0_isLatin1_aae02 [.ref (1000010 + i0)], [], am_hp RF s) (.int r.1, am_hp RF r.2) := by
  unfold F_J0_isLatin1_aae02 at h
  show am_Q _ _ _ (0, [.ref (1000010 + i0)], [], _) _
  refine aq_gets (am_dg dkJ0_isLatin1_aae02 (i := 0) rfl) gs_13_38 ?_
  by_cases hc1 : (1 : Int32) = (0 : Int32)
  · rw [if_pos hc1] at h
    refine aq_ifT (t := 17) (am_dg dkJ0_isLatin1_aae02 (i := 1) rfl) rfl (decide_eq_true hc1) ?_
    refine aq_iconst (v := (0 : Int32)) (am_dg dkJ0_isLatin1_aae02 (i := 7) rfl) (by decide) ?_
    obtain rfl := Option.some.inj h
    exact aq_ireturn (am_dg dkJ0_isLatin1_aae02 (i := 8) rfl) rfl (Or.inr (Or.inl rfl)) rfl
  · rw [if_neg hc1] at h
    refine aq_ifF (t := 17) (am_dg dkJ0_isLatin1_aae02 (i := 1) rfl) rfl (decide_eq_false hc1) ?_
    refine aq_aload_n (am_dg dkJ0_isLatin1_aae02 (i := 2) rfl) rfl ?_
    refine aq_getSc (am_dg dkJ0_isLatin1_aae02 (i := 3) rfl) fl_13_15 hi0 ?_
    by_cases hc2 : (0 : Int32) = (0 : Int32)
    · rw [if_pos hc2] at h
      refine aq_ifF (t := 17) (am_dg dkJ0_isLatin1_aae02 (i := 4) rfl) rfl (decide_eq_false (not_not_intro hc2)) ?_
      refine aq_iconst (v := (1 : Int32)) (am_dg dkJ0_isLatin1_aae02 (i := 5) rfl) (by decide) ?_
      refine aq_goto (t := 18) (am_dg dkJ0_isLatin1_aae02 (i := 6) rfl) rfl ?_
      obtain rfl := Option.some.inj h
      exact aq_ireturn (am_dg dkJ0_isLatin1_aae02 (i := 8) rfl) rfl (Or.inr (Or.inl rfl)) rfl
    · rw [if_neg hc2] at h
      refine aq_ifT (t := 17) (am_dg dkJ0_isLatin1_aae02 (i := 4) rfl) rfl (decide_eq_true hc2) ?_
      refine aq_iconst (v := (0 : Int32)) (am_dg dkJ0_isLatin1_aae02 (i := 7) rfl) (by decide) ?_
      obtain rfl := Option.some.inj h
      exact aq_ireturn (am_dg dkJ0_isLatin1_aae02 (i := 8) rfl) rfl (Or.inr (Or.inl rfl)) rfl
set_option maxRecDepth 20000 in
theorem T_J3_checkIndex_8e157_b9 {sc : Option (Nat × (Nat → Int32))} {RF : Nat → Nat → Option Nat} {d : Nat} (hR : am_RFok RF) (hd : 0 ≤ d) : ∀ (x0 : Int32) (x1 : Int32) (s : am_S) (r : Int32 × am_S), F_J3_checkIndex_8e157_b9 x0 x1 s = some r → am_Q sc d mJ3_checkIndex_8e157 (9, [.int x0, .int x1, .retAddr 0], [], am_hp RF s) (.int r.1, am_hp RF r.2) := by
  intro x0 x1 s r h
  unfold F_J3_checkIndex_8e157_b9 at h
  cases h
set_option maxRecDepth 20000 in
theorem T_J3_checkIndex_8e157 {sc : Option (Nat × (Nat → Int32))} {RF : Nat → Nat → Option Nat} {d : Nat} (hR : am_RFok RF) (hd : 0 ≤ d) {a0 : Int32} {a1 : Int32} {s : am_S} {r : Int32 × am_S} (h : F_J3_checkIndex_8e157 a0 a1 s = some r) : am_Q sc d mJ3_checkIndex_8e157 (0, am_L0 mJ3_checkIndex_8e157 [.int a0, .int a1, .retAddr 0], [], am_hp RF s) (.int r.1, am_hp RF r.2) := by
  unfold F_J3_checkIndex_8e157 at h
  show am_Q _ _ _ (0, [.int a0, .int a1, .retAddr 0], [], _) _
  refine aq_iload_n (am_dg dkJ3_checkIndex_8e157 (i := 0) rfl) rfl ?_
  by_cases hc1 : a0 < (0 : Int32)
  · rw [if_pos hc1] at h
    refine aq_ifT (t := 9) (am_dg dkJ3_checkIndex_8e157 (i := 1) rfl) rfl (decide_eq_true hc1) ?_
    exact T_J3_checkIndex_8e157_b9 hR (by omega) _ _ _ _ h
  · rw [if_neg hc1] at h
    refine aq_ifF (t := 9) (am_dg dkJ3_checkIndex_8e157 (i := 1) rfl) rfl (decide_eq_false hc1) ?_
    refine aq_iload_n (am_dg dkJ3_checkIndex_8e157 (i := 2) rfl) rfl ?_
    refine aq_iload_n (am_dg dkJ3_checkIndex_8e157 (i := 3) rfl) rfl ?_
    by_cases hc2 : a0 < a1
    · rw [if_pos hc2] at h
      refine aq_icT (t := 16) (am_dg dkJ3_checkIndex_8e157 (i := 4) rfl) rfl (decide_eq_true hc2) ?_
      refine aq_iload_n (am_dg dkJ3_checkIndex_8e157 (i := 10) rfl) rfl ?_
      obtain rfl := Option.some.inj h
      exact aq_ireturn (am_dg dkJ3_checkIndex_8e157 (i := 11) rfl) rfl (Or.inl rfl) rfl
    · rw [if_neg hc2] at h
      refine aq_icF (t := 16) (am_dg dkJ3_checkIndex_8e157 (i := 4) rfl) rfl (decide_eq_false hc2) ?_
      exact T_J3_checkIndex_8e157_b9 hR (by omega) _ _ _ _ h
set_option maxRecDepth 20000 in
theorem T_J0_checkIndex_df160 {sc : Option (Nat × (Nat → Int32))} {RF : Nat → Nat → Option Nat} {d : Nat} (hR : am_RFok RF) (hd : 1 ≤ d) {a0 : Int32} {a1 : Int32} {s : am_S} {r : am_S} (h : F_J0_checkIndex_df160 a0 a1 s = some r) : am_Q sc d mJ0_checkIndex_df160 (0, am_L0 mJ0_checkIndex_df160 [.int a0, .int a1], [], am_hp RF s) (.null, am_hp RF r) := by
  obtain ⟨e, rfl⟩ : ∃ e, d = e + 1 := ⟨d - 1, by omega⟩
  unfold F_J0_checkIndex_df160 at h
  show am_Q _ _ _ (0, [.int a0, .int a1], [], _) _
  refine aq_iload_n (am_dg dkJ0_checkIndex_df160 (i := 0) rfl) rfl ?_
  refine aq_iload_n (am_dg dkJ0_checkIndex_df160 (i := 1) rfl) rfl ?_
  refine aq_gets (am_dg dkJ0_checkIndex_df160 (i := 2) rfl) gs_13_1053 ?_
  obtain ⟨q1, hq2, h⟩ := am_bnd h
  refine aq_static (a := [.int a0, .int a1, .retAddr 0]) (S1 := []) (v1 := .int q1.1) (S2 := [.int q1.1]) (am_dg dkJ0_checkIndex_df160 (i := 3) rfl) ct_13_1059 rfl rfl rfl (Nat.le_of_ble_eq_true rfl) (Nat.le_of_ble_eq_true rfl) (T_J3_checkIndex_8e157 hR (by omega) hq2) rfl ?_
  refine aq_pop (am_dg dkJ0_checkIndex_df160 (i := 4) rfl) rfl ?_
  obtain rfl := Option.some.inj h
  exact aq_return (am_dg dkJ0_checkIndex_df160 (i := 5) rfl) rfl
set_option maxRecDepth 20000 in
theorem T_J1_charAt_3b067 {sc : Option (Nat × (Nat → Int32))} {RF : Nat → Nat → Option Nat} {d : Nat} (hR : am_RFok RF) (hd : 2 ≤ d) {i0 : Nat} {bs0 : List Int32} (hi0 : i0 < 18) (hb0 : am_sB[i0]? = some bs0) {a1 : Int32} {s : am_S} {r : Int32 × am_S} (h : F_J1_charAt_3b067 bs0 a1 s = some r) : am_Q sc d mJ1_charAt_3b067 (0, am_L0 mJ1_charAt_3b067 [.ref (1000040 + i0), .int a1], [], am_hp RF s) (.int r.1, am_hp RF r.2) := by
  obtain ⟨e, rfl⟩ : ∃ e, d = e + 1 := ⟨d - 1, by omega⟩
  unfold F_J1_charAt_3b067 at h
  show am_Q _ _ _ (0, [.ref (1000040 + i0), .int a1], [], _) _
  refine aq_iload_n (am_dg dkJ1_charAt_3b067 (i := 0) rfl) rfl ?_
  refine aq_aload_n (am_dg dkJ1_charAt_3b067 (i := 1) rfl) rfl ?_
  refine aq_alenS (am_dg dkJ1_charAt_3b067 (i := 2) rfl) hb0 ?_
  obtain ⟨q1, hq2, h⟩ := am_bnd h
  refine aq_static (a := [.int a1, .int (Int32.ofNat bs0.length)]) (S1 := []) (v1 := .null) (S2 := []) (am_dg dkJ1_charAt_3b067 (i := 3) rfl) ct_14_9 rfl rfl rfl (Nat.le_of_ble_eq_true rfl) (Nat.le_of_ble_eq_true rfl) (T_J0_checkIndex_df160 hR (by omega) hq2) rfl ?_
  refine aq_aload_n (am_dg dkJ1_charAt_3b067 (i := 4) rfl) rfl ?_
  refine aq_iload_n (am_dg dkJ1_charAt_3b067 (i := 5) rfl) rfl ?_
  obtain ⟨hg3, h⟩ := am_guard h
  refine aq_bald (am_dg dkJ1_charAt_3b067 (i := 6) rfl) hb0 hg3 ?_
  refine aq_sipush (v := (255 : Int32)) (am_dg dkJ1_charAt_3b067 (i := 7) rfl) (by decide) ?_
  refine aq_iand (am_dg dkJ1_charAt_3b067 (i := 8) rfl) ?_
  refine aq_i2cN (am_dg dkJ1_charAt_3b067 (i := 9) rfl) ?_
  obtain ⟨hg4, h⟩ := am_guard h
  obtain rfl := Option.some.inj h
  exact aq_ireturn (am_dg dkJ1_charAt_3b067 (i := 10) rfl) rfl (Or.inr (Or.inr (Or.inr (Or.inl rfl)))) hg4
set_option maxRecDepth 20000 in
theorem T_J0_charAt_5068e {sc : Option (Nat × (Nat → Int32))} {RF : Nat → Nat → Option Nat} {d : Nat} (hR : am_RFok RF) (hd : 3 ≤ d) {i0 : Nat} {bs0 : List Int32} (hi0 : i0 < 18) (hb0 : am_sB[i0]? = some bs0) {a1 : Int32} {s : am_S} {r : Int32 × am_S} (h : F_J0_charAt_5068e bs0 a1 s = some r) : am_Q sc d mJ0_charAt_5068e (0, am_L0 mJ0_charAt_5068e [.ref (1000010 + i0), .int a1], [], am_hp RF s) (.int r.1, am_hp RF r.2) := by
  obtain ⟨e, rfl⟩ : ∃ e, d = e + 1 := ⟨d - 1, by omega⟩
  unfold F_J0_charAt_5068e at h
  show am_Q _ _ _ (0, [.ref (1000010 + i0), .int a1], [], _) _
  refine aq_aload_n (am_dg dkJ0_charAt_5068e (i := 0) rfl) rfl ?_
  obtain ⟨q1, hq2, h⟩ := am_bnd h
  refine aq_virt (a := [.ref (1000010 + i0)]) (S1 := []) (v1 := .int q1.1) (S2 := [.int q1.1]) (am_dg dkJ0_charAt_5068e (i := 1) rfl) cv_13_492_13 (am_cls_s hi0) rfl rfl rfl (Nat.le_of_ble_eq_true rfl) (Nat.le_of_ble_eq_true rfl) (T_J0_isLatin1_aae02 hR (by omega) hi0 hb0 hq2) rfl ?_
  by_cases hc3 : q1.1 = (0 : Int32)
  · rw [if_pos hc3] at h
    refine aq_ifT (t := 16) (am_dg dkJ0_charAt_5068e (i := 2) rfl) rfl (decide_eq_true hc3) ?_
    refine aq_aload_n (am_dg dkJ0_charAt_5068e (i := 8) rfl) rfl ?_
    refine aq_getSv (am_dg dkJ0_charAt_5068e (i := 9) rfl) fl_13_9 hi0 ?_
    refine aq_iload_n (am_dg dkJ0_charAt_5068e (i := 10) rfl) rfl ?_
    cases h
  · rw [if_neg hc3] at h
    refine aq_ifF (t := 16) (am_dg dkJ0_charAt_5068e (i := 2) rfl) rfl (decide_eq_false hc3) ?_
    refine aq_aload_n (am_dg dkJ0_charAt_5068e (i := 3) rfl) rfl ?_
    refine aq_getSv (am_dg dkJ0_charAt_5068e (i := 4) rfl) fl_13_9 hi0 ?_
    refine aq_iload_n (am_dg dkJ0_charAt_5068e (i := 5) rfl) rfl ?_
    obtain ⟨q4, hq5, h⟩ := am_bnd h
    refine aq_static (a := [.ref (1000040 + i0), .int a1]) (S1 := []) (v1 := .int q4.1) (S2 := [.int q4.1]) (am_dg dkJ0_charAt_5068e (i := 6) rfl) ct_13_495 rfl rfl rfl (Nat.le_of_ble_eq_true rfl) (Nat.le_of_ble_eq_true rfl) (T_J1_charAt_3b067 hR (by omega) hi0 hb0 hq5) rfl ?_
    obtain ⟨hg6, h⟩ := am_guard h
    obtain rfl := Option.some.inj h
    exact aq_ireturn (am_dg dkJ0_charAt_5068e (i := 7) rfl) rfl (Or.inr (Or.inr (Or.inr (Or.inl rfl)))) hg6
set_option maxRecDepth 20000 in
theorem T_X6_reads_40_b15 {sc : Option (Nat × (Nat → Int32))} {RF : Nat → Nat → Option Nat} {d : Nat} (hR : am_RFok RF) (hd : 4 ≤ d) {i0 : Nat} {bs0 : List Int32} (hi0 : i0 < 18) (hb0 : am_sB[i0]? = some bs0) : ∀ (n : Nat) (x1 : Int32) (x2 : Int32) (x4 : Int32) (s : am_S) (r : Int32 × am_S), F_X6_reads_40_b15 bs0 n x1 x2 x4 s = some r → am_Q sc d mX6_reads (15, [.ref 40, .int x1, .int x2, .ref (1000010 + i0), .int x4], [], am_hp RF s) (.int r.1, am_hp RF r.2) := by
  obtain ⟨e, rfl⟩ : ∃ e, d = e + 1 := ⟨d - 1, by omega⟩
  intro n
  induction n with
  | zero => intro x1 x2 x4 s r h; rw [F_X6_reads_40_b15] at h; cases h
  | succ n ih =>
  intro x1 x2 x4 s r h
  rw [F_X6_reads_40_b15] at h
  refine aq_iload (am_dg dkX6_reads (i := 10) rfl) rfl ?_
  refine aq_iload_n (am_dg dkX6_reads (i := 11) rfl) rfl ?_
  by_cases hc1 : x2 ≤ x4
  · rw [if_pos hc1] at h
    refine aq_icT (t := 47) (am_dg dkX6_reads (i := 12) rfl) rfl (decide_eq_true hc1) ?_
    refine aq_iconst (v := (1 : Int32)) (am_dg dkX6_reads (i := 27) rfl) (by decide) ?_
    obtain rfl := Option.some.inj h
    exact aq_ireturn (am_dg dkX6_reads (i := 28) rfl) rfl (Or.inr (Or.inl rfl)) rfl
  · rw [if_neg hc1] at h
    refine aq_icF (t := 47) (am_dg dkX6_reads (i := 12) rfl) rfl (decide_eq_false hc1) ?_
    refine aq_aload_n (am_dg dkX6_reads (i := 13) rfl) rfl ?_
    refine aq_getR (am_dg dkX6_reads (i := 14) rfl) gk_6_11_40 (rf_40_1 hR) ?_
    refine aq_iload (am_dg dkX6_reads (i := 15) rfl) rfl ?_
    obtain ⟨hg2, h⟩ := am_guard h
    refine aq_iald (am_dg dkX6_reads (i := 16) rfl) sh_41 hg2 ?_
    refine aq_aload_n (am_dg dkX6_reads (i := 17) rfl) rfl ?_
    refine aq_iload (am_dg dkX6_reads (i := 18) rfl) rfl ?_
    refine aq_iload_n (am_dg dkX6_reads (i := 19) rfl) rfl ?_
    refine aq_isub (am_dg dkX6_reads (i := 20) rfl) ?_
    obtain ⟨q3, hq4, h⟩ := am_bnd h
    refine aq_virt (a := [.ref (1000010 + i0), .int (x4 - x1)]) (S1 := [.int (s.1 41 x4.toNatClampNeg)]) (v1 := .int q3.1) (S2 := [.int q3.1, .int (s.1 41 x4.toNatClampNeg)]) (am_dg dkX6_reads (i := 21) rfl) cv_6_131_13 (am_cls_s hi0) rfl rfl rfl (Nat.le_of_ble_eq_true rfl) (Nat.le_of_ble_eq_true rfl) (T_J0_charAt_5068e hR (by omega) hi0 hb0 hq4) rfl ?_
    by_cases hc5 : (s.1 41 x4.toNatClampNeg) = q3.1
    · rw [if_pos hc5] at h
      refine aq_icT (t := 41) (am_dg dkX6_reads (i := 22) rfl) rfl (decide_eq_true hc5) ?_
      refine aq_iinc (v := (1 : Int32)) (L1 := [.ref 40, .int x1, .int x2, .ref (1000010 + i0), .int (x4 + (1 : Int32))]) (am_dg dkX6_reads (i := 25) rfl) rfl (by decide) rfl ?_
      refine aq_goto (t := 15) (am_dg dkX6_reads (i := 26) rfl) rfl ?_
      exact ih _ _ _ _ _ h
    · rw [if_neg hc5] at h
      refine aq_icF (t := 41) (am_dg dkX6_reads (i := 22) rfl) rfl (decide_eq_false hc5) ?_
      refine aq_iconst (v := (0 : Int32)) (am_dg dkX6_reads (i := 23) rfl) (by decide) ?_
      obtain rfl := Option.some.inj h
      exact aq_ireturn (am_dg dkX6_reads (i := 24) rfl) rfl (Or.inr (Or.inl rfl)) rfl
set_option maxRecDepth 20000 in
theorem T_X6_reads_40 {sc : Option (Nat × (Nat → Int32))} {RF : Nat → Nat → Option Nat} {d : Nat} (hR : am_RFok RF) (hd : 4 ≤ d) {i0 : Nat} {bs0 : List Int32} (hi0 : i0 < 18) (hb0 : am_sB[i0]? = some bs0) {a1 : Int32} {a2 : Int32} {s : am_S} {r : Int32 × am_S} (h : F_X6_reads_40 bs0 a1 a2 s = some r) : am_Q sc d mX6_reads (0, am_L0 mX6_reads [.ref 40, .int a1, .int a2, .ref (1000010 + i0)], [], am_hp RF s) (.int r.1, am_hp RF r.2) := by
  obtain ⟨e, rfl⟩ : ∃ e, d = e + 1 := ⟨d - 1, by omega⟩
  unfold F_X6_reads_40 at h
  show am_Q _ _ _ (0, [.ref 40, .int a1, .int a2, .ref (1000010 + i0), .null], [], _) _
  refine aq_iload_n (am_dg dkX6_reads (i := 0) rfl) rfl ?_
  refine aq_iload_n (am_dg dkX6_reads (i := 1) rfl) rfl ?_
  refine aq_isub (am_dg dkX6_reads (i := 2) rfl) ?_
  refine aq_aload_n (am_dg dkX6_reads (i := 3) rfl) rfl ?_
  obtain ⟨q1, hq2, h⟩ := am_bnd h
  refine aq_virt (a := [.ref (1000010 + i0)]) (S1 := [.int (a2 - a1)]) (v1 := .int q1.1) (S2 := [.int q1.1, .int (a2 - a1)]) (am_dg dkX6_reads (i := 4) rfl) cv_6_126_13 (am_cls_s hi0) rfl rfl rfl (Nat.le_of_ble_eq_true rfl) (Nat.le_of_ble_eq_true rfl) (T_J0_length_8abf5 hR (by omega) hi0 hb0 hq2) rfl ?_
  by_cases hc3 : (a2 - a1) = q1.1
  · rw [if_pos hc3] at h
    refine aq_icT (t := 12) (am_dg dkX6_reads (i := 5) rfl) rfl (decide_eq_true hc3) ?_
    refine aq_iload_n (am_dg dkX6_reads (i := 8) rfl) rfl ?_
    refine aq_istore (L1 := [.ref 40, .int a1, .int a2, .ref (1000010 + i0), .int a1]) (am_dg dkX6_reads (i := 9) rfl) rfl ?_
    exact T_X6_reads_40_b15 hR (by omega) hi0 hb0 _ _ _ _ _ _ h
  · rw [if_neg hc3] at h
    refine aq_icF (t := 12) (am_dg dkX6_reads (i := 5) rfl) rfl (decide_eq_false hc3) ?_
    refine aq_iconst (v := (0 : Int32)) (am_dg dkX6_reads (i := 6) rfl) (by decide) ?_
    obtain rfl := Option.some.inj h
    exact aq_ireturn (am_dg dkX6_reads (i := 7) rfl) rfl (Or.inr (Or.inl rfl)) rfl
set_option maxRecDepth 20000 in
theorem T_X6_kindOf_40 {sc : Option (Nat × (Nat → Int32))} {RF : Nat → Nat → Option Nat} {d : Nat} (hR : am_RFok RF) (hd : 5 ≤ d) {a1 : Int32} {a2 : Int32} {s : am_S} {r : Int32 × am_S} (h : F_X6_kindOf_40 a1 a2 s = some r) : am_Q sc d mX6_kindOf (0, am_L0 mX6_kindOf [.ref 40, .int a1, .int a2], [], am_hp RF s) (.int r.1, am_hp RF r.2) := by
  obtain ⟨e, rfl⟩ : ∃ e, d = e + 1 := ⟨d - 1, by omega⟩
  unfold F_X6_kindOf_40 at h
  show am_Q _ _ _ (0, [.ref 40, .int a1, .int a2], [], _) _
  refine aq_aload_n (am_dg dkX6_kindOf (i := 0) rfl) rfl ?_
  refine aq_iload_n (am_dg dkX6_kindOf (i := 1) rfl) rfl ?_
  refine aq_iload_n (am_dg dkX6_kindOf (i := 2) rfl) rfl ?_
  refine aq_ldcS (am_dg dkX6_kindOf (i := 3) rfl) cs_6_104 ?_
  obtain ⟨q1, hq2, h⟩ := am_bnd h
  refine aq_virt (a := [.ref 40, .int a1, .int a2, .ref (1000010 + 0)]) (S1 := []) (v1 := .int q1.1) (S2 := [.int q1.1]) (am_dg dkX6_kindOf (i := 4) rfl) cv_6_88_6 (am_cls_c sh_40 (by decide)) rfl rfl rfl (Nat.le_of_ble_eq_true rfl) (Nat.le_of_ble_eq_true rfl) (T_X6_reads_40 hR (by omega) (i0 := 0) (by decide) am_B0_h hq2) rfl ?_
  by_cases hc3 : q1.1 = (0 : Int32)
  · rw [if_pos hc3] at h
    refine aq_ifT (t := 13) (am_dg dkX6_kindOf (i := 5) rfl) rfl (decide_eq_true hc3) ?_
    refine aq_aload_n (am_dg dkX6_kindOf (i := 8) rfl) rfl ?_
    refine aq_iload_n (am_dg dkX6_kindOf (i := 9) rfl) rfl ?_
    refine aq_iload_n (am_dg dkX6_kindOf (i := 10) rfl) rfl ?_
    refine aq_ldcS (am_dg dkX6_kindOf (i := 11) rfl) cs_6_106 ?_
    obtain ⟨q4, hq5, h⟩ := am_bnd h
    refine aq_virt (a := [.ref 40, .int a1, .int a2, .ref (1000010 + 1)]) (S1 := []) (v1 := .int q4.1) (S2 := [.int q4.1]) (am_dg dkX6_kindOf (i := 12) rfl) cv_6_88_6 (am_cls_c sh_40 (by decide)) rfl rfl rfl (Nat.le_of_ble_eq_true rfl) (Nat.le_of_ble_eq_true rfl) (T_X6_reads_40 hR (by omega) (i0 := 1) (by decide) am_B1_h hq5) rfl ?_
    by_cases hc6 : q4.1 = (0 : Int32)
    · rw [if_pos hc6] at h
      refine aq_ifT (t := 26) (am_dg dkX6_kindOf (i := 13) rfl) rfl (decide_eq_true hc6) ?_
      refine aq_aload_n (am_dg dkX6_kindOf (i := 16) rfl) rfl ?_
      refine aq_iload_n (am_dg dkX6_kindOf (i := 17) rfl) rfl ?_
      refine aq_iload_n (am_dg dkX6_kindOf (i := 18) rfl) rfl ?_
      refine aq_ldcS (am_dg dkX6_kindOf (i := 19) rfl) cs_6_108 ?_
      obtain ⟨q7, hq8, h⟩ := am_bnd h
      refine aq_virt (a := [.ref 40, .int a1, .int a2, .ref (1000010 + 2)]) (S1 := []) (v1 := .int q7.1) (S2 := [.int q7.1]) (am_dg dkX6_kindOf (i := 20) rfl) cv_6_88_6 (am_cls_c sh_40 (by decide)) rfl rfl rfl (Nat.le_of_ble_eq_true rfl) (Nat.le_of_ble_eq_true rfl) (T_X6_reads_40 hR (by omega) (i0 := 2) (by decide) am_B2_h hq8) rfl ?_
      by_cases hc9 : q7.1 = (0 : Int32)
      · rw [if_pos hc9] at h
        refine aq_ifT (t := 39) (am_dg dkX6_kindOf (i := 21) rfl) rfl (decide_eq_true hc9) ?_
        refine aq_aload_n (am_dg dkX6_kindOf (i := 24) rfl) rfl ?_
        refine aq_iload_n (am_dg dkX6_kindOf (i := 25) rfl) rfl ?_
        refine aq_iload_n (am_dg dkX6_kindOf (i := 26) rfl) rfl ?_
        refine aq_ldcS (am_dg dkX6_kindOf (i := 27) rfl) cs_6_110 ?_
        obtain ⟨q10, hq11, h⟩ := am_bnd h
        refine aq_virt (a := [.ref 40, .int a1, .int a2, .ref (1000010 + 3)]) (S1 := []) (v1 := .int q10.1) (S2 := [.int q10.1]) (am_dg dkX6_kindOf (i := 28) rfl) cv_6_88_6 (am_cls_c sh_40 (by decide)) rfl rfl rfl (Nat.le_of_ble_eq_true rfl) (Nat.le_of_ble_eq_true rfl) (T_X6_reads_40 hR (by omega) (i0 := 3) (by decide) am_B3_h hq11) rfl ?_
        by_cases hc12 : q10.1 = (0 : Int32)
        · rw [if_pos hc12] at h
          refine aq_ifT (t := 52) (am_dg dkX6_kindOf (i := 29) rfl) rfl (decide_eq_true hc12) ?_
          refine aq_aload_n (am_dg dkX6_kindOf (i := 32) rfl) rfl ?_
          refine aq_iload_n (am_dg dkX6_kindOf (i := 33) rfl) rfl ?_
          refine aq_iload_n (am_dg dkX6_kindOf (i := 34) rfl) rfl ?_
          refine aq_ldcS (am_dg dkX6_kindOf (i := 35) rfl) cs_6_112 ?_
          obtain ⟨q13, hq14, h⟩ := am_bnd h
          refine aq_virt (a := [.ref 40, .int a1, .int a2, .ref (1000010 + 4)]) (S1 := []) (v1 := .int q13.1) (S2 := [.int q13.1]) (am_dg dkX6_kindOf (i := 36) rfl) cv_6_88_6 (am_cls_c sh_40 (by decide)) rfl rfl rfl (Nat.le_of_ble_eq_true rfl) (Nat.le_of_ble_eq_true rfl) (T_X6_reads_40 hR (by omega) (i0 := 4) (by decide) am_B4_h hq14) rfl ?_
          by_cases hc15 : q13.1 = (0 : Int32)
          · rw [if_pos hc15] at h
            refine aq_ifT (t := 65) (am_dg dkX6_kindOf (i := 37) rfl) rfl (decide_eq_true hc15) ?_
            refine aq_aload_n (am_dg dkX6_kindOf (i := 40) rfl) rfl ?_
            refine aq_iload_n (am_dg dkX6_kindOf (i := 41) rfl) rfl ?_
            refine aq_iload_n (am_dg dkX6_kindOf (i := 42) rfl) rfl ?_
            refine aq_ldcS (am_dg dkX6_kindOf (i := 43) rfl) cs_6_114 ?_
            obtain ⟨q16, hq17, h⟩ := am_bnd h
            refine aq_virt (a := [.ref 40, .int a1, .int a2, .ref (1000010 + 5)]) (S1 := []) (v1 := .int q16.1) (S2 := [.int q16.1]) (am_dg dkX6_kindOf (i := 44) rfl) cv_6_88_6 (am_cls_c sh_40 (by decide)) rfl rfl rfl (Nat.le_of_ble_eq_true rfl) (Nat.le_of_ble_eq_true rfl) (T_X6_reads_40 hR (by omega) (i0 := 5) (by decide) am_B5_h hq17) rfl ?_
            by_cases hc18 : q16.1 = (0 : Int32)
            · rw [if_pos hc18] at h
              refine aq_ifT (t := 78) (am_dg dkX6_kindOf (i := 45) rfl) rfl (decide_eq_true hc18) ?_
              refine aq_iconst (v := (-1 : Int32)) (am_dg dkX6_kindOf (i := 48) rfl) (by decide) ?_
              obtain rfl := Option.some.inj h
              exact aq_ireturn (am_dg dkX6_kindOf (i := 49) rfl) rfl (Or.inl rfl) rfl
            · rw [if_neg hc18] at h
              refine aq_ifF (t := 78) (am_dg dkX6_kindOf (i := 45) rfl) rfl (decide_eq_false hc18) ?_
              refine aq_iconst (v := (5 : Int32)) (am_dg dkX6_kindOf (i := 46) rfl) (by decide) ?_
              obtain rfl := Option.some.inj h
              exact aq_ireturn (am_dg dkX6_kindOf (i := 47) rfl) rfl (Or.inl rfl) rfl
          · rw [if_neg hc15] at h
            refine aq_ifF (t := 65) (am_dg dkX6_kindOf (i := 37) rfl) rfl (decide_eq_false hc15) ?_
            refine aq_iconst (v := (4 : Int32)) (am_dg dkX6_kindOf (i := 38) rfl) (by decide) ?_
            obtain rfl := Option.some.inj h
            exact aq_ireturn (am_dg dkX6_kindOf (i := 39) rfl) rfl (Or.inl rfl) rfl
        · rw [if_neg hc12] at h
          refine aq_ifF (t := 52) (am_dg dkX6_kindOf (i := 29) rfl) rfl (decide_eq_false hc12) ?_
          refine aq_iconst (v := (3 : Int32)) (am_dg dkX6_kindOf (i := 30) rfl) (by decide) ?_
          obtain rfl := Option.some.inj h
          exact aq_ireturn (am_dg dkX6_kindOf (i := 31) rfl) rfl (Or.inl rfl) rfl
      · rw [if_neg hc9] at h
        refine aq_ifF (t := 39) (am_dg dkX6_kindOf (i := 21) rfl) rfl (decide_eq_false hc9) ?_
        refine aq_iconst (v := (2 : Int32)) (am_dg dkX6_kindOf (i := 22) rfl) (by decide) ?_
        obtain rfl := Option.some.inj h
        exact aq_ireturn (am_dg dkX6_kindOf (i := 23) rfl) rfl (Or.inl rfl) rfl
    · rw [if_neg hc6] at h
      refine aq_ifF (t := 26) (am_dg dkX6_kindOf (i := 13) rfl) rfl (decide_eq_false hc6) ?_
      refine aq_iconst (v := (1 : Int32)) (am_dg dkX6_kindOf (i := 14) rfl) (by decide) ?_
      obtain rfl := Option.some.inj h
      exact aq_ireturn (am_dg dkX6_kindOf (i := 15) rfl) rfl (Or.inl rfl) rfl
  · rw [if_neg hc3] at h
    refine aq_ifF (t := 13) (am_dg dkX6_kindOf (i := 5) rfl) rfl (decide_eq_false hc3) ?_
    refine aq_iconst (v := (0 : Int32)) (am_dg dkX6_kindOf (i := 6) rfl) (by decide) ?_
    obtain rfl := Option.some.inj h
    exact aq_ireturn (am_dg dkX6_kindOf (i := 7) rfl) rfl (Or.inl rfl) rfl
set_option maxRecDepth 20000 in
theorem T_X6_factOf_40 {sc : Option (Nat × (Nat → Int32))} {RF : Nat → Nat → Option Nat} {d : Nat} (hR : am_RFok RF) (hd : 5 ≤ d) {a1 : Int32} {a2 : Int32} {s : am_S} {r : Int32 × am_S} (h : F_X6_factOf_40 a1 a2 s = some r) : am_Q sc d mX6_factOf (0, am_L0 mX6_factOf [.ref 40, .int a1, .int a2], [], am_hp RF s) (.int r.1, am_hp RF r.2) := by
  obtain ⟨e, rfl⟩ : ∃ e, d = e + 1 := ⟨d - 1, by omega⟩
  unfold F_X6_factOf_40 at h
  show am_Q _ _ _ (0, [.ref 40, .int a1, .int a2], [], _) _
  refine aq_aload_n (am_dg dkX6_factOf (i := 0) rfl) rfl ?_
  refine aq_iload_n (am_dg dkX6_factOf (i := 1) rfl) rfl ?_
  refine aq_iload_n (am_dg dkX6_factOf (i := 2) rfl) rfl ?_
  refine aq_ldcS (am_dg dkX6_factOf (i := 3) rfl) cs_6_116 ?_
  obtain ⟨q1, hq2, h⟩ := am_bnd h
  refine aq_virt (a := [.ref 40, .int a1, .int a2, .ref (1000010 + 6)]) (S1 := []) (v1 := .int q1.1) (S2 := [.int q1.1]) (am_dg dkX6_factOf (i := 4) rfl) cv_6_88_6 (am_cls_c sh_40 (by decide)) rfl rfl rfl (Nat.le_of_ble_eq_true rfl) (Nat.le_of_ble_eq_true rfl) (T_X6_reads_40 hR (by omega) (i0 := 6) (by decide) am_B6_h hq2) rfl ?_
  by_cases hc3 : q1.1 = (0 : Int32)
  · rw [if_pos hc3] at h
    refine aq_ifT (t := 13) (am_dg dkX6_factOf (i := 5) rfl) rfl (decide_eq_true hc3) ?_
    refine aq_aload_n (am_dg dkX6_factOf (i := 8) rfl) rfl ?_
    refine aq_iload_n (am_dg dkX6_factOf (i := 9) rfl) rfl ?_
    refine aq_iload_n (am_dg dkX6_factOf (i := 10) rfl) rfl ?_
    refine aq_ldcS (am_dg dkX6_factOf (i := 11) rfl) cs_6_118 ?_
    obtain ⟨q4, hq5, h⟩ := am_bnd h
    refine aq_virt (a := [.ref 40, .int a1, .int a2, .ref (1000010 + 7)]) (S1 := []) (v1 := .int q4.1) (S2 := [.int q4.1]) (am_dg dkX6_factOf (i := 12) rfl) cv_6_88_6 (am_cls_c sh_40 (by decide)) rfl rfl rfl (Nat.le_of_ble_eq_true rfl) (Nat.le_of_ble_eq_true rfl) (T_X6_reads_40 hR (by omega) (i0 := 7) (by decide) am_B7_h hq5) rfl ?_
    by_cases hc6 : q4.1 = (0 : Int32)
    · rw [if_pos hc6] at h
      refine aq_ifT (t := 26) (am_dg dkX6_factOf (i := 13) rfl) rfl (decide_eq_true hc6) ?_
      refine aq_aload_n (am_dg dkX6_factOf (i := 16) rfl) rfl ?_
      refine aq_iload_n (am_dg dkX6_factOf (i := 17) rfl) rfl ?_
      refine aq_iload_n (am_dg dkX6_factOf (i := 18) rfl) rfl ?_
      refine aq_ldcS (am_dg dkX6_factOf (i := 19) rfl) cs_6_120 ?_
      obtain ⟨q7, hq8, h⟩ := am_bnd h
      refine aq_virt (a := [.ref 40, .int a1, .int a2, .ref (1000010 + 8)]) (S1 := []) (v1 := .int q7.1) (S2 := [.int q7.1]) (am_dg dkX6_factOf (i := 20) rfl) cv_6_88_6 (am_cls_c sh_40 (by decide)) rfl rfl rfl (Nat.le_of_ble_eq_true rfl) (Nat.le_of_ble_eq_true rfl) (T_X6_reads_40 hR (by omega) (i0 := 8) (by decide) am_B8_h hq8) rfl ?_
      by_cases hc9 : q7.1 = (0 : Int32)
      · rw [if_pos hc9] at h
        refine aq_ifT (t := 39) (am_dg dkX6_factOf (i := 21) rfl) rfl (decide_eq_true hc9) ?_
        refine aq_aload_n (am_dg dkX6_factOf (i := 24) rfl) rfl ?_
        refine aq_iload_n (am_dg dkX6_factOf (i := 25) rfl) rfl ?_
        refine aq_iload_n (am_dg dkX6_factOf (i := 26) rfl) rfl ?_
        refine aq_ldcS (am_dg dkX6_factOf (i := 27) rfl) cs_6_122 ?_
        obtain ⟨q10, hq11, h⟩ := am_bnd h
        refine aq_virt (a := [.ref 40, .int a1, .int a2, .ref (1000010 + 9)]) (S1 := []) (v1 := .int q10.1) (S2 := [.int q10.1]) (am_dg dkX6_factOf (i := 28) rfl) cv_6_88_6 (am_cls_c sh_40 (by decide)) rfl rfl rfl (Nat.le_of_ble_eq_true rfl) (Nat.le_of_ble_eq_true rfl) (T_X6_reads_40 hR (by omega) (i0 := 9) (by decide) am_B9_h hq11) rfl ?_
        by_cases hc12 : q10.1 = (0 : Int32)
        · rw [if_pos hc12] at h
          refine aq_ifT (t := 52) (am_dg dkX6_factOf (i := 29) rfl) rfl (decide_eq_true hc12) ?_
          refine aq_aload_n (am_dg dkX6_factOf (i := 32) rfl) rfl ?_
          refine aq_iload_n (am_dg dkX6_factOf (i := 33) rfl) rfl ?_
          refine aq_iload_n (am_dg dkX6_factOf (i := 34) rfl) rfl ?_
          refine aq_ldcS (am_dg dkX6_factOf (i := 35) rfl) cs_6_124 ?_
          obtain ⟨q13, hq14, h⟩ := am_bnd h
          refine aq_virt (a := [.ref 40, .int a1, .int a2, .ref (1000010 + 10)]) (S1 := []) (v1 := .int q13.1) (S2 := [.int q13.1]) (am_dg dkX6_factOf (i := 36) rfl) cv_6_88_6 (am_cls_c sh_40 (by decide)) rfl rfl rfl (Nat.le_of_ble_eq_true rfl) (Nat.le_of_ble_eq_true rfl) (T_X6_reads_40 hR (by omega) (i0 := 10) (by decide) am_B10_h hq14) rfl ?_
          by_cases hc15 : q13.1 = (0 : Int32)
          · rw [if_pos hc15] at h
            refine aq_ifT (t := 65) (am_dg dkX6_factOf (i := 37) rfl) rfl (decide_eq_true hc15) ?_
            refine aq_iconst (v := (-1 : Int32)) (am_dg dkX6_factOf (i := 40) rfl) (by decide) ?_
            obtain rfl := Option.some.inj h
            exact aq_ireturn (am_dg dkX6_factOf (i := 41) rfl) rfl (Or.inl rfl) rfl
          · rw [if_neg hc15] at h
            refine aq_ifF (t := 65) (am_dg dkX6_factOf (i := 37) rfl) rfl (decide_eq_false hc15) ?_
            refine aq_iconst (v := (4 : Int32)) (am_dg dkX6_factOf (i := 38) rfl) (by decide) ?_
            obtain rfl := Option.some.inj h
            exact aq_ireturn (am_dg dkX6_factOf (i := 39) rfl) rfl (Or.inl rfl) rfl
        · rw [if_neg hc12] at h
          refine aq_ifF (t := 52) (am_dg dkX6_factOf (i := 29) rfl) rfl (decide_eq_false hc12) ?_
          refine aq_iconst (v := (3 : Int32)) (am_dg dkX6_factOf (i := 30) rfl) (by decide) ?_
          obtain rfl := Option.some.inj h
          exact aq_ireturn (am_dg dkX6_factOf (i := 31) rfl) rfl (Or.inl rfl) rfl
      · rw [if_neg hc9] at h
        refine aq_ifF (t := 39) (am_dg dkX6_factOf (i := 21) rfl) rfl (decide_eq_false hc9) ?_
        refine aq_iconst (v := (2 : Int32)) (am_dg dkX6_factOf (i := 22) rfl) (by decide) ?_
        obtain rfl := Option.some.inj h
        exact aq_ireturn (am_dg dkX6_factOf (i := 23) rfl) rfl (Or.inl rfl) rfl
    · rw [if_neg hc6] at h
      refine aq_ifF (t := 26) (am_dg dkX6_factOf (i := 13) rfl) rfl (decide_eq_false hc6) ?_
      refine aq_iconst (v := (1 : Int32)) (am_dg dkX6_factOf (i := 14) rfl) (by decide) ?_
      obtain rfl := Option.some.inj h
      exact aq_ireturn (am_dg dkX6_factOf (i := 15) rfl) rfl (Or.inl rfl) rfl
  · rw [if_neg hc3] at h
    refine aq_ifF (t := 13) (am_dg dkX6_factOf (i := 5) rfl) rfl (decide_eq_false hc3) ?_
    refine aq_iconst (v := (0 : Int32)) (am_dg dkX6_factOf (i := 6) rfl) (by decide) ?_
    obtain rfl := Option.some.inj h
    exact aq_ireturn (am_dg dkX6_factOf (i := 7) rfl) rfl (Or.inl rfl) rfl
set_option maxRecDepth 20000 in
theorem T_X6_wordOf_40 {sc : Option (Nat × (Nat → Int32))} {RF : Nat → Nat → Option Nat} {d : Nat} (hR : am_RFok RF) (hd : 6 ≤ d) {a1 : Int32} {a2 : Int32} {s : am_S} {r : Int32 × am_S} (h : F_X6_wordOf_40 a1 a2 s = some r) : am_Q sc d mX6_wordOf (0, am_L0 mX6_wordOf [.ref 40, .int a1, .int a2], [], am_hp RF s) (.int r.1, am_hp RF r.2) := by
  obtain ⟨e, rfl⟩ : ∃ e, d = e + 1 := ⟨d - 1, by omega⟩
  unfold F_X6_wordOf_40 at h
  show am_Q _ _ _ (0, [.ref 40, .int a1, .int a2, .null, .null], [], _) _
  refine aq_aload_n (am_dg dkX6_wordOf (i := 0) rfl) rfl ?_
  refine aq_iload_n (am_dg dkX6_wordOf (i := 1) rfl) rfl ?_
  refine aq_iload_n (am_dg dkX6_wordOf (i := 2) rfl) rfl ?_
  obtain ⟨q1, hq2, h⟩ := am_bnd h
  refine aq_virt (a := [.ref 40, .int a1, .int a2]) (S1 := []) (v1 := .int q1.1) (S2 := [.int q1.1]) (am_dg dkX6_wordOf (i := 3) rfl) cv_6_80_6 (am_cls_c sh_40 (by decide)) rfl rfl rfl (Nat.le_of_ble_eq_true rfl) (Nat.le_of_ble_eq_true rfl) (T_X6_kindOf_40 hR (by omega) hq2) rfl ?_
  refine aq_istore_n (L1 := [.ref 40, .int a1, .int a2, .int q1.1, .null]) (am_dg dkX6_wordOf (i := 4) rfl) rfl ?_
  refine aq_iload_n (am_dg dkX6_wordOf (i := 5) rfl) rfl ?_
  by_cases hc3 : q1.1 < (0 : Int32)
  · rw [if_pos hc3] at h
    refine aq_ifT (t := 17) (am_dg dkX6_wordOf (i := 6) rfl) rfl (decide_eq_true hc3) ?_
    refine aq_aload_n (am_dg dkX6_wordOf (i := 11) rfl) rfl ?_
    refine aq_iload_n (am_dg dkX6_wordOf (i := 12) rfl) rfl ?_
    refine aq_iload_n (am_dg dkX6_wordOf (i := 13) rfl) rfl ?_
    obtain ⟨q4, hq5, h⟩ := am_bnd h
    refine aq_virt (a := [.ref 40, .int a1, .int a2]) (S1 := []) (v1 := .int q4.1) (S2 := [.int q4.1]) (am_dg dkX6_wordOf (i := 14) rfl) cv_6_83_6 (am_cls_c sh_40 (by decide)) rfl rfl rfl (Nat.le_of_ble_eq_true rfl) (Nat.le_of_ble_eq_true rfl) (T_X6_factOf_40 hR (by omega) hq5) rfl ?_
    refine aq_istore (L1 := [.ref 40, .int a1, .int a2, .int q1.1, .int q4.1]) (am_dg dkX6_wordOf (i := 15) rfl) rfl ?_
    refine aq_iload (am_dg dkX6_wordOf (i := 16) rfl) rfl ?_
    by_cases hc6 : q4.1 < (0 : Int32)
    · rw [if_pos hc6] at h
      refine aq_ifT (t := 37) (am_dg dkX6_wordOf (i := 17) rfl) rfl (decide_eq_true hc6) ?_
      refine aq_aload_n (am_dg dkX6_wordOf (i := 22) rfl) rfl ?_
      refine aq_iload_n (am_dg dkX6_wordOf (i := 23) rfl) rfl ?_
      refine aq_iload_n (am_dg dkX6_wordOf (i := 24) rfl) rfl ?_
      refine aq_ldcS (am_dg dkX6_wordOf (i := 25) rfl) cs_6_86 ?_
      obtain ⟨q7, hq8, h⟩ := am_bnd h
      refine aq_virt (a := [.ref 40, .int a1, .int a2, .ref (1000010 + 11)]) (S1 := []) (v1 := .int q7.1) (S2 := [.int q7.1]) (am_dg dkX6_wordOf (i := 26) rfl) cv_6_88_6 (am_cls_c sh_40 (by decide)) rfl rfl rfl (Nat.le_of_ble_eq_true rfl) (Nat.le_of_ble_eq_true rfl) (T_X6_reads_40 hR (by omega) (i0 := 11) (by decide) am_B11_h hq8) rfl ?_
      by_cases hc9 : q7.1 = (0 : Int32)
      · rw [if_pos hc9] at h
        refine aq_ifT (t := 52) (am_dg dkX6_wordOf (i := 27) rfl) rfl (decide_eq_true hc9) ?_
        refine aq_aload_n (am_dg dkX6_wordOf (i := 30) rfl) rfl ?_
        refine aq_iload_n (am_dg dkX6_wordOf (i := 31) rfl) rfl ?_
        refine aq_iload_n (am_dg dkX6_wordOf (i := 32) rfl) rfl ?_
        refine aq_ldcS (am_dg dkX6_wordOf (i := 33) rfl) cs_6_92 ?_
        obtain ⟨q10, hq11, h⟩ := am_bnd h
        refine aq_virt (a := [.ref 40, .int a1, .int a2, .ref (1000010 + 12)]) (S1 := []) (v1 := .int q10.1) (S2 := [.int q10.1]) (am_dg dkX6_wordOf (i := 34) rfl) cv_6_88_6 (am_cls_c sh_40 (by decide)) rfl rfl rfl (Nat.le_of_ble_eq_true rfl) (Nat.le_of_ble_eq_true rfl) (T_X6_reads_40 hR (by omega) (i0 := 12) (by decide) am_B12_h hq11) rfl ?_
        by_cases hc12 : q10.1 = (0 : Int32)
        · rw [if_pos hc12] at h
          refine aq_ifT (t := 67) (am_dg dkX6_wordOf (i := 35) rfl) rfl (decide_eq_true hc12) ?_
          refine aq_aload_n (am_dg dkX6_wordOf (i := 38) rfl) rfl ?_
          refine aq_iload_n (am_dg dkX6_wordOf (i := 39) rfl) rfl ?_
          refine aq_iload_n (am_dg dkX6_wordOf (i := 40) rfl) rfl ?_
          refine aq_ldcS (am_dg dkX6_wordOf (i := 41) rfl) cs_6_94 ?_
          obtain ⟨q13, hq14, h⟩ := am_bnd h
          refine aq_virt (a := [.ref 40, .int a1, .int a2, .ref (1000010 + 13)]) (S1 := []) (v1 := .int q13.1) (S2 := [.int q13.1]) (am_dg dkX6_wordOf (i := 42) rfl) cv_6_88_6 (am_cls_c sh_40 (by decide)) rfl rfl rfl (Nat.le_of_ble_eq_true rfl) (Nat.le_of_ble_eq_true rfl) (T_X6_reads_40 hR (by omega) (i0 := 13) (by decide) am_B13_h hq14) rfl ?_
          by_cases hc15 : q13.1 = (0 : Int32)
          · rw [if_pos hc15] at h
            refine aq_ifT (t := 82) (am_dg dkX6_wordOf (i := 43) rfl) rfl (decide_eq_true hc15) ?_
            refine aq_aload_n (am_dg dkX6_wordOf (i := 46) rfl) rfl ?_
            refine aq_iload_n (am_dg dkX6_wordOf (i := 47) rfl) rfl ?_
            refine aq_iload_n (am_dg dkX6_wordOf (i := 48) rfl) rfl ?_
            refine aq_ldcS (am_dg dkX6_wordOf (i := 49) rfl) cs_6_96 ?_
            obtain ⟨q16, hq17, h⟩ := am_bnd h
            refine aq_virt (a := [.ref 40, .int a1, .int a2, .ref (1000010 + 14)]) (S1 := []) (v1 := .int q16.1) (S2 := [.int q16.1]) (am_dg dkX6_wordOf (i := 50) rfl) cv_6_88_6 (am_cls_c sh_40 (by decide)) rfl rfl rfl (Nat.le_of_ble_eq_true rfl) (Nat.le_of_ble_eq_true rfl) (T_X6_reads_40 hR (by omega) (i0 := 14) (by decide) am_B14_h hq17) rfl ?_
            by_cases hc18 : q16.1 = (0 : Int32)
            · rw [if_pos hc18] at h
              refine aq_ifT (t := 97) (am_dg dkX6_wordOf (i := 51) rfl) rfl (decide_eq_true hc18) ?_
              refine aq_aload_n (am_dg dkX6_wordOf (i := 54) rfl) rfl ?_
              refine aq_iload_n (am_dg dkX6_wordOf (i := 55) rfl) rfl ?_
              refine aq_iload_n (am_dg dkX6_wordOf (i := 56) rfl) rfl ?_
              refine aq_ldcS (am_dg dkX6_wordOf (i := 57) rfl) cs_6_98 ?_
              obtain ⟨q19, hq20, h⟩ := am_bnd h
              refine aq_virt (a := [.ref 40, .int a1, .int a2, .ref (1000010 + 15)]) (S1 := []) (v1 := .int q19.1) (S2 := [.int q19.1]) (am_dg dkX6_wordOf (i := 58) rfl) cv_6_88_6 (am_cls_c sh_40 (by decide)) rfl rfl rfl (Nat.le_of_ble_eq_true rfl) (Nat.le_of_ble_eq_true rfl) (T_X6_reads_40 hR (by omega) (i0 := 15) (by decide) am_B15_h hq20) rfl ?_
              by_cases hc21 : q19.1 = (0 : Int32)
              · rw [if_pos hc21] at h
                refine aq_ifT (t := 112) (am_dg dkX6_wordOf (i := 59) rfl) rfl (decide_eq_true hc21) ?_
                refine aq_aload_n (am_dg dkX6_wordOf (i := 62) rfl) rfl ?_
                refine aq_iload_n (am_dg dkX6_wordOf (i := 63) rfl) rfl ?_
                refine aq_iload_n (am_dg dkX6_wordOf (i := 64) rfl) rfl ?_
                refine aq_ldcS (am_dg dkX6_wordOf (i := 65) rfl) cs_6_100 ?_
                obtain ⟨q22, hq23, h⟩ := am_bnd h
                refine aq_virt (a := [.ref 40, .int a1, .int a2, .ref (1000010 + 16)]) (S1 := []) (v1 := .int q22.1) (S2 := [.int q22.1]) (am_dg dkX6_wordOf (i := 66) rfl) cv_6_88_6 (am_cls_c sh_40 (by decide)) rfl rfl rfl (Nat.le_of_ble_eq_true rfl) (Nat.le_of_ble_eq_true rfl) (T_X6_reads_40 hR (by omega) (i0 := 16) (by decide) am_B16_h hq23) rfl ?_
                by_cases hc24 : q22.1 = (0 : Int32)
                · rw [if_pos hc24] at h
                  refine aq_ifT (t := 127) (am_dg dkX6_wordOf (i := 67) rfl) rfl (decide_eq_true hc24) ?_
                  refine aq_aload_n (am_dg dkX6_wordOf (i := 70) rfl) rfl ?_
                  refine aq_iload_n (am_dg dkX6_wordOf (i := 71) rfl) rfl ?_
                  refine aq_iload_n (am_dg dkX6_wordOf (i := 72) rfl) rfl ?_
                  refine aq_ldcS (am_dg dkX6_wordOf (i := 73) rfl) cs_6_102 ?_
                  obtain ⟨q25, hq26, h⟩ := am_bnd h
                  refine aq_virt (a := [.ref 40, .int a1, .int a2, .ref (1000010 + 17)]) (S1 := []) (v1 := .int q25.1) (S2 := [.int q25.1]) (am_dg dkX6_wordOf (i := 74) rfl) cv_6_88_6 (am_cls_c sh_40 (by decide)) rfl rfl rfl (Nat.le_of_ble_eq_true rfl) (Nat.le_of_ble_eq_true rfl) (T_X6_reads_40 hR (by omega) (i0 := 17) (by decide) am_B17_h hq26) rfl ?_
                  by_cases hc27 : q25.1 = (0 : Int32)
                  · rw [if_pos hc27] at h
                    refine aq_ifT (t := 142) (am_dg dkX6_wordOf (i := 75) rfl) rfl (decide_eq_true hc27) ?_
                    refine aq_sipush (v := (10055 : Int32)) (am_dg dkX6_wordOf (i := 78) rfl) (by decide) ?_
                    obtain rfl := Option.some.inj h
                    exact aq_ireturn (am_dg dkX6_wordOf (i := 79) rfl) rfl (Or.inl rfl) rfl
                  · rw [if_neg hc27] at h
                    refine aq_ifF (t := 142) (am_dg dkX6_wordOf (i := 75) rfl) rfl (decide_eq_false hc27) ?_
                    refine aq_sipush (v := (10022 : Int32)) (am_dg dkX6_wordOf (i := 76) rfl) (by decide) ?_
                    obtain rfl := Option.some.inj h
                    exact aq_ireturn (am_dg dkX6_wordOf (i := 77) rfl) rfl (Or.inl rfl) rfl
                · rw [if_neg hc24] at h
                  refine aq_ifF (t := 127) (am_dg dkX6_wordOf (i := 67) rfl) rfl (decide_eq_false hc24) ?_
                  refine aq_sipush (v := (10021 : Int32)) (am_dg dkX6_wordOf (i := 68) rfl) (by decide) ?_
                  obtain rfl := Option.some.inj h
                  exact aq_ireturn (am_dg dkX6_wordOf (i := 69) rfl) rfl (Or.inl rfl) rfl
              · rw [if_neg hc21] at h
                refine aq_ifF (t := 112) (am_dg dkX6_wordOf (i := 59) rfl) rfl (decide_eq_false hc21) ?_
                refine aq_sipush (v := (10020 : Int32)) (am_dg dkX6_wordOf (i := 60) rfl) (by decide) ?_
                obtain rfl := Option.some.inj h
                exact aq_ireturn (am_dg dkX6_wordOf (i := 61) rfl) rfl (Or.inl rfl) rfl
            · rw [if_neg hc18] at h
              refine aq_ifF (t := 97) (am_dg dkX6_wordOf (i := 51) rfl) rfl (decide_eq_false hc18) ?_
              refine aq_sipush (v := (10050 : Int32)) (am_dg dkX6_wordOf (i := 52) rfl) (by decide) ?_
              obtain rfl := Option.some.inj h
              exact aq_ireturn (am_dg dkX6_wordOf (i := 53) rfl) rfl (Or.inl rfl) rfl
          · rw [if_neg hc15] at h
            refine aq_ifF (t := 82) (am_dg dkX6_wordOf (i := 43) rfl) rfl (decide_eq_false hc15) ?_
            refine aq_sipush (v := (10042 : Int32)) (am_dg dkX6_wordOf (i := 44) rfl) (by decide) ?_
            obtain rfl := Option.some.inj h
            exact aq_ireturn (am_dg dkX6_wordOf (i := 45) rfl) rfl (Or.inl rfl) rfl
        · rw [if_neg hc12] at h
          refine aq_ifF (t := 67) (am_dg dkX6_wordOf (i := 35) rfl) rfl (decide_eq_false hc12) ?_
          refine aq_sipush (v := (10041 : Int32)) (am_dg dkX6_wordOf (i := 36) rfl) (by decide) ?_
          obtain rfl := Option.some.inj h
          exact aq_ireturn (am_dg dkX6_wordOf (i := 37) rfl) rfl (Or.inl rfl) rfl
      · rw [if_neg hc9] at h
        refine aq_ifF (t := 52) (am_dg dkX6_wordOf (i := 27) rfl) rfl (decide_eq_false hc9) ?_
        refine aq_sipush (v := (10040 : Int32)) (am_dg dkX6_wordOf (i := 28) rfl) (by decide) ?_
        obtain rfl := Option.some.inj h
        exact aq_ireturn (am_dg dkX6_wordOf (i := 29) rfl) rfl (Or.inl rfl) rfl
    · rw [if_neg hc6] at h
      refine aq_ifF (t := 37) (am_dg dkX6_wordOf (i := 17) rfl) rfl (decide_eq_false hc6) ?_
      refine aq_sipush (v := (10000 : Int32)) (am_dg dkX6_wordOf (i := 18) rfl) (by decide) ?_
      refine aq_iload (am_dg dkX6_wordOf (i := 19) rfl) rfl ?_
      refine aq_iadd (am_dg dkX6_wordOf (i := 20) rfl) ?_
      obtain rfl := Option.some.inj h
      exact aq_ireturn (am_dg dkX6_wordOf (i := 21) rfl) rfl (Or.inl rfl) rfl
  · rw [if_neg hc3] at h
    refine aq_ifF (t := 17) (am_dg dkX6_wordOf (i := 6) rfl) rfl (decide_eq_false hc3) ?_
    refine aq_sipush (v := (10030 : Int32)) (am_dg dkX6_wordOf (i := 7) rfl) (by decide) ?_
    refine aq_iload_n (am_dg dkX6_wordOf (i := 8) rfl) rfl ?_
    refine aq_iadd (am_dg dkX6_wordOf (i := 9) rfl) ?_
    obtain rfl := Option.some.inj h
    exact aq_ireturn (am_dg dkX6_wordOf (i := 10) rfl) rfl (Or.inl rfl) rfl
set_option maxRecDepth 20000 in
theorem T_X6_numberOf_40_b16 {sc : Option (Nat × (Nat → Int32))} {RF : Nat → Nat → Option Nat} {d : Nat} (hR : am_RFok RF) (hd : 0 ≤ d) : ∀ (n : Nat) (x2 : Int32) (x3 : Int32) (x4 : Int32) (w1 : Value) (s : am_S) (r : Int32 × am_S), F_X6_numberOf_40_b16 n x2 x3 x4 s = some r → am_Q sc d mX6_numberOf (16, [.ref 40, w1, .int x2, .int x3, .int x4], [], am_hp RF s) (.int r.1, am_hp RF r.2) := by
  intro n
  induction n with
  | zero => intro x2 x3 x4 w1 s r h; rw [F_X6_numberOf_40_b16] at h; cases h
  | succ n ih =>
  intro x2 x3 x4 w1 s r h
  rw [F_X6_numberOf_40_b16] at h
  refine aq_iload (am_dg dkX6_numberOf (i := 11) rfl) rfl ?_
  refine aq_iload_n (am_dg dkX6_numberOf (i := 12) rfl) rfl ?_
  by_cases hc1 : x2 ≤ x4
  · rw [if_pos hc1] at h
    refine aq_icT (t := 44) (am_dg dkX6_numberOf (i := 13) rfl) rfl (decide_eq_true hc1) ?_
    refine aq_iload_n (am_dg dkX6_numberOf (i := 27) rfl) rfl ?_
    obtain rfl := Option.some.inj h
    exact aq_ireturn (am_dg dkX6_numberOf (i := 28) rfl) rfl (Or.inl rfl) rfl
  · rw [if_neg hc1] at h
    refine aq_icF (t := 44) (am_dg dkX6_numberOf (i := 13) rfl) rfl (decide_eq_false hc1) ?_
    refine aq_iload_n (am_dg dkX6_numberOf (i := 14) rfl) rfl ?_
    refine aq_bipush (v := (10 : Int32)) (am_dg dkX6_numberOf (i := 15) rfl) (by decide) ?_
    refine aq_imul (am_dg dkX6_numberOf (i := 16) rfl) ?_
    refine aq_aload_n (am_dg dkX6_numberOf (i := 17) rfl) rfl ?_
    refine aq_getR (am_dg dkX6_numberOf (i := 18) rfl) gk_6_11_40 (rf_40_1 hR) ?_
    refine aq_iload (am_dg dkX6_numberOf (i := 19) rfl) rfl ?_
    obtain ⟨hg2, h⟩ := am_guard h
    refine aq_iald (am_dg dkX6_numberOf (i := 20) rfl) sh_41 hg2 ?_
    refine aq_iadd (am_dg dkX6_numberOf (i := 21) rfl) ?_
    refine aq_bipush (v := (48 : Int32)) (am_dg dkX6_numberOf (i := 22) rfl) (by decide) ?_
    refine aq_isub (am_dg dkX6_numberOf (i := 23) rfl) ?_
    obtain ⟨v3, hv4, h⟩ := am_bnd h
    rw [Option.some.inj hv4]
    refine aq_istore_n (L1 := [.ref 40, w1, .int x2, .int v3, .int x4]) (am_dg dkX6_numberOf (i := 24) rfl) rfl ?_
    refine aq_iinc (v := (1 : Int32)) (L1 := [.ref 40, w1, .int x2, .int v3, .int (x4 + (1 : Int32))]) (am_dg dkX6_numberOf (i := 25) rfl) rfl (by decide) rfl ?_
    refine aq_goto (t := 16) (am_dg dkX6_numberOf (i := 26) rfl) rfl ?_
    exact ih _ _ _ _ _ _ h
set_option maxRecDepth 20000 in
theorem T_X6_numberOf_40 {sc : Option (Nat × (Nat → Int32))} {RF : Nat → Nat → Option Nat} {d : Nat} (hR : am_RFok RF) (hd : 0 ≤ d) {a1 : Int32} {a2 : Int32} {s : am_S} {r : Int32 × am_S} (h : F_X6_numberOf_40 a1 a2 s = some r) : am_Q sc d mX6_numberOf (0, am_L0 mX6_numberOf [.ref 40, .int a1, .int a2], [], am_hp RF s) (.int r.1, am_hp RF r.2) := by
  unfold F_X6_numberOf_40 at h
  show am_Q _ _ _ (0, [.ref 40, .int a1, .int a2, .null, .null], [], _) _
  refine aq_iload_n (am_dg dkX6_numberOf (i := 0) rfl) rfl ?_
  refine aq_iload_n (am_dg dkX6_numberOf (i := 1) rfl) rfl ?_
  refine aq_isub (am_dg dkX6_numberOf (i := 2) rfl) ?_
  refine aq_iconst (v := (4 : Int32)) (am_dg dkX6_numberOf (i := 3) rfl) (by decide) ?_
  by_cases hc1 : (a2 - a1) ≤ (4 : Int32)
  · rw [if_pos hc1] at h
    refine aq_icT (t := 11) (am_dg dkX6_numberOf (i := 4) rfl) rfl (decide_eq_true hc1) ?_
    refine aq_iconst (v := (0 : Int32)) (am_dg dkX6_numberOf (i := 7) rfl) (by decide) ?_
    refine aq_istore_n (L1 := [.ref 40, .int a1, .int a2, .int (0 : Int32), .null]) (am_dg dkX6_numberOf (i := 8) rfl) rfl ?_
    refine aq_iload_n (am_dg dkX6_numberOf (i := 9) rfl) rfl ?_
    refine aq_istore (L1 := [.ref 40, .int a1, .int a2, .int (0 : Int32), .int a1]) (am_dg dkX6_numberOf (i := 10) rfl) rfl ?_
    exact T_X6_numberOf_40_b16 hR (by omega) _ _ _ _ _ _ _ h
  · rw [if_neg hc1] at h
    refine aq_icF (t := 11) (am_dg dkX6_numberOf (i := 4) rfl) rfl (decide_eq_false hc1) ?_
    refine aq_sipush (v := (10055 : Int32)) (am_dg dkX6_numberOf (i := 5) rfl) (by decide) ?_
    obtain rfl := Option.some.inj h
    exact aq_ireturn (am_dg dkX6_numberOf (i := 6) rfl) rfl (Or.inl rfl) rfl
set_option maxRecDepth 20000 in
theorem T_X6_signOf {sc : Option (Nat × (Nat → Int32))} {RF : Nat → Nat → Option Nat} {d : Nat} (hR : am_RFok RF) (hd : 0 ≤ d) {a0 : Int32} {s : am_S} {r : Int32 × am_S} (h : F_X6_signOf a0 s = some r) : am_Q sc d mX6_signOf (0, am_L0 mX6_signOf [.int a0], [], am_hp RF s) (.int r.1, am_hp RF r.2) := by
  unfold F_X6_signOf at h
  show am_Q _ _ _ (0, [.int a0], [], _) _
  refine aq_iload_n (am_dg dkX6_signOf (i := 0) rfl) rfl ?_
  by_cases hc1 : a0 = (40 : Int32)
  · rw [if_pos hc1] at h
    refine aq_lsw (t := 76) (am_dg dkX6_signOf (i := 1) rfl) (by rw [hc1]; rfl) ?_
    refine aq_sipush (v := (10052 : Int32)) (am_dg dkX6_signOf (i := 10) rfl) (by decide) ?_
    obtain rfl := Option.some.inj h
    exact aq_ireturn (am_dg dkX6_signOf (i := 11) rfl) rfl (Or.inl rfl) rfl
  rw [if_neg hc1] at h
  by_cases hc2 : a0 = (41 : Int32)
  · rw [if_pos hc2] at h
    refine aq_lsw (t := 80) (am_dg dkX6_signOf (i := 1) rfl) (by rw [hc2]; rfl) ?_
    refine aq_sipush (v := (10053 : Int32)) (am_dg dkX6_signOf (i := 12) rfl) (by decide) ?_
    obtain rfl := Option.some.inj h
    exact aq_ireturn (am_dg dkX6_signOf (i := 13) rfl) rfl (Or.inl rfl) rfl
  rw [if_neg hc2] at h
  by_cases hc3 : a0 = (59 : Int32)
  · rw [if_pos hc3] at h
    refine aq_lsw (t := 72) (am_dg dkX6_signOf (i := 1) rfl) (by rw [hc3]; rfl) ?_
    refine aq_sipush (v := (10051 : Int32)) (am_dg dkX6_signOf (i := 8) rfl) (by decide) ?_
    obtain rfl := Option.some.inj h
    exact aq_ireturn (am_dg dkX6_signOf (i := 9) rfl) rfl (Or.inl rfl) rfl
  rw [if_neg hc3] at h
  by_cases hc4 : a0 = (60 : Int32)
  · rw [if_pos hc4] at h
    refine aq_lsw (t := 60) (am_dg dkX6_signOf (i := 1) rfl) (by rw [hc4]; rfl) ?_
    refine aq_sipush (v := (10010 : Int32)) (am_dg dkX6_signOf (i := 2) rfl) (by decide) ?_
    obtain rfl := Option.some.inj h
    exact aq_ireturn (am_dg dkX6_signOf (i := 3) rfl) rfl (Or.inl rfl) rfl
  rw [if_neg hc4] at h
  by_cases hc5 : a0 = (61 : Int32)
  · rw [if_pos hc5] at h
    refine aq_lsw (t := 64) (am_dg dkX6_signOf (i := 1) rfl) (by rw [hc5]; rfl) ?_
    refine aq_sipush (v := (10011 : Int32)) (am_dg dkX6_signOf (i := 4) rfl) (by decide) ?_
    obtain rfl := Option.some.inj h
    exact aq_ireturn (am_dg dkX6_signOf (i := 5) rfl) rfl (Or.inl rfl) rfl
  rw [if_neg hc5] at h
  by_cases hc6 : a0 = (62 : Int32)
  · rw [if_pos hc6] at h
    refine aq_lsw (t := 68) (am_dg dkX6_signOf (i := 1) rfl) (by rw [hc6]; rfl) ?_
    refine aq_sipush (v := (10012 : Int32)) (am_dg dkX6_signOf (i := 6) rfl) (by decide) ?_
    obtain rfl := Option.some.inj h
    exact aq_ireturn (am_dg dkX6_signOf (i := 7) rfl) rfl (Or.inl rfl) rfl
  rw [if_neg hc6] at h
  refine aq_lsw (t := 84) (am_dg dkX6_signOf (i := 1) rfl) (am_lsw_d rfl (by simp only [lv_osw hc1 (show ((40 : Int32)).toInt = 40 by decide), lv_osw hc2 (show ((41 : Int32)).toInt = 41 by decide), lv_osw hc3 (show ((59 : Int32)).toInt = 59 by decide), lv_osw hc4 (show ((60 : Int32)).toInt = 60 by decide), lv_osw hc5 (show ((61 : Int32)).toInt = 61 by decide), lv_osw hc6 (show ((62 : Int32)).toInt = 62 by decide)]; rfl)) ?_
  refine aq_sipush (v := (10055 : Int32)) (am_dg dkX6_signOf (i := 14) rfl) (by decide) ?_
  obtain rfl := Option.some.inj h
  exact aq_ireturn (am_dg dkX6_signOf (i := 15) rfl) rfl (Or.inl rfl) rfl
set_option maxRecDepth 20000 in
theorem T_X6_tokenFrom_40_b31 {sc : Option (Nat × (Nat → Int32))} {RF : Nat → Nat → Option Nat} {d : Nat} (hR : am_RFok RF) (hd : 7 ≤ d) : ∀ (x1 : Int32) (x2 : Int32) (x3 : Int32) (s : am_S) (r : Int32 × am_S), F_X6_tokenFrom_40_b31 x1 x2 x3 s = some r → am_Q sc d mX6_tokenFrom (31, [.ref 40, .int x1, .int x2, .int x3], [], am_hp RF s) (.int r.1, am_hp RF r.2) := by
  obtain ⟨e, rfl⟩ : ∃ e, d = e + 1 := ⟨d - 1, by omega⟩
  intro x1 x2 x3 s r h
  unfold F_X6_tokenFrom_40_b31 at h
  refine aq_iload_n (am_dg dkX6_tokenFrom (i := 17) rfl) rfl ?_
  by_cases hc1 : x2 = (1 : Int32)
  · rw [if_pos hc1] at h
    refine aq_lsw (t := 60) (am_dg dkX6_tokenFrom (i := 18) rfl) (by rw [hc1]; rfl) ?_
    refine aq_aload_n (am_dg dkX6_tokenFrom (i := 19) rfl) rfl ?_
    refine aq_iload_n (am_dg dkX6_tokenFrom (i := 20) rfl) rfl ?_
    refine aq_iload_n (am_dg dkX6_tokenFrom (i := 21) rfl) rfl ?_
    obtain ⟨q2, hq3, h⟩ := am_bnd h
    refine aq_virt (a := [.ref 40, .int x1, .int x3]) (S1 := []) (v1 := .int q2.1) (S2 := [.int q2.1]) (am_dg dkX6_tokenFrom (i := 22) rfl) cv_6_71_6 (am_cls_c sh_40 (by decide)) rfl rfl rfl (Nat.le_of_ble_eq_true rfl) (Nat.le_of_ble_eq_true rfl) (T_X6_wordOf_40 hR (by omega) hq3) rfl ?_
    obtain rfl := Option.some.inj h
    exact aq_ireturn (am_dg dkX6_tokenFrom (i := 23) rfl) rfl (Or.inl rfl) rfl
  rw [if_neg hc1] at h
  by_cases hc4 : x2 = (2 : Int32)
  · rw [if_pos hc4] at h
    refine aq_lsw (t := 67) (am_dg dkX6_tokenFrom (i := 18) rfl) (by rw [hc4]; rfl) ?_
    refine aq_aload_n (am_dg dkX6_tokenFrom (i := 24) rfl) rfl ?_
    refine aq_iload_n (am_dg dkX6_tokenFrom (i := 25) rfl) rfl ?_
    refine aq_iload_n (am_dg dkX6_tokenFrom (i := 26) rfl) rfl ?_
    obtain ⟨q5, hq6, h⟩ := am_bnd h
    refine aq_virt (a := [.ref 40, .int x1, .int x3]) (S1 := []) (v1 := .int q5.1) (S2 := [.int q5.1]) (am_dg dkX6_tokenFrom (i := 27) rfl) cv_6_74_6 (am_cls_c sh_40 (by decide)) rfl rfl rfl (Nat.le_of_ble_eq_true rfl) (Nat.le_of_ble_eq_true rfl) (T_X6_numberOf_40 hR (by omega) hq6) rfl ?_
    obtain rfl := Option.some.inj h
    exact aq_ireturn (am_dg dkX6_tokenFrom (i := 28) rfl) rfl (Or.inl rfl) rfl
  rw [if_neg hc4] at h
  refine aq_lsw (t := 74) (am_dg dkX6_tokenFrom (i := 18) rfl) (am_lsw_d rfl (by simp only [lv_osw hc1 (show ((1 : Int32)).toInt = 1 by decide), lv_osw hc4 (show ((2 : Int32)).toInt = 2 by decide)]; rfl)) ?_
  refine aq_aload_n (am_dg dkX6_tokenFrom (i := 29) rfl) rfl ?_
  refine aq_getR (am_dg dkX6_tokenFrom (i := 30) rfl) gk_6_11_40 (rf_40_1 hR) ?_
  refine aq_iload_n (am_dg dkX6_tokenFrom (i := 31) rfl) rfl ?_
  obtain ⟨hg7, h⟩ := am_guard h
  refine aq_iald (am_dg dkX6_tokenFrom (i := 32) rfl) sh_41 hg7 ?_
  obtain ⟨q8, hq9, h⟩ := am_bnd h
  refine aq_static (a := [.int (s.1 41 x1.toNatClampNeg)]) (S1 := []) (v1 := .int q8.1) (S2 := [.int q8.1]) (am_dg dkX6_tokenFrom (i := 33) rfl) ct_6_77 rfl rfl rfl (Nat.le_of_ble_eq_true rfl) (Nat.le_of_ble_eq_true rfl) (T_X6_signOf hR (by omega) hq9) rfl ?_
  obtain rfl := Option.some.inj h
  exact aq_ireturn (am_dg dkX6_tokenFrom (i := 34) rfl) rfl (Or.inl rfl) rfl
set_option maxRecDepth 20000 in
theorem T_X6_tokenFrom_40_b4 {sc : Option (Nat × (Nat → Int32))} {RF : Nat → Nat → Option Nat} {d : Nat} (hR : am_RFok RF) (hd : 7 ≤ d) : ∀ (n : Nat) (x1 : Int32) (x2 : Int32) (x3 : Int32) (s : am_S) (r : Int32 × am_S), F_X6_tokenFrom_40_b4 n x1 x2 x3 s = some r → am_Q sc d mX6_tokenFrom (4, [.ref 40, .int x1, .int x2, .int x3], [], am_hp RF s) (.int r.1, am_hp RF r.2) := by
  obtain ⟨e, rfl⟩ : ∃ e, d = e + 1 := ⟨d - 1, by omega⟩
  intro n
  induction n with
  | zero => intro x1 x2 x3 s r h; rw [F_X6_tokenFrom_40_b4] at h; cases h
  | succ n ih =>
  intro x1 x2 x3 s r h
  rw [F_X6_tokenFrom_40_b4] at h
  refine aq_iload_n (am_dg dkX6_tokenFrom (i := 4) rfl) rfl ?_
  refine aq_aload_n (am_dg dkX6_tokenFrom (i := 5) rfl) rfl ?_
  refine aq_getI (am_dg dkX6_tokenFrom (i := 6) rfl) gk_6_28_40 (by decide) ?_
  by_cases hc1 : (s.1 40 0) ≤ x3
  · rw [if_pos hc1] at h
    refine aq_icT (t := 31) (am_dg dkX6_tokenFrom (i := 7) rfl) rfl (decide_eq_true hc1) ?_
    exact T_X6_tokenFrom_40_b31 hR (by omega) _ _ _ _ _ h
  · rw [if_neg hc1] at h
    refine aq_icF (t := 31) (am_dg dkX6_tokenFrom (i := 7) rfl) rfl (decide_eq_false hc1) ?_
    refine aq_aload_n (am_dg dkX6_tokenFrom (i := 8) rfl) rfl ?_
    refine aq_getR (am_dg dkX6_tokenFrom (i := 9) rfl) gk_6_11_40 (rf_40_1 hR) ?_
    refine aq_iload_n (am_dg dkX6_tokenFrom (i := 10) rfl) rfl ?_
    obtain ⟨hg2, h⟩ := am_guard h
    refine aq_iald (am_dg dkX6_tokenFrom (i := 11) rfl) sh_41 hg2 ?_
    obtain ⟨q3, hq4, h⟩ := am_bnd h
    refine aq_static (a := [.int (s.1 41 x3.toNatClampNeg)]) (S1 := []) (v1 := .int q3.1) (S2 := [.int q3.1]) (am_dg dkX6_tokenFrom (i := 12) rfl) ct_6_59 rfl rfl rfl (Nat.le_of_ble_eq_true rfl) (Nat.le_of_ble_eq_true rfl) (T_X6_sortOf hR (by omega) hq4) rfl ?_
    refine aq_iload_n (am_dg dkX6_tokenFrom (i := 13) rfl) rfl ?_
    by_cases hc5 : q3.1 = x2
    · rw [if_pos hc5] at h
      refine aq_icF (t := 31) (am_dg dkX6_tokenFrom (i := 14) rfl) rfl (decide_eq_false (not_not_intro hc5)) ?_
      refine aq_iinc (v := (1 : Int32)) (L1 := [.ref 40, .int x1, .int x2, .int (x3 + (1 : Int32))]) (am_dg dkX6_tokenFrom (i := 15) rfl) rfl (by decide) rfl ?_
      refine aq_goto (t := 4) (am_dg dkX6_tokenFrom (i := 16) rfl) rfl ?_
      exact ih _ _ _ _ _ h
    · rw [if_neg hc5] at h
      refine aq_icT (t := 31) (am_dg dkX6_tokenFrom (i := 14) rfl) rfl (decide_eq_true hc5) ?_
      exact T_X6_tokenFrom_40_b31 hR (by omega) _ _ _ _ _ h
set_option maxRecDepth 20000 in
theorem T_X6_tokenFrom_40 {sc : Option (Nat × (Nat → Int32))} {RF : Nat → Nat → Option Nat} {d : Nat} (hR : am_RFok RF) (hd : 7 ≤ d) {a1 : Int32} {a2 : Int32} {s : am_S} {r : Int32 × am_S} (h : F_X6_tokenFrom_40 a1 a2 s = some r) : am_Q sc d mX6_tokenFrom (0, am_L0 mX6_tokenFrom [.ref 40, .int a1, .int a2], [], am_hp RF s) (.int r.1, am_hp RF r.2) := by
  obtain ⟨e, rfl⟩ : ∃ e, d = e + 1 := ⟨d - 1, by omega⟩
  unfold F_X6_tokenFrom_40 at h
  show am_Q _ _ _ (0, [.ref 40, .int a1, .int a2, .null], [], _) _
  refine aq_iload_n (am_dg dkX6_tokenFrom (i := 0) rfl) rfl ?_
  refine aq_iconst (v := (1 : Int32)) (am_dg dkX6_tokenFrom (i := 1) rfl) (by decide) ?_
  refine aq_iadd (am_dg dkX6_tokenFrom (i := 2) rfl) ?_
  refine aq_istore_n (L1 := [.ref 40, .int a1, .int a2, .int (a1 + (1 : Int32))]) (am_dg dkX6_tokenFrom (i := 3) rfl) rfl ?_
  exact T_X6_tokenFrom_40_b4 hR (by omega) _ _ _ _ _ _ h
set_option maxRecDepth 20000 in
theorem T_X6_splitUp_40_b74 {sc : Option (Nat × (Nat → Int32))} {RF : Nat → Nat → Option Nat} {d : Nat} (hR : am_RFok RF) (hd : 8 ≤ d) {k7 : Int32 → am_S → Option (am_S)} (hk7 : ∀ (x1 : Int32) (w2 : Value) (w3 : Value) (s2 : am_S) (r2 : am_S), k7 x1 s2 = some r2 → am_Q sc d mX6_splitUp (7, [.ref 40, .int x1, w2, w3], [], am_hp RF s2) (.null, am_hp RF r2)) : ∀ (x1 : Int32) (w2 : Value) (w3 : Value) (s : am_S) (r : am_S), F_X6_splitUp_40_b74 k7 x1 s = some r → am_Q sc d mX6_splitUp (74, [.ref 40, .int x1, w2, w3], [], am_hp RF s) (.null, am_hp RF r) := by
  obtain ⟨e, rfl⟩ : ∃ e, d = e + 1 := ⟨d - 1, by omega⟩
  intro x1 w2 w3 s r h
  unfold F_X6_splitUp_40_b74 at h
  refine aq_iinc (v := (1 : Int32)) (L1 := [.ref 40, .int (x1 + (1 : Int32)), w2, w3]) (am_dg dkX6_splitUp (i := 44) rfl) rfl (by decide) rfl ?_
  refine aq_goto (t := 7) (am_dg dkX6_splitUp (i := 45) rfl) rfl ?_
  exact hk7 _ _ _ _ _ h
set_option maxRecDepth 20000 in
theorem T_X6_splitUp_40_b54 {sc : Option (Nat × (Nat → Int32))} {RF : Nat → Nat → Option Nat} {d : Nat} (hR : am_RFok RF) (hd : 8 ≤ d) {k7 : Int32 → am_S → Option (am_S)} (hk7 : ∀ (x1 : Int32) (w2 : Value) (w3 : Value) (s2 : am_S) (r2 : am_S), k7 x1 s2 = some r2 → am_Q sc d mX6_splitUp (7, [.ref 40, .int x1, w2, w3], [], am_hp RF s2) (.null, am_hp RF r2)) : ∀ (x1 : Int32) (x2 : Int32) (y0 : Int32) (w3 : Value) (s : am_S) (r : am_S), F_X6_splitUp_40_b54 k7 x1 x2 y0 s = some r → am_Q sc d mX6_splitUp (54, [.ref 40, .int x1, .int x2, w3], [.int y0], am_hp RF s) (.null, am_hp RF r) := by
  obtain ⟨e, rfl⟩ : ∃ e, d = e + 1 := ⟨d - 1, by omega⟩
  intro x1 x2 y0 w3 s r h
  unfold F_X6_splitUp_40_b54 at h
  refine aq_istore_n (L1 := [.ref 40, .int x1, .int x2, .int y0]) (am_dg dkX6_splitUp (i := 32) rfl) rfl ?_
  refine aq_iload_n (am_dg dkX6_splitUp (i := 33) rfl) rfl ?_
  by_cases hc1 : x2 = (0 : Int32)
  · rw [if_pos hc1] at h
    refine aq_ifT (t := 74) (am_dg dkX6_splitUp (i := 34) rfl) rfl (decide_eq_true hc1) ?_
    exact T_X6_splitUp_40_b74 hR (by omega) hk7 _ _ _ _ _ h
  · rw [if_neg hc1] at h
    refine aq_ifF (t := 74) (am_dg dkX6_splitUp (i := 34) rfl) rfl (decide_eq_false hc1) ?_
    refine aq_iload_n (am_dg dkX6_splitUp (i := 35) rfl) rfl ?_
    by_cases hc2 : y0 = (0 : Int32)
    · rw [if_pos hc2] at h
      refine aq_ifF (t := 74) (am_dg dkX6_splitUp (i := 36) rfl) rfl (decide_eq_false (not_not_intro hc2)) ?_
      refine aq_aload_n (am_dg dkX6_splitUp (i := 37) rfl) rfl ?_
      refine aq_aload_n (am_dg dkX6_splitUp (i := 38) rfl) rfl ?_
      refine aq_iload_n (am_dg dkX6_splitUp (i := 39) rfl) rfl ?_
      refine aq_iload_n (am_dg dkX6_splitUp (i := 40) rfl) rfl ?_
      obtain ⟨q3, hq4, h⟩ := am_bnd h
      refine aq_virt (a := [.ref 40, .int x1, .int x2]) (S1 := [.ref 40]) (v1 := .int q3.1) (S2 := [.int q3.1, .ref 40]) (am_dg dkX6_splitUp (i := 41) rfl) cv_6_63_6 (am_cls_c sh_40 (by decide)) rfl rfl rfl (Nat.le_of_ble_eq_true rfl) (Nat.le_of_ble_eq_true rfl) (T_X6_tokenFrom_40 hR (by omega) hq4) rfl ?_
      refine aq_iload_n (am_dg dkX6_splitUp (i := 42) rfl) rfl ?_
      obtain ⟨q5, hq6, h⟩ := am_bnd h
      refine aq_virt (a := [.ref 40, .int q3.1, .int x1]) (S1 := []) (v1 := .null) (S2 := []) (am_dg dkX6_splitUp (i := 43) rfl) cv_6_67_6 (am_cls_c sh_40 (by decide)) rfl rfl rfl (Nat.le_of_ble_eq_true rfl) (Nat.le_of_ble_eq_true rfl) (T_X6_addToken_40 hR (by omega) hq6) rfl ?_
      exact T_X6_splitUp_40_b74 hR (by omega) hk7 _ _ _ _ _ h
    · rw [if_neg hc2] at h
      refine aq_ifT (t := 74) (am_dg dkX6_splitUp (i := 36) rfl) rfl (decide_eq_true hc2) ?_
      exact T_X6_splitUp_40_b74 hR (by omega) hk7 _ _ _ _ _ h
set_option maxRecDepth 20000 in
theorem T_X6_splitUp_40_b53 {sc : Option (Nat × (Nat → Int32))} {RF : Nat → Nat → Option Nat} {d : Nat} (hR : am_RFok RF) (hd : 8 ≤ d) {k7 : Int32 → am_S → Option (am_S)} (hk7 : ∀ (x1 : Int32) (w2 : Value) (w3 : Value) (s2 : am_S) (r2 : am_S), k7 x1 s2 = some r2 → am_Q sc d mX6_splitUp (7, [.ref 40, .int x1, w2, w3], [], am_hp RF s2) (.null, am_hp RF r2)) : ∀ (x1 : Int32) (x2 : Int32) (w3 : Value) (s : am_S) (r : am_S), F_X6_splitUp_40_b53 k7 x1 x2 s = some r → am_Q sc d mX6_splitUp (53, [.ref 40, .int x1, .int x2, w3], [], am_hp RF s) (.null, am_hp RF r) := by
  obtain ⟨e, rfl⟩ : ∃ e, d = e + 1 := ⟨d - 1, by omega⟩
  intro x1 x2 w3 s r h
  unfold F_X6_splitUp_40_b53 at h
  refine aq_iconst (v := (0 : Int32)) (am_dg dkX6_splitUp (i := 31) rfl) (by decide) ?_
  exact T_X6_splitUp_40_b54 hR (by omega) hk7 _ _ _ _ _ _ h
set_option maxRecDepth 20000 in
theorem T_X6_splitUp_40_b7 {sc : Option (Nat × (Nat → Int32))} {RF : Nat → Nat → Option Nat} {d : Nat} (hR : am_RFok RF) (hd : 8 ≤ d) : ∀ (n : Nat) (x1 : Int32) (w2 : Value) (w3 : Value) (s : am_S) (r : am_S), F_X6_splitUp_40_b7 n x1 s = some r → am_Q sc d mX6_splitUp (7, [.ref 40, .int x1, w2, w3], [], am_hp RF s) (.null, am_hp RF r) := by
  obtain ⟨e, rfl⟩ : ∃ e, d = e + 1 := ⟨d - 1, by omega⟩
  intro n
  induction n with
  | zero => intro x1 w2 w3 s r h; rw [F_X6_splitUp_40_b7] at h; cases h
  | succ n ih =>
  intro x1 w2 w3 s r h
  rw [F_X6_splitUp_40_b7] at h
  refine aq_iload_n (am_dg dkX6_splitUp (i := 5) rfl) rfl ?_
  refine aq_aload_n (am_dg dkX6_splitUp (i := 6) rfl) rfl ?_
  refine aq_getI (am_dg dkX6_splitUp (i := 7) rfl) gk_6_28_40 (by decide) ?_
  by_cases hc1 : (s.1 40 0) ≤ x1
  · rw [if_pos hc1] at h
    refine aq_icT (t := 80) (am_dg dkX6_splitUp (i := 8) rfl) rfl (decide_eq_true hc1) ?_
    refine aq_aload_n (am_dg dkX6_splitUp (i := 46) rfl) rfl ?_
    refine aq_sipush (v := (10054 : Int32)) (am_dg dkX6_splitUp (i := 47) rfl) (by decide) ?_
    refine aq_aload_n (am_dg dkX6_splitUp (i := 48) rfl) rfl ?_
    refine aq_getI (am_dg dkX6_splitUp (i := 49) rfl) gk_6_28_40 (by decide) ?_
    obtain ⟨q2, hq3, h⟩ := am_bnd h
    refine aq_virt (a := [.ref 40, .int (10054 : Int32), .int (s.1 40 0)]) (S1 := []) (v1 := .null) (S2 := []) (am_dg dkX6_splitUp (i := 50) rfl) cv_6_67_6 (am_cls_c sh_40 (by decide)) rfl rfl rfl (Nat.le_of_ble_eq_true rfl) (Nat.le_of_ble_eq_true rfl) (T_X6_addToken_40 hR (by omega) hq3) rfl ?_
    obtain rfl := Option.some.inj h
    exact aq_return (am_dg dkX6_splitUp (i := 51) rfl) rfl
  · rw [if_neg hc1] at h
    refine aq_icF (t := 80) (am_dg dkX6_splitUp (i := 8) rfl) rfl (decide_eq_false hc1) ?_
    refine aq_aload_n (am_dg dkX6_splitUp (i := 9) rfl) rfl ?_
    refine aq_getR (am_dg dkX6_splitUp (i := 10) rfl) gk_6_11_40 (rf_40_1 hR) ?_
    refine aq_iload_n (am_dg dkX6_splitUp (i := 11) rfl) rfl ?_
    obtain ⟨hg4, h⟩ := am_guard h
    refine aq_iald (am_dg dkX6_splitUp (i := 12) rfl) sh_41 hg4 ?_
    obtain ⟨q5, hq6, h⟩ := am_bnd h
    refine aq_static (a := [.int (s.1 41 x1.toNatClampNeg)]) (S1 := []) (v1 := .int q5.1) (S2 := [.int q5.1]) (am_dg dkX6_splitUp (i := 13) rfl) ct_6_59 rfl rfl rfl (Nat.le_of_ble_eq_true rfl) (Nat.le_of_ble_eq_true rfl) (T_X6_sortOf hR (by omega) hq6) rfl ?_
    refine aq_istore_n (L1 := [.ref 40, .int x1, .int q5.1, w3]) (am_dg dkX6_splitUp (i := 14) rfl) rfl ?_
    refine aq_iload_n (am_dg dkX6_splitUp (i := 15) rfl) rfl ?_
    refine aq_iconst (v := (3 : Int32)) (am_dg dkX6_splitUp (i := 16) rfl) (by decide) ?_
    by_cases hc7 : q5.1 = (3 : Int32)
    · rw [if_pos hc7] at h
      refine aq_icT (t := 53) (am_dg dkX6_splitUp (i := 17) rfl) rfl (decide_eq_true hc7) ?_
      exact T_X6_splitUp_40_b53 hR (by omega) ih _ _ _ _ _ h
    · rw [if_neg hc7] at h
      refine aq_icF (t := 53) (am_dg dkX6_splitUp (i := 17) rfl) rfl (decide_eq_false hc7) ?_
      refine aq_iload_n (am_dg dkX6_splitUp (i := 18) rfl) rfl ?_
      by_cases hc8 : x1 ≤ (0 : Int32)
      · rw [if_pos hc8] at h
        refine aq_ifT (t := 53) (am_dg dkX6_splitUp (i := 19) rfl) rfl (decide_eq_true hc8) ?_
        exact T_X6_splitUp_40_b53 hR (by omega) ih _ _ _ _ _ h
      · rw [if_neg hc8] at h
        refine aq_ifF (t := 53) (am_dg dkX6_splitUp (i := 19) rfl) rfl (decide_eq_false hc8) ?_
        refine aq_aload_n (am_dg dkX6_splitUp (i := 20) rfl) rfl ?_
        refine aq_getR (am_dg dkX6_splitUp (i := 21) rfl) gk_6_11_40 (rf_40_1 hR) ?_
        refine aq_iload_n (am_dg dkX6_splitUp (i := 22) rfl) rfl ?_
        refine aq_iconst (v := (1 : Int32)) (am_dg dkX6_splitUp (i := 23) rfl) (by decide) ?_
        refine aq_isub (am_dg dkX6_splitUp (i := 24) rfl) ?_
        obtain ⟨hg9, h⟩ := am_guard h
        refine aq_iald (am_dg dkX6_splitUp (i := 25) rfl) sh_41 hg9 ?_
        obtain ⟨q10, hq11, h⟩ := am_bnd h
        refine aq_static (a := [.int (q5.2.1 41 (x1 - (1 : Int32)).toNatClampNeg)]) (S1 := []) (v1 := .int q10.1) (S2 := [.int q10.1]) (am_dg dkX6_splitUp (i := 26) rfl) ct_6_59 rfl rfl rfl (Nat.le_of_ble_eq_true rfl) (Nat.le_of_ble_eq_true rfl) (T_X6_sortOf hR (by omega) hq11) rfl ?_
        refine aq_iload_n (am_dg dkX6_splitUp (i := 27) rfl) rfl ?_
        by_cases hc12 : q10.1 = q5.1
        · rw [if_pos hc12] at h
          refine aq_icF (t := 53) (am_dg dkX6_splitUp (i := 28) rfl) rfl (decide_eq_false (not_not_intro hc12)) ?_
          refine aq_iconst (v := (1 : Int32)) (am_dg dkX6_splitUp (i := 29) rfl) (by decide) ?_
          refine aq_goto (t := 54) (am_dg dkX6_splitUp (i := 30) rfl) rfl ?_
          exact T_X6_splitUp_40_b54 hR (by omega) ih _ _ _ _ _ _ h
        · rw [if_neg hc12] at h
          refine aq_icT (t := 53) (am_dg dkX6_splitUp (i := 28) rfl) rfl (decide_eq_true hc12) ?_
          exact T_X6_splitUp_40_b53 hR (by omega) ih _ _ _ _ _ h
set_option maxRecDepth 20000 in
theorem T_X6_splitUp_40 {sc : Option (Nat × (Nat → Int32))} {RF : Nat → Nat → Option Nat} {d : Nat} (hR : am_RFok RF) (hd : 8 ≤ d) {s : am_S} {r : am_S} (h : F_X6_splitUp_40 s = some r) : am_Q sc d mX6_splitUp (0, am_L0 mX6_splitUp [.ref 40], [], am_hp RF s) (.null, am_hp RF r) := by
  obtain ⟨e, rfl⟩ : ∃ e, d = e + 1 := ⟨d - 1, by omega⟩
  unfold F_X6_splitUp_40 at h
  show am_Q _ _ _ (0, [.ref 40, .null, .null, .null], [], _) _
  refine aq_aload_n (am_dg dkX6_splitUp (i := 0) rfl) rfl ?_
  refine aq_iconst (v := (0 : Int32)) (am_dg dkX6_splitUp (i := 1) rfl) (by decide) ?_
  refine aq_putI (am_dg dkX6_splitUp (i := 2) rfl) gk_6_49_40 ?_
  obtain ⟨s1, hs2, h⟩ := am_bnd h
  rw [Option.some.inj hs2]
  refine aq_iconst (v := (0 : Int32)) (am_dg dkX6_splitUp (i := 3) rfl) (by decide) ?_
  refine aq_istore_n (L1 := [.ref 40, .int (0 : Int32), .null, .null]) (am_dg dkX6_splitUp (i := 4) rfl) rfl ?_
  exact T_X6_splitUp_40_b7 hR (by omega) _ _ _ _ _ _ h
set_option maxRecDepth 20000 in
theorem T_X7_clear_44 {sc : Option (Nat × (Nat → Int32))} {RF : Nat → Nat → Option Nat} {d : Nat} (hR : am_RFok RF) (hd : 0 ≤ d) {s : am_S} {r : am_S} (h : F_X7_clear_44 s = some r) : am_Q sc d mX7_clear (0, am_L0 mX7_clear [.ref 44], [], am_hp RF s) (.null, am_hp RF r) := by
  unfold F_X7_clear_44 at h
  show am_Q _ _ _ (0, [.ref 44], [], _) _
  refine aq_aload_n (am_dg dkX7_clear (i := 0) rfl) rfl ?_
  refine aq_iconst (v := (0 : Int32)) (am_dg dkX7_clear (i := 1) rfl) (by decide) ?_
  refine aq_putI (am_dg dkX7_clear (i := 2) rfl) gk_7_29_44 ?_
  obtain ⟨s1, hs2, h⟩ := am_bnd h
  rw [Option.some.inj hs2]
  refine aq_aload_n (am_dg dkX7_clear (i := 3) rfl) rfl ?_
  refine aq_iconst (v := (0 : Int32)) (am_dg dkX7_clear (i := 4) rfl) (by decide) ?_
  refine aq_putI (am_dg dkX7_clear (i := 5) rfl) gk_7_33_44 ?_
  obtain ⟨s3, hs4, h⟩ := am_bnd h
  rw [Option.some.inj hs4]
  obtain rfl := Option.some.inj h
  exact aq_return (am_dg dkX7_clear (i := 6) rfl) rfl
set_option maxRecDepth 20000 in
theorem T_X6_current_40 {sc : Option (Nat × (Nat → Int32))} {RF : Nat → Nat → Option Nat} {d : Nat} (hR : am_RFok RF) (hd : 0 ≤ d) {s : am_S} {r : Int32 × am_S} (h : F_X6_current_40 s = some r) : am_Q sc d mX6_current (0, am_L0 mX6_current [.ref 40], [], am_hp RF s) (.int r.1, am_hp RF r.2) := by
  unfold F_X6_current_40 at h
  show am_Q _ _ _ (0, [.ref 40], [], _) _
  refine aq_aload_n (am_dg dkX6_current (i := 0) rfl) rfl ?_
  refine aq_getI (am_dg dkX6_current (i := 1) rfl) gk_6_35_40 (by decide) ?_
  refine aq_aload_n (am_dg dkX6_current (i := 2) rfl) rfl ?_
  refine aq_getI (am_dg dkX6_current (i := 3) rfl) gk_6_49_40 (by decide) ?_
  by_cases hc1 : (s.1 40 2) ≤ (s.1 40 5)
  · rw [if_pos hc1] at h
    refine aq_icT (t := 23) (am_dg dkX6_current (i := 4) rfl) rfl (decide_eq_true hc1) ?_
    refine aq_sipush (v := (10054 : Int32)) (am_dg dkX6_current (i := 11) rfl) (by decide) ?_
    obtain rfl := Option.some.inj h
    exact aq_ireturn (am_dg dkX6_current (i := 12) rfl) rfl (Or.inl rfl) rfl
  · rw [if_neg hc1] at h
    refine aq_icF (t := 23) (am_dg dkX6_current (i := 4) rfl) rfl (decide_eq_false hc1) ?_
    refine aq_aload_n (am_dg dkX6_current (i := 5) rfl) rfl ?_
    refine aq_getR (am_dg dkX6_current (i := 6) rfl) gk_6_15_40 (rf_40_3 hR) ?_
    refine aq_aload_n (am_dg dkX6_current (i := 7) rfl) rfl ?_
    refine aq_getI (am_dg dkX6_current (i := 8) rfl) gk_6_35_40 (by decide) ?_
    obtain ⟨hg2, h⟩ := am_guard h
    refine aq_iald (am_dg dkX6_current (i := 9) rfl) sh_42 hg2 ?_
    refine aq_goto (t := 26) (am_dg dkX6_current (i := 10) rfl) rfl ?_
    obtain rfl := Option.some.inj h
    exact aq_ireturn (am_dg dkX6_current (i := 12) rfl) rfl (Or.inl rfl) rfl
set_option maxRecDepth 20000 in
theorem T_X6_goPast_40 {sc : Option (Nat × (Nat → Int32))} {RF : Nat → Nat → Option Nat} {d : Nat} (hR : am_RFok RF) (hd : 1 ≤ d) {a1 : Int32} {s : am_S} {r : Int32 × am_S} (h : F_X6_goPast_40 a1 s = some r) : am_Q sc d mX6_goPast (0, am_L0 mX6_goPast [.ref 40, .int a1], [], am_hp RF s) (.int r.1, am_hp RF r.2) := by
  obtain ⟨e, rfl⟩ : ∃ e, d = e + 1 := ⟨d - 1, by omega⟩
  unfold F_X6_goPast_40 at h
  show am_Q _ _ _ (0, [.ref 40, .int a1], [], _) _
  refine aq_aload_n (am_dg dkX6_goPast (i := 0) rfl) rfl ?_
  obtain ⟨q1, hq2, h⟩ := am_bnd h
  refine aq_virt (a := [.ref 40]) (S1 := []) (v1 := .int q1.1) (S2 := [.int q1.1]) (am_dg dkX6_goPast (i := 1) rfl) cv_6_41_6 (am_cls_c sh_40 (by decide)) rfl rfl rfl (Nat.le_of_ble_eq_true rfl) (Nat.le_of_ble_eq_true rfl) (T_X6_current_40 hR (by omega) hq2) rfl ?_
  refine aq_iload_n (am_dg dkX6_goPast (i := 2) rfl) rfl ?_
  by_cases hc3 : q1.1 = a1
  · rw [if_pos hc3] at h
    refine aq_icT (t := 10) (am_dg dkX6_goPast (i := 3) rfl) rfl (decide_eq_true hc3) ?_
    refine aq_aload_n (am_dg dkX6_goPast (i := 6) rfl) rfl ?_
    refine aq_dup (am_dg dkX6_goPast (i := 7) rfl) rfl ?_
    refine aq_getI (am_dg dkX6_goPast (i := 8) rfl) gk_6_35_40 (by decide) ?_
    refine aq_iconst (v := (1 : Int32)) (am_dg dkX6_goPast (i := 9) rfl) (by decide) ?_
    refine aq_iadd (am_dg dkX6_goPast (i := 10) rfl) ?_
    refine aq_putI (am_dg dkX6_goPast (i := 11) rfl) gk_6_35_40 ?_
    obtain ⟨s4, hs5, h⟩ := am_bnd h
    rw [Option.some.inj hs5]
    refine aq_iconst (v := (1 : Int32)) (am_dg dkX6_goPast (i := 12) rfl) (by decide) ?_
    obtain rfl := Option.some.inj h
    exact aq_ireturn (am_dg dkX6_goPast (i := 13) rfl) rfl (Or.inr (Or.inl rfl)) rfl
  · rw [if_neg hc3] at h
    refine aq_icF (t := 10) (am_dg dkX6_goPast (i := 3) rfl) rfl (decide_eq_false hc3) ?_
    refine aq_iconst (v := (0 : Int32)) (am_dg dkX6_goPast (i := 4) rfl) (by decide) ?_
    obtain rfl := Option.some.inj h
    exact aq_ireturn (am_dg dkX6_goPast (i := 5) rfl) rfl (Or.inr (Or.inl rfl)) rfl
set_option maxRecDepth 20000 in
theorem T_X6_isValue {sc : Option (Nat × (Nat → Int32))} {RF : Nat → Nat → Option Nat} {d : Nat} (hR : am_RFok RF) (hd : 0 ≤ d) {a0 : Int32} {s : am_S} {r : Int32 × am_S} (h : F_X6_isValue a0 s = some r) : am_Q sc d mX6_isValue (0, am_L0 mX6_isValue [.int a0], [], am_hp RF s) (.int r.1, am_hp RF r.2) := by
  unfold F_X6_isValue at h
  show am_Q _ _ _ (0, [.int a0], [], _) _
  refine aq_iload_n (am_dg dkX6_isValue (i := 0) rfl) rfl ?_
  by_cases hc1 : a0 < (0 : Int32)
  · rw [if_pos hc1] at h
    refine aq_ifT (t := 15) (am_dg dkX6_isValue (i := 1) rfl) rfl (decide_eq_true hc1) ?_
    refine aq_iconst (v := (0 : Int32)) (am_dg dkX6_isValue (i := 7) rfl) (by decide) ?_
    obtain rfl := Option.some.inj h
    exact aq_ireturn (am_dg dkX6_isValue (i := 8) rfl) rfl (Or.inr (Or.inl rfl)) rfl
  · rw [if_neg hc1] at h
    refine aq_ifF (t := 15) (am_dg dkX6_isValue (i := 1) rfl) rfl (decide_eq_false hc1) ?_
    refine aq_iload_n (am_dg dkX6_isValue (i := 2) rfl) rfl ?_
    refine aq_sipush (v := (10005 : Int32)) (am_dg dkX6_isValue (i := 3) rfl) (by decide) ?_
    by_cases hc2 : (10005 : Int32) ≤ a0
    · rw [if_pos hc2] at h
      refine aq_icT (t := 15) (am_dg dkX6_isValue (i := 4) rfl) rfl (decide_eq_true hc2) ?_
      refine aq_iconst (v := (0 : Int32)) (am_dg dkX6_isValue (i := 7) rfl) (by decide) ?_
      obtain rfl := Option.some.inj h
      exact aq_ireturn (am_dg dkX6_isValue (i := 8) rfl) rfl (Or.inr (Or.inl rfl)) rfl
    · rw [if_neg hc2] at h
      refine aq_icF (t := 15) (am_dg dkX6_isValue (i := 4) rfl) rfl (decide_eq_false hc2) ?_
      refine aq_iconst (v := (1 : Int32)) (am_dg dkX6_isValue (i := 5) rfl) (by decide) ?_
      refine aq_goto (t := 16) (am_dg dkX6_isValue (i := 6) rfl) rfl ?_
      obtain rfl := Option.some.inj h
      exact aq_ireturn (am_dg dkX6_isValue (i := 8) rfl) rfl (Or.inr (Or.inl rfl)) rfl
set_option maxRecDepth 20000 in
theorem T_X7_addCode_44 {sc : Option (Nat × (Nat → Int32))} {RF : Nat → Nat → Option Nat} {d : Nat} (hR : am_RFok RF) (hd : 0 ≤ d) {a1 : Int32} {s : am_S} {r : am_S} (h : F_X7_addCode_44 a1 s = some r) : am_Q sc d mX7_addCode (0, am_L0 mX7_addCode [.ref 44, .int a1], [], am_hp RF s) (.null, am_hp RF r) := by
  unfold F_X7_addCode_44 at h
  show am_Q _ _ _ (0, [.ref 44, .int a1], [], _) _
  refine aq_aload_n (am_dg dkX7_addCode (i := 0) rfl) rfl ?_
  refine aq_getI (am_dg dkX7_addCode (i := 1) rfl) gk_7_33_44 (by decide) ?_
  refine aq_aload_n (am_dg dkX7_addCode (i := 2) rfl) rfl ?_
  refine aq_getR (am_dg dkX7_addCode (i := 3) rfl) gk_7_26_44 (rf_44_6 hR) ?_
  refine aq_alen (v := (200 : Int32)) (am_dg dkX7_addCode (i := 4) rfl) sh_49 (by decide) (by decide) ?_
  by_cases hc1 : (200 : Int32) ≤ (s.1 44 1)
  · rw [if_pos hc1] at h
    refine aq_icT (t := 32) (am_dg dkX7_addCode (i := 5) rfl) rfl (decide_eq_true hc1) ?_
    obtain rfl := Option.some.inj h
    exact aq_return (am_dg dkX7_addCode (i := 18) rfl) rfl
  · rw [if_neg hc1] at h
    refine aq_icF (t := 32) (am_dg dkX7_addCode (i := 5) rfl) rfl (decide_eq_false hc1) ?_
    refine aq_aload_n (am_dg dkX7_addCode (i := 6) rfl) rfl ?_
    refine aq_getR (am_dg dkX7_addCode (i := 7) rfl) gk_7_26_44 (rf_44_6 hR) ?_
    refine aq_aload_n (am_dg dkX7_addCode (i := 8) rfl) rfl ?_
    refine aq_getI (am_dg dkX7_addCode (i := 9) rfl) gk_7_33_44 (by decide) ?_
    refine aq_iload_n (am_dg dkX7_addCode (i := 10) rfl) rfl ?_
    obtain ⟨hg2, h⟩ := am_guard h
    refine aq_iast (am_dg dkX7_addCode (i := 11) rfl) sh_49 hg2 ?_
    obtain ⟨s3, hs4, h⟩ := am_bnd h
    rw [Option.some.inj hs4]
    refine aq_aload_n (am_dg dkX7_addCode (i := 12) rfl) rfl ?_
    refine aq_dup (am_dg dkX7_addCode (i := 13) rfl) rfl ?_
    refine aq_getI (am_dg dkX7_addCode (i := 14) rfl) gk_7_33_44 (by decide) ?_
    refine aq_iconst (v := (1 : Int32)) (am_dg dkX7_addCode (i := 15) rfl) (by decide) ?_
    refine aq_iadd (am_dg dkX7_addCode (i := 16) rfl) ?_
    refine aq_putI (am_dg dkX7_addCode (i := 17) rfl) gk_7_33_44 ?_
    obtain ⟨s5, hs6, h⟩ := am_bnd h
    rw [Option.some.inj hs6]
    obtain rfl := Option.some.inj h
    exact aq_return (am_dg dkX7_addCode (i := 18) rfl) rfl
set_option maxRecDepth 20000 in
theorem T_X6_readComparison_40 {sc : Option (Nat × (Nat → Int32))} {RF : Nat → Nat → Option Nat} {d : Nat} (hR : am_RFok RF) (hd : 1 ≤ d) {s : am_S} {r : Int32 × am_S} (h : F_X6_readComparison_40 s = some r) : am_Q sc d mX6_readComparison (0, am_L0 mX6_readComparison [.ref 40], [], am_hp RF s) (.int r.1, am_hp RF r.2) := by
  obtain ⟨e, rfl⟩ : ∃ e, d = e + 1 := ⟨d - 1, by omega⟩
  unfold F_X6_readComparison_40 at h
  show am_Q _ _ _ (0, [.ref 40, .null, .null, .null], [], _) _
  refine aq_aload_n (am_dg dkX6_readComparison (i := 0) rfl) rfl ?_
  obtain ⟨q1, hq2, h⟩ := am_bnd h
  refine aq_virt (a := [.ref 40]) (S1 := []) (v1 := .int q1.1) (S2 := [.int q1.1]) (am_dg dkX6_readComparison (i := 1) rfl) cv_6_41_6 (am_cls_c sh_40 (by decide)) rfl rfl rfl (Nat.le_of_ble_eq_true rfl) (Nat.le_of_ble_eq_true rfl) (T_X6_current_40 hR (by omega) hq2) rfl ?_
  refine aq_istore_n (L1 := [.ref 40, .int q1.1, .null, .null]) (am_dg dkX6_readComparison (i := 2) rfl) rfl ?_
  refine aq_iload_n (am_dg dkX6_readComparison (i := 3) rfl) rfl ?_
  obtain ⟨q3, hq4, h⟩ := am_bnd h
  refine aq_static (a := [.int q1.1]) (S1 := []) (v1 := .int q3.1) (S2 := [.int q3.1]) (am_dg dkX6_readComparison (i := 4) rfl) ct_6_166 rfl rfl rfl (Nat.le_of_ble_eq_true rfl) (Nat.le_of_ble_eq_true rfl) (T_X6_isValue hR (by omega) hq4) rfl ?_
  by_cases hc5 : q3.1 = (0 : Int32)
  · rw [if_pos hc5] at h
    refine aq_ifF (t := 14) (am_dg dkX6_readComparison (i := 5) rfl) rfl (decide_eq_false (not_not_intro hc5)) ?_
    refine aq_iconst (v := (0 : Int32)) (am_dg dkX6_readComparison (i := 6) rfl) (by decide) ?_
    obtain rfl := Option.some.inj h
    exact aq_ireturn (am_dg dkX6_readComparison (i := 7) rfl) rfl (Or.inr (Or.inl rfl)) rfl
  · rw [if_neg hc5] at h
    refine aq_ifT (t := 14) (am_dg dkX6_readComparison (i := 5) rfl) rfl (decide_eq_true hc5) ?_
    refine aq_aload_n (am_dg dkX6_readComparison (i := 8) rfl) rfl ?_
    refine aq_dup (am_dg dkX6_readComparison (i := 9) rfl) rfl ?_
    refine aq_getI (am_dg dkX6_readComparison (i := 10) rfl) gk_6_35_40 (by decide) ?_
    refine aq_iconst (v := (1 : Int32)) (am_dg dkX6_readComparison (i := 11) rfl) (by decide) ?_
    refine aq_iadd (am_dg dkX6_readComparison (i := 12) rfl) ?_
    refine aq_putI (am_dg dkX6_readComparison (i := 13) rfl) gk_6_35_40 ?_
    obtain ⟨s6, hs7, h⟩ := am_bnd h
    rw [Option.some.inj hs7]
    refine aq_aload_n (am_dg dkX6_readComparison (i := 14) rfl) rfl ?_
    obtain ⟨q8, hq9, h⟩ := am_bnd h
    refine aq_virt (a := [.ref 40]) (S1 := []) (v1 := .int q8.1) (S2 := [.int q8.1]) (am_dg dkX6_readComparison (i := 15) rfl) cv_6_41_6 (am_cls_c sh_40 (by decide)) rfl rfl rfl (Nat.le_of_ble_eq_true rfl) (Nat.le_of_ble_eq_true rfl) (T_X6_current_40 hR (by omega) hq9) rfl ?_
    refine aq_istore_n (L1 := [.ref 40, .int q1.1, .int q8.1, .null]) (am_dg dkX6_readComparison (i := 16) rfl) rfl ?_
    refine aq_iload_n (am_dg dkX6_readComparison (i := 17) rfl) rfl ?_
    refine aq_sipush (v := (10010 : Int32)) (am_dg dkX6_readComparison (i := 18) rfl) (by decide) ?_
    refine aq_sipush (v := (10012 : Int32)) (am_dg dkX6_readComparison (i := 19) rfl) (by decide) ?_
    obtain ⟨q10, hq11, h⟩ := am_bnd h
    refine aq_static (a := [.int q8.1, .int (10010 : Int32), .int (10012 : Int32)]) (S1 := []) (v1 := .int q10.1) (S2 := [.int q10.1]) (am_dg dkX6_readComparison (i := 20) rfl) ct_6_135 rfl rfl rfl (Nat.le_of_ble_eq_true rfl) (Nat.le_of_ble_eq_true rfl) (T_X11_isWithin hR (by omega) hq11) rfl ?_
    by_cases hc12 : q10.1 = (0 : Int32)
    · rw [if_pos hc12] at h
      refine aq_ifF (t := 44) (am_dg dkX6_readComparison (i := 21) rfl) rfl (decide_eq_false (not_not_intro hc12)) ?_
      refine aq_iconst (v := (0 : Int32)) (am_dg dkX6_readComparison (i := 22) rfl) (by decide) ?_
      obtain rfl := Option.some.inj h
      exact aq_ireturn (am_dg dkX6_readComparison (i := 23) rfl) rfl (Or.inr (Or.inl rfl)) rfl
    · rw [if_neg hc12] at h
      refine aq_ifT (t := 44) (am_dg dkX6_readComparison (i := 21) rfl) rfl (decide_eq_true hc12) ?_
      refine aq_aload_n (am_dg dkX6_readComparison (i := 24) rfl) rfl ?_
      refine aq_dup (am_dg dkX6_readComparison (i := 25) rfl) rfl ?_
      refine aq_getI (am_dg dkX6_readComparison (i := 26) rfl) gk_6_35_40 (by decide) ?_
      refine aq_iconst (v := (1 : Int32)) (am_dg dkX6_readComparison (i := 27) rfl) (by decide) ?_
      refine aq_iadd (am_dg dkX6_readComparison (i := 28) rfl) ?_
      refine aq_putI (am_dg dkX6_readComparison (i := 29) rfl) gk_6_35_40 ?_
      obtain ⟨s13, hs14, h⟩ := am_bnd h
      rw [Option.some.inj hs14]
      refine aq_aload_n (am_dg dkX6_readComparison (i := 30) rfl) rfl ?_
      obtain ⟨q15, hq16, h⟩ := am_bnd h
      refine aq_virt (a := [.ref 40]) (S1 := []) (v1 := .int q15.1) (S2 := [.int q15.1]) (am_dg dkX6_readComparison (i := 31) rfl) cv_6_41_6 (am_cls_c sh_40 (by decide)) rfl rfl rfl (Nat.le_of_ble_eq_true rfl) (Nat.le_of_ble_eq_true rfl) (T_X6_current_40 hR (by omega) hq16) rfl ?_
      refine aq_istore_n (L1 := [.ref 40, .int q1.1, .int q8.1, .int q15.1]) (am_dg dkX6_readComparison (i := 32) rfl) rfl ?_
      refine aq_iload_n (am_dg dkX6_readComparison (i := 33) rfl) rfl ?_
      obtain ⟨q17, hq18, h⟩ := am_bnd h
      refine aq_static (a := [.int q15.1]) (S1 := []) (v1 := .int q17.1) (S2 := [.int q17.1]) (am_dg dkX6_readComparison (i := 34) rfl) ct_6_166 rfl rfl rfl (Nat.le_of_ble_eq_true rfl) (Nat.le_of_ble_eq_true rfl) (T_X6_isValue hR (by omega) hq18) rfl ?_
      by_cases hc19 : q17.1 = (0 : Int32)
      · rw [if_pos hc19] at h
        refine aq_ifF (t := 68) (am_dg dkX6_readComparison (i := 35) rfl) rfl (decide_eq_false (not_not_intro hc19)) ?_
        refine aq_iconst (v := (0 : Int32)) (am_dg dkX6_readComparison (i := 36) rfl) (by decide) ?_
        obtain rfl := Option.some.inj h
        exact aq_ireturn (am_dg dkX6_readComparison (i := 37) rfl) rfl (Or.inr (Or.inl rfl)) rfl
      · rw [if_neg hc19] at h
        refine aq_ifT (t := 68) (am_dg dkX6_readComparison (i := 35) rfl) rfl (decide_eq_true hc19) ?_
        refine aq_aload_n (am_dg dkX6_readComparison (i := 38) rfl) rfl ?_
        refine aq_dup (am_dg dkX6_readComparison (i := 39) rfl) rfl ?_
        refine aq_getI (am_dg dkX6_readComparison (i := 40) rfl) gk_6_35_40 (by decide) ?_
        refine aq_iconst (v := (1 : Int32)) (am_dg dkX6_readComparison (i := 41) rfl) (by decide) ?_
        refine aq_iadd (am_dg dkX6_readComparison (i := 42) rfl) ?_
        refine aq_putI (am_dg dkX6_readComparison (i := 43) rfl) gk_6_35_40 ?_
        obtain ⟨s20, hs21, h⟩ := am_bnd h
        rw [Option.some.inj hs21]
        refine aq_aload_n (am_dg dkX6_readComparison (i := 44) rfl) rfl ?_
        refine aq_getR (am_dg dkX6_readComparison (i := 45) rfl) gk_6_24_40 (rf_40_6 hR) ?_
        refine aq_iload_n (am_dg dkX6_readComparison (i := 46) rfl) rfl ?_
        obtain ⟨q22, hq23, h⟩ := am_bnd h
        refine aq_virt (a := [.ref 44, .int q1.1]) (S1 := []) (v1 := .null) (S2 := []) (am_dg dkX6_readComparison (i := 47) rfl) cv_6_156_7 (am_cls_c sh_44 (by decide)) rfl rfl rfl (Nat.le_of_ble_eq_true rfl) (Nat.le_of_ble_eq_true rfl) (T_X7_addCode_44 hR (by omega) hq23) rfl ?_
        refine aq_aload_n (am_dg dkX6_readComparison (i := 48) rfl) rfl ?_
        refine aq_getR (am_dg dkX6_readComparison (i := 49) rfl) gk_6_24_40 (rf_40_6 hR) ?_
        refine aq_iload_n (am_dg dkX6_readComparison (i := 50) rfl) rfl ?_
        obtain ⟨q24, hq25, h⟩ := am_bnd h
        refine aq_virt (a := [.ref 44, .int q15.1]) (S1 := []) (v1 := .null) (S2 := []) (am_dg dkX6_readComparison (i := 51) rfl) cv_6_156_7 (am_cls_c sh_44 (by decide)) rfl rfl rfl (Nat.le_of_ble_eq_true rfl) (Nat.le_of_ble_eq_true rfl) (T_X7_addCode_44 hR (by omega) hq25) rfl ?_
        refine aq_aload_n (am_dg dkX6_readComparison (i := 52) rfl) rfl ?_
        refine aq_getR (am_dg dkX6_readComparison (i := 53) rfl) gk_6_24_40 (rf_40_6 hR) ?_
        refine aq_iload_n (am_dg dkX6_readComparison (i := 54) rfl) rfl ?_
        obtain ⟨q26, hq27, h⟩ := am_bnd h
        refine aq_virt (a := [.ref 44, .int q8.1]) (S1 := []) (v1 := .null) (S2 := []) (am_dg dkX6_readComparison (i := 55) rfl) cv_6_156_7 (am_cls_c sh_44 (by decide)) rfl rfl rfl (Nat.le_of_ble_eq_true rfl) (Nat.le_of_ble_eq_true rfl) (T_X7_addCode_44 hR (by omega) hq27) rfl ?_
        refine aq_iconst (v := (1 : Int32)) (am_dg dkX6_readComparison (i := 56) rfl) (by decide) ?_
        obtain rfl := Option.some.inj h
        exact aq_ireturn (am_dg dkX6_readComparison (i := 57) rfl) rfl (Or.inr (Or.inl rfl)) rfl
set_option maxRecDepth 20000 in
theorem T_X6_readOne_40_b34 {sc : Option (Nat × (Nat → Int32))} {RF : Nat → Nat → Option Nat} {d : Nat} (hR : am_RFok RF) (hd : 2 ≤ d) {rc : Int32 → am_S → Option (Int32 × am_S)} {dr : Nat} (hdr : dr + 1 ≤ d) (hrc : ∀ (c0 : Int32) (s2 : am_S) (r2 : Int32 × am_S), rc c0 s2 = some r2 → am_Q sc dr mX6_readCondition (0, am_L0 mX6_readCondition [.ref 40, .int c0], [], am_hp RF s2) (.int r2.1, am_hp RF r2.2)) {k7 : Int32 → Int32 → Int32 → am_S → Option (Int32 × am_S)} (hk7 : ∀ (x1 : Int32) (x2 : Int32) (x3 : Int32) (s2 : am_S) (r2 : Int32 × am_S), k7 x1 x2 x3 s2 = some r2 → am_Q sc d mX6_readOne (7, [.ref 40, .int x1, .int x2, .int x3], [], am_hp RF s2) (.int r2.1, am_hp RF r2.2)) : ∀ (x1 : Int32) (x3 : Int32) (y0 : Int32) (w2 : Value) (s : am_S) (r : Int32 × am_S), F_X6_readOne_40_b34 rc k7 x1 x3 y0 s = some r → am_Q sc d mX6_readOne (34, [.ref 40, .int x1, w2, .int x3], [.int y0], am_hp RF s) (.int r.1, am_hp RF r.2) := by
  obtain ⟨e, rfl⟩ : ∃ e, d = e + 1 := ⟨d - 1, by omega⟩
  intro x1 x3 y0 w2 s r h
  unfold F_X6_readOne_40_b34 at h
  refine aq_istore_n (L1 := [.ref 40, .int x1, .int y0, .int x3]) (am_dg dkX6_readOne (i := 18) rfl) rfl ?_
  refine aq_iinc (v := (1 : Int32)) (L1 := [.ref 40, .int x1, .int y0, .int (x3 + (1 : Int32))]) (am_dg dkX6_readOne (i := 19) rfl) rfl (by decide) rfl ?_
  refine aq_goto (t := 7) (am_dg dkX6_readOne (i := 20) rfl) rfl ?_
  exact hk7 _ _ _ _ _ h
set_option maxRecDepth 20000 in
theorem T_X6_readOne_40_b99 {sc : Option (Nat × (Nat → Int32))} {RF : Nat → Nat → Option Nat} {d : Nat} (hR : am_RFok RF) (hd : 2 ≤ d) {rc : Int32 → am_S → Option (Int32 × am_S)} {dr : Nat} (hdr : dr + 1 ≤ d) (hrc : ∀ (c0 : Int32) (s2 : am_S) (r2 : Int32 × am_S), rc c0 s2 = some r2 → am_Q sc dr mX6_readCondition (0, am_L0 mX6_readCondition [.ref 40, .int c0], [], am_hp RF s2) (.int r2.1, am_hp RF r2.2)) : ∀ (x2 : Int32) (w1 : Value) (w3 : Value) (s : am_S) (r : Int32 × am_S), F_X6_readOne_40_b99 rc x2 s = some r → am_Q sc d mX6_readOne (99, [.ref 40, w1, .int x2, w3], [], am_hp RF s) (.int r.1, am_hp RF r.2) := by
  obtain ⟨e, rfl⟩ : ∃ e, d = e + 1 := ⟨d - 1, by omega⟩
  intro x2 w1 w3 s r h
  unfold F_X6_readOne_40_b99 at h
  refine aq_iload_n (am_dg dkX6_readOne (i := 53) rfl) rfl ?_
  by_cases hc1 : x2 = (0 : Int32)
  · rw [if_pos hc1] at h
    refine aq_ifT (t := 113) (am_dg dkX6_readOne (i := 54) rfl) rfl (decide_eq_true hc1) ?_
    refine aq_iconst (v := (1 : Int32)) (am_dg dkX6_readOne (i := 59) rfl) (by decide) ?_
    obtain rfl := Option.some.inj h
    exact aq_ireturn (am_dg dkX6_readOne (i := 60) rfl) rfl (Or.inr (Or.inl rfl)) rfl
  · rw [if_neg hc1] at h
    refine aq_ifF (t := 113) (am_dg dkX6_readOne (i := 54) rfl) rfl (decide_eq_false hc1) ?_
    refine aq_aload_n (am_dg dkX6_readOne (i := 55) rfl) rfl ?_
    refine aq_getR (am_dg dkX6_readOne (i := 56) rfl) gk_6_24_40 (rf_40_6 hR) ?_
    refine aq_sipush (v := (10020 : Int32)) (am_dg dkX6_readOne (i := 57) rfl) (by decide) ?_
    obtain ⟨q2, hq3, h⟩ := am_bnd h
    refine aq_virt (a := [.ref 44, .int (10020 : Int32)]) (S1 := []) (v1 := .null) (S2 := []) (am_dg dkX6_readOne (i := 58) rfl) cv_6_156_7 (am_cls_c sh_44 (by decide)) rfl rfl rfl (Nat.le_of_ble_eq_true rfl) (Nat.le_of_ble_eq_true rfl) (T_X7_addCode_44 hR (by omega) hq3) rfl ?_
    refine aq_iconst (v := (1 : Int32)) (am_dg dkX6_readOne (i := 59) rfl) (by decide) ?_
    obtain rfl := Option.some.inj h
    exact aq_ireturn (am_dg dkX6_readOne (i := 60) rfl) rfl (Or.inr (Or.inl rfl)) rfl
set_option maxRecDepth 20000 in
theorem T_X6_readOne_40_b41 {sc : Option (Nat × (Nat → Int32))} {RF : Nat → Nat → Option Nat} {d : Nat} (hR : am_RFok RF) (hd : 2 ≤ d) {rc : Int32 → am_S → Option (Int32 × am_S)} {dr : Nat} (hdr : dr + 1 ≤ d) (hrc : ∀ (c0 : Int32) (s2 : am_S) (r2 : Int32 × am_S), rc c0 s2 = some r2 → am_Q sc dr mX6_readCondition (0, am_L0 mX6_readCondition [.ref 40, .int c0], [], am_hp RF s2) (.int r2.1, am_hp RF r2.2)) : ∀ (x1 : Int32) (x2 : Int32) (w3 : Value) (s : am_S) (r : Int32 × am_S), F_X6_readOne_40_b41 rc x1 x2 s = some r → am_Q sc d mX6_readOne (41, [.ref 40, .int x1, .int x2, w3], [], am_hp RF s) (.int r.1, am_hp RF r.2) := by
  obtain ⟨e, rfl⟩ : ∃ e, d = e + 1 := ⟨d - 1, by omega⟩
  intro x1 x2 w3 s r h
  unfold F_X6_readOne_40_b41 at h
  refine aq_aload_n (am_dg dkX6_readOne (i := 21) rfl) rfl ?_
  obtain ⟨q1, hq2, h⟩ := am_bnd h
  refine aq_virt (a := [.ref 40]) (S1 := []) (v1 := .int q1.1) (S2 := [.int q1.1]) (am_dg dkX6_readOne (i := 22) rfl) cv_6_41_6 (am_cls_c sh_40 (by decide)) rfl rfl rfl (Nat.le_of_ble_eq_true rfl) (Nat.le_of_ble_eq_true rfl) (T_X6_current_40 hR (by omega) hq2) rfl ?_
  refine aq_sipush (v := (10052 : Int32)) (am_dg dkX6_readOne (i := 23) rfl) (by decide) ?_
  by_cases hc3 : q1.1 = (10052 : Int32)
  · rw [if_pos hc3] at h
    refine aq_icT (t := 60) (am_dg dkX6_readOne (i := 24) rfl) rfl (decide_eq_true hc3) ?_
    refine aq_iload_n (am_dg dkX6_readOne (i := 30) rfl) rfl ?_
    refine aq_iconst (v := (3 : Int32)) (am_dg dkX6_readOne (i := 31) rfl) (by decide) ?_
    by_cases hc4 : x1 < (3 : Int32)
    · rw [if_pos hc4] at h
      refine aq_icT (t := 67) (am_dg dkX6_readOne (i := 32) rfl) rfl (decide_eq_true hc4) ?_
      refine aq_aload_n (am_dg dkX6_readOne (i := 35) rfl) rfl ?_
      refine aq_dup (am_dg dkX6_readOne (i := 36) rfl) rfl ?_
      refine aq_getI (am_dg dkX6_readOne (i := 37) rfl) gk_6_35_40 (by decide) ?_
      refine aq_iconst (v := (1 : Int32)) (am_dg dkX6_readOne (i := 38) rfl) (by decide) ?_
      refine aq_iadd (am_dg dkX6_readOne (i := 39) rfl) ?_
      refine aq_putI (am_dg dkX6_readOne (i := 40) rfl) gk_6_35_40 ?_
      obtain ⟨s5, hs6, h⟩ := am_bnd h
      rw [Option.some.inj hs6]
      refine aq_aload_n (am_dg dkX6_readOne (i := 41) rfl) rfl ?_
      refine aq_iload_n (am_dg dkX6_readOne (i := 42) rfl) rfl ?_
      refine aq_iconst (v := (1 : Int32)) (am_dg dkX6_readOne (i := 43) rfl) (by decide) ?_
      refine aq_iadd (am_dg dkX6_readOne (i := 44) rfl) ?_
      obtain ⟨q7, hq8, h⟩ := am_bnd h
      refine aq_virt (a := [.ref 40, .int (x1 + (1 : Int32))]) (S1 := []) (v1 := .int q7.1) (S2 := [.int q7.1]) (am_dg dkX6_readOne (i := 45) rfl) cv_6_146_6 (am_cls_c sh_40 (by decide)) rfl rfl rfl (Nat.le_of_ble_eq_true rfl) (Nat.le_of_ble_eq_true rfl) (am_Q_le (hrc _ _ _ hq8) (by omega)) rfl ?_
      by_cases hc9 : q7.1 = (0 : Int32)
      · rw [if_pos hc9] at h
        refine aq_ifT (t := 97) (am_dg dkX6_readOne (i := 46) rfl) rfl (decide_eq_true hc9) ?_
        refine aq_iconst (v := (0 : Int32)) (am_dg dkX6_readOne (i := 51) rfl) (by decide) ?_
        obtain rfl := Option.some.inj h
        exact aq_ireturn (am_dg dkX6_readOne (i := 52) rfl) rfl (Or.inr (Or.inl rfl)) rfl
      · rw [if_neg hc9] at h
        refine aq_ifF (t := 97) (am_dg dkX6_readOne (i := 46) rfl) rfl (decide_eq_false hc9) ?_
        refine aq_aload_n (am_dg dkX6_readOne (i := 47) rfl) rfl ?_
        refine aq_sipush (v := (10053 : Int32)) (am_dg dkX6_readOne (i := 48) rfl) (by decide) ?_
        obtain ⟨q10, hq11, h⟩ := am_bnd h
        refine aq_virt (a := [.ref 40, .int (10053 : Int32)]) (S1 := []) (v1 := .int q10.1) (S2 := [.int q10.1]) (am_dg dkX6_readOne (i := 49) rfl) cv_6_142_6 (am_cls_c sh_40 (by decide)) rfl rfl rfl (Nat.le_of_ble_eq_true rfl) (Nat.le_of_ble_eq_true rfl) (T_X6_goPast_40 hR (by omega) hq11) rfl ?_
        by_cases hc12 : q10.1 = (0 : Int32)
        · rw [if_pos hc12] at h
          refine aq_ifF (t := 99) (am_dg dkX6_readOne (i := 50) rfl) rfl (decide_eq_false (not_not_intro hc12)) ?_
          refine aq_iconst (v := (0 : Int32)) (am_dg dkX6_readOne (i := 51) rfl) (by decide) ?_
          obtain rfl := Option.some.inj h
          exact aq_ireturn (am_dg dkX6_readOne (i := 52) rfl) rfl (Or.inr (Or.inl rfl)) rfl
        · rw [if_neg hc12] at h
          refine aq_ifT (t := 99) (am_dg dkX6_readOne (i := 50) rfl) rfl (decide_eq_true hc12) ?_
          exact T_X6_readOne_40_b99 hR (by omega) (by omega) hrc _ _ _ _ _ h
    · rw [if_neg hc4] at h
      refine aq_icF (t := 67) (am_dg dkX6_readOne (i := 32) rfl) rfl (decide_eq_false hc4) ?_
      refine aq_iconst (v := (0 : Int32)) (am_dg dkX6_readOne (i := 33) rfl) (by decide) ?_
      obtain rfl := Option.some.inj h
      exact aq_ireturn (am_dg dkX6_readOne (i := 34) rfl) rfl (Or.inr (Or.inl rfl)) rfl
  · rw [if_neg hc3] at h
    refine aq_icF (t := 60) (am_dg dkX6_readOne (i := 24) rfl) rfl (decide_eq_false hc3) ?_
    refine aq_aload_n (am_dg dkX6_readOne (i := 25) rfl) rfl ?_
    obtain ⟨q13, hq14, h⟩ := am_bnd h
    refine aq_virt (a := [.ref 40]) (S1 := []) (v1 := .int q13.1) (S2 := [.int q13.1]) (am_dg dkX6_readOne (i := 26) rfl) cv_6_163_6 (am_cls_c sh_40 (by decide)) rfl rfl rfl (Nat.le_of_ble_eq_true rfl) (Nat.le_of_ble_eq_true rfl) (T_X6_readComparison_40 hR (by omega) hq14) rfl ?_
    by_cases hc15 : q13.1 = (0 : Int32)
    · rw [if_pos hc15] at h
      refine aq_ifF (t := 99) (am_dg dkX6_readOne (i := 27) rfl) rfl (decide_eq_false (not_not_intro hc15)) ?_
      refine aq_iconst (v := (0 : Int32)) (am_dg dkX6_readOne (i := 28) rfl) (by decide) ?_
      obtain rfl := Option.some.inj h
      exact aq_ireturn (am_dg dkX6_readOne (i := 29) rfl) rfl (Or.inr (Or.inl rfl)) rfl
    · rw [if_neg hc15] at h
      refine aq_ifT (t := 99) (am_dg dkX6_readOne (i := 27) rfl) rfl (decide_eq_true hc15) ?_
      exact T_X6_readOne_40_b99 hR (by omega) (by omega) hrc _ _ _ _ _ h
set_option maxRecDepth 20000 in
theorem T_X6_readOne_40_b7 {sc : Option (Nat × (Nat → Int32))} {RF : Nat → Nat → Option Nat} {d : Nat} (hR : am_RFok RF) (hd : 2 ≤ d) {rc : Int32 → am_S → Option (Int32 × am_S)} {dr : Nat} (hdr : dr + 1 ≤ d) (hrc : ∀ (c0 : Int32) (s2 : am_S) (r2 : Int32 × am_S), rc c0 s2 = some r2 → am_Q sc dr mX6_readCondition (0, am_L0 mX6_readCondition [.ref 40, .int c0], [], am_hp RF s2) (.int r2.1, am_hp RF r2.2)) : ∀ (n : Nat) (x1 : Int32) (x2 : Int32) (x3 : Int32) (s : am_S) (r : Int32 × am_S), F_X6_readOne_40_b7 rc n x1 x2 x3 s = some r → am_Q sc d mX6_readOne (7, [.ref 40, .int x1, .int x2, .int x3], [], am_hp RF s) (.int r.1, am_hp RF r.2) := by
  obtain ⟨e, rfl⟩ : ∃ e, d = e + 1 := ⟨d - 1, by omega⟩
  intro n
  induction n with
  | zero => intro x1 x2 x3 s r h; rw [F_X6_readOne_40_b7] at h; cases h
  | succ n ih =>
  intro x1 x2 x3 s r h
  rw [F_X6_readOne_40_b7] at h
  refine aq_iload_n (am_dg dkX6_readOne (i := 5) rfl) rfl ?_
  refine aq_aload_n (am_dg dkX6_readOne (i := 6) rfl) rfl ?_
  refine aq_getI (am_dg dkX6_readOne (i := 7) rfl) gk_6_49_40 (by decide) ?_
  by_cases hc1 : (s.1 40 2) ≤ x3
  · rw [if_pos hc1] at h
    refine aq_icT (t := 41) (am_dg dkX6_readOne (i := 8) rfl) rfl (decide_eq_true hc1) ?_
    exact T_X6_readOne_40_b41 hR (by omega) (by omega) hrc _ _ _ _ _ h
  · rw [if_neg hc1] at h
    refine aq_icF (t := 41) (am_dg dkX6_readOne (i := 8) rfl) rfl (decide_eq_false hc1) ?_
    refine aq_aload_n (am_dg dkX6_readOne (i := 9) rfl) rfl ?_
    refine aq_sipush (v := (10020 : Int32)) (am_dg dkX6_readOne (i := 10) rfl) (by decide) ?_
    obtain ⟨q2, hq3, h⟩ := am_bnd h
    refine aq_virt (a := [.ref 40, .int (10020 : Int32)]) (S1 := []) (v1 := .int q2.1) (S2 := [.int q2.1]) (am_dg dkX6_readOne (i := 11) rfl) cv_6_142_6 (am_cls_c sh_40 (by decide)) rfl rfl rfl (Nat.le_of_ble_eq_true rfl) (Nat.le_of_ble_eq_true rfl) (T_X6_goPast_40 hR (by omega) hq3) rfl ?_
    by_cases hc4 : q2.1 = (0 : Int32)
    · rw [if_pos hc4] at h
      refine aq_ifT (t := 41) (am_dg dkX6_readOne (i := 12) rfl) rfl (decide_eq_true hc4) ?_
      exact T_X6_readOne_40_b41 hR (by omega) (by omega) hrc _ _ _ _ _ h
    · rw [if_neg hc4] at h
      refine aq_ifF (t := 41) (am_dg dkX6_readOne (i := 12) rfl) rfl (decide_eq_false hc4) ?_
      refine aq_iload_n (am_dg dkX6_readOne (i := 13) rfl) rfl ?_
      by_cases hc5 : x2 = (0 : Int32)
      · rw [if_pos hc5] at h
        refine aq_ifF (t := 33) (am_dg dkX6_readOne (i := 14) rfl) rfl (decide_eq_false (not_not_intro hc5)) ?_
        refine aq_iconst (v := (1 : Int32)) (am_dg dkX6_readOne (i := 15) rfl) (by decide) ?_
        refine aq_goto (t := 34) (am_dg dkX6_readOne (i := 16) rfl) rfl ?_
        exact T_X6_readOne_40_b34 hR (by omega) (by omega) hrc ih _ _ _ _ _ _ h
      · rw [if_neg hc5] at h
        refine aq_ifT (t := 33) (am_dg dkX6_readOne (i := 14) rfl) rfl (decide_eq_true hc5) ?_
        refine aq_iconst (v := (0 : Int32)) (am_dg dkX6_readOne (i := 17) rfl) (by decide) ?_
        exact T_X6_readOne_40_b34 hR (by omega) (by omega) hrc ih _ _ _ _ _ _ h
set_option maxRecDepth 20000 in
theorem T_X6_readOne_40 {sc : Option (Nat × (Nat → Int32))} {RF : Nat → Nat → Option Nat} {d : Nat} (hR : am_RFok RF) (hd : 2 ≤ d) {rc : Int32 → am_S → Option (Int32 × am_S)} {dr : Nat} (hdr : dr + 1 ≤ d) (hrc : ∀ (c0 : Int32) (s2 : am_S) (r2 : Int32 × am_S), rc c0 s2 = some r2 → am_Q sc dr mX6_readCondition (0, am_L0 mX6_readCondition [.ref 40, .int c0], [], am_hp RF s2) (.int r2.1, am_hp RF r2.2)) {a1 : Int32} {s : am_S} {r : Int32 × am_S} (h : F_X6_readOne_40 rc a1 s = some r) : am_Q sc d mX6_readOne (0, am_L0 mX6_readOne [.ref 40, .int a1], [], am_hp RF s) (.int r.1, am_hp RF r.2) := by
  obtain ⟨e, rfl⟩ : ∃ e, d = e + 1 := ⟨d - 1, by omega⟩
  unfold F_X6_readOne_40 at h
  show am_Q _ _ _ (0, [.ref 40, .int a1, .null, .null], [], _) _
  refine aq_iconst (v := (0 : Int32)) (am_dg dkX6_readOne (i := 0) rfl) (by decide) ?_
  refine aq_istore_n (L1 := [.ref 40, .int a1, .int (0 : Int32), .null]) (am_dg dkX6_readOne (i := 1) rfl) rfl ?_
  refine aq_aload_n (am_dg dkX6_readOne (i := 2) rfl) rfl ?_
  refine aq_getI (am_dg dkX6_readOne (i := 3) rfl) gk_6_35_40 (by decide) ?_
  refine aq_istore_n (L1 := [.ref 40, .int a1, .int (0 : Int32), .int (s.1 40 5)]) (am_dg dkX6_readOne (i := 4) rfl) rfl ?_
  exact T_X6_readOne_40_b7 hR (by omega) (by omega) hrc _ _ _ _ _ _ h
set_option maxRecDepth 20000 in
theorem T_X6_readAll_40_b15 {sc : Option (Nat × (Nat → Int32))} {RF : Nat → Nat → Option Nat} {d : Nat} (hR : am_RFok RF) (hd : 3 ≤ d) {rc : Int32 → am_S → Option (Int32 × am_S)} {dr : Nat} (hdr : dr + 2 ≤ d) (hrc : ∀ (c0 : Int32) (s2 : am_S) (r2 : Int32 × am_S), rc c0 s2 = some r2 → am_Q sc dr mX6_readCondition (0, am_L0 mX6_readCondition [.ref 40, .int c0], [], am_hp RF s2) (.int r2.1, am_hp RF r2.2)) : ∀ (n : Nat) (x1 : Int32) (x2 : Int32) (s : am_S) (r : Int32 × am_S), F_X6_readAll_40_b15 rc n x1 x2 s = some r → am_Q sc d mX6_readAll (15, [.ref 40, .int x1, .int x2], [], am_hp RF s) (.int r.1, am_hp RF r.2) := by
  obtain ⟨e, rfl⟩ : ∃ e, d = e + 1 := ⟨d - 1, by omega⟩
  intro n
  induction n with
  | zero => intro x1 x2 s r h; rw [F_X6_readAll_40_b15] at h; cases h
  | succ n ih =>
  intro x1 x2 s r h
  rw [F_X6_readAll_40_b15] at h
  refine aq_iload_n (am_dg dkX6_readAll (i := 9) rfl) rfl ?_
  refine aq_aload_n (am_dg dkX6_readAll (i := 10) rfl) rfl ?_
  refine aq_getI (am_dg dkX6_readAll (i := 11) rfl) gk_6_49_40 (by decide) ?_
  by_cases hc1 : (s.1 40 2) ≤ x2
  · rw [if_pos hc1] at h
    refine aq_icT (t := 59) (am_dg dkX6_readAll (i := 12) rfl) rfl (decide_eq_true hc1) ?_
    refine aq_iconst (v := (1 : Int32)) (am_dg dkX6_readAll (i := 29) rfl) (by decide) ?_
    obtain rfl := Option.some.inj h
    exact aq_ireturn (am_dg dkX6_readAll (i := 30) rfl) rfl (Or.inr (Or.inl rfl)) rfl
  · rw [if_neg hc1] at h
    refine aq_icF (t := 59) (am_dg dkX6_readAll (i := 12) rfl) rfl (decide_eq_false hc1) ?_
    refine aq_aload_n (am_dg dkX6_readAll (i := 13) rfl) rfl ?_
    refine aq_sipush (v := (10021 : Int32)) (am_dg dkX6_readAll (i := 14) rfl) (by decide) ?_
    obtain ⟨q2, hq3, h⟩ := am_bnd h
    refine aq_virt (a := [.ref 40, .int (10021 : Int32)]) (S1 := []) (v1 := .int q2.1) (S2 := [.int q2.1]) (am_dg dkX6_readAll (i := 15) rfl) cv_6_142_6 (am_cls_c sh_40 (by decide)) rfl rfl rfl (Nat.le_of_ble_eq_true rfl) (Nat.le_of_ble_eq_true rfl) (T_X6_goPast_40 hR (by omega) hq3) rfl ?_
    by_cases hc4 : q2.1 = (0 : Int32)
    · rw [if_pos hc4] at h
      refine aq_ifT (t := 59) (am_dg dkX6_readAll (i := 16) rfl) rfl (decide_eq_true hc4) ?_
      refine aq_iconst (v := (1 : Int32)) (am_dg dkX6_readAll (i := 29) rfl) (by decide) ?_
      obtain rfl := Option.some.inj h
      exact aq_ireturn (am_dg dkX6_readAll (i := 30) rfl) rfl (Or.inr (Or.inl rfl)) rfl
    · rw [if_neg hc4] at h
      refine aq_ifF (t := 59) (am_dg dkX6_readAll (i := 16) rfl) rfl (decide_eq_false hc4) ?_
      refine aq_aload_n (am_dg dkX6_readAll (i := 17) rfl) rfl ?_
      refine aq_iload_n (am_dg dkX6_readAll (i := 18) rfl) rfl ?_
      obtain ⟨q5, hq6, h⟩ := am_bnd h
      refine aq_virt (a := [.ref 40, .int x1]) (S1 := []) (v1 := .int q5.1) (S2 := [.int q5.1]) (am_dg dkX6_readAll (i := 19) rfl) cv_6_160_6 (am_cls_c sh_40 (by decide)) rfl rfl rfl (Nat.le_of_ble_eq_true rfl) (Nat.le_of_ble_eq_true rfl) (T_X6_readOne_40 hR (by omega) (by omega) hrc hq6) rfl ?_
      by_cases hc7 : q5.1 = (0 : Int32)
      · rw [if_pos hc7] at h
        refine aq_ifF (t := 43) (am_dg dkX6_readAll (i := 20) rfl) rfl (decide_eq_false (not_not_intro hc7)) ?_
        refine aq_iconst (v := (0 : Int32)) (am_dg dkX6_readAll (i := 21) rfl) (by decide) ?_
        obtain rfl := Option.some.inj h
        exact aq_ireturn (am_dg dkX6_readAll (i := 22) rfl) rfl (Or.inr (Or.inl rfl)) rfl
      · rw [if_neg hc7] at h
        refine aq_ifT (t := 43) (am_dg dkX6_readAll (i := 20) rfl) rfl (decide_eq_true hc7) ?_
        refine aq_aload_n (am_dg dkX6_readAll (i := 23) rfl) rfl ?_
        refine aq_getR (am_dg dkX6_readAll (i := 24) rfl) gk_6_24_40 (rf_40_6 hR) ?_
        refine aq_sipush (v := (10021 : Int32)) (am_dg dkX6_readAll (i := 25) rfl) (by decide) ?_
        obtain ⟨q8, hq9, h⟩ := am_bnd h
        refine aq_virt (a := [.ref 44, .int (10021 : Int32)]) (S1 := []) (v1 := .null) (S2 := []) (am_dg dkX6_readAll (i := 26) rfl) cv_6_156_7 (am_cls_c sh_44 (by decide)) rfl rfl rfl (Nat.le_of_ble_eq_true rfl) (Nat.le_of_ble_eq_true rfl) (T_X7_addCode_44 hR (by omega) hq9) rfl ?_
        refine aq_iinc (v := (1 : Int32)) (L1 := [.ref 40, .int x1, .int (x2 + (1 : Int32))]) (am_dg dkX6_readAll (i := 27) rfl) rfl (by decide) rfl ?_
        refine aq_goto (t := 15) (am_dg dkX6_readAll (i := 28) rfl) rfl ?_
        exact ih _ _ _ _ h
set_option maxRecDepth 20000 in
theorem T_X6_readAll_40 {sc : Option (Nat × (Nat → Int32))} {RF : Nat → Nat → Option Nat} {d : Nat} (hR : am_RFok RF) (hd : 3 ≤ d) {rc : Int32 → am_S → Option (Int32 × am_S)} {dr : Nat} (hdr : dr + 2 ≤ d) (hrc : ∀ (c0 : Int32) (s2 : am_S) (r2 : Int32 × am_S), rc c0 s2 = some r2 → am_Q sc dr mX6_readCondition (0, am_L0 mX6_readCondition [.ref 40, .int c0], [], am_hp RF s2) (.int r2.1, am_hp RF r2.2)) {a1 : Int32} {s : am_S} {r : Int32 × am_S} (h : F_X6_readAll_40 rc a1 s = some r) : am_Q sc d mX6_readAll (0, am_L0 mX6_readAll [.ref 40, .int a1], [], am_hp RF s) (.int r.1, am_hp RF r.2) := by
  obtain ⟨e, rfl⟩ : ∃ e, d = e + 1 := ⟨d - 1, by omega⟩
  unfold F_X6_readAll_40 at h
  show am_Q _ _ _ (0, [.ref 40, .int a1, .null], [], _) _
  refine aq_aload_n (am_dg dkX6_readAll (i := 0) rfl) rfl ?_
  refine aq_iload_n (am_dg dkX6_readAll (i := 1) rfl) rfl ?_
  obtain ⟨q1, hq2, h⟩ := am_bnd h
  refine aq_virt (a := [.ref 40, .int a1]) (S1 := []) (v1 := .int q1.1) (S2 := [.int q1.1]) (am_dg dkX6_readAll (i := 2) rfl) cv_6_160_6 (am_cls_c sh_40 (by decide)) rfl rfl rfl (Nat.le_of_ble_eq_true rfl) (Nat.le_of_ble_eq_true rfl) (T_X6_readOne_40 hR (by omega) (by omega) hrc hq2) rfl ?_
  by_cases hc3 : q1.1 = (0 : Int32)
  · rw [if_pos hc3] at h
    refine aq_ifF (t := 10) (am_dg dkX6_readAll (i := 3) rfl) rfl (decide_eq_false (not_not_intro hc3)) ?_
    refine aq_iconst (v := (0 : Int32)) (am_dg dkX6_readAll (i := 4) rfl) (by decide) ?_
    obtain rfl := Option.some.inj h
    exact aq_ireturn (am_dg dkX6_readAll (i := 5) rfl) rfl (Or.inr (Or.inl rfl)) rfl
  · rw [if_neg hc3] at h
    refine aq_ifT (t := 10) (am_dg dkX6_readAll (i := 3) rfl) rfl (decide_eq_true hc3) ?_
    refine aq_aload_n (am_dg dkX6_readAll (i := 6) rfl) rfl ?_
    refine aq_getI (am_dg dkX6_readAll (i := 7) rfl) gk_6_35_40 (by decide) ?_
    refine aq_istore_n (L1 := [.ref 40, .int a1, .int (q1.2.1 40 5)]) (am_dg dkX6_readAll (i := 8) rfl) rfl ?_
    exact T_X6_readAll_40_b15 hR (by omega) (by omega) hrc _ _ _ _ _ h
set_option maxRecDepth 20000 in
theorem T_X6_readCondition_40_b15 {sc : Option (Nat × (Nat → Int32))} {RF : Nat → Nat → Option Nat} {d : Nat} (hR : am_RFok RF) (hd : 4 ≤ d) {rc : Int32 → am_S → Option (Int32 × am_S)} {dr : Nat} (hdr : dr + 3 ≤ d) (hrc : ∀ (c0 : Int32) (s2 : am_S) (r2 : Int32 × am_S), rc c0 s2 = some r2 → am_Q sc dr mX6_readCondition (0, am_L0 mX6_readCondition [.ref 40, .int c0], [], am_hp RF s2) (.int r2.1, am_hp RF r2.2)) : ∀ (n : Nat) (x1 : Int32) (x2 : Int32) (s : am_S) (r : Int32 × am_S), F_X6_readCondition_40_b15 rc n x1 x2 s = some r → am_Q sc d mX6_readCondition (15, [.ref 40, .int x1, .int x2], [], am_hp RF s) (.int r.1, am_hp RF r.2) := by
  obtain ⟨e, rfl⟩ : ∃ e, d = e + 1 := ⟨d - 1, by omega⟩
  intro n
  induction n with
  | zero => intro x1 x2 s r h; rw [F_X6_readCondition_40_b15] at h; cases h
  | succ n ih =>
  intro x1 x2 s r h
  rw [F_X6_readCondition_40_b15] at h
  refine aq_iload_n (am_dg dkX6_readCondition (i := 9) rfl) rfl ?_
  refine aq_aload_n (am_dg dkX6_readCondition (i := 10) rfl) rfl ?_
  refine aq_getI (am_dg dkX6_readCondition (i := 11) rfl) gk_6_49_40 (by decide) ?_
  by_cases hc1 : (s.1 40 2) ≤ x2
  · rw [if_pos hc1] at h
    refine aq_icT (t := 59) (am_dg dkX6_readCondition (i := 12) rfl) rfl (decide_eq_true hc1) ?_
    refine aq_iconst (v := (1 : Int32)) (am_dg dkX6_readCondition (i := 29) rfl) (by decide) ?_
    obtain rfl := Option.some.inj h
    exact aq_ireturn (am_dg dkX6_readCondition (i := 30) rfl) rfl (Or.inr (Or.inl rfl)) rfl
  · rw [if_neg hc1] at h
    refine aq_icF (t := 59) (am_dg dkX6_readCondition (i := 12) rfl) rfl (decide_eq_false hc1) ?_
    refine aq_aload_n (am_dg dkX6_readCondition (i := 13) rfl) rfl ?_
    refine aq_sipush (v := (10022 : Int32)) (am_dg dkX6_readCondition (i := 14) rfl) (by decide) ?_
    obtain ⟨q2, hq3, h⟩ := am_bnd h
    refine aq_virt (a := [.ref 40, .int (10022 : Int32)]) (S1 := []) (v1 := .int q2.1) (S2 := [.int q2.1]) (am_dg dkX6_readCondition (i := 15) rfl) cv_6_142_6 (am_cls_c sh_40 (by decide)) rfl rfl rfl (Nat.le_of_ble_eq_true rfl) (Nat.le_of_ble_eq_true rfl) (T_X6_goPast_40 hR (by omega) hq3) rfl ?_
    by_cases hc4 : q2.1 = (0 : Int32)
    · rw [if_pos hc4] at h
      refine aq_ifT (t := 59) (am_dg dkX6_readCondition (i := 16) rfl) rfl (decide_eq_true hc4) ?_
      refine aq_iconst (v := (1 : Int32)) (am_dg dkX6_readCondition (i := 29) rfl) (by decide) ?_
      obtain rfl := Option.some.inj h
      exact aq_ireturn (am_dg dkX6_readCondition (i := 30) rfl) rfl (Or.inr (Or.inl rfl)) rfl
    · rw [if_neg hc4] at h
      refine aq_ifF (t := 59) (am_dg dkX6_readCondition (i := 16) rfl) rfl (decide_eq_false hc4) ?_
      refine aq_aload_n (am_dg dkX6_readCondition (i := 17) rfl) rfl ?_
      refine aq_iload_n (am_dg dkX6_readCondition (i := 18) rfl) rfl ?_
      obtain ⟨q5, hq6, h⟩ := am_bnd h
      refine aq_virt (a := [.ref 40, .int x1]) (S1 := []) (v1 := .int q5.1) (S2 := [.int q5.1]) (am_dg dkX6_readCondition (i := 19) rfl) cv_6_153_6 (am_cls_c sh_40 (by decide)) rfl rfl rfl (Nat.le_of_ble_eq_true rfl) (Nat.le_of_ble_eq_true rfl) (T_X6_readAll_40 hR (by omega) (by omega) hrc hq6) rfl ?_
      by_cases hc7 : q5.1 = (0 : Int32)
      · rw [if_pos hc7] at h
        refine aq_ifF (t := 43) (am_dg dkX6_readCondition (i := 20) rfl) rfl (decide_eq_false (not_not_intro hc7)) ?_
        refine aq_iconst (v := (0 : Int32)) (am_dg dkX6_readCondition (i := 21) rfl) (by decide) ?_
        obtain rfl := Option.some.inj h
        exact aq_ireturn (am_dg dkX6_readCondition (i := 22) rfl) rfl (Or.inr (Or.inl rfl)) rfl
      · rw [if_neg hc7] at h
        refine aq_ifT (t := 43) (am_dg dkX6_readCondition (i := 20) rfl) rfl (decide_eq_true hc7) ?_
        refine aq_aload_n (am_dg dkX6_readCondition (i := 23) rfl) rfl ?_
        refine aq_getR (am_dg dkX6_readCondition (i := 24) rfl) gk_6_24_40 (rf_40_6 hR) ?_
        refine aq_sipush (v := (10022 : Int32)) (am_dg dkX6_readCondition (i := 25) rfl) (by decide) ?_
        obtain ⟨q8, hq9, h⟩ := am_bnd h
        refine aq_virt (a := [.ref 44, .int (10022 : Int32)]) (S1 := []) (v1 := .null) (S2 := []) (am_dg dkX6_readCondition (i := 26) rfl) cv_6_156_7 (am_cls_c sh_44 (by decide)) rfl rfl rfl (Nat.le_of_ble_eq_true rfl) (Nat.le_of_ble_eq_true rfl) (T_X7_addCode_44 hR (by omega) hq9) rfl ?_
        refine aq_iinc (v := (1 : Int32)) (L1 := [.ref 40, .int x1, .int (x2 + (1 : Int32))]) (am_dg dkX6_readCondition (i := 27) rfl) rfl (by decide) rfl ?_
        refine aq_goto (t := 15) (am_dg dkX6_readCondition (i := 28) rfl) rfl ?_
        exact ih _ _ _ _ h
set_option maxRecDepth 20000 in
theorem T_X6_readCondition_40_o {sc : Option (Nat × (Nat → Int32))} {RF : Nat → Nat → Option Nat} {d : Nat} (hR : am_RFok RF) (hd : 4 ≤ d) {rc : Int32 → am_S → Option (Int32 × am_S)} {dr : Nat} (hdr : dr + 3 ≤ d) (hrc : ∀ (c0 : Int32) (s2 : am_S) (r2 : Int32 × am_S), rc c0 s2 = some r2 → am_Q sc dr mX6_readCondition (0, am_L0 mX6_readCondition [.ref 40, .int c0], [], am_hp RF s2) (.int r2.1, am_hp RF r2.2)) {a1 : Int32} {s : am_S} {r : Int32 × am_S} (h : F_X6_readCondition_40_o rc a1 s = some r) : am_Q sc d mX6_readCondition (0, am_L0 mX6_readCondition [.ref 40, .int a1], [], am_hp RF s) (.int r.1, am_hp RF r.2) := by
  obtain ⟨e, rfl⟩ : ∃ e, d = e + 1 := ⟨d - 1, by omega⟩
  unfold F_X6_readCondition_40_o at h
  show am_Q _ _ _ (0, [.ref 40, .int a1, .null], [], _) _
  refine aq_aload_n (am_dg dkX6_readCondition (i := 0) rfl) rfl ?_
  refine aq_iload_n (am_dg dkX6_readCondition (i := 1) rfl) rfl ?_
  obtain ⟨q1, hq2, h⟩ := am_bnd h
  refine aq_virt (a := [.ref 40, .int a1]) (S1 := []) (v1 := .int q1.1) (S2 := [.int q1.1]) (am_dg dkX6_readCondition (i := 2) rfl) cv_6_153_6 (am_cls_c sh_40 (by decide)) rfl rfl rfl (Nat.le_of_ble_eq_true rfl) (Nat.le_of_ble_eq_true rfl) (T_X6_readAll_40 hR (by omega) (by omega) hrc hq2) rfl ?_
  by_cases hc3 : q1.1 = (0 : Int32)
  · rw [if_pos hc3] at h
    refine aq_ifF (t := 10) (am_dg dkX6_readCondition (i := 3) rfl) rfl (decide_eq_false (not_not_intro hc3)) ?_
    refine aq_iconst (v := (0 : Int32)) (am_dg dkX6_readCondition (i := 4) rfl) (by decide) ?_
    obtain rfl := Option.some.inj h
    exact aq_ireturn (am_dg dkX6_readCondition (i := 5) rfl) rfl (Or.inr (Or.inl rfl)) rfl
  · rw [if_neg hc3] at h
    refine aq_ifT (t := 10) (am_dg dkX6_readCondition (i := 3) rfl) rfl (decide_eq_true hc3) ?_
    refine aq_aload_n (am_dg dkX6_readCondition (i := 6) rfl) rfl ?_
    refine aq_getI (am_dg dkX6_readCondition (i := 7) rfl) gk_6_35_40 (by decide) ?_
    refine aq_istore_n (L1 := [.ref 40, .int a1, .int (q1.2.1 40 5)]) (am_dg dkX6_readCondition (i := 8) rfl) rfl ?_
    exact T_X6_readCondition_40_b15 hR (by omega) (by omega) hrc _ _ _ _ _ h
set_option maxRecDepth 20000 in
theorem T_X6_readCondition_40_n {sc : Option (Nat × (Nat → Int32))} {RF : Nat → Nat → Option Nat} (hR : am_RFok RF) : ∀ (n d : Nat) (hd : 3 * n + 4 ≤ d) (a1 : Int32) (s : am_S) (r : Int32 × am_S), F_X6_readCondition_40 n a1 s = some r → am_Q sc d mX6_readCondition (0, am_L0 mX6_readCondition [.ref 40, .int a1], [], am_hp RF s) (.int r.1, am_hp RF r.2) := by
  intro n
  induction n with
  | zero => intro d hd a1 s r h; cases h
  | succ n ih =>
    intro d hd a1 s r h
    exact T_X6_readCondition_40_o hR (by omega) (rc := F_X6_readCondition_40 n) (dr := d - 3) (by omega) (fun c0 s2 r2 h2 => ih (d - 3) (by omega) c0 s2 r2 h2) h
set_option maxRecDepth 20000 in
theorem T_X6_readCondition_40 {sc : Option (Nat × (Nat → Int32))} {RF : Nat → Nat → Option Nat} {d : Nat} (hR : am_RFok RF) (hd : 35 ≤ d) {a1 : Int32} {s : am_S} {r : Int32 × am_S} (h : F_X6_readCondition_40 10 a1 s = some r) : am_Q sc d mX6_readCondition (0, am_L0 mX6_readCondition [.ref 40, .int a1], [], am_hp RF s) (.int r.1, am_hp RF r.2) := T_X6_readCondition_40_n hR 10 d (by omega) _ _ _ h
set_option maxRecDepth 20000 in
theorem T_X7_addRule_44 {sc : Option (Nat × (Nat → Int32))} {RF : Nat → Nat → Option Nat} {d : Nat} (hR : am_RFok RF) (hd : 0 ≤ d) {a1 : Int32} {a2 : Int32} {a3 : Int32} {s : am_S} {r : am_S} (h : F_X7_addRule_44 a1 a2 a3 s = some r) : am_Q sc d mX7_addRule (0, am_L0 mX7_addRule [.ref 44, .int a1, .int a2, .int a3], [], am_hp RF s) (.null, am_hp RF r) := by
  unfold F_X7_addRule_44 at h
  show am_Q _ _ _ (0, [.ref 44, .int a1, .int a2, .int a3], [], _) _
  refine aq_aload_n (am_dg dkX7_addRule (i := 0) rfl) rfl ?_
  refine aq_getI (am_dg dkX7_addRule (i := 1) rfl) gk_7_29_44 (by decide) ?_
  refine aq_bipush (v := (8 : Int32)) (am_dg dkX7_addRule (i := 2) rfl) (by decide) ?_
  by_cases hc1 : (8 : Int32) ≤ (s.1 44 0)
  · rw [if_pos hc1] at h
    refine aq_icT (t := 62) (am_dg dkX7_addRule (i := 3) rfl) rfl (decide_eq_true hc1) ?_
    obtain rfl := Option.some.inj h
    exact aq_return (am_dg dkX7_addRule (i := 35) rfl) rfl
  · rw [if_neg hc1] at h
    refine aq_icF (t := 62) (am_dg dkX7_addRule (i := 3) rfl) rfl (decide_eq_false hc1) ?_
    refine aq_aload_n (am_dg dkX7_addRule (i := 4) rfl) rfl ?_
    refine aq_getR (am_dg dkX7_addRule (i := 5) rfl) gk_7_11_44 (rf_44_2 hR) ?_
    refine aq_aload_n (am_dg dkX7_addRule (i := 6) rfl) rfl ?_
    refine aq_getI (am_dg dkX7_addRule (i := 7) rfl) gk_7_29_44 (by decide) ?_
    refine aq_iload_n (am_dg dkX7_addRule (i := 8) rfl) rfl ?_
    obtain ⟨hg2, h⟩ := am_guard h
    refine aq_iast (am_dg dkX7_addRule (i := 9) rfl) sh_45 hg2 ?_
    obtain ⟨s3, hs4, h⟩ := am_bnd h
    rw [Option.some.inj hs4]
    refine aq_aload_n (am_dg dkX7_addRule (i := 10) rfl) rfl ?_
    refine aq_getR (am_dg dkX7_addRule (i := 11) rfl) gk_7_15_44 (rf_44_3 hR) ?_
    refine aq_aload_n (am_dg dkX7_addRule (i := 12) rfl) rfl ?_
    refine aq_getI (am_dg dkX7_addRule (i := 13) rfl) gk_7_29_44 (by decide) ?_
    refine aq_iload_n (am_dg dkX7_addRule (i := 14) rfl) rfl ?_
    obtain ⟨hg5, h⟩ := am_guard h
    refine aq_iast (am_dg dkX7_addRule (i := 15) rfl) sh_46 hg5 ?_
    obtain ⟨s6, hs7, h⟩ := am_bnd h
    rw [Option.some.inj hs7]
    refine aq_aload_n (am_dg dkX7_addRule (i := 16) rfl) rfl ?_
    refine aq_getR (am_dg dkX7_addRule (i := 17) rfl) gk_7_18_44 (rf_44_4 hR) ?_
    refine aq_aload_n (am_dg dkX7_addRule (i := 18) rfl) rfl ?_
    refine aq_getI (am_dg dkX7_addRule (i := 19) rfl) gk_7_29_44 (by decide) ?_
    refine aq_iload_n (am_dg dkX7_addRule (i := 20) rfl) rfl ?_
    obtain ⟨hg8, h⟩ := am_guard h
    refine aq_iast (am_dg dkX7_addRule (i := 21) rfl) sh_47 hg8 ?_
    obtain ⟨s9, hs10, h⟩ := am_bnd h
    rw [Option.some.inj hs10]
    refine aq_aload_n (am_dg dkX7_addRule (i := 22) rfl) rfl ?_
    refine aq_getR (am_dg dkX7_addRule (i := 23) rfl) gk_7_21_44 (rf_44_5 hR) ?_
    refine aq_aload_n (am_dg dkX7_addRule (i := 24) rfl) rfl ?_
    refine aq_getI (am_dg dkX7_addRule (i := 25) rfl) gk_7_29_44 (by decide) ?_
    refine aq_aload_n (am_dg dkX7_addRule (i := 26) rfl) rfl ?_
    refine aq_getI (am_dg dkX7_addRule (i := 27) rfl) gk_7_33_44 (by decide) ?_
    obtain ⟨hg11, h⟩ := am_guard h
    refine aq_iast (am_dg dkX7_addRule (i := 28) rfl) sh_48 hg11 ?_
    obtain ⟨s12, hs13, h⟩ := am_bnd h
    rw [Option.some.inj hs13]
    refine aq_aload_n (am_dg dkX7_addRule (i := 29) rfl) rfl ?_
    refine aq_dup (am_dg dkX7_addRule (i := 30) rfl) rfl ?_
    refine aq_getI (am_dg dkX7_addRule (i := 31) rfl) gk_7_29_44 (by decide) ?_
    refine aq_iconst (v := (1 : Int32)) (am_dg dkX7_addRule (i := 32) rfl) (by decide) ?_
    refine aq_iadd (am_dg dkX7_addRule (i := 33) rfl) ?_
    refine aq_putI (am_dg dkX7_addRule (i := 34) rfl) gk_7_29_44 ?_
    obtain ⟨s14, hs15, h⟩ := am_bnd h
    rw [Option.some.inj hs15]
    obtain rfl := Option.some.inj h
    exact aq_return (am_dg dkX7_addRule (i := 35) rfl) rfl
set_option maxRecDepth 20000 in
theorem T_X6_readRule_40_b70 {sc : Option (Nat × (Nat → Int32))} {RF : Nat → Nat → Option Nat} {d : Nat} (hR : am_RFok RF) (hd : 36 ≤ d) : ∀ (x1 : Int32) (x2 : Int32) (w3 : Value) (s : am_S) (r : Int32 × am_S), F_X6_readRule_40_b70 x1 x2 s = some r → am_Q sc d mX6_readRule (70, [.ref 40, .int x1, .int x2, w3], [], am_hp RF s) (.int r.1, am_hp RF r.2) := by
  obtain ⟨e, rfl⟩ : ∃ e, d = e + 1 := ⟨d - 1, by omega⟩
  intro x1 x2 w3 s r h
  unfold F_X6_readRule_40_b70 at h
  refine aq_aload_n (am_dg dkX6_readRule (i := 37) rfl) rfl ?_
  obtain ⟨q1, hq2, h⟩ := am_bnd h
  refine aq_virt (a := [.ref 40]) (S1 := []) (v1 := .int q1.1) (S2 := [.int q1.1]) (am_dg dkX6_readRule (i := 38) rfl) cv_6_41_6 (am_cls_c sh_40 (by decide)) rfl rfl rfl (Nat.le_of_ble_eq_true rfl) (Nat.le_of_ble_eq_true rfl) (T_X6_current_40 hR (by omega) hq2) rfl ?_
  refine aq_sipush (v := (10040 : Int32)) (am_dg dkX6_readRule (i := 39) rfl) (by decide) ?_
  refine aq_isub (am_dg dkX6_readRule (i := 40) rfl) ?_
  refine aq_istore_n (L1 := [.ref 40, .int x1, .int x2, .int (q1.1 - (10040 : Int32))]) (am_dg dkX6_readRule (i := 41) rfl) rfl ?_
  refine aq_iload_n (am_dg dkX6_readRule (i := 42) rfl) rfl ?_
  refine aq_iconst (v := (0 : Int32)) (am_dg dkX6_readRule (i := 43) rfl) (by decide) ?_
  refine aq_iconst (v := (2 : Int32)) (am_dg dkX6_readRule (i := 44) rfl) (by decide) ?_
  obtain ⟨q3, hq4, h⟩ := am_bnd h
  refine aq_static (a := [.int (q1.1 - (10040 : Int32)), .int (0 : Int32), .int (2 : Int32)]) (S1 := []) (v1 := .int q3.1) (S2 := [.int q3.1]) (am_dg dkX6_readRule (i := 45) rfl) ct_6_135 rfl rfl rfl (Nat.le_of_ble_eq_true rfl) (Nat.le_of_ble_eq_true rfl) (T_X11_isWithin hR (by omega) hq4) rfl ?_
  by_cases hc5 : q3.1 = (0 : Int32)
  · rw [if_pos hc5] at h
    refine aq_ifF (t := 90) (am_dg dkX6_readRule (i := 46) rfl) rfl (decide_eq_false (not_not_intro hc5)) ?_
    refine aq_iconst (v := (0 : Int32)) (am_dg dkX6_readRule (i := 47) rfl) (by decide) ?_
    obtain rfl := Option.some.inj h
    exact aq_ireturn (am_dg dkX6_readRule (i := 48) rfl) rfl (Or.inr (Or.inl rfl)) rfl
  · rw [if_neg hc5] at h
    refine aq_ifT (t := 90) (am_dg dkX6_readRule (i := 46) rfl) rfl (decide_eq_true hc5) ?_
    refine aq_aload_n (am_dg dkX6_readRule (i := 49) rfl) rfl ?_
    refine aq_dup (am_dg dkX6_readRule (i := 50) rfl) rfl ?_
    refine aq_getI (am_dg dkX6_readRule (i := 51) rfl) gk_6_35_40 (by decide) ?_
    refine aq_iconst (v := (1 : Int32)) (am_dg dkX6_readRule (i := 52) rfl) (by decide) ?_
    refine aq_iadd (am_dg dkX6_readRule (i := 53) rfl) ?_
    refine aq_putI (am_dg dkX6_readRule (i := 54) rfl) gk_6_35_40 ?_
    obtain ⟨s6, hs7, h⟩ := am_bnd h
    rw [Option.some.inj hs7]
    refine aq_aload_n (am_dg dkX6_readRule (i := 55) rfl) rfl ?_
    refine aq_sipush (v := (10051 : Int32)) (am_dg dkX6_readRule (i := 56) rfl) (by decide) ?_
    obtain ⟨q8, hq9, h⟩ := am_bnd h
    refine aq_virt (a := [.ref 40, .int (10051 : Int32)]) (S1 := []) (v1 := .int q8.1) (S2 := [.int q8.1]) (am_dg dkX6_readRule (i := 57) rfl) cv_6_142_6 (am_cls_c sh_40 (by decide)) rfl rfl rfl (Nat.le_of_ble_eq_true rfl) (Nat.le_of_ble_eq_true rfl) (T_X6_goPast_40 hR (by omega) hq9) rfl ?_
    by_cases hc10 : q8.1 = (0 : Int32)
    · rw [if_pos hc10] at h
      refine aq_ifF (t := 112) (am_dg dkX6_readRule (i := 58) rfl) rfl (decide_eq_false (not_not_intro hc10)) ?_
      refine aq_iconst (v := (0 : Int32)) (am_dg dkX6_readRule (i := 59) rfl) (by decide) ?_
      obtain rfl := Option.some.inj h
      exact aq_ireturn (am_dg dkX6_readRule (i := 60) rfl) rfl (Or.inr (Or.inl rfl)) rfl
    · rw [if_neg hc10] at h
      refine aq_ifT (t := 112) (am_dg dkX6_readRule (i := 58) rfl) rfl (decide_eq_true hc10) ?_
      refine aq_aload_n (am_dg dkX6_readRule (i := 61) rfl) rfl ?_
      refine aq_getR (am_dg dkX6_readRule (i := 62) rfl) gk_6_24_40 (rf_40_6 hR) ?_
      refine aq_iload_n (am_dg dkX6_readRule (i := 63) rfl) rfl ?_
      refine aq_iload_n (am_dg dkX6_readRule (i := 64) rfl) rfl ?_
      refine aq_iload_n (am_dg dkX6_readRule (i := 65) rfl) rfl ?_
      obtain ⟨q11, hq12, h⟩ := am_bnd h
      refine aq_virt (a := [.ref 44, .int x1, .int (q1.1 - (10040 : Int32)), .int x2]) (S1 := []) (v1 := .null) (S2 := []) (am_dg dkX6_readRule (i := 66) rfl) cv_6_149_7 (am_cls_c sh_44 (by decide)) rfl rfl rfl (Nat.le_of_ble_eq_true rfl) (Nat.le_of_ble_eq_true rfl) (T_X7_addRule_44 hR (by omega) hq12) rfl ?_
      refine aq_iconst (v := (1 : Int32)) (am_dg dkX6_readRule (i := 67) rfl) (by decide) ?_
      obtain rfl := Option.some.inj h
      exact aq_ireturn (am_dg dkX6_readRule (i := 68) rfl) rfl (Or.inr (Or.inl rfl)) rfl
set_option maxRecDepth 20000 in
theorem T_X6_readRule_40 {sc : Option (Nat × (Nat → Int32))} {RF : Nat → Nat → Option Nat} {d : Nat} (hR : am_RFok RF) (hd : 36 ≤ d) {s : am_S} {r : Int32 × am_S} (h : F_X6_readRule_40 s = some r) : am_Q sc d mX6_readRule (0, am_L0 mX6_readRule [.ref 40], [], am_hp RF s) (.int r.1, am_hp RF r.2) := by
  obtain ⟨e, rfl⟩ : ∃ e, d = e + 1 := ⟨d - 1, by omega⟩
  unfold F_X6_readRule_40 at h
  show am_Q _ _ _ (0, [.ref 40, .null, .null, .null], [], _) _
  refine aq_aload_n (am_dg dkX6_readRule (i := 0) rfl) rfl ?_
  obtain ⟨q1, hq2, h⟩ := am_bnd h
  refine aq_virt (a := [.ref 40]) (S1 := []) (v1 := .int q1.1) (S2 := [.int q1.1]) (am_dg dkX6_readRule (i := 1) rfl) cv_6_41_6 (am_cls_c sh_40 (by decide)) rfl rfl rfl (Nat.le_of_ble_eq_true rfl) (Nat.le_of_ble_eq_true rfl) (T_X6_current_40 hR (by omega) hq2) rfl ?_
  refine aq_sipush (v := (10030 : Int32)) (am_dg dkX6_readRule (i := 2) rfl) (by decide) ?_
  refine aq_isub (am_dg dkX6_readRule (i := 3) rfl) ?_
  refine aq_istore_n (L1 := [.ref 40, .int (q1.1 - (10030 : Int32)), .null, .null]) (am_dg dkX6_readRule (i := 4) rfl) rfl ?_
  refine aq_aload_n (am_dg dkX6_readRule (i := 5) rfl) rfl ?_
  refine aq_getR (am_dg dkX6_readRule (i := 6) rfl) gk_6_24_40 (rf_40_6 hR) ?_
  refine aq_getI (am_dg dkX6_readRule (i := 7) rfl) gk_6_56_44 (by decide) ?_
  refine aq_bipush (v := (8 : Int32)) (am_dg dkX6_readRule (i := 8) rfl) (by decide) ?_
  by_cases hc3 : (8 : Int32) ≤ (q1.2.1 44 0)
  · rw [if_pos hc3] at h
    refine aq_icT (t := 30) (am_dg dkX6_readRule (i := 9) rfl) rfl (decide_eq_true hc3) ?_
    refine aq_iconst (v := (0 : Int32)) (am_dg dkX6_readRule (i := 15) rfl) (by decide) ?_
    obtain rfl := Option.some.inj h
    exact aq_ireturn (am_dg dkX6_readRule (i := 16) rfl) rfl (Or.inr (Or.inl rfl)) rfl
  · rw [if_neg hc3] at h
    refine aq_icF (t := 30) (am_dg dkX6_readRule (i := 9) rfl) rfl (decide_eq_false hc3) ?_
    refine aq_iload_n (am_dg dkX6_readRule (i := 10) rfl) rfl ?_
    refine aq_iconst (v := (0 : Int32)) (am_dg dkX6_readRule (i := 11) rfl) (by decide) ?_
    refine aq_iconst (v := (5 : Int32)) (am_dg dkX6_readRule (i := 12) rfl) (by decide) ?_
    obtain ⟨q4, hq5, h⟩ := am_bnd h
    refine aq_static (a := [.int (q1.1 - (10030 : Int32)), .int (0 : Int32), .int (5 : Int32)]) (S1 := []) (v1 := .int q4.1) (S2 := [.int q4.1]) (am_dg dkX6_readRule (i := 13) rfl) ct_6_135 rfl rfl rfl (Nat.le_of_ble_eq_true rfl) (Nat.le_of_ble_eq_true rfl) (T_X11_isWithin hR (by omega) hq5) rfl ?_
    by_cases hc6 : q4.1 = (0 : Int32)
    · rw [if_pos hc6] at h
      refine aq_ifF (t := 32) (am_dg dkX6_readRule (i := 14) rfl) rfl (decide_eq_false (not_not_intro hc6)) ?_
      refine aq_iconst (v := (0 : Int32)) (am_dg dkX6_readRule (i := 15) rfl) (by decide) ?_
      obtain rfl := Option.some.inj h
      exact aq_ireturn (am_dg dkX6_readRule (i := 16) rfl) rfl (Or.inr (Or.inl rfl)) rfl
    · rw [if_neg hc6] at h
      refine aq_ifT (t := 32) (am_dg dkX6_readRule (i := 14) rfl) rfl (decide_eq_true hc6) ?_
      refine aq_aload_n (am_dg dkX6_readRule (i := 17) rfl) rfl ?_
      refine aq_dup (am_dg dkX6_readRule (i := 18) rfl) rfl ?_
      refine aq_getI (am_dg dkX6_readRule (i := 19) rfl) gk_6_35_40 (by decide) ?_
      refine aq_iconst (v := (1 : Int32)) (am_dg dkX6_readRule (i := 20) rfl) (by decide) ?_
      refine aq_iadd (am_dg dkX6_readRule (i := 21) rfl) ?_
      refine aq_putI (am_dg dkX6_readRule (i := 22) rfl) gk_6_35_40 ?_
      obtain ⟨s7, hs8, h⟩ := am_bnd h
      rw [Option.some.inj hs8]
      refine aq_aload_n (am_dg dkX6_readRule (i := 23) rfl) rfl ?_
      refine aq_getR (am_dg dkX6_readRule (i := 24) rfl) gk_6_24_40 (rf_40_6 hR) ?_
      refine aq_getI (am_dg dkX6_readRule (i := 25) rfl) gk_6_139_44 (by decide) ?_
      refine aq_istore_n (L1 := [.ref 40, .int (q1.1 - (10030 : Int32)), .int (s7.1 44 1), .null]) (am_dg dkX6_readRule (i := 26) rfl) rfl ?_
      refine aq_aload_n (am_dg dkX6_readRule (i := 27) rfl) rfl ?_
      refine aq_sipush (v := (10050 : Int32)) (am_dg dkX6_readRule (i := 28) rfl) (by decide) ?_
      obtain ⟨q9, hq10, h⟩ := am_bnd h
      refine aq_virt (a := [.ref 40, .int (10050 : Int32)]) (S1 := []) (v1 := .int q9.1) (S2 := [.int q9.1]) (am_dg dkX6_readRule (i := 29) rfl) cv_6_142_6 (am_cls_c sh_40 (by decide)) rfl rfl rfl (Nat.le_of_ble_eq_true rfl) (Nat.le_of_ble_eq_true rfl) (T_X6_goPast_40 hR (by omega) hq10) rfl ?_
      by_cases hc11 : q9.1 = (0 : Int32)
      · rw [if_pos hc11] at h
        refine aq_ifT (t := 70) (am_dg dkX6_readRule (i := 30) rfl) rfl (decide_eq_true hc11) ?_
        exact T_X6_readRule_40_b70 hR (by omega) _ _ _ _ _ h
      · rw [if_neg hc11] at h
        refine aq_ifF (t := 70) (am_dg dkX6_readRule (i := 30) rfl) rfl (decide_eq_false hc11) ?_
        refine aq_aload_n (am_dg dkX6_readRule (i := 31) rfl) rfl ?_
        refine aq_iconst (v := (0 : Int32)) (am_dg dkX6_readRule (i := 32) rfl) (by decide) ?_
        obtain ⟨q12, hq13, h⟩ := am_bnd h
        refine aq_virt (a := [.ref 40, .int (0 : Int32)]) (S1 := []) (v1 := .int q12.1) (S2 := [.int q12.1]) (am_dg dkX6_readRule (i := 33) rfl) cv_6_146_6 (am_cls_c sh_40 (by decide)) rfl rfl rfl (Nat.le_of_ble_eq_true rfl) (Nat.le_of_ble_eq_true rfl) (T_X6_readCondition_40 hR (by omega) hq13) rfl ?_
        by_cases hc14 : q12.1 = (0 : Int32)
        · rw [if_pos hc14] at h
          refine aq_ifF (t := 70) (am_dg dkX6_readRule (i := 34) rfl) rfl (decide_eq_false (not_not_intro hc14)) ?_
          refine aq_iconst (v := (0 : Int32)) (am_dg dkX6_readRule (i := 35) rfl) (by decide) ?_
          obtain rfl := Option.some.inj h
          exact aq_ireturn (am_dg dkX6_readRule (i := 36) rfl) rfl (Or.inr (Or.inl rfl)) rfl
        · rw [if_neg hc14] at h
          refine aq_ifT (t := 70) (am_dg dkX6_readRule (i := 34) rfl) rfl (decide_eq_true hc14) ?_
          exact T_X6_readRule_40_b70 hR (by omega) _ _ _ _ _ h
set_option maxRecDepth 20000 in
theorem T_X7_becomeLike_17_44 {sc : Option (Nat × (Nat → Int32))} {RF : Nat → Nat → Option Nat} {d : Nat} (hR : am_RFok RF) (hd : 0 ≤ d) {s : am_S} {r : am_S} (h : F_X7_becomeLike_17_44 s = some r) : am_Q sc d mX7_becomeLike (0, am_L0 mX7_becomeLike [.ref 17, .ref 44], [], am_hp RF s) (.null, am_hp RF r) := by
  unfold F_X7_becomeLike_17_44 at h
  show am_Q _ _ _ (0, [.ref 17, .ref 44], [], _) _
  refine aq_aload_n (am_dg dkX7_becomeLike (i := 0) rfl) rfl ?_
  refine aq_aload_n (am_dg dkX7_becomeLike (i := 1) rfl) rfl ?_
  refine aq_getI (am_dg dkX7_becomeLike (i := 2) rfl) gk_7_29_44 (by decide) ?_
  refine aq_putI (am_dg dkX7_becomeLike (i := 3) rfl) gk_7_29_17 ?_
  obtain ⟨s1, hs2, h⟩ := am_bnd h
  rw [Option.some.inj hs2]
  refine aq_aload_n (am_dg dkX7_becomeLike (i := 4) rfl) rfl ?_
  refine aq_aload_n (am_dg dkX7_becomeLike (i := 5) rfl) rfl ?_
  refine aq_getI (am_dg dkX7_becomeLike (i := 6) rfl) gk_7_33_44 (by decide) ?_
  refine aq_putI (am_dg dkX7_becomeLike (i := 7) rfl) gk_7_33_17 ?_
  obtain ⟨s3, hs4, h⟩ := am_bnd h
  rw [Option.some.inj hs4]
  refine aq_aload_n (am_dg dkX7_becomeLike (i := 8) rfl) rfl ?_
  refine aq_getR (am_dg dkX7_becomeLike (i := 9) rfl) gk_7_11_44 (rf_44_2 hR) ?_
  refine aq_iconst (v := (0 : Int32)) (am_dg dkX7_becomeLike (i := 10) rfl) (by decide) ?_
  refine aq_aload_n (am_dg dkX7_becomeLike (i := 11) rfl) rfl ?_
  refine aq_getR (am_dg dkX7_becomeLike (i := 12) rfl) gk_7_11_17 (rf_17_2 hR) ?_
  refine aq_iconst (v := (0 : Int32)) (am_dg dkX7_becomeLike (i := 13) rfl) (by decide) ?_
  refine aq_bipush (v := (8 : Int32)) (am_dg dkX7_becomeLike (i := 14) rfl) (by decide) ?_
  obtain ⟨hg5, h⟩ := am_guard h
  refine aq_copy (am_dg dkX7_becomeLike (i := 15) rfl) yk_7_36.1 yk_7_36.2 (Nat.le_of_ble_eq_true rfl) sh_45 sh_18 hg5 ?_
  obtain ⟨s6, hs7, h⟩ := am_bnd h
  rw [Option.some.inj hs7]
  refine aq_aload_n (am_dg dkX7_becomeLike (i := 16) rfl) rfl ?_
  refine aq_getR (am_dg dkX7_becomeLike (i := 17) rfl) gk_7_15_44 (rf_44_3 hR) ?_
  refine aq_iconst (v := (0 : Int32)) (am_dg dkX7_becomeLike (i := 18) rfl) (by decide) ?_
  refine aq_aload_n (am_dg dkX7_becomeLike (i := 19) rfl) rfl ?_
  refine aq_getR (am_dg dkX7_becomeLike (i := 20) rfl) gk_7_15_17 (rf_17_3 hR) ?_
  refine aq_iconst (v := (0 : Int32)) (am_dg dkX7_becomeLike (i := 21) rfl) (by decide) ?_
  refine aq_bipush (v := (8 : Int32)) (am_dg dkX7_becomeLike (i := 22) rfl) (by decide) ?_
  obtain ⟨hg8, h⟩ := am_guard h
  refine aq_copy (am_dg dkX7_becomeLike (i := 23) rfl) yk_7_36.1 yk_7_36.2 (Nat.le_of_ble_eq_true rfl) sh_46 sh_19 hg8 ?_
  obtain ⟨s9, hs10, h⟩ := am_bnd h
  rw [Option.some.inj hs10]
  refine aq_aload_n (am_dg dkX7_becomeLike (i := 24) rfl) rfl ?_
  refine aq_getR (am_dg dkX7_becomeLike (i := 25) rfl) gk_7_18_44 (rf_44_4 hR) ?_
  refine aq_iconst (v := (0 : Int32)) (am_dg dkX7_becomeLike (i := 26) rfl) (by decide) ?_
  refine aq_aload_n (am_dg dkX7_becomeLike (i := 27) rfl) rfl ?_
  refine aq_getR (am_dg dkX7_becomeLike (i := 28) rfl) gk_7_18_17 (rf_17_4 hR) ?_
  refine aq_iconst (v := (0 : Int32)) (am_dg dkX7_becomeLike (i := 29) rfl) (by decide) ?_
  refine aq_bipush (v := (8 : Int32)) (am_dg dkX7_becomeLike (i := 30) rfl) (by decide) ?_
  obtain ⟨hg11, h⟩ := am_guard h
  refine aq_copy (am_dg dkX7_becomeLike (i := 31) rfl) yk_7_36.1 yk_7_36.2 (Nat.le_of_ble_eq_true rfl) sh_47 sh_20 hg11 ?_
  obtain ⟨s12, hs13, h⟩ := am_bnd h
  rw [Option.some.inj hs13]
  refine aq_aload_n (am_dg dkX7_becomeLike (i := 32) rfl) rfl ?_
  refine aq_getR (am_dg dkX7_becomeLike (i := 33) rfl) gk_7_21_44 (rf_44_5 hR) ?_
  refine aq_iconst (v := (0 : Int32)) (am_dg dkX7_becomeLike (i := 34) rfl) (by decide) ?_
  refine aq_aload_n (am_dg dkX7_becomeLike (i := 35) rfl) rfl ?_
  refine aq_getR (am_dg dkX7_becomeLike (i := 36) rfl) gk_7_21_17 (rf_17_5 hR) ?_
  refine aq_iconst (v := (0 : Int32)) (am_dg dkX7_becomeLike (i := 37) rfl) (by decide) ?_
  refine aq_bipush (v := (8 : Int32)) (am_dg dkX7_becomeLike (i := 38) rfl) (by decide) ?_
  obtain ⟨hg14, h⟩ := am_guard h
  refine aq_copy (am_dg dkX7_becomeLike (i := 39) rfl) yk_7_36.1 yk_7_36.2 (Nat.le_of_ble_eq_true rfl) sh_48 sh_21 hg14 ?_
  obtain ⟨s15, hs16, h⟩ := am_bnd h
  rw [Option.some.inj hs16]
  refine aq_aload_n (am_dg dkX7_becomeLike (i := 40) rfl) rfl ?_
  refine aq_getR (am_dg dkX7_becomeLike (i := 41) rfl) gk_7_26_44 (rf_44_6 hR) ?_
  refine aq_iconst (v := (0 : Int32)) (am_dg dkX7_becomeLike (i := 42) rfl) (by decide) ?_
  refine aq_aload_n (am_dg dkX7_becomeLike (i := 43) rfl) rfl ?_
  refine aq_getR (am_dg dkX7_becomeLike (i := 44) rfl) gk_7_26_17 (rf_17_6 hR) ?_
  refine aq_iconst (v := (0 : Int32)) (am_dg dkX7_becomeLike (i := 45) rfl) (by decide) ?_
  refine aq_aload_n (am_dg dkX7_becomeLike (i := 46) rfl) rfl ?_
  refine aq_getI (am_dg dkX7_becomeLike (i := 47) rfl) gk_7_33_44 (by decide) ?_
  obtain ⟨hg17, h⟩ := am_guard h
  refine aq_copy (am_dg dkX7_becomeLike (i := 48) rfl) yk_7_36.1 yk_7_36.2 (Nat.le_of_ble_eq_true rfl) sh_49 sh_22 hg17 ?_
  obtain ⟨s18, hs19, h⟩ := am_bnd h
  rw [Option.some.inj hs19]
  obtain rfl := Option.some.inj h
  exact aq_return (am_dg dkX7_becomeLike (i := 49) rfl) rfl
