/-! LAYER 1: the runs (written by wip/whole/gen_f.py) -/
set_option maxRecDepth 20000 in
theorem T_X6_readInto_40_17_b78 {sc : Option (Nat × (Nat → Int32))} {RF : Nat → Nat → Option Nat} {d : Nat} (hR : am_RFok RF) (hd : 37 ≤ d) : ∀ (w2 : Value) (s : am_S) (r : Int32 × am_S), F_X6_readInto_40_17_b78 s = some r → am_Q sc d mX6_readInto (78, [.ref 40, .ref 17, w2], [], am_hp RF s) (.int r.1, am_hp RF r.2) := by
  obtain ⟨e, rfl⟩ : ∃ e, d = e + 1 := ⟨d - 1, by omega⟩
  intro w2 s r h
  unfold F_X6_readInto_40_17_b78 at h
  refine aq_aload_n (am_dg dkX6_readInto (i := 38) rfl) rfl ?_
  refine aq_aload_n (am_dg dkX6_readInto (i := 39) rfl) rfl ?_
  refine aq_getR (am_dg dkX6_readInto (i := 40) rfl) gk_6_24_40 (rf_40_6 hR) ?_
  obtain ⟨q1, hq2, h⟩ := am_bnd h
  refine aq_virt (a := [.ref 17, .ref 44]) (S1 := []) (v1 := .null) (S2 := []) (am_dg dkX6_readInto (i := 41) rfl) cv_6_52_7 (am_cls_c sh_17 (by decide)) rfl rfl rfl (Nat.le_of_ble_eq_true rfl) (Nat.le_of_ble_eq_true rfl) (T_X7_becomeLike_17_44 hR (by omega) hq2) rfl ?_
  refine aq_aload_n (am_dg dkX6_readInto (i := 42) rfl) rfl ?_
  refine aq_getI (am_dg dkX6_readInto (i := 43) rfl) gk_6_56_17 (by decide) ?_
  obtain rfl := Option.some.inj h
  exact aq_ireturn (am_dg dkX6_readInto (i := 44) rfl) rfl (Or.inl rfl) rfl
set_option maxRecDepth 20000 in
theorem T_X6_readInto_40_17_b18 {sc : Option (Nat × (Nat → Int32))} {RF : Nat → Nat → Option Nat} {d : Nat} (hR : am_RFok RF) (hd : 37 ≤ d) : ∀ (n : Nat) (x2 : Int32) (s : am_S) (r : Int32 × am_S), F_X6_readInto_40_17_b18 n x2 s = some r → am_Q sc d mX6_readInto (18, [.ref 40, .ref 17, .int x2], [], am_hp RF s) (.int r.1, am_hp RF r.2) := by
  obtain ⟨e, rfl⟩ : ∃ e, d = e + 1 := ⟨d - 1, by omega⟩
  intro n
  induction n with
  | zero => intro x2 s r h; rw [F_X6_readInto_40_17_b18] at h; cases h
  | succ n ih =>
  intro x2 s r h
  rw [F_X6_readInto_40_17_b18] at h
  refine aq_iload_n (am_dg dkX6_readInto (i := 10) rfl) rfl ?_
  refine aq_bipush (v := (8 : Int32)) (am_dg dkX6_readInto (i := 11) rfl) (by decide) ?_
  by_cases hc1 : (8 : Int32) < x2
  · rw [if_pos hc1] at h
    refine aq_icT (t := 78) (am_dg dkX6_readInto (i := 12) rfl) rfl (decide_eq_true hc1) ?_
    exact T_X6_readInto_40_17_b78 hR (by omega) _ _ _ h
  · rw [if_neg hc1] at h
    refine aq_icF (t := 78) (am_dg dkX6_readInto (i := 12) rfl) rfl (decide_eq_false hc1) ?_
    refine aq_aload_n (am_dg dkX6_readInto (i := 13) rfl) rfl ?_
    obtain ⟨q2, hq3, h⟩ := am_bnd h
    refine aq_virt (a := [.ref 40]) (S1 := []) (v1 := .int q2.1) (S2 := [.int q2.1]) (am_dg dkX6_readInto (i := 14) rfl) cv_6_41_6 (am_cls_c sh_40 (by decide)) rfl rfl rfl (Nat.le_of_ble_eq_true rfl) (Nat.le_of_ble_eq_true rfl) (T_X6_current_40 hR (by omega) hq3) rfl ?_
    refine aq_sipush (v := (10054 : Int32)) (am_dg dkX6_readInto (i := 15) rfl) (by decide) ?_
    by_cases hc4 : q2.1 = (10054 : Int32)
    · rw [if_pos hc4] at h
      refine aq_icT (t := 78) (am_dg dkX6_readInto (i := 16) rfl) rfl (decide_eq_true hc4) ?_
      exact T_X6_readInto_40_17_b78 hR (by omega) _ _ _ h
    · rw [if_neg hc4] at h
      refine aq_icF (t := 78) (am_dg dkX6_readInto (i := 16) rfl) rfl (decide_eq_false hc4) ?_
      refine aq_aload_n (am_dg dkX6_readInto (i := 17) rfl) rfl ?_
      obtain ⟨q5, hq6, h⟩ := am_bnd h
      refine aq_virt (a := [.ref 40]) (S1 := []) (v1 := .int q5.1) (S2 := [.int q5.1]) (am_dg dkX6_readInto (i := 18) rfl) cv_6_45_6 (am_cls_c sh_40 (by decide)) rfl rfl rfl (Nat.le_of_ble_eq_true rfl) (Nat.le_of_ble_eq_true rfl) (T_X6_readRule_40 hR (by omega) hq6) rfl ?_
      by_cases hc7 : q5.1 = (0 : Int32)
      · rw [if_pos hc7] at h
        refine aq_ifF (t := 72) (am_dg dkX6_readInto (i := 19) rfl) rfl (decide_eq_false (not_not_intro hc7)) ?_
        refine aq_bipush (v := (-100 : Int32)) (am_dg dkX6_readInto (i := 20) rfl) (by decide) ?_
        refine aq_aload_n (am_dg dkX6_readInto (i := 21) rfl) rfl ?_
        refine aq_getI (am_dg dkX6_readInto (i := 22) rfl) gk_6_35_40 (by decide) ?_
        refine aq_aload_n (am_dg dkX6_readInto (i := 23) rfl) rfl ?_
        refine aq_getI (am_dg dkX6_readInto (i := 24) rfl) gk_6_49_40 (by decide) ?_
        by_cases hc8 : (q5.2.1 40 2) ≤ (q5.2.1 40 5)
        · rw [if_pos hc8] at h
          refine aq_icT (t := 66) (am_dg dkX6_readInto (i := 25) rfl) rfl (decide_eq_true hc8) ?_
          refine aq_aload_n (am_dg dkX6_readInto (i := 32) rfl) rfl ?_
          refine aq_getI (am_dg dkX6_readInto (i := 33) rfl) gk_6_28_40 (by decide) ?_
          refine aq_isub (am_dg dkX6_readInto (i := 34) rfl) ?_
          obtain rfl := Option.some.inj h
          exact aq_ireturn (am_dg dkX6_readInto (i := 35) rfl) rfl (Or.inl rfl) rfl
        · rw [if_neg hc8] at h
          refine aq_icF (t := 66) (am_dg dkX6_readInto (i := 25) rfl) rfl (decide_eq_false hc8) ?_
          refine aq_aload_n (am_dg dkX6_readInto (i := 26) rfl) rfl ?_
          refine aq_getR (am_dg dkX6_readInto (i := 27) rfl) gk_6_18_40 (rf_40_4 hR) ?_
          refine aq_aload_n (am_dg dkX6_readInto (i := 28) rfl) rfl ?_
          refine aq_getI (am_dg dkX6_readInto (i := 29) rfl) gk_6_35_40 (by decide) ?_
          obtain ⟨hg9, h⟩ := am_guard h
          refine aq_iald (am_dg dkX6_readInto (i := 30) rfl) sh_43 hg9 ?_
          refine aq_goto (t := 70) (am_dg dkX6_readInto (i := 31) rfl) rfl ?_
          refine aq_isub (am_dg dkX6_readInto (i := 34) rfl) ?_
          obtain rfl := Option.some.inj h
          exact aq_ireturn (am_dg dkX6_readInto (i := 35) rfl) rfl (Or.inl rfl) rfl
      · rw [if_neg hc7] at h
        refine aq_ifT (t := 72) (am_dg dkX6_readInto (i := 19) rfl) rfl (decide_eq_true hc7) ?_
        refine aq_iinc (v := (1 : Int32)) (L1 := [.ref 40, .ref 17, .int (x2 + (1 : Int32))]) (am_dg dkX6_readInto (i := 36) rfl) rfl (by decide) rfl ?_
        refine aq_goto (t := 18) (am_dg dkX6_readInto (i := 37) rfl) rfl ?_
        exact ih _ _ _ h
set_option maxRecDepth 20000 in
theorem T_X6_readInto_40_17 {sc : Option (Nat × (Nat → Int32))} {RF : Nat → Nat → Option Nat} {d : Nat} (hR : am_RFok RF) (hd : 37 ≤ d) {s : am_S} {r : Int32 × am_S} (h : F_X6_readInto_40_17 s = some r) : am_Q sc d mX6_readInto (0, am_L0 mX6_readInto [.ref 40, .ref 17], [], am_hp RF s) (.int r.1, am_hp RF r.2) := by
  obtain ⟨e, rfl⟩ : ∃ e, d = e + 1 := ⟨d - 1, by omega⟩
  unfold F_X6_readInto_40_17 at h
  show am_Q _ _ _ (0, [.ref 40, .ref 17, .null], [], _) _
  refine aq_aload_n (am_dg dkX6_readInto (i := 0) rfl) rfl ?_
  obtain ⟨q1, hq2, h⟩ := am_bnd h
  refine aq_virt (a := [.ref 40]) (S1 := []) (v1 := .null) (S2 := []) (am_dg dkX6_readInto (i := 1) rfl) cv_6_32_6 (am_cls_c sh_40 (by decide)) rfl rfl rfl (Nat.le_of_ble_eq_true rfl) (Nat.le_of_ble_eq_true rfl) (T_X6_splitUp_40 hR (by omega) hq2) rfl ?_
  refine aq_aload_n (am_dg dkX6_readInto (i := 2) rfl) rfl ?_
  refine aq_iconst (v := (0 : Int32)) (am_dg dkX6_readInto (i := 3) rfl) (by decide) ?_
  refine aq_putI (am_dg dkX6_readInto (i := 4) rfl) gk_6_35_40 ?_
  obtain ⟨s3, hs4, h⟩ := am_bnd h
  rw [Option.some.inj hs4]
  refine aq_aload_n (am_dg dkX6_readInto (i := 5) rfl) rfl ?_
  refine aq_getR (am_dg dkX6_readInto (i := 6) rfl) gk_6_24_40 (rf_40_6 hR) ?_
  obtain ⟨q5, hq6, h⟩ := am_bnd h
  refine aq_virt (a := [.ref 44]) (S1 := []) (v1 := .null) (S2 := []) (am_dg dkX6_readInto (i := 7) rfl) cv_6_38_7 (am_cls_c sh_44 (by decide)) rfl rfl rfl (Nat.le_of_ble_eq_true rfl) (Nat.le_of_ble_eq_true rfl) (T_X7_clear_44 hR (by omega) hq6) rfl ?_
  refine aq_iconst (v := (0 : Int32)) (am_dg dkX6_readInto (i := 8) rfl) (by decide) ?_
  refine aq_istore_n (L1 := [.ref 40, .ref 17, .int (0 : Int32)]) (am_dg dkX6_readInto (i := 9) rfl) rfl ?_
  exact T_X6_readInto_40_17_b18 hR (by omega) _ _ _ _ h
set_option maxRecDepth 20000 in
theorem T_X6_useUp_40 {sc : Option (Nat × (Nat → Int32))} {RF : Nat → Nat → Option Nat} {d : Nat} (hR : am_RFok RF) (hd : 0 ≤ d) {s : am_S} {r : am_S} (h : F_X6_useUp_40 s = some r) : am_Q sc d mX6_useUp (0, am_L0 mX6_useUp [.ref 40], [], am_hp RF s) (.null, am_hp RF r) := by
  unfold F_X6_useUp_40 at h
  show am_Q _ _ _ (0, [.ref 40], [], _) _
  refine aq_aload_n (am_dg dkX6_useUp (i := 0) rfl) rfl ?_
  refine aq_iconst (v := (0 : Int32)) (am_dg dkX6_useUp (i := 1) rfl) (by decide) ?_
  refine aq_putI (am_dg dkX6_useUp (i := 2) rfl) gk_6_28_40 ?_
  obtain ⟨s1, hs2, h⟩ := am_bnd h
  rw [Option.some.inj hs2]
  obtain rfl := Option.some.inj h
  exact aq_return (am_dg dkX6_useUp (i := 3) rfl) rfl
set_option maxRecDepth 20000 in
theorem T_X11_rules_0 {sc : Option (Nat × (Nat → Int32))} {RF : Nat → Nat → Option Nat} {d : Nat} (hR : am_RFok RF) (hd : 38 ≤ d) {s : am_S} {r : Int32 × am_S} (h : F_X11_rules_0 s = some r) : am_Q sc d mX11_rules (0, am_L0 mX11_rules [.ref 0], [], am_hp RF s) (.int r.1, am_hp RF r.2) := by
  obtain ⟨e, rfl⟩ : ∃ e, d = e + 1 := ⟨d - 1, by omega⟩
  unfold F_X11_rules_0 at h
  show am_Q _ _ _ (0, [.ref 0, .null], [], _) _
  refine aq_aload_n (am_dg dkX11_rules (i := 0) rfl) rfl ?_
  refine aq_getR (am_dg dkX11_rules (i := 1) rfl) gk_11_46_0 (rf_0_3 hR) ?_
  refine aq_aload_n (am_dg dkX11_rules (i := 2) rfl) rfl ?_
  refine aq_getR (am_dg dkX11_rules (i := 3) rfl) gk_11_30_0 (rf_0_0 hR) ?_
  refine aq_getR (am_dg dkX11_rules (i := 4) rfl) gk_11_197_8 (rf_8_16 hR) ?_
  obtain ⟨q1, hq2, h⟩ := am_bnd h
  refine aq_virt (a := [.ref 40, .ref 17]) (S1 := []) (v1 := .int q1.1) (S2 := [.int q1.1]) (am_dg dkX11_rules (i := 5) rfl) cv_11_201_6 (am_cls_c sh_40 (by decide)) rfl rfl rfl (Nat.le_of_ble_eq_true rfl) (Nat.le_of_ble_eq_true rfl) (T_X6_readInto_40_17 hR (by omega) hq2) rfl ?_
  refine aq_istore_n (L1 := [.ref 0, .int q1.1]) (am_dg dkX11_rules (i := 6) rfl) rfl ?_
  refine aq_aload_n (am_dg dkX11_rules (i := 7) rfl) rfl ?_
  refine aq_getR (am_dg dkX11_rules (i := 8) rfl) gk_11_46_0 (rf_0_3 hR) ?_
  obtain ⟨q3, hq4, h⟩ := am_bnd h
  refine aq_virt (a := [.ref 40]) (S1 := []) (v1 := .null) (S2 := []) (am_dg dkX11_rules (i := 9) rfl) cv_11_205_6 (am_cls_c sh_40 (by decide)) rfl rfl rfl (Nat.le_of_ble_eq_true rfl) (Nat.le_of_ble_eq_true rfl) (T_X6_useUp_40 hR (by omega) hq4) rfl ?_
  refine aq_iload_n (am_dg dkX11_rules (i := 10) rfl) rfl ?_
  obtain rfl := Option.some.inj h
  exact aq_ireturn (am_dg dkX11_rules (i := 11) rfl) rfl (Or.inl rfl) rfl
set_option maxRecDepth 20000 in
theorem T_X12_puts_82_b2 {sc : Option (Nat × (Nat → Int32))} {RF : Nat → Nat → Option Nat} {d : Nat} (hR : am_RFok RF) (hd : 0 ≤ d) : ∀ (n : Nat) (x1 : Int32) (s : am_S) (r : am_S), F_X12_puts_82_b2 n x1 s = some r → am_Q sc d mX12_puts (2, [.ref 82, .int x1], [], am_hp RF s) (.null, am_hp RF r) := by
  intro n
  induction n with
  | zero => intro x1 s r h; rw [F_X12_puts_82_b2] at h; cases h
  | succ n ih =>
  intro x1 s r h
  rw [F_X12_puts_82_b2] at h
  refine aq_iload_n (am_dg dkX12_puts (i := 2) rfl) rfl ?_
  refine aq_sipush (v := (296 : Int32)) (am_dg dkX12_puts (i := 3) rfl) (by decide) ?_
  by_cases hc1 : (296 : Int32) ≤ x1
  · rw [if_pos hc1] at h
    refine aq_icT (t := 27) (am_dg dkX12_puts (i := 4) rfl) rfl (decide_eq_true hc1) ?_
    obtain rfl := Option.some.inj h
    exact aq_return (am_dg dkX12_puts (i := 15) rfl) rfl
  · rw [if_neg hc1] at h
    refine aq_icF (t := 27) (am_dg dkX12_puts (i := 4) rfl) rfl (decide_eq_false hc1) ?_
    refine aq_aload_n (am_dg dkX12_puts (i := 5) rfl) rfl ?_
    refine aq_getR (am_dg dkX12_puts (i := 6) rfl) gk_12_16_82 (rf_82_2 hR) ?_
    refine aq_iload_n (am_dg dkX12_puts (i := 7) rfl) rfl ?_
    refine aq_aload_n (am_dg dkX12_puts (i := 8) rfl) rfl ?_
    refine aq_getR (am_dg dkX12_puts (i := 9) rfl) gk_12_7_82 (rf_82_0 hR) ?_
    refine aq_iload_n (am_dg dkX12_puts (i := 10) rfl) rfl ?_
    obtain ⟨hg2, h⟩ := am_guard h
    refine aq_iald (am_dg dkX12_puts (i := 11) rfl) sh_83 hg2 ?_
    obtain ⟨hg3, h⟩ := am_guard h
    refine aq_iast (am_dg dkX12_puts (i := 12) rfl) sh_85 hg3 ?_
    obtain ⟨s4, hs5, h⟩ := am_bnd h
    rw [Option.some.inj hs5]
    refine aq_iinc (v := (1 : Int32)) (L1 := [.ref 82, .int (x1 + (1 : Int32))]) (am_dg dkX12_puts (i := 13) rfl) rfl (by decide) rfl ?_
    refine aq_goto (t := 2) (am_dg dkX12_puts (i := 14) rfl) rfl ?_
    exact ih _ _ _ h
set_option maxRecDepth 20000 in
theorem T_X12_puts_82 {sc : Option (Nat × (Nat → Int32))} {RF : Nat → Nat → Option Nat} {d : Nat} (hR : am_RFok RF) (hd : 0 ≤ d) {s : am_S} {r : am_S} (h : F_X12_puts_82 s = some r) : am_Q sc d mX12_puts (0, am_L0 mX12_puts [.ref 82], [], am_hp RF s) (.null, am_hp RF r) := by
  unfold F_X12_puts_82 at h
  show am_Q _ _ _ (0, [.ref 82, .null], [], _) _
  refine aq_iconst (v := (0 : Int32)) (am_dg dkX12_puts (i := 0) rfl) (by decide) ?_
  refine aq_istore_n (L1 := [.ref 82, .int (0 : Int32)]) (am_dg dkX12_puts (i := 1) rfl) rfl ?_
  exact T_X12_puts_82_b2 hR (by omega) _ _ _ _ h
set_option maxRecDepth 20000 in
theorem T_X12_byteAt_82 {sc : Option (Nat × (Nat → Int32))} {RF : Nat → Nat → Option Nat} {d : Nat} (hR : am_RFok RF) (hd : 0 ≤ d) {a1 : Int32} {s : am_S} {r : Int32 × am_S} (h : F_X12_byteAt_82 a1 s = some r) : am_Q sc d mX12_byteAt (0, am_L0 mX12_byteAt [.ref 82, .int a1], [], am_hp RF s) (.int r.1, am_hp RF r.2) := by
  unfold F_X12_byteAt_82 at h
  show am_Q _ _ _ (0, [.ref 82, .int a1], [], _) _
  refine aq_iload_n (am_dg dkX12_byteAt (i := 0) rfl) rfl ?_
  refine aq_aload_n (am_dg dkX12_byteAt (i := 1) rfl) rfl ?_
  refine aq_getI (am_dg dkX12_byteAt (i := 2) rfl) gk_12_281_82 (by decide) ?_
  by_cases hc1 : (s.1 82 22) ≤ a1
  · rw [if_pos hc1] at h
    refine aq_icT (t := 17) (am_dg dkX12_byteAt (i := 3) rfl) rfl (decide_eq_true hc1) ?_
    refine aq_iconst (v := (-1 : Int32)) (am_dg dkX12_byteAt (i := 9) rfl) (by decide) ?_
    obtain rfl := Option.some.inj h
    exact aq_ireturn (am_dg dkX12_byteAt (i := 10) rfl) rfl (Or.inl rfl) rfl
  · rw [if_neg hc1] at h
    refine aq_icF (t := 17) (am_dg dkX12_byteAt (i := 3) rfl) rfl (decide_eq_false hc1) ?_
    refine aq_aload_n (am_dg dkX12_byteAt (i := 4) rfl) rfl ?_
    refine aq_getR (am_dg dkX12_byteAt (i := 5) rfl) gk_12_37_82 (rf_82_21 hR) ?_
    refine aq_iload_n (am_dg dkX12_byteAt (i := 6) rfl) rfl ?_
    obtain ⟨hg2, h⟩ := am_guard h
    refine aq_iald (am_dg dkX12_byteAt (i := 7) rfl) sh_92 hg2 ?_
    refine aq_goto (t := 18) (am_dg dkX12_byteAt (i := 8) rfl) rfl ?_
    obtain rfl := Option.some.inj h
    exact aq_ireturn (am_dg dkX12_byteAt (i := 10) rfl) rfl (Or.inl rfl) rfl
set_option maxRecDepth 20000 in
theorem T_X12_isLetter {sc : Option (Nat × (Nat → Int32))} {RF : Nat → Nat → Option Nat} {d : Nat} (hR : am_RFok RF) (hd : 1 ≤ d) {a0 : Int32} {s : am_S} {r : Int32 × am_S} (h : F_X12_isLetter a0 s = some r) : am_Q sc d mX12_isLetter (0, am_L0 mX12_isLetter [.int a0], [], am_hp RF s) (.int r.1, am_hp RF r.2) := by
  obtain ⟨e, rfl⟩ : ∃ e, d = e + 1 := ⟨d - 1, by omega⟩
  unfold F_X12_isLetter at h
  show am_Q _ _ _ (0, [.int a0], [], _) _
  refine aq_iload_n (am_dg dkX12_isLetter (i := 0) rfl) rfl ?_
  refine aq_i2l (am_dg dkX12_isLetter (i := 1) rfl) ?_
  refine aq_ldc2 (am_dg dkX12_isLetter (i := 2) rfl) cl_12_286 ?_
  refine aq_ldc2 (am_dg dkX12_isLetter (i := 3) rfl) cl_12_288 ?_
  obtain ⟨q1, hq2, h⟩ := am_bnd h
  refine aq_static (a := [.long a0.toInt64, .long (97 : Int64), .long (122 : Int64)]) (S1 := []) (v1 := .int q1.1) (S2 := [.int q1.1]) (am_dg dkX12_isLetter (i := 4) rfl) ct_12_61 rfl rfl rfl (Nat.le_of_ble_eq_true rfl) (Nat.le_of_ble_eq_true rfl) (T_X12_in hR (by omega) hq2) rfl ?_
  obtain ⟨hg3, h⟩ := am_guard h
  obtain rfl := Option.some.inj h
  exact aq_ireturn (am_dg dkX12_isLetter (i := 5) rfl) rfl (Or.inr (Or.inl rfl)) (am_nz hg3)
set_option maxRecDepth 20000 in
theorem T_X12_isDigit {sc : Option (Nat × (Nat → Int32))} {RF : Nat → Nat → Option Nat} {d : Nat} (hR : am_RFok RF) (hd : 1 ≤ d) {a0 : Int32} {s : am_S} {r : Int32 × am_S} (h : F_X12_isDigit a0 s = some r) : am_Q sc d mX12_isDigit (0, am_L0 mX12_isDigit [.int a0], [], am_hp RF s) (.int r.1, am_hp RF r.2) := by
  obtain ⟨e, rfl⟩ : ∃ e, d = e + 1 := ⟨d - 1, by omega⟩
  unfold F_X12_isDigit at h
  show am_Q _ _ _ (0, [.int a0], [], _) _
  refine aq_iload_n (am_dg dkX12_isDigit (i := 0) rfl) rfl ?_
  refine aq_i2l (am_dg dkX12_isDigit (i := 1) rfl) ?_
  refine aq_ldc2 (am_dg dkX12_isDigit (i := 2) rfl) cl_12_290 ?_
  refine aq_ldc2 (am_dg dkX12_isDigit (i := 3) rfl) cl_12_292 ?_
  obtain ⟨q1, hq2, h⟩ := am_bnd h
  refine aq_static (a := [.long a0.toInt64, .long (48 : Int64), .long (57 : Int64)]) (S1 := []) (v1 := .int q1.1) (S2 := [.int q1.1]) (am_dg dkX12_isDigit (i := 4) rfl) ct_12_61 rfl rfl rfl (Nat.le_of_ble_eq_true rfl) (Nat.le_of_ble_eq_true rfl) (T_X12_in hR (by omega) hq2) rfl ?_
  obtain ⟨hg3, h⟩ := am_guard h
  obtain rfl := Option.some.inj h
  exact aq_ireturn (am_dg dkX12_isDigit (i := 5) rfl) rfl (Or.inr (Or.inl rfl)) (am_nz hg3)
set_option maxRecDepth 20000 in
theorem T_X12_token_82_b122 {sc : Option (Nat × (Nat → Int32))} {RF : Nat → Nat → Option Nat} {d : Nat} (hR : am_RFok RF) (hd : 2 ≤ d) {k86 : Int32 → Int32 → am_S → Option (am_S)} (hk86 : ∀ (x1 : Int32) (x2 : Int32) (s2 : am_S) (r2 : am_S), k86 x1 x2 s2 = some r2 → am_Q sc d mX12_token (86, [.ref 82, .int x1, .int x2], [], am_hp RF s2) (.null, am_hp RF r2)) : ∀ (x1 : Int32) (x2 : Int32) (s : am_S) (r : am_S), F_X12_token_82_b122 k86 x1 x2 s = some r → am_Q sc d mX12_token (122, [.ref 82, .int x1, .int x2], [], am_hp RF s) (.null, am_hp RF r) := by
  obtain ⟨e, rfl⟩ : ∃ e, d = e + 1 := ⟨d - 1, by omega⟩
  intro x1 x2 s r h
  unfold F_X12_token_82_b122 at h
  refine aq_aload_n (am_dg dkX12_token (i := 59) rfl) rfl ?_
  refine aq_dup (am_dg dkX12_token (i := 60) rfl) rfl ?_
  refine aq_getI (am_dg dkX12_token (i := 61) rfl) gk_12_294_82 (by decide) ?_
  refine aq_iconst (v := (1 : Int32)) (am_dg dkX12_token (i := 62) rfl) (by decide) ?_
  refine aq_iadd (am_dg dkX12_token (i := 63) rfl) ?_
  refine aq_putI (am_dg dkX12_token (i := 64) rfl) gk_12_294_82 ?_
  obtain ⟨s1, hs2, h⟩ := am_bnd h
  rw [Option.some.inj hs2]
  refine aq_goto (t := 86) (am_dg dkX12_token (i := 65) rfl) rfl ?_
  exact hk86 _ _ _ _ h
set_option maxRecDepth 20000 in
theorem T_X12_token_82_b104 {sc : Option (Nat × (Nat → Int32))} {RF : Nat → Nat → Option Nat} {d : Nat} (hR : am_RFok RF) (hd : 2 ≤ d) {k86 : Int32 → Int32 → am_S → Option (am_S)} (hk86 : ∀ (x1 : Int32) (x2 : Int32) (s2 : am_S) (r2 : am_S), k86 x1 x2 s2 = some r2 → am_Q sc d mX12_token (86, [.ref 82, .int x1, .int x2], [], am_hp RF s2) (.null, am_hp RF r2)) : ∀ (x1 : Int32) (x2 : Int32) (s : am_S) (r : am_S), F_X12_token_82_b104 k86 x1 x2 s = some r → am_Q sc d mX12_token (104, [.ref 82, .int x1, .int x2], [], am_hp RF s) (.null, am_hp RF r) := by
  obtain ⟨e, rfl⟩ : ∃ e, d = e + 1 := ⟨d - 1, by omega⟩
  intro x1 x2 s r h
  unfold F_X12_token_82_b104 at h
  refine aq_iload_n (am_dg dkX12_token (i := 51) rfl) rfl ?_
  by_cases hc1 : x2 = (0 : Int32)
  · rw [if_pos hc1] at h
    refine aq_ifT (t := 135) (am_dg dkX12_token (i := 52) rfl) rfl (decide_eq_true hc1) ?_
    obtain rfl := Option.some.inj h
    exact aq_return (am_dg dkX12_token (i := 66) rfl) rfl
  · rw [if_neg hc1] at h
    refine aq_ifF (t := 135) (am_dg dkX12_token (i := 52) rfl) rfl (decide_eq_false hc1) ?_
    refine aq_aload_n (am_dg dkX12_token (i := 53) rfl) rfl ?_
    refine aq_aload_n (am_dg dkX12_token (i := 54) rfl) rfl ?_
    refine aq_getI (am_dg dkX12_token (i := 55) rfl) gk_12_294_82 (by decide) ?_
    obtain ⟨q2, hq3, h⟩ := am_bnd h
    refine aq_virt (a := [.ref 82, .int (s.1 82 24)]) (S1 := []) (v1 := .int q2.1) (S2 := [.int q2.1]) (am_dg dkX12_token (i := 56) rfl) cv_12_300_12 (am_cls_c sh_82 (by decide)) rfl rfl rfl (Nat.le_of_ble_eq_true rfl) (Nat.le_of_ble_eq_true rfl) (T_X12_byteAt_82 hR (by omega) hq3) rfl ?_
    obtain ⟨q4, hq5, h⟩ := am_bnd h
    refine aq_static (a := [.int q2.1]) (S1 := []) (v1 := .int q4.1) (S2 := [.int q4.1]) (am_dg dkX12_token (i := 57) rfl) ct_12_306 rfl rfl rfl (Nat.le_of_ble_eq_true rfl) (Nat.le_of_ble_eq_true rfl) (T_X12_isDigit hR (by omega) hq5) rfl ?_
    by_cases hc6 : q4.1 = (0 : Int32)
    · rw [if_pos hc6] at h
      refine aq_ifT (t := 135) (am_dg dkX12_token (i := 58) rfl) rfl (decide_eq_true hc6) ?_
      obtain rfl := Option.some.inj h
      exact aq_return (am_dg dkX12_token (i := 66) rfl) rfl
    · rw [if_neg hc6] at h
      refine aq_ifF (t := 135) (am_dg dkX12_token (i := 58) rfl) rfl (decide_eq_false hc6) ?_
      exact T_X12_token_82_b122 hR (by omega) hk86 _ _ _ _ h
set_option maxRecDepth 20000 in
theorem T_X12_token_82_b86 {sc : Option (Nat × (Nat → Int32))} {RF : Nat → Nat → Option Nat} {d : Nat} (hR : am_RFok RF) (hd : 2 ≤ d) : ∀ (n : Nat) (x1 : Int32) (x2 : Int32) (s : am_S) (r : am_S), F_X12_token_82_b86 n x1 x2 s = some r → am_Q sc d mX12_token (86, [.ref 82, .int x1, .int x2], [], am_hp RF s) (.null, am_hp RF r) := by
  obtain ⟨e, rfl⟩ : ∃ e, d = e + 1 := ⟨d - 1, by omega⟩
  intro n
  induction n with
  | zero => intro x1 x2 s r h; rw [F_X12_token_82_b86] at h; cases h
  | succ n ih =>
  intro x1 x2 s r h
  rw [F_X12_token_82_b86] at h
  refine aq_iload_n (am_dg dkX12_token (i := 43) rfl) rfl ?_
  by_cases hc1 : x1 = (0 : Int32)
  · rw [if_pos hc1] at h
    refine aq_ifT (t := 104) (am_dg dkX12_token (i := 44) rfl) rfl (decide_eq_true hc1) ?_
    exact T_X12_token_82_b104 hR (by omega) ih _ _ _ _ h
  · rw [if_neg hc1] at h
    refine aq_ifF (t := 104) (am_dg dkX12_token (i := 44) rfl) rfl (decide_eq_false hc1) ?_
    refine aq_aload_n (am_dg dkX12_token (i := 45) rfl) rfl ?_
    refine aq_aload_n (am_dg dkX12_token (i := 46) rfl) rfl ?_
    refine aq_getI (am_dg dkX12_token (i := 47) rfl) gk_12_294_82 (by decide) ?_
    obtain ⟨q2, hq3, h⟩ := am_bnd h
    refine aq_virt (a := [.ref 82, .int (s.1 82 24)]) (S1 := []) (v1 := .int q2.1) (S2 := [.int q2.1]) (am_dg dkX12_token (i := 48) rfl) cv_12_300_12 (am_cls_c sh_82 (by decide)) rfl rfl rfl (Nat.le_of_ble_eq_true rfl) (Nat.le_of_ble_eq_true rfl) (T_X12_byteAt_82 hR (by omega) hq3) rfl ?_
    obtain ⟨q4, hq5, h⟩ := am_bnd h
    refine aq_static (a := [.int q2.1]) (S1 := []) (v1 := .int q4.1) (S2 := [.int q4.1]) (am_dg dkX12_token (i := 49) rfl) ct_12_303 rfl rfl rfl (Nat.le_of_ble_eq_true rfl) (Nat.le_of_ble_eq_true rfl) (T_X12_isLetter hR (by omega) hq5) rfl ?_
    by_cases hc6 : q4.1 = (0 : Int32)
    · rw [if_pos hc6] at h
      refine aq_ifF (t := 122) (am_dg dkX12_token (i := 50) rfl) rfl (decide_eq_false (not_not_intro hc6)) ?_
      exact T_X12_token_82_b104 hR (by omega) ih _ _ _ _ h
    · rw [if_neg hc6] at h
      refine aq_ifT (t := 122) (am_dg dkX12_token (i := 50) rfl) rfl (decide_eq_true hc6) ?_
      exact T_X12_token_82_b122 hR (by omega) ih _ _ _ _ h
set_option maxRecDepth 20000 in
theorem T_X12_token_82_b83 {sc : Option (Nat × (Nat → Int32))} {RF : Nat → Nat → Option Nat} {d : Nat} (hR : am_RFok RF) (hd : 2 ≤ d) : ∀ (x1 : Int32) (x2 : Int32) (y0 : Int32) (s : am_S) (r : am_S), F_X12_token_82_b83 x1 x2 y0 s = some r → am_Q sc d mX12_token (83, [.ref 82, .int x1, .int x2], [.int y0, .ref 82], am_hp RF s) (.null, am_hp RF r) := by
  obtain ⟨e, rfl⟩ : ∃ e, d = e + 1 := ⟨d - 1, by omega⟩
  intro x1 x2 y0 s r h
  unfold F_X12_token_82_b83 at h
  refine aq_putI (am_dg dkX12_token (i := 42) rfl) gk_12_294_82 ?_
  obtain ⟨s1, hs2, h⟩ := am_bnd h
  rw [Option.some.inj hs2]
  exact T_X12_token_82_b86 hR (by omega) _ _ _ _ _ h
set_option maxRecDepth 20000 in
theorem T_X12_token_82_b8 {sc : Option (Nat × (Nat → Int32))} {RF : Nat → Nat → Option Nat} {d : Nat} (hR : am_RFok RF) (hd : 2 ≤ d) : ∀ (n : Nat) (w1 : Value) (w2 : Value) (s : am_S) (r : am_S), F_X12_token_82_b8 n s = some r → am_Q sc d mX12_token (8, [.ref 82, w1, w2], [], am_hp RF s) (.null, am_hp RF r) := by
  obtain ⟨e, rfl⟩ : ∃ e, d = e + 1 := ⟨d - 1, by omega⟩
  intro n
  induction n with
  | zero => intro w1 w2 s r h; rw [F_X12_token_82_b8] at h; cases h
  | succ n ih =>
  intro w1 w2 s r h
  rw [F_X12_token_82_b8] at h
  refine aq_aload_n (am_dg dkX12_token (i := 4) rfl) rfl ?_
  refine aq_aload_n (am_dg dkX12_token (i := 5) rfl) rfl ?_
  refine aq_getI (am_dg dkX12_token (i := 6) rfl) gk_12_297_82 (by decide) ?_
  obtain ⟨q1, hq2, h⟩ := am_bnd h
  refine aq_virt (a := [.ref 82, .int (s.1 82 23)]) (S1 := []) (v1 := .int q1.1) (S2 := [.int q1.1]) (am_dg dkX12_token (i := 7) rfl) cv_12_300_12 (am_cls_c sh_82 (by decide)) rfl rfl rfl (Nat.le_of_ble_eq_true rfl) (Nat.le_of_ble_eq_true rfl) (T_X12_byteAt_82 hR (by omega) hq2) rfl ?_
  refine aq_bipush (v := (32 : Int32)) (am_dg dkX12_token (i := 8) rfl) (by decide) ?_
  by_cases hc3 : q1.1 = (32 : Int32)
  · rw [if_pos hc3] at h
    refine aq_icF (t := 34) (am_dg dkX12_token (i := 9) rfl) rfl (decide_eq_false (not_not_intro hc3)) ?_
    refine aq_aload_n (am_dg dkX12_token (i := 10) rfl) rfl ?_
    refine aq_dup (am_dg dkX12_token (i := 11) rfl) rfl ?_
    refine aq_getI (am_dg dkX12_token (i := 12) rfl) gk_12_297_82 (by decide) ?_
    refine aq_iconst (v := (1 : Int32)) (am_dg dkX12_token (i := 13) rfl) (by decide) ?_
    refine aq_iadd (am_dg dkX12_token (i := 14) rfl) ?_
    refine aq_putI (am_dg dkX12_token (i := 15) rfl) gk_12_297_82 ?_
    obtain ⟨s4, hs5, h⟩ := am_bnd h
    rw [Option.some.inj hs5]
    refine aq_goto (t := 8) (am_dg dkX12_token (i := 16) rfl) rfl ?_
    exact ih _ _ _ _ h
  · rw [if_neg hc3] at h
    refine aq_icT (t := 34) (am_dg dkX12_token (i := 9) rfl) rfl (decide_eq_true hc3) ?_
    refine aq_aload_n (am_dg dkX12_token (i := 17) rfl) rfl ?_
    refine aq_aload_n (am_dg dkX12_token (i := 18) rfl) rfl ?_
    refine aq_getI (am_dg dkX12_token (i := 19) rfl) gk_12_297_82 (by decide) ?_
    obtain ⟨q6, hq7, h⟩ := am_bnd h
    refine aq_virt (a := [.ref 82, .int (q1.2.1 82 23)]) (S1 := []) (v1 := .int q6.1) (S2 := [.int q6.1]) (am_dg dkX12_token (i := 20) rfl) cv_12_300_12 (am_cls_c sh_82 (by decide)) rfl rfl rfl (Nat.le_of_ble_eq_true rfl) (Nat.le_of_ble_eq_true rfl) (T_X12_byteAt_82 hR (by omega) hq7) rfl ?_
    obtain ⟨q8, hq9, h⟩ := am_bnd h
    refine aq_static (a := [.int q6.1]) (S1 := []) (v1 := .int q8.1) (S2 := [.int q8.1]) (am_dg dkX12_token (i := 21) rfl) ct_12_303 rfl rfl rfl (Nat.le_of_ble_eq_true rfl) (Nat.le_of_ble_eq_true rfl) (T_X12_isLetter hR (by omega) hq9) rfl ?_
    refine aq_istore_n (L1 := [.ref 82, .int q8.1, w2]) (am_dg dkX12_token (i := 22) rfl) rfl ?_
    refine aq_aload_n (am_dg dkX12_token (i := 23) rfl) rfl ?_
    refine aq_aload_n (am_dg dkX12_token (i := 24) rfl) rfl ?_
    refine aq_getI (am_dg dkX12_token (i := 25) rfl) gk_12_297_82 (by decide) ?_
    obtain ⟨q10, hq11, h⟩ := am_bnd h
    refine aq_virt (a := [.ref 82, .int (q8.2.1 82 23)]) (S1 := []) (v1 := .int q10.1) (S2 := [.int q10.1]) (am_dg dkX12_token (i := 26) rfl) cv_12_300_12 (am_cls_c sh_82 (by decide)) rfl rfl rfl (Nat.le_of_ble_eq_true rfl) (Nat.le_of_ble_eq_true rfl) (T_X12_byteAt_82 hR (by omega) hq11) rfl ?_
    obtain ⟨q12, hq13, h⟩ := am_bnd h
    refine aq_static (a := [.int q10.1]) (S1 := []) (v1 := .int q12.1) (S2 := [.int q12.1]) (am_dg dkX12_token (i := 27) rfl) ct_12_306 rfl rfl rfl (Nat.le_of_ble_eq_true rfl) (Nat.le_of_ble_eq_true rfl) (T_X12_isDigit hR (by omega) hq13) rfl ?_
    refine aq_istore_n (L1 := [.ref 82, .int q8.1, .int q12.1]) (am_dg dkX12_token (i := 28) rfl) rfl ?_
    refine aq_aload_n (am_dg dkX12_token (i := 29) rfl) rfl ?_
    refine aq_aload_n (am_dg dkX12_token (i := 30) rfl) rfl ?_
    refine aq_getI (am_dg dkX12_token (i := 31) rfl) gk_12_297_82 (by decide) ?_
    refine aq_aload_n (am_dg dkX12_token (i := 32) rfl) rfl ?_
    refine aq_getI (am_dg dkX12_token (i := 33) rfl) gk_12_281_82 (by decide) ?_
    by_cases hc14 : (q12.2.1 82 22) ≤ (q12.2.1 82 23)
    · rw [if_pos hc14] at h
      refine aq_icT (t := 79) (am_dg dkX12_token (i := 34) rfl) rfl (decide_eq_true hc14) ?_
      refine aq_aload_n (am_dg dkX12_token (i := 40) rfl) rfl ?_
      refine aq_getI (am_dg dkX12_token (i := 41) rfl) gk_12_297_82 (by decide) ?_
      exact T_X12_token_82_b83 hR (by omega) _ _ _ _ _ h
    · rw [if_neg hc14] at h
      refine aq_icF (t := 79) (am_dg dkX12_token (i := 34) rfl) rfl (decide_eq_false hc14) ?_
      refine aq_aload_n (am_dg dkX12_token (i := 35) rfl) rfl ?_
      refine aq_getI (am_dg dkX12_token (i := 36) rfl) gk_12_297_82 (by decide) ?_
      refine aq_iconst (v := (1 : Int32)) (am_dg dkX12_token (i := 37) rfl) (by decide) ?_
      refine aq_iadd (am_dg dkX12_token (i := 38) rfl) ?_
      refine aq_goto (t := 83) (am_dg dkX12_token (i := 39) rfl) rfl ?_
      exact T_X12_token_82_b83 hR (by omega) _ _ _ _ _ h
set_option maxRecDepth 20000 in
theorem T_X12_token_82 {sc : Option (Nat × (Nat → Int32))} {RF : Nat → Nat → Option Nat} {d : Nat} (hR : am_RFok RF) (hd : 2 ≤ d) {s : am_S} {r : am_S} (h : F_X12_token_82 s = some r) : am_Q sc d mX12_token (0, am_L0 mX12_token [.ref 82], [], am_hp RF s) (.null, am_hp RF r) := by
  obtain ⟨e, rfl⟩ : ∃ e, d = e + 1 := ⟨d - 1, by omega⟩
  unfold F_X12_token_82 at h
  show am_Q _ _ _ (0, [.ref 82, .null, .null], [], _) _
  refine aq_aload_n (am_dg dkX12_token (i := 0) rfl) rfl ?_
  refine aq_aload_n (am_dg dkX12_token (i := 1) rfl) rfl ?_
  refine aq_getI (am_dg dkX12_token (i := 2) rfl) gk_12_294_82 (by decide) ?_
  refine aq_putI (am_dg dkX12_token (i := 3) rfl) gk_12_297_82 ?_
  obtain ⟨s1, hs2, h⟩ := am_bnd h
  rw [Option.some.inj hs2]
  exact T_X12_token_82_b8 hR (by omega) _ _ _ _ _ h
set_option maxRecDepth 20000 in
theorem T_X12_word_82_b43 {sc : Option (Nat × (Nat → Int32))} {RF : Nat → Nat → Option Nat} {d : Nat} (hR : am_RFok RF) (hd : 2 ≤ d) {k7 : Int64 → Int32 → am_S → Option (Int64 × am_S)} (hk7 : ∀ (x1 : Int64) (x3 : Int32) (s2 : am_S) (r2 : Int64 × am_S), k7 x1 x3 s2 = some r2 → am_Q sc d mX12_word (7, [.ref 82, .long x1, .null, .int x3], [], am_hp RF s2) (.long r2.1, am_hp RF r2.2)) : ∀ (x3 : Int32) (y0 : Int64) (w1 : Value) (s : am_S) (r : Int64 × am_S), F_X12_word_82_b43 k7 x3 y0 s = some r → am_Q sc d mX12_word (43, [.ref 82, w1, .null, .int x3], [.long y0], am_hp RF s) (.long r.1, am_hp RF r.2) := by
  obtain ⟨e, rfl⟩ : ∃ e, d = e + 1 := ⟨d - 1, by omega⟩
  intro x3 y0 w1 s r h
  unfold F_X12_word_82_b43 at h
  refine aq_lstore_n (L1 := [.ref 82, .long y0, .null, .int x3]) (am_dg dkX12_word (i := 26) rfl) rfl ?_
  refine aq_iinc (v := (1 : Int32)) (L1 := [.ref 82, .long y0, .null, .int (x3 + (1 : Int32))]) (am_dg dkX12_word (i := 27) rfl) rfl (by decide) rfl ?_
  refine aq_goto (t := 7) (am_dg dkX12_word (i := 28) rfl) rfl ?_
  exact hk7 _ _ _ _ h
set_option maxRecDepth 20000 in
theorem T_X12_word_82_b7 {sc : Option (Nat × (Nat → Int32))} {RF : Nat → Nat → Option Nat} {d : Nat} (hR : am_RFok RF) (hd : 2 ≤ d) : ∀ (n : Nat) (x1 : Int64) (x3 : Int32) (s : am_S) (r : Int64 × am_S), F_X12_word_82_b7 n x1 x3 s = some r → am_Q sc d mX12_word (7, [.ref 82, .long x1, .null, .int x3], [], am_hp RF s) (.long r.1, am_hp RF r.2) := by
  obtain ⟨e, rfl⟩ : ∃ e, d = e + 1 := ⟨d - 1, by omega⟩
  intro n
  induction n with
  | zero => intro x1 x3 s r h; rw [F_X12_word_82_b7] at h; cases h
  | succ n ih =>
  intro x1 x3 s r h
  rw [F_X12_word_82_b7] at h
  refine aq_iload_n (am_dg dkX12_word (i := 5) rfl) rfl ?_
  refine aq_aload_n (am_dg dkX12_word (i := 6) rfl) rfl ?_
  refine aq_getI (am_dg dkX12_word (i := 7) rfl) gk_12_294_82 (by decide) ?_
  by_cases hc1 : (s.1 82 24) ≤ x3
  · rw [if_pos hc1] at h
    refine aq_icT (t := 50) (am_dg dkX12_word (i := 8) rfl) rfl (decide_eq_true hc1) ?_
    refine aq_aload_n (am_dg dkX12_word (i := 29) rfl) rfl ?_
    refine aq_getI (am_dg dkX12_word (i := 30) rfl) gk_12_309_82 (by decide) ?_
    by_cases hc2 : (s.1 82 28) = (0 : Int32)
    · rw [if_pos hc2] at h
      refine aq_ifF (t := 71) (am_dg dkX12_word (i := 31) rfl) rfl (decide_eq_false (not_not_intro hc2)) ?_
      refine aq_aload_n (am_dg dkX12_word (i := 32) rfl) rfl ?_
      refine aq_aload_n (am_dg dkX12_word (i := 33) rfl) rfl ?_
      refine aq_getI (am_dg dkX12_word (i := 34) rfl) gk_12_297_82 (by decide) ?_
      obtain ⟨q3, hq4, h⟩ := am_bnd h
      refine aq_virt (a := [.ref 82, .int (s.1 82 23)]) (S1 := []) (v1 := .int q3.1) (S2 := [.int q3.1]) (am_dg dkX12_word (i := 35) rfl) cv_12_300_12 (am_cls_c sh_82 (by decide)) rfl rfl rfl (Nat.le_of_ble_eq_true rfl) (Nat.le_of_ble_eq_true rfl) (T_X12_byteAt_82 hR (by omega) hq4) rfl ?_
      obtain ⟨q5, hq6, h⟩ := am_bnd h
      refine aq_static (a := [.int q3.1]) (S1 := []) (v1 := .int q5.1) (S2 := [.int q5.1]) (am_dg dkX12_word (i := 36) rfl) ct_12_303 rfl rfl rfl (Nat.le_of_ble_eq_true rfl) (Nat.le_of_ble_eq_true rfl) (T_X12_isLetter hR (by omega) hq6) rfl ?_
      by_cases hc7 : q5.1 = (0 : Int32)
      · rw [if_pos hc7] at h
        refine aq_ifF (t := 75) (am_dg dkX12_word (i := 37) rfl) rfl (decide_eq_false (not_not_intro hc7)) ?_
        refine aq_lconst (v := (0 : Int64)) (am_dg dkX12_word (i := 38) rfl) (by decide) ?_
        refine aq_goto (t := 76) (am_dg dkX12_word (i := 39) rfl) rfl ?_
        obtain rfl := Option.some.inj h
        exact aq_lreturn (am_dg dkX12_word (i := 41) rfl) rfl
      · rw [if_neg hc7] at h
        refine aq_ifT (t := 75) (am_dg dkX12_word (i := 37) rfl) rfl (decide_eq_true hc7) ?_
        refine aq_lload_n (am_dg dkX12_word (i := 40) rfl) rfl ?_
        obtain rfl := Option.some.inj h
        exact aq_lreturn (am_dg dkX12_word (i := 41) rfl) rfl
    · rw [if_neg hc2] at h
      refine aq_ifT (t := 71) (am_dg dkX12_word (i := 31) rfl) rfl (decide_eq_true hc2) ?_
      refine aq_lconst (v := (0 : Int64)) (am_dg dkX12_word (i := 38) rfl) (by decide) ?_
      refine aq_goto (t := 76) (am_dg dkX12_word (i := 39) rfl) rfl ?_
      obtain rfl := Option.some.inj h
      exact aq_lreturn (am_dg dkX12_word (i := 41) rfl) rfl
  · rw [if_neg hc1] at h
    refine aq_icF (t := 50) (am_dg dkX12_word (i := 8) rfl) rfl (decide_eq_false hc1) ?_
    refine aq_lload_n (am_dg dkX12_word (i := 9) rfl) rfl ?_
    refine aq_ldc2 (am_dg dkX12_word (i := 10) rfl) cl_12_316 ?_
    refine aq_lcmp (am_dg dkX12_word (i := 11) rfl) ?_
    by_cases hc8 : (lg_cmp x1 (36028797018963967 : Int64)) ≤ (0 : Int32)
    · rw [if_pos hc8] at h
      refine aq_ifT (t := 27) (am_dg dkX12_word (i := 12) rfl) rfl (decide_eq_true hc8) ?_
      refine aq_ldc2 (am_dg dkX12_word (i := 15) rfl) cl_12_318 ?_
      refine aq_lload_n (am_dg dkX12_word (i := 16) rfl) rfl ?_
      refine aq_lmul (am_dg dkX12_word (i := 17) rfl) ?_
      refine aq_aload_n (am_dg dkX12_word (i := 18) rfl) rfl ?_
      refine aq_getR (am_dg dkX12_word (i := 19) rfl) gk_12_37_82 (rf_82_21 hR) ?_
      refine aq_iload_n (am_dg dkX12_word (i := 20) rfl) rfl ?_
      obtain ⟨hg9, h⟩ := am_guard h
      refine aq_iald (am_dg dkX12_word (i := 21) rfl) sh_92 hg9 ?_
      refine aq_bipush (v := (96 : Int32)) (am_dg dkX12_word (i := 22) rfl) (by decide) ?_
      refine aq_isub (am_dg dkX12_word (i := 23) rfl) ?_
      refine aq_i2l (am_dg dkX12_word (i := 24) rfl) ?_
      refine aq_ladd (am_dg dkX12_word (i := 25) rfl) ?_
      exact T_X12_word_82_b43 hR (by omega) ih _ _ _ _ _ h
    · rw [if_neg hc8] at h
      refine aq_ifF (t := 27) (am_dg dkX12_word (i := 12) rfl) rfl (decide_eq_false hc8) ?_
      refine aq_lload_n (am_dg dkX12_word (i := 13) rfl) rfl ?_
      refine aq_goto (t := 43) (am_dg dkX12_word (i := 14) rfl) rfl ?_
      exact T_X12_word_82_b43 hR (by omega) ih _ _ _ _ _ h
set_option maxRecDepth 20000 in
theorem T_X12_word_82 {sc : Option (Nat × (Nat → Int32))} {RF : Nat → Nat → Option Nat} {d : Nat} (hR : am_RFok RF) (hd : 2 ≤ d) {s : am_S} {r : Int64 × am_S} (h : F_X12_word_82 s = some r) : am_Q sc d mX12_word (0, am_L0 mX12_word [.ref 82], [], am_hp RF s) (.long r.1, am_hp RF r.2) := by
  obtain ⟨e, rfl⟩ : ∃ e, d = e + 1 := ⟨d - 1, by omega⟩
  unfold F_X12_word_82 at h
  show am_Q _ _ _ (0, [.ref 82, .null, .null, .null], [], _) _
  refine aq_lconst (v := (0 : Int64)) (am_dg dkX12_word (i := 0) rfl) (by decide) ?_
  refine aq_lstore_n (L1 := [.ref 82, .long (0 : Int64), .null, .null]) (am_dg dkX12_word (i := 1) rfl) rfl ?_
  refine aq_aload_n (am_dg dkX12_word (i := 2) rfl) rfl ?_
  refine aq_getI (am_dg dkX12_word (i := 3) rfl) gk_12_297_82 (by decide) ?_
  refine aq_istore_n (L1 := [.ref 82, .long (0 : Int64), .null, .int (s.1 82 23)]) (am_dg dkX12_word (i := 4) rfl) rfl ?_
  exact T_X12_word_82_b7 hR (by omega) _ _ _ _ _ h
set_option maxRecDepth 20000 in
theorem T_X12_kindHere_82 {sc : Option (Nat × (Nat → Int32))} {RF : Nat → Nat → Option Nat} {d : Nat} (hR : am_RFok RF) (hd : 3 ≤ d) {s : am_S} {r : Int32 × am_S} (h : F_X12_kindHere_82 s = some r) : am_Q sc d mX12_kindHere (0, am_L0 mX12_kindHere [.ref 82], [], am_hp RF s) (.int r.1, am_hp RF r.2) := by
  obtain ⟨e, rfl⟩ : ∃ e, d = e + 1 := ⟨d - 1, by omega⟩
  unfold F_X12_kindHere_82 at h
  show am_Q _ _ _ (0, [.ref 82, .null, .null], [], _) _
  refine aq_aload_n (am_dg dkX12_kindHere (i := 0) rfl) rfl ?_
  obtain ⟨q1, hq2, h⟩ := am_bnd h
  refine aq_virt (a := [.ref 82]) (S1 := []) (v1 := .long q1.1) (S2 := [.long q1.1]) (am_dg dkX12_kindHere (i := 1) rfl) cv_12_327_12 (am_cls_c sh_82 (by decide)) rfl rfl rfl (Nat.le_of_ble_eq_true rfl) (Nat.le_of_ble_eq_true rfl) (T_X12_word_82 hR (by omega) hq2) rfl ?_
  refine aq_lstore_n (L1 := [.ref 82, .long q1.1, .null]) (am_dg dkX12_kindHere (i := 2) rfl) rfl ?_
  refine aq_lload_n (am_dg dkX12_kindHere (i := 3) rfl) rfl ?_
  refine aq_ldc2 (am_dg dkX12_kindHere (i := 4) rfl) cl_12_331 ?_
  refine aq_lcmp (am_dg dkX12_kindHere (i := 5) rfl) ?_
  by_cases hc3 : (lg_cmp q1.1 (23569509 : Int64)) = (0 : Int32)
  · rw [if_pos hc3] at h
    refine aq_ifF (t := 17) (am_dg dkX12_kindHere (i := 6) rfl) rfl (decide_eq_false (not_not_intro hc3)) ?_
    refine aq_iconst (v := (0 : Int32)) (am_dg dkX12_kindHere (i := 7) rfl) (by decide) ?_
    refine aq_goto (t := 78) (am_dg dkX12_kindHere (i := 8) rfl) rfl ?_
    obtain rfl := Option.some.inj h
    exact aq_ireturn (am_dg dkX12_kindHere (i := 40) rfl) rfl (Or.inl rfl) rfl
  · rw [if_neg hc3] at h
    refine aq_ifT (t := 17) (am_dg dkX12_kindHere (i := 6) rfl) rfl (decide_eq_true hc3) ?_
    refine aq_lload_n (am_dg dkX12_kindHere (i := 9) rfl) rfl ?_
    refine aq_ldc2 (am_dg dkX12_kindHere (i := 10) rfl) cl_12_333 ?_
    refine aq_lcmp (am_dg dkX12_kindHere (i := 11) rfl) ?_
    by_cases hc4 : (lg_cmp q1.1 (3417476 : Int64)) = (0 : Int32)
    · rw [if_pos hc4] at h
      refine aq_ifF (t := 29) (am_dg dkX12_kindHere (i := 12) rfl) rfl (decide_eq_false (not_not_intro hc4)) ?_
      refine aq_iconst (v := (1 : Int32)) (am_dg dkX12_kindHere (i := 13) rfl) (by decide) ?_
      refine aq_goto (t := 78) (am_dg dkX12_kindHere (i := 14) rfl) rfl ?_
      obtain rfl := Option.some.inj h
      exact aq_ireturn (am_dg dkX12_kindHere (i := 40) rfl) rfl (Or.inl rfl) rfl
    · rw [if_neg hc4] at h
      refine aq_ifT (t := 29) (am_dg dkX12_kindHere (i := 12) rfl) rfl (decide_eq_true hc4) ?_
      refine aq_lload_n (am_dg dkX12_kindHere (i := 15) rfl) rfl ?_
      refine aq_ldc2 (am_dg dkX12_kindHere (i := 16) rfl) cl_12_335 ?_
      refine aq_lcmp (am_dg dkX12_kindHere (i := 17) rfl) ?_
      by_cases hc5 : (lg_cmp q1.1 (18959911084 : Int64)) = (0 : Int32)
      · rw [if_pos hc5] at h
        refine aq_ifF (t := 41) (am_dg dkX12_kindHere (i := 18) rfl) rfl (decide_eq_false (not_not_intro hc5)) ?_
        refine aq_iconst (v := (2 : Int32)) (am_dg dkX12_kindHere (i := 19) rfl) (by decide) ?_
        refine aq_goto (t := 78) (am_dg dkX12_kindHere (i := 20) rfl) rfl ?_
        obtain rfl := Option.some.inj h
        exact aq_ireturn (am_dg dkX12_kindHere (i := 40) rfl) rfl (Or.inl rfl) rfl
      · rw [if_neg hc5] at h
        refine aq_ifT (t := 41) (am_dg dkX12_kindHere (i := 18) rfl) rfl (decide_eq_true hc5) ?_
        refine aq_lload_n (am_dg dkX12_kindHere (i := 21) rfl) rfl ?_
        refine aq_ldc2 (am_dg dkX12_kindHere (i := 22) rfl) cl_12_337 ?_
        refine aq_lcmp (am_dg dkX12_kindHere (i := 23) rfl) ?_
        by_cases hc6 : (lg_cmp q1.1 (555803826 : Int64)) = (0 : Int32)
        · rw [if_pos hc6] at h
          refine aq_ifF (t := 53) (am_dg dkX12_kindHere (i := 24) rfl) rfl (decide_eq_false (not_not_intro hc6)) ?_
          refine aq_iconst (v := (3 : Int32)) (am_dg dkX12_kindHere (i := 25) rfl) (by decide) ?_
          refine aq_goto (t := 78) (am_dg dkX12_kindHere (i := 26) rfl) rfl ?_
          obtain rfl := Option.some.inj h
          exact aq_ireturn (am_dg dkX12_kindHere (i := 40) rfl) rfl (Or.inl rfl) rfl
        · rw [if_neg hc6] at h
          refine aq_ifT (t := 53) (am_dg dkX12_kindHere (i := 24) rfl) rfl (decide_eq_true hc6) ?_
          refine aq_lload_n (am_dg dkX12_kindHere (i := 27) rfl) rfl ?_
          refine aq_ldc2 (am_dg dkX12_kindHere (i := 28) rfl) cl_12_339 ?_
          refine aq_lcmp (am_dg dkX12_kindHere (i := 29) rfl) ?_
          by_cases hc7 : (lg_cmp q1.1 (6953385550 : Int64)) = (0 : Int32)
          · rw [if_pos hc7] at h
            refine aq_ifF (t := 65) (am_dg dkX12_kindHere (i := 30) rfl) rfl (decide_eq_false (not_not_intro hc7)) ?_
            refine aq_iconst (v := (4 : Int32)) (am_dg dkX12_kindHere (i := 31) rfl) (by decide) ?_
            refine aq_goto (t := 78) (am_dg dkX12_kindHere (i := 32) rfl) rfl ?_
            obtain rfl := Option.some.inj h
            exact aq_ireturn (am_dg dkX12_kindHere (i := 40) rfl) rfl (Or.inl rfl) rfl
          · rw [if_neg hc7] at h
            refine aq_ifT (t := 65) (am_dg dkX12_kindHere (i := 30) rfl) rfl (decide_eq_true hc7) ?_
            refine aq_lload_n (am_dg dkX12_kindHere (i := 33) rfl) rfl ?_
            refine aq_ldc2 (am_dg dkX12_kindHere (i := 34) rfl) cl_12_341 ?_
            refine aq_lcmp (am_dg dkX12_kindHere (i := 35) rfl) ?_
            by_cases hc8 : (lg_cmp q1.1 (251276 : Int64)) = (0 : Int32)
            · rw [if_pos hc8] at h
              refine aq_ifF (t := 77) (am_dg dkX12_kindHere (i := 36) rfl) rfl (decide_eq_false (not_not_intro hc8)) ?_
              refine aq_iconst (v := (5 : Int32)) (am_dg dkX12_kindHere (i := 37) rfl) (by decide) ?_
              refine aq_goto (t := 78) (am_dg dkX12_kindHere (i := 38) rfl) rfl ?_
              obtain rfl := Option.some.inj h
              exact aq_ireturn (am_dg dkX12_kindHere (i := 40) rfl) rfl (Or.inl rfl) rfl
            · rw [if_neg hc8] at h
              refine aq_ifT (t := 77) (am_dg dkX12_kindHere (i := 36) rfl) rfl (decide_eq_true hc8) ?_
              refine aq_iconst (v := (-1 : Int32)) (am_dg dkX12_kindHere (i := 39) rfl) (by decide) ?_
              obtain rfl := Option.some.inj h
              exact aq_ireturn (am_dg dkX12_kindHere (i := 40) rfl) rfl (Or.inl rfl) rfl
set_option maxRecDepth 20000 in
theorem T_X12_wants_82_b17 {sc : Option (Nat × (Nat → Int32))} {RF : Nat → Nat → Option Nat} {d : Nat} (hR : am_RFok RF) (hd : 3 ≤ d) : ∀ (y0 : Int32) (w1 : Value) (s : am_S) (r : am_S), F_X12_wants_82_b17 y0 s = some r → am_Q sc d mX12_wants (17, [.ref 82, w1], [.int y0, .ref 82], am_hp RF s) (.null, am_hp RF r) := by
  obtain ⟨e, rfl⟩ : ∃ e, d = e + 1 := ⟨d - 1, by omega⟩
  intro y0 w1 s r h
  unfold F_X12_wants_82_b17 at h
  obtain ⟨hg1, h⟩ := am_guard h
  refine aq_putZ (am_dg dkX12_wants (i := 9) rfl) gk_12_309_82 hg1 ?_
  obtain ⟨s2, hs3, h⟩ := am_bnd h
  rw [Option.some.inj hs3]
  refine aq_aload_n (am_dg dkX12_wants (i := 10) rfl) rfl ?_
  refine aq_getI (am_dg dkX12_wants (i := 11) rfl) gk_12_309_82 (by decide) ?_
  by_cases hc4 : (s2.1 82 28) = (0 : Int32)
  · rw [if_pos hc4] at h
    refine aq_ifF (t := 31) (am_dg dkX12_wants (i := 12) rfl) rfl (decide_eq_false (not_not_intro hc4)) ?_
    refine aq_aload_n (am_dg dkX12_wants (i := 13) rfl) rfl ?_
    obtain ⟨q5, hq6, h⟩ := am_bnd h
    refine aq_virt (a := [.ref 82]) (S1 := []) (v1 := .null) (S2 := []) (am_dg dkX12_wants (i := 14) rfl) cv_12_313_12 (am_cls_c sh_82 (by decide)) rfl rfl rfl (Nat.le_of_ble_eq_true rfl) (Nat.le_of_ble_eq_true rfl) (T_X12_token_82 hR (by omega) hq6) rfl ?_
    obtain rfl := Option.some.inj h
    exact aq_return (am_dg dkX12_wants (i := 15) rfl) rfl
  · rw [if_neg hc4] at h
    refine aq_ifT (t := 31) (am_dg dkX12_wants (i := 12) rfl) rfl (decide_eq_true hc4) ?_
    obtain rfl := Option.some.inj h
    exact aq_return (am_dg dkX12_wants (i := 15) rfl) rfl
set_option maxRecDepth 20000 in
theorem T_X12_wants_82_b12 {sc : Option (Nat × (Nat → Int32))} {RF : Nat → Nat → Option Nat} {d : Nat} (hR : am_RFok RF) (hd : 3 ≤ d) : ∀ (w1 : Value) (s : am_S) (r : am_S), F_X12_wants_82_b12 s = some r → am_Q sc d mX12_wants (12, [.ref 82, w1], [.ref 82], am_hp RF s) (.null, am_hp RF r) := by
  obtain ⟨e, rfl⟩ : ∃ e, d = e + 1 := ⟨d - 1, by omega⟩
  intro w1 s r h
  unfold F_X12_wants_82_b12 at h
  refine aq_iconst (v := (1 : Int32)) (am_dg dkX12_wants (i := 6) rfl) (by decide) ?_
  refine aq_goto (t := 17) (am_dg dkX12_wants (i := 7) rfl) rfl ?_
  exact T_X12_wants_82_b17 hR (by omega) _ _ _ _ h
set_option maxRecDepth 20000 in
theorem T_X12_wants_82 {sc : Option (Nat × (Nat → Int32))} {RF : Nat → Nat → Option Nat} {d : Nat} (hR : am_RFok RF) (hd : 3 ≤ d) {a1 : Int32} {s : am_S} {r : am_S} (h : F_X12_wants_82 a1 s = some r) : am_Q sc d mX12_wants (0, am_L0 mX12_wants [.ref 82, .int a1], [], am_hp RF s) (.null, am_hp RF r) := by
  obtain ⟨e, rfl⟩ : ∃ e, d = e + 1 := ⟨d - 1, by omega⟩
  unfold F_X12_wants_82 at h
  show am_Q _ _ _ (0, [.ref 82, .int a1], [], _) _
  refine aq_aload_n (am_dg dkX12_wants (i := 0) rfl) rfl ?_
  refine aq_aload_n (am_dg dkX12_wants (i := 1) rfl) rfl ?_
  refine aq_getI (am_dg dkX12_wants (i := 2) rfl) gk_12_309_82 (by decide) ?_
  by_cases hc1 : (s.1 82 28) = (0 : Int32)
  · rw [if_pos hc1] at h
    refine aq_ifF (t := 12) (am_dg dkX12_wants (i := 3) rfl) rfl (decide_eq_false (not_not_intro hc1)) ?_
    refine aq_iload_n (am_dg dkX12_wants (i := 4) rfl) rfl ?_
    by_cases hc2 : a1 = (0 : Int32)
    · rw [if_pos hc2] at h
      refine aq_ifF (t := 16) (am_dg dkX12_wants (i := 5) rfl) rfl (decide_eq_false (not_not_intro hc2)) ?_
      exact T_X12_wants_82_b12 hR (by omega) _ _ _ h
    · rw [if_neg hc2] at h
      refine aq_ifT (t := 16) (am_dg dkX12_wants (i := 5) rfl) rfl (decide_eq_true hc2) ?_
      refine aq_iconst (v := (0 : Int32)) (am_dg dkX12_wants (i := 8) rfl) (by decide) ?_
      exact T_X12_wants_82_b17 hR (by omega) _ _ _ _ h
  · rw [if_neg hc1] at h
    refine aq_ifT (t := 12) (am_dg dkX12_wants (i := 3) rfl) rfl (decide_eq_true hc1) ?_
    exact T_X12_wants_82_b12 hR (by omega) _ _ _ h
set_option maxRecDepth 20000 in
theorem T_X12_writes_82 {sc : Option (Nat × (Nat → Int32))} {RF : Nat → Nat → Option Nat} {d : Nat} (hR : am_RFok RF) (hd : 0 ≤ d) {a1 : Int32} {s : am_S} {r : am_S} (h : F_X12_writes_82 a1 s = some r) : am_Q sc d mX12_writes (0, am_L0 mX12_writes [.ref 82, .int a1], [], am_hp RF s) (.null, am_hp RF r) := by
  unfold F_X12_writes_82 at h
  show am_Q _ _ _ (0, [.ref 82, .int a1], [], _) _
  refine aq_aload_n (am_dg dkX12_writes (i := 0) rfl) rfl ?_
  refine aq_getI (am_dg dkX12_writes (i := 1) rfl) gk_12_309_82 (by decide) ?_
  by_cases hc1 : (s.1 82 28) = (0 : Int32)
  · rw [if_pos hc1] at h
    refine aq_ifF (t := 30) (am_dg dkX12_writes (i := 2) rfl) rfl (decide_eq_false (not_not_intro hc1)) ?_
    refine aq_aload_n (am_dg dkX12_writes (i := 3) rfl) rfl ?_
    refine aq_getR (am_dg dkX12_writes (i := 4) rfl) gk_12_7_82 (rf_82_0 hR) ?_
    refine aq_bipush (v := (96 : Int32)) (am_dg dkX12_writes (i := 5) rfl) (by decide) ?_
    refine aq_aload_n (am_dg dkX12_writes (i := 6) rfl) rfl ?_
    refine aq_getI (am_dg dkX12_writes (i := 7) rfl) gk_12_353_82 (by decide) ?_
    refine aq_iadd (am_dg dkX12_writes (i := 8) rfl) ?_
    refine aq_iload_n (am_dg dkX12_writes (i := 9) rfl) rfl ?_
    obtain ⟨hg2, h⟩ := am_guard h
    refine aq_iast (am_dg dkX12_writes (i := 10) rfl) sh_83 hg2 ?_
    obtain ⟨s3, hs4, h⟩ := am_bnd h
    rw [Option.some.inj hs4]
    refine aq_aload_n (am_dg dkX12_writes (i := 11) rfl) rfl ?_
    refine aq_dup (am_dg dkX12_writes (i := 12) rfl) rfl ?_
    refine aq_getI (am_dg dkX12_writes (i := 13) rfl) gk_12_353_82 (by decide) ?_
    refine aq_iconst (v := (1 : Int32)) (am_dg dkX12_writes (i := 14) rfl) (by decide) ?_
    refine aq_iadd (am_dg dkX12_writes (i := 15) rfl) ?_
    refine aq_putI (am_dg dkX12_writes (i := 16) rfl) gk_12_353_82 ?_
    obtain ⟨s5, hs6, h⟩ := am_bnd h
    rw [Option.some.inj hs6]
    obtain rfl := Option.some.inj h
    exact aq_return (am_dg dkX12_writes (i := 17) rfl) rfl
  · rw [if_neg hc1] at h
    refine aq_ifT (t := 30) (am_dg dkX12_writes (i := 2) rfl) rfl (decide_eq_true hc1) ?_
    obtain rfl := Option.some.inj h
    exact aq_return (am_dg dkX12_writes (i := 17) rfl) rfl
set_option maxRecDepth 20000 in
theorem T_X12_factHere_82 {sc : Option (Nat × (Nat → Int32))} {RF : Nat → Nat → Option Nat} {d : Nat} (hR : am_RFok RF) (hd : 3 ≤ d) {s : am_S} {r : Int32 × am_S} (h : F_X12_factHere_82 s = some r) : am_Q sc d mX12_factHere (0, am_L0 mX12_factHere [.ref 82], [], am_hp RF s) (.int r.1, am_hp RF r.2) := by
  obtain ⟨e, rfl⟩ : ∃ e, d = e + 1 := ⟨d - 1, by omega⟩
  unfold F_X12_factHere_82 at h
  show am_Q _ _ _ (0, [.ref 82, .null, .null], [], _) _
  refine aq_aload_n (am_dg dkX12_factHere (i := 0) rfl) rfl ?_
  obtain ⟨q1, hq2, h⟩ := am_bnd h
  refine aq_virt (a := [.ref 82]) (S1 := []) (v1 := .long q1.1) (S2 := [.long q1.1]) (am_dg dkX12_factHere (i := 1) rfl) cv_12_327_12 (am_cls_c sh_82 (by decide)) rfl rfl rfl (Nat.le_of_ble_eq_true rfl) (Nat.le_of_ble_eq_true rfl) (T_X12_word_82 hR (by omega) hq2) rfl ?_
  refine aq_lstore_n (L1 := [.ref 82, .long q1.1, .null]) (am_dg dkX12_factHere (i := 2) rfl) rfl ?_
  refine aq_lload_n (am_dg dkX12_factHere (i := 3) rfl) rfl ?_
  refine aq_ldc2 (am_dg dkX12_factHere (i := 4) rfl) cl_12_343 ?_
  refine aq_lcmp (am_dg dkX12_factHere (i := 5) rfl) ?_
  by_cases hc3 : (lg_cmp q1.1 (677454 : Int64)) = (0 : Int32)
  · rw [if_pos hc3] at h
    refine aq_ifF (t := 17) (am_dg dkX12_factHere (i := 6) rfl) rfl (decide_eq_false (not_not_intro hc3)) ?_
    refine aq_iconst (v := (-1 : Int32)) (am_dg dkX12_factHere (i := 7) rfl) (by decide) ?_
    refine aq_goto (t := 70) (am_dg dkX12_factHere (i := 8) rfl) rfl ?_
    obtain rfl := Option.some.inj h
    exact aq_ireturn (am_dg dkX12_factHere (i := 34) rfl) rfl (Or.inl rfl) rfl
  · rw [if_neg hc3] at h
    refine aq_ifT (t := 17) (am_dg dkX12_factHere (i := 6) rfl) rfl (decide_eq_true hc3) ?_
    refine aq_lload_n (am_dg dkX12_factHere (i := 9) rfl) rfl ?_
    refine aq_ldc2 (am_dg dkX12_factHere (i := 10) rfl) cl_12_345 ?_
    refine aq_lcmp (am_dg dkX12_factHere (i := 11) rfl) ?_
    by_cases hc4 : (lg_cmp q1.1 (17092712 : Int64)) = (0 : Int32)
    · rw [if_pos hc4] at h
      refine aq_ifF (t := 30) (am_dg dkX12_factHere (i := 12) rfl) rfl (decide_eq_false (not_not_intro hc4)) ?_
      refine aq_bipush (v := (-2 : Int32)) (am_dg dkX12_factHere (i := 13) rfl) (by decide) ?_
      refine aq_goto (t := 70) (am_dg dkX12_factHere (i := 14) rfl) rfl ?_
      obtain rfl := Option.some.inj h
      exact aq_ireturn (am_dg dkX12_factHere (i := 34) rfl) rfl (Or.inl rfl) rfl
    · rw [if_neg hc4] at h
      refine aq_ifT (t := 30) (am_dg dkX12_factHere (i := 12) rfl) rfl (decide_eq_true hc4) ?_
      refine aq_lload_n (am_dg dkX12_factHere (i := 15) rfl) rfl ?_
      refine aq_ldc2 (am_dg dkX12_factHere (i := 16) rfl) cl_12_347 ?_
      refine aq_lcmp (am_dg dkX12_factHere (i := 17) rfl) ?_
      by_cases hc5 : (lg_cmp q1.1 (674919554696 : Int64)) = (0 : Int32)
      · rw [if_pos hc5] at h
        refine aq_ifF (t := 43) (am_dg dkX12_factHere (i := 18) rfl) rfl (decide_eq_false (not_not_intro hc5)) ?_
        refine aq_bipush (v := (-3 : Int32)) (am_dg dkX12_factHere (i := 19) rfl) (by decide) ?_
        refine aq_goto (t := 70) (am_dg dkX12_factHere (i := 20) rfl) rfl ?_
        obtain rfl := Option.some.inj h
        exact aq_ireturn (am_dg dkX12_factHere (i := 34) rfl) rfl (Or.inl rfl) rfl
      · rw [if_neg hc5] at h
        refine aq_ifT (t := 43) (am_dg dkX12_factHere (i := 18) rfl) rfl (decide_eq_true hc5) ?_
        refine aq_lload_n (am_dg dkX12_factHere (i := 21) rfl) rfl ?_
        refine aq_ldc2 (am_dg dkX12_factHere (i := 22) rfl) cl_12_349 ?_
        refine aq_lcmp (am_dg dkX12_factHere (i := 23) rfl) ?_
        by_cases hc6 : (lg_cmp q1.1 (17171557 : Int64)) = (0 : Int32)
        · rw [if_pos hc6] at h
          refine aq_ifF (t := 56) (am_dg dkX12_factHere (i := 24) rfl) rfl (decide_eq_false (not_not_intro hc6)) ?_
          refine aq_bipush (v := (-4 : Int32)) (am_dg dkX12_factHere (i := 25) rfl) (by decide) ?_
          refine aq_goto (t := 70) (am_dg dkX12_factHere (i := 26) rfl) rfl ?_
          obtain rfl := Option.some.inj h
          exact aq_ireturn (am_dg dkX12_factHere (i := 34) rfl) rfl (Or.inl rfl) rfl
        · rw [if_neg hc6] at h
          refine aq_ifT (t := 56) (am_dg dkX12_factHere (i := 24) rfl) rfl (decide_eq_true hc6) ?_
          refine aq_lload_n (am_dg dkX12_factHere (i := 27) rfl) rfl ?_
          refine aq_ldc2 (am_dg dkX12_factHere (i := 28) rfl) cl_12_351 ?_
          refine aq_lcmp (am_dg dkX12_factHere (i := 29) rfl) ?_
          by_cases hc7 : (lg_cmp q1.1 (492210354 : Int64)) = (0 : Int32)
          · rw [if_pos hc7] at h
            refine aq_ifF (t := 69) (am_dg dkX12_factHere (i := 30) rfl) rfl (decide_eq_false (not_not_intro hc7)) ?_
            refine aq_bipush (v := (-5 : Int32)) (am_dg dkX12_factHere (i := 31) rfl) (by decide) ?_
            refine aq_goto (t := 70) (am_dg dkX12_factHere (i := 32) rfl) rfl ?_
            obtain rfl := Option.some.inj h
            exact aq_ireturn (am_dg dkX12_factHere (i := 34) rfl) rfl (Or.inl rfl) rfl
          · rw [if_neg hc7] at h
            refine aq_ifT (t := 69) (am_dg dkX12_factHere (i := 30) rfl) rfl (decide_eq_true hc7) ?_
            refine aq_iconst (v := (0 : Int32)) (am_dg dkX12_factHere (i := 33) rfl) (by decide) ?_
            obtain rfl := Option.some.inj h
            exact aq_ireturn (am_dg dkX12_factHere (i := 34) rfl) rfl (Or.inl rfl) rfl
set_option maxRecDepth 20000 in
theorem T_X12_number_82_b100 {sc : Option (Nat × (Nat → Int32))} {RF : Nat → Nat → Option Nat} {d : Nat} (hR : am_RFok RF) (hd : 4 ≤ d) : ∀ (y0 : Int32) (w0 : Value) (w1 : Value) (w2 : Value) (w3 : Value) (s : am_S) (r : am_S), F_X12_number_82_b100 y0 s = some r → am_Q sc d mX12_number (100, [w0, w1, w2, w3], [.int y0, .ref 82], am_hp RF s) (.null, am_hp RF r) := by
  obtain ⟨e, rfl⟩ : ∃ e, d = e + 1 := ⟨d - 1, by omega⟩
  intro y0 w0 w1 w2 w3 s r h
  unfold F_X12_number_82_b100 at h
  obtain ⟨q1, hq2, h⟩ := am_bnd h
  refine aq_virt (a := [.ref 82, .int y0]) (S1 := []) (v1 := .null) (S2 := []) (am_dg dkX12_number (i := 54) rfl) cv_12_323_12 (am_cls_c sh_82 (by decide)) rfl rfl rfl (Nat.le_of_ble_eq_true rfl) (Nat.le_of_ble_eq_true rfl) (T_X12_wants_82 hR (by omega) hq2) rfl ?_
  obtain rfl := Option.some.inj h
  exact aq_return (am_dg dkX12_number (i := 55) rfl) rfl
set_option maxRecDepth 20000 in
theorem T_X12_number_82_b99 {sc : Option (Nat × (Nat → Int32))} {RF : Nat → Nat → Option Nat} {d : Nat} (hR : am_RFok RF) (hd : 4 ≤ d) : ∀ (w0 : Value) (w1 : Value) (w2 : Value) (w3 : Value) (s : am_S) (r : am_S), F_X12_number_82_b99 s = some r → am_Q sc d mX12_number (99, [w0, w1, w2, w3], [.ref 82], am_hp RF s) (.null, am_hp RF r) := by
  obtain ⟨e, rfl⟩ : ∃ e, d = e + 1 := ⟨d - 1, by omega⟩
  intro w0 w1 w2 w3 s r h
  unfold F_X12_number_82_b99 at h
  refine aq_iconst (v := (0 : Int32)) (am_dg dkX12_number (i := 53) rfl) (by decide) ?_
  exact T_X12_number_82_b100 hR (by omega) _ _ _ _ _ _ _ h
set_option maxRecDepth 20000 in
theorem T_X12_number_82_b82 {sc : Option (Nat × (Nat → Int32))} {RF : Nat → Nat → Option Nat} {d : Nat} (hR : am_RFok RF) (hd : 4 ≤ d) : ∀ (x1 : Int32) (x2 : Int32) (w3 : Value) (s : am_S) (r : am_S), F_X12_number_82_b82 x1 x2 s = some r → am_Q sc d mX12_number (82, [.ref 82, .int x1, .int x2, w3], [], am_hp RF s) (.null, am_hp RF r) := by
  obtain ⟨e, rfl⟩ : ∃ e, d = e + 1 := ⟨d - 1, by omega⟩
  intro x1 x2 w3 s r h
  unfold F_X12_number_82_b82 at h
  refine aq_aload_n (am_dg dkX12_number (i := 44) rfl) rfl ?_
  refine aq_iload_n (am_dg dkX12_number (i := 45) rfl) rfl ?_
  by_cases hc1 : x2 = (0 : Int32)
  · rw [if_pos hc1] at h
    refine aq_ifT (t := 99) (am_dg dkX12_number (i := 46) rfl) rfl (decide_eq_true hc1) ?_
    exact T_X12_number_82_b99 hR (by omega) _ _ _ _ _ _ h
  · rw [if_neg hc1] at h
    refine aq_ifF (t := 99) (am_dg dkX12_number (i := 46) rfl) rfl (decide_eq_false hc1) ?_
    refine aq_aload_n (am_dg dkX12_number (i := 47) rfl) rfl ?_
    refine aq_getI (am_dg dkX12_number (i := 48) rfl) gk_12_320_82 (by decide) ?_
    refine aq_iload_n (am_dg dkX12_number (i := 49) rfl) rfl ?_
    by_cases hc2 : x1 < (s.1 82 25)
    · rw [if_pos hc2] at h
      refine aq_icT (t := 99) (am_dg dkX12_number (i := 50) rfl) rfl (decide_eq_true hc2) ?_
      exact T_X12_number_82_b99 hR (by omega) _ _ _ _ _ _ h
    · rw [if_neg hc2] at h
      refine aq_icF (t := 99) (am_dg dkX12_number (i := 50) rfl) rfl (decide_eq_false hc2) ?_
      refine aq_iconst (v := (1 : Int32)) (am_dg dkX12_number (i := 51) rfl) (by decide) ?_
      refine aq_goto (t := 100) (am_dg dkX12_number (i := 52) rfl) rfl ?_
      exact T_X12_number_82_b100 hR (by omega) _ _ _ _ _ _ _ h
set_option maxRecDepth 20000 in
theorem T_X12_number_82_b43 {sc : Option (Nat × (Nat → Int32))} {RF : Nat → Nat → Option Nat} {d : Nat} (hR : am_RFok RF) (hd : 4 ≤ d) : ∀ (n : Nat) (x1 : Int32) (x2 : Int32) (x3 : Int32) (s : am_S) (r : am_S), F_X12_number_82_b43 n x1 x2 x3 s = some r → am_Q sc d mX12_number (43, [.ref 82, .int x1, .int x2, .int x3], [], am_hp RF s) (.null, am_hp RF r) := by
  obtain ⟨e, rfl⟩ : ∃ e, d = e + 1 := ⟨d - 1, by omega⟩
  intro n
  induction n with
  | zero => intro x1 x2 x3 s r h; rw [F_X12_number_82_b43] at h; cases h
  | succ n ih =>
  intro x1 x2 x3 s r h
  rw [F_X12_number_82_b43] at h
  refine aq_iload_n (am_dg dkX12_number (i := 23) rfl) rfl ?_
  refine aq_aload_n (am_dg dkX12_number (i := 24) rfl) rfl ?_
  refine aq_getI (am_dg dkX12_number (i := 25) rfl) gk_12_294_82 (by decide) ?_
  by_cases hc1 : (s.1 82 24) ≤ x3
  · rw [if_pos hc1] at h
    refine aq_icT (t := 82) (am_dg dkX12_number (i := 26) rfl) rfl (decide_eq_true hc1) ?_
    exact T_X12_number_82_b82 hR (by omega) _ _ _ _ _ h
  · rw [if_neg hc1] at h
    refine aq_icF (t := 82) (am_dg dkX12_number (i := 26) rfl) rfl (decide_eq_false hc1) ?_
    refine aq_iload_n (am_dg dkX12_number (i := 27) rfl) rfl ?_
    by_cases hc2 : x2 = (0 : Int32)
    · rw [if_pos hc2] at h
      refine aq_ifT (t := 82) (am_dg dkX12_number (i := 28) rfl) rfl (decide_eq_true hc2) ?_
      exact T_X12_number_82_b82 hR (by omega) _ _ _ _ _ h
    · rw [if_neg hc2] at h
      refine aq_ifF (t := 82) (am_dg dkX12_number (i := 28) rfl) rfl (decide_eq_false hc2) ?_
      refine aq_aload_n (am_dg dkX12_number (i := 29) rfl) rfl ?_
      refine aq_bipush (v := (10 : Int32)) (am_dg dkX12_number (i := 30) rfl) (by decide) ?_
      refine aq_aload_n (am_dg dkX12_number (i := 31) rfl) rfl ?_
      refine aq_getI (am_dg dkX12_number (i := 32) rfl) gk_12_320_82 (by decide) ?_
      refine aq_imul (am_dg dkX12_number (i := 33) rfl) ?_
      refine aq_aload_n (am_dg dkX12_number (i := 34) rfl) rfl ?_
      refine aq_getR (am_dg dkX12_number (i := 35) rfl) gk_12_37_82 (rf_82_21 hR) ?_
      refine aq_iload_n (am_dg dkX12_number (i := 36) rfl) rfl ?_
      obtain ⟨hg3, h⟩ := am_guard h
      refine aq_iald (am_dg dkX12_number (i := 37) rfl) sh_92 hg3 ?_
      refine aq_iadd (am_dg dkX12_number (i := 38) rfl) ?_
      refine aq_bipush (v := (48 : Int32)) (am_dg dkX12_number (i := 39) rfl) (by decide) ?_
      refine aq_isub (am_dg dkX12_number (i := 40) rfl) ?_
      refine aq_putI (am_dg dkX12_number (i := 41) rfl) gk_12_320_82 ?_
      obtain ⟨s4, hs5, h⟩ := am_bnd h
      rw [Option.some.inj hs5]
      refine aq_iinc (v := (1 : Int32)) (L1 := [.ref 82, .int x1, .int x2, .int (x3 + (1 : Int32))]) (am_dg dkX12_number (i := 42) rfl) rfl (by decide) rfl ?_
      refine aq_goto (t := 43) (am_dg dkX12_number (i := 43) rfl) rfl ?_
      exact ih _ _ _ _ _ h
set_option maxRecDepth 20000 in
theorem T_X12_number_82_b32 {sc : Option (Nat × (Nat → Int32))} {RF : Nat → Nat → Option Nat} {d : Nat} (hR : am_RFok RF) (hd : 4 ≤ d) : ∀ (x1 : Int32) (y0 : Int32) (w2 : Value) (w3 : Value) (s : am_S) (r : am_S), F_X12_number_82_b32 x1 y0 s = some r → am_Q sc d mX12_number (32, [.ref 82, .int x1, w2, w3], [.int y0], am_hp RF s) (.null, am_hp RF r) := by
  obtain ⟨e, rfl⟩ : ∃ e, d = e + 1 := ⟨d - 1, by omega⟩
  intro x1 y0 w2 w3 s r h
  unfold F_X12_number_82_b32 at h
  refine aq_istore_n (L1 := [.ref 82, .int x1, .int y0, w3]) (am_dg dkX12_number (i := 16) rfl) rfl ?_
  refine aq_aload_n (am_dg dkX12_number (i := 17) rfl) rfl ?_
  refine aq_iconst (v := (0 : Int32)) (am_dg dkX12_number (i := 18) rfl) (by decide) ?_
  refine aq_putI (am_dg dkX12_number (i := 19) rfl) gk_12_320_82 ?_
  obtain ⟨s1, hs2, h⟩ := am_bnd h
  rw [Option.some.inj hs2]
  refine aq_aload_n (am_dg dkX12_number (i := 20) rfl) rfl ?_
  refine aq_getI (am_dg dkX12_number (i := 21) rfl) gk_12_297_82 (by decide) ?_
  refine aq_istore_n (L1 := [.ref 82, .int x1, .int y0, .int (s1.1 82 23)]) (am_dg dkX12_number (i := 22) rfl) rfl ?_
  exact T_X12_number_82_b43 hR (by omega) _ _ _ _ _ _ h
set_option maxRecDepth 20000 in
theorem T_X12_number_82_b31 {sc : Option (Nat × (Nat → Int32))} {RF : Nat → Nat → Option Nat} {d : Nat} (hR : am_RFok RF) (hd : 4 ≤ d) : ∀ (x1 : Int32) (w2 : Value) (w3 : Value) (s : am_S) (r : am_S), F_X12_number_82_b31 x1 s = some r → am_Q sc d mX12_number (31, [.ref 82, .int x1, w2, w3], [], am_hp RF s) (.null, am_hp RF r) := by
  obtain ⟨e, rfl⟩ : ∃ e, d = e + 1 := ⟨d - 1, by omega⟩
  intro x1 w2 w3 s r h
  unfold F_X12_number_82_b31 at h
  refine aq_iconst (v := (0 : Int32)) (am_dg dkX12_number (i := 15) rfl) (by decide) ?_
  exact T_X12_number_82_b32 hR (by omega) _ _ _ _ _ _ h
set_option maxRecDepth 20000 in
theorem T_X12_number_82 {sc : Option (Nat × (Nat → Int32))} {RF : Nat → Nat → Option Nat} {d : Nat} (hR : am_RFok RF) (hd : 4 ≤ d) {a1 : Int32} {s : am_S} {r : am_S} (h : F_X12_number_82 a1 s = some r) : am_Q sc d mX12_number (0, am_L0 mX12_number [.ref 82, .int a1], [], am_hp RF s) (.null, am_hp RF r) := by
  obtain ⟨e, rfl⟩ : ∃ e, d = e + 1 := ⟨d - 1, by omega⟩
  unfold F_X12_number_82 at h
  show am_Q _ _ _ (0, [.ref 82, .int a1, .null, .null], [], _) _
  refine aq_aload_n (am_dg dkX12_number (i := 0) rfl) rfl ?_
  refine aq_aload_n (am_dg dkX12_number (i := 1) rfl) rfl ?_
  refine aq_getI (am_dg dkX12_number (i := 2) rfl) gk_12_297_82 (by decide) ?_
  obtain ⟨q1, hq2, h⟩ := am_bnd h
  refine aq_virt (a := [.ref 82, .int (s.1 82 23)]) (S1 := []) (v1 := .int q1.1) (S2 := [.int q1.1]) (am_dg dkX12_number (i := 3) rfl) cv_12_300_12 (am_cls_c sh_82 (by decide)) rfl rfl rfl (Nat.le_of_ble_eq_true rfl) (Nat.le_of_ble_eq_true rfl) (T_X12_byteAt_82 hR (by omega) hq2) rfl ?_
  obtain ⟨q3, hq4, h⟩ := am_bnd h
  refine aq_static (a := [.int q1.1]) (S1 := []) (v1 := .int q3.1) (S2 := [.int q3.1]) (am_dg dkX12_number (i := 4) rfl) ct_12_306 rfl rfl rfl (Nat.le_of_ble_eq_true rfl) (Nat.le_of_ble_eq_true rfl) (T_X12_isDigit hR (by omega) hq4) rfl ?_
  by_cases hc5 : q3.1 = (0 : Int32)
  · rw [if_pos hc5] at h
    refine aq_ifT (t := 31) (am_dg dkX12_number (i := 5) rfl) rfl (decide_eq_true hc5) ?_
    exact T_X12_number_82_b31 hR (by omega) _ _ _ _ _ h
  · rw [if_neg hc5] at h
    refine aq_ifF (t := 31) (am_dg dkX12_number (i := 5) rfl) rfl (decide_eq_false hc5) ?_
    refine aq_aload_n (am_dg dkX12_number (i := 6) rfl) rfl ?_
    refine aq_getI (am_dg dkX12_number (i := 7) rfl) gk_12_294_82 (by decide) ?_
    refine aq_aload_n (am_dg dkX12_number (i := 8) rfl) rfl ?_
    refine aq_getI (am_dg dkX12_number (i := 9) rfl) gk_12_297_82 (by decide) ?_
    refine aq_isub (am_dg dkX12_number (i := 10) rfl) ?_
    refine aq_iconst (v := (5 : Int32)) (am_dg dkX12_number (i := 11) rfl) (by decide) ?_
    by_cases hc6 : (5 : Int32) ≤ ((q3.2.1 82 24) - (q3.2.1 82 23))
    · rw [if_pos hc6] at h
      refine aq_icT (t := 31) (am_dg dkX12_number (i := 12) rfl) rfl (decide_eq_true hc6) ?_
      exact T_X12_number_82_b31 hR (by omega) _ _ _ _ _ h
    · rw [if_neg hc6] at h
      refine aq_icF (t := 31) (am_dg dkX12_number (i := 12) rfl) rfl (decide_eq_false hc6) ?_
      refine aq_iconst (v := (1 : Int32)) (am_dg dkX12_number (i := 13) rfl) (by decide) ?_
      refine aq_goto (t := 32) (am_dg dkX12_number (i := 14) rfl) rfl ?_
      exact T_X12_number_82_b32 hR (by omega) _ _ _ _ _ _ h
set_option maxRecDepth 20000 in
theorem T_X12_valueHere_82 {sc : Option (Nat × (Nat → Int32))} {RF : Nat → Nat → Option Nat} {d : Nat} (hR : am_RFok RF) (hd : 5 ≤ d) {s : am_S} {r : am_S} (h : F_X12_valueHere_82 s = some r) : am_Q sc d mX12_valueHere (0, am_L0 mX12_valueHere [.ref 82], [], am_hp RF s) (.null, am_hp RF r) := by
  obtain ⟨e, rfl⟩ : ∃ e, d = e + 1 := ⟨d - 1, by omega⟩
  unfold F_X12_valueHere_82 at h
  show am_Q _ _ _ (0, [.ref 82, .null], [], _) _
  refine aq_aload_n (am_dg dkX12_valueHere (i := 0) rfl) rfl ?_
  obtain ⟨q1, hq2, h⟩ := am_bnd h
  refine aq_virt (a := [.ref 82]) (S1 := []) (v1 := .int q1.1) (S2 := [.int q1.1]) (am_dg dkX12_valueHere (i := 1) rfl) cv_12_356_12 (am_cls_c sh_82 (by decide)) rfl rfl rfl (Nat.le_of_ble_eq_true rfl) (Nat.le_of_ble_eq_true rfl) (T_X12_factHere_82 hR (by omega) hq2) rfl ?_
  refine aq_istore_n (L1 := [.ref 82, .int q1.1]) (am_dg dkX12_valueHere (i := 2) rfl) rfl ?_
  refine aq_iload_n (am_dg dkX12_valueHere (i := 3) rfl) rfl ?_
  by_cases hc3 : (0 : Int32) ≤ q1.1
  · rw [if_pos hc3] at h
    refine aq_ifT (t := 22) (am_dg dkX12_valueHere (i := 4) rfl) rfl (decide_eq_true hc3) ?_
    refine aq_aload_n (am_dg dkX12_valueHere (i := 12) rfl) rfl ?_
    refine aq_getI (am_dg dkX12_valueHere (i := 13) rfl) gk_12_309_82 (by decide) ?_
    by_cases hc4 : (q1.2.1 82 28) = (0 : Int32)
    · rw [if_pos hc4] at h
      refine aq_ifF (t := 44) (am_dg dkX12_valueHere (i := 14) rfl) rfl (decide_eq_false (not_not_intro hc4)) ?_
      refine aq_aload_n (am_dg dkX12_valueHere (i := 15) rfl) rfl ?_
      refine aq_sipush (v := (9999 : Int32)) (am_dg dkX12_valueHere (i := 16) rfl) (by decide) ?_
      obtain ⟨q5, hq6, h⟩ := am_bnd h
      refine aq_virt (a := [.ref 82, .int (9999 : Int32)]) (S1 := []) (v1 := .null) (S2 := []) (am_dg dkX12_valueHere (i := 17) rfl) cv_12_362_12 (am_cls_c sh_82 (by decide)) rfl rfl rfl (Nat.le_of_ble_eq_true rfl) (Nat.le_of_ble_eq_true rfl) (T_X12_number_82 hR (by omega) hq6) rfl ?_
      refine aq_aload_n (am_dg dkX12_valueHere (i := 18) rfl) rfl ?_
      refine aq_aload_n (am_dg dkX12_valueHere (i := 19) rfl) rfl ?_
      refine aq_getI (am_dg dkX12_valueHere (i := 20) rfl) gk_12_320_82 (by decide) ?_
      obtain ⟨q7, hq8, h⟩ := am_bnd h
      refine aq_virt (a := [.ref 82, .int (q5.1 82 25)]) (S1 := []) (v1 := .null) (S2 := []) (am_dg dkX12_valueHere (i := 21) rfl) cv_12_359_12 (am_cls_c sh_82 (by decide)) rfl rfl rfl (Nat.le_of_ble_eq_true rfl) (Nat.le_of_ble_eq_true rfl) (T_X12_writes_82 hR (by omega) hq8) rfl ?_
      obtain rfl := Option.some.inj h
      exact aq_return (am_dg dkX12_valueHere (i := 22) rfl) rfl
    · rw [if_neg hc4] at h
      refine aq_ifT (t := 44) (am_dg dkX12_valueHere (i := 14) rfl) rfl (decide_eq_true hc4) ?_
      obtain rfl := Option.some.inj h
      exact aq_return (am_dg dkX12_valueHere (i := 22) rfl) rfl
  · rw [if_neg hc3] at h
    refine aq_ifF (t := 22) (am_dg dkX12_valueHere (i := 4) rfl) rfl (decide_eq_false hc3) ?_
    refine aq_aload_n (am_dg dkX12_valueHere (i := 5) rfl) rfl ?_
    refine aq_iconst (v := (1 : Int32)) (am_dg dkX12_valueHere (i := 6) rfl) (by decide) ?_
    obtain ⟨q9, hq10, h⟩ := am_bnd h
    refine aq_virt (a := [.ref 82, .int (1 : Int32)]) (S1 := []) (v1 := .null) (S2 := []) (am_dg dkX12_valueHere (i := 7) rfl) cv_12_323_12 (am_cls_c sh_82 (by decide)) rfl rfl rfl (Nat.le_of_ble_eq_true rfl) (Nat.le_of_ble_eq_true rfl) (T_X12_wants_82 hR (by omega) hq10) rfl ?_
    refine aq_aload_n (am_dg dkX12_valueHere (i := 8) rfl) rfl ?_
    refine aq_iload_n (am_dg dkX12_valueHere (i := 9) rfl) rfl ?_
    obtain ⟨q11, hq12, h⟩ := am_bnd h
    refine aq_virt (a := [.ref 82, .int q1.1]) (S1 := []) (v1 := .null) (S2 := []) (am_dg dkX12_valueHere (i := 10) rfl) cv_12_359_12 (am_cls_c sh_82 (by decide)) rfl rfl rfl (Nat.le_of_ble_eq_true rfl) (Nat.le_of_ble_eq_true rfl) (T_X12_writes_82 hR (by omega) hq12) rfl ?_
    refine aq_goto (t := 44) (am_dg dkX12_valueHere (i := 11) rfl) rfl ?_
    obtain rfl := Option.some.inj h
    exact aq_return (am_dg dkX12_valueHere (i := 22) rfl) rfl
set_option maxRecDepth 20000 in
theorem T_X12_comparison_82_b80 {sc : Option (Nat × (Nat → Int32))} {RF : Nat → Nat → Option Nat} {d : Nat} (hR : am_RFok RF) (hd : 6 ≤ d) : ∀ (y0 : Int32) (w0 : Value) (w1 : Value) (s : am_S) (r : am_S), F_X12_comparison_82_b80 y0 s = some r → am_Q sc d mX12_comparison (80, [w0, w1], [.int y0, .ref 82], am_hp RF s) (.null, am_hp RF r) := by
  obtain ⟨e, rfl⟩ : ∃ e, d = e + 1 := ⟨d - 1, by omega⟩
  intro y0 w0 w1 s r h
  unfold F_X12_comparison_82_b80 at h
  obtain ⟨q1, hq2, h⟩ := am_bnd h
  refine aq_virt (a := [.ref 82, .int y0]) (S1 := []) (v1 := .null) (S2 := []) (am_dg dkX12_comparison (i := 40) rfl) cv_12_359_12 (am_cls_c sh_82 (by decide)) rfl rfl rfl (Nat.le_of_ble_eq_true rfl) (Nat.le_of_ble_eq_true rfl) (T_X12_writes_82 hR (by omega) hq2) rfl ?_
  obtain rfl := Option.some.inj h
  exact aq_return (am_dg dkX12_comparison (i := 41) rfl) rfl
set_option maxRecDepth 20000 in
theorem T_X12_comparison_82_b48 {sc : Option (Nat × (Nat → Int32))} {RF : Nat → Nat → Option Nat} {d : Nat} (hR : am_RFok RF) (hd : 6 ≤ d) : ∀ (x1 : Int32) (y0 : Int32) (s : am_S) (r : am_S), F_X12_comparison_82_b48 x1 y0 s = some r → am_Q sc d mX12_comparison (48, [.ref 82, .int x1], [.int y0, .ref 82], am_hp RF s) (.null, am_hp RF r) := by
  obtain ⟨e, rfl⟩ : ∃ e, d = e + 1 := ⟨d - 1, by omega⟩
  intro x1 y0 s r h
  unfold F_X12_comparison_82_b48 at h
  obtain ⟨q1, hq2, h⟩ := am_bnd h
  refine aq_virt (a := [.ref 82, .int y0]) (S1 := []) (v1 := .null) (S2 := []) (am_dg dkX12_comparison (i := 25) rfl) cv_12_323_12 (am_cls_c sh_82 (by decide)) rfl rfl rfl (Nat.le_of_ble_eq_true rfl) (Nat.le_of_ble_eq_true rfl) (T_X12_wants_82 hR (by omega) hq2) rfl ?_
  refine aq_aload_n (am_dg dkX12_comparison (i := 26) rfl) rfl ?_
  obtain ⟨q3, hq4, h⟩ := am_bnd h
  refine aq_virt (a := [.ref 82]) (S1 := []) (v1 := .null) (S2 := []) (am_dg dkX12_comparison (i := 27) rfl) cv_12_365_12 (am_cls_c sh_82 (by decide)) rfl rfl rfl (Nat.le_of_ble_eq_true rfl) (Nat.le_of_ble_eq_true rfl) (T_X12_valueHere_82 hR (by omega) hq4) rfl ?_
  refine aq_aload_n (am_dg dkX12_comparison (i := 28) rfl) rfl ?_
  refine aq_iload_n (am_dg dkX12_comparison (i := 29) rfl) rfl ?_
  refine aq_bipush (v := (60 : Int32)) (am_dg dkX12_comparison (i := 30) rfl) (by decide) ?_
  by_cases hc5 : x1 = (60 : Int32)
  · rw [if_pos hc5] at h
    refine aq_icF (t := 67) (am_dg dkX12_comparison (i := 31) rfl) rfl (decide_eq_false (not_not_intro hc5)) ?_
    refine aq_bipush (v := (-11 : Int32)) (am_dg dkX12_comparison (i := 32) rfl) (by decide) ?_
    refine aq_goto (t := 80) (am_dg dkX12_comparison (i := 33) rfl) rfl ?_
    exact T_X12_comparison_82_b80 hR (by omega) _ _ _ _ _ h
  · rw [if_neg hc5] at h
    refine aq_icT (t := 67) (am_dg dkX12_comparison (i := 31) rfl) rfl (decide_eq_true hc5) ?_
    refine aq_iload_n (am_dg dkX12_comparison (i := 34) rfl) rfl ?_
    refine aq_bipush (v := (61 : Int32)) (am_dg dkX12_comparison (i := 35) rfl) (by decide) ?_
    by_cases hc6 : x1 = (61 : Int32)
    · rw [if_pos hc6] at h
      refine aq_icF (t := 78) (am_dg dkX12_comparison (i := 36) rfl) rfl (decide_eq_false (not_not_intro hc6)) ?_
      refine aq_bipush (v := (-12 : Int32)) (am_dg dkX12_comparison (i := 37) rfl) (by decide) ?_
      refine aq_goto (t := 80) (am_dg dkX12_comparison (i := 38) rfl) rfl ?_
      exact T_X12_comparison_82_b80 hR (by omega) _ _ _ _ _ h
    · rw [if_neg hc6] at h
      refine aq_icT (t := 78) (am_dg dkX12_comparison (i := 36) rfl) rfl (decide_eq_true hc6) ?_
      refine aq_bipush (v := (-13 : Int32)) (am_dg dkX12_comparison (i := 39) rfl) (by decide) ?_
      exact T_X12_comparison_82_b80 hR (by omega) _ _ _ _ _ h
set_option maxRecDepth 20000 in
theorem T_X12_comparison_82_b43 {sc : Option (Nat × (Nat → Int32))} {RF : Nat → Nat → Option Nat} {d : Nat} (hR : am_RFok RF) (hd : 6 ≤ d) : ∀ (x1 : Int32) (s : am_S) (r : am_S), F_X12_comparison_82_b43 x1 s = some r → am_Q sc d mX12_comparison (43, [.ref 82, .int x1], [.ref 82], am_hp RF s) (.null, am_hp RF r) := by
  obtain ⟨e, rfl⟩ : ∃ e, d = e + 1 := ⟨d - 1, by omega⟩
  intro x1 s r h
  unfold F_X12_comparison_82_b43 at h
  refine aq_iconst (v := (1 : Int32)) (am_dg dkX12_comparison (i := 22) rfl) (by decide) ?_
  refine aq_goto (t := 48) (am_dg dkX12_comparison (i := 23) rfl) rfl ?_
  exact T_X12_comparison_82_b48 hR (by omega) _ _ _ _ h
set_option maxRecDepth 20000 in
theorem T_X12_comparison_82_b23 {sc : Option (Nat × (Nat → Int32))} {RF : Nat → Nat → Option Nat} {d : Nat} (hR : am_RFok RF) (hd : 6 ≤ d) : ∀ (y0 : Int32) (w1 : Value) (s : am_S) (r : am_S), F_X12_comparison_82_b23 y0 s = some r → am_Q sc d mX12_comparison (23, [.ref 82, w1], [.int y0], am_hp RF s) (.null, am_hp RF r) := by
  obtain ⟨e, rfl⟩ : ∃ e, d = e + 1 := ⟨d - 1, by omega⟩
  intro y0 w1 s r h
  unfold F_X12_comparison_82_b23 at h
  refine aq_istore_n (L1 := [.ref 82, .int y0]) (am_dg dkX12_comparison (i := 11) rfl) rfl ?_
  refine aq_aload_n (am_dg dkX12_comparison (i := 12) rfl) rfl ?_
  refine aq_iload_n (am_dg dkX12_comparison (i := 13) rfl) rfl ?_
  refine aq_bipush (v := (60 : Int32)) (am_dg dkX12_comparison (i := 14) rfl) (by decide) ?_
  by_cases hc1 : y0 = (60 : Int32)
  · rw [if_pos hc1] at h
    refine aq_icT (t := 43) (am_dg dkX12_comparison (i := 15) rfl) rfl (decide_eq_true hc1) ?_
    exact T_X12_comparison_82_b43 hR (by omega) _ _ _ h
  · rw [if_neg hc1] at h
    refine aq_icF (t := 43) (am_dg dkX12_comparison (i := 15) rfl) rfl (decide_eq_false hc1) ?_
    refine aq_iload_n (am_dg dkX12_comparison (i := 16) rfl) rfl ?_
    refine aq_bipush (v := (61 : Int32)) (am_dg dkX12_comparison (i := 17) rfl) (by decide) ?_
    by_cases hc2 : y0 = (61 : Int32)
    · rw [if_pos hc2] at h
      refine aq_icT (t := 43) (am_dg dkX12_comparison (i := 18) rfl) rfl (decide_eq_true hc2) ?_
      exact T_X12_comparison_82_b43 hR (by omega) _ _ _ h
    · rw [if_neg hc2] at h
      refine aq_icF (t := 43) (am_dg dkX12_comparison (i := 18) rfl) rfl (decide_eq_false hc2) ?_
      refine aq_iload_n (am_dg dkX12_comparison (i := 19) rfl) rfl ?_
      refine aq_bipush (v := (62 : Int32)) (am_dg dkX12_comparison (i := 20) rfl) (by decide) ?_
      by_cases hc3 : y0 = (62 : Int32)
      · rw [if_pos hc3] at h
        refine aq_icF (t := 47) (am_dg dkX12_comparison (i := 21) rfl) rfl (decide_eq_false (not_not_intro hc3)) ?_
        exact T_X12_comparison_82_b43 hR (by omega) _ _ _ h
      · rw [if_neg hc3] at h
        refine aq_icT (t := 47) (am_dg dkX12_comparison (i := 21) rfl) rfl (decide_eq_true hc3) ?_
        refine aq_iconst (v := (0 : Int32)) (am_dg dkX12_comparison (i := 24) rfl) (by decide) ?_
        exact T_X12_comparison_82_b48 hR (by omega) _ _ _ _ h
set_option maxRecDepth 20000 in
theorem T_X12_comparison_82 {sc : Option (Nat × (Nat → Int32))} {RF : Nat → Nat → Option Nat} {d : Nat} (hR : am_RFok RF) (hd : 6 ≤ d) {s : am_S} {r : am_S} (h : F_X12_comparison_82 s = some r) : am_Q sc d mX12_comparison (0, am_L0 mX12_comparison [.ref 82], [], am_hp RF s) (.null, am_hp RF r) := by
  obtain ⟨e, rfl⟩ : ∃ e, d = e + 1 := ⟨d - 1, by omega⟩
  unfold F_X12_comparison_82 at h
  show am_Q _ _ _ (0, [.ref 82, .null], [], _) _
  refine aq_aload_n (am_dg dkX12_comparison (i := 0) rfl) rfl ?_
  obtain ⟨q1, hq2, h⟩ := am_bnd h
  refine aq_virt (a := [.ref 82]) (S1 := []) (v1 := .null) (S2 := []) (am_dg dkX12_comparison (i := 1) rfl) cv_12_365_12 (am_cls_c sh_82 (by decide)) rfl rfl rfl (Nat.le_of_ble_eq_true rfl) (Nat.le_of_ble_eq_true rfl) (T_X12_valueHere_82 hR (by omega) hq2) rfl ?_
  refine aq_aload_n (am_dg dkX12_comparison (i := 2) rfl) rfl ?_
  refine aq_getI (am_dg dkX12_comparison (i := 3) rfl) gk_12_309_82 (by decide) ?_
  by_cases hc3 : (q1.1 82 28) = (0 : Int32)
  · rw [if_pos hc3] at h
    refine aq_ifT (t := 15) (am_dg dkX12_comparison (i := 4) rfl) rfl (decide_eq_true hc3) ?_
    refine aq_aload_n (am_dg dkX12_comparison (i := 7) rfl) rfl ?_
    refine aq_aload_n (am_dg dkX12_comparison (i := 8) rfl) rfl ?_
    refine aq_getI (am_dg dkX12_comparison (i := 9) rfl) gk_12_297_82 (by decide) ?_
    obtain ⟨q4, hq5, h⟩ := am_bnd h
    refine aq_virt (a := [.ref 82, .int (q1.1 82 23)]) (S1 := []) (v1 := .int q4.1) (S2 := [.int q4.1]) (am_dg dkX12_comparison (i := 10) rfl) cv_12_300_12 (am_cls_c sh_82 (by decide)) rfl rfl rfl (Nat.le_of_ble_eq_true rfl) (Nat.le_of_ble_eq_true rfl) (T_X12_byteAt_82 hR (by omega) hq5) rfl ?_
    exact T_X12_comparison_82_b23 hR (by omega) _ _ _ _ h
  · rw [if_neg hc3] at h
    refine aq_ifF (t := 15) (am_dg dkX12_comparison (i := 4) rfl) rfl (decide_eq_false hc3) ?_
    refine aq_iconst (v := (-1 : Int32)) (am_dg dkX12_comparison (i := 5) rfl) (by decide) ?_
    refine aq_goto (t := 23) (am_dg dkX12_comparison (i := 6) rfl) rfl ?_
    exact T_X12_comparison_82_b23 hR (by omega) _ _ _ _ h
set_option maxRecDepth 20000 in
theorem T_X12_one_82_b22 {sc : Option (Nat × (Nat → Int32))} {RF : Nat → Nat → Option Nat} {d : Nat} (hR : am_RFok RF) (hd : 7 ≤ d) {rc : am_S → Option (am_S)} {dr : Nat} (hdr : dr + 1 ≤ d) (hrc : ∀ (s2 : am_S) (r2 : am_S), rc  s2 = some r2 → am_Q sc dr mX12_condition (0, am_L0 mX12_condition [.ref 82], [], am_hp RF s2) (.null, am_hp RF r2)) {k2 : Int32 → am_S → Option (am_S)} (hk2 : ∀ (x1 : Int32) (s2 : am_S) (r2 : am_S), k2 x1 s2 = some r2 → am_Q sc d mX12_one (2, [.ref 82, .int x1], [], am_hp RF s2) (.null, am_hp RF r2)) : ∀ (y0 : Int32) (w1 : Value) (s : am_S) (r : am_S), F_X12_one_82_b22 rc k2 y0 s = some r → am_Q sc d mX12_one (22, [.ref 82, w1], [.int y0], am_hp RF s) (.null, am_hp RF r) := by
  obtain ⟨e, rfl⟩ : ∃ e, d = e + 1 := ⟨d - 1, by omega⟩
  intro y0 w1 s r h
  unfold F_X12_one_82_b22 at h
  refine aq_istore_n (L1 := [.ref 82, .int y0]) (am_dg dkX12_one (i := 12) rfl) rfl ?_
  refine aq_aload_n (am_dg dkX12_one (i := 13) rfl) rfl ?_
  refine aq_iconst (v := (1 : Int32)) (am_dg dkX12_one (i := 14) rfl) (by decide) ?_
  obtain ⟨q1, hq2, h⟩ := am_bnd h
  refine aq_virt (a := [.ref 82, .int (1 : Int32)]) (S1 := []) (v1 := .null) (S2 := []) (am_dg dkX12_one (i := 15) rfl) cv_12_323_12 (am_cls_c sh_82 (by decide)) rfl rfl rfl (Nat.le_of_ble_eq_true rfl) (Nat.le_of_ble_eq_true rfl) (T_X12_wants_82 hR (by omega) hq2) rfl ?_
  refine aq_goto (t := 2) (am_dg dkX12_one (i := 16) rfl) rfl ?_
  exact hk2 _ _ _ h
set_option maxRecDepth 20000 in
theorem T_X12_one_82_b128 {sc : Option (Nat × (Nat → Int32))} {RF : Nat → Nat → Option Nat} {d : Nat} (hR : am_RFok RF) (hd : 7 ≤ d) {rc : am_S → Option (am_S)} {dr : Nat} (hdr : dr + 1 ≤ d) (hrc : ∀ (s2 : am_S) (r2 : am_S), rc  s2 = some r2 → am_Q sc dr mX12_condition (0, am_L0 mX12_condition [.ref 82], [], am_hp RF s2) (.null, am_hp RF r2)) : ∀ (x1 : Int32) (s : am_S) (r : am_S), F_X12_one_82_b128 rc x1 s = some r → am_Q sc d mX12_one (128, [.ref 82, .int x1], [], am_hp RF s) (.null, am_hp RF r) := by
  obtain ⟨e, rfl⟩ : ∃ e, d = e + 1 := ⟨d - 1, by omega⟩
  intro x1 s r h
  unfold F_X12_one_82_b128 at h
  refine aq_iload_n (am_dg dkX12_one (i := 66) rfl) rfl ?_
  by_cases hc1 : x1 = (0 : Int32)
  · rw [if_pos hc1] at h
    refine aq_ifT (t := 138) (am_dg dkX12_one (i := 67) rfl) rfl (decide_eq_true hc1) ?_
    obtain rfl := Option.some.inj h
    exact aq_return (am_dg dkX12_one (i := 71) rfl) rfl
  · rw [if_neg hc1] at h
    refine aq_ifF (t := 138) (am_dg dkX12_one (i := 67) rfl) rfl (decide_eq_false hc1) ?_
    refine aq_aload_n (am_dg dkX12_one (i := 68) rfl) rfl ?_
    refine aq_bipush (v := (-20 : Int32)) (am_dg dkX12_one (i := 69) rfl) (by decide) ?_
    obtain ⟨q2, hq3, h⟩ := am_bnd h
    refine aq_virt (a := [.ref 82, .int (-20 : Int32)]) (S1 := []) (v1 := .null) (S2 := []) (am_dg dkX12_one (i := 70) rfl) cv_12_359_12 (am_cls_c sh_82 (by decide)) rfl rfl rfl (Nat.le_of_ble_eq_true rfl) (Nat.le_of_ble_eq_true rfl) (T_X12_writes_82 hR (by omega) hq3) rfl ?_
    obtain rfl := Option.some.inj h
    exact aq_return (am_dg dkX12_one (i := 71) rfl) rfl
set_option maxRecDepth 20000 in
theorem T_X12_one_82_b118 {sc : Option (Nat × (Nat → Int32))} {RF : Nat → Nat → Option Nat} {d : Nat} (hR : am_RFok RF) (hd : 7 ≤ d) {rc : am_S → Option (am_S)} {dr : Nat} (hdr : dr + 1 ≤ d) (hrc : ∀ (s2 : am_S) (r2 : am_S), rc  s2 = some r2 → am_Q sc dr mX12_condition (0, am_L0 mX12_condition [.ref 82], [], am_hp RF s2) (.null, am_hp RF r2)) : ∀ (x1 : Int32) (y0 : Int32) (s : am_S) (r : am_S), F_X12_one_82_b118 rc x1 y0 s = some r → am_Q sc d mX12_one (118, [.ref 82, .int x1], [.int y0, .ref 82], am_hp RF s) (.null, am_hp RF r) := by
  obtain ⟨e, rfl⟩ : ∃ e, d = e + 1 := ⟨d - 1, by omega⟩
  intro x1 y0 s r h
  unfold F_X12_one_82_b118 at h
  obtain ⟨q1, hq2, h⟩ := am_bnd h
  refine aq_virt (a := [.ref 82, .int y0]) (S1 := []) (v1 := .null) (S2 := []) (am_dg dkX12_one (i := 62) rfl) cv_12_323_12 (am_cls_c sh_82 (by decide)) rfl rfl rfl (Nat.le_of_ble_eq_true rfl) (Nat.le_of_ble_eq_true rfl) (T_X12_wants_82 hR (by omega) hq2) rfl ?_
  refine aq_goto (t := 128) (am_dg dkX12_one (i := 63) rfl) rfl ?_
  exact T_X12_one_82_b128 hR (by omega) (by omega) hrc _ _ _ h
set_option maxRecDepth 20000 in
theorem T_X12_one_82_b117 {sc : Option (Nat × (Nat → Int32))} {RF : Nat → Nat → Option Nat} {d : Nat} (hR : am_RFok RF) (hd : 7 ≤ d) {rc : am_S → Option (am_S)} {dr : Nat} (hdr : dr + 1 ≤ d) (hrc : ∀ (s2 : am_S) (r2 : am_S), rc  s2 = some r2 → am_Q sc dr mX12_condition (0, am_L0 mX12_condition [.ref 82], [], am_hp RF s2) (.null, am_hp RF r2)) : ∀ (x1 : Int32) (s : am_S) (r : am_S), F_X12_one_82_b117 rc x1 s = some r → am_Q sc d mX12_one (117, [.ref 82, .int x1], [.ref 82], am_hp RF s) (.null, am_hp RF r) := by
  obtain ⟨e, rfl⟩ : ∃ e, d = e + 1 := ⟨d - 1, by omega⟩
  intro x1 s r h
  unfold F_X12_one_82_b117 at h
  refine aq_iconst (v := (0 : Int32)) (am_dg dkX12_one (i := 61) rfl) (by decide) ?_
  exact T_X12_one_82_b118 hR (by omega) (by omega) hrc _ _ _ _ h
set_option maxRecDepth 20000 in
theorem T_X12_one_82_b65 {sc : Option (Nat × (Nat → Int32))} {RF : Nat → Nat → Option Nat} {d : Nat} (hR : am_RFok RF) (hd : 7 ≤ d) {rc : am_S → Option (am_S)} {dr : Nat} (hdr : dr + 1 ≤ d) (hrc : ∀ (s2 : am_S) (r2 : am_S), rc  s2 = some r2 → am_Q sc dr mX12_condition (0, am_L0 mX12_condition [.ref 82], [], am_hp RF s2) (.null, am_hp RF r2)) : ∀ (x1 : Int32) (y0 : Int32) (s : am_S) (r : am_S), F_X12_one_82_b65 rc x1 y0 s = some r → am_Q sc d mX12_one (65, [.ref 82, .int x1], [.int y0, .ref 82], am_hp RF s) (.null, am_hp RF r) := by
  obtain ⟨e, rfl⟩ : ∃ e, d = e + 1 := ⟨d - 1, by omega⟩
  intro x1 y0 s r h
  unfold F_X12_one_82_b65 at h
  obtain ⟨q1, hq2, h⟩ := am_bnd h
  refine aq_virt (a := [.ref 82, .int y0]) (S1 := []) (v1 := .null) (S2 := []) (am_dg dkX12_one (i := 34) rfl) cv_12_323_12 (am_cls_c sh_82 (by decide)) rfl rfl rfl (Nat.le_of_ble_eq_true rfl) (Nat.le_of_ble_eq_true rfl) (T_X12_wants_82 hR (by omega) hq2) rfl ?_
  refine aq_aload_n (am_dg dkX12_one (i := 35) rfl) rfl ?_
  refine aq_dup (am_dg dkX12_one (i := 36) rfl) rfl ?_
  refine aq_getI (am_dg dkX12_one (i := 37) rfl) gk_12_370_82 (by decide) ?_
  refine aq_iconst (v := (1 : Int32)) (am_dg dkX12_one (i := 38) rfl) (by decide) ?_
  refine aq_iadd (am_dg dkX12_one (i := 39) rfl) ?_
  refine aq_putI (am_dg dkX12_one (i := 40) rfl) gk_12_370_82 ?_
  obtain ⟨s3, hs4, h⟩ := am_bnd h
  rw [Option.some.inj hs4]
  refine aq_aload_n (am_dg dkX12_one (i := 41) rfl) rfl ?_
  obtain ⟨q5, hq6, h⟩ := am_bnd h
  refine aq_virt (a := [.ref 82]) (S1 := []) (v1 := .null) (S2 := []) (am_dg dkX12_one (i := 42) rfl) cv_12_373_12 (am_cls_c sh_82 (by decide)) rfl rfl rfl (Nat.le_of_ble_eq_true rfl) (Nat.le_of_ble_eq_true rfl) (am_Q_le (hrc _ _ hq6) (by omega)) rfl ?_
  refine aq_aload_n (am_dg dkX12_one (i := 43) rfl) rfl ?_
  refine aq_dup (am_dg dkX12_one (i := 44) rfl) rfl ?_
  refine aq_getI (am_dg dkX12_one (i := 45) rfl) gk_12_370_82 (by decide) ?_
  refine aq_iconst (v := (1 : Int32)) (am_dg dkX12_one (i := 46) rfl) (by decide) ?_
  refine aq_isub (am_dg dkX12_one (i := 47) rfl) ?_
  refine aq_putI (am_dg dkX12_one (i := 48) rfl) gk_12_370_82 ?_
  obtain ⟨s7, hs8, h⟩ := am_bnd h
  rw [Option.some.inj hs8]
  refine aq_aload_n (am_dg dkX12_one (i := 49) rfl) rfl ?_
  refine aq_aload_n (am_dg dkX12_one (i := 50) rfl) rfl ?_
  refine aq_getI (am_dg dkX12_one (i := 51) rfl) gk_12_309_82 (by decide) ?_
  by_cases hc9 : (s7.1 82 28) = (0 : Int32)
  · rw [if_pos hc9] at h
    refine aq_ifF (t := 117) (am_dg dkX12_one (i := 52) rfl) rfl (decide_eq_false (not_not_intro hc9)) ?_
    refine aq_aload_n (am_dg dkX12_one (i := 53) rfl) rfl ?_
    refine aq_aload_n (am_dg dkX12_one (i := 54) rfl) rfl ?_
    refine aq_getI (am_dg dkX12_one (i := 55) rfl) gk_12_297_82 (by decide) ?_
    obtain ⟨q10, hq11, h⟩ := am_bnd h
    refine aq_virt (a := [.ref 82, .int (s7.1 82 23)]) (S1 := [.ref 82]) (v1 := .int q10.1) (S2 := [.int q10.1, .ref 82]) (am_dg dkX12_one (i := 56) rfl) cv_12_300_12 (am_cls_c sh_82 (by decide)) rfl rfl rfl (Nat.le_of_ble_eq_true rfl) (Nat.le_of_ble_eq_true rfl) (T_X12_byteAt_82 hR (by omega) hq11) rfl ?_
    refine aq_bipush (v := (41 : Int32)) (am_dg dkX12_one (i := 57) rfl) (by decide) ?_
    by_cases hc12 : q10.1 = (41 : Int32)
    · rw [if_pos hc12] at h
      refine aq_icF (t := 117) (am_dg dkX12_one (i := 58) rfl) rfl (decide_eq_false (not_not_intro hc12)) ?_
      refine aq_iconst (v := (1 : Int32)) (am_dg dkX12_one (i := 59) rfl) (by decide) ?_
      refine aq_goto (t := 118) (am_dg dkX12_one (i := 60) rfl) rfl ?_
      exact T_X12_one_82_b118 hR (by omega) (by omega) hrc _ _ _ _ h
    · rw [if_neg hc12] at h
      refine aq_icT (t := 117) (am_dg dkX12_one (i := 58) rfl) rfl (decide_eq_true hc12) ?_
      exact T_X12_one_82_b117 hR (by omega) (by omega) hrc _ _ _ h
  · rw [if_neg hc9] at h
    refine aq_ifT (t := 117) (am_dg dkX12_one (i := 52) rfl) rfl (decide_eq_true hc9) ?_
    exact T_X12_one_82_b117 hR (by omega) (by omega) hrc _ _ _ h
set_option maxRecDepth 20000 in
theorem T_X12_one_82_b124 {sc : Option (Nat × (Nat → Int32))} {RF : Nat → Nat → Option Nat} {d : Nat} (hR : am_RFok RF) (hd : 7 ≤ d) {rc : am_S → Option (am_S)} {dr : Nat} (hdr : dr + 1 ≤ d) (hrc : ∀ (s2 : am_S) (r2 : am_S), rc  s2 = some r2 → am_Q sc dr mX12_condition (0, am_L0 mX12_condition [.ref 82], [], am_hp RF s2) (.null, am_hp RF r2)) : ∀ (x1 : Int32) (s : am_S) (r : am_S), F_X12_one_82_b124 rc x1 s = some r → am_Q sc d mX12_one (124, [.ref 82, .int x1], [], am_hp RF s) (.null, am_hp RF r) := by
  obtain ⟨e, rfl⟩ : ∃ e, d = e + 1 := ⟨d - 1, by omega⟩
  intro x1 s r h
  unfold F_X12_one_82_b124 at h
  refine aq_aload_n (am_dg dkX12_one (i := 64) rfl) rfl ?_
  obtain ⟨q1, hq2, h⟩ := am_bnd h
  refine aq_virt (a := [.ref 82]) (S1 := []) (v1 := .null) (S2 := []) (am_dg dkX12_one (i := 65) rfl) cv_12_376_12 (am_cls_c sh_82 (by decide)) rfl rfl rfl (Nat.le_of_ble_eq_true rfl) (Nat.le_of_ble_eq_true rfl) (T_X12_comparison_82 hR (by omega) hq2) rfl ?_
  exact T_X12_one_82_b128 hR (by omega) (by omega) hrc _ _ _ h
set_option maxRecDepth 20000 in
theorem T_X12_one_82_b2 {sc : Option (Nat × (Nat → Int32))} {RF : Nat → Nat → Option Nat} {d : Nat} (hR : am_RFok RF) (hd : 7 ≤ d) {rc : am_S → Option (am_S)} {dr : Nat} (hdr : dr + 1 ≤ d) (hrc : ∀ (s2 : am_S) (r2 : am_S), rc  s2 = some r2 → am_Q sc dr mX12_condition (0, am_L0 mX12_condition [.ref 82], [], am_hp RF s2) (.null, am_hp RF r2)) : ∀ (n : Nat) (x1 : Int32) (s : am_S) (r : am_S), F_X12_one_82_b2 rc n x1 s = some r → am_Q sc d mX12_one (2, [.ref 82, .int x1], [], am_hp RF s) (.null, am_hp RF r) := by
  obtain ⟨e, rfl⟩ : ∃ e, d = e + 1 := ⟨d - 1, by omega⟩
  intro n
  induction n with
  | zero => intro x1 s r h; rw [F_X12_one_82_b2] at h; cases h
  | succ n ih =>
  intro x1 s r h
  rw [F_X12_one_82_b2] at h
  refine aq_aload_n (am_dg dkX12_one (i := 2) rfl) rfl ?_
  obtain ⟨q1, hq2, h⟩ := am_bnd h
  refine aq_virt (a := [.ref 82]) (S1 := []) (v1 := .long q1.1) (S2 := [.long q1.1]) (am_dg dkX12_one (i := 3) rfl) cv_12_327_12 (am_cls_c sh_82 (by decide)) rfl rfl rfl (Nat.le_of_ble_eq_true rfl) (Nat.le_of_ble_eq_true rfl) (T_X12_word_82 hR (by omega) hq2) rfl ?_
  refine aq_ldc2 (am_dg dkX12_one (i := 4) rfl) cl_12_368 ?_
  refine aq_lcmp (am_dg dkX12_one (i := 5) rfl) ?_
  by_cases hc3 : (lg_cmp q1.1 (14836 : Int64)) = (0 : Int32)
  · rw [if_pos hc3] at h
    refine aq_ifF (t := 31) (am_dg dkX12_one (i := 6) rfl) rfl (decide_eq_false (not_not_intro hc3)) ?_
    refine aq_iload_n (am_dg dkX12_one (i := 7) rfl) rfl ?_
    by_cases hc4 : x1 = (0 : Int32)
    · rw [if_pos hc4] at h
      refine aq_ifF (t := 21) (am_dg dkX12_one (i := 8) rfl) rfl (decide_eq_false (not_not_intro hc4)) ?_
      refine aq_iconst (v := (1 : Int32)) (am_dg dkX12_one (i := 9) rfl) (by decide) ?_
      refine aq_goto (t := 22) (am_dg dkX12_one (i := 10) rfl) rfl ?_
      exact T_X12_one_82_b22 hR (by omega) (by omega) hrc ih _ _ _ _ h
    · rw [if_neg hc4] at h
      refine aq_ifT (t := 21) (am_dg dkX12_one (i := 8) rfl) rfl (decide_eq_true hc4) ?_
      refine aq_iconst (v := (0 : Int32)) (am_dg dkX12_one (i := 11) rfl) (by decide) ?_
      exact T_X12_one_82_b22 hR (by omega) (by omega) hrc ih _ _ _ _ h
  · rw [if_neg hc3] at h
    refine aq_ifT (t := 31) (am_dg dkX12_one (i := 6) rfl) rfl (decide_eq_true hc3) ?_
    refine aq_aload_n (am_dg dkX12_one (i := 17) rfl) rfl ?_
    refine aq_getI (am_dg dkX12_one (i := 18) rfl) gk_12_309_82 (by decide) ?_
    by_cases hc5 : (q1.2.1 82 28) = (0 : Int32)
    · rw [if_pos hc5] at h
      refine aq_ifF (t := 124) (am_dg dkX12_one (i := 19) rfl) rfl (decide_eq_false (not_not_intro hc5)) ?_
      refine aq_aload_n (am_dg dkX12_one (i := 20) rfl) rfl ?_
      refine aq_aload_n (am_dg dkX12_one (i := 21) rfl) rfl ?_
      refine aq_getI (am_dg dkX12_one (i := 22) rfl) gk_12_297_82 (by decide) ?_
      obtain ⟨q6, hq7, h⟩ := am_bnd h
      refine aq_virt (a := [.ref 82, .int (q1.2.1 82 23)]) (S1 := []) (v1 := .int q6.1) (S2 := [.int q6.1]) (am_dg dkX12_one (i := 23) rfl) cv_12_300_12 (am_cls_c sh_82 (by decide)) rfl rfl rfl (Nat.le_of_ble_eq_true rfl) (Nat.le_of_ble_eq_true rfl) (T_X12_byteAt_82 hR (by omega) hq7) rfl ?_
      refine aq_bipush (v := (40 : Int32)) (am_dg dkX12_one (i := 24) rfl) (by decide) ?_
      by_cases hc8 : q6.1 = (40 : Int32)
      · rw [if_pos hc8] at h
        refine aq_icF (t := 124) (am_dg dkX12_one (i := 25) rfl) rfl (decide_eq_false (not_not_intro hc8)) ?_
        refine aq_aload_n (am_dg dkX12_one (i := 26) rfl) rfl ?_
        refine aq_aload_n (am_dg dkX12_one (i := 27) rfl) rfl ?_
        refine aq_getI (am_dg dkX12_one (i := 28) rfl) gk_12_370_82 (by decide) ?_
        refine aq_iconst (v := (3 : Int32)) (am_dg dkX12_one (i := 29) rfl) (by decide) ?_
        by_cases hc9 : (3 : Int32) ≤ (q6.2.1 82 26)
        · rw [if_pos hc9] at h
          refine aq_icT (t := 64) (am_dg dkX12_one (i := 30) rfl) rfl (decide_eq_true hc9) ?_
          refine aq_iconst (v := (0 : Int32)) (am_dg dkX12_one (i := 33) rfl) (by decide) ?_
          exact T_X12_one_82_b65 hR (by omega) (by omega) hrc _ _ _ _ h
        · rw [if_neg hc9] at h
          refine aq_icF (t := 64) (am_dg dkX12_one (i := 30) rfl) rfl (decide_eq_false hc9) ?_
          refine aq_iconst (v := (1 : Int32)) (am_dg dkX12_one (i := 31) rfl) (by decide) ?_
          refine aq_goto (t := 65) (am_dg dkX12_one (i := 32) rfl) rfl ?_
          exact T_X12_one_82_b65 hR (by omega) (by omega) hrc _ _ _ _ h
      · rw [if_neg hc8] at h
        refine aq_icT (t := 124) (am_dg dkX12_one (i := 25) rfl) rfl (decide_eq_true hc8) ?_
        exact T_X12_one_82_b124 hR (by omega) (by omega) hrc _ _ _ h
    · rw [if_neg hc5] at h
      refine aq_ifT (t := 124) (am_dg dkX12_one (i := 19) rfl) rfl (decide_eq_true hc5) ?_
      exact T_X12_one_82_b124 hR (by omega) (by omega) hrc _ _ _ h
set_option maxRecDepth 20000 in
theorem T_X12_one_82 {sc : Option (Nat × (Nat → Int32))} {RF : Nat → Nat → Option Nat} {d : Nat} (hR : am_RFok RF) (hd : 7 ≤ d) {rc : am_S → Option (am_S)} {dr : Nat} (hdr : dr + 1 ≤ d) (hrc : ∀ (s2 : am_S) (r2 : am_S), rc  s2 = some r2 → am_Q sc dr mX12_condition (0, am_L0 mX12_condition [.ref 82], [], am_hp RF s2) (.null, am_hp RF r2)) {s : am_S} {r : am_S} (h : F_X12_one_82 rc s = some r) : am_Q sc d mX12_one (0, am_L0 mX12_one [.ref 82], [], am_hp RF s) (.null, am_hp RF r) := by
  obtain ⟨e, rfl⟩ : ∃ e, d = e + 1 := ⟨d - 1, by omega⟩
  unfold F_X12_one_82 at h
  show am_Q _ _ _ (0, [.ref 82, .null], [], _) _
  refine aq_iconst (v := (0 : Int32)) (am_dg dkX12_one (i := 0) rfl) (by decide) ?_
  refine aq_istore_n (L1 := [.ref 82, .int (0 : Int32)]) (am_dg dkX12_one (i := 1) rfl) rfl ?_
  exact T_X12_one_82_b2 hR (by omega) (by omega) hrc _ _ _ _ h
set_option maxRecDepth 20000 in
theorem T_X12_all_82_b4 {sc : Option (Nat × (Nat → Int32))} {RF : Nat → Nat → Option Nat} {d : Nat} (hR : am_RFok RF) (hd : 8 ≤ d) {rc : am_S → Option (am_S)} {dr : Nat} (hdr : dr + 2 ≤ d) (hrc : ∀ (s2 : am_S) (r2 : am_S), rc  s2 = some r2 → am_Q sc dr mX12_condition (0, am_L0 mX12_condition [.ref 82], [], am_hp RF s2) (.null, am_hp RF r2)) : ∀ (n : Nat) (s : am_S) (r : am_S), F_X12_all_82_b4 rc n s = some r → am_Q sc d mX12_all (4, [.ref 82], [], am_hp RF s) (.null, am_hp RF r) := by
  obtain ⟨e, rfl⟩ : ∃ e, d = e + 1 := ⟨d - 1, by omega⟩
  intro n
  induction n with
  | zero => intro s r h; rw [F_X12_all_82_b4] at h; cases h
  | succ n ih =>
  intro s r h
  rw [F_X12_all_82_b4] at h
  refine aq_aload_n (am_dg dkX12_all (i := 2) rfl) rfl ?_
  obtain ⟨q1, hq2, h⟩ := am_bnd h
  refine aq_virt (a := [.ref 82]) (S1 := []) (v1 := .long q1.1) (S2 := [.long q1.1]) (am_dg dkX12_all (i := 3) rfl) cv_12_327_12 (am_cls_c sh_82 (by decide)) rfl rfl rfl (Nat.le_of_ble_eq_true rfl) (Nat.le_of_ble_eq_true rfl) (T_X12_word_82 hR (by omega) hq2) rfl ?_
  refine aq_ldc2 (am_dg dkX12_all (i := 4) rfl) cl_12_382 ?_
  refine aq_lcmp (am_dg dkX12_all (i := 5) rfl) ?_
  by_cases hc3 : (lg_cmp q1.1 (1476 : Int64)) = (0 : Int32)
  · rw [if_pos hc3] at h
    refine aq_ifF (t := 33) (am_dg dkX12_all (i := 6) rfl) rfl (decide_eq_false (not_not_intro hc3)) ?_
    refine aq_aload_n (am_dg dkX12_all (i := 7) rfl) rfl ?_
    refine aq_iconst (v := (1 : Int32)) (am_dg dkX12_all (i := 8) rfl) (by decide) ?_
    obtain ⟨q4, hq5, h⟩ := am_bnd h
    refine aq_virt (a := [.ref 82, .int (1 : Int32)]) (S1 := []) (v1 := .null) (S2 := []) (am_dg dkX12_all (i := 9) rfl) cv_12_323_12 (am_cls_c sh_82 (by decide)) rfl rfl rfl (Nat.le_of_ble_eq_true rfl) (Nat.le_of_ble_eq_true rfl) (T_X12_wants_82 hR (by omega) hq5) rfl ?_
    refine aq_aload_n (am_dg dkX12_all (i := 10) rfl) rfl ?_
    obtain ⟨q6, hq7, h⟩ := am_bnd h
    refine aq_virt (a := [.ref 82]) (S1 := []) (v1 := .null) (S2 := []) (am_dg dkX12_all (i := 11) rfl) cv_12_379_12 (am_cls_c sh_82 (by decide)) rfl rfl rfl (Nat.le_of_ble_eq_true rfl) (Nat.le_of_ble_eq_true rfl) (T_X12_one_82 hR (by omega) (by omega) hrc hq7) rfl ?_
    refine aq_aload_n (am_dg dkX12_all (i := 12) rfl) rfl ?_
    refine aq_bipush (v := (-21 : Int32)) (am_dg dkX12_all (i := 13) rfl) (by decide) ?_
    obtain ⟨q8, hq9, h⟩ := am_bnd h
    refine aq_virt (a := [.ref 82, .int (-21 : Int32)]) (S1 := []) (v1 := .null) (S2 := []) (am_dg dkX12_all (i := 14) rfl) cv_12_359_12 (am_cls_c sh_82 (by decide)) rfl rfl rfl (Nat.le_of_ble_eq_true rfl) (Nat.le_of_ble_eq_true rfl) (T_X12_writes_82 hR (by omega) hq9) rfl ?_
    refine aq_goto (t := 4) (am_dg dkX12_all (i := 15) rfl) rfl ?_
    exact ih _ _ h
  · rw [if_neg hc3] at h
    refine aq_ifT (t := 33) (am_dg dkX12_all (i := 6) rfl) rfl (decide_eq_true hc3) ?_
    obtain rfl := Option.some.inj h
    exact aq_return (am_dg dkX12_all (i := 16) rfl) rfl
set_option maxRecDepth 20000 in
theorem T_X12_all_82 {sc : Option (Nat × (Nat → Int32))} {RF : Nat → Nat → Option Nat} {d : Nat} (hR : am_RFok RF) (hd : 8 ≤ d) {rc : am_S → Option (am_S)} {dr : Nat} (hdr : dr + 2 ≤ d) (hrc : ∀ (s2 : am_S) (r2 : am_S), rc  s2 = some r2 → am_Q sc dr mX12_condition (0, am_L0 mX12_condition [.ref 82], [], am_hp RF s2) (.null, am_hp RF r2)) {s : am_S} {r : am_S} (h : F_X12_all_82 rc s = some r) : am_Q sc d mX12_all (0, am_L0 mX12_all [.ref 82], [], am_hp RF s) (.null, am_hp RF r) := by
  obtain ⟨e, rfl⟩ : ∃ e, d = e + 1 := ⟨d - 1, by omega⟩
  unfold F_X12_all_82 at h
  show am_Q _ _ _ (0, [.ref 82], [], _) _
  refine aq_aload_n (am_dg dkX12_all (i := 0) rfl) rfl ?_
  obtain ⟨q1, hq2, h⟩ := am_bnd h
  refine aq_virt (a := [.ref 82]) (S1 := []) (v1 := .null) (S2 := []) (am_dg dkX12_all (i := 1) rfl) cv_12_379_12 (am_cls_c sh_82 (by decide)) rfl rfl rfl (Nat.le_of_ble_eq_true rfl) (Nat.le_of_ble_eq_true rfl) (T_X12_one_82 hR (by omega) (by omega) hrc hq2) rfl ?_
  exact T_X12_all_82_b4 hR (by omega) (by omega) hrc _ _ _ h
set_option maxRecDepth 20000 in
theorem T_X12_condition_82_b12 {sc : Option (Nat × (Nat → Int32))} {RF : Nat → Nat → Option Nat} {d : Nat} (hR : am_RFok RF) (hd : 9 ≤ d) {rc : am_S → Option (am_S)} {dr : Nat} (hdr : dr + 3 ≤ d) (hrc : ∀ (s2 : am_S) (r2 : am_S), rc  s2 = some r2 → am_Q sc dr mX12_condition (0, am_L0 mX12_condition [.ref 82], [], am_hp RF s2) (.null, am_hp RF r2)) : ∀ (n : Nat) (s : am_S) (r : am_S), F_X12_condition_82_b12 rc n s = some r → am_Q sc d mX12_condition (12, [.ref 82], [], am_hp RF s) (.null, am_hp RF r) := by
  obtain ⟨e, rfl⟩ : ∃ e, d = e + 1 := ⟨d - 1, by omega⟩
  intro n
  induction n with
  | zero => intro s r h; rw [F_X12_condition_82_b12] at h; cases h
  | succ n ih =>
  intro s r h
  rw [F_X12_condition_82_b12] at h
  refine aq_aload_n (am_dg dkX12_condition (i := 6) rfl) rfl ?_
  obtain ⟨q1, hq2, h⟩ := am_bnd h
  refine aq_virt (a := [.ref 82]) (S1 := []) (v1 := .long q1.1) (S2 := [.long q1.1]) (am_dg dkX12_condition (i := 7) rfl) cv_12_327_12 (am_cls_c sh_82 (by decide)) rfl rfl rfl (Nat.le_of_ble_eq_true rfl) (Nat.le_of_ble_eq_true rfl) (T_X12_word_82 hR (by omega) hq2) rfl ?_
  refine aq_ldc2 (am_dg dkX12_condition (i := 8) rfl) cl_12_387 ?_
  refine aq_lcmp (am_dg dkX12_condition (i := 9) rfl) ?_
  by_cases hc3 : (lg_cmp q1.1 (498 : Int64)) = (0 : Int32)
  · rw [if_pos hc3] at h
    refine aq_ifF (t := 41) (am_dg dkX12_condition (i := 10) rfl) rfl (decide_eq_false (not_not_intro hc3)) ?_
    refine aq_aload_n (am_dg dkX12_condition (i := 11) rfl) rfl ?_
    refine aq_iconst (v := (1 : Int32)) (am_dg dkX12_condition (i := 12) rfl) (by decide) ?_
    obtain ⟨q4, hq5, h⟩ := am_bnd h
    refine aq_virt (a := [.ref 82, .int (1 : Int32)]) (S1 := []) (v1 := .null) (S2 := []) (am_dg dkX12_condition (i := 13) rfl) cv_12_323_12 (am_cls_c sh_82 (by decide)) rfl rfl rfl (Nat.le_of_ble_eq_true rfl) (Nat.le_of_ble_eq_true rfl) (T_X12_wants_82 hR (by omega) hq5) rfl ?_
    refine aq_aload_n (am_dg dkX12_condition (i := 14) rfl) rfl ?_
    obtain ⟨q6, hq7, h⟩ := am_bnd h
    refine aq_virt (a := [.ref 82]) (S1 := []) (v1 := .null) (S2 := []) (am_dg dkX12_condition (i := 15) rfl) cv_12_384_12 (am_cls_c sh_82 (by decide)) rfl rfl rfl (Nat.le_of_ble_eq_true rfl) (Nat.le_of_ble_eq_true rfl) (T_X12_all_82 hR (by omega) (by omega) hrc hq7) rfl ?_
    refine aq_aload_n (am_dg dkX12_condition (i := 16) rfl) rfl ?_
    refine aq_bipush (v := (-22 : Int32)) (am_dg dkX12_condition (i := 17) rfl) (by decide) ?_
    obtain ⟨q8, hq9, h⟩ := am_bnd h
    refine aq_virt (a := [.ref 82, .int (-22 : Int32)]) (S1 := []) (v1 := .null) (S2 := []) (am_dg dkX12_condition (i := 18) rfl) cv_12_359_12 (am_cls_c sh_82 (by decide)) rfl rfl rfl (Nat.le_of_ble_eq_true rfl) (Nat.le_of_ble_eq_true rfl) (T_X12_writes_82 hR (by omega) hq9) rfl ?_
    refine aq_goto (t := 12) (am_dg dkX12_condition (i := 19) rfl) rfl ?_
    exact ih _ _ h
  · rw [if_neg hc3] at h
    refine aq_ifT (t := 41) (am_dg dkX12_condition (i := 10) rfl) rfl (decide_eq_true hc3) ?_
    obtain rfl := Option.some.inj h
    exact aq_return (am_dg dkX12_condition (i := 20) rfl) rfl
set_option maxRecDepth 20000 in
theorem T_X12_condition_82_o {sc : Option (Nat × (Nat → Int32))} {RF : Nat → Nat → Option Nat} {d : Nat} (hR : am_RFok RF) (hd : 9 ≤ d) {rc : am_S → Option (am_S)} {dr : Nat} (hdr : dr + 3 ≤ d) (hrc : ∀ (s2 : am_S) (r2 : am_S), rc  s2 = some r2 → am_Q sc dr mX12_condition (0, am_L0 mX12_condition [.ref 82], [], am_hp RF s2) (.null, am_hp RF r2)) {s : am_S} {r : am_S} (h : F_X12_condition_82_o rc s = some r) : am_Q sc d mX12_condition (0, am_L0 mX12_condition [.ref 82], [], am_hp RF s) (.null, am_hp RF r) := by
  obtain ⟨e, rfl⟩ : ∃ e, d = e + 1 := ⟨d - 1, by omega⟩
  unfold F_X12_condition_82_o at h
  show am_Q _ _ _ (0, [.ref 82], [], _) _
  refine aq_aload_n (am_dg dkX12_condition (i := 0) rfl) rfl ?_
  refine aq_getI (am_dg dkX12_condition (i := 1) rfl) gk_12_309_82 (by decide) ?_
  by_cases hc1 : (s.1 82 28) = (0 : Int32)
  · rw [if_pos hc1] at h
    refine aq_ifT (t := 8) (am_dg dkX12_condition (i := 2) rfl) rfl (decide_eq_true hc1) ?_
    refine aq_aload_n (am_dg dkX12_condition (i := 4) rfl) rfl ?_
    obtain ⟨q2, hq3, h⟩ := am_bnd h
    refine aq_virt (a := [.ref 82]) (S1 := []) (v1 := .null) (S2 := []) (am_dg dkX12_condition (i := 5) rfl) cv_12_384_12 (am_cls_c sh_82 (by decide)) rfl rfl rfl (Nat.le_of_ble_eq_true rfl) (Nat.le_of_ble_eq_true rfl) (T_X12_all_82 hR (by omega) (by omega) hrc hq3) rfl ?_
    exact T_X12_condition_82_b12 hR (by omega) (by omega) hrc _ _ _ h
  · rw [if_neg hc1] at h
    refine aq_ifF (t := 8) (am_dg dkX12_condition (i := 2) rfl) rfl (decide_eq_false hc1) ?_
    obtain rfl := Option.some.inj h
    exact aq_return (am_dg dkX12_condition (i := 3) rfl) rfl
set_option maxRecDepth 20000 in
theorem T_X12_condition_82_n {sc : Option (Nat × (Nat → Int32))} {RF : Nat → Nat → Option Nat} (hR : am_RFok RF) : ∀ (n d : Nat) (hd : 3 * n + 9 ≤ d) (s : am_S) (r : am_S), F_X12_condition_82 n  s = some r → am_Q sc d mX12_condition (0, am_L0 mX12_condition [.ref 82], [], am_hp RF s) (.null, am_hp RF r) := by
  intro n
  induction n with
  | zero => intro d hd  s r h; cases h
  | succ n ih =>
    intro d hd  s r h
    exact T_X12_condition_82_o hR (by omega) (rc := F_X12_condition_82 n) (dr := d - 3) (by omega) (fun  s2 r2 h2 => ih (d - 3) (by omega)  s2 r2 h2) h
set_option maxRecDepth 20000 in
theorem T_X12_condition_82 {sc : Option (Nat × (Nat → Int32))} {RF : Nat → Nat → Option Nat} {d : Nat} (hR : am_RFok RF) (hd : 40 ≤ d) {s : am_S} {r : am_S} (h : F_X12_condition_82 10  s = some r) : am_Q sc d mX12_condition (0, am_L0 mX12_condition [.ref 82], [], am_hp RF s) (.null, am_hp RF r) := T_X12_condition_82_n hR 10 d (by omega)  _ _ h
set_option maxRecDepth 20000 in
theorem T_X12_rule_82_b133 {sc : Option (Nat × (Nat → Int32))} {RF : Nat → Nat → Option Nat} {d : Nat} (hR : am_RFok RF) (hd : 41 ≤ d) : ∀ (x1 : Int32) (x4 : Int32) (y0 : Int32) (w2 : Value) (w5 : Value) (s : am_S) (r : am_S), F_X12_rule_82_b133 x1 x4 y0 s = some r → am_Q sc d mX12_rule (133, [.ref 82, .int x1, w2, .null, .int x4, w5], [.int y0, .ref 82], am_hp RF s) (.null, am_hp RF r) := by
  obtain ⟨e, rfl⟩ : ∃ e, d = e + 1 := ⟨d - 1, by omega⟩
  intro x1 x4 y0 w2 w5 s r h
  unfold F_X12_rule_82_b133 at h
  obtain ⟨q1, hq2, h⟩ := am_bnd h
  refine aq_virt (a := [.ref 82, .int y0]) (S1 := []) (v1 := .null) (S2 := []) (am_dg dkX12_rule (i := 69) rfl) cv_12_323_12 (am_cls_c sh_82 (by decide)) rfl rfl rfl (Nat.le_of_ble_eq_true rfl) (Nat.le_of_ble_eq_true rfl) (T_X12_wants_82 hR (by omega) hq2) rfl ?_
  refine aq_aload_n (am_dg dkX12_rule (i := 70) rfl) rfl ?_
  refine aq_getI (am_dg dkX12_rule (i := 71) rfl) gk_12_309_82 (by decide) ?_
  by_cases hc3 : (q1.1 82 28) = (0 : Int32)
  · rw [if_pos hc3] at h
    refine aq_ifF (t := 200) (am_dg dkX12_rule (i := 72) rfl) rfl (decide_eq_false (not_not_intro hc3)) ?_
    refine aq_bipush (v := (72 : Int32)) (am_dg dkX12_rule (i := 73) rfl) (by decide) ?_
    refine aq_iconst (v := (3 : Int32)) (am_dg dkX12_rule (i := 74) rfl) (by decide) ?_
    refine aq_aload_n (am_dg dkX12_rule (i := 75) rfl) rfl ?_
    refine aq_getR (am_dg dkX12_rule (i := 76) rfl) gk_12_7_82 (rf_82_0 hR) ?_
    refine aq_iconst (v := (1 : Int32)) (am_dg dkX12_rule (i := 77) rfl) (by decide) ?_
    obtain ⟨hg4, h⟩ := am_guard h
    refine aq_iald (am_dg dkX12_rule (i := 78) rfl) sh_83 hg4 ?_
    refine aq_imul (am_dg dkX12_rule (i := 79) rfl) ?_
    refine aq_iadd (am_dg dkX12_rule (i := 80) rfl) ?_
    obtain ⟨v5, hv6, h⟩ := am_bnd h
    rw [Option.some.inj hv6]
    refine aq_istore (L1 := [.ref 82, .int x1, w2, .null, .int x4, .int v5]) (am_dg dkX12_rule (i := 81) rfl) rfl ?_
    refine aq_aload_n (am_dg dkX12_rule (i := 82) rfl) rfl ?_
    refine aq_getR (am_dg dkX12_rule (i := 83) rfl) gk_12_7_82 (rf_82_0 hR) ?_
    refine aq_iload (am_dg dkX12_rule (i := 84) rfl) rfl ?_
    refine aq_iconst (v := (0 : Int32)) (am_dg dkX12_rule (i := 85) rfl) (by decide) ?_
    refine aq_iadd (am_dg dkX12_rule (i := 86) rfl) ?_
    refine aq_iload_n (am_dg dkX12_rule (i := 87) rfl) rfl ?_
    obtain ⟨hg7, h⟩ := am_guard h
    refine aq_iast (am_dg dkX12_rule (i := 88) rfl) sh_83 hg7 ?_
    obtain ⟨s8, hs9, h⟩ := am_bnd h
    rw [Option.some.inj hs9]
    refine aq_aload_n (am_dg dkX12_rule (i := 89) rfl) rfl ?_
    refine aq_getR (am_dg dkX12_rule (i := 90) rfl) gk_12_7_82 (rf_82_0 hR) ?_
    refine aq_iload (am_dg dkX12_rule (i := 91) rfl) rfl ?_
    refine aq_iconst (v := (1 : Int32)) (am_dg dkX12_rule (i := 92) rfl) (by decide) ?_
    refine aq_iadd (am_dg dkX12_rule (i := 93) rfl) ?_
    refine aq_iload (am_dg dkX12_rule (i := 94) rfl) rfl ?_
    obtain ⟨hg10, h⟩ := am_guard h
    refine aq_iast (am_dg dkX12_rule (i := 95) rfl) sh_83 hg10 ?_
    obtain ⟨s11, hs12, h⟩ := am_bnd h
    rw [Option.some.inj hs12]
    refine aq_aload_n (am_dg dkX12_rule (i := 96) rfl) rfl ?_
    refine aq_getR (am_dg dkX12_rule (i := 97) rfl) gk_12_7_82 (rf_82_0 hR) ?_
    refine aq_iload (am_dg dkX12_rule (i := 98) rfl) rfl ?_
    refine aq_iconst (v := (2 : Int32)) (am_dg dkX12_rule (i := 99) rfl) (by decide) ?_
    refine aq_iadd (am_dg dkX12_rule (i := 100) rfl) ?_
    refine aq_aload_n (am_dg dkX12_rule (i := 101) rfl) rfl ?_
    refine aq_getI (am_dg dkX12_rule (i := 102) rfl) gk_12_353_82 (by decide) ?_
    obtain ⟨hg13, h⟩ := am_guard h
    refine aq_iast (am_dg dkX12_rule (i := 103) rfl) sh_83 hg13 ?_
    obtain ⟨s14, hs15, h⟩ := am_bnd h
    rw [Option.some.inj hs15]
    refine aq_aload_n (am_dg dkX12_rule (i := 104) rfl) rfl ?_
    refine aq_getR (am_dg dkX12_rule (i := 105) rfl) gk_12_7_82 (rf_82_0 hR) ?_
    refine aq_iconst (v := (1 : Int32)) (am_dg dkX12_rule (i := 106) rfl) (by decide) ?_
    refine aq_dup2 (am_dg dkX12_rule (i := 107) rfl) rfl rfl ?_
    obtain ⟨hg16, h⟩ := am_guard h
    refine aq_iald (am_dg dkX12_rule (i := 108) rfl) sh_83 hg16 ?_
    refine aq_iconst (v := (1 : Int32)) (am_dg dkX12_rule (i := 109) rfl) (by decide) ?_
    refine aq_iadd (am_dg dkX12_rule (i := 110) rfl) ?_
    obtain ⟨hg17, h⟩ := am_guard h
    refine aq_iast (am_dg dkX12_rule (i := 111) rfl) sh_83 hg17 ?_
    obtain ⟨s18, hs19, h⟩ := am_bnd h
    rw [Option.some.inj hs19]
    obtain rfl := Option.some.inj h
    exact aq_return (am_dg dkX12_rule (i := 112) rfl) rfl
  · rw [if_neg hc3] at h
    refine aq_ifT (t := 200) (am_dg dkX12_rule (i := 72) rfl) rfl (decide_eq_true hc3) ?_
    obtain rfl := Option.some.inj h
    exact aq_return (am_dg dkX12_rule (i := 112) rfl) rfl
set_option maxRecDepth 20000 in
theorem T_X12_rule_82_b132 {sc : Option (Nat × (Nat → Int32))} {RF : Nat → Nat → Option Nat} {d : Nat} (hR : am_RFok RF) (hd : 41 ≤ d) : ∀ (x1 : Int32) (x4 : Int32) (w2 : Value) (w5 : Value) (s : am_S) (r : am_S), F_X12_rule_82_b132 x1 x4 s = some r → am_Q sc d mX12_rule (132, [.ref 82, .int x1, w2, .null, .int x4, w5], [.ref 82], am_hp RF s) (.null, am_hp RF r) := by
  obtain ⟨e, rfl⟩ : ∃ e, d = e + 1 := ⟨d - 1, by omega⟩
  intro x1 x4 w2 w5 s r h
  unfold F_X12_rule_82_b132 at h
  refine aq_iconst (v := (0 : Int32)) (am_dg dkX12_rule (i := 68) rfl) (by decide) ?_
  exact T_X12_rule_82_b133 hR (by omega) _ _ _ _ _ _ _ h
set_option maxRecDepth 20000 in
theorem T_X12_rule_82_b104 {sc : Option (Nat × (Nat → Int32))} {RF : Nat → Nat → Option Nat} {d : Nat} (hR : am_RFok RF) (hd : 41 ≤ d) : ∀ (x1 : Int32) (x4 : Int32) (y0 : Int32) (w2 : Value) (w5 : Value) (s : am_S) (r : am_S), F_X12_rule_82_b104 x1 x4 y0 s = some r → am_Q sc d mX12_rule (104, [.ref 82, .int x1, w2, .null, .int x4, w5], [.int y0, .ref 82], am_hp RF s) (.null, am_hp RF r) := by
  obtain ⟨e, rfl⟩ : ∃ e, d = e + 1 := ⟨d - 1, by omega⟩
  intro x1 x4 y0 w2 w5 s r h
  unfold F_X12_rule_82_b104 at h
  obtain ⟨q1, hq2, h⟩ := am_bnd h
  refine aq_virt (a := [.ref 82, .int y0]) (S1 := []) (v1 := .null) (S2 := []) (am_dg dkX12_rule (i := 55) rfl) cv_12_323_12 (am_cls_c sh_82 (by decide)) rfl rfl rfl (Nat.le_of_ble_eq_true rfl) (Nat.le_of_ble_eq_true rfl) (T_X12_wants_82 hR (by omega) hq2) rfl ?_
  refine aq_aload_n (am_dg dkX12_rule (i := 56) rfl) rfl ?_
  refine aq_aload_n (am_dg dkX12_rule (i := 57) rfl) rfl ?_
  refine aq_getI (am_dg dkX12_rule (i := 58) rfl) gk_12_309_82 (by decide) ?_
  by_cases hc3 : (q1.1 82 28) = (0 : Int32)
  · rw [if_pos hc3] at h
    refine aq_ifF (t := 132) (am_dg dkX12_rule (i := 59) rfl) rfl (decide_eq_false (not_not_intro hc3)) ?_
    refine aq_aload_n (am_dg dkX12_rule (i := 60) rfl) rfl ?_
    refine aq_aload_n (am_dg dkX12_rule (i := 61) rfl) rfl ?_
    refine aq_getI (am_dg dkX12_rule (i := 62) rfl) gk_12_297_82 (by decide) ?_
    obtain ⟨q4, hq5, h⟩ := am_bnd h
    refine aq_virt (a := [.ref 82, .int (q1.1 82 23)]) (S1 := [.ref 82]) (v1 := .int q4.1) (S2 := [.int q4.1, .ref 82]) (am_dg dkX12_rule (i := 63) rfl) cv_12_300_12 (am_cls_c sh_82 (by decide)) rfl rfl rfl (Nat.le_of_ble_eq_true rfl) (Nat.le_of_ble_eq_true rfl) (T_X12_byteAt_82 hR (by omega) hq5) rfl ?_
    refine aq_bipush (v := (59 : Int32)) (am_dg dkX12_rule (i := 64) rfl) (by decide) ?_
    by_cases hc6 : q4.1 = (59 : Int32)
    · rw [if_pos hc6] at h
      refine aq_icF (t := 132) (am_dg dkX12_rule (i := 65) rfl) rfl (decide_eq_false (not_not_intro hc6)) ?_
      refine aq_iconst (v := (1 : Int32)) (am_dg dkX12_rule (i := 66) rfl) (by decide) ?_
      refine aq_goto (t := 133) (am_dg dkX12_rule (i := 67) rfl) rfl ?_
      exact T_X12_rule_82_b133 hR (by omega) _ _ _ _ _ _ _ h
    · rw [if_neg hc6] at h
      refine aq_icT (t := 132) (am_dg dkX12_rule (i := 65) rfl) rfl (decide_eq_true hc6) ?_
      exact T_X12_rule_82_b132 hR (by omega) _ _ _ _ _ _ h
  · rw [if_neg hc3] at h
    refine aq_ifT (t := 132) (am_dg dkX12_rule (i := 59) rfl) rfl (decide_eq_true hc3) ?_
    exact T_X12_rule_82_b132 hR (by omega) _ _ _ _ _ _ h
set_option maxRecDepth 20000 in
theorem T_X12_rule_82_b91 {sc : Option (Nat × (Nat → Int32))} {RF : Nat → Nat → Option Nat} {d : Nat} (hR : am_RFok RF) (hd : 41 ≤ d) : ∀ (x1 : Int32) (y0 : Int32) (w2 : Value) (w4 : Value) (w5 : Value) (s : am_S) (r : am_S), F_X12_rule_82_b91 x1 y0 s = some r → am_Q sc d mX12_rule (91, [.ref 82, .int x1, w2, .null, w4, w5], [.int y0], am_hp RF s) (.null, am_hp RF r) := by
  obtain ⟨e, rfl⟩ : ∃ e, d = e + 1 := ⟨d - 1, by omega⟩
  intro x1 y0 w2 w4 w5 s r h
  unfold F_X12_rule_82_b91 at h
  refine aq_istore (L1 := [.ref 82, .int x1, w2, .null, .int y0, w5]) (am_dg dkX12_rule (i := 48) rfl) rfl ?_
  refine aq_aload_n (am_dg dkX12_rule (i := 49) rfl) rfl ?_
  refine aq_iload (am_dg dkX12_rule (i := 50) rfl) rfl ?_
  by_cases hc1 : y0 < (0 : Int32)
  · rw [if_pos hc1] at h
    refine aq_ifT (t := 103) (am_dg dkX12_rule (i := 51) rfl) rfl (decide_eq_true hc1) ?_
    refine aq_iconst (v := (0 : Int32)) (am_dg dkX12_rule (i := 54) rfl) (by decide) ?_
    exact T_X12_rule_82_b104 hR (by omega) _ _ _ _ _ _ _ h
  · rw [if_neg hc1] at h
    refine aq_ifF (t := 103) (am_dg dkX12_rule (i := 51) rfl) rfl (decide_eq_false hc1) ?_
    refine aq_iconst (v := (1 : Int32)) (am_dg dkX12_rule (i := 52) rfl) (by decide) ?_
    refine aq_goto (t := 104) (am_dg dkX12_rule (i := 53) rfl) rfl ?_
    exact T_X12_rule_82_b104 hR (by omega) _ _ _ _ _ _ _ h
set_option maxRecDepth 20000 in
theorem T_X12_rule_82_b49 {sc : Option (Nat × (Nat → Int32))} {RF : Nat → Nat → Option Nat} {d : Nat} (hR : am_RFok RF) (hd : 41 ≤ d) : ∀ (x1 : Int32) (w2 : Value) (w3 : Value) (w4 : Value) (w5 : Value) (s : am_S) (r : am_S), F_X12_rule_82_b49 x1 s = some r → am_Q sc d mX12_rule (49, [.ref 82, .int x1, w2, w3, w4, w5], [], am_hp RF s) (.null, am_hp RF r) := by
  obtain ⟨e, rfl⟩ : ∃ e, d = e + 1 := ⟨d - 1, by omega⟩
  intro x1 w2 w3 w4 w5 s r h
  unfold F_X12_rule_82_b49 at h
  refine aq_aload_n (am_dg dkX12_rule (i := 26) rfl) rfl ?_
  obtain ⟨q1, hq2, h⟩ := am_bnd h
  refine aq_virt (a := [.ref 82]) (S1 := []) (v1 := .long q1.1) (S2 := [.long q1.1]) (am_dg dkX12_rule (i := 27) rfl) cv_12_327_12 (am_cls_c sh_82 (by decide)) rfl rfl rfl (Nat.le_of_ble_eq_true rfl) (Nat.le_of_ble_eq_true rfl) (T_X12_word_82 hR (by omega) hq2) rfl ?_
  refine aq_lstore_n (L1 := [.ref 82, .int x1, .long q1.1, .null, w4, w5]) (am_dg dkX12_rule (i := 28) rfl) rfl ?_
  refine aq_lload_n (am_dg dkX12_rule (i := 29) rfl) rfl ?_
  refine aq_ldc2 (am_dg dkX12_rule (i := 30) rfl) cl_12_394 ?_
  refine aq_lcmp (am_dg dkX12_rule (i := 31) rfl) ?_
  by_cases hc3 : (lg_cmp q1.1 (365744 : Int64)) = (0 : Int32)
  · rw [if_pos hc3] at h
    refine aq_ifF (t := 66) (am_dg dkX12_rule (i := 32) rfl) rfl (decide_eq_false (not_not_intro hc3)) ?_
    refine aq_iconst (v := (0 : Int32)) (am_dg dkX12_rule (i := 33) rfl) (by decide) ?_
    refine aq_goto (t := 91) (am_dg dkX12_rule (i := 34) rfl) rfl ?_
    exact T_X12_rule_82_b91 hR (by omega) _ _ _ _ _ _ _ h
  · rw [if_neg hc3] at h
    refine aq_ifT (t := 66) (am_dg dkX12_rule (i := 32) rfl) rfl (decide_eq_true hc3) ?_
    refine aq_lload_n (am_dg dkX12_rule (i := 35) rfl) rfl ?_
    refine aq_ldc2 (am_dg dkX12_rule (i := 36) rfl) cl_12_396 ?_
    refine aq_lcmp (am_dg dkX12_rule (i := 37) rfl) ?_
    by_cases hc4 : (lg_cmp q1.1 (215205 : Int64)) = (0 : Int32)
    · rw [if_pos hc4] at h
      refine aq_ifF (t := 78) (am_dg dkX12_rule (i := 38) rfl) rfl (decide_eq_false (not_not_intro hc4)) ?_
      refine aq_iconst (v := (1 : Int32)) (am_dg dkX12_rule (i := 39) rfl) (by decide) ?_
      refine aq_goto (t := 91) (am_dg dkX12_rule (i := 40) rfl) rfl ?_
      exact T_X12_rule_82_b91 hR (by omega) _ _ _ _ _ _ _ h
    · rw [if_neg hc4] at h
      refine aq_ifT (t := 78) (am_dg dkX12_rule (i := 38) rfl) rfl (decide_eq_true hc4) ?_
      refine aq_lload_n (am_dg dkX12_rule (i := 41) rfl) rfl ?_
      refine aq_ldc2 (am_dg dkX12_rule (i := 42) rfl) cl_12_398 ?_
      refine aq_lcmp (am_dg dkX12_rule (i := 43) rfl) ?_
      by_cases hc5 : (lg_cmp q1.1 (624020 : Int64)) = (0 : Int32)
      · rw [if_pos hc5] at h
        refine aq_ifF (t := 90) (am_dg dkX12_rule (i := 44) rfl) rfl (decide_eq_false (not_not_intro hc5)) ?_
        refine aq_iconst (v := (2 : Int32)) (am_dg dkX12_rule (i := 45) rfl) (by decide) ?_
        refine aq_goto (t := 91) (am_dg dkX12_rule (i := 46) rfl) rfl ?_
        exact T_X12_rule_82_b91 hR (by omega) _ _ _ _ _ _ _ h
      · rw [if_neg hc5] at h
        refine aq_ifT (t := 90) (am_dg dkX12_rule (i := 44) rfl) rfl (decide_eq_true hc5) ?_
        refine aq_iconst (v := (-1 : Int32)) (am_dg dkX12_rule (i := 47) rfl) (by decide) ?_
        exact T_X12_rule_82_b91 hR (by omega) _ _ _ _ _ _ _ h
set_option maxRecDepth 20000 in
theorem T_X12_rule_82_b26 {sc : Option (Nat × (Nat → Int32))} {RF : Nat → Nat → Option Nat} {d : Nat} (hR : am_RFok RF) (hd : 41 ≤ d) : ∀ (x1 : Int32) (y0 : Int32) (w2 : Value) (w3 : Value) (w4 : Value) (w5 : Value) (s : am_S) (r : am_S), F_X12_rule_82_b26 x1 y0 s = some r → am_Q sc d mX12_rule (26, [.ref 82, .int x1, w2, w3, w4, w5], [.int y0, .ref 82], am_hp RF s) (.null, am_hp RF r) := by
  obtain ⟨e, rfl⟩ : ∃ e, d = e + 1 := ⟨d - 1, by omega⟩
  intro x1 y0 w2 w3 w4 w5 s r h
  unfold F_X12_rule_82_b26 at h
  obtain ⟨q1, hq2, h⟩ := am_bnd h
  refine aq_virt (a := [.ref 82, .int y0]) (S1 := []) (v1 := .null) (S2 := []) (am_dg dkX12_rule (i := 15) rfl) cv_12_323_12 (am_cls_c sh_82 (by decide)) rfl rfl rfl (Nat.le_of_ble_eq_true rfl) (Nat.le_of_ble_eq_true rfl) (T_X12_wants_82 hR (by omega) hq2) rfl ?_
  refine aq_aload_n (am_dg dkX12_rule (i := 16) rfl) rfl ?_
  obtain ⟨q3, hq4, h⟩ := am_bnd h
  refine aq_virt (a := [.ref 82]) (S1 := []) (v1 := .long q3.1) (S2 := [.long q3.1]) (am_dg dkX12_rule (i := 17) rfl) cv_12_327_12 (am_cls_c sh_82 (by decide)) rfl rfl rfl (Nat.le_of_ble_eq_true rfl) (Nat.le_of_ble_eq_true rfl) (T_X12_word_82 hR (by omega) hq4) rfl ?_
  refine aq_ldc2 (am_dg dkX12_rule (i := 18) rfl) cl_12_392 ?_
  refine aq_lcmp (am_dg dkX12_rule (i := 19) rfl) ?_
  by_cases hc5 : (lg_cmp q3.1 (294 : Int64)) = (0 : Int32)
  · rw [if_pos hc5] at h
    refine aq_ifF (t := 49) (am_dg dkX12_rule (i := 20) rfl) rfl (decide_eq_false (not_not_intro hc5)) ?_
    refine aq_aload_n (am_dg dkX12_rule (i := 21) rfl) rfl ?_
    refine aq_iconst (v := (1 : Int32)) (am_dg dkX12_rule (i := 22) rfl) (by decide) ?_
    obtain ⟨q6, hq7, h⟩ := am_bnd h
    refine aq_virt (a := [.ref 82, .int (1 : Int32)]) (S1 := []) (v1 := .null) (S2 := []) (am_dg dkX12_rule (i := 23) rfl) cv_12_323_12 (am_cls_c sh_82 (by decide)) rfl rfl rfl (Nat.le_of_ble_eq_true rfl) (Nat.le_of_ble_eq_true rfl) (T_X12_wants_82 hR (by omega) hq7) rfl ?_
    refine aq_aload_n (am_dg dkX12_rule (i := 24) rfl) rfl ?_
    obtain ⟨q8, hq9, h⟩ := am_bnd h
    refine aq_virt (a := [.ref 82]) (S1 := []) (v1 := .null) (S2 := []) (am_dg dkX12_rule (i := 25) rfl) cv_12_373_12 (am_cls_c sh_82 (by decide)) rfl rfl rfl (Nat.le_of_ble_eq_true rfl) (Nat.le_of_ble_eq_true rfl) (T_X12_condition_82 hR (by omega) hq9) rfl ?_
    exact T_X12_rule_82_b49 hR (by omega) _ _ _ _ _ _ _ h
  · rw [if_neg hc5] at h
    refine aq_ifT (t := 49) (am_dg dkX12_rule (i := 20) rfl) rfl (decide_eq_true hc5) ?_
    exact T_X12_rule_82_b49 hR (by omega) _ _ _ _ _ _ _ h
set_option maxRecDepth 20000 in
theorem T_X12_rule_82_b25 {sc : Option (Nat × (Nat → Int32))} {RF : Nat → Nat → Option Nat} {d : Nat} (hR : am_RFok RF) (hd : 41 ≤ d) : ∀ (x1 : Int32) (w2 : Value) (w3 : Value) (w4 : Value) (w5 : Value) (s : am_S) (r : am_S), F_X12_rule_82_b25 x1 s = some r → am_Q sc d mX12_rule (25, [.ref 82, .int x1, w2, w3, w4, w5], [.ref 82], am_hp RF s) (.null, am_hp RF r) := by
  obtain ⟨e, rfl⟩ : ∃ e, d = e + 1 := ⟨d - 1, by omega⟩
  intro x1 w2 w3 w4 w5 s r h
  unfold F_X12_rule_82_b25 at h
  refine aq_iconst (v := (0 : Int32)) (am_dg dkX12_rule (i := 14) rfl) (by decide) ?_
  exact T_X12_rule_82_b26 hR (by omega) _ _ _ _ _ _ _ _ h
set_option maxRecDepth 20000 in
theorem T_X12_rule_82 {sc : Option (Nat × (Nat → Int32))} {RF : Nat → Nat → Option Nat} {d : Nat} (hR : am_RFok RF) (hd : 41 ≤ d) {s : am_S} {r : am_S} (h : F_X12_rule_82 s = some r) : am_Q sc d mX12_rule (0, am_L0 mX12_rule [.ref 82], [], am_hp RF s) (.null, am_hp RF r) := by
  obtain ⟨e, rfl⟩ : ∃ e, d = e + 1 := ⟨d - 1, by omega⟩
  unfold F_X12_rule_82 at h
  show am_Q _ _ _ (0, [.ref 82, .null, .null, .null, .null, .null], [], _) _
  refine aq_aload_n (am_dg dkX12_rule (i := 0) rfl) rfl ?_
  obtain ⟨q1, hq2, h⟩ := am_bnd h
  refine aq_virt (a := [.ref 82]) (S1 := []) (v1 := .int q1.1) (S2 := [.int q1.1]) (am_dg dkX12_rule (i := 1) rfl) cv_12_389_12 (am_cls_c sh_82 (by decide)) rfl rfl rfl (Nat.le_of_ble_eq_true rfl) (Nat.le_of_ble_eq_true rfl) (T_X12_kindHere_82 hR (by omega) hq2) rfl ?_
  refine aq_istore_n (L1 := [.ref 82, .int q1.1, .null, .null, .null, .null]) (am_dg dkX12_rule (i := 2) rfl) rfl ?_
  refine aq_aload_n (am_dg dkX12_rule (i := 3) rfl) rfl ?_
  refine aq_iload_n (am_dg dkX12_rule (i := 4) rfl) rfl ?_
  by_cases hc3 : q1.1 < (0 : Int32)
  · rw [if_pos hc3] at h
    refine aq_ifT (t := 25) (am_dg dkX12_rule (i := 5) rfl) rfl (decide_eq_true hc3) ?_
    exact T_X12_rule_82_b25 hR (by omega) _ _ _ _ _ _ _ h
  · rw [if_neg hc3] at h
    refine aq_ifF (t := 25) (am_dg dkX12_rule (i := 5) rfl) rfl (decide_eq_false hc3) ?_
    refine aq_aload_n (am_dg dkX12_rule (i := 6) rfl) rfl ?_
    refine aq_getR (am_dg dkX12_rule (i := 7) rfl) gk_12_7_82 (rf_82_0 hR) ?_
    refine aq_iconst (v := (1 : Int32)) (am_dg dkX12_rule (i := 8) rfl) (by decide) ?_
    obtain ⟨hg4, h⟩ := am_guard h
    refine aq_iald (am_dg dkX12_rule (i := 9) rfl) sh_83 hg4 ?_
    refine aq_bipush (v := (8 : Int32)) (am_dg dkX12_rule (i := 10) rfl) (by decide) ?_
    by_cases hc5 : (8 : Int32) ≤ (q1.2.1 83 (1 : Int32).toNatClampNeg)
    · rw [if_pos hc5] at h
      refine aq_icT (t := 25) (am_dg dkX12_rule (i := 11) rfl) rfl (decide_eq_true hc5) ?_
      exact T_X12_rule_82_b25 hR (by omega) _ _ _ _ _ _ _ h
    · rw [if_neg hc5] at h
      refine aq_icF (t := 25) (am_dg dkX12_rule (i := 11) rfl) rfl (decide_eq_false hc5) ?_
      refine aq_iconst (v := (1 : Int32)) (am_dg dkX12_rule (i := 12) rfl) (by decide) ?_
      refine aq_goto (t := 26) (am_dg dkX12_rule (i := 13) rfl) rfl ?_
      exact T_X12_rule_82_b26 hR (by omega) _ _ _ _ _ _ _ _ h
set_option maxRecDepth 20000 in
theorem T_X12_putsBack_82_b2 {sc : Option (Nat × (Nat → Int32))} {RF : Nat → Nat → Option Nat} {d : Nat} (hR : am_RFok RF) (hd : 0 ≤ d) : ∀ (n : Nat) (x1 : Int32) (s : am_S) (r : am_S), F_X12_putsBack_82_b2 n x1 s = some r → am_Q sc d mX12_putsBack (2, [.ref 82, .int x1], [], am_hp RF s) (.null, am_hp RF r) := by
  intro n
  induction n with
  | zero => intro x1 s r h; rw [F_X12_putsBack_82_b2] at h; cases h
  | succ n ih =>
  intro x1 s r h
  rw [F_X12_putsBack_82_b2] at h
  refine aq_iload_n (am_dg dkX12_putsBack (i := 2) rfl) rfl ?_
  refine aq_sipush (v := (296 : Int32)) (am_dg dkX12_putsBack (i := 3) rfl) (by decide) ?_
  by_cases hc1 : (296 : Int32) ≤ x1
  · rw [if_pos hc1] at h
    refine aq_icT (t := 27) (am_dg dkX12_putsBack (i := 4) rfl) rfl (decide_eq_true hc1) ?_
    obtain rfl := Option.some.inj h
    exact aq_return (am_dg dkX12_putsBack (i := 15) rfl) rfl
  · rw [if_neg hc1] at h
    refine aq_icF (t := 27) (am_dg dkX12_putsBack (i := 4) rfl) rfl (decide_eq_false hc1) ?_
    refine aq_aload_n (am_dg dkX12_putsBack (i := 5) rfl) rfl ?_
    refine aq_getR (am_dg dkX12_putsBack (i := 6) rfl) gk_12_7_82 (rf_82_0 hR) ?_
    refine aq_iload_n (am_dg dkX12_putsBack (i := 7) rfl) rfl ?_
    refine aq_aload_n (am_dg dkX12_putsBack (i := 8) rfl) rfl ?_
    refine aq_getR (am_dg dkX12_putsBack (i := 9) rfl) gk_12_16_82 (rf_82_2 hR) ?_
    refine aq_iload_n (am_dg dkX12_putsBack (i := 10) rfl) rfl ?_
    obtain ⟨hg2, h⟩ := am_guard h
    refine aq_iald (am_dg dkX12_putsBack (i := 11) rfl) sh_85 hg2 ?_
    obtain ⟨hg3, h⟩ := am_guard h
    refine aq_iast (am_dg dkX12_putsBack (i := 12) rfl) sh_83 hg3 ?_
    obtain ⟨s4, hs5, h⟩ := am_bnd h
    rw [Option.some.inj hs5]
    refine aq_iinc (v := (1 : Int32)) (L1 := [.ref 82, .int (x1 + (1 : Int32))]) (am_dg dkX12_putsBack (i := 13) rfl) rfl (by decide) rfl ?_
    refine aq_goto (t := 2) (am_dg dkX12_putsBack (i := 14) rfl) rfl ?_
    exact ih _ _ _ h
set_option maxRecDepth 20000 in
theorem T_X12_putsBack_82 {sc : Option (Nat × (Nat → Int32))} {RF : Nat → Nat → Option Nat} {d : Nat} (hR : am_RFok RF) (hd : 0 ≤ d) {s : am_S} {r : am_S} (h : F_X12_putsBack_82 s = some r) : am_Q sc d mX12_putsBack (0, am_L0 mX12_putsBack [.ref 82], [], am_hp RF s) (.null, am_hp RF r) := by
  unfold F_X12_putsBack_82 at h
  show am_Q _ _ _ (0, [.ref 82, .null], [], _) _
  refine aq_iconst (v := (0 : Int32)) (am_dg dkX12_putsBack (i := 0) rfl) (by decide) ?_
  refine aq_istore_n (L1 := [.ref 82, .int (0 : Int32)]) (am_dg dkX12_putsBack (i := 1) rfl) rfl ?_
  exact T_X12_putsBack_82_b2 hR (by omega) _ _ _ _ h
set_option maxRecDepth 20000 in
theorem T_X12_rules_82_b60 {sc : Option (Nat × (Nat → Int32))} {RF : Nat → Nat → Option Nat} {d : Nat} (hR : am_RFok RF) (hd : 42 ≤ d) : ∀ (s : am_S) (r : Int32 × am_S), F_X12_rules_82_b60 s = some r → am_Q sc d mX12_rules (60, [.ref 82], [], am_hp RF s) (.int r.1, am_hp RF r.2) := by
  obtain ⟨e, rfl⟩ : ∃ e, d = e + 1 := ⟨d - 1, by omega⟩
  intro s r h
  unfold F_X12_rules_82_b60 at h
  refine aq_aload_n (am_dg dkX12_rules (i := 32) rfl) rfl ?_
  refine aq_iconst (v := (0 : Int32)) (am_dg dkX12_rules (i := 33) rfl) (by decide) ?_
  refine aq_putI (am_dg dkX12_rules (i := 34) rfl) gk_12_281_82 ?_
  obtain ⟨s1, hs2, h⟩ := am_bnd h
  rw [Option.some.inj hs2]
  refine aq_aload_n (am_dg dkX12_rules (i := 35) rfl) rfl ?_
  refine aq_getI (am_dg dkX12_rules (i := 36) rfl) gk_12_309_82 (by decide) ?_
  by_cases hc3 : (s1.1 82 28) = (0 : Int32)
  · rw [if_pos hc3] at h
    refine aq_ifT (t := 84) (am_dg dkX12_rules (i := 37) rfl) rfl (decide_eq_true hc3) ?_
    refine aq_aload_n (am_dg dkX12_rules (i := 45) rfl) rfl ?_
    refine aq_getR (am_dg dkX12_rules (i := 46) rfl) gk_12_7_82 (rf_82_0 hR) ?_
    refine aq_iconst (v := (1 : Int32)) (am_dg dkX12_rules (i := 47) rfl) (by decide) ?_
    obtain ⟨hg4, h⟩ := am_guard h
    refine aq_iald (am_dg dkX12_rules (i := 48) rfl) sh_83 hg4 ?_
    obtain rfl := Option.some.inj h
    exact aq_ireturn (am_dg dkX12_rules (i := 49) rfl) rfl (Or.inl rfl) rfl
  · rw [if_neg hc3] at h
    refine aq_ifF (t := 84) (am_dg dkX12_rules (i := 37) rfl) rfl (decide_eq_false hc3) ?_
    refine aq_aload_n (am_dg dkX12_rules (i := 38) rfl) rfl ?_
    obtain ⟨q5, hq6, h⟩ := am_bnd h
    refine aq_virt (a := [.ref 82]) (S1 := []) (v1 := .null) (S2 := []) (am_dg dkX12_rules (i := 39) rfl) cv_12_168_12 (am_cls_c sh_82 (by decide)) rfl rfl rfl (Nat.le_of_ble_eq_true rfl) (Nat.le_of_ble_eq_true rfl) (T_X12_putsBack_82 hR (by omega) hq6) rfl ?_
    refine aq_bipush (v := (-100 : Int32)) (am_dg dkX12_rules (i := 40) rfl) (by decide) ?_
    refine aq_aload_n (am_dg dkX12_rules (i := 41) rfl) rfl ?_
    refine aq_getI (am_dg dkX12_rules (i := 42) rfl) gk_12_297_82 (by decide) ?_
    refine aq_isub (am_dg dkX12_rules (i := 43) rfl) ?_
    obtain rfl := Option.some.inj h
    exact aq_ireturn (am_dg dkX12_rules (i := 44) rfl) rfl (Or.inl rfl) rfl
set_option maxRecDepth 20000 in
theorem T_X12_rules_82_b35 {sc : Option (Nat × (Nat → Int32))} {RF : Nat → Nat → Option Nat} {d : Nat} (hR : am_RFok RF) (hd : 42 ≤ d) : ∀ (n : Nat) (s : am_S) (r : Int32 × am_S), F_X12_rules_82_b35 n s = some r → am_Q sc d mX12_rules (35, [.ref 82], [], am_hp RF s) (.int r.1, am_hp RF r.2) := by
  obtain ⟨e, rfl⟩ : ∃ e, d = e + 1 := ⟨d - 1, by omega⟩
  intro n
  induction n with
  | zero => intro s r h; rw [F_X12_rules_82_b35] at h; cases h
  | succ n ih =>
  intro s r h
  rw [F_X12_rules_82_b35] at h
  refine aq_aload_n (am_dg dkX12_rules (i := 21) rfl) rfl ?_
  refine aq_getI (am_dg dkX12_rules (i := 22) rfl) gk_12_309_82 (by decide) ?_
  by_cases hc1 : (s.1 82 28) = (0 : Int32)
  · rw [if_pos hc1] at h
    refine aq_ifF (t := 60) (am_dg dkX12_rules (i := 23) rfl) rfl (decide_eq_false (not_not_intro hc1)) ?_
    refine aq_aload_n (am_dg dkX12_rules (i := 24) rfl) rfl ?_
    refine aq_getI (am_dg dkX12_rules (i := 25) rfl) gk_12_297_82 (by decide) ?_
    refine aq_aload_n (am_dg dkX12_rules (i := 26) rfl) rfl ?_
    refine aq_getI (am_dg dkX12_rules (i := 27) rfl) gk_12_281_82 (by decide) ?_
    by_cases hc2 : (s.1 82 22) ≤ (s.1 82 23)
    · rw [if_pos hc2] at h
      refine aq_icT (t := 60) (am_dg dkX12_rules (i := 28) rfl) rfl (decide_eq_true hc2) ?_
      exact T_X12_rules_82_b60 hR (by omega) _ _ h
    · rw [if_neg hc2] at h
      refine aq_icF (t := 60) (am_dg dkX12_rules (i := 28) rfl) rfl (decide_eq_false hc2) ?_
      refine aq_aload_n (am_dg dkX12_rules (i := 29) rfl) rfl ?_
      obtain ⟨q3, hq4, h⟩ := am_bnd h
      refine aq_virt (a := [.ref 82]) (S1 := []) (v1 := .null) (S2 := []) (am_dg dkX12_rules (i := 30) rfl) cv_12_400_12 (am_cls_c sh_82 (by decide)) rfl rfl rfl (Nat.le_of_ble_eq_true rfl) (Nat.le_of_ble_eq_true rfl) (T_X12_rule_82 hR (by omega) hq4) rfl ?_
      refine aq_goto (t := 35) (am_dg dkX12_rules (i := 31) rfl) rfl ?_
      exact ih _ _ h
  · rw [if_neg hc1] at h
    refine aq_ifT (t := 60) (am_dg dkX12_rules (i := 23) rfl) rfl (decide_eq_true hc1) ?_
    exact T_X12_rules_82_b60 hR (by omega) _ _ h
set_option maxRecDepth 20000 in
theorem T_X12_rules_82 {sc : Option (Nat × (Nat → Int32))} {RF : Nat → Nat → Option Nat} {d : Nat} (hR : am_RFok RF) (hd : 42 ≤ d) {s : am_S} {r : Int32 × am_S} (h : F_X12_rules_82 s = some r) : am_Q sc d mX12_rules (0, am_L0 mX12_rules [.ref 82], [], am_hp RF s) (.int r.1, am_hp RF r.2) := by
  obtain ⟨e, rfl⟩ : ∃ e, d = e + 1 := ⟨d - 1, by omega⟩
  unfold F_X12_rules_82 at h
  show am_Q _ _ _ (0, [.ref 82], [], _) _
  refine aq_aload_n (am_dg dkX12_rules (i := 0) rfl) rfl ?_
  obtain ⟨q1, hq2, h⟩ := am_bnd h
  refine aq_virt (a := [.ref 82]) (S1 := []) (v1 := .null) (S2 := []) (am_dg dkX12_rules (i := 1) rfl) cv_12_162_12 (am_cls_c sh_82 (by decide)) rfl rfl rfl (Nat.le_of_ble_eq_true rfl) (Nat.le_of_ble_eq_true rfl) (T_X12_puts_82 hR (by omega) hq2) rfl ?_
  refine aq_aload_n (am_dg dkX12_rules (i := 2) rfl) rfl ?_
  refine aq_getR (am_dg dkX12_rules (i := 3) rfl) gk_12_7_82 (rf_82_0 hR) ?_
  refine aq_iconst (v := (1 : Int32)) (am_dg dkX12_rules (i := 4) rfl) (by decide) ?_
  refine aq_iconst (v := (0 : Int32)) (am_dg dkX12_rules (i := 5) rfl) (by decide) ?_
  obtain ⟨hg3, h⟩ := am_guard h
  refine aq_iast (am_dg dkX12_rules (i := 6) rfl) sh_83 hg3 ?_
  obtain ⟨s4, hs5, h⟩ := am_bnd h
  rw [Option.some.inj hs5]
  refine aq_aload_n (am_dg dkX12_rules (i := 7) rfl) rfl ?_
  refine aq_iconst (v := (0 : Int32)) (am_dg dkX12_rules (i := 8) rfl) (by decide) ?_
  refine aq_putI (am_dg dkX12_rules (i := 9) rfl) gk_12_353_82 ?_
  obtain ⟨s6, hs7, h⟩ := am_bnd h
  rw [Option.some.inj hs7]
  refine aq_aload_n (am_dg dkX12_rules (i := 10) rfl) rfl ?_
  refine aq_iconst (v := (0 : Int32)) (am_dg dkX12_rules (i := 11) rfl) (by decide) ?_
  refine aq_putI (am_dg dkX12_rules (i := 12) rfl) gk_12_370_82 ?_
  obtain ⟨s8, hs9, h⟩ := am_bnd h
  rw [Option.some.inj hs9]
  refine aq_aload_n (am_dg dkX12_rules (i := 13) rfl) rfl ?_
  refine aq_iconst (v := (0 : Int32)) (am_dg dkX12_rules (i := 14) rfl) (by decide) ?_
  refine aq_putI (am_dg dkX12_rules (i := 15) rfl) gk_12_294_82 ?_
  obtain ⟨s10, hs11, h⟩ := am_bnd h
  rw [Option.some.inj hs11]
  refine aq_aload_n (am_dg dkX12_rules (i := 16) rfl) rfl ?_
  refine aq_iconst (v := (0 : Int32)) (am_dg dkX12_rules (i := 17) rfl) (by decide) ?_
  refine aq_putZ (am_dg dkX12_rules (i := 18) rfl) gk_12_309_82 (by decide) ?_
  obtain ⟨s12, hs13, h⟩ := am_bnd h
  rw [Option.some.inj hs13]
  refine aq_aload_n (am_dg dkX12_rules (i := 19) rfl) rfl ?_
  obtain ⟨q14, hq15, h⟩ := am_bnd h
  refine aq_virt (a := [.ref 82]) (S1 := []) (v1 := .null) (S2 := []) (am_dg dkX12_rules (i := 20) rfl) cv_12_313_12 (am_cls_c sh_82 (by decide)) rfl rfl rfl (Nat.le_of_ble_eq_true rfl) (Nat.le_of_ble_eq_true rfl) (T_X12_token_82 hR (by omega) hq15) rfl ?_
  exact T_X12_rules_82_b35 hR (by omega) _ _ _ h
set_option maxRecDepth 20000 in
theorem T_X8_leastAct_8_b2 {sc : Option (Nat × (Nat → Int32))} {RF : Nat → Nat → Option Nat} {d : Nat} (hR : am_RFok RF) (hd : 1 ≤ d) : ∀ (n : Nat) (x1 : Int32) (s : am_S) (r : Int32 × am_S), F_X8_leastAct_8_b2 n x1 s = some r → am_Q sc d mX8_leastAct (2, [.ref 8, .int x1], [], am_hp RF s) (.int r.1, am_hp RF r.2) := by
  obtain ⟨e, rfl⟩ : ∃ e, d = e + 1 := ⟨d - 1, by omega⟩
  intro n
  induction n with
  | zero => intro x1 s r h; rw [F_X8_leastAct_8_b2] at h; cases h
  | succ n ih =>
  intro x1 s r h
  rw [F_X8_leastAct_8_b2] at h
  refine aq_iload_n (am_dg dkX8_leastAct (i := 2) rfl) rfl ?_
  refine aq_aload_n (am_dg dkX8_leastAct (i := 3) rfl) rfl ?_
  refine aq_getI (am_dg dkX8_leastAct (i := 4) rfl) gk_8_72_8 (by decide) ?_
  by_cases hc1 : (s.1 8 5) ≤ x1
  · rw [if_pos hc1] at h
    refine aq_icT (t := 28) (am_dg dkX8_leastAct (i := 5) rfl) rfl (decide_eq_true hc1) ?_
    refine aq_iconst (v := (0 : Int32)) (am_dg dkX8_leastAct (i := 16) rfl) (by decide) ?_
    obtain rfl := Option.some.inj h
    exact aq_ireturn (am_dg dkX8_leastAct (i := 17) rfl) rfl (Or.inl rfl) rfl
  · rw [if_neg hc1] at h
    refine aq_icF (t := 28) (am_dg dkX8_leastAct (i := 5) rfl) rfl (decide_eq_false hc1) ?_
    refine aq_aload_n (am_dg dkX8_leastAct (i := 6) rfl) rfl ?_
    refine aq_iload_n (am_dg dkX8_leastAct (i := 7) rfl) rfl ?_
    obtain ⟨q2, hq3, h⟩ := am_bnd h
    refine aq_virt (a := [.ref 8, .int x1]) (S1 := []) (v1 := .int q2.1) (S2 := [.int q2.1]) (am_dg dkX8_leastAct (i := 8) rfl) cv_8_120_8 (am_cls_c sh_8 (by decide)) rfl rfl rfl (Nat.le_of_ble_eq_true rfl) (Nat.le_of_ble_eq_true rfl) (T_X8_isCaught_8 hR (by omega) hq3) rfl ?_
    by_cases hc4 : q2.1 = (0 : Int32)
    · rw [if_pos hc4] at h
      refine aq_ifF (t := 22) (am_dg dkX8_leastAct (i := 9) rfl) rfl (decide_eq_false (not_not_intro hc4)) ?_
      refine aq_iload_n (am_dg dkX8_leastAct (i := 10) rfl) rfl ?_
      refine aq_iconst (v := (1 : Int32)) (am_dg dkX8_leastAct (i := 11) rfl) (by decide) ?_
      refine aq_iadd (am_dg dkX8_leastAct (i := 12) rfl) ?_
      obtain rfl := Option.some.inj h
      exact aq_ireturn (am_dg dkX8_leastAct (i := 13) rfl) rfl (Or.inl rfl) rfl
    · rw [if_neg hc4] at h
      refine aq_ifT (t := 22) (am_dg dkX8_leastAct (i := 9) rfl) rfl (decide_eq_true hc4) ?_
      refine aq_iinc (v := (1 : Int32)) (L1 := [.ref 8, .int (x1 + (1 : Int32))]) (am_dg dkX8_leastAct (i := 14) rfl) rfl (by decide) rfl ?_
      refine aq_goto (t := 2) (am_dg dkX8_leastAct (i := 15) rfl) rfl ?_
      exact ih _ _ _ h
set_option maxRecDepth 20000 in
theorem T_X8_leastAct_8 {sc : Option (Nat × (Nat → Int32))} {RF : Nat → Nat → Option Nat} {d : Nat} (hR : am_RFok RF) (hd : 1 ≤ d) {s : am_S} {r : Int32 × am_S} (h : F_X8_leastAct_8 s = some r) : am_Q sc d mX8_leastAct (0, am_L0 mX8_leastAct [.ref 8], [], am_hp RF s) (.int r.1, am_hp RF r.2) := by
  obtain ⟨e, rfl⟩ : ∃ e, d = e + 1 := ⟨d - 1, by omega⟩
  unfold F_X8_leastAct_8 at h
  show am_Q _ _ _ (0, [.ref 8, .null], [], _) _
  refine aq_iconst (v := (0 : Int32)) (am_dg dkX8_leastAct (i := 0) rfl) (by decide) ?_
  refine aq_istore_n (L1 := [.ref 8, .int (0 : Int32)]) (am_dg dkX8_leastAct (i := 1) rfl) rfl ?_
  exact T_X8_leastAct_8_b2 hR (by omega) _ _ _ _ h
set_option maxRecDepth 20000 in
theorem T_X8_drifted_8 {sc : Option (Nat × (Nat → Int32))} {RF : Nat → Nat → Option Nat} {d : Nat} (hR : am_RFok RF) (hd : 2 ≤ d) {a1 : Int32} {a2 : Int32} {a3 : Int32} {s : am_S} {r : Int32 × am_S} (h : F_X8_drifted_8 a1 a2 a3 s = some r) : am_Q sc d mX8_drifted (0, am_L0 mX8_drifted [.ref 8, .int a1, .int a2, .int a3], [], am_hp RF s) (.int r.1, am_hp RF r.2) := by
  obtain ⟨e, rfl⟩ : ∃ e, d = e + 1 := ⟨d - 1, by omega⟩
  unfold F_X8_drifted_8 at h
  show am_Q _ _ _ (0, [.ref 8, .int a1, .int a2, .int a3], [], _) _
  refine aq_iload_n (am_dg dkX8_drifted (i := 0) rfl) rfl ?_
  obtain ⟨q1, hq2, h⟩ := am_bnd h
  refine aq_static (a := [.int a3]) (S1 := []) (v1 := .int q1.1) (S2 := [.int q1.1]) (am_dg dkX8_drifted (i := 1) rfl) ct_8_109 rfl rfl rfl (Nat.le_of_ble_eq_true rfl) (Nat.le_of_ble_eq_true rfl) (T_X11_isTideTurn hR (by omega) hq2) rfl ?_
  by_cases hc3 : q1.1 = (0 : Int32)
  · rw [if_pos hc3] at h
    refine aq_ifF (t := 9) (am_dg dkX8_drifted (i := 2) rfl) rfl (decide_eq_false (not_not_intro hc3)) ?_
    refine aq_iload_n (am_dg dkX8_drifted (i := 3) rfl) rfl ?_
    obtain rfl := Option.some.inj h
    exact aq_ireturn (am_dg dkX8_drifted (i := 4) rfl) rfl (Or.inl rfl) rfl
  · rw [if_neg hc3] at h
    refine aq_ifT (t := 9) (am_dg dkX8_drifted (i := 2) rfl) rfl (decide_eq_true hc3) ?_
    refine aq_aload_n (am_dg dkX8_drifted (i := 5) rfl) rfl ?_
    refine aq_getR (am_dg dkX8_drifted (i := 6) rfl) gk_8_9_8 (rf_8_8 hR) ?_
    refine aq_iload_n (am_dg dkX8_drifted (i := 7) rfl) rfl ?_
    obtain ⟨hg4, h⟩ := am_guard h
    refine aq_iald (am_dg dkX8_drifted (i := 8) rfl) sh_9 hg4 ?_
    by_cases hc5 : (q1.2.1 9 a3.toNatClampNeg) = (1 : Int32)
    · rw [if_pos hc5] at h
      refine aq_lsw (t := 40) (am_dg dkX8_drifted (i := 9) rfl) (by rw [hc5]; rfl) ?_
      refine aq_bipush (v := (15 : Int32)) (am_dg dkX8_drifted (i := 10) rfl) (by decide) ?_
      refine aq_iload_n (am_dg dkX8_drifted (i := 11) rfl) rfl ?_
      refine aq_iload_n (am_dg dkX8_drifted (i := 12) rfl) rfl ?_
      refine aq_iadd (am_dg dkX8_drifted (i := 13) rfl) ?_
      refine aq_min (am_dg dkX8_drifted (i := 14) rfl) mk_8_112 (Nat.le_of_ble_eq_true rfl) ?_
      obtain rfl := Option.some.inj h
      exact aq_ireturn (am_dg dkX8_drifted (i := 15) rfl) rfl (Or.inl rfl) rfl
    rw [if_neg hc5] at h
    by_cases hc6 : (q1.2.1 9 a3.toNatClampNeg) = (2 : Int32)
    · rw [if_pos hc6] at h
      refine aq_lsw (t := 49) (am_dg dkX8_drifted (i := 9) rfl) (by rw [hc6]; rfl) ?_
      refine aq_iconst (v := (0 : Int32)) (am_dg dkX8_drifted (i := 16) rfl) (by decide) ?_
      refine aq_iload_n (am_dg dkX8_drifted (i := 17) rfl) rfl ?_
      refine aq_iload_n (am_dg dkX8_drifted (i := 18) rfl) rfl ?_
      refine aq_isub (am_dg dkX8_drifted (i := 19) rfl) ?_
      refine aq_max (am_dg dkX8_drifted (i := 20) rfl) mk_8_117 (Nat.le_of_ble_eq_true rfl) ?_
      obtain rfl := Option.some.inj h
      exact aq_ireturn (am_dg dkX8_drifted (i := 21) rfl) rfl (Or.inl rfl) rfl
    rw [if_neg hc6] at h
    refine aq_lsw (t := 57) (am_dg dkX8_drifted (i := 9) rfl) (am_lsw_d rfl (by simp only [lv_osw hc5 (show ((1 : Int32)).toInt = 1 by decide), lv_osw hc6 (show ((2 : Int32)).toInt = 2 by decide)]; rfl)) ?_
    refine aq_iload_n (am_dg dkX8_drifted (i := 22) rfl) rfl ?_
    obtain rfl := Option.some.inj h
    exact aq_ireturn (am_dg dkX8_drifted (i := 23) rfl) rfl (Or.inl rfl) rfl
set_option maxRecDepth 20000 in
theorem T_X8_drift_8_b56 {sc : Option (Nat × (Nat → Int32))} {RF : Nat → Nat → Option Nat} {d : Nat} (hR : am_RFok RF) (hd : 3 ≤ d) {k2 : Int32 → am_S → Option (am_S)} (hk2 : ∀ (x1 : Int32) (s2 : am_S) (r2 : am_S), k2 x1 s2 = some r2 → am_Q sc d mX8_drift (2, [.ref 8, .int x1], [], am_hp RF s2) (.null, am_hp RF r2)) : ∀ (x1 : Int32) (s : am_S) (r : am_S), F_X8_drift_8_b56 k2 x1 s = some r → am_Q sc d mX8_drift (56, [.ref 8, .int x1], [], am_hp RF s) (.null, am_hp RF r) := by
  obtain ⟨e, rfl⟩ : ∃ e, d = e + 1 := ⟨d - 1, by omega⟩
  intro x1 s r h
  unfold F_X8_drift_8_b56 at h
  refine aq_iinc (v := (1 : Int32)) (L1 := [.ref 8, .int (x1 + (1 : Int32))]) (am_dg dkX8_drift (i := 32) rfl) rfl (by decide) rfl ?_
  refine aq_goto (t := 2) (am_dg dkX8_drift (i := 33) rfl) rfl ?_
  exact hk2 _ _ _ h
set_option maxRecDepth 20000 in
theorem T_X8_drift_8_b2 {sc : Option (Nat × (Nat → Int32))} {RF : Nat → Nat → Option Nat} {d : Nat} (hR : am_RFok RF) (hd : 3 ≤ d) : ∀ (n : Nat) (x1 : Int32) (s : am_S) (r : am_S), F_X8_drift_8_b2 n x1 s = some r → am_Q sc d mX8_drift (2, [.ref 8, .int x1], [], am_hp RF s) (.null, am_hp RF r) := by
  obtain ⟨e, rfl⟩ : ∃ e, d = e + 1 := ⟨d - 1, by omega⟩
  intro n
  induction n with
  | zero => intro x1 s r h; rw [F_X8_drift_8_b2] at h; cases h
  | succ n ih =>
  intro x1 s r h
  rw [F_X8_drift_8_b2] at h
  refine aq_iload_n (am_dg dkX8_drift (i := 2) rfl) rfl ?_
  refine aq_aload_n (am_dg dkX8_drift (i := 3) rfl) rfl ?_
  refine aq_getI (am_dg dkX8_drift (i := 4) rfl) gk_8_72_8 (by decide) ?_
  by_cases hc1 : (s.1 8 5) ≤ x1
  · rw [if_pos hc1] at h
    refine aq_icT (t := 62) (am_dg dkX8_drift (i := 5) rfl) rfl (decide_eq_true hc1) ?_
    obtain rfl := Option.some.inj h
    exact aq_return (am_dg dkX8_drift (i := 34) rfl) rfl
  · rw [if_neg hc1] at h
    refine aq_icF (t := 62) (am_dg dkX8_drift (i := 5) rfl) rfl (decide_eq_false hc1) ?_
    refine aq_aload_n (am_dg dkX8_drift (i := 6) rfl) rfl ?_
    refine aq_iload_n (am_dg dkX8_drift (i := 7) rfl) rfl ?_
    obtain ⟨q2, hq3, h⟩ := am_bnd h
    refine aq_virt (a := [.ref 8, .int x1]) (S1 := []) (v1 := .int q2.1) (S2 := [.int q2.1]) (am_dg dkX8_drift (i := 8) rfl) cv_8_120_8 (am_cls_c sh_8 (by decide)) rfl rfl rfl (Nat.le_of_ble_eq_true rfl) (Nat.le_of_ble_eq_true rfl) (T_X8_isCaught_8 hR (by omega) hq3) rfl ?_
    by_cases hc4 : q2.1 = (0 : Int32)
    · rw [if_pos hc4] at h
      refine aq_ifF (t := 56) (am_dg dkX8_drift (i := 9) rfl) rfl (decide_eq_false (not_not_intro hc4)) ?_
      refine aq_aload_n (am_dg dkX8_drift (i := 10) rfl) rfl ?_
      refine aq_getR (am_dg dkX8_drift (i := 11) rfl) gk_8_24_8 (rf_8_12 hR) ?_
      refine aq_iload_n (am_dg dkX8_drift (i := 12) rfl) rfl ?_
      refine aq_aload_n (am_dg dkX8_drift (i := 13) rfl) rfl ?_
      refine aq_aload_n (am_dg dkX8_drift (i := 14) rfl) rfl ?_
      refine aq_getR (am_dg dkX8_drift (i := 15) rfl) gk_8_24_8 (rf_8_12 hR) ?_
      refine aq_iload_n (am_dg dkX8_drift (i := 16) rfl) rfl ?_
      obtain ⟨hg5, h⟩ := am_guard h
      refine aq_iald (am_dg dkX8_drift (i := 17) rfl) sh_13 hg5 ?_
      refine aq_aload_n (am_dg dkX8_drift (i := 18) rfl) rfl ?_
      refine aq_iload_n (am_dg dkX8_drift (i := 19) rfl) rfl ?_
      obtain ⟨q6, hq7, h⟩ := am_bnd h
      refine aq_virt (a := [.ref 8, .int x1]) (S1 := [.int (q2.2.1 13 x1.toNatClampNeg), .ref 8, .int x1, .ref 13]) (v1 := .ref (2 + q6.1)) (S2 := [.ref (2 + q6.1), .int (q2.2.1 13 x1.toNatClampNeg), .ref 8, .int x1, .ref 13]) (am_dg dkX8_drift (i := 20) rfl) cv_8_91_8 (am_cls_c sh_8 (by decide)) rfl rfl rfl (Nat.le_of_ble_eq_true rfl) (Nat.le_of_ble_eq_true rfl) (T_X8_thing_8 hR (by omega) hq7) rfl ?_
      refine aq_aload_n (am_dg dkX8_drift (i := 21) rfl) rfl ?_
      refine aq_getR (am_dg dkX8_drift (i := 22) rfl) gk_8_21_8 (rf_8_11 hR) ?_
      refine aq_iload_n (am_dg dkX8_drift (i := 23) rfl) rfl ?_
      obtain ⟨hg8, h⟩ := am_guard h
      refine aq_iald (am_dg dkX8_drift (i := 24) rfl) sh_12 hg8 ?_
      refine aq_aload_n (am_dg dkX8_drift (i := 25) rfl) rfl ?_
      refine aq_getI (am_dg dkX8_drift (i := 26) rfl) gk_8_66_8 (by decide) ?_
      by_cases hc9 : q6.1 = 0
      · rw [if_pos hc9] at h
        obtain ⟨q10, hq11, h⟩ := am_bnd h
        refine aq_virt (a := [.ref 2, .int (q6.2.1 12 x1.toNatClampNeg), .int (q6.2.1 8 0)]) (S1 := [.int (q2.2.1 13 x1.toNatClampNeg), .ref 8, .int x1, .ref 13]) (v1 := .int q10.1) (S2 := [.int q10.1, .int (q2.2.1 13 x1.toNatClampNeg), .ref 8, .int x1, .ref 13]) (am_dg dkX8_drift (i := 27) rfl) cv_8_95_10 (by rw [(show 2 + q6.1 = 2 by rw [hc9])]; exact am_cls_c sh_2 (by decide)) rfl (congrArg (fun z => Value.ref z :: _) (show 2 + q6.1 = 2 by rw [hc9])) rfl (Nat.le_of_ble_eq_true rfl) (Nat.le_of_ble_eq_true rfl) (T_X10_drifts_2 hR (by omega) hq11) rfl ?_
        refine aq_aload_n (am_dg dkX8_drift (i := 28) rfl) rfl ?_
        refine aq_getI (am_dg dkX8_drift (i := 29) rfl) gk_8_66_8 (by decide) ?_
        obtain ⟨q12, hq13, h⟩ := am_bnd h
        refine aq_virt (a := [.ref 8, .int (q2.2.1 13 x1.toNatClampNeg), .int q10.1, .int (q10.2.1 8 0)]) (S1 := [.int x1, .ref 13]) (v1 := .int q12.1) (S2 := [.int q12.1, .int x1, .ref 13]) (am_dg dkX8_drift (i := 30) rfl) cv_8_135_8 (am_cls_c sh_8 (by decide)) rfl rfl rfl (Nat.le_of_ble_eq_true rfl) (Nat.le_of_ble_eq_true rfl) (T_X8_drifted_8 hR (by omega) hq13) rfl ?_
        obtain ⟨hg14, h⟩ := am_guard h
        refine aq_iast (am_dg dkX8_drift (i := 31) rfl) sh_13 hg14 ?_
        obtain ⟨s15, hs16, h⟩ := am_bnd h
        rw [Option.some.inj hs16]
        exact T_X8_drift_8_b56 hR (by omega) ih _ _ _ h
      rw [if_neg hc9] at h
      by_cases hc17 : q6.1 = 1
      · rw [if_pos hc17] at h
        obtain ⟨q18, hq19, h⟩ := am_bnd h
        refine aq_virt (a := [.ref 3, .int (q6.2.1 12 x1.toNatClampNeg), .int (q6.2.1 8 0)]) (S1 := [.int (q2.2.1 13 x1.toNatClampNeg), .ref 8, .int x1, .ref 13]) (v1 := .int q18.1) (S2 := [.int q18.1, .int (q2.2.1 13 x1.toNatClampNeg), .ref 8, .int x1, .ref 13]) (am_dg dkX8_drift (i := 27) rfl) cv_8_95_0 (by rw [(show 2 + q6.1 = 3 by rw [hc17])]; exact am_cls_c sh_3 (by decide)) rfl (congrArg (fun z => Value.ref z :: _) (show 2 + q6.1 = 3 by rw [hc17])) rfl (Nat.le_of_ble_eq_true rfl) (Nat.le_of_ble_eq_true rfl) (T_X0_drifts_3 hR (by omega) hq19) rfl ?_
        refine aq_aload_n (am_dg dkX8_drift (i := 28) rfl) rfl ?_
        refine aq_getI (am_dg dkX8_drift (i := 29) rfl) gk_8_66_8 (by decide) ?_
        obtain ⟨q20, hq21, h⟩ := am_bnd h
        refine aq_virt (a := [.ref 8, .int (q2.2.1 13 x1.toNatClampNeg), .int q18.1, .int (q18.2.1 8 0)]) (S1 := [.int x1, .ref 13]) (v1 := .int q20.1) (S2 := [.int q20.1, .int x1, .ref 13]) (am_dg dkX8_drift (i := 30) rfl) cv_8_135_8 (am_cls_c sh_8 (by decide)) rfl rfl rfl (Nat.le_of_ble_eq_true rfl) (Nat.le_of_ble_eq_true rfl) (T_X8_drifted_8 hR (by omega) hq21) rfl ?_
        obtain ⟨hg22, h⟩ := am_guard h
        refine aq_iast (am_dg dkX8_drift (i := 31) rfl) sh_13 hg22 ?_
        obtain ⟨s23, hs24, h⟩ := am_bnd h
        rw [Option.some.inj hs24]
        exact T_X8_drift_8_b56 hR (by omega) ih _ _ _ h
      rw [if_neg hc17] at h
      by_cases hc25 : q6.1 = 2
      · rw [if_pos hc25] at h
        obtain ⟨q26, hq27, h⟩ := am_bnd h
        refine aq_virt (a := [.ref 4, .int (q6.2.1 12 x1.toNatClampNeg), .int (q6.2.1 8 0)]) (S1 := [.int (q2.2.1 13 x1.toNatClampNeg), .ref 8, .int x1, .ref 13]) (v1 := .int q26.1) (S2 := [.int q26.1, .int (q2.2.1 13 x1.toNatClampNeg), .ref 8, .int x1, .ref 13]) (am_dg dkX8_drift (i := 27) rfl) cv_8_95_5 (by rw [(show 2 + q6.1 = 4 by rw [hc25])]; exact am_cls_c sh_4 (by decide)) rfl (congrArg (fun z => Value.ref z :: _) (show 2 + q6.1 = 4 by rw [hc25])) rfl (Nat.le_of_ble_eq_true rfl) (Nat.le_of_ble_eq_true rfl) (T_X5_drifts_4 hR (by omega) hq27) rfl ?_
        refine aq_aload_n (am_dg dkX8_drift (i := 28) rfl) rfl ?_
        refine aq_getI (am_dg dkX8_drift (i := 29) rfl) gk_8_66_8 (by decide) ?_
        obtain ⟨q28, hq29, h⟩ := am_bnd h
        refine aq_virt (a := [.ref 8, .int (q2.2.1 13 x1.toNatClampNeg), .int q26.1, .int (q26.2.1 8 0)]) (S1 := [.int x1, .ref 13]) (v1 := .int q28.1) (S2 := [.int q28.1, .int x1, .ref 13]) (am_dg dkX8_drift (i := 30) rfl) cv_8_135_8 (am_cls_c sh_8 (by decide)) rfl rfl rfl (Nat.le_of_ble_eq_true rfl) (Nat.le_of_ble_eq_true rfl) (T_X8_drifted_8 hR (by omega) hq29) rfl ?_
        obtain ⟨hg30, h⟩ := am_guard h
        refine aq_iast (am_dg dkX8_drift (i := 31) rfl) sh_13 hg30 ?_
        obtain ⟨s31, hs32, h⟩ := am_bnd h
        rw [Option.some.inj hs32]
        exact T_X8_drift_8_b56 hR (by omega) ih _ _ _ h
      rw [if_neg hc25] at h
      by_cases hc33 : q6.1 = 3
      · rw [if_pos hc33] at h
        obtain ⟨q34, hq35, h⟩ := am_bnd h
        refine aq_virt (a := [.ref 5, .int (q6.2.1 12 x1.toNatClampNeg), .int (q6.2.1 8 0)]) (S1 := [.int (q2.2.1 13 x1.toNatClampNeg), .ref 8, .int x1, .ref 13]) (v1 := .int q34.1) (S2 := [.int q34.1, .int (q2.2.1 13 x1.toNatClampNeg), .ref 8, .int x1, .ref 13]) (am_dg dkX8_drift (i := 27) rfl) cv_8_95_4 (by rw [(show 2 + q6.1 = 5 by rw [hc33])]; exact am_cls_c sh_5 (by decide)) rfl (congrArg (fun z => Value.ref z :: _) (show 2 + q6.1 = 5 by rw [hc33])) rfl (Nat.le_of_ble_eq_true rfl) (Nat.le_of_ble_eq_true rfl) (T_X4_drifts_5 hR (by omega) hq35) rfl ?_
        refine aq_aload_n (am_dg dkX8_drift (i := 28) rfl) rfl ?_
        refine aq_getI (am_dg dkX8_drift (i := 29) rfl) gk_8_66_8 (by decide) ?_
        obtain ⟨q36, hq37, h⟩ := am_bnd h
        refine aq_virt (a := [.ref 8, .int (q2.2.1 13 x1.toNatClampNeg), .int q34.1, .int (q34.2.1 8 0)]) (S1 := [.int x1, .ref 13]) (v1 := .int q36.1) (S2 := [.int q36.1, .int x1, .ref 13]) (am_dg dkX8_drift (i := 30) rfl) cv_8_135_8 (am_cls_c sh_8 (by decide)) rfl rfl rfl (Nat.le_of_ble_eq_true rfl) (Nat.le_of_ble_eq_true rfl) (T_X8_drifted_8 hR (by omega) hq37) rfl ?_
        obtain ⟨hg38, h⟩ := am_guard h
        refine aq_iast (am_dg dkX8_drift (i := 31) rfl) sh_13 hg38 ?_
        obtain ⟨s39, hs40, h⟩ := am_bnd h
        rw [Option.some.inj hs40]
        exact T_X8_drift_8_b56 hR (by omega) ih _ _ _ h
      rw [if_neg hc33] at h
      by_cases hc41 : q6.1 = 4
      · rw [if_pos hc41] at h
        obtain ⟨q42, hq43, h⟩ := am_bnd h
        refine aq_virt (a := [.ref 6, .int (q6.2.1 12 x1.toNatClampNeg), .int (q6.2.1 8 0)]) (S1 := [.int (q2.2.1 13 x1.toNatClampNeg), .ref 8, .int x1, .ref 13]) (v1 := .int q42.1) (S2 := [.int q42.1, .int (q2.2.1 13 x1.toNatClampNeg), .ref 8, .int x1, .ref 13]) (am_dg dkX8_drift (i := 27) rfl) cv_8_95_1 (by rw [(show 2 + q6.1 = 6 by rw [hc41])]; exact am_cls_c sh_6 (by decide)) rfl (congrArg (fun z => Value.ref z :: _) (show 2 + q6.1 = 6 by rw [hc41])) rfl (Nat.le_of_ble_eq_true rfl) (Nat.le_of_ble_eq_true rfl) (T_X1_drifts_6 hR (by omega) hq43) rfl ?_
        refine aq_aload_n (am_dg dkX8_drift (i := 28) rfl) rfl ?_
        refine aq_getI (am_dg dkX8_drift (i := 29) rfl) gk_8_66_8 (by decide) ?_
        obtain ⟨q44, hq45, h⟩ := am_bnd h
        refine aq_virt (a := [.ref 8, .int (q2.2.1 13 x1.toNatClampNeg), .int q42.1, .int (q42.2.1 8 0)]) (S1 := [.int x1, .ref 13]) (v1 := .int q44.1) (S2 := [.int q44.1, .int x1, .ref 13]) (am_dg dkX8_drift (i := 30) rfl) cv_8_135_8 (am_cls_c sh_8 (by decide)) rfl rfl rfl (Nat.le_of_ble_eq_true rfl) (Nat.le_of_ble_eq_true rfl) (T_X8_drifted_8 hR (by omega) hq45) rfl ?_
        obtain ⟨hg46, h⟩ := am_guard h
        refine aq_iast (am_dg dkX8_drift (i := 31) rfl) sh_13 hg46 ?_
        obtain ⟨s47, hs48, h⟩ := am_bnd h
        rw [Option.some.inj hs48]
        exact T_X8_drift_8_b56 hR (by omega) ih _ _ _ h
      rw [if_neg hc41] at h
      have hc49 : q6.1 = 5 := by have := (T_X8_thing_8_b hq7); omega
      obtain ⟨q50, hq51, h⟩ := am_bnd h
      refine aq_virt (a := [.ref 7, .int (q6.2.1 12 x1.toNatClampNeg), .int (q6.2.1 8 0)]) (S1 := [.int (q2.2.1 13 x1.toNatClampNeg), .ref 8, .int x1, .ref 13]) (v1 := .int q50.1) (S2 := [.int q50.1, .int (q2.2.1 13 x1.toNatClampNeg), .ref 8, .int x1, .ref 13]) (am_dg dkX8_drift (i := 27) rfl) cv_8_95_2 (by rw [(show 2 + q6.1 = 7 by rw [hc49])]; exact am_cls_c sh_7 (by decide)) rfl (congrArg (fun z => Value.ref z :: _) (show 2 + q6.1 = 7 by rw [hc49])) rfl (Nat.le_of_ble_eq_true rfl) (Nat.le_of_ble_eq_true rfl) (T_X2_drifts_7 hR (by omega) hq51) rfl ?_
      refine aq_aload_n (am_dg dkX8_drift (i := 28) rfl) rfl ?_
      refine aq_getI (am_dg dkX8_drift (i := 29) rfl) gk_8_66_8 (by decide) ?_
      obtain ⟨q52, hq53, h⟩ := am_bnd h
      refine aq_virt (a := [.ref 8, .int (q2.2.1 13 x1.toNatClampNeg), .int q50.1, .int (q50.2.1 8 0)]) (S1 := [.int x1, .ref 13]) (v1 := .int q52.1) (S2 := [.int q52.1, .int x1, .ref 13]) (am_dg dkX8_drift (i := 30) rfl) cv_8_135_8 (am_cls_c sh_8 (by decide)) rfl rfl rfl (Nat.le_of_ble_eq_true rfl) (Nat.le_of_ble_eq_true rfl) (T_X8_drifted_8 hR (by omega) hq53) rfl ?_
      obtain ⟨hg54, h⟩ := am_guard h
      refine aq_iast (am_dg dkX8_drift (i := 31) rfl) sh_13 hg54 ?_
      obtain ⟨s55, hs56, h⟩ := am_bnd h
      rw [Option.some.inj hs56]
      exact T_X8_drift_8_b56 hR (by omega) ih _ _ _ h
    · rw [if_neg hc4] at h
      refine aq_ifT (t := 56) (am_dg dkX8_drift (i := 9) rfl) rfl (decide_eq_true hc4) ?_
      exact T_X8_drift_8_b56 hR (by omega) ih _ _ _ h
set_option maxRecDepth 20000 in
theorem T_X8_drift_8 {sc : Option (Nat × (Nat → Int32))} {RF : Nat → Nat → Option Nat} {d : Nat} (hR : am_RFok RF) (hd : 3 ≤ d) {s : am_S} {r : am_S} (h : F_X8_drift_8 s = some r) : am_Q sc d mX8_drift (0, am_L0 mX8_drift [.ref 8], [], am_hp RF s) (.null, am_hp RF r) := by
  obtain ⟨e, rfl⟩ : ∃ e, d = e + 1 := ⟨d - 1, by omega⟩
  unfold F_X8_drift_8 at h
  show am_Q _ _ _ (0, [.ref 8, .null], [], _) _
  refine aq_iconst (v := (0 : Int32)) (am_dg dkX8_drift (i := 0) rfl) (by decide) ?_
  refine aq_istore_n (L1 := [.ref 8, .int (0 : Int32)]) (am_dg dkX8_drift (i := 1) rfl) rfl ?_
  exact T_X8_drift_8_b2 hR (by omega) _ _ _ _ h
set_option maxRecDepth 20000 in
theorem T_X8_heldByNetAt_8_b68 {sc : Option (Nat × (Nat → Int32))} {RF : Nat → Nat → Option Nat} {d : Nat} (hR : am_RFok RF) (hd : 2 ≤ d) {k4 : Int32 → Int32 → Int32 → am_S → Option (Int32 × am_S)} (hk4 : ∀ (x1 : Int32) (x2 : Int32) (x3 : Int32) (s2 : am_S) (r2 : Int32 × am_S), k4 x1 x2 x3 s2 = some r2 → am_Q sc d mX8_heldByNetAt (4, [.ref 8, .int x1, .int x2, .int x3], [], am_hp RF s2) (.int r2.1, am_hp RF r2.2)) : ∀ (x1 : Int32) (x2 : Int32) (x3 : Int32) (s : am_S) (r : Int32 × am_S), F_X8_heldByNetAt_8_b68 k4 x1 x2 x3 s = some r → am_Q sc d mX8_heldByNetAt (68, [.ref 8, .int x1, .int x2, .int x3], [], am_hp RF s) (.int r.1, am_hp RF r.2) := by
  obtain ⟨e, rfl⟩ : ∃ e, d = e + 1 := ⟨d - 1, by omega⟩
  intro x1 x2 x3 s r h
  unfold F_X8_heldByNetAt_8_b68 at h
  refine aq_iinc (v := (1 : Int32)) (L1 := [.ref 8, .int x1, .int x2, .int (x3 + (1 : Int32))]) (am_dg dkX8_heldByNetAt (i := 42) rfl) rfl (by decide) rfl ?_
  refine aq_goto (t := 4) (am_dg dkX8_heldByNetAt (i := 43) rfl) rfl ?_
  exact hk4 _ _ _ _ _ h
set_option maxRecDepth 20000 in
theorem T_X8_heldByNetAt_8_b66 {sc : Option (Nat × (Nat → Int32))} {RF : Nat → Nat → Option Nat} {d : Nat} (hR : am_RFok RF) (hd : 2 ≤ d) {k4 : Int32 → Int32 → Int32 → am_S → Option (Int32 × am_S)} (hk4 : ∀ (x1 : Int32) (x2 : Int32) (x3 : Int32) (s2 : am_S) (r2 : Int32 × am_S), k4 x1 x2 x3 s2 = some r2 → am_Q sc d mX8_heldByNetAt (4, [.ref 8, .int x1, .int x2, .int x3], [], am_hp RF s2) (.int r2.1, am_hp RF r2.2)) : ∀ (x1 : Int32) (x3 : Int32) (y0 : Int32) (y1 : Int32) (w2 : Value) (s : am_S) (r : Int32 × am_S), F_X8_heldByNetAt_8_b66 k4 x1 x3 y0 y1 s = some r → am_Q sc d mX8_heldByNetAt (66, [.ref 8, .int x1, w2, .int x3], [.int y0, .int y1], am_hp RF s) (.int r.1, am_hp RF r.2) := by
  obtain ⟨e, rfl⟩ : ∃ e, d = e + 1 := ⟨d - 1, by omega⟩
  intro x1 x3 y0 y1 w2 s r h
  unfold F_X8_heldByNetAt_8_b66 at h
  refine aq_ior (am_dg dkX8_heldByNetAt (i := 40) rfl) ?_
  refine aq_istore_n (L1 := [.ref 8, .int x1, .int (y1 ||| y0), .int x3]) (am_dg dkX8_heldByNetAt (i := 41) rfl) rfl ?_
  exact T_X8_heldByNetAt_8_b68 hR (by omega) hk4 _ _ _ _ _ h
