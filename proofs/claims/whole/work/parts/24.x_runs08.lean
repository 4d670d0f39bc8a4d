/-! LAYER 1: the runs (written by wip/whole/gen_f.py) -/
set_option maxRecDepth 20000 in
theorem T_X12_alterRow_82 {sc : Option (Nat × (Nat → Int32))} {RF : Nat → Nat → Option Nat} {d : Nat} (hR : am_RFok RF) (hd : 2 ≤ d) {a1 : Int32} {a2 : Int32} {a3 : Int32} {s : am_S} {r : Int32 × am_S} (h : F_X12_alterRow_82 a1 a2 a3 s = some r) : am_Q sc d mX12_alterRow (0, am_L0 mX12_alterRow [.ref 82, .int a1, .int a2, .int a3], [], am_hp RF s) (.int r.1, am_hp RF r.2) := by
  obtain ⟨e, rfl⟩ : ∃ e, d = e + 1 := ⟨d - 1, by omega⟩
  unfold F_X12_alterRow_82 at h
  show am_Q _ _ _ (0, [.ref 82, .int a1, .int a2, .int a3, .null], [], _) _
  refine aq_aload_n (am_dg dkX12_alterRow (i := 0) rfl) rfl ?_
  refine aq_iload_n (am_dg dkX12_alterRow (i := 1) rfl) rfl ?_
  refine aq_iload_n (am_dg dkX12_alterRow (i := 2) rfl) rfl ?_
  obtain ⟨q1, hq2, h⟩ := am_bnd h
  refine aq_virt (a := [.ref 82, .int a1, .int a2]) (S1 := []) (v1 := .int q1.1) (S2 := [.int q1.1]) (am_dg dkX12_alterRow (i := 3) rfl) cv_12_275_12 (am_cls_c sh_82 (by decide)) rfl rfl rfl (Nat.le_of_ble_eq_true rfl) (Nat.le_of_ble_eq_true rfl) (T_X12_isRow_82 hR (by omega) hq2) rfl ?_
  by_cases hc3 : q1.1 = (0 : Int32)
  · rw [if_pos hc3] at h
    refine aq_ifF (t := 12) (am_dg dkX12_alterRow (i := 4) rfl) rfl (decide_eq_false (not_not_intro hc3)) ?_
    refine aq_bipush (v := (-9 : Int32)) (am_dg dkX12_alterRow (i := 5) rfl) (by decide) ?_
    obtain rfl := Option.some.inj h
    exact aq_ireturn (am_dg dkX12_alterRow (i := 6) rfl) rfl (Or.inl rfl) rfl
  · rw [if_neg hc3] at h
    refine aq_ifT (t := 12) (am_dg dkX12_alterRow (i := 4) rfl) rfl (decide_eq_true hc3) ?_
    refine aq_aload_n (am_dg dkX12_alterRow (i := 7) rfl) rfl ?_
    refine aq_getR (am_dg dkX12_alterRow (i := 8) rfl) gk_12_34_82 (rf_82_19 hR) ?_
    refine aq_iconst (v := (3 : Int32)) (am_dg dkX12_alterRow (i := 9) rfl) (by decide) ?_
    refine aq_iload_n (am_dg dkX12_alterRow (i := 10) rfl) rfl ?_
    refine aq_imul (am_dg dkX12_alterRow (i := 11) rfl) ?_
    refine aq_iload_n (am_dg dkX12_alterRow (i := 12) rfl) rfl ?_
    refine aq_iadd (am_dg dkX12_alterRow (i := 13) rfl) ?_
    obtain ⟨hg4, h⟩ := am_guard h
    refine aq_iald (am_dg dkX12_alterRow (i := 14) rfl) sh_91 hg4 ?_
    obtain ⟨v5, hv6, h⟩ := am_bnd h
    rw [Option.some.inj hv6]
    refine aq_istore (L1 := [.ref 82, .int a1, .int a2, .int a3, .int v5]) (am_dg dkX12_alterRow (i := 15) rfl) rfl ?_
    refine aq_aload_n (am_dg dkX12_alterRow (i := 16) rfl) rfl ?_
    refine aq_getR (am_dg dkX12_alterRow (i := 17) rfl) gk_12_34_82 (rf_82_19 hR) ?_
    refine aq_iconst (v := (3 : Int32)) (am_dg dkX12_alterRow (i := 18) rfl) (by decide) ?_
    refine aq_iload_n (am_dg dkX12_alterRow (i := 19) rfl) rfl ?_
    refine aq_imul (am_dg dkX12_alterRow (i := 20) rfl) ?_
    refine aq_iload_n (am_dg dkX12_alterRow (i := 21) rfl) rfl ?_
    refine aq_iadd (am_dg dkX12_alterRow (i := 22) rfl) ?_
    refine aq_iload_n (am_dg dkX12_alterRow (i := 23) rfl) rfl ?_
    obtain ⟨hg7, h⟩ := am_guard h
    refine aq_iast (am_dg dkX12_alterRow (i := 24) rfl) sh_91 hg7 ?_
    obtain ⟨s8, hs9, h⟩ := am_bnd h
    rw [Option.some.inj hs9]
    refine aq_iload (am_dg dkX12_alterRow (i := 25) rfl) rfl ?_
    obtain rfl := Option.some.inj h
    exact aq_ireturn (am_dg dkX12_alterRow (i := 26) rfl) rfl (Or.inl rfl) rfl
set_option maxRecDepth 20000 in
theorem T_X8_isAct_8 {sc : Option (Nat × (Nat → Int32))} {RF : Nat → Nat → Option Nat} {d : Nat} (hR : am_RFok RF) (hd : 0 ≤ d) {a1 : Int32} {s : am_S} {r : Int32 × am_S} (h : F_X8_isAct_8 a1 s = some r) : am_Q sc d mX8_isAct (0, am_L0 mX8_isAct [.ref 8, .int a1], [], am_hp RF s) (.int r.1, am_hp RF r.2) := by
  unfold F_X8_isAct_8 at h
  show am_Q _ _ _ (0, [.ref 8, .int a1], [], _) _
  refine aq_iload_n (am_dg dkX8_isAct (i := 0) rfl) rfl ?_
  by_cases hc1 : a1 < (0 : Int32)
  · rw [if_pos hc1] at h
    refine aq_ifT (t := 16) (am_dg dkX8_isAct (i := 1) rfl) rfl (decide_eq_true hc1) ?_
    refine aq_iconst (v := (0 : Int32)) (am_dg dkX8_isAct (i := 8) rfl) (by decide) ?_
    obtain rfl := Option.some.inj h
    exact aq_ireturn (am_dg dkX8_isAct (i := 9) rfl) rfl (Or.inr (Or.inl rfl)) rfl
  · rw [if_neg hc1] at h
    refine aq_ifF (t := 16) (am_dg dkX8_isAct (i := 1) rfl) rfl (decide_eq_false hc1) ?_
    refine aq_iload_n (am_dg dkX8_isAct (i := 2) rfl) rfl ?_
    refine aq_aload_n (am_dg dkX8_isAct (i := 3) rfl) rfl ?_
    refine aq_getI (am_dg dkX8_isAct (i := 4) rfl) gk_8_72_8 (by decide) ?_
    by_cases hc2 : (s.1 8 5) < a1
    · rw [if_pos hc2] at h
      refine aq_icT (t := 16) (am_dg dkX8_isAct (i := 5) rfl) rfl (decide_eq_true hc2) ?_
      refine aq_iconst (v := (0 : Int32)) (am_dg dkX8_isAct (i := 8) rfl) (by decide) ?_
      obtain rfl := Option.some.inj h
      exact aq_ireturn (am_dg dkX8_isAct (i := 9) rfl) rfl (Or.inr (Or.inl rfl)) rfl
    · rw [if_neg hc2] at h
      refine aq_icF (t := 16) (am_dg dkX8_isAct (i := 5) rfl) rfl (decide_eq_false hc2) ?_
      refine aq_iconst (v := (1 : Int32)) (am_dg dkX8_isAct (i := 6) rfl) (by decide) ?_
      refine aq_goto (t := 17) (am_dg dkX8_isAct (i := 7) rfl) rfl ?_
      obtain rfl := Option.some.inj h
      exact aq_ireturn (am_dg dkX8_isAct (i := 9) rfl) rfl (Or.inr (Or.inl rfl)) rfl
set_option maxRecDepth 20000 in
theorem T_X3_isRight_50_f65 {sc : Option (Nat × (Nat → Int32))} {RF : Nat → Nat → Option Nat} {d : Nat} (hR : am_RFok RF) (hd : 5 ≤ d) {j1 : Nat} (hj1 : j1 < 4) {s : am_S} {r : Int32 × am_S} (h : F_X3_isRight_50_f65 j1 s = some r) : am_Q sc d mX3_isRight (0, am_L0 mX3_isRight [.ref 50, .ref (66 + j1)], [], am_hp RF s) (.int r.1, am_hp RF r.2) := by
  obtain ⟨e, rfl⟩ : ∃ e, d = e + 1 := ⟨d - 1, by omega⟩
  unfold F_X3_isRight_50_f65 at h
  show am_Q _ _ _ (0, [.ref 50, .ref (66 + j1)], [], _) _
  refine aq_aload_n (am_dg dkX3_isRight (i := 0) rfl) rfl ?_
  refine aq_alen (v := (3 : Int32)) (am_dg dkX3_isRight (i := 1) rfl) (fs_65 _ hj1) (by decide) (by decide) ?_
  refine aq_iconst (v := (3 : Int32)) (am_dg dkX3_isRight (i := 2) rfl) (by decide) ?_
  by_cases hc1 : (3 : Int32) < (3 : Int32)
  · rw [if_pos hc1] at h
    refine aq_icT (t := 29) (am_dg dkX3_isRight (i := 3) rfl) rfl (decide_eq_true hc1) ?_
    refine aq_iconst (v := (0 : Int32)) (am_dg dkX3_isRight (i := 15) rfl) (by decide) ?_
    obtain rfl := Option.some.inj h
    exact aq_ireturn (am_dg dkX3_isRight (i := 16) rfl) rfl (Or.inr (Or.inl rfl)) rfl
  · rw [if_neg hc1] at h
    refine aq_icF (t := 29) (am_dg dkX3_isRight (i := 3) rfl) rfl (decide_eq_false hc1) ?_
    refine aq_aload_n (am_dg dkX3_isRight (i := 4) rfl) rfl ?_
    refine aq_getR (am_dg dkX3_isRight (i := 5) rfl) gk_3_37_50 (rf_50_0 hR) ?_
    obtain ⟨q2, hq3, h⟩ := am_bnd h
    refine aq_virt (a := [.ref 8]) (S1 := []) (v1 := .int q2.1) (S2 := [.int q2.1]) (am_dg dkX3_isRight (i := 6) rfl) cv_3_51_8 (am_cls_c sh_8 (by decide)) rfl rfl rfl (Nat.le_of_ble_eq_true rfl) (Nat.le_of_ble_eq_true rfl) (T_X8_isOver_8 hR (by omega) hq3) rfl ?_
    by_cases hc4 : q2.1 = (0 : Int32)
    · rw [if_pos hc4] at h
      refine aq_ifF (t := 29) (am_dg dkX3_isRight (i := 7) rfl) rfl (decide_eq_false (not_not_intro hc4)) ?_
      refine aq_aload_n (am_dg dkX3_isRight (i := 8) rfl) rfl ?_
      refine aq_getR (am_dg dkX3_isRight (i := 9) rfl) gk_3_37_50 (rf_50_0 hR) ?_
      refine aq_aload_n (am_dg dkX3_isRight (i := 10) rfl) rfl ?_
      refine aq_iconst (v := (0 : Int32)) (am_dg dkX3_isRight (i := 11) rfl) (by decide) ?_
      obtain ⟨hg5, h⟩ := am_guard h
      refine aq_iald (am_dg dkX3_isRight (i := 12) rfl) (fs_65 _ hj1) hg5 ?_
      obtain ⟨q6, hq7, h⟩ := am_bnd h
      refine aq_virt (a := [.ref 8, .int (q2.2.1 (66 + j1) (0 : Int32).toNatClampNeg)]) (S1 := []) (v1 := .int q6.1) (S2 := [.int q6.1]) (am_dg dkX3_isRight (i := 13) rfl) cv_3_237_8 (am_cls_c sh_8 (by decide)) rfl rfl rfl (Nat.le_of_ble_eq_true rfl) (Nat.le_of_ble_eq_true rfl) (T_X8_isAct_8 hR (by omega) hq7) rfl ?_
      by_cases hc8 : q6.1 = (0 : Int32)
      · rw [if_pos hc8] at h
        refine aq_ifF (t := 31) (am_dg dkX3_isRight (i := 14) rfl) rfl (decide_eq_false (not_not_intro hc8)) ?_
        refine aq_iconst (v := (0 : Int32)) (am_dg dkX3_isRight (i := 15) rfl) (by decide) ?_
        obtain rfl := Option.some.inj h
        exact aq_ireturn (am_dg dkX3_isRight (i := 16) rfl) rfl (Or.inr (Or.inl rfl)) rfl
      · rw [if_neg hc8] at h
        refine aq_ifT (t := 31) (am_dg dkX3_isRight (i := 14) rfl) rfl (decide_eq_true hc8) ?_
        refine aq_aload_n (am_dg dkX3_isRight (i := 17) rfl) rfl ?_
        refine aq_getR (am_dg dkX3_isRight (i := 18) rfl) gk_3_37_50 (rf_50_0 hR) ?_
        refine aq_aload_n (am_dg dkX3_isRight (i := 19) rfl) rfl ?_
        refine aq_iconst (v := (0 : Int32)) (am_dg dkX3_isRight (i := 20) rfl) (by decide) ?_
        obtain ⟨hg9, h⟩ := am_guard h
        refine aq_iald (am_dg dkX3_isRight (i := 21) rfl) (fs_65 _ hj1) hg9 ?_
        obtain ⟨q10, hq11, h⟩ := am_bnd h
        refine aq_virt (a := [.ref 8, .int (q6.2.1 (66 + j1) (0 : Int32).toNatClampNeg)]) (S1 := []) (v1 := .int q10.1) (S2 := [.int q10.1]) (am_dg dkX3_isRight (i := 22) rfl) cv_3_59_8 (am_cls_c sh_8 (by decide)) rfl rfl rfl (Nat.le_of_ble_eq_true rfl) (Nat.le_of_ble_eq_true rfl) (T_X8_goBy_8 hR (by omega) hq11) rfl ?_
        refine aq_aload_n (am_dg dkX3_isRight (i := 23) rfl) rfl ?_
        refine aq_iconst (v := (1 : Int32)) (am_dg dkX3_isRight (i := 24) rfl) (by decide) ?_
        obtain ⟨hg12, h⟩ := am_guard h
        refine aq_iald (am_dg dkX3_isRight (i := 25) rfl) (fs_65 _ hj1) hg12 ?_
        by_cases hc13 : q10.1 = (q10.2.1 (66 + j1) (1 : Int32).toNatClampNeg)
        · rw [if_pos hc13] at h
          refine aq_icF (t := 64) (am_dg dkX3_isRight (i := 26) rfl) rfl (decide_eq_false (not_not_intro hc13)) ?_
          refine aq_aload_n (am_dg dkX3_isRight (i := 27) rfl) rfl ?_
          refine aq_getR (am_dg dkX3_isRight (i := 28) rfl) gk_3_37_50 (rf_50_0 hR) ?_
          refine aq_getI (am_dg dkX3_isRight (i := 29) rfl) gk_3_164_8 (by decide) ?_
          refine aq_aload_n (am_dg dkX3_isRight (i := 30) rfl) rfl ?_
          refine aq_iconst (v := (2 : Int32)) (am_dg dkX3_isRight (i := 31) rfl) (by decide) ?_
          obtain ⟨hg14, h⟩ := am_guard h
          refine aq_iald (am_dg dkX3_isRight (i := 32) rfl) (fs_65 _ hj1) hg14 ?_
          by_cases hc15 : (q10.2.1 8 6) = (q10.2.1 (66 + j1) (2 : Int32).toNatClampNeg)
          · rw [if_pos hc15] at h
            refine aq_icF (t := 64) (am_dg dkX3_isRight (i := 33) rfl) rfl (decide_eq_false (not_not_intro hc15)) ?_
            refine aq_iconst (v := (1 : Int32)) (am_dg dkX3_isRight (i := 34) rfl) (by decide) ?_
            refine aq_goto (t := 65) (am_dg dkX3_isRight (i := 35) rfl) rfl ?_
            obtain rfl := Option.some.inj h
            exact aq_ireturn (am_dg dkX3_isRight (i := 37) rfl) rfl (Or.inr (Or.inl rfl)) rfl
          · rw [if_neg hc15] at h
            refine aq_icT (t := 64) (am_dg dkX3_isRight (i := 33) rfl) rfl (decide_eq_true hc15) ?_
            refine aq_iconst (v := (0 : Int32)) (am_dg dkX3_isRight (i := 36) rfl) (by decide) ?_
            obtain rfl := Option.some.inj h
            exact aq_ireturn (am_dg dkX3_isRight (i := 37) rfl) rfl (Or.inr (Or.inl rfl)) rfl
        · rw [if_neg hc13] at h
          refine aq_icT (t := 64) (am_dg dkX3_isRight (i := 26) rfl) rfl (decide_eq_true hc13) ?_
          refine aq_iconst (v := (0 : Int32)) (am_dg dkX3_isRight (i := 36) rfl) (by decide) ?_
          obtain rfl := Option.some.inj h
          exact aq_ireturn (am_dg dkX3_isRight (i := 37) rfl) rfl (Or.inr (Or.inl rfl)) rfl
    · rw [if_neg hc4] at h
      refine aq_ifT (t := 29) (am_dg dkX3_isRight (i := 7) rfl) rfl (decide_eq_true hc4) ?_
      refine aq_iconst (v := (0 : Int32)) (am_dg dkX3_isRight (i := 15) rfl) (by decide) ?_
      obtain rfl := Option.some.inj h
      exact aq_ireturn (am_dg dkX3_isRight (i := 16) rfl) rfl (Or.inr (Or.inl rfl)) rfl
set_option maxRecDepth 20000 in
theorem T_X3_firstWrongRow_50_b37 {sc : Option (Nat × (Nat → Int32))} {RF : Nat → Nat → Option Nat} {d : Nat} (hR : am_RFok RF) (hd : 6 ≤ d) {k8 : Int32 → Int32 → am_S → Option (Int32 × am_S)} (hk8 : ∀ (x1 : Int32) (x2 : Int32) (s2 : am_S) (r2 : Int32 × am_S), k8 x1 x2 s2 = some r2 → am_Q sc d mX3_firstWrongRow (8, [.ref 50, .int x1, .int x2], [], am_hp RF s2) (.int r2.1, am_hp RF r2.2)) : ∀ (x1 : Int32) (x2 : Int32) (s : am_S) (r : Int32 × am_S), F_X3_firstWrongRow_50_b37 k8 x1 x2 s = some r → am_Q sc d mX3_firstWrongRow (37, [.ref 50, .int x1, .int x2], [], am_hp RF s) (.int r.1, am_hp RF r.2) := by
  obtain ⟨e, rfl⟩ : ∃ e, d = e + 1 := ⟨d - 1, by omega⟩
  intro x1 x2 s r h
  unfold F_X3_firstWrongRow_50_b37 at h
  refine aq_iinc (v := (1 : Int32)) (L1 := [.ref 50, .int x1, .int (x2 + (1 : Int32))]) (am_dg dkX3_firstWrongRow (i := 23) rfl) rfl (by decide) rfl ?_
  refine aq_goto (t := 8) (am_dg dkX3_firstWrongRow (i := 24) rfl) rfl ?_
  exact hk8 _ _ _ _ h
set_option maxRecDepth 20000 in
theorem T_X3_firstWrongRow_50_b43 {sc : Option (Nat × (Nat → Int32))} {RF : Nat → Nat → Option Nat} {d : Nat} (hR : am_RFok RF) (hd : 6 ≤ d) : ∀ (x1 : Int32) (w2 : Value) (s : am_S) (r : Int32 × am_S), F_X3_firstWrongRow_50_b43 x1 s = some r → am_Q sc d mX3_firstWrongRow (43, [.ref 50, .int x1, w2], [], am_hp RF s) (.int r.1, am_hp RF r.2) := by
  obtain ⟨e, rfl⟩ : ∃ e, d = e + 1 := ⟨d - 1, by omega⟩
  intro x1 w2 s r h
  unfold F_X3_firstWrongRow_50_b43 at h
  refine aq_aload_n (am_dg dkX3_firstWrongRow (i := 25) rfl) rfl ?_
  obtain ⟨q1, hq2, h⟩ := am_bnd h
  refine aq_virt (a := [.ref 50]) (S1 := []) (v1 := .null) (S2 := []) (am_dg dkX3_firstWrongRow (i := 26) rfl) cv_3_63_3 (am_cls_c sh_50 (by decide)) rfl rfl rfl (Nat.le_of_ble_eq_true rfl) (Nat.le_of_ble_eq_true rfl) (T_X3_goBack_50 hR (by omega) hq2) rfl ?_
  refine aq_iload_n (am_dg dkX3_firstWrongRow (i := 27) rfl) rfl ?_
  obtain rfl := Option.some.inj h
  exact aq_ireturn (am_dg dkX3_firstWrongRow (i := 28) rfl) rfl (Or.inl rfl) rfl
set_option maxRecDepth 20000 in
theorem T_X3_firstWrongRow_50_b8 {sc : Option (Nat × (Nat → Int32))} {RF : Nat → Nat → Option Nat} {d : Nat} (hR : am_RFok RF) (hd : 6 ≤ d) : ∀ (n : Nat) (x1 : Int32) (x2 : Int32) (s : am_S) (r : Int32 × am_S), F_X3_firstWrongRow_50_b8 n x1 x2 s = some r → am_Q sc d mX3_firstWrongRow (8, [.ref 50, .int x1, .int x2], [], am_hp RF s) (.int r.1, am_hp RF r.2) := by
  obtain ⟨e, rfl⟩ : ∃ e, d = e + 1 := ⟨d - 1, by omega⟩
  intro n
  induction n with
  | zero => intro x1 x2 s r h; rw [F_X3_firstWrongRow_50_b8] at h; cases h
  | succ n ih =>
  intro x1 x2 s r h
  rw [F_X3_firstWrongRow_50_b8] at h
  refine aq_iload_n (am_dg dkX3_firstWrongRow (i := 6) rfl) rfl ?_
  refine aq_aload_n (am_dg dkX3_firstWrongRow (i := 7) rfl) rfl ?_
  refine aq_getI (am_dg dkX3_firstWrongRow (i := 8) rfl) gk_3_230_50 (by decide) ?_
  by_cases hc1 : (s.1 50 14) ≤ x2
  · rw [if_pos hc1] at h
    refine aq_icT (t := 43) (am_dg dkX3_firstWrongRow (i := 9) rfl) rfl (decide_eq_true hc1) ?_
    exact T_X3_firstWrongRow_50_b43 hR (by omega) _ _ _ _ h
  · rw [if_neg hc1] at h
    refine aq_icF (t := 43) (am_dg dkX3_firstWrongRow (i := 9) rfl) rfl (decide_eq_false hc1) ?_
    refine aq_iload_n (am_dg dkX3_firstWrongRow (i := 10) rfl) rfl ?_
    by_cases hc2 : x1 = (0 : Int32)
    · rw [if_pos hc2] at h
      refine aq_ifF (t := 43) (am_dg dkX3_firstWrongRow (i := 11) rfl) rfl (decide_eq_false (not_not_intro hc2)) ?_
      refine aq_aload_n (am_dg dkX3_firstWrongRow (i := 12) rfl) rfl ?_
      refine aq_aload_n (am_dg dkX3_firstWrongRow (i := 13) rfl) rfl ?_
      refine aq_getR (am_dg dkX3_firstWrongRow (i := 14) rfl) gk_3_34_50 (rf_50_15 hR) ?_
      refine aq_iload_n (am_dg dkX3_firstWrongRow (i := 15) rfl) rfl ?_
      obtain ⟨hg3, h⟩ := am_guard h
      refine aq_aald (am_dg dkX3_firstWrongRow (i := 16) rfl) sh_65 (by decide) hg3 (fm_65 hR _ (am_in_lt hg3)) ?_
      obtain ⟨q4, hq5, h⟩ := am_bnd h
      refine aq_virt (a := [.ref 50, .ref (66 + x2.toNatClampNeg)]) (S1 := []) (v1 := .int q4.1) (S2 := [.int q4.1]) (am_dg dkX3_firstWrongRow (i := 17) rfl) cv_3_233_3 (am_cls_c sh_50 (by decide)) rfl rfl rfl (Nat.le_of_ble_eq_true rfl) (Nat.le_of_ble_eq_true rfl) (T_X3_isRight_50_f65 hR (by omega) (am_in_lt hg3) hq5) rfl ?_
      by_cases hc6 : q4.1 = (0 : Int32)
      · rw [if_pos hc6] at h
        refine aq_ifF (t := 37) (am_dg dkX3_firstWrongRow (i := 18) rfl) rfl (decide_eq_false (not_not_intro hc6)) ?_
        refine aq_iload_n (am_dg dkX3_firstWrongRow (i := 19) rfl) rfl ?_
        refine aq_iconst (v := (1 : Int32)) (am_dg dkX3_firstWrongRow (i := 20) rfl) (by decide) ?_
        refine aq_iadd (am_dg dkX3_firstWrongRow (i := 21) rfl) ?_
        refine aq_istore_n (L1 := [.ref 50, .int (x2 + (1 : Int32)), .int x2]) (am_dg dkX3_firstWrongRow (i := 22) rfl) rfl ?_
        exact T_X3_firstWrongRow_50_b37 hR (by omega) ih _ _ _ _ h
      · rw [if_neg hc6] at h
        refine aq_ifT (t := 37) (am_dg dkX3_firstWrongRow (i := 18) rfl) rfl (decide_eq_true hc6) ?_
        exact T_X3_firstWrongRow_50_b37 hR (by omega) ih _ _ _ _ h
    · rw [if_neg hc2] at h
      refine aq_ifT (t := 43) (am_dg dkX3_firstWrongRow (i := 11) rfl) rfl (decide_eq_true hc2) ?_
      exact T_X3_firstWrongRow_50_b43 hR (by omega) _ _ _ _ h
set_option maxRecDepth 20000 in
theorem T_X3_firstWrongRow_50 {sc : Option (Nat × (Nat → Int32))} {RF : Nat → Nat → Option Nat} {d : Nat} (hR : am_RFok RF) (hd : 6 ≤ d) {s : am_S} {r : Int32 × am_S} (h : F_X3_firstWrongRow_50 s = some r) : am_Q sc d mX3_firstWrongRow (0, am_L0 mX3_firstWrongRow [.ref 50], [], am_hp RF s) (.int r.1, am_hp RF r.2) := by
  obtain ⟨e, rfl⟩ : ∃ e, d = e + 1 := ⟨d - 1, by omega⟩
  unfold F_X3_firstWrongRow_50 at h
  show am_Q _ _ _ (0, [.ref 50, .null, .null], [], _) _
  refine aq_aload_n (am_dg dkX3_firstWrongRow (i := 0) rfl) rfl ?_
  obtain ⟨q1, hq2, h⟩ := am_bnd h
  refine aq_virt (a := [.ref 50]) (S1 := []) (v1 := .null) (S2 := []) (am_dg dkX3_firstWrongRow (i := 1) rfl) cv_3_48_3 (am_cls_c sh_50 (by decide)) rfl rfl rfl (Nat.le_of_ble_eq_true rfl) (Nat.le_of_ble_eq_true rfl) (T_X3_remember_50 hR (by omega) hq2) rfl ?_
  refine aq_iconst (v := (0 : Int32)) (am_dg dkX3_firstWrongRow (i := 2) rfl) (by decide) ?_
  refine aq_istore_n (L1 := [.ref 50, .int (0 : Int32), .null]) (am_dg dkX3_firstWrongRow (i := 3) rfl) rfl ?_
  refine aq_iconst (v := (0 : Int32)) (am_dg dkX3_firstWrongRow (i := 4) rfl) (by decide) ?_
  refine aq_istore_n (L1 := [.ref 50, .int (0 : Int32), .int (0 : Int32)]) (am_dg dkX3_firstWrongRow (i := 5) rfl) rfl ?_
  exact T_X3_firstWrongRow_50_b8 hR (by omega) _ _ _ _ _ h
set_option maxRecDepth 20000 in
theorem T_X11_judge_0 {sc : Option (Nat × (Nat → Int32))} {RF : Nat → Nat → Option Nat} {d : Nat} (hR : am_RFok RF) (hd : 7 ≤ d) {s : am_S} {r : Int32 × am_S} (h : F_X11_judge_0 s = some r) : am_Q sc d mX11_judge (0, am_L0 mX11_judge [.ref 0], [], am_hp RF s) (.int r.1, am_hp RF r.2) := by
  obtain ⟨e, rfl⟩ : ∃ e, d = e + 1 := ⟨d - 1, by omega⟩
  unfold F_X11_judge_0 at h
  show am_Q _ _ _ (0, [.ref 0], [], _) _
  refine aq_aload_n (am_dg dkX11_judge (i := 0) rfl) rfl ?_
  refine aq_getR (am_dg dkX11_judge (i := 1) rfl) gk_11_55_0 (rf_0_4 hR) ?_
  obtain ⟨q1, hq2, h⟩ := am_bnd h
  refine aq_virt (a := [.ref 50]) (S1 := []) (v1 := .int q1.1) (S2 := [.int q1.1]) (am_dg dkX11_judge (i := 2) rfl) cv_11_323_3 (am_cls_c sh_50 (by decide)) rfl rfl rfl (Nat.le_of_ble_eq_true rfl) (Nat.le_of_ble_eq_true rfl) (T_X3_firstWrongRow_50 hR (by omega) hq2) rfl ?_
  obtain rfl := Option.some.inj h
  exact aq_ireturn (am_dg dkX11_judge (i := 3) rfl) rfl (Or.inl rfl) rfl
set_option maxRecDepth 20000 in
theorem T_X12_isAct_82 {sc : Option (Nat × (Nat → Int32))} {RF : Nat → Nat → Option Nat} {d : Nat} (hR : am_RFok RF) (hd : 1 ≤ d) {a1 : Int32} {s : am_S} {r : Int32 × am_S} (h : F_X12_isAct_82 a1 s = some r) : am_Q sc d mX12_isAct (0, am_L0 mX12_isAct [.ref 82, .int a1], [], am_hp RF s) (.int r.1, am_hp RF r.2) := by
  obtain ⟨e, rfl⟩ : ∃ e, d = e + 1 := ⟨d - 1, by omega⟩
  unfold F_X12_isAct_82 at h
  show am_Q _ _ _ (0, [.ref 82, .int a1], [], _) _
  refine aq_iload_n (am_dg dkX12_isAct (i := 0) rfl) rfl ?_
  refine aq_i2l (am_dg dkX12_isAct (i := 1) rfl) ?_
  refine aq_lconst (v := (0 : Int64)) (am_dg dkX12_isAct (i := 2) rfl) (by decide) ?_
  refine aq_aload_n (am_dg dkX12_isAct (i := 3) rfl) rfl ?_
  refine aq_getR (am_dg dkX12_isAct (i := 4) rfl) gk_12_7_82 (rf_82_0 hR) ?_
  refine aq_iconst (v := (0 : Int32)) (am_dg dkX12_isAct (i := 5) rfl) (by decide) ?_
  obtain ⟨hg1, h⟩ := am_guard h
  refine aq_iald (am_dg dkX12_isAct (i := 6) rfl) sh_83 hg1 ?_
  refine aq_i2l (am_dg dkX12_isAct (i := 7) rfl) ?_
  obtain ⟨q2, hq3, h⟩ := am_bnd h
  refine aq_static (a := [.long a1.toInt64, .long (0 : Int64), .long (s.1 83 (0 : Int32).toNatClampNeg).toInt64]) (S1 := []) (v1 := .int q2.1) (S2 := [.int q2.1]) (am_dg dkX12_isAct (i := 8) rfl) ct_12_61 rfl rfl rfl (Nat.le_of_ble_eq_true rfl) (Nat.le_of_ble_eq_true rfl) (T_X12_in hR (by omega) hq3) rfl ?_
  by_cases hc4 : q2.1 = (0 : Int32)
  · rw [if_pos hc4] at h
    refine aq_ifT (t := 27) (am_dg dkX12_isAct (i := 9) rfl) rfl (decide_eq_true hc4) ?_
    refine aq_iconst (v := (0 : Int32)) (am_dg dkX12_isAct (i := 15) rfl) (by decide) ?_
    obtain rfl := Option.some.inj h
    exact aq_ireturn (am_dg dkX12_isAct (i := 16) rfl) rfl (Or.inr (Or.inl rfl)) rfl
  · rw [if_neg hc4] at h
    refine aq_ifF (t := 27) (am_dg dkX12_isAct (i := 9) rfl) rfl (decide_eq_false hc4) ?_
    refine aq_aload_n (am_dg dkX12_isAct (i := 10) rfl) rfl ?_
    obtain ⟨q5, hq6, h⟩ := am_bnd h
    refine aq_virt (a := [.ref 82]) (S1 := []) (v1 := .int q5.1) (S2 := [.int q5.1]) (am_dg dkX12_isAct (i := 11) rfl) cv_12_118_12 (am_cls_c sh_82 (by decide)) rfl rfl rfl (Nat.le_of_ble_eq_true rfl) (Nat.le_of_ble_eq_true rfl) (T_X12_isOver_82 hR (by omega) hq6) rfl ?_
    by_cases hc7 : q5.1 = (0 : Int32)
    · rw [if_pos hc7] at h
      refine aq_ifF (t := 27) (am_dg dkX12_isAct (i := 12) rfl) rfl (decide_eq_false (not_not_intro hc7)) ?_
      refine aq_iconst (v := (1 : Int32)) (am_dg dkX12_isAct (i := 13) rfl) (by decide) ?_
      refine aq_goto (t := 28) (am_dg dkX12_isAct (i := 14) rfl) rfl ?_
      obtain rfl := Option.some.inj h
      exact aq_ireturn (am_dg dkX12_isAct (i := 16) rfl) rfl (Or.inr (Or.inl rfl)) rfl
    · rw [if_neg hc7] at h
      refine aq_ifT (t := 27) (am_dg dkX12_isAct (i := 12) rfl) rfl (decide_eq_true hc7) ?_
      refine aq_iconst (v := (0 : Int32)) (am_dg dkX12_isAct (i := 15) rfl) (by decide) ?_
      obtain rfl := Option.some.inj h
      exact aq_ireturn (am_dg dkX12_isAct (i := 16) rfl) rfl (Or.inr (Or.inl rfl)) rfl
set_option maxRecDepth 20000 in
theorem T_X12_judge_82_b94 {sc : Option (Nat × (Nat → Int32))} {RF : Nat → Nat → Option Nat} {d : Nat} (hR : am_RFok RF) (hd : 7 ≤ d) {k8 : Int32 → Int32 → am_S → Option (Int32 × am_S)} (hk8 : ∀ (x1 : Int32) (x2 : Int32) (w3 : Value) (s2 : am_S) (r2 : Int32 × am_S), k8 x1 x2 s2 = some r2 → am_Q sc d mX12_judge (8, [.ref 82, .int x1, .int x2, w3], [], am_hp RF s2) (.int r2.1, am_hp RF r2.2)) : ∀ (x2 : Int32) (y0 : Int32) (w1 : Value) (w3 : Value) (s : am_S) (r : Int32 × am_S), F_X12_judge_82_b94 k8 x2 y0 s = some r → am_Q sc d mX12_judge (94, [.ref 82, w1, .int x2, w3], [.int y0], am_hp RF s) (.int r.1, am_hp RF r.2) := by
  obtain ⟨e, rfl⟩ : ∃ e, d = e + 1 := ⟨d - 1, by omega⟩
  intro x2 y0 w1 w3 s r h
  unfold F_X12_judge_82_b94 at h
  refine aq_istore_n (L1 := [.ref 82, .int y0, .int x2, w3]) (am_dg dkX12_judge (i := 60) rfl) rfl ?_
  refine aq_iinc (v := (1 : Int32)) (L1 := [.ref 82, .int y0, .int (x2 + (1 : Int32)), w3]) (am_dg dkX12_judge (i := 61) rfl) rfl (by decide) rfl ?_
  refine aq_goto (t := 8) (am_dg dkX12_judge (i := 62) rfl) rfl ?_
  exact hk8 _ _ _ _ _ h
set_option maxRecDepth 20000 in
theorem T_X12_judge_82_b82 {sc : Option (Nat × (Nat → Int32))} {RF : Nat → Nat → Option Nat} {d : Nat} (hR : am_RFok RF) (hd : 7 ≤ d) {k8 : Int32 → Int32 → am_S → Option (Int32 × am_S)} (hk8 : ∀ (x1 : Int32) (x2 : Int32) (w3 : Value) (s2 : am_S) (r2 : Int32 × am_S), k8 x1 x2 s2 = some r2 → am_Q sc d mX12_judge (8, [.ref 82, .int x1, .int x2, w3], [], am_hp RF s2) (.int r2.1, am_hp RF r2.2)) : ∀ (x2 : Int32) (y0 : Int32) (w1 : Value) (w3 : Value) (s : am_S) (r : Int32 × am_S), F_X12_judge_82_b82 k8 x2 y0 s = some r → am_Q sc d mX12_judge (82, [.ref 82, w1, .int x2, w3], [.int y0], am_hp RF s) (.int r.1, am_hp RF r.2) := by
  obtain ⟨e, rfl⟩ : ∃ e, d = e + 1 := ⟨d - 1, by omega⟩
  intro x2 y0 w1 w3 s r h
  unfold F_X12_judge_82_b82 at h
  refine aq_istore_n (L1 := [.ref 82, w1, .int x2, .int y0]) (am_dg dkX12_judge (i := 52) rfl) rfl ?_
  refine aq_iload_n (am_dg dkX12_judge (i := 53) rfl) rfl ?_
  by_cases hc1 : y0 = (0 : Int32)
  · rw [if_pos hc1] at h
    refine aq_ifT (t := 91) (am_dg dkX12_judge (i := 54) rfl) rfl (decide_eq_true hc1) ?_
    refine aq_iload_n (am_dg dkX12_judge (i := 57) rfl) rfl ?_
    refine aq_iconst (v := (1 : Int32)) (am_dg dkX12_judge (i := 58) rfl) (by decide) ?_
    refine aq_iadd (am_dg dkX12_judge (i := 59) rfl) ?_
    exact T_X12_judge_82_b94 hR (by omega) hk8 _ _ _ _ _ _ h
  · rw [if_neg hc1] at h
    refine aq_ifF (t := 91) (am_dg dkX12_judge (i := 54) rfl) rfl (decide_eq_false hc1) ?_
    refine aq_iconst (v := (0 : Int32)) (am_dg dkX12_judge (i := 55) rfl) (by decide) ?_
    refine aq_goto (t := 94) (am_dg dkX12_judge (i := 56) rfl) rfl ?_
    exact T_X12_judge_82_b94 hR (by omega) hk8 _ _ _ _ _ _ h
set_option maxRecDepth 20000 in
theorem T_X12_judge_82_b81 {sc : Option (Nat × (Nat → Int32))} {RF : Nat → Nat → Option Nat} {d : Nat} (hR : am_RFok RF) (hd : 7 ≤ d) {k8 : Int32 → Int32 → am_S → Option (Int32 × am_S)} (hk8 : ∀ (x1 : Int32) (x2 : Int32) (w3 : Value) (s2 : am_S) (r2 : Int32 × am_S), k8 x1 x2 s2 = some r2 → am_Q sc d mX12_judge (8, [.ref 82, .int x1, .int x2, w3], [], am_hp RF s2) (.int r2.1, am_hp RF r2.2)) : ∀ (x2 : Int32) (w1 : Value) (w3 : Value) (s : am_S) (r : Int32 × am_S), F_X12_judge_82_b81 k8 x2 s = some r → am_Q sc d mX12_judge (81, [.ref 82, w1, .int x2, w3], [], am_hp RF s) (.int r.1, am_hp RF r.2) := by
  obtain ⟨e, rfl⟩ : ∃ e, d = e + 1 := ⟨d - 1, by omega⟩
  intro x2 w1 w3 s r h
  unfold F_X12_judge_82_b81 at h
  refine aq_iconst (v := (0 : Int32)) (am_dg dkX12_judge (i := 51) rfl) (by decide) ?_
  exact T_X12_judge_82_b82 hR (by omega) hk8 _ _ _ _ _ _ h
set_option maxRecDepth 20000 in
theorem T_X12_judge_82_b101 {sc : Option (Nat × (Nat → Int32))} {RF : Nat → Nat → Option Nat} {d : Nat} (hR : am_RFok RF) (hd : 7 ≤ d) : ∀ (x1 : Int32) (w2 : Value) (w3 : Value) (s : am_S) (r : Int32 × am_S), F_X12_judge_82_b101 x1 s = some r → am_Q sc d mX12_judge (101, [.ref 82, .int x1, w2, w3], [], am_hp RF s) (.int r.1, am_hp RF r.2) := by
  obtain ⟨e, rfl⟩ : ∃ e, d = e + 1 := ⟨d - 1, by omega⟩
  intro x1 w2 w3 s r h
  unfold F_X12_judge_82_b101 at h
  refine aq_aload_n (am_dg dkX12_judge (i := 63) rfl) rfl ?_
  obtain ⟨q1, hq2, h⟩ := am_bnd h
  refine aq_virt (a := [.ref 82]) (S1 := []) (v1 := .null) (S2 := []) (am_dg dkX12_judge (i := 64) rfl) cv_12_168_12 (am_cls_c sh_82 (by decide)) rfl rfl rfl (Nat.le_of_ble_eq_true rfl) (Nat.le_of_ble_eq_true rfl) (T_X12_putsBack_82 hR (by omega) hq2) rfl ?_
  refine aq_iload_n (am_dg dkX12_judge (i := 65) rfl) rfl ?_
  obtain rfl := Option.some.inj h
  exact aq_ireturn (am_dg dkX12_judge (i := 66) rfl) rfl (Or.inl rfl) rfl
set_option maxRecDepth 20000 in
theorem T_X12_judge_82_b8 {sc : Option (Nat × (Nat → Int32))} {RF : Nat → Nat → Option Nat} {d : Nat} (hR : am_RFok RF) (hd : 7 ≤ d) : ∀ (n : Nat) (x1 : Int32) (x2 : Int32) (w3 : Value) (s : am_S) (r : Int32 × am_S), F_X12_judge_82_b8 n x1 x2 s = some r → am_Q sc d mX12_judge (8, [.ref 82, .int x1, .int x2, w3], [], am_hp RF s) (.int r.1, am_hp RF r.2) := by
  obtain ⟨e, rfl⟩ : ∃ e, d = e + 1 := ⟨d - 1, by omega⟩
  intro n
  induction n with
  | zero => intro x1 x2 w3 s r h; rw [F_X12_judge_82_b8] at h; cases h
  | succ n ih =>
  intro x1 x2 w3 s r h
  rw [F_X12_judge_82_b8] at h
  refine aq_iload_n (am_dg dkX12_judge (i := 6) rfl) rfl ?_
  refine aq_aload_n (am_dg dkX12_judge (i := 7) rfl) rfl ?_
  refine aq_getI (am_dg dkX12_judge (i := 8) rfl) gk_12_272_82 (by decide) ?_
  by_cases hc1 : (s.1 82 20) ≤ x2
  · rw [if_pos hc1] at h
    refine aq_icT (t := 101) (am_dg dkX12_judge (i := 9) rfl) rfl (decide_eq_true hc1) ?_
    exact T_X12_judge_82_b101 hR (by omega) _ _ _ _ _ h
  · rw [if_neg hc1] at h
    refine aq_icF (t := 101) (am_dg dkX12_judge (i := 9) rfl) rfl (decide_eq_false hc1) ?_
    refine aq_iload_n (am_dg dkX12_judge (i := 10) rfl) rfl ?_
    by_cases hc2 : x1 = (0 : Int32)
    · rw [if_pos hc2] at h
      refine aq_ifF (t := 101) (am_dg dkX12_judge (i := 11) rfl) rfl (decide_eq_false (not_not_intro hc2)) ?_
      refine aq_aload_n (am_dg dkX12_judge (i := 12) rfl) rfl ?_
      refine aq_aload_n (am_dg dkX12_judge (i := 13) rfl) rfl ?_
      refine aq_getR (am_dg dkX12_judge (i := 14) rfl) gk_12_34_82 (rf_82_19 hR) ?_
      refine aq_iconst (v := (3 : Int32)) (am_dg dkX12_judge (i := 15) rfl) (by decide) ?_
      refine aq_iload_n (am_dg dkX12_judge (i := 16) rfl) rfl ?_
      refine aq_imul (am_dg dkX12_judge (i := 17) rfl) ?_
      obtain ⟨hg3, h⟩ := am_guard h
      refine aq_iald (am_dg dkX12_judge (i := 18) rfl) sh_91 hg3 ?_
      obtain ⟨q4, hq5, h⟩ := am_bnd h
      refine aq_virt (a := [.ref 82, .int (s.1 91 ((3 : Int32) * x2).toNatClampNeg)]) (S1 := []) (v1 := .int q4.1) (S2 := [.int q4.1]) (am_dg dkX12_judge (i := 19) rfl) cv_12_278_12 (am_cls_c sh_82 (by decide)) rfl rfl rfl (Nat.le_of_ble_eq_true rfl) (Nat.le_of_ble_eq_true rfl) (T_X12_isAct_82 hR (by omega) hq5) rfl ?_
      by_cases hc6 : q4.1 = (0 : Int32)
      · rw [if_pos hc6] at h
        refine aq_ifT (t := 81) (am_dg dkX12_judge (i := 20) rfl) rfl (decide_eq_true hc6) ?_
        exact T_X12_judge_82_b81 hR (by omega) ih _ _ _ _ _ h
      · rw [if_neg hc6] at h
        refine aq_ifF (t := 81) (am_dg dkX12_judge (i := 20) rfl) rfl (decide_eq_false hc6) ?_
        refine aq_aload_n (am_dg dkX12_judge (i := 21) rfl) rfl ?_
        refine aq_aload_n (am_dg dkX12_judge (i := 22) rfl) rfl ?_
        refine aq_getR (am_dg dkX12_judge (i := 23) rfl) gk_12_34_82 (rf_82_19 hR) ?_
        refine aq_iconst (v := (3 : Int32)) (am_dg dkX12_judge (i := 24) rfl) (by decide) ?_
        refine aq_iload_n (am_dg dkX12_judge (i := 25) rfl) rfl ?_
        refine aq_imul (am_dg dkX12_judge (i := 26) rfl) ?_
        obtain ⟨hg7, h⟩ := am_guard h
        refine aq_iald (am_dg dkX12_judge (i := 27) rfl) sh_91 hg7 ?_
        obtain ⟨q8, hq9, h⟩ := am_bnd h
        refine aq_virt (a := [.ref 82, .int (q4.2.1 91 ((3 : Int32) * x2).toNatClampNeg)]) (S1 := []) (v1 := .int q8.1) (S2 := [.int q8.1]) (am_dg dkX12_judge (i := 28) rfl) cv_12_159_12 (am_cls_c sh_82 (by decide)) rfl rfl rfl (Nat.le_of_ble_eq_true rfl) (Nat.le_of_ble_eq_true rfl) (T_X12_goes_82 hR (by omega) hq9) rfl ?_
        refine aq_aload_n (am_dg dkX12_judge (i := 29) rfl) rfl ?_
        refine aq_getR (am_dg dkX12_judge (i := 30) rfl) gk_12_34_82 (rf_82_19 hR) ?_
        refine aq_iconst (v := (3 : Int32)) (am_dg dkX12_judge (i := 31) rfl) (by decide) ?_
        refine aq_iload_n (am_dg dkX12_judge (i := 32) rfl) rfl ?_
        refine aq_imul (am_dg dkX12_judge (i := 33) rfl) ?_
        refine aq_iconst (v := (1 : Int32)) (am_dg dkX12_judge (i := 34) rfl) (by decide) ?_
        refine aq_iadd (am_dg dkX12_judge (i := 35) rfl) ?_
        obtain ⟨hg10, h⟩ := am_guard h
        refine aq_iald (am_dg dkX12_judge (i := 36) rfl) sh_91 hg10 ?_
        by_cases hc11 : q8.1 = (q8.2.1 91 (((3 : Int32) * x2) + (1 : Int32)).toNatClampNeg)
        · rw [if_pos hc11] at h
          refine aq_icF (t := 81) (am_dg dkX12_judge (i := 37) rfl) rfl (decide_eq_false (not_not_intro hc11)) ?_
          refine aq_aload_n (am_dg dkX12_judge (i := 38) rfl) rfl ?_
          obtain ⟨q12, hq13, h⟩ := am_bnd h
          refine aq_virt (a := [.ref 82]) (S1 := []) (v1 := .int q12.1) (S2 := [.int q12.1]) (am_dg dkX12_judge (i := 39) rfl) cv_12_122_12 (am_cls_c sh_82 (by decide)) rfl rfl rfl (Nat.le_of_ble_eq_true rfl) (Nat.le_of_ble_eq_true rfl) (T_X12_caught_82 hR (by omega) hq13) rfl ?_
          refine aq_aload_n (am_dg dkX12_judge (i := 40) rfl) rfl ?_
          refine aq_getR (am_dg dkX12_judge (i := 41) rfl) gk_12_34_82 (rf_82_19 hR) ?_
          refine aq_iconst (v := (3 : Int32)) (am_dg dkX12_judge (i := 42) rfl) (by decide) ?_
          refine aq_iload_n (am_dg dkX12_judge (i := 43) rfl) rfl ?_
          refine aq_imul (am_dg dkX12_judge (i := 44) rfl) ?_
          refine aq_iconst (v := (2 : Int32)) (am_dg dkX12_judge (i := 45) rfl) (by decide) ?_
          refine aq_iadd (am_dg dkX12_judge (i := 46) rfl) ?_
          obtain ⟨hg14, h⟩ := am_guard h
          refine aq_iald (am_dg dkX12_judge (i := 47) rfl) sh_91 hg14 ?_
          by_cases hc15 : q12.1 = (q12.2.1 91 (((3 : Int32) * x2) + (2 : Int32)).toNatClampNeg)
          · rw [if_pos hc15] at h
            refine aq_icF (t := 81) (am_dg dkX12_judge (i := 48) rfl) rfl (decide_eq_false (not_not_intro hc15)) ?_
            refine aq_iconst (v := (1 : Int32)) (am_dg dkX12_judge (i := 49) rfl) (by decide) ?_
            refine aq_goto (t := 82) (am_dg dkX12_judge (i := 50) rfl) rfl ?_
            exact T_X12_judge_82_b82 hR (by omega) ih _ _ _ _ _ _ h
          · rw [if_neg hc15] at h
            refine aq_icT (t := 81) (am_dg dkX12_judge (i := 48) rfl) rfl (decide_eq_true hc15) ?_
            exact T_X12_judge_82_b81 hR (by omega) ih _ _ _ _ _ h
        · rw [if_neg hc11] at h
          refine aq_icT (t := 81) (am_dg dkX12_judge (i := 37) rfl) rfl (decide_eq_true hc11) ?_
          exact T_X12_judge_82_b81 hR (by omega) ih _ _ _ _ _ h
    · rw [if_neg hc2] at h
      refine aq_ifT (t := 101) (am_dg dkX12_judge (i := 11) rfl) rfl (decide_eq_true hc2) ?_
      exact T_X12_judge_82_b101 hR (by omega) _ _ _ _ _ h
set_option maxRecDepth 20000 in
theorem T_X12_judge_82 {sc : Option (Nat × (Nat → Int32))} {RF : Nat → Nat → Option Nat} {d : Nat} (hR : am_RFok RF) (hd : 7 ≤ d) {s : am_S} {r : Int32 × am_S} (h : F_X12_judge_82 s = some r) : am_Q sc d mX12_judge (0, am_L0 mX12_judge [.ref 82], [], am_hp RF s) (.int r.1, am_hp RF r.2) := by
  obtain ⟨e, rfl⟩ : ∃ e, d = e + 1 := ⟨d - 1, by omega⟩
  unfold F_X12_judge_82 at h
  show am_Q _ _ _ (0, [.ref 82, .null, .null, .null], [], _) _
  refine aq_aload_n (am_dg dkX12_judge (i := 0) rfl) rfl ?_
  obtain ⟨q1, hq2, h⟩ := am_bnd h
  refine aq_virt (a := [.ref 82]) (S1 := []) (v1 := .null) (S2 := []) (am_dg dkX12_judge (i := 1) rfl) cv_12_162_12 (am_cls_c sh_82 (by decide)) rfl rfl rfl (Nat.le_of_ble_eq_true rfl) (Nat.le_of_ble_eq_true rfl) (T_X12_puts_82 hR (by omega) hq2) rfl ?_
  refine aq_iconst (v := (0 : Int32)) (am_dg dkX12_judge (i := 2) rfl) (by decide) ?_
  refine aq_istore_n (L1 := [.ref 82, .int (0 : Int32), .null, .null]) (am_dg dkX12_judge (i := 3) rfl) rfl ?_
  refine aq_iconst (v := (0 : Int32)) (am_dg dkX12_judge (i := 4) rfl) (by decide) ?_
  refine aq_istore_n (L1 := [.ref 82, .int (0 : Int32), .int (0 : Int32), .null]) (am_dg dkX12_judge (i := 5) rfl) rfl ?_
  exact T_X12_judge_82_b8 hR (by omega) _ _ _ _ _ _ h
set_option maxRecDepth 20000 in
theorem T_X11_isSheet {sc : Option (Nat × (Nat → Int32))} {RF : Nat → Nat → Option Nat} {d : Nat} (hR : am_RFok RF) (hd : 1 ≤ d) {a0 : Int32} {s : am_S} {r : Int32 × am_S} (h : F_X11_isSheet a0 s = some r) : am_Q sc d mX11_isSheet (0, am_L0 mX11_isSheet [.int a0], [], am_hp RF s) (.int r.1, am_hp RF r.2) := by
  obtain ⟨e, rfl⟩ : ∃ e, d = e + 1 := ⟨d - 1, by omega⟩
  unfold F_X11_isSheet at h
  show am_Q _ _ _ (0, [.int a0], [], _) _
  refine aq_iload_n (am_dg dkX11_isSheet (i := 0) rfl) rfl ?_
  refine aq_iconst (v := (0 : Int32)) (am_dg dkX11_isSheet (i := 1) rfl) (by decide) ?_
  refine aq_iconst (v := (3 : Int32)) (am_dg dkX11_isSheet (i := 2) rfl) (by decide) ?_
  obtain ⟨q1, hq2, h⟩ := am_bnd h
  refine aq_static (a := [.int a0, .int (0 : Int32), .int (3 : Int32)]) (S1 := []) (v1 := .int q1.1) (S2 := [.int q1.1]) (am_dg dkX11_isSheet (i := 3) rfl) ct_11_149 rfl rfl rfl (Nat.le_of_ble_eq_true rfl) (Nat.le_of_ble_eq_true rfl) (T_X11_isWithin hR (by omega) hq2) rfl ?_
  obtain ⟨hg3, h⟩ := am_guard h
  obtain rfl := Option.some.inj h
  exact aq_ireturn (am_dg dkX11_isSheet (i := 4) rfl) rfl (Or.inr (Or.inl rfl)) (am_nz hg3)
set_option maxRecDepth 20000 in
theorem T_J7_fill_d0a16_f74_b6 {sc : Option (Nat × (Nat → Int32))} {RF : Nat → Nat → Option Nat} {d : Nat} (hR : am_RFok RF) (hd : 0 ≤ d) {j0 : Nat} (hj0 : j0 < 4) : ∀ (n : Nat) (x1 : Int64) (x3 : Int32) (x4 : Int32) (s : am_S) (r : am_S), F_J7_fill_d0a16_f74_b6 j0 n x1 x3 x4 s = some r → am_Q sc d mJ7_fill_d0a16 (6, [.ref (75 + j0), .long x1, .null, .int x3, .int x4], [], am_hp RF s) (.null, am_hp RF r) := by
  intro n
  induction n with
  | zero => intro x1 x3 x4 s r h; rw [F_J7_fill_d0a16_f74_b6] at h; cases h
  | succ n ih =>
  intro x1 x3 x4 s r h
  rw [F_J7_fill_d0a16_f74_b6] at h
  refine aq_iload_n (am_dg dkJ7_fill_d0a16 (i := 5) rfl) rfl ?_
  refine aq_iload (am_dg dkJ7_fill_d0a16 (i := 6) rfl) rfl ?_
  by_cases hc1 : x4 ≤ x3
  · rw [if_pos hc1] at h
    refine aq_icT (t := 22) (am_dg dkJ7_fill_d0a16 (i := 7) rfl) rfl (decide_eq_true hc1) ?_
    obtain rfl := Option.some.inj h
    exact aq_return (am_dg dkJ7_fill_d0a16 (i := 14) rfl) rfl
  · rw [if_neg hc1] at h
    refine aq_icF (t := 22) (am_dg dkJ7_fill_d0a16 (i := 7) rfl) rfl (decide_eq_false hc1) ?_
    refine aq_aload_n (am_dg dkJ7_fill_d0a16 (i := 8) rfl) rfl ?_
    refine aq_iload_n (am_dg dkJ7_fill_d0a16 (i := 9) rfl) rfl ?_
    refine aq_lload_n (am_dg dkJ7_fill_d0a16 (i := 10) rfl) rfl ?_
    obtain ⟨hg2, h⟩ := am_guard h
    refine aq_last (am_dg dkJ7_fill_d0a16 (i := 11) rfl) (fs_74 _ hj0) hg2 ?_
    obtain ⟨s3, hs4, h⟩ := am_bnd h
    rw [Option.some.inj hs4]
    refine aq_iinc (v := (1 : Int32)) (L1 := [.ref (75 + j0), .long x1, .null, .int (x3 + (1 : Int32)), .int x4]) (am_dg dkJ7_fill_d0a16 (i := 12) rfl) rfl (by decide) rfl ?_
    refine aq_goto (t := 6) (am_dg dkJ7_fill_d0a16 (i := 13) rfl) rfl ?_
    exact ih _ _ _ _ _ h
set_option maxRecDepth 20000 in
theorem T_J7_fill_d0a16_f74 {sc : Option (Nat × (Nat → Int32))} {RF : Nat → Nat → Option Nat} {d : Nat} (hR : am_RFok RF) (hd : 0 ≤ d) {j0 : Nat} (hj0 : j0 < 4) {a1 : Int64} {s : am_S} {r : am_S} (h : F_J7_fill_d0a16_f74 j0 a1 s = some r) : am_Q sc d mJ7_fill_d0a16 (0, am_L0 mJ7_fill_d0a16 [.ref (75 + j0), .long a1], [], am_hp RF s) (.null, am_hp RF r) := by
  unfold F_J7_fill_d0a16_f74 at h
  show am_Q _ _ _ (0, [.ref (75 + j0), .long a1, .null, .null, .null], [], _) _
  refine aq_iconst (v := (0 : Int32)) (am_dg dkJ7_fill_d0a16 (i := 0) rfl) (by decide) ?_
  refine aq_istore_n (L1 := [.ref (75 + j0), .long a1, .null, .int (0 : Int32), .null]) (am_dg dkJ7_fill_d0a16 (i := 1) rfl) rfl ?_
  refine aq_aload_n (am_dg dkJ7_fill_d0a16 (i := 2) rfl) rfl ?_
  refine aq_alen (v := (40 : Int32)) (am_dg dkJ7_fill_d0a16 (i := 3) rfl) (fs_74 _ hj0) (by decide) (by decide) ?_
  refine aq_istore (L1 := [.ref (75 + j0), .long a1, .null, .int (0 : Int32), .int (40 : Int32)]) (am_dg dkJ7_fill_d0a16 (i := 4) rfl) rfl ?_
  exact T_J7_fill_d0a16_f74_b6 hR (by omega) hj0 _ _ _ _ _ _ h
set_option maxRecDepth 20000 in
theorem T_X11_sheet_0_b28 {sc : Option (Nat × (Nat → Int32))} {RF : Nat → Nat → Option Nat} {d : Nat} (hR : am_RFok RF) (hd : 2 ≤ d) : ∀ (x1 : Int32) (x2 : Int32) (x3 : Int32) (y0 : Int32) (w4 : Value) (s : am_S) (r : Int32 × am_S), F_X11_sheet_0_b28 x1 x2 x3 y0 s = some r → am_Q sc d mX11_sheet (28, [.ref 0, .int x1, .int x2, .int x3, w4], [.int y0], am_hp RF s) (.int r.1, am_hp RF r.2) := by
  obtain ⟨e, rfl⟩ : ∃ e, d = e + 1 := ⟨d - 1, by omega⟩
  intro x1 x2 x3 y0 w4 s r h
  unfold F_X11_sheet_0_b28 at h
  refine aq_istore (L1 := [.ref 0, .int x1, .int x2, .int x3, .int y0]) (am_dg dkX11_sheet (i := 16) rfl) rfl ?_
  refine aq_iload (am_dg dkX11_sheet (i := 17) rfl) rfl ?_
  refine aq_bipush (v := (40 : Int32)) (am_dg dkX11_sheet (i := 18) rfl) (by decide) ?_
  by_cases hc1 : y0 ≤ (40 : Int32)
  · rw [if_pos hc1] at h
    refine aq_icT (t := 39) (am_dg dkX11_sheet (i := 19) rfl) rfl (decide_eq_true hc1) ?_
    refine aq_iload (am_dg dkX11_sheet (i := 22) rfl) rfl ?_
    by_cases hc2 : (0 : Int32) ≤ y0
    · rw [if_pos hc2] at h
      refine aq_ifT (t := 47) (am_dg dkX11_sheet (i := 23) rfl) rfl (decide_eq_true hc2) ?_
      refine aq_aload_n (am_dg dkX11_sheet (i := 26) rfl) rfl ?_
      refine aq_getR (am_dg dkX11_sheet (i := 27) rfl) gk_11_66_0 (rf_0_6 hR) ?_
      refine aq_iload_n (am_dg dkX11_sheet (i := 28) rfl) rfl ?_
      refine aq_iload_n (am_dg dkX11_sheet (i := 29) rfl) rfl ?_
      obtain ⟨hg3, h⟩ := am_guard h
      refine aq_iast (am_dg dkX11_sheet (i := 30) rfl) sh_72 hg3 ?_
      obtain ⟨s4, hs5, h⟩ := am_bnd h
      rw [Option.some.inj hs5]
      refine aq_aload_n (am_dg dkX11_sheet (i := 31) rfl) rfl ?_
      refine aq_getR (am_dg dkX11_sheet (i := 32) rfl) gk_11_76_0 (rf_0_7 hR) ?_
      refine aq_iload_n (am_dg dkX11_sheet (i := 33) rfl) rfl ?_
      refine aq_iload (am_dg dkX11_sheet (i := 34) rfl) rfl ?_
      obtain ⟨hg6, h⟩ := am_guard h
      refine aq_iast (am_dg dkX11_sheet (i := 35) rfl) sh_73 hg6 ?_
      obtain ⟨s7, hs8, h⟩ := am_bnd h
      rw [Option.some.inj hs8]
      refine aq_aload_n (am_dg dkX11_sheet (i := 36) rfl) rfl ?_
      refine aq_getR (am_dg dkX11_sheet (i := 37) rfl) gk_11_81_0 (rf_0_8 hR) ?_
      refine aq_iload_n (am_dg dkX11_sheet (i := 38) rfl) rfl ?_
      obtain ⟨hg9, h⟩ := am_guard h
      refine aq_aald (am_dg dkX11_sheet (i := 39) rfl) sh_74 (by decide) hg9 (fm_74 hR _ (am_in_lt hg9)) ?_
      refine aq_lconst (v := (0 : Int64)) (am_dg dkX11_sheet (i := 40) rfl) (by decide) ?_
      obtain ⟨q10, hq11, h⟩ := am_bnd h
      refine aq_static (a := [.ref (75 + x1.toNatClampNeg), .long (0 : Int64)]) (S1 := []) (v1 := .null) (S2 := []) (am_dg dkX11_sheet (i := 41) rfl) ct_11_329 rfl rfl rfl (Nat.le_of_ble_eq_true rfl) (Nat.le_of_ble_eq_true rfl) (T_J7_fill_d0a16_f74 hR (by omega) (am_in_lt hg9) hq11) rfl ?_
      refine aq_iconst (v := (1 : Int32)) (am_dg dkX11_sheet (i := 42) rfl) (by decide) ?_
      obtain rfl := Option.some.inj h
      exact aq_ireturn (am_dg dkX11_sheet (i := 43) rfl) rfl (Or.inl rfl) rfl
    · rw [if_neg hc2] at h
      refine aq_ifF (t := 47) (am_dg dkX11_sheet (i := 23) rfl) rfl (decide_eq_false hc2) ?_
      refine aq_bipush (v := (-14 : Int32)) (am_dg dkX11_sheet (i := 24) rfl) (by decide) ?_
      obtain rfl := Option.some.inj h
      exact aq_ireturn (am_dg dkX11_sheet (i := 25) rfl) rfl (Or.inl rfl) rfl
  · rw [if_neg hc1] at h
    refine aq_icF (t := 39) (am_dg dkX11_sheet (i := 19) rfl) rfl (decide_eq_false hc1) ?_
    refine aq_iconst (v := (-1 : Int32)) (am_dg dkX11_sheet (i := 20) rfl) (by decide) ?_
    obtain rfl := Option.some.inj h
    exact aq_ireturn (am_dg dkX11_sheet (i := 21) rfl) rfl (Or.inl rfl) rfl
set_option maxRecDepth 20000 in
theorem T_X11_sheet_0 {sc : Option (Nat × (Nat → Int32))} {RF : Nat → Nat → Option Nat} {d : Nat} (hR : am_RFok RF) (hd : 2 ≤ d) {a1 : Int32} {a2 : Int32} {a3 : Int32} {s : am_S} {r : Int32 × am_S} (h : F_X11_sheet_0 a1 a2 a3 s = some r) : am_Q sc d mX11_sheet (0, am_L0 mX11_sheet [.ref 0, .int a1, .int a2, .int a3], [], am_hp RF s) (.int r.1, am_hp RF r.2) := by
  obtain ⟨e, rfl⟩ : ∃ e, d = e + 1 := ⟨d - 1, by omega⟩
  unfold F_X11_sheet_0 at h
  show am_Q _ _ _ (0, [.ref 0, .int a1, .int a2, .int a3, .null], [], _) _
  refine aq_iload_n (am_dg dkX11_sheet (i := 0) rfl) rfl ?_
  obtain ⟨q1, hq2, h⟩ := am_bnd h
  refine aq_static (a := [.int a1]) (S1 := []) (v1 := .int q1.1) (S2 := [.int q1.1]) (am_dg dkX11_sheet (i := 1) rfl) ct_11_326 rfl rfl rfl (Nat.le_of_ble_eq_true rfl) (Nat.le_of_ble_eq_true rfl) (T_X11_isSheet hR (by omega) hq2) rfl ?_
  by_cases hc3 : q1.1 = (0 : Int32)
  · rw [if_pos hc3] at h
    refine aq_ifT (t := 16) (am_dg dkX11_sheet (i := 2) rfl) rfl (decide_eq_true hc3) ?_
    refine aq_iconst (v := (-1 : Int32)) (am_dg dkX11_sheet (i := 8) rfl) (by decide) ?_
    obtain rfl := Option.some.inj h
    exact aq_ireturn (am_dg dkX11_sheet (i := 9) rfl) rfl (Or.inl rfl) rfl
  · rw [if_neg hc3] at h
    refine aq_ifF (t := 16) (am_dg dkX11_sheet (i := 2) rfl) rfl (decide_eq_false hc3) ?_
    refine aq_iload_n (am_dg dkX11_sheet (i := 3) rfl) rfl ?_
    refine aq_iconst (v := (-1 : Int32)) (am_dg dkX11_sheet (i := 4) rfl) (by decide) ?_
    refine aq_iconst (v := (4 : Int32)) (am_dg dkX11_sheet (i := 5) rfl) (by decide) ?_
    obtain ⟨q4, hq5, h⟩ := am_bnd h
    refine aq_static (a := [.int a2, .int (-1 : Int32), .int (4 : Int32)]) (S1 := []) (v1 := .int q4.1) (S2 := [.int q4.1]) (am_dg dkX11_sheet (i := 6) rfl) ct_11_149 rfl rfl rfl (Nat.le_of_ble_eq_true rfl) (Nat.le_of_ble_eq_true rfl) (T_X11_isWithin hR (by omega) hq5) rfl ?_
    by_cases hc6 : q4.1 = (0 : Int32)
    · rw [if_pos hc6] at h
      refine aq_ifF (t := 18) (am_dg dkX11_sheet (i := 7) rfl) rfl (decide_eq_false (not_not_intro hc6)) ?_
      refine aq_iconst (v := (-1 : Int32)) (am_dg dkX11_sheet (i := 8) rfl) (by decide) ?_
      obtain rfl := Option.some.inj h
      exact aq_ireturn (am_dg dkX11_sheet (i := 9) rfl) rfl (Or.inl rfl) rfl
    · rw [if_neg hc6] at h
      refine aq_ifT (t := 18) (am_dg dkX11_sheet (i := 7) rfl) rfl (decide_eq_true hc6) ?_
      refine aq_iload_n (am_dg dkX11_sheet (i := 10) rfl) rfl ?_
      refine aq_iconst (v := (-1 : Int32)) (am_dg dkX11_sheet (i := 11) rfl) (by decide) ?_
      by_cases hc7 : a2 = (-1 : Int32)
      · rw [if_pos hc7] at h
        refine aq_icF (t := 27) (am_dg dkX11_sheet (i := 12) rfl) rfl (decide_eq_false (not_not_intro hc7)) ?_
        refine aq_iconst (v := (0 : Int32)) (am_dg dkX11_sheet (i := 13) rfl) (by decide) ?_
        refine aq_goto (t := 28) (am_dg dkX11_sheet (i := 14) rfl) rfl ?_
        exact T_X11_sheet_0_b28 hR (by omega) _ _ _ _ _ _ _ h
      · rw [if_neg hc7] at h
        refine aq_icT (t := 27) (am_dg dkX11_sheet (i := 12) rfl) rfl (decide_eq_true hc7) ?_
        refine aq_iload_n (am_dg dkX11_sheet (i := 15) rfl) rfl ?_
        exact T_X11_sheet_0_b28 hR (by omega) _ _ _ _ _ _ _ h
set_option maxRecDepth 20000 in
theorem T_X12_isOne {sc : Option (Nat × (Nat → Int32))} {RF : Nat → Nat → Option Nat} {d : Nat} (hR : am_RFok RF) (hd : 1 ≤ d) {a0 : Int32} {s : am_S} {r : Int32 × am_S} (h : F_X12_isOne a0 s = some r) : am_Q sc d mX12_isOne (0, am_L0 mX12_isOne [.int a0], [], am_hp RF s) (.int r.1, am_hp RF r.2) := by
  obtain ⟨e, rfl⟩ : ∃ e, d = e + 1 := ⟨d - 1, by omega⟩
  unfold F_X12_isOne at h
  show am_Q _ _ _ (0, [.int a0], [], _) _
  refine aq_iload_n (am_dg dkX12_isOne (i := 0) rfl) rfl ?_
  refine aq_i2l (am_dg dkX12_isOne (i := 1) rfl) ?_
  refine aq_lconst (v := (0 : Int64)) (am_dg dkX12_isOne (i := 2) rfl) (by decide) ?_
  refine aq_ldc2 (am_dg dkX12_isOne (i := 3) rfl) cl_12_234 ?_
  obtain ⟨q1, hq2, h⟩ := am_bnd h
  refine aq_static (a := [.long a0.toInt64, .long (0 : Int64), .long (3 : Int64)]) (S1 := []) (v1 := .int q1.1) (S2 := [.int q1.1]) (am_dg dkX12_isOne (i := 4) rfl) ct_12_61 rfl rfl rfl (Nat.le_of_ble_eq_true rfl) (Nat.le_of_ble_eq_true rfl) (T_X12_in hR (by omega) hq2) rfl ?_
  obtain ⟨hg3, h⟩ := am_guard h
  obtain rfl := Option.some.inj h
  exact aq_ireturn (am_dg dkX12_isOne (i := 5) rfl) rfl (Or.inr (Or.inl rfl)) (am_nz hg3)
set_option maxRecDepth 20000 in
theorem T_X12_sheet_82_b69 {sc : Option (Nat × (Nat → Int32))} {RF : Nat → Nat → Option Nat} {d : Nat} (hR : am_RFok RF) (hd : 2 ≤ d) : ∀ (n : Nat) (x1 : Int32) (x3 : Int32) (x4 : Int32) (w2 : Value) (s : am_S) (r : Int32 × am_S), F_X12_sheet_82_b69 n x1 x3 x4 s = some r → am_Q sc d mX12_sheet (69, [.ref 82, .int x1, w2, .int x3, .int x4], [], am_hp RF s) (.int r.1, am_hp RF r.2) := by
  obtain ⟨e, rfl⟩ : ∃ e, d = e + 1 := ⟨d - 1, by omega⟩
  intro n
  induction n with
  | zero => intro x1 x3 x4 w2 s r h; rw [F_X12_sheet_82_b69] at h; cases h
  | succ n ih =>
  intro x1 x3 x4 w2 s r h
  rw [F_X12_sheet_82_b69] at h
  refine aq_iload (am_dg dkX12_sheet (i := 38) rfl) rfl ?_
  refine aq_bipush (v := (40 : Int32)) (am_dg dkX12_sheet (i := 39) rfl) (by decide) ?_
  by_cases hc1 : (40 : Int32) ≤ x4
  · rw [if_pos hc1] at h
    refine aq_icT (t := 95) (am_dg dkX12_sheet (i := 40) rfl) rfl (decide_eq_true hc1) ?_
    refine aq_iconst (v := (1 : Int32)) (am_dg dkX12_sheet (i := 52) rfl) (by decide) ?_
    obtain rfl := Option.some.inj h
    exact aq_ireturn (am_dg dkX12_sheet (i := 53) rfl) rfl (Or.inl rfl) rfl
  · rw [if_neg hc1] at h
    refine aq_icF (t := 95) (am_dg dkX12_sheet (i := 40) rfl) rfl (decide_eq_false hc1) ?_
    refine aq_aload_n (am_dg dkX12_sheet (i := 41) rfl) rfl ?_
    refine aq_getR (am_dg dkX12_sheet (i := 42) rfl) gk_12_46_82 (rf_82_31 hR) ?_
    refine aq_bipush (v := (40 : Int32)) (am_dg dkX12_sheet (i := 43) rfl) (by decide) ?_
    refine aq_iload_n (am_dg dkX12_sheet (i := 44) rfl) rfl ?_
    refine aq_imul (am_dg dkX12_sheet (i := 45) rfl) ?_
    refine aq_iload (am_dg dkX12_sheet (i := 46) rfl) rfl ?_
    refine aq_iadd (am_dg dkX12_sheet (i := 47) rfl) ?_
    refine aq_iconst (v := (0 : Int32)) (am_dg dkX12_sheet (i := 48) rfl) (by decide) ?_
    obtain ⟨hg2, h⟩ := am_guard h
    refine aq_iast (am_dg dkX12_sheet (i := 49) rfl) sh_95 hg2 ?_
    obtain ⟨s3, hs4, h⟩ := am_bnd h
    rw [Option.some.inj hs4]
    refine aq_iinc (v := (1 : Int32)) (L1 := [.ref 82, .int x1, w2, .int x3, .int (x4 + (1 : Int32))]) (am_dg dkX12_sheet (i := 50) rfl) rfl (by decide) rfl ?_
    refine aq_goto (t := 69) (am_dg dkX12_sheet (i := 51) rfl) rfl ?_
    exact ih _ _ _ _ _ _ h
set_option maxRecDepth 20000 in
theorem T_X12_sheet_82_b65 {sc : Option (Nat × (Nat → Int32))} {RF : Nat → Nat → Option Nat} {d : Nat} (hR : am_RFok RF) (hd : 2 ≤ d) : ∀ (x1 : Int32) (x3 : Int32) (y0 : Int32) (y1 : Int32) (w2 : Value) (w4 : Value) (s : am_S) (r : Int32 × am_S), F_X12_sheet_82_b65 x1 x3 y0 y1 s = some r → am_Q sc d mX12_sheet (65, [.ref 82, .int x1, w2, .int x3, w4], [.int y0, .int y1, .ref 94], am_hp RF s) (.int r.1, am_hp RF r.2) := by
  obtain ⟨e, rfl⟩ : ∃ e, d = e + 1 := ⟨d - 1, by omega⟩
  intro x1 x3 y0 y1 w2 w4 s r h
  unfold F_X12_sheet_82_b65 at h
  obtain ⟨hg1, h⟩ := am_guard h
  refine aq_iast (am_dg dkX12_sheet (i := 35) rfl) sh_94 hg1 ?_
  obtain ⟨s2, hs3, h⟩ := am_bnd h
  rw [Option.some.inj hs3]
  refine aq_iconst (v := (0 : Int32)) (am_dg dkX12_sheet (i := 36) rfl) (by decide) ?_
  refine aq_istore (L1 := [.ref 82, .int x1, w2, .int x3, .int (0 : Int32)]) (am_dg dkX12_sheet (i := 37) rfl) rfl ?_
  exact T_X12_sheet_82_b69 hR (by omega) _ _ _ _ _ _ _ h
set_option maxRecDepth 20000 in
theorem T_X12_sheet_82_b44 {sc : Option (Nat × (Nat → Int32))} {RF : Nat → Nat → Option Nat} {d : Nat} (hR : am_RFok RF) (hd : 2 ≤ d) : ∀ (x1 : Int32) (x2 : Int32) (x3 : Int32) (w4 : Value) (s : am_S) (r : Int32 × am_S), F_X12_sheet_82_b44 x1 x2 x3 s = some r → am_Q sc d mX12_sheet (44, [.ref 82, .int x1, .int x2, .int x3, w4], [], am_hp RF s) (.int r.1, am_hp RF r.2) := by
  obtain ⟨e, rfl⟩ : ∃ e, d = e + 1 := ⟨d - 1, by omega⟩
  intro x1 x2 x3 w4 s r h
  unfold F_X12_sheet_82_b44 at h
  refine aq_aload_n (am_dg dkX12_sheet (i := 22) rfl) rfl ?_
  refine aq_getR (am_dg dkX12_sheet (i := 23) rfl) gk_12_40_82 (rf_82_29 hR) ?_
  refine aq_iload_n (am_dg dkX12_sheet (i := 24) rfl) rfl ?_
  refine aq_iload_n (am_dg dkX12_sheet (i := 25) rfl) rfl ?_
  obtain ⟨hg1, h⟩ := am_guard h
  refine aq_iast (am_dg dkX12_sheet (i := 26) rfl) sh_93 hg1 ?_
  obtain ⟨s2, hs3, h⟩ := am_bnd h
  rw [Option.some.inj hs3]
  refine aq_aload_n (am_dg dkX12_sheet (i := 27) rfl) rfl ?_
  refine aq_getR (am_dg dkX12_sheet (i := 28) rfl) gk_12_43_82 (rf_82_30 hR) ?_
  refine aq_iload_n (am_dg dkX12_sheet (i := 29) rfl) rfl ?_
  refine aq_iload_n (am_dg dkX12_sheet (i := 30) rfl) rfl ?_
  by_cases hc4 : (0 : Int32) ≤ x2
  · rw [if_pos hc4] at h
    refine aq_ifT (t := 64) (am_dg dkX12_sheet (i := 31) rfl) rfl (decide_eq_true hc4) ?_
    refine aq_iload_n (am_dg dkX12_sheet (i := 34) rfl) rfl ?_
    exact T_X12_sheet_82_b65 hR (by omega) _ _ _ _ _ _ _ _ h
  · rw [if_neg hc4] at h
    refine aq_ifF (t := 64) (am_dg dkX12_sheet (i := 31) rfl) rfl (decide_eq_false hc4) ?_
    refine aq_iconst (v := (0 : Int32)) (am_dg dkX12_sheet (i := 32) rfl) (by decide) ?_
    refine aq_goto (t := 65) (am_dg dkX12_sheet (i := 33) rfl) rfl ?_
    exact T_X12_sheet_82_b65 hR (by omega) _ _ _ _ _ _ _ _ h
set_option maxRecDepth 20000 in
theorem T_X12_sheet_82_b33 {sc : Option (Nat × (Nat → Int32))} {RF : Nat → Nat → Option Nat} {d : Nat} (hR : am_RFok RF) (hd : 2 ≤ d) : ∀ (x1 : Int32) (x2 : Int32) (x3 : Int32) (w4 : Value) (s : am_S) (r : Int32 × am_S), F_X12_sheet_82_b33 x1 x2 x3 s = some r → am_Q sc d mX12_sheet (33, [.ref 82, .int x1, .int x2, .int x3, w4], [], am_hp RF s) (.int r.1, am_hp RF r.2) := by
  obtain ⟨e, rfl⟩ : ∃ e, d = e + 1 := ⟨d - 1, by omega⟩
  intro x1 x2 x3 w4 s r h
  unfold F_X12_sheet_82_b33 at h
  refine aq_iload_n (am_dg dkX12_sheet (i := 16) rfl) rfl ?_
  by_cases hc1 : x2 < (0 : Int32)
  · rw [if_pos hc1] at h
    refine aq_ifT (t := 44) (am_dg dkX12_sheet (i := 17) rfl) rfl (decide_eq_true hc1) ?_
    exact T_X12_sheet_82_b44 hR (by omega) _ _ _ _ _ _ h
  · rw [if_neg hc1] at h
    refine aq_ifF (t := 44) (am_dg dkX12_sheet (i := 17) rfl) rfl (decide_eq_false hc1) ?_
    refine aq_iload_n (am_dg dkX12_sheet (i := 18) rfl) rfl ?_
    by_cases hc2 : (0 : Int32) ≤ x3
    · rw [if_pos hc2] at h
      refine aq_ifT (t := 44) (am_dg dkX12_sheet (i := 19) rfl) rfl (decide_eq_true hc2) ?_
      exact T_X12_sheet_82_b44 hR (by omega) _ _ _ _ _ _ h
    · rw [if_neg hc2] at h
      refine aq_ifF (t := 44) (am_dg dkX12_sheet (i := 19) rfl) rfl (decide_eq_false hc2) ?_
      refine aq_bipush (v := (-14 : Int32)) (am_dg dkX12_sheet (i := 20) rfl) (by decide) ?_
      obtain rfl := Option.some.inj h
      exact aq_ireturn (am_dg dkX12_sheet (i := 21) rfl) rfl (Or.inl rfl) rfl
set_option maxRecDepth 20000 in
theorem T_X12_sheet_82 {sc : Option (Nat × (Nat → Int32))} {RF : Nat → Nat → Option Nat} {d : Nat} (hR : am_RFok RF) (hd : 2 ≤ d) {a1 : Int32} {a2 : Int32} {a3 : Int32} {s : am_S} {r : Int32 × am_S} (h : F_X12_sheet_82 a1 a2 a3 s = some r) : am_Q sc d mX12_sheet (0, am_L0 mX12_sheet [.ref 82, .int a1, .int a2, .int a3], [], am_hp RF s) (.int r.1, am_hp RF r.2) := by
  obtain ⟨e, rfl⟩ : ∃ e, d = e + 1 := ⟨d - 1, by omega⟩
  unfold F_X12_sheet_82 at h
  show am_Q _ _ _ (0, [.ref 82, .int a1, .int a2, .int a3, .null], [], _) _
  refine aq_iload_n (am_dg dkX12_sheet (i := 0) rfl) rfl ?_
  obtain ⟨q1, hq2, h⟩ := am_bnd h
  refine aq_static (a := [.int a1]) (S1 := []) (v1 := .int q1.1) (S2 := [.int q1.1]) (am_dg dkX12_sheet (i := 1) rfl) ct_12_403 rfl rfl rfl (Nat.le_of_ble_eq_true rfl) (Nat.le_of_ble_eq_true rfl) (T_X12_isOne hR (by omega) hq2) rfl ?_
  by_cases hc3 : q1.1 = (0 : Int32)
  · rw [if_pos hc3] at h
    refine aq_ifT (t := 31) (am_dg dkX12_sheet (i := 2) rfl) rfl (decide_eq_true hc3) ?_
    refine aq_iconst (v := (-1 : Int32)) (am_dg dkX12_sheet (i := 14) rfl) (by decide) ?_
    obtain rfl := Option.some.inj h
    exact aq_ireturn (am_dg dkX12_sheet (i := 15) rfl) rfl (Or.inl rfl) rfl
  · rw [if_neg hc3] at h
    refine aq_ifF (t := 31) (am_dg dkX12_sheet (i := 2) rfl) rfl (decide_eq_false hc3) ?_
    refine aq_iload_n (am_dg dkX12_sheet (i := 3) rfl) rfl ?_
    refine aq_i2l (am_dg dkX12_sheet (i := 4) rfl) ?_
    refine aq_ldc2 (am_dg dkX12_sheet (i := 5) rfl) cl_12_142 ?_
    refine aq_ldc2 (am_dg dkX12_sheet (i := 6) rfl) cl_12_226 ?_
    obtain ⟨q4, hq5, h⟩ := am_bnd h
    refine aq_static (a := [.long a2.toInt64, .long (-1 : Int64), .long (4 : Int64)]) (S1 := []) (v1 := .int q4.1) (S2 := [.int q4.1]) (am_dg dkX12_sheet (i := 7) rfl) ct_12_61 rfl rfl rfl (Nat.le_of_ble_eq_true rfl) (Nat.le_of_ble_eq_true rfl) (T_X12_in hR (by omega) hq5) rfl ?_
    by_cases hc6 : q4.1 = (0 : Int32)
    · rw [if_pos hc6] at h
      refine aq_ifT (t := 31) (am_dg dkX12_sheet (i := 8) rfl) rfl (decide_eq_true hc6) ?_
      refine aq_iconst (v := (-1 : Int32)) (am_dg dkX12_sheet (i := 14) rfl) (by decide) ?_
      obtain rfl := Option.some.inj h
      exact aq_ireturn (am_dg dkX12_sheet (i := 15) rfl) rfl (Or.inl rfl) rfl
    · rw [if_neg hc6] at h
      refine aq_ifF (t := 31) (am_dg dkX12_sheet (i := 8) rfl) rfl (decide_eq_false hc6) ?_
      refine aq_iload_n (am_dg dkX12_sheet (i := 9) rfl) rfl ?_
      by_cases hc7 : a2 < (0 : Int32)
      · rw [if_pos hc7] at h
        refine aq_ifT (t := 33) (am_dg dkX12_sheet (i := 10) rfl) rfl (decide_eq_true hc7) ?_
        exact T_X12_sheet_82_b33 hR (by omega) _ _ _ _ _ _ h
      · rw [if_neg hc7] at h
        refine aq_ifF (t := 33) (am_dg dkX12_sheet (i := 10) rfl) rfl (decide_eq_false hc7) ?_
        refine aq_iload_n (am_dg dkX12_sheet (i := 11) rfl) rfl ?_
        refine aq_bipush (v := (40 : Int32)) (am_dg dkX12_sheet (i := 12) rfl) (by decide) ?_
        by_cases hc8 : a3 ≤ (40 : Int32)
        · rw [if_pos hc8] at h
          refine aq_icT (t := 33) (am_dg dkX12_sheet (i := 13) rfl) rfl (decide_eq_true hc8) ?_
          exact T_X12_sheet_82_b33 hR (by omega) _ _ _ _ _ _ h
        · rw [if_neg hc8] at h
          refine aq_icF (t := 33) (am_dg dkX12_sheet (i := 13) rfl) rfl (decide_eq_false hc8) ?_
          refine aq_iconst (v := (-1 : Int32)) (am_dg dkX12_sheet (i := 14) rfl) (by decide) ?_
          obtain rfl := Option.some.inj h
          exact aq_ireturn (am_dg dkX12_sheet (i := 15) rfl) rfl (Or.inl rfl) rfl
set_option maxRecDepth 20000 in
theorem T_X11_hasItem_0 {sc : Option (Nat × (Nat → Int32))} {RF : Nat → Nat → Option Nat} {d : Nat} (hR : am_RFok RF) (hd : 1 ≤ d) {a1 : Int32} {a2 : Int32} {s : am_S} {r : Int32 × am_S} (h : F_X11_hasItem_0 a1 a2 s = some r) : am_Q sc d mX11_hasItem (0, am_L0 mX11_hasItem [.ref 0, .int a1, .int a2], [], am_hp RF s) (.int r.1, am_hp RF r.2) := by
  obtain ⟨e, rfl⟩ : ∃ e, d = e + 1 := ⟨d - 1, by omega⟩
  unfold F_X11_hasItem_0 at h
  show am_Q _ _ _ (0, [.ref 0, .int a1, .int a2], [], _) _
  refine aq_iload_n (am_dg dkX11_hasItem (i := 0) rfl) rfl ?_
  refine aq_iconst (v := (0 : Int32)) (am_dg dkX11_hasItem (i := 1) rfl) (by decide) ?_
  refine aq_aload_n (am_dg dkX11_hasItem (i := 2) rfl) rfl ?_
  refine aq_getR (am_dg dkX11_hasItem (i := 3) rfl) gk_11_76_0 (rf_0_7 hR) ?_
  refine aq_iload_n (am_dg dkX11_hasItem (i := 4) rfl) rfl ?_
  obtain ⟨hg1, h⟩ := am_guard h
  refine aq_iald (am_dg dkX11_hasItem (i := 5) rfl) sh_73 hg1 ?_
  refine aq_iconst (v := (1 : Int32)) (am_dg dkX11_hasItem (i := 6) rfl) (by decide) ?_
  refine aq_isub (am_dg dkX11_hasItem (i := 7) rfl) ?_
  obtain ⟨q2, hq3, h⟩ := am_bnd h
  refine aq_static (a := [.int a2, .int (0 : Int32), .int ((s.1 73 a1.toNatClampNeg) - (1 : Int32))]) (S1 := []) (v1 := .int q2.1) (S2 := [.int q2.1]) (am_dg dkX11_hasItem (i := 8) rfl) ct_11_149 rfl rfl rfl (Nat.le_of_ble_eq_true rfl) (Nat.le_of_ble_eq_true rfl) (T_X11_isWithin hR (by omega) hq3) rfl ?_
  obtain ⟨hg4, h⟩ := am_guard h
  obtain rfl := Option.some.inj h
  exact aq_ireturn (am_dg dkX11_hasItem (i := 9) rfl) rfl (Or.inr (Or.inl rfl)) (am_nz hg4)
set_option maxRecDepth 20000 in
theorem T_X11_narrowed {sc : Option (Nat × (Nat → Int32))} {RF : Nat → Nat → Option Nat} {d : Nat} (hR : am_RFok RF) (hd : 0 ≤ d) {a0 : Int32} {a1 : Int32} {s : am_S} {r : Int64 × am_S} (h : F_X11_narrowed a0 a1 s = some r) : am_Q sc d mX11_narrowed (0, am_L0 mX11_narrowed [.int a0, .int a1], [], am_hp RF s) (.long r.1, am_hp RF r.2) := by
  unfold F_X11_narrowed at h
  show am_Q _ _ _ (0, [.int a0, .int a1], [], _) _
  refine aq_iload_n (am_dg dkX11_narrowed (i := 0) rfl) rfl ?_
  by_cases hc1 : a0 = (0 : Int32)
  · rw [if_pos hc1] at h
    refine aq_tsw (t := 36) (am_dg dkX11_narrowed (i := 1) rfl) (by rw [hc1]; rfl) ?_
    refine aq_iload_n (am_dg dkX11_narrowed (i := 2) rfl) rfl ?_
    refine aq_i2b (am_dg dkX11_narrowed (i := 3) rfl) ?_
    refine aq_i2l (am_dg dkX11_narrowed (i := 4) rfl) ?_
    obtain rfl := Option.some.inj h
    exact aq_lreturn (am_dg dkX11_narrowed (i := 5) rfl) rfl
  rw [if_neg hc1] at h
  by_cases hc2 : a0 = (1 : Int32)
  · rw [if_pos hc2] at h
    refine aq_tsw (t := 40) (am_dg dkX11_narrowed (i := 1) rfl) (by rw [hc2]; rfl) ?_
    refine aq_iload_n (am_dg dkX11_narrowed (i := 6) rfl) rfl ?_
    refine aq_i2s (am_dg dkX11_narrowed (i := 7) rfl) ?_
    refine aq_i2l (am_dg dkX11_narrowed (i := 8) rfl) ?_
    obtain rfl := Option.some.inj h
    exact aq_lreturn (am_dg dkX11_narrowed (i := 9) rfl) rfl
  rw [if_neg hc2] at h
  by_cases hc3 : a0 = (2 : Int32)
  · rw [if_pos hc3] at h
    refine aq_tsw (t := 54) (am_dg dkX11_narrowed (i := 1) rfl) (by rw [hc3]; rfl) ?_
    refine aq_iload_n (am_dg dkX11_narrowed (i := 16) rfl) rfl ?_
    refine aq_i2l (am_dg dkX11_narrowed (i := 17) rfl) ?_
    obtain rfl := Option.some.inj h
    exact aq_lreturn (am_dg dkX11_narrowed (i := 18) rfl) rfl
  rw [if_neg hc3] at h
  by_cases hc4 : a0 = (3 : Int32)
  · rw [if_pos hc4] at h
    refine aq_tsw (t := 54) (am_dg dkX11_narrowed (i := 1) rfl) (by rw [hc4]; rfl) ?_
    refine aq_iload_n (am_dg dkX11_narrowed (i := 16) rfl) rfl ?_
    refine aq_i2l (am_dg dkX11_narrowed (i := 17) rfl) ?_
    obtain rfl := Option.some.inj h
    exact aq_lreturn (am_dg dkX11_narrowed (i := 18) rfl) rfl
  rw [if_neg hc4] at h
  by_cases hc5 : a0 = (4 : Int32)
  · rw [if_pos hc5] at h
    refine aq_tsw (t := 44) (am_dg dkX11_narrowed (i := 1) rfl) (by rw [hc5]; rfl) ?_
    refine aq_iload_n (am_dg dkX11_narrowed (i := 10) rfl) rfl ?_
    by_cases hc6 : a1 = (0 : Int32)
    · rw [if_pos hc6] at h
      refine aq_ifT (t := 52) (am_dg dkX11_narrowed (i := 11) rfl) rfl (decide_eq_true hc6) ?_
      refine aq_lconst (v := (0 : Int64)) (am_dg dkX11_narrowed (i := 14) rfl) (by decide) ?_
      obtain rfl := Option.some.inj h
      exact aq_lreturn (am_dg dkX11_narrowed (i := 15) rfl) rfl
    · rw [if_neg hc6] at h
      refine aq_ifF (t := 52) (am_dg dkX11_narrowed (i := 11) rfl) rfl (decide_eq_false hc6) ?_
      refine aq_lconst (v := (1 : Int64)) (am_dg dkX11_narrowed (i := 12) rfl) (by decide) ?_
      refine aq_goto (t := 53) (am_dg dkX11_narrowed (i := 13) rfl) rfl ?_
      obtain rfl := Option.some.inj h
      exact aq_lreturn (am_dg dkX11_narrowed (i := 15) rfl) rfl
  rw [if_neg hc5] at h
  refine aq_tsw (t := 54) (am_dg dkX11_narrowed (i := 1) rfl) (am_tsw_d (by have := lv_neT hc1 (show ((0 : Int32)).toInt = 0 by decide); have := lv_neT hc2 (show ((1 : Int32)).toInt = 1 by decide); have := lv_neT hc3 (show ((2 : Int32)).toInt = 2 by decide); have := lv_neT hc4 (show ((3 : Int32)).toInt = 3 by decide); have := lv_neT hc5 (show ((4 : Int32)).toInt = 4 by decide); omega) rfl) ?_
  refine aq_iload_n (am_dg dkX11_narrowed (i := 16) rfl) rfl ?_
  refine aq_i2l (am_dg dkX11_narrowed (i := 17) rfl) ?_
  obtain rfl := Option.some.inj h
  exact aq_lreturn (am_dg dkX11_narrowed (i := 18) rfl) rfl
set_option maxRecDepth 20000 in
theorem T_X11_write_0 {sc : Option (Nat × (Nat → Int32))} {RF : Nat → Nat → Option Nat} {d : Nat} (hR : am_RFok RF) (hd : 2 ≤ d) {a1 : Int32} {a2 : Int32} {a3 : Int32} {s : am_S} {r : Int32 × am_S} (h : F_X11_write_0 a1 a2 a3 s = some r) : am_Q sc d mX11_write (0, am_L0 mX11_write [.ref 0, .int a1, .int a2, .int a3], [], am_hp RF s) (.int r.1, am_hp RF r.2) := by
  obtain ⟨e, rfl⟩ : ∃ e, d = e + 1 := ⟨d - 1, by omega⟩
  unfold F_X11_write_0 at h
  show am_Q _ _ _ (0, [.ref 0, .int a1, .int a2, .int a3], [], _) _
  refine aq_iload_n (am_dg dkX11_write (i := 0) rfl) rfl ?_
  obtain ⟨q1, hq2, h⟩ := am_bnd h
  refine aq_static (a := [.int a1]) (S1 := []) (v1 := .int q1.1) (S2 := [.int q1.1]) (am_dg dkX11_write (i := 1) rfl) ct_11_326 rfl rfl rfl (Nat.le_of_ble_eq_true rfl) (Nat.le_of_ble_eq_true rfl) (T_X11_isSheet hR (by omega) hq2) rfl ?_
  by_cases hc3 : q1.1 = (0 : Int32)
  · rw [if_pos hc3] at h
    refine aq_ifF (t := 9) (am_dg dkX11_write (i := 2) rfl) rfl (decide_eq_false (not_not_intro hc3)) ?_
    refine aq_iconst (v := (-1 : Int32)) (am_dg dkX11_write (i := 3) rfl) (by decide) ?_
    obtain rfl := Option.some.inj h
    exact aq_ireturn (am_dg dkX11_write (i := 4) rfl) rfl (Or.inl rfl) rfl
  · rw [if_neg hc3] at h
    refine aq_ifT (t := 9) (am_dg dkX11_write (i := 2) rfl) rfl (decide_eq_true hc3) ?_
    refine aq_aload_n (am_dg dkX11_write (i := 5) rfl) rfl ?_
    refine aq_getR (am_dg dkX11_write (i := 6) rfl) gk_11_66_0 (rf_0_6 hR) ?_
    refine aq_iload_n (am_dg dkX11_write (i := 7) rfl) rfl ?_
    obtain ⟨hg4, h⟩ := am_guard h
    refine aq_iald (am_dg dkX11_write (i := 8) rfl) sh_72 hg4 ?_
    refine aq_iconst (v := (-1 : Int32)) (am_dg dkX11_write (i := 9) rfl) (by decide) ?_
    by_cases hc5 : (q1.2.1 72 a1.toNatClampNeg) = (-1 : Int32)
    · rw [if_pos hc5] at h
      refine aq_icF (t := 22) (am_dg dkX11_write (i := 10) rfl) rfl (decide_eq_false (not_not_intro hc5)) ?_
      refine aq_bipush (v := (-11 : Int32)) (am_dg dkX11_write (i := 11) rfl) (by decide) ?_
      obtain rfl := Option.some.inj h
      exact aq_ireturn (am_dg dkX11_write (i := 12) rfl) rfl (Or.inl rfl) rfl
    · rw [if_neg hc5] at h
      refine aq_icT (t := 22) (am_dg dkX11_write (i := 10) rfl) rfl (decide_eq_true hc5) ?_
      refine aq_aload_n (am_dg dkX11_write (i := 13) rfl) rfl ?_
      refine aq_iload_n (am_dg dkX11_write (i := 14) rfl) rfl ?_
      refine aq_iload_n (am_dg dkX11_write (i := 15) rfl) rfl ?_
      obtain ⟨q6, hq7, h⟩ := am_bnd h
      refine aq_virt (a := [.ref 0, .int a1, .int a2]) (S1 := []) (v1 := .int q6.1) (S2 := [.int q6.1]) (am_dg dkX11_write (i := 16) rfl) cv_11_332_11 (am_cls_c sh_0 (by decide)) rfl rfl rfl (Nat.le_of_ble_eq_true rfl) (Nat.le_of_ble_eq_true rfl) (T_X11_hasItem_0 hR (by omega) hq7) rfl ?_
      by_cases hc8 : q6.1 = (0 : Int32)
      · rw [if_pos hc8] at h
        refine aq_ifF (t := 34) (am_dg dkX11_write (i := 17) rfl) rfl (decide_eq_false (not_not_intro hc8)) ?_
        refine aq_bipush (v := (-12 : Int32)) (am_dg dkX11_write (i := 18) rfl) (by decide) ?_
        obtain rfl := Option.some.inj h
        exact aq_ireturn (am_dg dkX11_write (i := 19) rfl) rfl (Or.inl rfl) rfl
      · rw [if_neg hc8] at h
        refine aq_ifT (t := 34) (am_dg dkX11_write (i := 17) rfl) rfl (decide_eq_true hc8) ?_
        refine aq_aload_n (am_dg dkX11_write (i := 20) rfl) rfl ?_
        refine aq_getR (am_dg dkX11_write (i := 21) rfl) gk_11_81_0 (rf_0_8 hR) ?_
        refine aq_iload_n (am_dg dkX11_write (i := 22) rfl) rfl ?_
        obtain ⟨hg9, h⟩ := am_guard h
        refine aq_aald (am_dg dkX11_write (i := 23) rfl) sh_74 (by decide) hg9 (fm_74 hR _ (am_in_lt hg9)) ?_
        refine aq_iload_n (am_dg dkX11_write (i := 24) rfl) rfl ?_
        refine aq_aload_n (am_dg dkX11_write (i := 25) rfl) rfl ?_
        refine aq_getR (am_dg dkX11_write (i := 26) rfl) gk_11_66_0 (rf_0_6 hR) ?_
        refine aq_iload_n (am_dg dkX11_write (i := 27) rfl) rfl ?_
        obtain ⟨hg10, h⟩ := am_guard h
        refine aq_iald (am_dg dkX11_write (i := 28) rfl) sh_72 hg10 ?_
        refine aq_iload_n (am_dg dkX11_write (i := 29) rfl) rfl ?_
        obtain ⟨q11, hq12, h⟩ := am_bnd h
        refine aq_static (a := [.int (q6.2.1 72 a1.toNatClampNeg), .int a3]) (S1 := [.int a2, .ref (75 + a1.toNatClampNeg)]) (v1 := .long q11.1) (S2 := [.long q11.1, .int a2, .ref (75 + a1.toNatClampNeg)]) (am_dg dkX11_write (i := 30) rfl) ct_11_336 rfl rfl rfl (Nat.le_of_ble_eq_true rfl) (Nat.le_of_ble_eq_true rfl) (T_X11_narrowed hR (by omega) hq12) rfl ?_
        obtain ⟨hg13, h⟩ := am_guard h
        refine aq_last (am_dg dkX11_write (i := 31) rfl) (fs_74 _ (am_in_lt hg9)) hg13 ?_
        obtain ⟨s14, hs15, h⟩ := am_bnd h
        rw [Option.some.inj hs15]
        refine aq_iconst (v := (1 : Int32)) (am_dg dkX11_write (i := 32) rfl) (by decide) ?_
        obtain rfl := Option.some.inj h
        exact aq_ireturn (am_dg dkX11_write (i := 33) rfl) rfl (Or.inl rfl) rfl
set_option maxRecDepth 20000 in
theorem T_X12_narrowed {sc : Option (Nat × (Nat → Int32))} {RF : Nat → Nat → Option Nat} {d : Nat} (hR : am_RFok RF) (hd : 0 ≤ d) {a0 : Int32} {a1 : Int32} {s : am_S} {r : Int32 × am_S} (h : F_X12_narrowed a0 a1 s = some r) : am_Q sc d mX12_narrowed (0, am_L0 mX12_narrowed [.int a0, .int a1], [], am_hp RF s) (.int r.1, am_hp RF r.2) := by
  unfold F_X12_narrowed at h
  show am_Q _ _ _ (0, [.int a0, .int a1], [], _) _
  refine aq_iload_n (am_dg dkX12_narrowed (i := 0) rfl) rfl ?_
  by_cases hc1 : a0 = (0 : Int32)
  · rw [if_pos hc1] at h
    refine aq_ifF (t := 9) (am_dg dkX12_narrowed (i := 1) rfl) rfl (decide_eq_false (not_not_intro hc1)) ?_
    refine aq_iload_n (am_dg dkX12_narrowed (i := 2) rfl) rfl ?_
    refine aq_i2b (am_dg dkX12_narrowed (i := 3) rfl) ?_
    refine aq_goto (t := 37) (am_dg dkX12_narrowed (i := 4) rfl) rfl ?_
    obtain rfl := Option.some.inj h
    exact aq_ireturn (am_dg dkX12_narrowed (i := 21) rfl) rfl (Or.inl rfl) rfl
  · rw [if_neg hc1] at h
    refine aq_ifT (t := 9) (am_dg dkX12_narrowed (i := 1) rfl) rfl (decide_eq_true hc1) ?_
    refine aq_iload_n (am_dg dkX12_narrowed (i := 5) rfl) rfl ?_
    refine aq_iconst (v := (1 : Int32)) (am_dg dkX12_narrowed (i := 6) rfl) (by decide) ?_
    by_cases hc2 : a0 = (1 : Int32)
    · rw [if_pos hc2] at h
      refine aq_icF (t := 19) (am_dg dkX12_narrowed (i := 7) rfl) rfl (decide_eq_false (not_not_intro hc2)) ?_
      refine aq_iload_n (am_dg dkX12_narrowed (i := 8) rfl) rfl ?_
      refine aq_i2s (am_dg dkX12_narrowed (i := 9) rfl) ?_
      refine aq_goto (t := 37) (am_dg dkX12_narrowed (i := 10) rfl) rfl ?_
      obtain rfl := Option.some.inj h
      exact aq_ireturn (am_dg dkX12_narrowed (i := 21) rfl) rfl (Or.inl rfl) rfl
    · rw [if_neg hc2] at h
      refine aq_icT (t := 19) (am_dg dkX12_narrowed (i := 7) rfl) rfl (decide_eq_true hc2) ?_
      refine aq_iload_n (am_dg dkX12_narrowed (i := 11) rfl) rfl ?_
      refine aq_iconst (v := (4 : Int32)) (am_dg dkX12_narrowed (i := 12) rfl) (by decide) ?_
      by_cases hc3 : a0 = (4 : Int32)
      · rw [if_pos hc3] at h
        refine aq_icF (t := 36) (am_dg dkX12_narrowed (i := 13) rfl) rfl (decide_eq_false (not_not_intro hc3)) ?_
        refine aq_iload_n (am_dg dkX12_narrowed (i := 14) rfl) rfl ?_
        by_cases hc4 : a1 = (0 : Int32)
        · rw [if_pos hc4] at h
          refine aq_ifF (t := 32) (am_dg dkX12_narrowed (i := 15) rfl) rfl (decide_eq_false (not_not_intro hc4)) ?_
          refine aq_iconst (v := (0 : Int32)) (am_dg dkX12_narrowed (i := 16) rfl) (by decide) ?_
          refine aq_goto (t := 37) (am_dg dkX12_narrowed (i := 17) rfl) rfl ?_
          obtain rfl := Option.some.inj h
          exact aq_ireturn (am_dg dkX12_narrowed (i := 21) rfl) rfl (Or.inl rfl) rfl
        · rw [if_neg hc4] at h
          refine aq_ifT (t := 32) (am_dg dkX12_narrowed (i := 15) rfl) rfl (decide_eq_true hc4) ?_
          refine aq_iconst (v := (1 : Int32)) (am_dg dkX12_narrowed (i := 18) rfl) (by decide) ?_
          refine aq_goto (t := 37) (am_dg dkX12_narrowed (i := 19) rfl) rfl ?_
          obtain rfl := Option.some.inj h
          exact aq_ireturn (am_dg dkX12_narrowed (i := 21) rfl) rfl (Or.inl rfl) rfl
      · rw [if_neg hc3] at h
        refine aq_icT (t := 36) (am_dg dkX12_narrowed (i := 13) rfl) rfl (decide_eq_true hc3) ?_
        refine aq_iload_n (am_dg dkX12_narrowed (i := 20) rfl) rfl ?_
        obtain rfl := Option.some.inj h
        exact aq_ireturn (am_dg dkX12_narrowed (i := 21) rfl) rfl (Or.inl rfl) rfl
set_option maxRecDepth 20000 in
theorem T_X12_write_82 {sc : Option (Nat × (Nat → Int32))} {RF : Nat → Nat → Option Nat} {d : Nat} (hR : am_RFok RF) (hd : 2 ≤ d) {a1 : Int32} {a2 : Int32} {a3 : Int32} {s : am_S} {r : Int32 × am_S} (h : F_X12_write_82 a1 a2 a3 s = some r) : am_Q sc d mX12_write (0, am_L0 mX12_write [.ref 82, .int a1, .int a2, .int a3], [], am_hp RF s) (.int r.1, am_hp RF r.2) := by
  obtain ⟨e, rfl⟩ : ∃ e, d = e + 1 := ⟨d - 1, by omega⟩
  unfold F_X12_write_82 at h
  show am_Q _ _ _ (0, [.ref 82, .int a1, .int a2, .int a3], [], _) _
  refine aq_iload_n (am_dg dkX12_write (i := 0) rfl) rfl ?_
  obtain ⟨q1, hq2, h⟩ := am_bnd h
  refine aq_static (a := [.int a1]) (S1 := []) (v1 := .int q1.1) (S2 := [.int q1.1]) (am_dg dkX12_write (i := 1) rfl) ct_12_403 rfl rfl rfl (Nat.le_of_ble_eq_true rfl) (Nat.le_of_ble_eq_true rfl) (T_X12_isOne hR (by omega) hq2) rfl ?_
  by_cases hc3 : q1.1 = (0 : Int32)
  · rw [if_pos hc3] at h
    refine aq_ifF (t := 9) (am_dg dkX12_write (i := 2) rfl) rfl (decide_eq_false (not_not_intro hc3)) ?_
    refine aq_iconst (v := (-1 : Int32)) (am_dg dkX12_write (i := 3) rfl) (by decide) ?_
    obtain rfl := Option.some.inj h
    exact aq_ireturn (am_dg dkX12_write (i := 4) rfl) rfl (Or.inl rfl) rfl
  · rw [if_neg hc3] at h
    refine aq_ifT (t := 9) (am_dg dkX12_write (i := 2) rfl) rfl (decide_eq_true hc3) ?_
    refine aq_aload_n (am_dg dkX12_write (i := 5) rfl) rfl ?_
    refine aq_getR (am_dg dkX12_write (i := 6) rfl) gk_12_40_82 (rf_82_29 hR) ?_
    refine aq_iload_n (am_dg dkX12_write (i := 7) rfl) rfl ?_
    obtain ⟨hg4, h⟩ := am_guard h
    refine aq_iald (am_dg dkX12_write (i := 8) rfl) sh_93 hg4 ?_
    by_cases hc5 : (0 : Int32) ≤ (q1.2.1 93 a1.toNatClampNeg)
    · rw [if_pos hc5] at h
      refine aq_ifT (t := 21) (am_dg dkX12_write (i := 9) rfl) rfl (decide_eq_true hc5) ?_
      refine aq_iload_n (am_dg dkX12_write (i := 12) rfl) rfl ?_
      refine aq_i2l (am_dg dkX12_write (i := 13) rfl) ?_
      refine aq_lconst (v := (0 : Int64)) (am_dg dkX12_write (i := 14) rfl) (by decide) ?_
      refine aq_aload_n (am_dg dkX12_write (i := 15) rfl) rfl ?_
      refine aq_getR (am_dg dkX12_write (i := 16) rfl) gk_12_43_82 (rf_82_30 hR) ?_
      refine aq_iload_n (am_dg dkX12_write (i := 17) rfl) rfl ?_
      obtain ⟨hg6, h⟩ := am_guard h
      refine aq_iald (am_dg dkX12_write (i := 18) rfl) sh_94 hg6 ?_
      refine aq_iconst (v := (1 : Int32)) (am_dg dkX12_write (i := 19) rfl) (by decide) ?_
      refine aq_isub (am_dg dkX12_write (i := 20) rfl) ?_
      refine aq_i2l (am_dg dkX12_write (i := 21) rfl) ?_
      obtain ⟨q7, hq8, h⟩ := am_bnd h
      refine aq_static (a := [.long a2.toInt64, .long (0 : Int64), .long ((q1.2.1 94 a1.toNatClampNeg) - (1 : Int32)).toInt64]) (S1 := []) (v1 := .int q7.1) (S2 := [.int q7.1]) (am_dg dkX12_write (i := 22) rfl) ct_12_61 rfl rfl rfl (Nat.le_of_ble_eq_true rfl) (Nat.le_of_ble_eq_true rfl) (T_X12_in hR (by omega) hq8) rfl ?_
      by_cases hc9 : q7.1 = (0 : Int32)
      · rw [if_pos hc9] at h
        refine aq_ifF (t := 42) (am_dg dkX12_write (i := 23) rfl) rfl (decide_eq_false (not_not_intro hc9)) ?_
        refine aq_bipush (v := (-12 : Int32)) (am_dg dkX12_write (i := 24) rfl) (by decide) ?_
        obtain rfl := Option.some.inj h
        exact aq_ireturn (am_dg dkX12_write (i := 25) rfl) rfl (Or.inl rfl) rfl
      · rw [if_neg hc9] at h
        refine aq_ifT (t := 42) (am_dg dkX12_write (i := 23) rfl) rfl (decide_eq_true hc9) ?_
        refine aq_aload_n (am_dg dkX12_write (i := 26) rfl) rfl ?_
        refine aq_getR (am_dg dkX12_write (i := 27) rfl) gk_12_46_82 (rf_82_31 hR) ?_
        refine aq_bipush (v := (40 : Int32)) (am_dg dkX12_write (i := 28) rfl) (by decide) ?_
        refine aq_iload_n (am_dg dkX12_write (i := 29) rfl) rfl ?_
        refine aq_imul (am_dg dkX12_write (i := 30) rfl) ?_
        refine aq_iload_n (am_dg dkX12_write (i := 31) rfl) rfl ?_
        refine aq_iadd (am_dg dkX12_write (i := 32) rfl) ?_
        refine aq_aload_n (am_dg dkX12_write (i := 33) rfl) rfl ?_
        refine aq_getR (am_dg dkX12_write (i := 34) rfl) gk_12_40_82 (rf_82_29 hR) ?_
        refine aq_iload_n (am_dg dkX12_write (i := 35) rfl) rfl ?_
        obtain ⟨hg10, h⟩ := am_guard h
        refine aq_iald (am_dg dkX12_write (i := 36) rfl) sh_93 hg10 ?_
        refine aq_iload_n (am_dg dkX12_write (i := 37) rfl) rfl ?_
        obtain ⟨q11, hq12, h⟩ := am_bnd h
        refine aq_static (a := [.int (q7.2.1 93 a1.toNatClampNeg), .int a3]) (S1 := [.int (((40 : Int32) * a1) + a2), .ref 95]) (v1 := .int q11.1) (S2 := [.int q11.1, .int (((40 : Int32) * a1) + a2), .ref 95]) (am_dg dkX12_write (i := 38) rfl) ct_12_406 rfl rfl rfl (Nat.le_of_ble_eq_true rfl) (Nat.le_of_ble_eq_true rfl) (T_X12_narrowed hR (by omega) hq12) rfl ?_
        obtain ⟨hg13, h⟩ := am_guard h
        refine aq_iast (am_dg dkX12_write (i := 39) rfl) sh_95 hg13 ?_
        obtain ⟨s14, hs15, h⟩ := am_bnd h
        rw [Option.some.inj hs15]
        refine aq_iconst (v := (1 : Int32)) (am_dg dkX12_write (i := 40) rfl) (by decide) ?_
        obtain rfl := Option.some.inj h
        exact aq_ireturn (am_dg dkX12_write (i := 41) rfl) rfl (Or.inl rfl) rfl
    · rw [if_neg hc5] at h
      refine aq_ifF (t := 21) (am_dg dkX12_write (i := 9) rfl) rfl (decide_eq_false hc5) ?_
      refine aq_bipush (v := (-11 : Int32)) (am_dg dkX12_write (i := 10) rfl) (by decide) ?_
      obtain rfl := Option.some.inj h
      exact aq_ireturn (am_dg dkX12_write (i := 11) rfl) rfl (Or.inl rfl) rfl
set_option maxRecDepth 20000 in
theorem T_X11_isSort {sc : Option (Nat × (Nat → Int32))} {RF : Nat → Nat → Option Nat} {d : Nat} (hR : am_RFok RF) (hd : 1 ≤ d) {a0 : Int32} {s : am_S} {r : Int32 × am_S} (h : F_X11_isSort a0 s = some r) : am_Q sc d mX11_isSort (0, am_L0 mX11_isSort [.int a0], [], am_hp RF s) (.int r.1, am_hp RF r.2) := by
  obtain ⟨e, rfl⟩ : ∃ e, d = e + 1 := ⟨d - 1, by omega⟩
  unfold F_X11_isSort at h
  show am_Q _ _ _ (0, [.int a0], [], _) _
  refine aq_iload_n (am_dg dkX11_isSort (i := 0) rfl) rfl ?_
  refine aq_iconst (v := (0 : Int32)) (am_dg dkX11_isSort (i := 1) rfl) (by decide) ?_
  refine aq_iconst (v := (4 : Int32)) (am_dg dkX11_isSort (i := 2) rfl) (by decide) ?_
  obtain ⟨q1, hq2, h⟩ := am_bnd h
  refine aq_static (a := [.int a0, .int (0 : Int32), .int (4 : Int32)]) (S1 := []) (v1 := .int q1.1) (S2 := [.int q1.1]) (am_dg dkX11_isSort (i := 3) rfl) ct_11_149 rfl rfl rfl (Nat.le_of_ble_eq_true rfl) (Nat.le_of_ble_eq_true rfl) (T_X11_isWithin hR (by omega) hq2) rfl ?_
  obtain ⟨hg3, h⟩ := am_guard h
  obtain rfl := Option.some.inj h
  exact aq_ireturn (am_dg dkX11_isSort (i := 4) rfl) rfl (Or.inr (Or.inl rfl)) (am_nz hg3)
set_option maxRecDepth 20000 in
theorem T_X11_refusalAs_0 {sc : Option (Nat × (Nat → Int32))} {RF : Nat → Nat → Option Nat} {d : Nat} (hR : am_RFok RF) (hd : 0 ≤ d) {a1 : Int32} {a2 : Int32} {s : am_S} {r : Int32 × am_S} (h : F_X11_refusalAs_0 a1 a2 s = some r) : am_Q sc d mX11_refusalAs (0, am_L0 mX11_refusalAs [.ref 0, .int a1, .int a2], [], am_hp RF s) (.int r.1, am_hp RF r.2) := by
  unfold F_X11_refusalAs_0 at h
  show am_Q _ _ _ (0, [.ref 0, .int a1, .int a2], [], _) _
  refine aq_aload_n (am_dg dkX11_refusalAs (i := 0) rfl) rfl ?_
  refine aq_getR (am_dg dkX11_refusalAs (i := 1) rfl) gk_11_66_0 (rf_0_6 hR) ?_
  refine aq_iload_n (am_dg dkX11_refusalAs (i := 2) rfl) rfl ?_
  obtain ⟨hg1, h⟩ := am_guard h
  refine aq_iald (am_dg dkX11_refusalAs (i := 3) rfl) sh_72 hg1 ?_
  refine aq_iconst (v := (-1 : Int32)) (am_dg dkX11_refusalAs (i := 4) rfl) (by decide) ?_
  by_cases hc2 : (s.1 72 a1.toNatClampNeg) = (-1 : Int32)
  · rw [if_pos hc2] at h
    refine aq_icF (t := 13) (am_dg dkX11_refusalAs (i := 5) rfl) rfl (decide_eq_false (not_not_intro hc2)) ?_
    refine aq_bipush (v := (-11 : Int32)) (am_dg dkX11_refusalAs (i := 6) rfl) (by decide) ?_
    obtain rfl := Option.some.inj h
    exact aq_ireturn (am_dg dkX11_refusalAs (i := 7) rfl) rfl (Or.inl rfl) rfl
  · rw [if_neg hc2] at h
    refine aq_icT (t := 13) (am_dg dkX11_refusalAs (i := 5) rfl) rfl (decide_eq_true hc2) ?_
    refine aq_aload_n (am_dg dkX11_refusalAs (i := 8) rfl) rfl ?_
    refine aq_getR (am_dg dkX11_refusalAs (i := 9) rfl) gk_11_66_0 (rf_0_6 hR) ?_
    refine aq_iload_n (am_dg dkX11_refusalAs (i := 10) rfl) rfl ?_
    obtain ⟨hg3, h⟩ := am_guard h
    refine aq_iald (am_dg dkX11_refusalAs (i := 11) rfl) sh_72 hg3 ?_
    refine aq_iload_n (am_dg dkX11_refusalAs (i := 12) rfl) rfl ?_
    by_cases hc4 : (s.1 72 a1.toNatClampNeg) = a2
    · rw [if_pos hc4] at h
      refine aq_icF (t := 27) (am_dg dkX11_refusalAs (i := 13) rfl) rfl (decide_eq_false (not_not_intro hc4)) ?_
      refine aq_iconst (v := (0 : Int32)) (am_dg dkX11_refusalAs (i := 14) rfl) (by decide) ?_
      refine aq_goto (t := 29) (am_dg dkX11_refusalAs (i := 15) rfl) rfl ?_
      obtain rfl := Option.some.inj h
      exact aq_ireturn (am_dg dkX11_refusalAs (i := 17) rfl) rfl (Or.inl rfl) rfl
    · rw [if_neg hc4] at h
      refine aq_icT (t := 27) (am_dg dkX11_refusalAs (i := 13) rfl) rfl (decide_eq_true hc4) ?_
      refine aq_bipush (v := (-13 : Int32)) (am_dg dkX11_refusalAs (i := 16) rfl) (by decide) ?_
      obtain rfl := Option.some.inj h
      exact aq_ireturn (am_dg dkX11_refusalAs (i := 17) rfl) rfl (Or.inl rfl) rfl
set_option maxRecDepth 20000 in
theorem T_X11_item_0 {sc : Option (Nat × (Nat → Int32))} {RF : Nat → Nat → Option Nat} {d : Nat} (hR : am_RFok RF) (hd : 2 ≤ d) {a1 : Int32} {a2 : Int32} {a3 : Int32} {s : am_S} {r : Int32 × am_S} (h : F_X11_item_0 a1 a2 a3 s = some r) : am_Q sc d mX11_item (0, am_L0 mX11_item [.ref 0, .int a1, .int a2, .int a3], [], am_hp RF s) (.int r.1, am_hp RF r.2) := by
  obtain ⟨e, rfl⟩ : ∃ e, d = e + 1 := ⟨d - 1, by omega⟩
  unfold F_X11_item_0 at h
  show am_Q _ _ _ (0, [.ref 0, .int a1, .int a2, .int a3, .null], [], _) _
  refine aq_iload_n (am_dg dkX11_item (i := 0) rfl) rfl ?_
  obtain ⟨q1, hq2, h⟩ := am_bnd h
  refine aq_static (a := [.int a1]) (S1 := []) (v1 := .int q1.1) (S2 := [.int q1.1]) (am_dg dkX11_item (i := 1) rfl) ct_11_326 rfl rfl rfl (Nat.le_of_ble_eq_true rfl) (Nat.le_of_ble_eq_true rfl) (T_X11_isSheet hR (by omega) hq2) rfl ?_
  by_cases hc3 : q1.1 = (0 : Int32)
  · rw [if_pos hc3] at h
    refine aq_ifT (t := 14) (am_dg dkX11_item (i := 2) rfl) rfl (decide_eq_true hc3) ?_
    refine aq_iconst (v := (-1 : Int32)) (am_dg dkX11_item (i := 6) rfl) (by decide) ?_
    obtain rfl := Option.some.inj h
    exact aq_ireturn (am_dg dkX11_item (i := 7) rfl) rfl (Or.inl rfl) rfl
  · rw [if_neg hc3] at h
    refine aq_ifF (t := 14) (am_dg dkX11_item (i := 2) rfl) rfl (decide_eq_false hc3) ?_
    refine aq_iload_n (am_dg dkX11_item (i := 3) rfl) rfl ?_
    obtain ⟨q4, hq5, h⟩ := am_bnd h
    refine aq_static (a := [.int a2]) (S1 := []) (v1 := .int q4.1) (S2 := [.int q4.1]) (am_dg dkX11_item (i := 4) rfl) ct_11_340 rfl rfl rfl (Nat.le_of_ble_eq_true rfl) (Nat.le_of_ble_eq_true rfl) (T_X11_isSort hR (by omega) hq5) rfl ?_
    by_cases hc6 : q4.1 = (0 : Int32)
    · rw [if_pos hc6] at h
      refine aq_ifF (t := 16) (am_dg dkX11_item (i := 5) rfl) rfl (decide_eq_false (not_not_intro hc6)) ?_
      refine aq_iconst (v := (-1 : Int32)) (am_dg dkX11_item (i := 6) rfl) (by decide) ?_
      obtain rfl := Option.some.inj h
      exact aq_ireturn (am_dg dkX11_item (i := 7) rfl) rfl (Or.inl rfl) rfl
    · rw [if_neg hc6] at h
      refine aq_ifT (t := 16) (am_dg dkX11_item (i := 5) rfl) rfl (decide_eq_true hc6) ?_
      refine aq_aload_n (am_dg dkX11_item (i := 8) rfl) rfl ?_
      refine aq_iload_n (am_dg dkX11_item (i := 9) rfl) rfl ?_
      refine aq_iload_n (am_dg dkX11_item (i := 10) rfl) rfl ?_
      obtain ⟨q7, hq8, h⟩ := am_bnd h
      refine aq_virt (a := [.ref 0, .int a1, .int a2]) (S1 := []) (v1 := .int q7.1) (S2 := [.int q7.1]) (am_dg dkX11_item (i := 11) rfl) cv_11_343_11 (am_cls_c sh_0 (by decide)) rfl rfl rfl (Nat.le_of_ble_eq_true rfl) (Nat.le_of_ble_eq_true rfl) (T_X11_refusalAs_0 hR (by omega) hq8) rfl ?_
      refine aq_istore (L1 := [.ref 0, .int a1, .int a2, .int a3, .int q7.1]) (am_dg dkX11_item (i := 12) rfl) rfl ?_
      refine aq_iload (am_dg dkX11_item (i := 13) rfl) rfl ?_
      by_cases hc9 : q7.1 = (0 : Int32)
      · rw [if_pos hc9] at h
        refine aq_ifT (t := 32) (am_dg dkX11_item (i := 14) rfl) rfl (decide_eq_true hc9) ?_
        refine aq_aload_n (am_dg dkX11_item (i := 17) rfl) rfl ?_
        refine aq_iload_n (am_dg dkX11_item (i := 18) rfl) rfl ?_
        refine aq_iload_n (am_dg dkX11_item (i := 19) rfl) rfl ?_
        obtain ⟨q10, hq11, h⟩ := am_bnd h
        refine aq_virt (a := [.ref 0, .int a1, .int a3]) (S1 := []) (v1 := .int q10.1) (S2 := [.int q10.1]) (am_dg dkX11_item (i := 20) rfl) cv_11_332_11 (am_cls_c sh_0 (by decide)) rfl rfl rfl (Nat.le_of_ble_eq_true rfl) (Nat.le_of_ble_eq_true rfl) (T_X11_hasItem_0 hR (by omega) hq11) rfl ?_
        by_cases hc12 : q10.1 = (0 : Int32)
        · rw [if_pos hc12] at h
          refine aq_ifT (t := 53) (am_dg dkX11_item (i := 21) rfl) rfl (decide_eq_true hc12) ?_
          refine aq_bipush (v := (-12 : Int32)) (am_dg dkX11_item (i := 30) rfl) (by decide) ?_
          obtain rfl := Option.some.inj h
          exact aq_ireturn (am_dg dkX11_item (i := 31) rfl) rfl (Or.inl rfl) rfl
        · rw [if_neg hc12] at h
          refine aq_ifF (t := 53) (am_dg dkX11_item (i := 21) rfl) rfl (decide_eq_false hc12) ?_
          refine aq_aload_n (am_dg dkX11_item (i := 22) rfl) rfl ?_
          refine aq_getR (am_dg dkX11_item (i := 23) rfl) gk_11_81_0 (rf_0_8 hR) ?_
          refine aq_iload_n (am_dg dkX11_item (i := 24) rfl) rfl ?_
          obtain ⟨hg13, h⟩ := am_guard h
          refine aq_aald (am_dg dkX11_item (i := 25) rfl) sh_74 (by decide) hg13 (fm_74 hR _ (am_in_lt hg13)) ?_
          refine aq_iload_n (am_dg dkX11_item (i := 26) rfl) rfl ?_
          obtain ⟨hg14, h⟩ := am_guard h
          refine aq_lald (am_dg dkX11_item (i := 27) rfl) (fs_74 _ (am_in_lt hg13)) hg14 ?_
          refine aq_l2i (am_dg dkX11_item (i := 28) rfl) ?_
          refine aq_goto (t := 55) (am_dg dkX11_item (i := 29) rfl) rfl ?_
          obtain rfl := Option.some.inj h
          exact aq_ireturn (am_dg dkX11_item (i := 31) rfl) rfl (Or.inl rfl) rfl
      · rw [if_neg hc9] at h
        refine aq_ifF (t := 32) (am_dg dkX11_item (i := 14) rfl) rfl (decide_eq_false hc9) ?_
        refine aq_iload (am_dg dkX11_item (i := 15) rfl) rfl ?_
        obtain rfl := Option.some.inj h
        exact aq_ireturn (am_dg dkX11_item (i := 16) rfl) rfl (Or.inl rfl) rfl
set_option maxRecDepth 20000 in
theorem T_X12_whyNot_82 {sc : Option (Nat × (Nat → Int32))} {RF : Nat → Nat → Option Nat} {d : Nat} (hR : am_RFok RF) (hd : 0 ≤ d) {a1 : Int32} {a2 : Int32} {s : am_S} {r : Int32 × am_S} (h : F_X12_whyNot_82 a1 a2 s = some r) : am_Q sc d mX12_whyNot (0, am_L0 mX12_whyNot [.ref 82, .int a1, .int a2], [], am_hp RF s) (.int r.1, am_hp RF r.2) := by
  unfold F_X12_whyNot_82 at h
  show am_Q _ _ _ (0, [.ref 82, .int a1, .int a2], [], _) _
  refine aq_aload_n (am_dg dkX12_whyNot (i := 0) rfl) rfl ?_
  refine aq_getR (am_dg dkX12_whyNot (i := 1) rfl) gk_12_40_82 (rf_82_29 hR) ?_
  refine aq_iload_n (am_dg dkX12_whyNot (i := 2) rfl) rfl ?_
  obtain ⟨hg1, h⟩ := am_guard h
  refine aq_iald (am_dg dkX12_whyNot (i := 3) rfl) sh_93 hg1 ?_
  by_cases hc2 : (0 : Int32) ≤ (s.1 93 a1.toNatClampNeg)
  · rw [if_pos hc2] at h
    refine aq_ifT (t := 14) (am_dg dkX12_whyNot (i := 4) rfl) rfl (decide_eq_true hc2) ?_
    refine aq_aload_n (am_dg dkX12_whyNot (i := 7) rfl) rfl ?_
    refine aq_getR (am_dg dkX12_whyNot (i := 8) rfl) gk_12_40_82 (rf_82_29 hR) ?_
    refine aq_iload_n (am_dg dkX12_whyNot (i := 9) rfl) rfl ?_
    obtain ⟨hg3, h⟩ := am_guard h
    refine aq_iald (am_dg dkX12_whyNot (i := 10) rfl) sh_93 hg3 ?_
    refine aq_iload_n (am_dg dkX12_whyNot (i := 11) rfl) rfl ?_
    by_cases hc4 : (s.1 93 a1.toNatClampNeg) = a2
    · rw [if_pos hc4] at h
      refine aq_icT (t := 29) (am_dg dkX12_whyNot (i := 12) rfl) rfl (decide_eq_true hc4) ?_
      refine aq_iconst (v := (0 : Int32)) (am_dg dkX12_whyNot (i := 15) rfl) (by decide) ?_
      obtain rfl := Option.some.inj h
      exact aq_ireturn (am_dg dkX12_whyNot (i := 16) rfl) rfl (Or.inl rfl) rfl
    · rw [if_neg hc4] at h
      refine aq_icF (t := 29) (am_dg dkX12_whyNot (i := 12) rfl) rfl (decide_eq_false hc4) ?_
      refine aq_bipush (v := (-13 : Int32)) (am_dg dkX12_whyNot (i := 13) rfl) (by decide) ?_
      refine aq_goto (t := 30) (am_dg dkX12_whyNot (i := 14) rfl) rfl ?_
      obtain rfl := Option.some.inj h
      exact aq_ireturn (am_dg dkX12_whyNot (i := 16) rfl) rfl (Or.inl rfl) rfl
  · rw [if_neg hc2] at h
    refine aq_ifF (t := 14) (am_dg dkX12_whyNot (i := 4) rfl) rfl (decide_eq_false hc2) ?_
    refine aq_bipush (v := (-11 : Int32)) (am_dg dkX12_whyNot (i := 5) rfl) (by decide) ?_
    refine aq_goto (t := 30) (am_dg dkX12_whyNot (i := 6) rfl) rfl ?_
    obtain rfl := Option.some.inj h
    exact aq_ireturn (am_dg dkX12_whyNot (i := 16) rfl) rfl (Or.inl rfl) rfl
set_option maxRecDepth 20000 in
theorem T_X12_item_82 {sc : Option (Nat × (Nat → Int32))} {RF : Nat → Nat → Option Nat} {d : Nat} (hR : am_RFok RF) (hd : 2 ≤ d) {a1 : Int32} {a2 : Int32} {a3 : Int32} {s : am_S} {r : Int32 × am_S} (h : F_X12_item_82 a1 a2 a3 s = some r) : am_Q sc d mX12_item (0, am_L0 mX12_item [.ref 82, .int a1, .int a2, .int a3], [], am_hp RF s) (.int r.1, am_hp RF r.2) := by
  obtain ⟨e, rfl⟩ : ∃ e, d = e + 1 := ⟨d - 1, by omega⟩
  unfold F_X12_item_82 at h
  show am_Q _ _ _ (0, [.ref 82, .int a1, .int a2, .int a3, .null], [], _) _
  refine aq_iload_n (am_dg dkX12_item (i := 0) rfl) rfl ?_
  obtain ⟨q1, hq2, h⟩ := am_bnd h
  refine aq_static (a := [.int a1]) (S1 := []) (v1 := .int q1.1) (S2 := [.int q1.1]) (am_dg dkX12_item (i := 1) rfl) ct_12_403 rfl rfl rfl (Nat.le_of_ble_eq_true rfl) (Nat.le_of_ble_eq_true rfl) (T_X12_isOne hR (by omega) hq2) rfl ?_
  by_cases hc3 : q1.1 = (0 : Int32)
  · rw [if_pos hc3] at h
    refine aq_ifT (t := 19) (am_dg dkX12_item (i := 2) rfl) rfl (decide_eq_true hc3) ?_
    refine aq_iconst (v := (-1 : Int32)) (am_dg dkX12_item (i := 9) rfl) (by decide) ?_
    obtain rfl := Option.some.inj h
    exact aq_ireturn (am_dg dkX12_item (i := 10) rfl) rfl (Or.inl rfl) rfl
  · rw [if_neg hc3] at h
    refine aq_ifF (t := 19) (am_dg dkX12_item (i := 2) rfl) rfl (decide_eq_false hc3) ?_
    refine aq_iload_n (am_dg dkX12_item (i := 3) rfl) rfl ?_
    refine aq_i2l (am_dg dkX12_item (i := 4) rfl) ?_
    refine aq_lconst (v := (0 : Int64)) (am_dg dkX12_item (i := 5) rfl) (by decide) ?_
    refine aq_ldc2 (am_dg dkX12_item (i := 6) rfl) cl_12_226 ?_
    obtain ⟨q4, hq5, h⟩ := am_bnd h
    refine aq_static (a := [.long a2.toInt64, .long (0 : Int64), .long (4 : Int64)]) (S1 := []) (v1 := .int q4.1) (S2 := [.int q4.1]) (am_dg dkX12_item (i := 7) rfl) ct_12_61 rfl rfl rfl (Nat.le_of_ble_eq_true rfl) (Nat.le_of_ble_eq_true rfl) (T_X12_in hR (by omega) hq5) rfl ?_
    by_cases hc6 : q4.1 = (0 : Int32)
    · rw [if_pos hc6] at h
      refine aq_ifF (t := 21) (am_dg dkX12_item (i := 8) rfl) rfl (decide_eq_false (not_not_intro hc6)) ?_
      refine aq_iconst (v := (-1 : Int32)) (am_dg dkX12_item (i := 9) rfl) (by decide) ?_
      obtain rfl := Option.some.inj h
      exact aq_ireturn (am_dg dkX12_item (i := 10) rfl) rfl (Or.inl rfl) rfl
    · rw [if_neg hc6] at h
      refine aq_ifT (t := 21) (am_dg dkX12_item (i := 8) rfl) rfl (decide_eq_true hc6) ?_
      refine aq_aload_n (am_dg dkX12_item (i := 11) rfl) rfl ?_
      refine aq_iload_n (am_dg dkX12_item (i := 12) rfl) rfl ?_
      refine aq_iload_n (am_dg dkX12_item (i := 13) rfl) rfl ?_
      obtain ⟨q7, hq8, h⟩ := am_bnd h
      refine aq_virt (a := [.ref 82, .int a1, .int a2]) (S1 := []) (v1 := .int q7.1) (S2 := [.int q7.1]) (am_dg dkX12_item (i := 14) rfl) cv_12_409_12 (am_cls_c sh_82 (by decide)) rfl rfl rfl (Nat.le_of_ble_eq_true rfl) (Nat.le_of_ble_eq_true rfl) (T_X12_whyNot_82 hR (by omega) hq8) rfl ?_
      refine aq_istore (L1 := [.ref 82, .int a1, .int a2, .int a3, .int q7.1]) (am_dg dkX12_item (i := 15) rfl) rfl ?_
      refine aq_iload (am_dg dkX12_item (i := 16) rfl) rfl ?_
      by_cases hc9 : q7.1 = (0 : Int32)
      · rw [if_pos hc9] at h
        refine aq_ifT (t := 39) (am_dg dkX12_item (i := 17) rfl) rfl (decide_eq_true hc9) ?_
        refine aq_iload_n (am_dg dkX12_item (i := 20) rfl) rfl ?_
        refine aq_i2l (am_dg dkX12_item (i := 21) rfl) ?_
        refine aq_lconst (v := (0 : Int64)) (am_dg dkX12_item (i := 22) rfl) (by decide) ?_
        refine aq_aload_n (am_dg dkX12_item (i := 23) rfl) rfl ?_
        refine aq_getR (am_dg dkX12_item (i := 24) rfl) gk_12_43_82 (rf_82_30 hR) ?_
        refine aq_iload_n (am_dg dkX12_item (i := 25) rfl) rfl ?_
        obtain ⟨hg10, h⟩ := am_guard h
        refine aq_iald (am_dg dkX12_item (i := 26) rfl) sh_94 hg10 ?_
        refine aq_iconst (v := (1 : Int32)) (am_dg dkX12_item (i := 27) rfl) (by decide) ?_
        refine aq_isub (am_dg dkX12_item (i := 28) rfl) ?_
        refine aq_i2l (am_dg dkX12_item (i := 29) rfl) ?_
        obtain ⟨q11, hq12, h⟩ := am_bnd h
        refine aq_static (a := [.long a3.toInt64, .long (0 : Int64), .long ((q7.2.1 94 a1.toNatClampNeg) - (1 : Int32)).toInt64]) (S1 := []) (v1 := .int q11.1) (S2 := [.int q11.1]) (am_dg dkX12_item (i := 30) rfl) ct_12_61 rfl rfl rfl (Nat.le_of_ble_eq_true rfl) (Nat.le_of_ble_eq_true rfl) (T_X12_in hR (by omega) hq12) rfl ?_
        by_cases hc13 : q11.1 = (0 : Int32)
        · rw [if_pos hc13] at h
          refine aq_ifT (t := 71) (am_dg dkX12_item (i := 31) rfl) rfl (decide_eq_true hc13) ?_
          refine aq_bipush (v := (-12 : Int32)) (am_dg dkX12_item (i := 41) rfl) (by decide) ?_
          obtain rfl := Option.some.inj h
          exact aq_ireturn (am_dg dkX12_item (i := 42) rfl) rfl (Or.inl rfl) rfl
        · rw [if_neg hc13] at h
          refine aq_ifF (t := 71) (am_dg dkX12_item (i := 31) rfl) rfl (decide_eq_false hc13) ?_
          refine aq_aload_n (am_dg dkX12_item (i := 32) rfl) rfl ?_
          refine aq_getR (am_dg dkX12_item (i := 33) rfl) gk_12_46_82 (rf_82_31 hR) ?_
          refine aq_bipush (v := (40 : Int32)) (am_dg dkX12_item (i := 34) rfl) (by decide) ?_
          refine aq_iload_n (am_dg dkX12_item (i := 35) rfl) rfl ?_
          refine aq_imul (am_dg dkX12_item (i := 36) rfl) ?_
          refine aq_iload_n (am_dg dkX12_item (i := 37) rfl) rfl ?_
          refine aq_iadd (am_dg dkX12_item (i := 38) rfl) ?_
          obtain ⟨hg14, h⟩ := am_guard h
          refine aq_iald (am_dg dkX12_item (i := 39) rfl) sh_95 hg14 ?_
          refine aq_goto (t := 73) (am_dg dkX12_item (i := 40) rfl) rfl ?_
          obtain rfl := Option.some.inj h
          exact aq_ireturn (am_dg dkX12_item (i := 42) rfl) rfl (Or.inl rfl) rfl
      · rw [if_neg hc9] at h
        refine aq_ifF (t := 39) (am_dg dkX12_item (i := 17) rfl) rfl (decide_eq_false hc9) ?_
        refine aq_iload (am_dg dkX12_item (i := 18) rfl) rfl ?_
        refine aq_goto (t := 73) (am_dg dkX12_item (i := 19) rfl) rfl ?_
        obtain rfl := Option.some.inj h
        exact aq_ireturn (am_dg dkX12_item (i := 42) rfl) rfl (Or.inl rfl) rfl
set_option maxRecDepth 20000 in
theorem T_X11_refusalOfActs_0 {sc : Option (Nat × (Nat → Int32))} {RF : Nat → Nat → Option Nat} {d : Nat} (hR : am_RFok RF) (hd : 2 ≤ d) {a1 : Int32} {a2 : Int32} {s : am_S} {r : Int32 × am_S} (h : F_X11_refusalOfActs_0 a1 a2 s = some r) : am_Q sc d mX11_refusalOfActs (0, am_L0 mX11_refusalOfActs [.ref 0, .int a1, .int a2], [], am_hp RF s) (.int r.1, am_hp RF r.2) := by
  obtain ⟨e, rfl⟩ : ∃ e, d = e + 1 := ⟨d - 1, by omega⟩
  unfold F_X11_refusalOfActs_0 at h
  show am_Q _ _ _ (0, [.ref 0, .int a1, .int a2], [], _) _
  refine aq_iload_n (am_dg dkX11_refusalOfActs (i := 0) rfl) rfl ?_
  obtain ⟨q1, hq2, h⟩ := am_bnd h
  refine aq_static (a := [.int a1]) (S1 := []) (v1 := .int q1.1) (S2 := [.int q1.1]) (am_dg dkX11_refusalOfActs (i := 1) rfl) ct_11_326 rfl rfl rfl (Nat.le_of_ble_eq_true rfl) (Nat.le_of_ble_eq_true rfl) (T_X11_isSheet hR (by omega) hq2) rfl ?_
  by_cases hc3 : q1.1 = (0 : Int32)
  · rw [if_pos hc3] at h
    refine aq_ifT (t := 26) (am_dg dkX11_refusalOfActs (i := 2) rfl) rfl (decide_eq_true hc3) ?_
    refine aq_iconst (v := (-1 : Int32)) (am_dg dkX11_refusalOfActs (i := 13) rfl) (by decide) ?_
    obtain rfl := Option.some.inj h
    exact aq_ireturn (am_dg dkX11_refusalOfActs (i := 14) rfl) rfl (Or.inl rfl) rfl
  · rw [if_neg hc3] at h
    refine aq_ifF (t := 26) (am_dg dkX11_refusalOfActs (i := 2) rfl) rfl (decide_eq_false hc3) ?_
    refine aq_iload_n (am_dg dkX11_refusalOfActs (i := 3) rfl) rfl ?_
    refine aq_iconst (v := (0 : Int32)) (am_dg dkX11_refusalOfActs (i := 4) rfl) (by decide) ?_
    refine aq_bipush (v := (20 : Int32)) (am_dg dkX11_refusalOfActs (i := 5) rfl) (by decide) ?_
    obtain ⟨q4, hq5, h⟩ := am_bnd h
    refine aq_static (a := [.int a2, .int (0 : Int32), .int (20 : Int32)]) (S1 := []) (v1 := .int q4.1) (S2 := [.int q4.1]) (am_dg dkX11_refusalOfActs (i := 6) rfl) ct_11_149 rfl rfl rfl (Nat.le_of_ble_eq_true rfl) (Nat.le_of_ble_eq_true rfl) (T_X11_isWithin hR (by omega) hq5) rfl ?_
    by_cases hc6 : q4.1 = (0 : Int32)
    · rw [if_pos hc6] at h
      refine aq_ifT (t := 26) (am_dg dkX11_refusalOfActs (i := 7) rfl) rfl (decide_eq_true hc6) ?_
      refine aq_iconst (v := (-1 : Int32)) (am_dg dkX11_refusalOfActs (i := 13) rfl) (by decide) ?_
      obtain rfl := Option.some.inj h
      exact aq_ireturn (am_dg dkX11_refusalOfActs (i := 14) rfl) rfl (Or.inl rfl) rfl
    · rw [if_neg hc6] at h
      refine aq_ifF (t := 26) (am_dg dkX11_refusalOfActs (i := 7) rfl) rfl (decide_eq_false hc6) ?_
      refine aq_aload_n (am_dg dkX11_refusalOfActs (i := 8) rfl) rfl ?_
      refine aq_iload_n (am_dg dkX11_refusalOfActs (i := 9) rfl) rfl ?_
      refine aq_iconst (v := (0 : Int32)) (am_dg dkX11_refusalOfActs (i := 10) rfl) (by decide) ?_
      obtain ⟨q7, hq8, h⟩ := am_bnd h
      refine aq_virt (a := [.ref 0, .int a1, .int (0 : Int32)]) (S1 := []) (v1 := .int q7.1) (S2 := [.int q7.1]) (am_dg dkX11_refusalOfActs (i := 11) rfl) cv_11_343_11 (am_cls_c sh_0 (by decide)) rfl rfl rfl (Nat.le_of_ble_eq_true rfl) (Nat.le_of_ble_eq_true rfl) (T_X11_refusalAs_0 hR (by omega) hq8) rfl ?_
      refine aq_goto (t := 27) (am_dg dkX11_refusalOfActs (i := 12) rfl) rfl ?_
      obtain rfl := Option.some.inj h
      exact aq_ireturn (am_dg dkX11_refusalOfActs (i := 14) rfl) rfl (Or.inl rfl) rfl
set_option maxRecDepth 20000 in
theorem T_X11_goAll_0_b83 {sc : Option (Nat × (Nat → Int32))} {RF : Nat → Nat → Option Nat} {d : Nat} (hR : am_RFok RF) (hd : 5 ≤ d) {k22 : Int32 → Int32 → Int32 → Int32 → Int32 → Int32 → am_S → Option (Int32 × am_S)} (hk22 : ∀ (x1 : Int32) (x2 : Int32) (x3 : Int32) (x4 : Int32) (x5 : Int32) (x6 : Int32) (w7 : Value) (s2 : am_S) (r2 : Int32 × am_S), k22 x1 x2 x3 x4 x5 x6 s2 = some r2 → am_Q sc d mX11_goAll (22, [.ref 0, .int x1, .int x2, .int x3, .int x4, .int x5, .int x6, w7], [], am_hp RF s2) (.int r2.1, am_hp RF r2.2)) : ∀ (x1 : Int32) (x2 : Int32) (x3 : Int32) (x4 : Int32) (x5 : Int32) (x6 : Int32) (w7 : Value) (s : am_S) (r : Int32 × am_S), F_X11_goAll_0_b83 k22 x1 x2 x3 x4 x5 x6 s = some r → am_Q sc d mX11_goAll (83, [.ref 0, .int x1, .int x2, .int x3, .int x4, .int x5, .int x6, w7], [], am_hp RF s) (.int r.1, am_hp RF r.2) := by
  obtain ⟨e, rfl⟩ : ∃ e, d = e + 1 := ⟨d - 1, by omega⟩
  intro x1 x2 x3 x4 x5 x6 w7 s r h
  unfold F_X11_goAll_0_b83 at h
  refine aq_iinc (v := (1 : Int32)) (L1 := [.ref 0, .int x1, .int x2, .int x3, .int x4, .int x5, .int (x6 + (1 : Int32)), w7]) (am_dg dkX11_goAll (i := 47) rfl) rfl (by decide) rfl ?_
  refine aq_goto (t := 22) (am_dg dkX11_goAll (i := 48) rfl) rfl ?_
  exact hk22 _ _ _ _ _ _ _ _ _ h
set_option maxRecDepth 20000 in
theorem T_X11_goAll_0_b22 {sc : Option (Nat × (Nat → Int32))} {RF : Nat → Nat → Option Nat} {d : Nat} (hR : am_RFok RF) (hd : 5 ≤ d) : ∀ (n : Nat) (x1 : Int32) (x2 : Int32) (x3 : Int32) (x4 : Int32) (x5 : Int32) (x6 : Int32) (w7 : Value) (s : am_S) (r : Int32 × am_S), F_X11_goAll_0_b22 n x1 x2 x3 x4 x5 x6 s = some r → am_Q sc d mX11_goAll (22, [.ref 0, .int x1, .int x2, .int x3, .int x4, .int x5, .int x6, w7], [], am_hp RF s) (.int r.1, am_hp RF r.2) := by
  obtain ⟨e, rfl⟩ : ∃ e, d = e + 1 := ⟨d - 1, by omega⟩
  intro n
  induction n with
  | zero => intro x1 x2 x3 x4 x5 x6 w7 s r h; rw [F_X11_goAll_0_b22] at h; cases h
  | succ n ih =>
  intro x1 x2 x3 x4 x5 x6 w7 s r h
  rw [F_X11_goAll_0_b22] at h
  refine aq_iload (am_dg dkX11_goAll (i := 13) rfl) rfl ?_
  refine aq_iload_n (am_dg dkX11_goAll (i := 14) rfl) rfl ?_
  by_cases hc1 : x3 ≤ x6
  · rw [if_pos hc1] at h
    refine aq_icT (t := 89) (am_dg dkX11_goAll (i := 15) rfl) rfl (decide_eq_true hc1) ?_
    refine aq_iload (am_dg dkX11_goAll (i := 49) rfl) rfl ?_
    obtain rfl := Option.some.inj h
    exact aq_ireturn (am_dg dkX11_goAll (i := 50) rfl) rfl (Or.inl rfl) rfl
  · rw [if_neg hc1] at h
    refine aq_icF (t := 89) (am_dg dkX11_goAll (i := 15) rfl) rfl (decide_eq_false hc1) ?_
    refine aq_aload_n (am_dg dkX11_goAll (i := 16) rfl) rfl ?_
    refine aq_iload_n (am_dg dkX11_goAll (i := 17) rfl) rfl ?_
    refine aq_iload_n (am_dg dkX11_goAll (i := 18) rfl) rfl ?_
    refine aq_iload (am_dg dkX11_goAll (i := 19) rfl) rfl ?_
    refine aq_iadd (am_dg dkX11_goAll (i := 20) rfl) ?_
    obtain ⟨q2, hq3, h⟩ := am_bnd h
    refine aq_virt (a := [.ref 0, .int x1, .int (x2 + x6)]) (S1 := []) (v1 := .int q2.1) (S2 := [.int q2.1]) (am_dg dkX11_goAll (i := 21) rfl) cv_11_332_11 (am_cls_c sh_0 (by decide)) rfl rfl rfl (Nat.le_of_ble_eq_true rfl) (Nat.le_of_ble_eq_true rfl) (T_X11_hasItem_0 hR (by omega) hq3) rfl ?_
    by_cases hc4 : q2.1 = (0 : Int32)
    · rw [if_pos hc4] at h
      refine aq_ifF (t := 43) (am_dg dkX11_goAll (i := 22) rfl) rfl (decide_eq_false (not_not_intro hc4)) ?_
      refine aq_bipush (v := (-12 : Int32)) (am_dg dkX11_goAll (i := 23) rfl) (by decide) ?_
      obtain rfl := Option.some.inj h
      exact aq_ireturn (am_dg dkX11_goAll (i := 24) rfl) rfl (Or.inl rfl) rfl
    · rw [if_neg hc4] at h
      refine aq_ifT (t := 43) (am_dg dkX11_goAll (i := 22) rfl) rfl (decide_eq_true hc4) ?_
      refine aq_aload_n (am_dg dkX11_goAll (i := 25) rfl) rfl ?_
      refine aq_getR (am_dg dkX11_goAll (i := 26) rfl) gk_11_81_0 (rf_0_8 hR) ?_
      refine aq_iload_n (am_dg dkX11_goAll (i := 27) rfl) rfl ?_
      obtain ⟨hg5, h⟩ := am_guard h
      refine aq_aald (am_dg dkX11_goAll (i := 28) rfl) sh_74 (by decide) hg5 (fm_74 hR _ (am_in_lt hg5)) ?_
      refine aq_iload_n (am_dg dkX11_goAll (i := 29) rfl) rfl ?_
      refine aq_iload (am_dg dkX11_goAll (i := 30) rfl) rfl ?_
      refine aq_iadd (am_dg dkX11_goAll (i := 31) rfl) ?_
      obtain ⟨hg6, h⟩ := am_guard h
      refine aq_lald (am_dg dkX11_goAll (i := 32) rfl) (fs_74 _ (am_in_lt hg5)) hg6 ?_
      refine aq_l2i (am_dg dkX11_goAll (i := 33) rfl) ?_
      obtain ⟨v7, hv8, h⟩ := am_bnd h
      rw [Option.some.inj hv8]
      refine aq_istore (L1 := [.ref 0, .int x1, .int x2, .int x3, .int x4, .int x5, .int x6, .int v7]) (am_dg dkX11_goAll (i := 34) rfl) rfl ?_
      refine aq_aload_n (am_dg dkX11_goAll (i := 35) rfl) rfl ?_
      refine aq_getR (am_dg dkX11_goAll (i := 36) rfl) gk_11_30_0 (rf_0_0 hR) ?_
      refine aq_iload (am_dg dkX11_goAll (i := 37) rfl) rfl ?_
      obtain ⟨q9, hq10, h⟩ := am_bnd h
      refine aq_virt (a := [.ref 8, .int v7]) (S1 := []) (v1 := .int q9.1) (S2 := [.int q9.1]) (am_dg dkX11_goAll (i := 38) rfl) cv_11_349_8 (am_cls_c sh_8 (by decide)) rfl rfl rfl (Nat.le_of_ble_eq_true rfl) (Nat.le_of_ble_eq_true rfl) (T_X8_isAct_8 hR (by omega) hq10) rfl ?_
      by_cases hc11 : q9.1 = (0 : Int32)
      · rw [if_pos hc11] at h
        refine aq_ifT (t := 83) (am_dg dkX11_goAll (i := 39) rfl) rfl (decide_eq_true hc11) ?_
        exact T_X11_goAll_0_b83 hR (by omega) ih _ _ _ _ _ _ _ _ _ h
      · rw [if_neg hc11] at h
        refine aq_ifF (t := 83) (am_dg dkX11_goAll (i := 39) rfl) rfl (decide_eq_false hc11) ?_
        refine aq_iload (am_dg dkX11_goAll (i := 40) rfl) rfl ?_
        refine aq_aload_n (am_dg dkX11_goAll (i := 41) rfl) rfl ?_
        refine aq_getR (am_dg dkX11_goAll (i := 42) rfl) gk_11_30_0 (rf_0_0 hR) ?_
        refine aq_iload (am_dg dkX11_goAll (i := 43) rfl) rfl ?_
        obtain ⟨q12, hq13, h⟩ := am_bnd h
        refine aq_virt (a := [.ref 8, .int v7]) (S1 := [.int x5]) (v1 := .int q12.1) (S2 := [.int q12.1, .int x5]) (am_dg dkX11_goAll (i := 44) rfl) cv_11_212_8 (am_cls_c sh_8 (by decide)) rfl rfl rfl (Nat.le_of_ble_eq_true rfl) (Nat.le_of_ble_eq_true rfl) (T_X8_goBy_8 hR (by omega) hq13) rfl ?_
        refine aq_iadd (am_dg dkX11_goAll (i := 45) rfl) ?_
        refine aq_istore (L1 := [.ref 0, .int x1, .int x2, .int x3, .int x4, .int (x5 + q12.1), .int x6, .int v7]) (am_dg dkX11_goAll (i := 46) rfl) rfl ?_
        exact T_X11_goAll_0_b83 hR (by omega) ih _ _ _ _ _ _ _ _ _ h
set_option maxRecDepth 20000 in
theorem T_X11_goAll_0 {sc : Option (Nat × (Nat → Int32))} {RF : Nat → Nat → Option Nat} {d : Nat} (hR : am_RFok RF) (hd : 5 ≤ d) {a1 : Int32} {a2 : Int32} {a3 : Int32} {s : am_S} {r : Int32 × am_S} (h : F_X11_goAll_0 a1 a2 a3 s = some r) : am_Q sc d mX11_goAll (0, am_L0 mX11_goAll [.ref 0, .int a1, .int a2, .int a3], [], am_hp RF s) (.int r.1, am_hp RF r.2) := by
  obtain ⟨e, rfl⟩ : ∃ e, d = e + 1 := ⟨d - 1, by omega⟩
  unfold F_X11_goAll_0 at h
  show am_Q _ _ _ (0, [.ref 0, .int a1, .int a2, .int a3, .null, .null, .null, .null], [], _) _
  refine aq_aload_n (am_dg dkX11_goAll (i := 0) rfl) rfl ?_
  refine aq_iload_n (am_dg dkX11_goAll (i := 1) rfl) rfl ?_
  refine aq_iload_n (am_dg dkX11_goAll (i := 2) rfl) rfl ?_
  obtain ⟨q1, hq2, h⟩ := am_bnd h
  refine aq_virt (a := [.ref 0, .int a1, .int a3]) (S1 := []) (v1 := .int q1.1) (S2 := [.int q1.1]) (am_dg dkX11_goAll (i := 3) rfl) cv_11_346_11 (am_cls_c sh_0 (by decide)) rfl rfl rfl (Nat.le_of_ble_eq_true rfl) (Nat.le_of_ble_eq_true rfl) (T_X11_refusalOfActs_0 hR (by omega) hq2) rfl ?_
  refine aq_istore (L1 := [.ref 0, .int a1, .int a2, .int a3, .int q1.1, .null, .null, .null]) (am_dg dkX11_goAll (i := 4) rfl) rfl ?_
  refine aq_iload (am_dg dkX11_goAll (i := 5) rfl) rfl ?_
  by_cases hc3 : q1.1 = (0 : Int32)
  · rw [if_pos hc3] at h
    refine aq_ifT (t := 16) (am_dg dkX11_goAll (i := 6) rfl) rfl (decide_eq_true hc3) ?_
    refine aq_iconst (v := (0 : Int32)) (am_dg dkX11_goAll (i := 9) rfl) (by decide) ?_
    refine aq_istore (L1 := [.ref 0, .int a1, .int a2, .int a3, .int q1.1, .int (0 : Int32), .null, .null]) (am_dg dkX11_goAll (i := 10) rfl) rfl ?_
    refine aq_iconst (v := (0 : Int32)) (am_dg dkX11_goAll (i := 11) rfl) (by decide) ?_
    refine aq_istore (L1 := [.ref 0, .int a1, .int a2, .int a3, .int q1.1, .int (0 : Int32), .int (0 : Int32), .null]) (am_dg dkX11_goAll (i := 12) rfl) rfl ?_
    exact T_X11_goAll_0_b22 hR (by omega) _ _ _ _ _ _ _ _ _ _ h
  · rw [if_neg hc3] at h
    refine aq_ifF (t := 16) (am_dg dkX11_goAll (i := 6) rfl) rfl (decide_eq_false hc3) ?_
    refine aq_iload (am_dg dkX11_goAll (i := 7) rfl) rfl ?_
    obtain rfl := Option.some.inj h
    exact aq_ireturn (am_dg dkX11_goAll (i := 8) rfl) rfl (Or.inl rfl) rfl
set_option maxRecDepth 20000 in
theorem T_X12_isSpan_82 {sc : Option (Nat × (Nat → Int32))} {RF : Nat → Nat → Option Nat} {d : Nat} (hR : am_RFok RF) (hd : 2 ≤ d) {a1 : Int32} {a2 : Int32} {s : am_S} {r : Int32 × am_S} (h : F_X12_isSpan_82 a1 a2 s = some r) : am_Q sc d mX12_isSpan (0, am_L0 mX12_isSpan [.ref 82, .int a1, .int a2], [], am_hp RF s) (.int r.1, am_hp RF r.2) := by
  obtain ⟨e, rfl⟩ : ∃ e, d = e + 1 := ⟨d - 1, by omega⟩
  unfold F_X12_isSpan_82 at h
  show am_Q _ _ _ (0, [.ref 82, .int a1, .int a2], [], _) _
  refine aq_iload_n (am_dg dkX12_isSpan (i := 0) rfl) rfl ?_
  obtain ⟨q1, hq2, h⟩ := am_bnd h
  refine aq_static (a := [.int a1]) (S1 := []) (v1 := .int q1.1) (S2 := [.int q1.1]) (am_dg dkX12_isSpan (i := 1) rfl) ct_12_403 rfl rfl rfl (Nat.le_of_ble_eq_true rfl) (Nat.le_of_ble_eq_true rfl) (T_X12_isOne hR (by omega) hq2) rfl ?_
  by_cases hc3 : q1.1 = (0 : Int32)
  · rw [if_pos hc3] at h
    refine aq_ifT (t := 23) (am_dg dkX12_isSpan (i := 2) rfl) rfl (decide_eq_true hc3) ?_
    refine aq_iconst (v := (0 : Int32)) (am_dg dkX12_isSpan (i := 11) rfl) (by decide) ?_
    obtain rfl := Option.some.inj h
    exact aq_ireturn (am_dg dkX12_isSpan (i := 12) rfl) rfl (Or.inr (Or.inl rfl)) rfl
  · rw [if_neg hc3] at h
    refine aq_ifF (t := 23) (am_dg dkX12_isSpan (i := 2) rfl) rfl (decide_eq_false hc3) ?_
    refine aq_iload_n (am_dg dkX12_isSpan (i := 3) rfl) rfl ?_
    refine aq_i2l (am_dg dkX12_isSpan (i := 4) rfl) ?_
    refine aq_lconst (v := (0 : Int64)) (am_dg dkX12_isSpan (i := 5) rfl) (by decide) ?_
    refine aq_ldc2 (am_dg dkX12_isSpan (i := 6) rfl) cl_12_412 ?_
    obtain ⟨q4, hq5, h⟩ := am_bnd h
    refine aq_static (a := [.long a2.toInt64, .long (0 : Int64), .long (20 : Int64)]) (S1 := []) (v1 := .int q4.1) (S2 := [.int q4.1]) (am_dg dkX12_isSpan (i := 7) rfl) ct_12_61 rfl rfl rfl (Nat.le_of_ble_eq_true rfl) (Nat.le_of_ble_eq_true rfl) (T_X12_in hR (by omega) hq5) rfl ?_
    by_cases hc6 : q4.1 = (0 : Int32)
    · rw [if_pos hc6] at h
      refine aq_ifT (t := 23) (am_dg dkX12_isSpan (i := 8) rfl) rfl (decide_eq_true hc6) ?_
      refine aq_iconst (v := (0 : Int32)) (am_dg dkX12_isSpan (i := 11) rfl) (by decide) ?_
      obtain rfl := Option.some.inj h
      exact aq_ireturn (am_dg dkX12_isSpan (i := 12) rfl) rfl (Or.inr (Or.inl rfl)) rfl
    · rw [if_neg hc6] at h
      refine aq_ifF (t := 23) (am_dg dkX12_isSpan (i := 8) rfl) rfl (decide_eq_false hc6) ?_
      refine aq_iconst (v := (1 : Int32)) (am_dg dkX12_isSpan (i := 9) rfl) (by decide) ?_
      refine aq_goto (t := 24) (am_dg dkX12_isSpan (i := 10) rfl) rfl ?_
      obtain rfl := Option.some.inj h
      exact aq_ireturn (am_dg dkX12_isSpan (i := 12) rfl) rfl (Or.inr (Or.inl rfl)) rfl
set_option maxRecDepth 20000 in
theorem T_X12_isItem_82 {sc : Option (Nat × (Nat → Int32))} {RF : Nat → Nat → Option Nat} {d : Nat} (hR : am_RFok RF) (hd : 1 ≤ d) {a1 : Int32} {a2 : Int64} {s : am_S} {r : Int32 × am_S} (h : F_X12_isItem_82 a1 a2 s = some r) : am_Q sc d mX12_isItem (0, am_L0 mX12_isItem [.ref 82, .int a1, .long a2], [], am_hp RF s) (.int r.1, am_hp RF r.2) := by
  obtain ⟨e, rfl⟩ : ∃ e, d = e + 1 := ⟨d - 1, by omega⟩
  unfold F_X12_isItem_82 at h
  show am_Q _ _ _ (0, [.ref 82, .int a1, .long a2, .null], [], _) _
  refine aq_lload_n (am_dg dkX12_isItem (i := 0) rfl) rfl ?_
  refine aq_lconst (v := (0 : Int64)) (am_dg dkX12_isItem (i := 1) rfl) (by decide) ?_
  refine aq_aload_n (am_dg dkX12_isItem (i := 2) rfl) rfl ?_
  refine aq_getR (am_dg dkX12_isItem (i := 3) rfl) gk_12_43_82 (rf_82_30 hR) ?_
  refine aq_iload_n (am_dg dkX12_isItem (i := 4) rfl) rfl ?_
  obtain ⟨hg1, h⟩ := am_guard h
  refine aq_iald (am_dg dkX12_isItem (i := 5) rfl) sh_94 hg1 ?_
  refine aq_iconst (v := (1 : Int32)) (am_dg dkX12_isItem (i := 6) rfl) (by decide) ?_
  refine aq_isub (am_dg dkX12_isItem (i := 7) rfl) ?_
  refine aq_i2l (am_dg dkX12_isItem (i := 8) rfl) ?_
  obtain ⟨q2, hq3, h⟩ := am_bnd h
  refine aq_static (a := [.long a2, .long (0 : Int64), .long ((s.1 94 a1.toNatClampNeg) - (1 : Int32)).toInt64]) (S1 := []) (v1 := .int q2.1) (S2 := [.int q2.1]) (am_dg dkX12_isItem (i := 9) rfl) ct_12_61 rfl rfl rfl (Nat.le_of_ble_eq_true rfl) (Nat.le_of_ble_eq_true rfl) (T_X12_in hR (by omega) hq3) rfl ?_
  obtain ⟨hg4, h⟩ := am_guard h
  obtain rfl := Option.some.inj h
  exact aq_ireturn (am_dg dkX12_isItem (i := 10) rfl) rfl (Or.inr (Or.inl rfl)) (am_nz hg4)
set_option maxRecDepth 20000 in
theorem T_X12_goAll_82_b93 {sc : Option (Nat × (Nat → Int32))} {RF : Nat → Nat → Option Nat} {d : Nat} (hR : am_RFok RF) (hd : 7 ≤ d) {k33 : Int32 → Int32 → Int32 → Int32 → Int32 → Int32 → am_S → Option (Int32 × am_S)} (hk33 : ∀ (x1 : Int32) (x2 : Int32) (x3 : Int32) (x4 : Int32) (x5 : Int32) (x6 : Int32) (w7 : Value) (s2 : am_S) (r2 : Int32 × am_S), k33 x1 x2 x3 x4 x5 x6 s2 = some r2 → am_Q sc d mX12_goAll (33, [.ref 82, .int x1, .int x2, .int x3, .int x4, .int x5, .int x6, w7], [], am_hp RF s2) (.int r2.1, am_hp RF r2.2)) : ∀ (x1 : Int32) (x2 : Int32) (x3 : Int32) (x4 : Int32) (x6 : Int32) (y0 : Int32) (y1 : Int32) (w5 : Value) (w7 : Value) (s : am_S) (r : Int32 × am_S), F_X12_goAll_82_b93 k33 x1 x2 x3 x4 x6 y0 y1 s = some r → am_Q sc d mX12_goAll (93, [.ref 82, .int x1, .int x2, .int x3, .int x4, w5, .int x6, w7], [.int y0, .int y1], am_hp RF s) (.int r.1, am_hp RF r.2) := by
  obtain ⟨e, rfl⟩ : ∃ e, d = e + 1 := ⟨d - 1, by omega⟩
  intro x1 x2 x3 x4 x6 y0 y1 w5 w7 s r h
  unfold F_X12_goAll_82_b93 at h
  refine aq_iadd (am_dg dkX12_goAll (i := 55) rfl) ?_
  refine aq_istore (L1 := [.ref 82, .int x1, .int x2, .int x3, .int x4, .int (y1 + y0), .int x6, w7]) (am_dg dkX12_goAll (i := 56) rfl) rfl ?_
  refine aq_iinc (v := (1 : Int32)) (L1 := [.ref 82, .int x1, .int x2, .int x3, .int x4, .int (y1 + y0), .int (x6 + (1 : Int32)), w7]) (am_dg dkX12_goAll (i := 57) rfl) rfl (by decide) rfl ?_
  refine aq_goto (t := 33) (am_dg dkX12_goAll (i := 58) rfl) rfl ?_
  exact hk33 _ _ _ _ _ _ _ _ _ h
set_option maxRecDepth 20000 in
theorem T_X12_goAll_82_b33 {sc : Option (Nat × (Nat → Int32))} {RF : Nat → Nat → Option Nat} {d : Nat} (hR : am_RFok RF) (hd : 7 ≤ d) : ∀ (n : Nat) (x1 : Int32) (x2 : Int32) (x3 : Int32) (x4 : Int32) (x5 : Int32) (x6 : Int32) (w7 : Value) (s : am_S) (r : Int32 × am_S), F_X12_goAll_82_b33 n x1 x2 x3 x4 x5 x6 s = some r → am_Q sc d mX12_goAll (33, [.ref 82, .int x1, .int x2, .int x3, .int x4, .int x5, .int x6, w7], [], am_hp RF s) (.int r.1, am_hp RF r.2) := by
  obtain ⟨e, rfl⟩ : ∃ e, d = e + 1 := ⟨d - 1, by omega⟩
  intro n
  induction n with
  | zero => intro x1 x2 x3 x4 x5 x6 w7 s r h; rw [F_X12_goAll_82_b33] at h; cases h
  | succ n ih =>
  intro x1 x2 x3 x4 x5 x6 w7 s r h
  rw [F_X12_goAll_82_b33] at h
  refine aq_iload (am_dg dkX12_goAll (i := 20) rfl) rfl ?_
  refine aq_iload_n (am_dg dkX12_goAll (i := 21) rfl) rfl ?_
  by_cases hc1 : x3 ≤ x6
  · rw [if_pos hc1] at h
    refine aq_icT (t := 102) (am_dg dkX12_goAll (i := 22) rfl) rfl (decide_eq_true hc1) ?_
    refine aq_iload (am_dg dkX12_goAll (i := 59) rfl) rfl ?_
    obtain rfl := Option.some.inj h
    exact aq_ireturn (am_dg dkX12_goAll (i := 60) rfl) rfl (Or.inl rfl) rfl
  · rw [if_neg hc1] at h
    refine aq_icF (t := 102) (am_dg dkX12_goAll (i := 22) rfl) rfl (decide_eq_false hc1) ?_
    refine aq_aload_n (am_dg dkX12_goAll (i := 23) rfl) rfl ?_
    refine aq_iload_n (am_dg dkX12_goAll (i := 24) rfl) rfl ?_
    refine aq_iload_n (am_dg dkX12_goAll (i := 25) rfl) rfl ?_
    refine aq_i2l (am_dg dkX12_goAll (i := 26) rfl) ?_
    refine aq_iload (am_dg dkX12_goAll (i := 27) rfl) rfl ?_
    refine aq_i2l (am_dg dkX12_goAll (i := 28) rfl) ?_
    refine aq_ladd (am_dg dkX12_goAll (i := 29) rfl) ?_
    obtain ⟨q2, hq3, h⟩ := am_bnd h
    refine aq_virt (a := [.ref 82, .int x1, .long (x2.toInt64 + x6.toInt64)]) (S1 := []) (v1 := .int q2.1) (S2 := [.int q2.1]) (am_dg dkX12_goAll (i := 30) rfl) cv_12_417_12 (am_cls_c sh_82 (by decide)) rfl rfl rfl (Nat.le_of_ble_eq_true rfl) (Nat.le_of_ble_eq_true rfl) (T_X12_isItem_82 hR (by omega) hq3) rfl ?_
    by_cases hc4 : q2.1 = (0 : Int32)
    · rw [if_pos hc4] at h
      refine aq_ifF (t := 56) (am_dg dkX12_goAll (i := 31) rfl) rfl (decide_eq_false (not_not_intro hc4)) ?_
      refine aq_bipush (v := (-12 : Int32)) (am_dg dkX12_goAll (i := 32) rfl) (by decide) ?_
      obtain rfl := Option.some.inj h
      exact aq_ireturn (am_dg dkX12_goAll (i := 33) rfl) rfl (Or.inl rfl) rfl
    · rw [if_neg hc4] at h
      refine aq_ifT (t := 56) (am_dg dkX12_goAll (i := 31) rfl) rfl (decide_eq_true hc4) ?_
      refine aq_aload_n (am_dg dkX12_goAll (i := 34) rfl) rfl ?_
      refine aq_getR (am_dg dkX12_goAll (i := 35) rfl) gk_12_46_82 (rf_82_31 hR) ?_
      refine aq_bipush (v := (40 : Int32)) (am_dg dkX12_goAll (i := 36) rfl) (by decide) ?_
      refine aq_iload_n (am_dg dkX12_goAll (i := 37) rfl) rfl ?_
      refine aq_imul (am_dg dkX12_goAll (i := 38) rfl) ?_
      refine aq_iload_n (am_dg dkX12_goAll (i := 39) rfl) rfl ?_
      refine aq_iadd (am_dg dkX12_goAll (i := 40) rfl) ?_
      refine aq_iload (am_dg dkX12_goAll (i := 41) rfl) rfl ?_
      refine aq_iadd (am_dg dkX12_goAll (i := 42) rfl) ?_
      obtain ⟨hg5, h⟩ := am_guard h
      refine aq_iald (am_dg dkX12_goAll (i := 43) rfl) sh_95 hg5 ?_
      obtain ⟨v6, hv7, h⟩ := am_bnd h
      rw [Option.some.inj hv7]
      refine aq_istore (L1 := [.ref 82, .int x1, .int x2, .int x3, .int x4, .int x5, .int x6, .int v6]) (am_dg dkX12_goAll (i := 44) rfl) rfl ?_
      refine aq_iload (am_dg dkX12_goAll (i := 45) rfl) rfl ?_
      refine aq_aload_n (am_dg dkX12_goAll (i := 46) rfl) rfl ?_
      refine aq_iload (am_dg dkX12_goAll (i := 47) rfl) rfl ?_
      obtain ⟨q8, hq9, h⟩ := am_bnd h
      refine aq_virt (a := [.ref 82, .int v6]) (S1 := [.int x5]) (v1 := .int q8.1) (S2 := [.int q8.1, .int x5]) (am_dg dkX12_goAll (i := 48) rfl) cv_12_278_12 (am_cls_c sh_82 (by decide)) rfl rfl rfl (Nat.le_of_ble_eq_true rfl) (Nat.le_of_ble_eq_true rfl) (T_X12_isAct_82 hR (by omega) hq9) rfl ?_
      by_cases hc10 : q8.1 = (0 : Int32)
      · rw [if_pos hc10] at h
        refine aq_ifT (t := 92) (am_dg dkX12_goAll (i := 49) rfl) rfl (decide_eq_true hc10) ?_
        refine aq_iconst (v := (0 : Int32)) (am_dg dkX12_goAll (i := 54) rfl) (by decide) ?_
        exact T_X12_goAll_82_b93 hR (by omega) ih _ _ _ _ _ _ _ _ _ _ _ h
      · rw [if_neg hc10] at h
        refine aq_ifF (t := 92) (am_dg dkX12_goAll (i := 49) rfl) rfl (decide_eq_false hc10) ?_
        refine aq_aload_n (am_dg dkX12_goAll (i := 50) rfl) rfl ?_
        refine aq_iload (am_dg dkX12_goAll (i := 51) rfl) rfl ?_
        obtain ⟨q11, hq12, h⟩ := am_bnd h
        refine aq_virt (a := [.ref 82, .int v6]) (S1 := [.int x5]) (v1 := .int q11.1) (S2 := [.int q11.1, .int x5]) (am_dg dkX12_goAll (i := 52) rfl) cv_12_159_12 (am_cls_c sh_82 (by decide)) rfl rfl rfl (Nat.le_of_ble_eq_true rfl) (Nat.le_of_ble_eq_true rfl) (T_X12_goes_82 hR (by omega) hq12) rfl ?_
        refine aq_goto (t := 93) (am_dg dkX12_goAll (i := 53) rfl) rfl ?_
        exact T_X12_goAll_82_b93 hR (by omega) ih _ _ _ _ _ _ _ _ _ _ _ h
set_option maxRecDepth 20000 in
theorem T_X12_goAll_82 {sc : Option (Nat × (Nat → Int32))} {RF : Nat → Nat → Option Nat} {d : Nat} (hR : am_RFok RF) (hd : 7 ≤ d) {a1 : Int32} {a2 : Int32} {a3 : Int32} {s : am_S} {r : Int32 × am_S} (h : F_X12_goAll_82 a1 a2 a3 s = some r) : am_Q sc d mX12_goAll (0, am_L0 mX12_goAll [.ref 82, .int a1, .int a2, .int a3], [], am_hp RF s) (.int r.1, am_hp RF r.2) := by
  obtain ⟨e, rfl⟩ : ∃ e, d = e + 1 := ⟨d - 1, by omega⟩
  unfold F_X12_goAll_82 at h
  show am_Q _ _ _ (0, [.ref 82, .int a1, .int a2, .int a3, .null, .null, .null, .null], [], _) _
  refine aq_aload_n (am_dg dkX12_goAll (i := 0) rfl) rfl ?_
  refine aq_iload_n (am_dg dkX12_goAll (i := 1) rfl) rfl ?_
  refine aq_iload_n (am_dg dkX12_goAll (i := 2) rfl) rfl ?_
  obtain ⟨q1, hq2, h⟩ := am_bnd h
  refine aq_virt (a := [.ref 82, .int a1, .int a3]) (S1 := []) (v1 := .int q1.1) (S2 := [.int q1.1]) (am_dg dkX12_goAll (i := 3) rfl) cv_12_414_12 (am_cls_c sh_82 (by decide)) rfl rfl rfl (Nat.le_of_ble_eq_true rfl) (Nat.le_of_ble_eq_true rfl) (T_X12_isSpan_82 hR (by omega) hq2) rfl ?_
  by_cases hc3 : q1.1 = (0 : Int32)
  · rw [if_pos hc3] at h
    refine aq_ifF (t := 11) (am_dg dkX12_goAll (i := 4) rfl) rfl (decide_eq_false (not_not_intro hc3)) ?_
    refine aq_iconst (v := (-1 : Int32)) (am_dg dkX12_goAll (i := 5) rfl) (by decide) ?_
    obtain rfl := Option.some.inj h
    exact aq_ireturn (am_dg dkX12_goAll (i := 6) rfl) rfl (Or.inl rfl) rfl
  · rw [if_neg hc3] at h
    refine aq_ifT (t := 11) (am_dg dkX12_goAll (i := 4) rfl) rfl (decide_eq_true hc3) ?_
    refine aq_aload_n (am_dg dkX12_goAll (i := 7) rfl) rfl ?_
    refine aq_iload_n (am_dg dkX12_goAll (i := 8) rfl) rfl ?_
    refine aq_iconst (v := (0 : Int32)) (am_dg dkX12_goAll (i := 9) rfl) (by decide) ?_
    obtain ⟨q4, hq5, h⟩ := am_bnd h
    refine aq_virt (a := [.ref 82, .int a1, .int (0 : Int32)]) (S1 := []) (v1 := .int q4.1) (S2 := [.int q4.1]) (am_dg dkX12_goAll (i := 10) rfl) cv_12_409_12 (am_cls_c sh_82 (by decide)) rfl rfl rfl (Nat.le_of_ble_eq_true rfl) (Nat.le_of_ble_eq_true rfl) (T_X12_whyNot_82 hR (by omega) hq5) rfl ?_
    refine aq_istore (L1 := [.ref 82, .int a1, .int a2, .int a3, .int q4.1, .null, .null, .null]) (am_dg dkX12_goAll (i := 11) rfl) rfl ?_
    refine aq_iload (am_dg dkX12_goAll (i := 12) rfl) rfl ?_
    by_cases hc6 : q4.1 = (0 : Int32)
    · rw [if_pos hc6] at h
      refine aq_ifT (t := 27) (am_dg dkX12_goAll (i := 13) rfl) rfl (decide_eq_true hc6) ?_
      refine aq_iconst (v := (0 : Int32)) (am_dg dkX12_goAll (i := 16) rfl) (by decide) ?_
      refine aq_istore (L1 := [.ref 82, .int a1, .int a2, .int a3, .int q4.1, .int (0 : Int32), .null, .null]) (am_dg dkX12_goAll (i := 17) rfl) rfl ?_
      refine aq_iconst (v := (0 : Int32)) (am_dg dkX12_goAll (i := 18) rfl) (by decide) ?_
      refine aq_istore (L1 := [.ref 82, .int a1, .int a2, .int a3, .int q4.1, .int (0 : Int32), .int (0 : Int32), .null]) (am_dg dkX12_goAll (i := 19) rfl) rfl ?_
      exact T_X12_goAll_82_b33 hR (by omega) _ _ _ _ _ _ _ _ _ _ h
    · rw [if_neg hc6] at h
      refine aq_ifF (t := 27) (am_dg dkX12_goAll (i := 13) rfl) rfl (decide_eq_false hc6) ?_
      refine aq_iload (am_dg dkX12_goAll (i := 14) rfl) rfl ?_
      obtain rfl := Option.some.inj h
      exact aq_ireturn (am_dg dkX12_goAll (i := 15) rfl) rfl (Or.inl rfl) rfl
set_option maxRecDepth 20000 in
theorem T_X11_worthOfItems_0_b6 {sc : Option (Nat × (Nat → Int32))} {RF : Nat → Nat → Option Nat} {d : Nat} (hR : am_RFok RF) (hd : 5 ≤ d) : ∀ (n : Nat) (x1 : Int32) (x2 : Int32) (x3 : Int32) (x4 : Int32) (x5 : Int32) (w6 : Value) (s : am_S) (r : Int32 × am_S), F_X11_worthOfItems_0_b6 n x1 x2 x3 x4 x5 s = some r → am_Q sc d mX11_worthOfItems (6, [.ref 0, .int x1, .int x2, .int x3, .int x4, .int x5, w6], [], am_hp RF s) (.int r.1, am_hp RF r.2) := by
  obtain ⟨e, rfl⟩ : ∃ e, d = e + 1 := ⟨d - 1, by omega⟩
  intro n
  induction n with
  | zero => intro x1 x2 x3 x4 x5 w6 s r h; rw [F_X11_worthOfItems_0_b6] at h; cases h
  | succ n ih =>
  intro x1 x2 x3 x4 x5 w6 s r h
  rw [F_X11_worthOfItems_0_b6] at h
  refine aq_iload (am_dg dkX11_worthOfItems (i := 4) rfl) rfl ?_
  refine aq_iload_n (am_dg dkX11_worthOfItems (i := 5) rfl) rfl ?_
  by_cases hc1 : x3 ≤ x5
  · rw [if_pos hc1] at h
    refine aq_icT (t := 86) (am_dg dkX11_worthOfItems (i := 6) rfl) rfl (decide_eq_true hc1) ?_
    refine aq_iload (am_dg dkX11_worthOfItems (i := 46) rfl) rfl ?_
    obtain rfl := Option.some.inj h
    exact aq_ireturn (am_dg dkX11_worthOfItems (i := 47) rfl) rfl (Or.inl rfl) rfl
  · rw [if_neg hc1] at h
    refine aq_icF (t := 86) (am_dg dkX11_worthOfItems (i := 6) rfl) rfl (decide_eq_false hc1) ?_
    refine aq_aload_n (am_dg dkX11_worthOfItems (i := 7) rfl) rfl ?_
    refine aq_iload_n (am_dg dkX11_worthOfItems (i := 8) rfl) rfl ?_
    refine aq_iload_n (am_dg dkX11_worthOfItems (i := 9) rfl) rfl ?_
    refine aq_iload (am_dg dkX11_worthOfItems (i := 10) rfl) rfl ?_
    refine aq_iadd (am_dg dkX11_worthOfItems (i := 11) rfl) ?_
    obtain ⟨q2, hq3, h⟩ := am_bnd h
    refine aq_virt (a := [.ref 0, .int x1, .int (x2 + x5)]) (S1 := []) (v1 := .int q2.1) (S2 := [.int q2.1]) (am_dg dkX11_worthOfItems (i := 12) rfl) cv_11_332_11 (am_cls_c sh_0 (by decide)) rfl rfl rfl (Nat.le_of_ble_eq_true rfl) (Nat.le_of_ble_eq_true rfl) (T_X11_hasItem_0 hR (by omega) hq3) rfl ?_
    by_cases hc4 : q2.1 = (0 : Int32)
    · rw [if_pos hc4] at h
      refine aq_ifF (t := 27) (am_dg dkX11_worthOfItems (i := 13) rfl) rfl (decide_eq_false (not_not_intro hc4)) ?_
      refine aq_bipush (v := (-12 : Int32)) (am_dg dkX11_worthOfItems (i := 14) rfl) (by decide) ?_
      obtain rfl := Option.some.inj h
      exact aq_ireturn (am_dg dkX11_worthOfItems (i := 15) rfl) rfl (Or.inl rfl) rfl
    · rw [if_neg hc4] at h
      refine aq_ifT (t := 27) (am_dg dkX11_worthOfItems (i := 13) rfl) rfl (decide_eq_true hc4) ?_
      refine aq_aload_n (am_dg dkX11_worthOfItems (i := 16) rfl) rfl ?_
      refine aq_getR (am_dg dkX11_worthOfItems (i := 17) rfl) gk_11_81_0 (rf_0_8 hR) ?_
      refine aq_iload_n (am_dg dkX11_worthOfItems (i := 18) rfl) rfl ?_
      obtain ⟨hg5, h⟩ := am_guard h
      refine aq_aald (am_dg dkX11_worthOfItems (i := 19) rfl) sh_74 (by decide) hg5 (fm_74 hR _ (am_in_lt hg5)) ?_
      refine aq_iload_n (am_dg dkX11_worthOfItems (i := 20) rfl) rfl ?_
      refine aq_iload (am_dg dkX11_worthOfItems (i := 21) rfl) rfl ?_
      refine aq_iadd (am_dg dkX11_worthOfItems (i := 22) rfl) ?_
      obtain ⟨hg6, h⟩ := am_guard h
      refine aq_lald (am_dg dkX11_worthOfItems (i := 23) rfl) (fs_74 _ (am_in_lt hg5)) hg6 ?_
      refine aq_l2i (am_dg dkX11_worthOfItems (i := 24) rfl) ?_
      obtain ⟨v7, hv8, h⟩ := am_bnd h
      rw [Option.some.inj hv8]
      refine aq_istore (L1 := [.ref 0, .int x1, .int x2, .int x3, .int x4, .int x5, .int v7]) (am_dg dkX11_worthOfItems (i := 25) rfl) rfl ?_
      refine aq_aload_n (am_dg dkX11_worthOfItems (i := 26) rfl) rfl ?_
      refine aq_getR (am_dg dkX11_worthOfItems (i := 27) rfl) gk_11_30_0 (rf_0_0 hR) ?_
      refine aq_iload (am_dg dkX11_worthOfItems (i := 28) rfl) rfl ?_
      obtain ⟨q9, hq10, h⟩ := am_bnd h
      refine aq_virt (a := [.ref 8, .int v7]) (S1 := []) (v1 := .int q9.1) (S2 := [.int q9.1]) (am_dg dkX11_worthOfItems (i := 29) rfl) cv_11_349_8 (am_cls_c sh_8 (by decide)) rfl rfl rfl (Nat.le_of_ble_eq_true rfl) (Nat.le_of_ble_eq_true rfl) (T_X8_isAct_8 hR (by omega) hq10) rfl ?_
      by_cases hc11 : q9.1 = (0 : Int32)
      · rw [if_pos hc11] at h
        refine aq_ifT (t := 63) (am_dg dkX11_worthOfItems (i := 30) rfl) rfl (decide_eq_true hc11) ?_
        refine aq_bipush (v := (-4 : Int32)) (am_dg dkX11_worthOfItems (i := 35) rfl) (by decide) ?_
        obtain rfl := Option.some.inj h
        exact aq_ireturn (am_dg dkX11_worthOfItems (i := 36) rfl) rfl (Or.inl rfl) rfl
      · rw [if_neg hc11] at h
        refine aq_ifF (t := 63) (am_dg dkX11_worthOfItems (i := 30) rfl) rfl (decide_eq_false hc11) ?_
        refine aq_aload_n (am_dg dkX11_worthOfItems (i := 31) rfl) rfl ?_
        refine aq_getR (am_dg dkX11_worthOfItems (i := 32) rfl) gk_11_30_0 (rf_0_0 hR) ?_
        obtain ⟨q12, hq13, h⟩ := am_bnd h
        refine aq_virt (a := [.ref 8]) (S1 := []) (v1 := .int q12.1) (S2 := [.int q12.1]) (am_dg dkX11_worthOfItems (i := 33) rfl) cv_11_189_8 (am_cls_c sh_8 (by decide)) rfl rfl rfl (Nat.le_of_ble_eq_true rfl) (Nat.le_of_ble_eq_true rfl) (T_X8_isOver_8 hR (by omega) hq13) rfl ?_
        by_cases hc14 : q12.1 = (0 : Int32)
        · rw [if_pos hc14] at h
          refine aq_ifT (t := 66) (am_dg dkX11_worthOfItems (i := 34) rfl) rfl (decide_eq_true hc14) ?_
          refine aq_iload (am_dg dkX11_worthOfItems (i := 37) rfl) rfl ?_
          refine aq_aload_n (am_dg dkX11_worthOfItems (i := 38) rfl) rfl ?_
          refine aq_getR (am_dg dkX11_worthOfItems (i := 39) rfl) gk_11_30_0 (rf_0_0 hR) ?_
          refine aq_iload (am_dg dkX11_worthOfItems (i := 40) rfl) rfl ?_
          obtain ⟨q15, hq16, h⟩ := am_bnd h
          refine aq_virt (a := [.ref 8, .int v7]) (S1 := [.int x4]) (v1 := .int q15.1) (S2 := [.int q15.1, .int x4]) (am_dg dkX11_worthOfItems (i := 41) rfl) cv_11_212_8 (am_cls_c sh_8 (by decide)) rfl rfl rfl (Nat.le_of_ble_eq_true rfl) (Nat.le_of_ble_eq_true rfl) (T_X8_goBy_8 hR (by omega) hq16) rfl ?_
          refine aq_iadd (am_dg dkX11_worthOfItems (i := 42) rfl) ?_
          refine aq_istore (L1 := [.ref 0, .int x1, .int x2, .int x3, .int (x4 + q15.1), .int x5, .int v7]) (am_dg dkX11_worthOfItems (i := 43) rfl) rfl ?_
          refine aq_iinc (v := (1 : Int32)) (L1 := [.ref 0, .int x1, .int x2, .int x3, .int (x4 + q15.1), .int (x5 + (1 : Int32)), .int v7]) (am_dg dkX11_worthOfItems (i := 44) rfl) rfl (by decide) rfl ?_
          refine aq_goto (t := 6) (am_dg dkX11_worthOfItems (i := 45) rfl) rfl ?_
          exact ih _ _ _ _ _ _ _ _ h
        · rw [if_neg hc14] at h
          refine aq_ifF (t := 66) (am_dg dkX11_worthOfItems (i := 34) rfl) rfl (decide_eq_false hc14) ?_
          refine aq_bipush (v := (-4 : Int32)) (am_dg dkX11_worthOfItems (i := 35) rfl) (by decide) ?_
          obtain rfl := Option.some.inj h
          exact aq_ireturn (am_dg dkX11_worthOfItems (i := 36) rfl) rfl (Or.inl rfl) rfl
set_option maxRecDepth 20000 in
theorem T_X11_worthOfItems_0 {sc : Option (Nat × (Nat → Int32))} {RF : Nat → Nat → Option Nat} {d : Nat} (hR : am_RFok RF) (hd : 5 ≤ d) {a1 : Int32} {a2 : Int32} {a3 : Int32} {s : am_S} {r : Int32 × am_S} (h : F_X11_worthOfItems_0 a1 a2 a3 s = some r) : am_Q sc d mX11_worthOfItems (0, am_L0 mX11_worthOfItems [.ref 0, .int a1, .int a2, .int a3], [], am_hp RF s) (.int r.1, am_hp RF r.2) := by
  obtain ⟨e, rfl⟩ : ∃ e, d = e + 1 := ⟨d - 1, by omega⟩
  unfold F_X11_worthOfItems_0 at h
  show am_Q _ _ _ (0, [.ref 0, .int a1, .int a2, .int a3, .null, .null, .null], [], _) _
  refine aq_iconst (v := (0 : Int32)) (am_dg dkX11_worthOfItems (i := 0) rfl) (by decide) ?_
  refine aq_istore (L1 := [.ref 0, .int a1, .int a2, .int a3, .int (0 : Int32), .null, .null]) (am_dg dkX11_worthOfItems (i := 1) rfl) rfl ?_
  refine aq_iconst (v := (0 : Int32)) (am_dg dkX11_worthOfItems (i := 2) rfl) (by decide) ?_
  refine aq_istore (L1 := [.ref 0, .int a1, .int a2, .int a3, .int (0 : Int32), .int (0 : Int32), .null]) (am_dg dkX11_worthOfItems (i := 3) rfl) rfl ?_
  exact T_X11_worthOfItems_0_b6 hR (by omega) _ _ _ _ _ _ _ _ _ h
set_option maxRecDepth 20000 in
theorem T_X11_wouldBe_0 {sc : Option (Nat × (Nat → Int32))} {RF : Nat → Nat → Option Nat} {d : Nat} (hR : am_RFok RF) (hd : 6 ≤ d) {a1 : Int32} {a2 : Int32} {a3 : Int32} {s : am_S} {r : Int32 × am_S} (h : F_X11_wouldBe_0 a1 a2 a3 s = some r) : am_Q sc d mX11_wouldBe (0, am_L0 mX11_wouldBe [.ref 0, .int a1, .int a2, .int a3], [], am_hp RF s) (.int r.1, am_hp RF r.2) := by
  obtain ⟨e, rfl⟩ : ∃ e, d = e + 1 := ⟨d - 1, by omega⟩
  unfold F_X11_wouldBe_0 at h
  show am_Q _ _ _ (0, [.ref 0, .int a1, .int a2, .int a3, .null, .null], [], _) _
  refine aq_aload_n (am_dg dkX11_wouldBe (i := 0) rfl) rfl ?_
  refine aq_iload_n (am_dg dkX11_wouldBe (i := 1) rfl) rfl ?_
  refine aq_iload_n (am_dg dkX11_wouldBe (i := 2) rfl) rfl ?_
  obtain ⟨q1, hq2, h⟩ := am_bnd h
  refine aq_virt (a := [.ref 0, .int a1, .int a3]) (S1 := []) (v1 := .int q1.1) (S2 := [.int q1.1]) (am_dg dkX11_wouldBe (i := 3) rfl) cv_11_346_11 (am_cls_c sh_0 (by decide)) rfl rfl rfl (Nat.le_of_ble_eq_true rfl) (Nat.le_of_ble_eq_true rfl) (T_X11_refusalOfActs_0 hR (by omega) hq2) rfl ?_
  refine aq_istore (L1 := [.ref 0, .int a1, .int a2, .int a3, .int q1.1, .null]) (am_dg dkX11_wouldBe (i := 4) rfl) rfl ?_
  refine aq_iload (am_dg dkX11_wouldBe (i := 5) rfl) rfl ?_
  by_cases hc3 : q1.1 = (0 : Int32)
  · rw [if_pos hc3] at h
    refine aq_ifT (t := 16) (am_dg dkX11_wouldBe (i := 6) rfl) rfl (decide_eq_true hc3) ?_
    refine aq_aload_n (am_dg dkX11_wouldBe (i := 9) rfl) rfl ?_
    refine aq_getR (am_dg dkX11_wouldBe (i := 10) rfl) gk_11_55_0 (rf_0_4 hR) ?_
    obtain ⟨q4, hq5, h⟩ := am_bnd h
    refine aq_virt (a := [.ref 50]) (S1 := []) (v1 := .null) (S2 := []) (am_dg dkX11_wouldBe (i := 11) rfl) cv_11_352_3 (am_cls_c sh_50 (by decide)) rfl rfl rfl (Nat.le_of_ble_eq_true rfl) (Nat.le_of_ble_eq_true rfl) (T_X3_remember_50 hR (by omega) hq5) rfl ?_
    refine aq_aload_n (am_dg dkX11_wouldBe (i := 12) rfl) rfl ?_
    refine aq_iload_n (am_dg dkX11_wouldBe (i := 13) rfl) rfl ?_
    refine aq_iload_n (am_dg dkX11_wouldBe (i := 14) rfl) rfl ?_
    refine aq_iload_n (am_dg dkX11_wouldBe (i := 15) rfl) rfl ?_
    obtain ⟨q6, hq7, h⟩ := am_bnd h
    refine aq_virt (a := [.ref 0, .int a1, .int a2, .int a3]) (S1 := []) (v1 := .int q6.1) (S2 := [.int q6.1]) (am_dg dkX11_wouldBe (i := 16) rfl) cv_11_355_11 (am_cls_c sh_0 (by decide)) rfl rfl rfl (Nat.le_of_ble_eq_true rfl) (Nat.le_of_ble_eq_true rfl) (T_X11_worthOfItems_0 hR (by omega) hq7) rfl ?_
    refine aq_istore (L1 := [.ref 0, .int a1, .int a2, .int a3, .int q1.1, .int q6.1]) (am_dg dkX11_wouldBe (i := 17) rfl) rfl ?_
    refine aq_aload_n (am_dg dkX11_wouldBe (i := 18) rfl) rfl ?_
    refine aq_getR (am_dg dkX11_wouldBe (i := 19) rfl) gk_11_55_0 (rf_0_4 hR) ?_
    obtain ⟨q8, hq9, h⟩ := am_bnd h
    refine aq_virt (a := [.ref 50]) (S1 := []) (v1 := .null) (S2 := []) (am_dg dkX11_wouldBe (i := 20) rfl) cv_11_358_3 (am_cls_c sh_50 (by decide)) rfl rfl rfl (Nat.le_of_ble_eq_true rfl) (Nat.le_of_ble_eq_true rfl) (T_X3_goBack_50 hR (by omega) hq9) rfl ?_
    refine aq_iload (am_dg dkX11_wouldBe (i := 21) rfl) rfl ?_
    obtain rfl := Option.some.inj h
    exact aq_ireturn (am_dg dkX11_wouldBe (i := 22) rfl) rfl (Or.inl rfl) rfl
  · rw [if_neg hc3] at h
    refine aq_ifF (t := 16) (am_dg dkX11_wouldBe (i := 6) rfl) rfl (decide_eq_false hc3) ?_
    refine aq_iload (am_dg dkX11_wouldBe (i := 7) rfl) rfl ?_
    obtain rfl := Option.some.inj h
    exact aq_ireturn (am_dg dkX11_wouldBe (i := 8) rfl) rfl (Or.inl rfl) rfl
set_option maxRecDepth 20000 in
theorem T_X12_wouldBe_82_b129 {sc : Option (Nat × (Nat → Int32))} {RF : Nat → Nat → Option Nat} {d : Nat} (hR : am_RFok RF) (hd : 7 ≤ d) {k37 : Int32 → Int32 → Int32 → Int32 → Int32 → Int32 → am_S → Option (Int32 × am_S)} (hk37 : ∀ (x1 : Int32) (x2 : Int32) (x3 : Int32) (x4 : Int32) (x5 : Int32) (x6 : Int32) (w7 : Value) (s2 : am_S) (r2 : Int32 × am_S), k37 x1 x2 x3 x4 x5 x6 s2 = some r2 → am_Q sc d mX12_wouldBe (37, [.ref 82, .int x1, .int x2, .int x3, .int x4, .int x5, .int x6, w7], [], am_hp RF s2) (.int r2.1, am_hp RF r2.2)) : ∀ (x1 : Int32) (x2 : Int32) (x3 : Int32) (x4 : Int32) (x6 : Int32) (y0 : Int32) (y1 : Int32) (w5 : Value) (w7 : Value) (s : am_S) (r : Int32 × am_S), F_X12_wouldBe_82_b129 k37 x1 x2 x3 x4 x6 y0 y1 s = some r → am_Q sc d mX12_wouldBe (129, [.ref 82, .int x1, .int x2, .int x3, .int x4, w5, .int x6, w7], [.int y0, .int y1], am_hp RF s) (.int r.1, am_hp RF r.2) := by
  obtain ⟨e, rfl⟩ : ∃ e, d = e + 1 := ⟨d - 1, by omega⟩
  intro x1 x2 x3 x4 x6 y0 y1 w5 w7 s r h
  unfold F_X12_wouldBe_82_b129 at h
  refine aq_iadd (am_dg dkX12_wouldBe (i := 74) rfl) ?_
  refine aq_istore (L1 := [.ref 82, .int x1, .int x2, .int x3, .int x4, .int (y1 + y0), .int x6, w7]) (am_dg dkX12_wouldBe (i := 75) rfl) rfl ?_
  refine aq_iinc (v := (1 : Int32)) (L1 := [.ref 82, .int x1, .int x2, .int x3, .int x4, .int (y1 + y0), .int (x6 + (1 : Int32)), w7]) (am_dg dkX12_wouldBe (i := 76) rfl) rfl (by decide) rfl ?_
  refine aq_goto (t := 37) (am_dg dkX12_wouldBe (i := 77) rfl) rfl ?_
  exact hk37 _ _ _ _ _ _ _ _ _ h
set_option maxRecDepth 20000 in
theorem T_X12_wouldBe_82_b98 {sc : Option (Nat × (Nat → Int32))} {RF : Nat → Nat → Option Nat} {d : Nat} (hR : am_RFok RF) (hd : 7 ≤ d) {k37 : Int32 → Int32 → Int32 → Int32 → Int32 → Int32 → am_S → Option (Int32 × am_S)} (hk37 : ∀ (x1 : Int32) (x2 : Int32) (x3 : Int32) (x4 : Int32) (x5 : Int32) (x6 : Int32) (w7 : Value) (s2 : am_S) (r2 : Int32 × am_S), k37 x1 x2 x3 x4 x5 x6 s2 = some r2 → am_Q sc d mX12_wouldBe (37, [.ref 82, .int x1, .int x2, .int x3, .int x4, .int x5, .int x6, w7], [], am_hp RF s2) (.int r2.1, am_hp RF r2.2)) : ∀ (x1 : Int32) (x2 : Int32) (x3 : Int32) (x5 : Int32) (x6 : Int32) (y0 : Int32) (w4 : Value) (w7 : Value) (s : am_S) (r : Int32 × am_S), F_X12_wouldBe_82_b98 k37 x1 x2 x3 x5 x6 y0 s = some r → am_Q sc d mX12_wouldBe (98, [.ref 82, .int x1, .int x2, .int x3, w4, .int x5, .int x6, w7], [.int y0], am_hp RF s) (.int r.1, am_hp RF r.2) := by
  obtain ⟨e, rfl⟩ : ∃ e, d = e + 1 := ⟨d - 1, by omega⟩
  intro x1 x2 x3 x5 x6 y0 w4 w7 s r h
  unfold F_X12_wouldBe_82_b98 at h
  refine aq_istore (L1 := [.ref 82, .int x1, .int x2, .int x3, .int y0, .int x5, .int x6, w7]) (am_dg dkX12_wouldBe (i := 56) rfl) rfl ?_
  refine aq_iload (am_dg dkX12_wouldBe (i := 57) rfl) rfl ?_
  refine aq_iload (am_dg dkX12_wouldBe (i := 58) rfl) rfl ?_
  by_cases hc1 : y0 = (0 : Int32)
  · rw [if_pos hc1] at h
    refine aq_ifF (t := 128) (am_dg dkX12_wouldBe (i := 59) rfl) rfl (decide_eq_false (not_not_intro hc1)) ?_
    refine aq_aload_n (am_dg dkX12_wouldBe (i := 60) rfl) rfl ?_
    refine aq_aload_n (am_dg dkX12_wouldBe (i := 61) rfl) rfl ?_
    refine aq_getR (am_dg dkX12_wouldBe (i := 62) rfl) gk_12_46_82 (rf_82_31 hR) ?_
    refine aq_bipush (v := (40 : Int32)) (am_dg dkX12_wouldBe (i := 63) rfl) (by decide) ?_
    refine aq_iload_n (am_dg dkX12_wouldBe (i := 64) rfl) rfl ?_
    refine aq_imul (am_dg dkX12_wouldBe (i := 65) rfl) ?_
    refine aq_iload_n (am_dg dkX12_wouldBe (i := 66) rfl) rfl ?_
    refine aq_iadd (am_dg dkX12_wouldBe (i := 67) rfl) ?_
    refine aq_iload (am_dg dkX12_wouldBe (i := 68) rfl) rfl ?_
    refine aq_iadd (am_dg dkX12_wouldBe (i := 69) rfl) ?_
    obtain ⟨hg2, h⟩ := am_guard h
    refine aq_iald (am_dg dkX12_wouldBe (i := 70) rfl) sh_95 hg2 ?_
    obtain ⟨q3, hq4, h⟩ := am_bnd h
    refine aq_virt (a := [.ref 82, .int (s.1 95 ((((40 : Int32) * x1) + x2) + x6).toNatClampNeg)]) (S1 := [.int x5]) (v1 := .int q3.1) (S2 := [.int q3.1, .int x5]) (am_dg dkX12_wouldBe (i := 71) rfl) cv_12_159_12 (am_cls_c sh_82 (by decide)) rfl rfl rfl (Nat.le_of_ble_eq_true rfl) (Nat.le_of_ble_eq_true rfl) (T_X12_goes_82 hR (by omega) hq4) rfl ?_
    refine aq_goto (t := 129) (am_dg dkX12_wouldBe (i := 72) rfl) rfl ?_
    exact T_X12_wouldBe_82_b129 hR (by omega) hk37 _ _ _ _ _ _ _ _ _ _ _ h
  · rw [if_neg hc1] at h
    refine aq_ifT (t := 128) (am_dg dkX12_wouldBe (i := 59) rfl) rfl (decide_eq_true hc1) ?_
    refine aq_iconst (v := (0 : Int32)) (am_dg dkX12_wouldBe (i := 73) rfl) (by decide) ?_
    exact T_X12_wouldBe_82_b129 hR (by omega) hk37 _ _ _ _ _ _ _ _ _ _ _ h
set_option maxRecDepth 20000 in
theorem T_X12_wouldBe_82_b138 {sc : Option (Nat × (Nat → Int32))} {RF : Nat → Nat → Option Nat} {d : Nat} (hR : am_RFok RF) (hd : 7 ≤ d) : ∀ (x4 : Int32) (x5 : Int32) (w1 : Value) (w2 : Value) (w3 : Value) (w6 : Value) (w7 : Value) (s : am_S) (r : Int32 × am_S), F_X12_wouldBe_82_b138 x4 x5 s = some r → am_Q sc d mX12_wouldBe (138, [.ref 82, w1, w2, w3, .int x4, .int x5, w6, w7], [], am_hp RF s) (.int r.1, am_hp RF r.2) := by
  obtain ⟨e, rfl⟩ : ∃ e, d = e + 1 := ⟨d - 1, by omega⟩
  intro x4 x5 w1 w2 w3 w6 w7 s r h
  unfold F_X12_wouldBe_82_b138 at h
  refine aq_aload_n (am_dg dkX12_wouldBe (i := 78) rfl) rfl ?_
  obtain ⟨q1, hq2, h⟩ := am_bnd h
  refine aq_virt (a := [.ref 82]) (S1 := []) (v1 := .null) (S2 := []) (am_dg dkX12_wouldBe (i := 79) rfl) cv_12_168_12 (am_cls_c sh_82 (by decide)) rfl rfl rfl (Nat.le_of_ble_eq_true rfl) (Nat.le_of_ble_eq_true rfl) (T_X12_putsBack_82 hR (by omega) hq2) rfl ?_
  refine aq_iload (am_dg dkX12_wouldBe (i := 80) rfl) rfl ?_
  by_cases hc3 : x4 = (0 : Int32)
  · rw [if_pos hc3] at h
    refine aq_ifT (t := 152) (am_dg dkX12_wouldBe (i := 81) rfl) rfl (decide_eq_true hc3) ?_
    refine aq_iload (am_dg dkX12_wouldBe (i := 84) rfl) rfl ?_
    obtain rfl := Option.some.inj h
    exact aq_ireturn (am_dg dkX12_wouldBe (i := 85) rfl) rfl (Or.inl rfl) rfl
  · rw [if_neg hc3] at h
    refine aq_ifF (t := 152) (am_dg dkX12_wouldBe (i := 81) rfl) rfl (decide_eq_false hc3) ?_
    refine aq_iload (am_dg dkX12_wouldBe (i := 82) rfl) rfl ?_
    refine aq_goto (t := 154) (am_dg dkX12_wouldBe (i := 83) rfl) rfl ?_
    obtain rfl := Option.some.inj h
    exact aq_ireturn (am_dg dkX12_wouldBe (i := 85) rfl) rfl (Or.inl rfl) rfl
set_option maxRecDepth 20000 in
theorem T_X12_wouldBe_82_b37 {sc : Option (Nat × (Nat → Int32))} {RF : Nat → Nat → Option Nat} {d : Nat} (hR : am_RFok RF) (hd : 7 ≤ d) : ∀ (n : Nat) (x1 : Int32) (x2 : Int32) (x3 : Int32) (x4 : Int32) (x5 : Int32) (x6 : Int32) (w7 : Value) (s : am_S) (r : Int32 × am_S), F_X12_wouldBe_82_b37 n x1 x2 x3 x4 x5 x6 s = some r → am_Q sc d mX12_wouldBe (37, [.ref 82, .int x1, .int x2, .int x3, .int x4, .int x5, .int x6, w7], [], am_hp RF s) (.int r.1, am_hp RF r.2) := by
  obtain ⟨e, rfl⟩ : ∃ e, d = e + 1 := ⟨d - 1, by omega⟩
  intro n
  induction n with
  | zero => intro x1 x2 x3 x4 x5 x6 w7 s r h; rw [F_X12_wouldBe_82_b37] at h; cases h
  | succ n ih =>
  intro x1 x2 x3 x4 x5 x6 w7 s r h
  rw [F_X12_wouldBe_82_b37] at h
  refine aq_iload (am_dg dkX12_wouldBe (i := 22) rfl) rfl ?_
  refine aq_iload_n (am_dg dkX12_wouldBe (i := 23) rfl) rfl ?_
  by_cases hc1 : x3 ≤ x6
  · rw [if_pos hc1] at h
    refine aq_icT (t := 138) (am_dg dkX12_wouldBe (i := 24) rfl) rfl (decide_eq_true hc1) ?_
    exact T_X12_wouldBe_82_b138 hR (by omega) _ _ _ _ _ _ _ _ _ h
  · rw [if_neg hc1] at h
    refine aq_icF (t := 138) (am_dg dkX12_wouldBe (i := 24) rfl) rfl (decide_eq_false hc1) ?_
    refine aq_iload (am_dg dkX12_wouldBe (i := 25) rfl) rfl ?_
    by_cases hc2 : x4 = (0 : Int32)
    · rw [if_pos hc2] at h
      refine aq_ifF (t := 138) (am_dg dkX12_wouldBe (i := 26) rfl) rfl (decide_eq_false (not_not_intro hc2)) ?_
      refine aq_aload_n (am_dg dkX12_wouldBe (i := 27) rfl) rfl ?_
      refine aq_iload_n (am_dg dkX12_wouldBe (i := 28) rfl) rfl ?_
      refine aq_iload_n (am_dg dkX12_wouldBe (i := 29) rfl) rfl ?_
      refine aq_i2l (am_dg dkX12_wouldBe (i := 30) rfl) ?_
      refine aq_iload (am_dg dkX12_wouldBe (i := 31) rfl) rfl ?_
      refine aq_i2l (am_dg dkX12_wouldBe (i := 32) rfl) ?_
      refine aq_ladd (am_dg dkX12_wouldBe (i := 33) rfl) ?_
      obtain ⟨q3, hq4, h⟩ := am_bnd h
      refine aq_virt (a := [.ref 82, .int x1, .long (x2.toInt64 + x6.toInt64)]) (S1 := []) (v1 := .int q3.1) (S2 := [.int q3.1]) (am_dg dkX12_wouldBe (i := 34) rfl) cv_12_417_12 (am_cls_c sh_82 (by decide)) rfl rfl rfl (Nat.le_of_ble_eq_true rfl) (Nat.le_of_ble_eq_true rfl) (T_X12_isItem_82 hR (by omega) hq4) rfl ?_
      refine aq_istore (L1 := [.ref 82, .int x1, .int x2, .int x3, .int x4, .int x5, .int x6, .int q3.1]) (am_dg dkX12_wouldBe (i := 35) rfl) rfl ?_
      refine aq_iload (am_dg dkX12_wouldBe (i := 36) rfl) rfl ?_
      by_cases hc5 : q3.1 = (0 : Int32)
      · rw [if_pos hc5] at h
        refine aq_ifF (t := 71) (am_dg dkX12_wouldBe (i := 37) rfl) rfl (decide_eq_false (not_not_intro hc5)) ?_
        refine aq_bipush (v := (-12 : Int32)) (am_dg dkX12_wouldBe (i := 38) rfl) (by decide) ?_
        refine aq_goto (t := 98) (am_dg dkX12_wouldBe (i := 39) rfl) rfl ?_
        exact T_X12_wouldBe_82_b98 hR (by omega) ih _ _ _ _ _ _ _ _ _ _ h
      · rw [if_neg hc5] at h
        refine aq_ifT (t := 71) (am_dg dkX12_wouldBe (i := 37) rfl) rfl (decide_eq_true hc5) ?_
        refine aq_aload_n (am_dg dkX12_wouldBe (i := 40) rfl) rfl ?_
        refine aq_aload_n (am_dg dkX12_wouldBe (i := 41) rfl) rfl ?_
        refine aq_getR (am_dg dkX12_wouldBe (i := 42) rfl) gk_12_46_82 (rf_82_31 hR) ?_
        refine aq_bipush (v := (40 : Int32)) (am_dg dkX12_wouldBe (i := 43) rfl) (by decide) ?_
        refine aq_iload_n (am_dg dkX12_wouldBe (i := 44) rfl) rfl ?_
        refine aq_imul (am_dg dkX12_wouldBe (i := 45) rfl) ?_
        refine aq_iload_n (am_dg dkX12_wouldBe (i := 46) rfl) rfl ?_
        refine aq_iadd (am_dg dkX12_wouldBe (i := 47) rfl) ?_
        refine aq_iload (am_dg dkX12_wouldBe (i := 48) rfl) rfl ?_
        refine aq_iadd (am_dg dkX12_wouldBe (i := 49) rfl) ?_
        obtain ⟨hg6, h⟩ := am_guard h
        refine aq_iald (am_dg dkX12_wouldBe (i := 50) rfl) sh_95 hg6 ?_
        obtain ⟨q7, hq8, h⟩ := am_bnd h
        refine aq_virt (a := [.ref 82, .int (q3.2.1 95 ((((40 : Int32) * x1) + x2) + x6).toNatClampNeg)]) (S1 := []) (v1 := .int q7.1) (S2 := [.int q7.1]) (am_dg dkX12_wouldBe (i := 51) rfl) cv_12_278_12 (am_cls_c sh_82 (by decide)) rfl rfl rfl (Nat.le_of_ble_eq_true rfl) (Nat.le_of_ble_eq_true rfl) (T_X12_isAct_82 hR (by omega) hq8) rfl ?_
        by_cases hc9 : q7.1 = (0 : Int32)
        · rw [if_pos hc9] at h
          refine aq_ifF (t := 97) (am_dg dkX12_wouldBe (i := 52) rfl) rfl (decide_eq_false (not_not_intro hc9)) ?_
          refine aq_bipush (v := (-4 : Int32)) (am_dg dkX12_wouldBe (i := 53) rfl) (by decide) ?_
          refine aq_goto (t := 98) (am_dg dkX12_wouldBe (i := 54) rfl) rfl ?_
          exact T_X12_wouldBe_82_b98 hR (by omega) ih _ _ _ _ _ _ _ _ _ _ h
        · rw [if_neg hc9] at h
          refine aq_ifT (t := 97) (am_dg dkX12_wouldBe (i := 52) rfl) rfl (decide_eq_true hc9) ?_
          refine aq_iconst (v := (0 : Int32)) (am_dg dkX12_wouldBe (i := 55) rfl) (by decide) ?_
          exact T_X12_wouldBe_82_b98 hR (by omega) ih _ _ _ _ _ _ _ _ _ _ h
    · rw [if_neg hc2] at h
      refine aq_ifT (t := 138) (am_dg dkX12_wouldBe (i := 26) rfl) rfl (decide_eq_true hc2) ?_
      exact T_X12_wouldBe_82_b138 hR (by omega) _ _ _ _ _ _ _ _ _ h
set_option maxRecDepth 20000 in
theorem T_X12_wouldBe_82 {sc : Option (Nat × (Nat → Int32))} {RF : Nat → Nat → Option Nat} {d : Nat} (hR : am_RFok RF) (hd : 7 ≤ d) {a1 : Int32} {a2 : Int32} {a3 : Int32} {s : am_S} {r : Int32 × am_S} (h : F_X12_wouldBe_82 a1 a2 a3 s = some r) : am_Q sc d mX12_wouldBe (0, am_L0 mX12_wouldBe [.ref 82, .int a1, .int a2, .int a3], [], am_hp RF s) (.int r.1, am_hp RF r.2) := by
  obtain ⟨e, rfl⟩ : ∃ e, d = e + 1 := ⟨d - 1, by omega⟩
  unfold F_X12_wouldBe_82 at h
  show am_Q _ _ _ (0, [.ref 82, .int a1, .int a2, .int a3, .null, .null, .null, .null], [], _) _
  refine aq_aload_n (am_dg dkX12_wouldBe (i := 0) rfl) rfl ?_
  refine aq_iload_n (am_dg dkX12_wouldBe (i := 1) rfl) rfl ?_
  refine aq_iload_n (am_dg dkX12_wouldBe (i := 2) rfl) rfl ?_
  obtain ⟨q1, hq2, h⟩ := am_bnd h
  refine aq_virt (a := [.ref 82, .int a1, .int a3]) (S1 := []) (v1 := .int q1.1) (S2 := [.int q1.1]) (am_dg dkX12_wouldBe (i := 3) rfl) cv_12_414_12 (am_cls_c sh_82 (by decide)) rfl rfl rfl (Nat.le_of_ble_eq_true rfl) (Nat.le_of_ble_eq_true rfl) (T_X12_isSpan_82 hR (by omega) hq2) rfl ?_
  by_cases hc3 : q1.1 = (0 : Int32)
  · rw [if_pos hc3] at h
    refine aq_ifF (t := 11) (am_dg dkX12_wouldBe (i := 4) rfl) rfl (decide_eq_false (not_not_intro hc3)) ?_
    refine aq_iconst (v := (-1 : Int32)) (am_dg dkX12_wouldBe (i := 5) rfl) (by decide) ?_
    obtain rfl := Option.some.inj h
    exact aq_ireturn (am_dg dkX12_wouldBe (i := 6) rfl) rfl (Or.inl rfl) rfl
  · rw [if_neg hc3] at h
    refine aq_ifT (t := 11) (am_dg dkX12_wouldBe (i := 4) rfl) rfl (decide_eq_true hc3) ?_
    refine aq_aload_n (am_dg dkX12_wouldBe (i := 7) rfl) rfl ?_
    refine aq_iload_n (am_dg dkX12_wouldBe (i := 8) rfl) rfl ?_
    refine aq_iconst (v := (0 : Int32)) (am_dg dkX12_wouldBe (i := 9) rfl) (by decide) ?_
    obtain ⟨q4, hq5, h⟩ := am_bnd h
    refine aq_virt (a := [.ref 82, .int a1, .int (0 : Int32)]) (S1 := []) (v1 := .int q4.1) (S2 := [.int q4.1]) (am_dg dkX12_wouldBe (i := 10) rfl) cv_12_409_12 (am_cls_c sh_82 (by decide)) rfl rfl rfl (Nat.le_of_ble_eq_true rfl) (Nat.le_of_ble_eq_true rfl) (T_X12_whyNot_82 hR (by omega) hq5) rfl ?_
    refine aq_istore (L1 := [.ref 82, .int a1, .int a2, .int a3, .int q4.1, .null, .null, .null]) (am_dg dkX12_wouldBe (i := 11) rfl) rfl ?_
    refine aq_iload (am_dg dkX12_wouldBe (i := 12) rfl) rfl ?_
    by_cases hc6 : q4.1 = (0 : Int32)
    · rw [if_pos hc6] at h
      refine aq_ifT (t := 27) (am_dg dkX12_wouldBe (i := 13) rfl) rfl (decide_eq_true hc6) ?_
      refine aq_aload_n (am_dg dkX12_wouldBe (i := 16) rfl) rfl ?_
      obtain ⟨q7, hq8, h⟩ := am_bnd h
      refine aq_virt (a := [.ref 82]) (S1 := []) (v1 := .null) (S2 := []) (am_dg dkX12_wouldBe (i := 17) rfl) cv_12_162_12 (am_cls_c sh_82 (by decide)) rfl rfl rfl (Nat.le_of_ble_eq_true rfl) (Nat.le_of_ble_eq_true rfl) (T_X12_puts_82 hR (by omega) hq8) rfl ?_
      refine aq_iconst (v := (0 : Int32)) (am_dg dkX12_wouldBe (i := 18) rfl) (by decide) ?_
      refine aq_istore (L1 := [.ref 82, .int a1, .int a2, .int a3, .int q4.1, .int (0 : Int32), .null, .null]) (am_dg dkX12_wouldBe (i := 19) rfl) rfl ?_
      refine aq_iconst (v := (0 : Int32)) (am_dg dkX12_wouldBe (i := 20) rfl) (by decide) ?_
      refine aq_istore (L1 := [.ref 82, .int a1, .int a2, .int a3, .int q4.1, .int (0 : Int32), .int (0 : Int32), .null]) (am_dg dkX12_wouldBe (i := 21) rfl) rfl ?_
      exact T_X12_wouldBe_82_b37 hR (by omega) _ _ _ _ _ _ _ _ _ _ h
    · rw [if_neg hc6] at h
      refine aq_ifF (t := 27) (am_dg dkX12_wouldBe (i := 13) rfl) rfl (decide_eq_false hc6) ?_
      refine aq_iload (am_dg dkX12_wouldBe (i := 14) rfl) rfl ?_
      obtain rfl := Option.some.inj h
      exact aq_ireturn (am_dg dkX12_wouldBe (i := 15) rfl) rfl (Or.inl rfl) rfl
set_option maxRecDepth 20000 in
theorem T_X11_isShelf {sc : Option (Nat × (Nat → Int32))} {RF : Nat → Nat → Option Nat} {d : Nat} (hR : am_RFok RF) (hd : 1 ≤ d) {a0 : Int32} {s : am_S} {r : Int32 × am_S} (h : F_X11_isShelf a0 s = some r) : am_Q sc d mX11_isShelf (0, am_L0 mX11_isShelf [.int a0], [], am_hp RF s) (.int r.1, am_hp RF r.2) := by
  obtain ⟨e, rfl⟩ : ∃ e, d = e + 1 := ⟨d - 1, by omega⟩
  unfold F_X11_isShelf at h
  show am_Q _ _ _ (0, [.int a0], [], _) _
  refine aq_iload_n (am_dg dkX11_isShelf (i := 0) rfl) rfl ?_
  refine aq_iconst (v := (0 : Int32)) (am_dg dkX11_isShelf (i := 1) rfl) (by decide) ?_
  refine aq_iconst (v := (3 : Int32)) (am_dg dkX11_isShelf (i := 2) rfl) (by decide) ?_
  obtain ⟨q1, hq2, h⟩ := am_bnd h
  refine aq_static (a := [.int a0, .int (0 : Int32), .int (3 : Int32)]) (S1 := []) (v1 := .int q1.1) (S2 := [.int q1.1]) (am_dg dkX11_isShelf (i := 3) rfl) ct_11_149 rfl rfl rfl (Nat.le_of_ble_eq_true rfl) (Nat.le_of_ble_eq_true rfl) (T_X11_isWithin hR (by omega) hq2) rfl ?_
  obtain ⟨hg3, h⟩ := am_guard h
  obtain rfl := Option.some.inj h
  exact aq_ireturn (am_dg dkX11_isShelf (i := 4) rfl) rfl (Or.inr (Or.inl rfl)) (am_nz hg3)
set_option maxRecDepth 20000 in
theorem T_X11_putOn_0 {sc : Option (Nat × (Nat → Int32))} {RF : Nat → Nat → Option Nat} {d : Nat} (hR : am_RFok RF) (hd : 0 ≤ d) {a1 : Int32} {a2 : Int32} {a3 : Int32} {a4 : Int32} {s : am_S} {r : Int32 × am_S} (h : F_X11_putOn_0 a1 a2 a3 a4 s = some r) : am_Q sc d mX11_putOn (0, am_L0 mX11_putOn [.ref 0, .int a1, .int a2, .int a3, .int a4], [], am_hp RF s) (.int r.1, am_hp RF r.2) := by
  unfold F_X11_putOn_0 at h
  show am_Q _ _ _ (0, [.ref 0, .int a1, .int a2, .int a3, .int a4], [], _) _
  refine aq_aload_n (am_dg dkX11_putOn (i := 0) rfl) rfl ?_
  refine aq_getR (am_dg dkX11_putOn (i := 1) rfl) gk_11_84_0 (rf_0_9 hR) ?_
  refine aq_iload_n (am_dg dkX11_putOn (i := 2) rfl) rfl ?_
  refine aq_iload_n (am_dg dkX11_putOn (i := 3) rfl) rfl ?_
  obtain ⟨hg1, h⟩ := am_guard h
  refine aq_iast (am_dg dkX11_putOn (i := 4) rfl) sh_79 hg1 ?_
  obtain ⟨s2, hs3, h⟩ := am_bnd h
  rw [Option.some.inj hs3]
  refine aq_aload_n (am_dg dkX11_putOn (i := 5) rfl) rfl ?_
  refine aq_getR (am_dg dkX11_putOn (i := 6) rfl) gk_11_87_0 (rf_0_10 hR) ?_
  refine aq_iload_n (am_dg dkX11_putOn (i := 7) rfl) rfl ?_
  refine aq_iload_n (am_dg dkX11_putOn (i := 8) rfl) rfl ?_
  obtain ⟨hg4, h⟩ := am_guard h
  refine aq_iast (am_dg dkX11_putOn (i := 9) rfl) sh_80 hg4 ?_
  obtain ⟨s5, hs6, h⟩ := am_bnd h
  rw [Option.some.inj hs6]
  refine aq_aload_n (am_dg dkX11_putOn (i := 10) rfl) rfl ?_
  refine aq_getR (am_dg dkX11_putOn (i := 11) rfl) gk_11_90_0 (rf_0_11 hR) ?_
  refine aq_iload_n (am_dg dkX11_putOn (i := 12) rfl) rfl ?_
  refine aq_iload (am_dg dkX11_putOn (i := 13) rfl) rfl ?_
  obtain ⟨hg7, h⟩ := am_guard h
  refine aq_iast (am_dg dkX11_putOn (i := 14) rfl) sh_81 hg7 ?_
  obtain ⟨s8, hs9, h⟩ := am_bnd h
  rw [Option.some.inj hs9]
  refine aq_iconst (v := (1 : Int32)) (am_dg dkX11_putOn (i := 15) rfl) (by decide) ?_
  obtain rfl := Option.some.inj h
  exact aq_ireturn (am_dg dkX11_putOn (i := 16) rfl) rfl (Or.inl rfl) rfl
set_option maxRecDepth 20000 in
theorem T_X11_putRowOn_0 {sc : Option (Nat × (Nat → Int32))} {RF : Nat → Nat → Option Nat} {d : Nat} (hR : am_RFok RF) (hd : 1 ≤ d) {a1 : Int32} {a2 : Int32} {s : am_S} {r : Int32 × am_S} (h : F_X11_putRowOn_0 a1 a2 s = some r) : am_Q sc d mX11_putRowOn (0, am_L0 mX11_putRowOn [.ref 0, .int a1, .int a2], [], am_hp RF s) (.int r.1, am_hp RF r.2) := by
  obtain ⟨e, rfl⟩ : ∃ e, d = e + 1 := ⟨d - 1, by omega⟩
  unfold F_X11_putRowOn_0 at h
  show am_Q _ _ _ (0, [.ref 0, .int a1, .int a2], [], _) _
  refine aq_aload_n (am_dg dkX11_putRowOn (i := 0) rfl) rfl ?_
  refine aq_getR (am_dg dkX11_putRowOn (i := 1) rfl) gk_11_66_0 (rf_0_6 hR) ?_
  refine aq_iload_n (am_dg dkX11_putRowOn (i := 2) rfl) rfl ?_
  obtain ⟨hg1, h⟩ := am_guard h
  refine aq_iald (am_dg dkX11_putRowOn (i := 3) rfl) sh_72 hg1 ?_
  refine aq_iconst (v := (-1 : Int32)) (am_dg dkX11_putRowOn (i := 4) rfl) (by decide) ?_
  by_cases hc2 : (s.1 72 a2.toNatClampNeg) = (-1 : Int32)
  · rw [if_pos hc2] at h
    refine aq_icF (t := 19) (am_dg dkX11_putRowOn (i := 5) rfl) rfl (decide_eq_false (not_not_intro hc2)) ?_
    refine aq_aload_n (am_dg dkX11_putRowOn (i := 6) rfl) rfl ?_
    refine aq_iload_n (am_dg dkX11_putRowOn (i := 7) rfl) rfl ?_
    refine aq_iconst (v := (2 : Int32)) (am_dg dkX11_putRowOn (i := 8) rfl) (by decide) ?_
    refine aq_iconst (v := (0 : Int32)) (am_dg dkX11_putRowOn (i := 9) rfl) (by decide) ?_
    refine aq_iconst (v := (0 : Int32)) (am_dg dkX11_putRowOn (i := 10) rfl) (by decide) ?_
    obtain ⟨q3, hq4, h⟩ := am_bnd h
    refine aq_virt (a := [.ref 0, .int a1, .int (2 : Int32), .int (0 : Int32), .int (0 : Int32)]) (S1 := []) (v1 := .int q3.1) (S2 := [.int q3.1]) (am_dg dkX11_putRowOn (i := 11) rfl) cv_11_364_11 (am_cls_c sh_0 (by decide)) rfl rfl rfl (Nat.le_of_ble_eq_true rfl) (Nat.le_of_ble_eq_true rfl) (T_X11_putOn_0 hR (by omega) hq4) rfl ?_
    obtain rfl := Option.some.inj h
    exact aq_ireturn (am_dg dkX11_putRowOn (i := 12) rfl) rfl (Or.inl rfl) rfl
  · rw [if_neg hc2] at h
    refine aq_icT (t := 19) (am_dg dkX11_putRowOn (i := 5) rfl) rfl (decide_eq_true hc2) ?_
    refine aq_aload_n (am_dg dkX11_putRowOn (i := 13) rfl) rfl ?_
    refine aq_iload_n (am_dg dkX11_putRowOn (i := 14) rfl) rfl ?_
    refine aq_iconst (v := (1 : Int32)) (am_dg dkX11_putRowOn (i := 15) rfl) (by decide) ?_
    refine aq_aload_n (am_dg dkX11_putRowOn (i := 16) rfl) rfl ?_
    refine aq_getR (am_dg dkX11_putRowOn (i := 17) rfl) gk_11_66_0 (rf_0_6 hR) ?_
    refine aq_iload_n (am_dg dkX11_putRowOn (i := 18) rfl) rfl ?_
    obtain ⟨hg5, h⟩ := am_guard h
    refine aq_iald (am_dg dkX11_putRowOn (i := 19) rfl) sh_72 hg5 ?_
    refine aq_aload_n (am_dg dkX11_putRowOn (i := 20) rfl) rfl ?_
    refine aq_getR (am_dg dkX11_putRowOn (i := 21) rfl) gk_11_76_0 (rf_0_7 hR) ?_
    refine aq_iload_n (am_dg dkX11_putRowOn (i := 22) rfl) rfl ?_
    obtain ⟨hg6, h⟩ := am_guard h
    refine aq_iald (am_dg dkX11_putRowOn (i := 23) rfl) sh_73 hg6 ?_
    obtain ⟨q7, hq8, h⟩ := am_bnd h
    refine aq_virt (a := [.ref 0, .int a1, .int (1 : Int32), .int (s.1 72 a2.toNatClampNeg), .int (s.1 73 a2.toNatClampNeg)]) (S1 := []) (v1 := .int q7.1) (S2 := [.int q7.1]) (am_dg dkX11_putRowOn (i := 24) rfl) cv_11_364_11 (am_cls_c sh_0 (by decide)) rfl rfl rfl (Nat.le_of_ble_eq_true rfl) (Nat.le_of_ble_eq_true rfl) (T_X11_putOn_0 hR (by omega) hq8) rfl ?_
    obtain rfl := Option.some.inj h
    exact aq_ireturn (am_dg dkX11_putRowOn (i := 25) rfl) rfl (Or.inl rfl) rfl
