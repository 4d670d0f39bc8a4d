/-! LAYER 1: the runs (written by wip/whole/gen_f.py) -/
set_option maxRecDepth 20000 in
theorem T_X12_driftOf {sc : Option (Nat × (Nat → Int32))} {RF : Nat → Nat → Option Nat} {d : Nat} (hR : am_RFok RF) (hd : 0 ≤ d) {a0 : Int32} {a1 : Int32} {a2 : Int32} {s : am_S} {r : Int32 × am_S} (h : F_X12_driftOf a0 a1 a2 s = some r) : am_Q sc d mX12_driftOf (0, am_L0 mX12_driftOf [.int a0, .int a1, .int a2], [], am_hp RF s) (.int r.1, am_hp RF r.2) := by
  unfold F_X12_driftOf at h
  show am_Q _ _ _ (0, [.int a0, .int a1, .int a2, .null], [], _) _
  refine aq_iload_n (am_dg dkX12_driftOf (i := 0) rfl) rfl ?_
  refine aq_iconst (v := (5 : Int32)) (am_dg dkX12_driftOf (i := 1) rfl) (by decide) ?_
  by_cases hc1 : a1 ≤ (5 : Int32)
  · rw [if_pos hc1] at h
    refine aq_icT (t := 9) (am_dg dkX12_driftOf (i := 2) rfl) rfl (decide_eq_true hc1) ?_
    refine aq_iconst (v := (1 : Int32)) (am_dg dkX12_driftOf (i := 5) rfl) (by decide) ?_
    exact T_X12_driftOf_b10 hR (by omega) _ _ _ _ _ _ _ h
  · rw [if_neg hc1] at h
    refine aq_icF (t := 9) (am_dg dkX12_driftOf (i := 2) rfl) rfl (decide_eq_false hc1) ?_
    refine aq_iconst (v := (2 : Int32)) (am_dg dkX12_driftOf (i := 3) rfl) (by decide) ?_
    refine aq_goto (t := 10) (am_dg dkX12_driftOf (i := 4) rfl) rfl ?_
    exact T_X12_driftOf_b10 hR (by omega) _ _ _ _ _ _ _ h
set_option maxRecDepth 20000 in
theorem T_X12_drifts_82 {sc : Option (Nat × (Nat → Int32))} {RF : Nat → Nat → Option Nat} {d : Nat} (hR : am_RFok RF) (hd : 2 ≤ d) {a1 : Int32} {s : am_S} {r : Int32 × am_S} (h : F_X12_drifts_82 a1 s = some r) : am_Q sc d mX12_drifts (0, am_L0 mX12_drifts [.ref 82, .int a1], [], am_hp RF s) (.int r.1, am_hp RF r.2) := by
  obtain ⟨e, rfl⟩ : ∃ e, d = e + 1 := ⟨d - 1, by omega⟩
  unfold F_X12_drifts_82 at h
  show am_Q _ _ _ (0, [.ref 82, .int a1], [], _) _
  refine aq_aload_n (am_dg dkX12_drifts (i := 0) rfl) rfl ?_
  refine aq_iload_n (am_dg dkX12_drifts (i := 1) rfl) rfl ?_
  refine aq_iconst (v := (0 : Int32)) (am_dg dkX12_drifts (i := 2) rfl) (by decide) ?_
  obtain ⟨q1, hq2, h⟩ := am_bnd h
  refine aq_virt (a := [.ref 82, .int a1, .int (0 : Int32)]) (S1 := []) (v1 := .int q1.1) (S2 := [.int q1.1]) (am_dg dkX12_drifts (i := 3) rfl) cv_12_83_12 (am_cls_c sh_82 (by decide)) rfl rfl rfl (Nat.le_of_ble_eq_true rfl) (Nat.le_of_ble_eq_true rfl) (T_X12_its_82 hR (by omega) hq2) rfl ?_
  refine aq_aload_n (am_dg dkX12_drifts (i := 4) rfl) rfl ?_
  refine aq_iload_n (am_dg dkX12_drifts (i := 5) rfl) rfl ?_
  refine aq_iconst (v := (2 : Int32)) (am_dg dkX12_drifts (i := 6) rfl) (by decide) ?_
  obtain ⟨q3, hq4, h⟩ := am_bnd h
  refine aq_virt (a := [.ref 82, .int a1, .int (2 : Int32)]) (S1 := [.int q1.1]) (v1 := .int q3.1) (S2 := [.int q3.1, .int q1.1]) (am_dg dkX12_drifts (i := 7) rfl) cv_12_83_12 (am_cls_c sh_82 (by decide)) rfl rfl rfl (Nat.le_of_ble_eq_true rfl) (Nat.le_of_ble_eq_true rfl) (T_X12_its_82 hR (by omega) hq4) rfl ?_
  refine aq_aload_n (am_dg dkX12_drifts (i := 8) rfl) rfl ?_
  refine aq_getR (am_dg dkX12_drifts (i := 9) rfl) gk_12_7_82 (rf_82_0 hR) ?_
  refine aq_iconst (v := (3 : Int32)) (am_dg dkX12_drifts (i := 10) rfl) (by decide) ?_
  obtain ⟨hg5, h⟩ := am_guard h
  refine aq_iald (am_dg dkX12_drifts (i := 11) rfl) sh_83 hg5 ?_
  obtain ⟨q6, hq7, h⟩ := am_bnd h
  refine aq_static (a := [.int q1.1, .int q3.1, .int (q3.2.1 83 (3 : Int32).toNatClampNeg)]) (S1 := []) (v1 := .int q6.1) (S2 := [.int q6.1]) (am_dg dkX12_drifts (i := 12) rfl) ct_12_86 rfl rfl rfl (Nat.le_of_ble_eq_true rfl) (Nat.le_of_ble_eq_true rfl) (T_X12_driftOf hR (by omega) hq7) rfl ?_
  obtain rfl := Option.some.inj h
  exact aq_ireturn (am_dg dkX12_drifts (i := 13) rfl) rfl (Or.inl rfl) rfl
set_option maxRecDepth 20000 in
theorem T_X12_price_82_b19 {sc : Option (Nat × (Nat → Int32))} {RF : Nat → Nat → Option Nat} {d : Nat} (hR : am_RFok RF) (hd : 2 ≤ d) : ∀ (x1 : Int32) (x2 : Int32) (y0 : Int32) (w3 : Value) (s : am_S) (r : Int32 × am_S), F_X12_price_82_b19 x1 x2 y0 s = some r → am_Q sc d mX12_price (19, [.ref 82, .int x1, .int x2, w3], [.int y0], am_hp RF s) (.int r.1, am_hp RF r.2) := by
  obtain ⟨e, rfl⟩ : ∃ e, d = e + 1 := ⟨d - 1, by omega⟩
  intro x1 x2 y0 w3 s r h
  unfold F_X12_price_82_b19 at h
  refine aq_istore_n (L1 := [.ref 82, .int x1, .int x2, .int y0]) (am_dg dkX12_price (i := 13) rfl) rfl ?_
  refine aq_aload_n (am_dg dkX12_price (i := 14) rfl) rfl ?_
  refine aq_iload_n (am_dg dkX12_price (i := 15) rfl) rfl ?_
  refine aq_iconst (v := (0 : Int32)) (am_dg dkX12_price (i := 16) rfl) (by decide) ?_
  obtain ⟨q1, hq2, h⟩ := am_bnd h
  refine aq_virt (a := [.ref 82, .int x1, .int (0 : Int32)]) (S1 := []) (v1 := .int q1.1) (S2 := [.int q1.1]) (am_dg dkX12_price (i := 17) rfl) cv_12_83_12 (am_cls_c sh_82 (by decide)) rfl rfl rfl (Nat.le_of_ble_eq_true rfl) (Nat.le_of_ble_eq_true rfl) (T_X12_its_82 hR (by omega) hq2) rfl ?_
  by_cases hc3 : q1.1 = (1 : Int32)
  · rw [if_pos hc3] at h
    refine aq_tsw (t := 60) (am_dg dkX12_price (i := 18) rfl) (by rw [hc3]; rfl) ?_
    refine aq_iconst (v := (2 : Int32)) (am_dg dkX12_price (i := 19) rfl) (by decide) ?_
    refine aq_iload_n (am_dg dkX12_price (i := 20) rfl) rfl ?_
    refine aq_imul (am_dg dkX12_price (i := 21) rfl) ?_
    obtain rfl := Option.some.inj h
    exact aq_ireturn (am_dg dkX12_price (i := 22) rfl) rfl (Or.inl rfl) rfl
  rw [if_neg hc3] at h
  by_cases hc4 : q1.1 = (2 : Int32)
  · rw [if_pos hc4] at h
    refine aq_tsw (t := 64) (am_dg dkX12_price (i := 18) rfl) (by rw [hc4]; rfl) ?_
    refine aq_iload_n (am_dg dkX12_price (i := 23) rfl) rfl ?_
    obtain rfl := Option.some.inj h
    exact aq_ireturn (am_dg dkX12_price (i := 24) rfl) rfl (Or.inl rfl) rfl
  rw [if_neg hc4] at h
  by_cases hc5 : q1.1 = (3 : Int32)
  · rw [if_pos hc5] at h
    refine aq_tsw (t := 66) (am_dg dkX12_price (i := 18) rfl) (by rw [hc5]; rfl) ?_
    refine aq_iload_n (am_dg dkX12_price (i := 25) rfl) rfl ?_
    refine aq_iconst (v := (5 : Int32)) (am_dg dkX12_price (i := 26) rfl) (by decide) ?_
    refine aq_iadd (am_dg dkX12_price (i := 27) rfl) ?_
    obtain rfl := Option.some.inj h
    exact aq_ireturn (am_dg dkX12_price (i := 28) rfl) rfl (Or.inl rfl) rfl
  rw [if_neg hc5] at h
  by_cases hc6 : q1.1 = (4 : Int32)
  · rw [if_pos hc6] at h
    refine aq_tsw (t := 70) (am_dg dkX12_price (i := 18) rfl) (by rw [hc6]; rfl) ?_
    refine aq_iconst (v := (1 : Int32)) (am_dg dkX12_price (i := 29) rfl) (by decide) ?_
    obtain rfl := Option.some.inj h
    exact aq_ireturn (am_dg dkX12_price (i := 30) rfl) rfl (Or.inl rfl) rfl
  rw [if_neg hc6] at h
  by_cases hc7 : q1.1 = (5 : Int32)
  · rw [if_pos hc7] at h
    refine aq_tsw (t := 72) (am_dg dkX12_price (i := 18) rfl) (by rw [hc7]; rfl) ?_
    refine aq_iconst (v := (0 : Int32)) (am_dg dkX12_price (i := 31) rfl) (by decide) ?_
    obtain rfl := Option.some.inj h
    exact aq_ireturn (am_dg dkX12_price (i := 32) rfl) rfl (Or.inl rfl) rfl
  rw [if_neg hc7] at h
  refine aq_tsw (t := 74) (am_dg dkX12_price (i := 18) rfl) (am_tsw_d (by have := lv_neT hc3 (show ((1 : Int32)).toInt = 1 by decide); have := lv_neT hc4 (show ((2 : Int32)).toInt = 2 by decide); have := lv_neT hc5 (show ((3 : Int32)).toInt = 3 by decide); have := lv_neT hc6 (show ((4 : Int32)).toInt = 4 by decide); have := lv_neT hc7 (show ((5 : Int32)).toInt = 5 by decide); omega) rfl) ?_
  refine aq_iload_n (am_dg dkX12_price (i := 33) rfl) rfl ?_
  obtain rfl := Option.some.inj h
  exact aq_ireturn (am_dg dkX12_price (i := 34) rfl) rfl (Or.inl rfl) rfl
set_option maxRecDepth 20000 in
theorem T_X12_price_82 {sc : Option (Nat × (Nat → Int32))} {RF : Nat → Nat → Option Nat} {d : Nat} (hR : am_RFok RF) (hd : 2 ≤ d) {a1 : Int32} {s : am_S} {r : Int32 × am_S} (h : F_X12_price_82 a1 s = some r) : am_Q sc d mX12_price (0, am_L0 mX12_price [.ref 82, .int a1], [], am_hp RF s) (.int r.1, am_hp RF r.2) := by
  obtain ⟨e, rfl⟩ : ∃ e, d = e + 1 := ⟨d - 1, by omega⟩
  unfold F_X12_price_82 at h
  show am_Q _ _ _ (0, [.ref 82, .int a1, .null, .null], [], _) _
  refine aq_aload_n (am_dg dkX12_price (i := 0) rfl) rfl ?_
  refine aq_iload_n (am_dg dkX12_price (i := 1) rfl) rfl ?_
  refine aq_iconst (v := (2 : Int32)) (am_dg dkX12_price (i := 2) rfl) (by decide) ?_
  obtain ⟨q1, hq2, h⟩ := am_bnd h
  refine aq_virt (a := [.ref 82, .int a1, .int (2 : Int32)]) (S1 := []) (v1 := .int q1.1) (S2 := [.int q1.1]) (am_dg dkX12_price (i := 3) rfl) cv_12_83_12 (am_cls_c sh_82 (by decide)) rfl rfl rfl (Nat.le_of_ble_eq_true rfl) (Nat.le_of_ble_eq_true rfl) (T_X12_its_82 hR (by omega) hq2) rfl ?_
  refine aq_istore_n (L1 := [.ref 82, .int a1, .int q1.1, .null]) (am_dg dkX12_price (i := 4) rfl) rfl ?_
  refine aq_iload_n (am_dg dkX12_price (i := 5) rfl) rfl ?_
  refine aq_iconst (v := (2 : Int32)) (am_dg dkX12_price (i := 6) rfl) (by decide) ?_
  by_cases hc3 : q1.1 ≤ (2 : Int32)
  · rw [if_pos hc3] at h
    refine aq_icT (t := 18) (am_dg dkX12_price (i := 7) rfl) rfl (decide_eq_true hc3) ?_
    refine aq_iconst (v := (0 : Int32)) (am_dg dkX12_price (i := 12) rfl) (by decide) ?_
    exact T_X12_price_82_b19 hR (by omega) _ _ _ _ _ _ h
  · rw [if_neg hc3] at h
    refine aq_icF (t := 18) (am_dg dkX12_price (i := 7) rfl) rfl (decide_eq_false hc3) ?_
    refine aq_iload_n (am_dg dkX12_price (i := 8) rfl) rfl ?_
    refine aq_iconst (v := (2 : Int32)) (am_dg dkX12_price (i := 9) rfl) (by decide) ?_
    refine aq_isub (am_dg dkX12_price (i := 10) rfl) ?_
    refine aq_goto (t := 19) (am_dg dkX12_price (i := 11) rfl) rfl ?_
    exact T_X12_price_82_b19 hR (by omega) _ _ _ _ _ _ h
set_option maxRecDepth 20000 in
theorem T_X12_isBursting_82 {sc : Option (Nat × (Nat → Int32))} {RF : Nat → Nat → Option Nat} {d : Nat} (hR : am_RFok RF) (hd : 2 ≤ d) {a1 : Int32} {s : am_S} {r : Int32 × am_S} (h : F_X12_isBursting_82 a1 s = some r) : am_Q sc d mX12_isBursting (0, am_L0 mX12_isBursting [.ref 82, .int a1], [], am_hp RF s) (.int r.1, am_hp RF r.2) := by
  obtain ⟨e, rfl⟩ : ∃ e, d = e + 1 := ⟨d - 1, by omega⟩
  unfold F_X12_isBursting_82 at h
  show am_Q _ _ _ (0, [.ref 82, .int a1], [], _) _
  refine aq_aload_n (am_dg dkX12_isBursting (i := 0) rfl) rfl ?_
  refine aq_iload_n (am_dg dkX12_isBursting (i := 1) rfl) rfl ?_
  refine aq_iconst (v := (0 : Int32)) (am_dg dkX12_isBursting (i := 2) rfl) (by decide) ?_
  obtain ⟨q1, hq2, h⟩ := am_bnd h
  refine aq_virt (a := [.ref 82, .int a1, .int (0 : Int32)]) (S1 := []) (v1 := .int q1.1) (S2 := [.int q1.1]) (am_dg dkX12_isBursting (i := 3) rfl) cv_12_83_12 (am_cls_c sh_82 (by decide)) rfl rfl rfl (Nat.le_of_ble_eq_true rfl) (Nat.le_of_ble_eq_true rfl) (T_X12_its_82 hR (by omega) hq2) rfl ?_
  refine aq_iconst (v := (4 : Int32)) (am_dg dkX12_isBursting (i := 4) rfl) (by decide) ?_
  by_cases hc3 : q1.1 = (4 : Int32)
  · rw [if_pos hc3] at h
    refine aq_icF (t := 25) (am_dg dkX12_isBursting (i := 5) rfl) rfl (decide_eq_false (not_not_intro hc3)) ?_
    refine aq_aload_n (am_dg dkX12_isBursting (i := 6) rfl) rfl ?_
    refine aq_iload_n (am_dg dkX12_isBursting (i := 7) rfl) rfl ?_
    refine aq_iconst (v := (2 : Int32)) (am_dg dkX12_isBursting (i := 8) rfl) (by decide) ?_
    obtain ⟨q4, hq5, h⟩ := am_bnd h
    refine aq_virt (a := [.ref 82, .int a1, .int (2 : Int32)]) (S1 := []) (v1 := .int q4.1) (S2 := [.int q4.1]) (am_dg dkX12_isBursting (i := 9) rfl) cv_12_83_12 (am_cls_c sh_82 (by decide)) rfl rfl rfl (Nat.le_of_ble_eq_true rfl) (Nat.le_of_ble_eq_true rfl) (T_X12_its_82 hR (by omega) hq5) rfl ?_
    refine aq_bipush (v := (8 : Int32)) (am_dg dkX12_isBursting (i := 10) rfl) (by decide) ?_
    by_cases hc6 : q4.1 < (8 : Int32)
    · rw [if_pos hc6] at h
      refine aq_icT (t := 25) (am_dg dkX12_isBursting (i := 11) rfl) rfl (decide_eq_true hc6) ?_
      refine aq_iconst (v := (0 : Int32)) (am_dg dkX12_isBursting (i := 14) rfl) (by decide) ?_
      obtain rfl := Option.some.inj h
      exact aq_ireturn (am_dg dkX12_isBursting (i := 15) rfl) rfl (Or.inr (Or.inl rfl)) rfl
    · rw [if_neg hc6] at h
      refine aq_icF (t := 25) (am_dg dkX12_isBursting (i := 11) rfl) rfl (decide_eq_false hc6) ?_
      refine aq_iconst (v := (1 : Int32)) (am_dg dkX12_isBursting (i := 12) rfl) (by decide) ?_
      refine aq_goto (t := 26) (am_dg dkX12_isBursting (i := 13) rfl) rfl ?_
      obtain rfl := Option.some.inj h
      exact aq_ireturn (am_dg dkX12_isBursting (i := 15) rfl) rfl (Or.inr (Or.inl rfl)) rfl
  · rw [if_neg hc3] at h
    refine aq_icT (t := 25) (am_dg dkX12_isBursting (i := 5) rfl) rfl (decide_eq_true hc3) ?_
    refine aq_iconst (v := (0 : Int32)) (am_dg dkX12_isBursting (i := 14) rfl) (by decide) ?_
    obtain rfl := Option.some.inj h
    exact aq_ireturn (am_dg dkX12_isBursting (i := 15) rfl) rfl (Or.inr (Or.inl rfl)) rfl
set_option maxRecDepth 20000 in
theorem T_X12_isUnder_b19 {sc : Option (Nat × (Nat → Int32))} {RF : Nat → Nat → Option Nat} {d : Nat} (hR : am_RFok RF) (hd : 0 ≤ d) : ∀ (x0 : Int32) (x1 : Int32) (s : am_S) (r : Int32 × am_S), F_X12_isUnder_b19 x0 x1 s = some r → am_Q sc d mX12_isUnder (19, [.int x0, .int x1], [], am_hp RF s) (.int r.1, am_hp RF r.2) := by
  intro x0 x1 s r h
  unfold F_X12_isUnder_b19 at h
  refine aq_iload_n (am_dg dkX12_isUnder (i := 11) rfl) rfl ?_
  refine aq_iconst (v := (5 : Int32)) (am_dg dkX12_isUnder (i := 12) rfl) (by decide) ?_
  by_cases hc1 : x0 = (5 : Int32)
  · rw [if_pos hc1] at h
    refine aq_icF (t := 33) (am_dg dkX12_isUnder (i := 13) rfl) rfl (decide_eq_false (not_not_intro hc1)) ?_
    refine aq_iload_n (am_dg dkX12_isUnder (i := 14) rfl) rfl ?_
    refine aq_iconst (v := (4 : Int32)) (am_dg dkX12_isUnder (i := 15) rfl) (by decide) ?_
    by_cases hc2 : x1 = (4 : Int32)
    · rw [if_pos hc2] at h
      refine aq_icF (t := 33) (am_dg dkX12_isUnder (i := 16) rfl) rfl (decide_eq_false (not_not_intro hc2)) ?_
      refine aq_iconst (v := (1 : Int32)) (am_dg dkX12_isUnder (i := 17) rfl) (by decide) ?_
      refine aq_goto (t := 34) (am_dg dkX12_isUnder (i := 18) rfl) rfl ?_
      obtain rfl := Option.some.inj h
      exact aq_ireturn (am_dg dkX12_isUnder (i := 20) rfl) rfl (Or.inr (Or.inl rfl)) rfl
    · rw [if_neg hc2] at h
      refine aq_icT (t := 33) (am_dg dkX12_isUnder (i := 16) rfl) rfl (decide_eq_true hc2) ?_
      refine aq_iconst (v := (0 : Int32)) (am_dg dkX12_isUnder (i := 19) rfl) (by decide) ?_
      obtain rfl := Option.some.inj h
      exact aq_ireturn (am_dg dkX12_isUnder (i := 20) rfl) rfl (Or.inr (Or.inl rfl)) rfl
  · rw [if_neg hc1] at h
    refine aq_icT (t := 33) (am_dg dkX12_isUnder (i := 13) rfl) rfl (decide_eq_true hc1) ?_
    refine aq_iconst (v := (0 : Int32)) (am_dg dkX12_isUnder (i := 19) rfl) (by decide) ?_
    obtain rfl := Option.some.inj h
    exact aq_ireturn (am_dg dkX12_isUnder (i := 20) rfl) rfl (Or.inr (Or.inl rfl)) rfl
set_option maxRecDepth 20000 in
theorem T_X12_isUnder {sc : Option (Nat × (Nat → Int32))} {RF : Nat → Nat → Option Nat} {d : Nat} (hR : am_RFok RF) (hd : 0 ≤ d) {a0 : Int32} {a1 : Int32} {s : am_S} {r : Int32 × am_S} (h : F_X12_isUnder a0 a1 s = some r) : am_Q sc d mX12_isUnder (0, am_L0 mX12_isUnder [.int a0, .int a1], [], am_hp RF s) (.int r.1, am_hp RF r.2) := by
  unfold F_X12_isUnder at h
  show am_Q _ _ _ (0, [.int a0, .int a1], [], _) _
  refine aq_iload_n (am_dg dkX12_isUnder (i := 0) rfl) rfl ?_
  by_cases hc1 : a1 = (0 : Int32)
  · rw [if_pos hc1] at h
    refine aq_ifT (t := 29) (am_dg dkX12_isUnder (i := 1) rfl) rfl (decide_eq_true hc1) ?_
    refine aq_iconst (v := (1 : Int32)) (am_dg dkX12_isUnder (i := 17) rfl) (by decide) ?_
    refine aq_goto (t := 34) (am_dg dkX12_isUnder (i := 18) rfl) rfl ?_
    obtain rfl := Option.some.inj h
    exact aq_ireturn (am_dg dkX12_isUnder (i := 20) rfl) rfl (Or.inr (Or.inl rfl)) rfl
  · rw [if_neg hc1] at h
    refine aq_ifF (t := 29) (am_dg dkX12_isUnder (i := 1) rfl) rfl (decide_eq_false hc1) ?_
    refine aq_iload_n (am_dg dkX12_isUnder (i := 2) rfl) rfl ?_
    refine aq_iload_n (am_dg dkX12_isUnder (i := 3) rfl) rfl ?_
    by_cases hc2 : a0 = a1
    · rw [if_pos hc2] at h
      refine aq_icT (t := 29) (am_dg dkX12_isUnder (i := 4) rfl) rfl (decide_eq_true hc2) ?_
      refine aq_iconst (v := (1 : Int32)) (am_dg dkX12_isUnder (i := 17) rfl) (by decide) ?_
      refine aq_goto (t := 34) (am_dg dkX12_isUnder (i := 18) rfl) rfl ?_
      obtain rfl := Option.some.inj h
      exact aq_ireturn (am_dg dkX12_isUnder (i := 20) rfl) rfl (Or.inr (Or.inl rfl)) rfl
    · rw [if_neg hc2] at h
      refine aq_icF (t := 29) (am_dg dkX12_isUnder (i := 4) rfl) rfl (decide_eq_false hc2) ?_
      refine aq_iload_n (am_dg dkX12_isUnder (i := 5) rfl) rfl ?_
      refine aq_iconst (v := (3 : Int32)) (am_dg dkX12_isUnder (i := 6) rfl) (by decide) ?_
      by_cases hc3 : a0 = (3 : Int32)
      · rw [if_pos hc3] at h
        refine aq_icF (t := 19) (am_dg dkX12_isUnder (i := 7) rfl) rfl (decide_eq_false (not_not_intro hc3)) ?_
        refine aq_iload_n (am_dg dkX12_isUnder (i := 8) rfl) rfl ?_
        refine aq_iconst (v := (2 : Int32)) (am_dg dkX12_isUnder (i := 9) rfl) (by decide) ?_
        by_cases hc4 : a1 = (2 : Int32)
        · rw [if_pos hc4] at h
          refine aq_icT (t := 29) (am_dg dkX12_isUnder (i := 10) rfl) rfl (decide_eq_true hc4) ?_
          refine aq_iconst (v := (1 : Int32)) (am_dg dkX12_isUnder (i := 17) rfl) (by decide) ?_
          refine aq_goto (t := 34) (am_dg dkX12_isUnder (i := 18) rfl) rfl ?_
          obtain rfl := Option.some.inj h
          exact aq_ireturn (am_dg dkX12_isUnder (i := 20) rfl) rfl (Or.inr (Or.inl rfl)) rfl
        · rw [if_neg hc4] at h
          refine aq_icF (t := 29) (am_dg dkX12_isUnder (i := 10) rfl) rfl (decide_eq_false hc4) ?_
          exact T_X12_isUnder_b19 hR (by omega) _ _ _ _ h
      · rw [if_neg hc3] at h
        refine aq_icT (t := 19) (am_dg dkX12_isUnder (i := 7) rfl) rfl (decide_eq_true hc3) ?_
        exact T_X12_isUnder_b19 hR (by omega) _ _ _ _ h
set_option maxRecDepth 20000 in
theorem T_X12_isHolding {sc : Option (Nat × (Nat → Int32))} {RF : Nat → Nat → Option Nat} {d : Nat} (hR : am_RFok RF) (hd : 0 ≤ d) {a0 : Int32} {a1 : Int32} {a2 : Int32} {s : am_S} {r : Int32 × am_S} (h : F_X12_isHolding a0 a1 a2 s = some r) : am_Q sc d mX12_isHolding (0, am_L0 mX12_isHolding [.int a0, .int a1, .int a2], [], am_hp RF s) (.int r.1, am_hp RF r.2) := by
  unfold F_X12_isHolding at h
  show am_Q _ _ _ (0, [.int a0, .int a1, .int a2], [], _) _
  refine aq_iload_n (am_dg dkX12_isHolding (i := 0) rfl) rfl ?_
  by_cases hc1 : a0 = (-21 : Int32)
  · rw [if_pos hc1] at h
    refine aq_lsw (t := 77) (am_dg dkX12_isHolding (i := 1) rfl) (by rw [hc1]; rfl) ?_
    refine aq_iload_n (am_dg dkX12_isHolding (i := 23) rfl) rfl ?_
    refine aq_iconst (v := (1 : Int32)) (am_dg dkX12_isHolding (i := 24) rfl) (by decide) ?_
    by_cases hc2 : a1 = (1 : Int32)
    · rw [if_pos hc2] at h
      refine aq_icF (t := 91) (am_dg dkX12_isHolding (i := 25) rfl) rfl (decide_eq_false (not_not_intro hc2)) ?_
      refine aq_iload_n (am_dg dkX12_isHolding (i := 26) rfl) rfl ?_
      refine aq_iconst (v := (1 : Int32)) (am_dg dkX12_isHolding (i := 27) rfl) (by decide) ?_
      by_cases hc3 : a2 = (1 : Int32)
      · rw [if_pos hc3] at h
        refine aq_icF (t := 91) (am_dg dkX12_isHolding (i := 28) rfl) rfl (decide_eq_false (not_not_intro hc3)) ?_
        refine aq_iconst (v := (1 : Int32)) (am_dg dkX12_isHolding (i := 29) rfl) (by decide) ?_
        refine aq_goto (t := 92) (am_dg dkX12_isHolding (i := 30) rfl) rfl ?_
        obtain rfl := Option.some.inj h
        exact aq_ireturn (am_dg dkX12_isHolding (i := 32) rfl) rfl (Or.inr (Or.inl rfl)) rfl
      · rw [if_neg hc3] at h
        refine aq_icT (t := 91) (am_dg dkX12_isHolding (i := 28) rfl) rfl (decide_eq_true hc3) ?_
        refine aq_iconst (v := (0 : Int32)) (am_dg dkX12_isHolding (i := 31) rfl) (by decide) ?_
        obtain rfl := Option.some.inj h
        exact aq_ireturn (am_dg dkX12_isHolding (i := 32) rfl) rfl (Or.inr (Or.inl rfl)) rfl
    · rw [if_neg hc2] at h
      refine aq_icT (t := 91) (am_dg dkX12_isHolding (i := 25) rfl) rfl (decide_eq_true hc2) ?_
      refine aq_iconst (v := (0 : Int32)) (am_dg dkX12_isHolding (i := 31) rfl) (by decide) ?_
      obtain rfl := Option.some.inj h
      exact aq_ireturn (am_dg dkX12_isHolding (i := 32) rfl) rfl (Or.inr (Or.inl rfl)) rfl
  rw [if_neg hc1] at h
  by_cases hc4 : a0 = (-13 : Int32)
  · rw [if_pos hc4] at h
    refine aq_lsw (t := 66) (am_dg dkX12_isHolding (i := 1) rfl) (by rw [hc4]; rfl) ?_
    refine aq_iload_n (am_dg dkX12_isHolding (i := 16) rfl) rfl ?_
    refine aq_iload_n (am_dg dkX12_isHolding (i := 17) rfl) rfl ?_
    by_cases hc5 : a1 ≤ a2
    · rw [if_pos hc5] at h
      refine aq_icT (t := 75) (am_dg dkX12_isHolding (i := 18) rfl) rfl (decide_eq_true hc5) ?_
      refine aq_iconst (v := (0 : Int32)) (am_dg dkX12_isHolding (i := 21) rfl) (by decide) ?_
      obtain rfl := Option.some.inj h
      exact aq_ireturn (am_dg dkX12_isHolding (i := 22) rfl) rfl (Or.inr (Or.inl rfl)) rfl
    · rw [if_neg hc5] at h
      refine aq_icF (t := 75) (am_dg dkX12_isHolding (i := 18) rfl) rfl (decide_eq_false hc5) ?_
      refine aq_iconst (v := (1 : Int32)) (am_dg dkX12_isHolding (i := 19) rfl) (by decide) ?_
      refine aq_goto (t := 76) (am_dg dkX12_isHolding (i := 20) rfl) rfl ?_
      obtain rfl := Option.some.inj h
      exact aq_ireturn (am_dg dkX12_isHolding (i := 22) rfl) rfl (Or.inr (Or.inl rfl)) rfl
  rw [if_neg hc4] at h
  by_cases hc6 : a0 = (-12 : Int32)
  · rw [if_pos hc6] at h
    refine aq_lsw (t := 55) (am_dg dkX12_isHolding (i := 1) rfl) (by rw [hc6]; rfl) ?_
    refine aq_iload_n (am_dg dkX12_isHolding (i := 9) rfl) rfl ?_
    refine aq_iload_n (am_dg dkX12_isHolding (i := 10) rfl) rfl ?_
    by_cases hc7 : a1 = a2
    · rw [if_pos hc7] at h
      refine aq_icF (t := 64) (am_dg dkX12_isHolding (i := 11) rfl) rfl (decide_eq_false (not_not_intro hc7)) ?_
      refine aq_iconst (v := (1 : Int32)) (am_dg dkX12_isHolding (i := 12) rfl) (by decide) ?_
      refine aq_goto (t := 65) (am_dg dkX12_isHolding (i := 13) rfl) rfl ?_
      obtain rfl := Option.some.inj h
      exact aq_ireturn (am_dg dkX12_isHolding (i := 15) rfl) rfl (Or.inr (Or.inl rfl)) rfl
    · rw [if_neg hc7] at h
      refine aq_icT (t := 64) (am_dg dkX12_isHolding (i := 11) rfl) rfl (decide_eq_true hc7) ?_
      refine aq_iconst (v := (0 : Int32)) (am_dg dkX12_isHolding (i := 14) rfl) (by decide) ?_
      obtain rfl := Option.some.inj h
      exact aq_ireturn (am_dg dkX12_isHolding (i := 15) rfl) rfl (Or.inr (Or.inl rfl)) rfl
  rw [if_neg hc6] at h
  by_cases hc8 : a0 = (-11 : Int32)
  · rw [if_pos hc8] at h
    refine aq_lsw (t := 44) (am_dg dkX12_isHolding (i := 1) rfl) (by rw [hc8]; rfl) ?_
    refine aq_iload_n (am_dg dkX12_isHolding (i := 2) rfl) rfl ?_
    refine aq_iload_n (am_dg dkX12_isHolding (i := 3) rfl) rfl ?_
    by_cases hc9 : a2 ≤ a1
    · rw [if_pos hc9] at h
      refine aq_icT (t := 53) (am_dg dkX12_isHolding (i := 4) rfl) rfl (decide_eq_true hc9) ?_
      refine aq_iconst (v := (0 : Int32)) (am_dg dkX12_isHolding (i := 7) rfl) (by decide) ?_
      obtain rfl := Option.some.inj h
      exact aq_ireturn (am_dg dkX12_isHolding (i := 8) rfl) rfl (Or.inr (Or.inl rfl)) rfl
    · rw [if_neg hc9] at h
      refine aq_icF (t := 53) (am_dg dkX12_isHolding (i := 4) rfl) rfl (decide_eq_false hc9) ?_
      refine aq_iconst (v := (1 : Int32)) (am_dg dkX12_isHolding (i := 5) rfl) (by decide) ?_
      refine aq_goto (t := 54) (am_dg dkX12_isHolding (i := 6) rfl) rfl ?_
      obtain rfl := Option.some.inj h
      exact aq_ireturn (am_dg dkX12_isHolding (i := 8) rfl) rfl (Or.inr (Or.inl rfl)) rfl
  rw [if_neg hc8] at h
  refine aq_lsw (t := 93) (am_dg dkX12_isHolding (i := 1) rfl) (am_lsw_d rfl (by simp only [lv_osw hc1 (show ((-21 : Int32)).toInt = -21 by decide), lv_osw hc4 (show ((-13 : Int32)).toInt = -13 by decide), lv_osw hc6 (show ((-12 : Int32)).toInt = -12 by decide), lv_osw hc8 (show ((-11 : Int32)).toInt = -11 by decide)]; rfl)) ?_
  refine aq_iload_n (am_dg dkX12_isHolding (i := 33) rfl) rfl ?_
  refine aq_iconst (v := (1 : Int32)) (am_dg dkX12_isHolding (i := 34) rfl) (by decide) ?_
  by_cases hc10 : a1 = (1 : Int32)
  · rw [if_pos hc10] at h
    refine aq_icT (t := 103) (am_dg dkX12_isHolding (i := 35) rfl) rfl (decide_eq_true hc10) ?_
    refine aq_iconst (v := (1 : Int32)) (am_dg dkX12_isHolding (i := 39) rfl) (by decide) ?_
    refine aq_goto (t := 108) (am_dg dkX12_isHolding (i := 40) rfl) rfl ?_
    obtain rfl := Option.some.inj h
    exact aq_ireturn (am_dg dkX12_isHolding (i := 42) rfl) rfl (Or.inr (Or.inl rfl)) rfl
  · rw [if_neg hc10] at h
    refine aq_icF (t := 103) (am_dg dkX12_isHolding (i := 35) rfl) rfl (decide_eq_false hc10) ?_
    refine aq_iload_n (am_dg dkX12_isHolding (i := 36) rfl) rfl ?_
    refine aq_iconst (v := (1 : Int32)) (am_dg dkX12_isHolding (i := 37) rfl) (by decide) ?_
    by_cases hc11 : a2 = (1 : Int32)
    · rw [if_pos hc11] at h
      refine aq_icF (t := 107) (am_dg dkX12_isHolding (i := 38) rfl) rfl (decide_eq_false (not_not_intro hc11)) ?_
      refine aq_iconst (v := (1 : Int32)) (am_dg dkX12_isHolding (i := 39) rfl) (by decide) ?_
      refine aq_goto (t := 108) (am_dg dkX12_isHolding (i := 40) rfl) rfl ?_
      obtain rfl := Option.some.inj h
      exact aq_ireturn (am_dg dkX12_isHolding (i := 42) rfl) rfl (Or.inr (Or.inl rfl)) rfl
    · rw [if_neg hc11] at h
      refine aq_icT (t := 107) (am_dg dkX12_isHolding (i := 38) rfl) rfl (decide_eq_true hc11) ?_
      refine aq_iconst (v := (0 : Int32)) (am_dg dkX12_isHolding (i := 41) rfl) (by decide) ?_
      obtain rfl := Option.some.inj h
      exact aq_ireturn (am_dg dkX12_isHolding (i := 42) rfl) rfl (Or.inr (Or.inl rfl)) rfl
set_option maxRecDepth 20000 in
theorem T_X12_fact_82 {sc : Option (Nat × (Nat → Int32))} {RF : Nat → Nat → Option Nat} {d : Nat} (hR : am_RFok RF) (hd : 2 ≤ d) {a1 : Int32} {a2 : Int32} {s : am_S} {r : Int32 × am_S} (h : F_X12_fact_82 a1 a2 s = some r) : am_Q sc d mX12_fact (0, am_L0 mX12_fact [.ref 82, .int a1, .int a2], [], am_hp RF s) (.int r.1, am_hp RF r.2) := by
  obtain ⟨e, rfl⟩ : ∃ e, d = e + 1 := ⟨d - 1, by omega⟩
  unfold F_X12_fact_82 at h
  show am_Q _ _ _ (0, [.ref 82, .int a1, .int a2], [], _) _
  refine aq_iload_n (am_dg dkX12_fact (i := 0) rfl) rfl ?_
  by_cases hc1 : a1 = (-5 : Int32)
  · rw [if_pos hc1] at h
    refine aq_tsw (t := 64) (am_dg dkX12_fact (i := 1) rfl) (by rw [hc1]; rfl) ?_
    refine aq_iload_n (am_dg dkX12_fact (i := 22) rfl) rfl ?_
    obtain rfl := Option.some.inj h
    exact aq_ireturn (am_dg dkX12_fact (i := 23) rfl) rfl (Or.inl rfl) rfl
  rw [if_neg hc1] at h
  by_cases hc2 : a1 = (-4 : Int32)
  · rw [if_pos hc2] at h
    refine aq_tsw (t := 57) (am_dg dkX12_fact (i := 1) rfl) (by rw [hc2]; rfl) ?_
    refine aq_aload_n (am_dg dkX12_fact (i := 17) rfl) rfl ?_
    refine aq_iload_n (am_dg dkX12_fact (i := 18) rfl) rfl ?_
    refine aq_iconst (v := (3 : Int32)) (am_dg dkX12_fact (i := 19) rfl) (by decide) ?_
    obtain ⟨q3, hq4, h⟩ := am_bnd h
    refine aq_virt (a := [.ref 82, .int a2, .int (3 : Int32)]) (S1 := []) (v1 := .int q3.1) (S2 := [.int q3.1]) (am_dg dkX12_fact (i := 20) rfl) cv_12_83_12 (am_cls_c sh_82 (by decide)) rfl rfl rfl (Nat.le_of_ble_eq_true rfl) (Nat.le_of_ble_eq_true rfl) (T_X12_its_82 hR (by omega) hq4) rfl ?_
    obtain rfl := Option.some.inj h
    exact aq_ireturn (am_dg dkX12_fact (i := 21) rfl) rfl (Or.inl rfl) rfl
  rw [if_neg hc2] at h
  by_cases hc5 : a1 = (-3 : Int32)
  · rw [if_pos hc5] at h
    refine aq_tsw (t := 50) (am_dg dkX12_fact (i := 1) rfl) (by rw [hc5]; rfl) ?_
    refine aq_aload_n (am_dg dkX12_fact (i := 12) rfl) rfl ?_
    refine aq_iload_n (am_dg dkX12_fact (i := 13) rfl) rfl ?_
    refine aq_iconst (v := (2 : Int32)) (am_dg dkX12_fact (i := 14) rfl) (by decide) ?_
    obtain ⟨q6, hq7, h⟩ := am_bnd h
    refine aq_virt (a := [.ref 82, .int a2, .int (2 : Int32)]) (S1 := []) (v1 := .int q6.1) (S2 := [.int q6.1]) (am_dg dkX12_fact (i := 15) rfl) cv_12_83_12 (am_cls_c sh_82 (by decide)) rfl rfl rfl (Nat.le_of_ble_eq_true rfl) (Nat.le_of_ble_eq_true rfl) (T_X12_its_82 hR (by omega) hq7) rfl ?_
    obtain rfl := Option.some.inj h
    exact aq_ireturn (am_dg dkX12_fact (i := 16) rfl) rfl (Or.inl rfl) rfl
  rw [if_neg hc5] at h
  by_cases hc8 : a1 = (-2 : Int32)
  · rw [if_pos hc8] at h
    refine aq_tsw (t := 43) (am_dg dkX12_fact (i := 1) rfl) (by rw [hc8]; rfl) ?_
    refine aq_aload_n (am_dg dkX12_fact (i := 7) rfl) rfl ?_
    refine aq_iload_n (am_dg dkX12_fact (i := 8) rfl) rfl ?_
    refine aq_iconst (v := (1 : Int32)) (am_dg dkX12_fact (i := 9) rfl) (by decide) ?_
    obtain ⟨q9, hq10, h⟩ := am_bnd h
    refine aq_virt (a := [.ref 82, .int a2, .int (1 : Int32)]) (S1 := []) (v1 := .int q9.1) (S2 := [.int q9.1]) (am_dg dkX12_fact (i := 10) rfl) cv_12_83_12 (am_cls_c sh_82 (by decide)) rfl rfl rfl (Nat.le_of_ble_eq_true rfl) (Nat.le_of_ble_eq_true rfl) (T_X12_its_82 hR (by omega) hq10) rfl ?_
    obtain rfl := Option.some.inj h
    exact aq_ireturn (am_dg dkX12_fact (i := 11) rfl) rfl (Or.inl rfl) rfl
  rw [if_neg hc8] at h
  by_cases hc11 : a1 = (-1 : Int32)
  · rw [if_pos hc11] at h
    refine aq_tsw (t := 36) (am_dg dkX12_fact (i := 1) rfl) (by rw [hc11]; rfl) ?_
    refine aq_aload_n (am_dg dkX12_fact (i := 2) rfl) rfl ?_
    refine aq_getR (am_dg dkX12_fact (i := 3) rfl) gk_12_7_82 (rf_82_0 hR) ?_
    refine aq_iconst (v := (3 : Int32)) (am_dg dkX12_fact (i := 4) rfl) (by decide) ?_
    obtain ⟨hg12, h⟩ := am_guard h
    refine aq_iald (am_dg dkX12_fact (i := 5) rfl) sh_83 hg12 ?_
    obtain rfl := Option.some.inj h
    exact aq_ireturn (am_dg dkX12_fact (i := 6) rfl) rfl (Or.inl rfl) rfl
  rw [if_neg hc11] at h
  refine aq_tsw (t := 66) (am_dg dkX12_fact (i := 1) rfl) (am_tsw_d (by have := lv_neT hc1 (show ((-5 : Int32)).toInt = -5 by decide); have := lv_neT hc2 (show ((-4 : Int32)).toInt = -4 by decide); have := lv_neT hc5 (show ((-3 : Int32)).toInt = -3 by decide); have := lv_neT hc8 (show ((-2 : Int32)).toInt = -2 by decide); have := lv_neT hc11 (show ((-1 : Int32)).toInt = -1 by decide); omega) rfl) ?_
  refine aq_iload_n (am_dg dkX12_fact (i := 24) rfl) rfl ?_
  obtain rfl := Option.some.inj h
  exact aq_ireturn (am_dg dkX12_fact (i := 25) rfl) rfl (Or.inl rfl) rfl
set_option maxRecDepth 20000 in
theorem T_X12_isSo_82_b122 {sc : Option (Nat × (Nat → Int32))} {RF : Nat → Nat → Option Nat} {d : Nat} (hR : am_RFok RF) (hd : 3 ≤ d) {k6 : Int32 → Int32 → Int32 → Int32 → am_S → Option (Int32 × am_S)} (hk6 : ∀ (x2 : Int32) (x3 : Int32) (x4 : Int32) (x5 : Int32) (w1 : Value) (w6 : Value) (s2 : am_S) (r2 : Int32 × am_S), k6 x2 x3 x4 x5 s2 = some r2 → am_Q sc d mX12_isSo (6, [.ref 82, w1, .int x2, .int x3, .int x4, .int x5, w6], [], am_hp RF s2) (.int r2.1, am_hp RF r2.2)) : ∀ (x2 : Int32) (x3 : Int32) (x4 : Int32) (x5 : Int32) (w1 : Value) (w6 : Value) (s : am_S) (r : Int32 × am_S), F_X12_isSo_82_b122 k6 x2 x3 x4 x5 s = some r → am_Q sc d mX12_isSo (122, [.ref 82, w1, .int x2, .int x3, .int x4, .int x5, w6], [], am_hp RF s) (.int r.1, am_hp RF r.2) := by
  obtain ⟨e, rfl⟩ : ∃ e, d = e + 1 := ⟨d - 1, by omega⟩
  intro x2 x3 x4 x5 w1 w6 s r h
  unfold F_X12_isSo_82_b122 at h
  refine aq_iinc (v := (1 : Int32)) (L1 := [.ref 82, w1, .int x2, .int x3, .int x4, .int (x5 + (1 : Int32)), w6]) (am_dg dkX12_isSo (i := 68) rfl) rfl (by decide) rfl ?_
  refine aq_goto (t := 6) (am_dg dkX12_isSo (i := 69) rfl) rfl ?_
  exact hk6 _ _ _ _ _ _ _ _ h
set_option maxRecDepth 20000 in
theorem T_X12_isSo_82_b121 {sc : Option (Nat × (Nat → Int32))} {RF : Nat → Nat → Option Nat} {d : Nat} (hR : am_RFok RF) (hd : 3 ≤ d) {k6 : Int32 → Int32 → Int32 → Int32 → am_S → Option (Int32 × am_S)} (hk6 : ∀ (x2 : Int32) (x3 : Int32) (x4 : Int32) (x5 : Int32) (w1 : Value) (w6 : Value) (s2 : am_S) (r2 : Int32 × am_S), k6 x2 x3 x4 x5 s2 = some r2 → am_Q sc d mX12_isSo (6, [.ref 82, w1, .int x2, .int x3, .int x4, .int x5, w6], [], am_hp RF s2) (.int r2.1, am_hp RF r2.2)) : ∀ (x2 : Int32) (x3 : Int32) (x4 : Int32) (x5 : Int32) (y0 : Int32) (y1 : Int32) (w1 : Value) (w6 : Value) (s : am_S) (r : Int32 × am_S), F_X12_isSo_82_b121 k6 x2 x3 x4 x5 y0 y1 s = some r → am_Q sc d mX12_isSo (121, [.ref 82, w1, .int x2, .int x3, .int x4, .int x5, w6], [.int y0, .int y1, .ref 86], am_hp RF s) (.int r.1, am_hp RF r.2) := by
  obtain ⟨e, rfl⟩ : ∃ e, d = e + 1 := ⟨d - 1, by omega⟩
  intro x2 x3 x4 x5 y0 y1 w1 w6 s r h
  unfold F_X12_isSo_82_b121 at h
  obtain ⟨hg1, h⟩ := am_guard h
  refine aq_iast (am_dg dkX12_isSo (i := 67) rfl) sh_86 hg1 ?_
  obtain ⟨s2, hs3, h⟩ := am_bnd h
  rw [Option.some.inj hs3]
  exact T_X12_isSo_82_b122 hR (by omega) hk6 _ _ _ _ _ _ _ _ h
set_option maxRecDepth 20000 in
theorem T_X12_isSo_82_b6 {sc : Option (Nat × (Nat → Int32))} {RF : Nat → Nat → Option Nat} {d : Nat} (hR : am_RFok RF) (hd : 3 ≤ d) : ∀ (n : Nat) (x2 : Int32) (x3 : Int32) (x4 : Int32) (x5 : Int32) (w1 : Value) (w6 : Value) (s : am_S) (r : Int32 × am_S), F_X12_isSo_82_b6 n x2 x3 x4 x5 s = some r → am_Q sc d mX12_isSo (6, [.ref 82, w1, .int x2, .int x3, .int x4, .int x5, w6], [], am_hp RF s) (.int r.1, am_hp RF r.2) := by
  obtain ⟨e, rfl⟩ : ∃ e, d = e + 1 := ⟨d - 1, by omega⟩
  intro n
  induction n with
  | zero => intro x2 x3 x4 x5 w1 w6 s r h; rw [F_X12_isSo_82_b6] at h; cases h
  | succ n ih =>
  intro x2 x3 x4 x5 w1 w6 s r h
  rw [F_X12_isSo_82_b6] at h
  refine aq_iload (am_dg dkX12_isSo (i := 4) rfl) rfl ?_
  refine aq_iload_n (am_dg dkX12_isSo (i := 5) rfl) rfl ?_
  by_cases hc1 : x2 ≤ x5
  · rw [if_pos hc1] at h
    refine aq_icT (t := 128) (am_dg dkX12_isSo (i := 6) rfl) rfl (decide_eq_true hc1) ?_
    refine aq_iload (am_dg dkX12_isSo (i := 70) rfl) rfl ?_
    by_cases hc2 : x4 = (0 : Int32)
    · rw [if_pos hc2] at h
      refine aq_ifT (t := 143) (am_dg dkX12_isSo (i := 71) rfl) rfl (decide_eq_true hc2) ?_
      refine aq_iconst (v := (1 : Int32)) (am_dg dkX12_isSo (i := 78) rfl) (by decide) ?_
      refine aq_goto (t := 148) (am_dg dkX12_isSo (i := 79) rfl) rfl ?_
      obtain rfl := Option.some.inj h
      exact aq_ireturn (am_dg dkX12_isSo (i := 81) rfl) rfl (Or.inr (Or.inl rfl)) rfl
    · rw [if_neg hc2] at h
      refine aq_ifF (t := 143) (am_dg dkX12_isSo (i := 71) rfl) rfl (decide_eq_false hc2) ?_
      refine aq_aload_n (am_dg dkX12_isSo (i := 72) rfl) rfl ?_
      refine aq_getR (am_dg dkX12_isSo (i := 73) rfl) gk_12_19_82 (rf_82_4 hR) ?_
      refine aq_iconst (v := (0 : Int32)) (am_dg dkX12_isSo (i := 74) rfl) (by decide) ?_
      obtain ⟨hg3, h⟩ := am_guard h
      refine aq_iald (am_dg dkX12_isSo (i := 75) rfl) sh_86 hg3 ?_
      refine aq_iconst (v := (1 : Int32)) (am_dg dkX12_isSo (i := 76) rfl) (by decide) ?_
      by_cases hc4 : (s.1 86 (0 : Int32).toNatClampNeg) = (1 : Int32)
      · rw [if_pos hc4] at h
        refine aq_icF (t := 147) (am_dg dkX12_isSo (i := 77) rfl) rfl (decide_eq_false (not_not_intro hc4)) ?_
        refine aq_iconst (v := (1 : Int32)) (am_dg dkX12_isSo (i := 78) rfl) (by decide) ?_
        refine aq_goto (t := 148) (am_dg dkX12_isSo (i := 79) rfl) rfl ?_
        obtain rfl := Option.some.inj h
        exact aq_ireturn (am_dg dkX12_isSo (i := 81) rfl) rfl (Or.inr (Or.inl rfl)) rfl
      · rw [if_neg hc4] at h
        refine aq_icT (t := 147) (am_dg dkX12_isSo (i := 77) rfl) rfl (decide_eq_true hc4) ?_
        refine aq_iconst (v := (0 : Int32)) (am_dg dkX12_isSo (i := 80) rfl) (by decide) ?_
        obtain rfl := Option.some.inj h
        exact aq_ireturn (am_dg dkX12_isSo (i := 81) rfl) rfl (Or.inr (Or.inl rfl)) rfl
  · rw [if_neg hc1] at h
    refine aq_icF (t := 128) (am_dg dkX12_isSo (i := 6) rfl) rfl (decide_eq_false hc1) ?_
    refine aq_aload_n (am_dg dkX12_isSo (i := 7) rfl) rfl ?_
    refine aq_getR (am_dg dkX12_isSo (i := 8) rfl) gk_12_7_82 (rf_82_0 hR) ?_
    refine aq_bipush (v := (96 : Int32)) (am_dg dkX12_isSo (i := 9) rfl) (by decide) ?_
    refine aq_iload (am_dg dkX12_isSo (i := 10) rfl) rfl ?_
    refine aq_iadd (am_dg dkX12_isSo (i := 11) rfl) ?_
    obtain ⟨hg5, h⟩ := am_guard h
    refine aq_iald (am_dg dkX12_isSo (i := 12) rfl) sh_83 hg5 ?_
    obtain ⟨v6, hv7, h⟩ := am_bnd h
    rw [Option.some.inj hv7]
    refine aq_istore (L1 := [.ref 82, w1, .int x2, .int x3, .int x4, .int x5, .int v6]) (am_dg dkX12_isSo (i := 13) rfl) rfl ?_
    refine aq_iload (am_dg dkX12_isSo (i := 14) rfl) rfl ?_
    refine aq_bipush (v := (-10 : Int32)) (am_dg dkX12_isSo (i := 15) rfl) (by decide) ?_
    by_cases hc8 : v6 ≤ (-10 : Int32)
    · rw [if_pos hc8] at h
      refine aq_icT (t := 51) (am_dg dkX12_isSo (i := 16) rfl) rfl (decide_eq_true hc8) ?_
      refine aq_iload (am_dg dkX12_isSo (i := 27) rfl) rfl ?_
      refine aq_bipush (v := (-20 : Int32)) (am_dg dkX12_isSo (i := 28) rfl) (by decide) ?_
      by_cases hc9 : v6 = (-20 : Int32)
      · rw [if_pos hc9] at h
        refine aq_icF (t := 81) (am_dg dkX12_isSo (i := 29) rfl) rfl (decide_eq_false (not_not_intro hc9)) ?_
        refine aq_aload_n (am_dg dkX12_isSo (i := 30) rfl) rfl ?_
        refine aq_getR (am_dg dkX12_isSo (i := 31) rfl) gk_12_19_82 (rf_82_4 hR) ?_
        refine aq_iload (am_dg dkX12_isSo (i := 32) rfl) rfl ?_
        refine aq_iconst (v := (1 : Int32)) (am_dg dkX12_isSo (i := 33) rfl) (by decide) ?_
        refine aq_isub (am_dg dkX12_isSo (i := 34) rfl) ?_
        refine aq_iconst (v := (1 : Int32)) (am_dg dkX12_isSo (i := 35) rfl) (by decide) ?_
        refine aq_aload_n (am_dg dkX12_isSo (i := 36) rfl) rfl ?_
        refine aq_getR (am_dg dkX12_isSo (i := 37) rfl) gk_12_19_82 (rf_82_4 hR) ?_
        refine aq_iload (am_dg dkX12_isSo (i := 38) rfl) rfl ?_
        refine aq_iconst (v := (1 : Int32)) (am_dg dkX12_isSo (i := 39) rfl) (by decide) ?_
        refine aq_isub (am_dg dkX12_isSo (i := 40) rfl) ?_
        obtain ⟨hg10, h⟩ := am_guard h
        refine aq_iald (am_dg dkX12_isSo (i := 41) rfl) sh_86 hg10 ?_
        refine aq_isub (am_dg dkX12_isSo (i := 42) rfl) ?_
        obtain ⟨hg11, h⟩ := am_guard h
        refine aq_iast (am_dg dkX12_isSo (i := 43) rfl) sh_86 hg11 ?_
        obtain ⟨s12, hs13, h⟩ := am_bnd h
        rw [Option.some.inj hs13]
        refine aq_goto (t := 122) (am_dg dkX12_isSo (i := 44) rfl) rfl ?_
        exact T_X12_isSo_82_b122 hR (by omega) ih _ _ _ _ _ _ _ _ h
      · rw [if_neg hc9] at h
        refine aq_icT (t := 81) (am_dg dkX12_isSo (i := 29) rfl) rfl (decide_eq_true hc9) ?_
        refine aq_iinc (v := (-1 : Int32)) (L1 := [.ref 82, w1, .int x2, .int x3, .int (x4 + (-1 : Int32)), .int x5, .int v6]) (am_dg dkX12_isSo (i := 45) rfl) rfl (by decide) rfl ?_
        refine aq_aload_n (am_dg dkX12_isSo (i := 46) rfl) rfl ?_
        refine aq_getR (am_dg dkX12_isSo (i := 47) rfl) gk_12_19_82 (rf_82_4 hR) ?_
        refine aq_iload (am_dg dkX12_isSo (i := 48) rfl) rfl ?_
        refine aq_iconst (v := (1 : Int32)) (am_dg dkX12_isSo (i := 49) rfl) (by decide) ?_
        refine aq_isub (am_dg dkX12_isSo (i := 50) rfl) ?_
        refine aq_iload (am_dg dkX12_isSo (i := 51) rfl) rfl ?_
        refine aq_aload_n (am_dg dkX12_isSo (i := 52) rfl) rfl ?_
        refine aq_getR (am_dg dkX12_isSo (i := 53) rfl) gk_12_19_82 (rf_82_4 hR) ?_
        refine aq_iload (am_dg dkX12_isSo (i := 54) rfl) rfl ?_
        refine aq_iconst (v := (1 : Int32)) (am_dg dkX12_isSo (i := 55) rfl) (by decide) ?_
        refine aq_isub (am_dg dkX12_isSo (i := 56) rfl) ?_
        obtain ⟨hg14, h⟩ := am_guard h
        refine aq_iald (am_dg dkX12_isSo (i := 57) rfl) sh_86 hg14 ?_
        refine aq_aload_n (am_dg dkX12_isSo (i := 58) rfl) rfl ?_
        refine aq_getR (am_dg dkX12_isSo (i := 59) rfl) gk_12_19_82 (rf_82_4 hR) ?_
        refine aq_iload (am_dg dkX12_isSo (i := 60) rfl) rfl ?_
        obtain ⟨hg15, h⟩ := am_guard h
        refine aq_iald (am_dg dkX12_isSo (i := 61) rfl) sh_86 hg15 ?_
        obtain ⟨q16, hq17, h⟩ := am_bnd h
        refine aq_static (a := [.int v6, .int (s.1 86 ((x4 + (-1 : Int32)) - (1 : Int32)).toNatClampNeg), .int (s.1 86 (x4 + (-1 : Int32)).toNatClampNeg)]) (S1 := [.int ((x4 + (-1 : Int32)) - (1 : Int32)), .ref 86]) (v1 := .int q16.1) (S2 := [.int q16.1, .int ((x4 + (-1 : Int32)) - (1 : Int32)), .ref 86]) (am_dg dkX12_isSo (i := 62) rfl) ct_12_129 rfl rfl rfl (Nat.le_of_ble_eq_true rfl) (Nat.le_of_ble_eq_true rfl) (T_X12_isHolding hR (by omega) hq17) rfl ?_
        by_cases hc18 : q16.1 = (0 : Int32)
        · rw [if_pos hc18] at h
          refine aq_ifT (t := 120) (am_dg dkX12_isSo (i := 63) rfl) rfl (decide_eq_true hc18) ?_
          refine aq_iconst (v := (0 : Int32)) (am_dg dkX12_isSo (i := 66) rfl) (by decide) ?_
          exact T_X12_isSo_82_b121 hR (by omega) ih _ _ _ _ _ _ _ _ _ _ h
        · rw [if_neg hc18] at h
          refine aq_ifF (t := 120) (am_dg dkX12_isSo (i := 63) rfl) rfl (decide_eq_false hc18) ?_
          refine aq_iconst (v := (1 : Int32)) (am_dg dkX12_isSo (i := 64) rfl) (by decide) ?_
          refine aq_goto (t := 121) (am_dg dkX12_isSo (i := 65) rfl) rfl ?_
          exact T_X12_isSo_82_b121 hR (by omega) ih _ _ _ _ _ _ _ _ _ _ h
    · rw [if_neg hc8] at h
      refine aq_icF (t := 51) (am_dg dkX12_isSo (i := 16) rfl) rfl (decide_eq_false hc8) ?_
      refine aq_aload_n (am_dg dkX12_isSo (i := 17) rfl) rfl ?_
      refine aq_getR (am_dg dkX12_isSo (i := 18) rfl) gk_12_19_82 (rf_82_4 hR) ?_
      refine aq_iload (am_dg dkX12_isSo (i := 19) rfl) rfl ?_
      refine aq_aload_n (am_dg dkX12_isSo (i := 20) rfl) rfl ?_
      refine aq_iload (am_dg dkX12_isSo (i := 21) rfl) rfl ?_
      refine aq_iload_n (am_dg dkX12_isSo (i := 22) rfl) rfl ?_
      obtain ⟨q19, hq20, h⟩ := am_bnd h
      refine aq_virt (a := [.ref 82, .int v6, .int x3]) (S1 := [.int x4, .ref 86]) (v1 := .int q19.1) (S2 := [.int q19.1, .int x4, .ref 86]) (am_dg dkX12_isSo (i := 23) rfl) cv_12_126_12 (am_cls_c sh_82 (by decide)) rfl rfl rfl (Nat.le_of_ble_eq_true rfl) (Nat.le_of_ble_eq_true rfl) (T_X12_fact_82 hR (by omega) hq20) rfl ?_
      obtain ⟨hg21, h⟩ := am_guard h
      refine aq_iast (am_dg dkX12_isSo (i := 24) rfl) sh_86 hg21 ?_
      obtain ⟨s22, hs23, h⟩ := am_bnd h
      rw [Option.some.inj hs23]
      refine aq_iinc (v := (1 : Int32)) (L1 := [.ref 82, w1, .int x2, .int x3, .int (x4 + (1 : Int32)), .int x5, .int v6]) (am_dg dkX12_isSo (i := 25) rfl) rfl (by decide) rfl ?_
      refine aq_goto (t := 122) (am_dg dkX12_isSo (i := 26) rfl) rfl ?_
      exact T_X12_isSo_82_b122 hR (by omega) ih _ _ _ _ _ _ _ _ h
set_option maxRecDepth 20000 in
theorem T_X12_isSo_82 {sc : Option (Nat × (Nat → Int32))} {RF : Nat → Nat → Option Nat} {d : Nat} (hR : am_RFok RF) (hd : 3 ≤ d) {a1 : Int32} {a2 : Int32} {a3 : Int32} {s : am_S} {r : Int32 × am_S} (h : F_X12_isSo_82 a1 a2 a3 s = some r) : am_Q sc d mX12_isSo (0, am_L0 mX12_isSo [.ref 82, .int a1, .int a2, .int a3], [], am_hp RF s) (.int r.1, am_hp RF r.2) := by
  obtain ⟨e, rfl⟩ : ∃ e, d = e + 1 := ⟨d - 1, by omega⟩
  unfold F_X12_isSo_82 at h
  show am_Q _ _ _ (0, [.ref 82, .int a1, .int a2, .int a3, .null, .null, .null], [], _) _
  refine aq_iconst (v := (0 : Int32)) (am_dg dkX12_isSo (i := 0) rfl) (by decide) ?_
  refine aq_istore (L1 := [.ref 82, .int a1, .int a2, .int a3, .int (0 : Int32), .null, .null]) (am_dg dkX12_isSo (i := 1) rfl) rfl ?_
  refine aq_iload_n (am_dg dkX12_isSo (i := 2) rfl) rfl ?_
  refine aq_istore (L1 := [.ref 82, .int a1, .int a2, .int a3, .int (0 : Int32), .int a1, .null]) (am_dg dkX12_isSo (i := 3) rfl) rfl ?_
  exact T_X12_isSo_82_b6 hR (by omega) _ _ _ _ _ _ _ _ _ h
set_option maxRecDepth 20000 in
theorem T_X12_will_82_b87 {sc : Option (Nat × (Nat → Int32))} {RF : Nat → Nat → Option Nat} {d : Nat} (hR : am_RFok RF) (hd : 4 ≤ d) {k15 : Int32 → Int32 → Int32 → Int32 → Int32 → am_S → Option (Int32 × am_S)} (hk15 : ∀ (x1 : Int32) (x2 : Int32) (x3 : Int32) (x4 : Int32) (x5 : Int32) (w6 : Value) (s2 : am_S) (r2 : Int32 × am_S), k15 x1 x2 x3 x4 x5 s2 = some r2 → am_Q sc d mX12_will (15, [.ref 82, .int x1, .int x2, .int x3, .int x4, .int x5, w6], [], am_hp RF s2) (.int r2.1, am_hp RF r2.2)) : ∀ (x1 : Int32) (x2 : Int32) (x5 : Int32) (x6 : Int32) (y0 : Int32) (w3 : Value) (w4 : Value) (s : am_S) (r : Int32 × am_S), F_X12_will_82_b87 k15 x1 x2 x5 x6 y0 s = some r → am_Q sc d mX12_will (87, [.ref 82, .int x1, .int x2, w3, w4, .int x5, .int x6], [.int y0], am_hp RF s) (.int r.1, am_hp RF r.2) := by
  obtain ⟨e, rfl⟩ : ∃ e, d = e + 1 := ⟨d - 1, by omega⟩
  intro x1 x2 x5 x6 y0 w3 w4 s r h
  unfold F_X12_will_82_b87 at h
  refine aq_istore_n (L1 := [.ref 82, .int x1, .int x2, .int y0, w4, .int x5, .int x6]) (am_dg dkX12_will (i := 53) rfl) rfl ?_
  refine aq_aload_n (am_dg dkX12_will (i := 54) rfl) rfl ?_
  refine aq_getR (am_dg dkX12_will (i := 55) rfl) gk_12_7_82 (rf_82_0 hR) ?_
  refine aq_iload (am_dg dkX12_will (i := 56) rfl) rfl ?_
  refine aq_iconst (v := (2 : Int32)) (am_dg dkX12_will (i := 57) rfl) (by decide) ?_
  refine aq_iadd (am_dg dkX12_will (i := 58) rfl) ?_
  obtain ⟨hg1, h⟩ := am_guard h
  refine aq_iald (am_dg dkX12_will (i := 59) rfl) sh_83 hg1 ?_
  obtain ⟨v2, hv3, h⟩ := am_bnd h
  rw [Option.some.inj hv3]
  refine aq_istore (L1 := [.ref 82, .int x1, .int x2, .int y0, .int v2, .int x5, .int x6]) (am_dg dkX12_will (i := 60) rfl) rfl ?_
  refine aq_iinc (v := (1 : Int32)) (L1 := [.ref 82, .int x1, .int x2, .int y0, .int v2, .int (x5 + (1 : Int32)), .int x6]) (am_dg dkX12_will (i := 61) rfl) rfl (by decide) rfl ?_
  refine aq_goto (t := 15) (am_dg dkX12_will (i := 62) rfl) rfl ?_
  exact hk15 _ _ _ _ _ _ _ _ h
set_option maxRecDepth 20000 in
theorem T_X12_will_82_b86 {sc : Option (Nat × (Nat → Int32))} {RF : Nat → Nat → Option Nat} {d : Nat} (hR : am_RFok RF) (hd : 4 ≤ d) {k15 : Int32 → Int32 → Int32 → Int32 → Int32 → am_S → Option (Int32 × am_S)} (hk15 : ∀ (x1 : Int32) (x2 : Int32) (x3 : Int32) (x4 : Int32) (x5 : Int32) (w6 : Value) (s2 : am_S) (r2 : Int32 × am_S), k15 x1 x2 x3 x4 x5 s2 = some r2 → am_Q sc d mX12_will (15, [.ref 82, .int x1, .int x2, .int x3, .int x4, .int x5, w6], [], am_hp RF s2) (.int r2.1, am_hp RF r2.2)) : ∀ (x1 : Int32) (x2 : Int32) (x5 : Int32) (x6 : Int32) (w3 : Value) (w4 : Value) (s : am_S) (r : Int32 × am_S), F_X12_will_82_b86 k15 x1 x2 x5 x6 s = some r → am_Q sc d mX12_will (86, [.ref 82, .int x1, .int x2, w3, w4, .int x5, .int x6], [], am_hp RF s) (.int r.1, am_hp RF r.2) := by
  obtain ⟨e, rfl⟩ : ∃ e, d = e + 1 := ⟨d - 1, by omega⟩
  intro x1 x2 x5 x6 w3 w4 s r h
  unfold F_X12_will_82_b86 at h
  refine aq_iconst (v := (-1 : Int32)) (am_dg dkX12_will (i := 52) rfl) (by decide) ?_
  exact T_X12_will_82_b87 hR (by omega) hk15 _ _ _ _ _ _ _ _ _ h
set_option maxRecDepth 20000 in
theorem T_X12_will_82_b105 {sc : Option (Nat × (Nat → Int32))} {RF : Nat → Nat → Option Nat} {d : Nat} (hR : am_RFok RF) (hd : 4 ≤ d) : ∀ (x3 : Int32) (w0 : Value) (w1 : Value) (w2 : Value) (w4 : Value) (w5 : Value) (w6 : Value) (s : am_S) (r : Int32 × am_S), F_X12_will_82_b105 x3 s = some r → am_Q sc d mX12_will (105, [w0, w1, w2, .int x3, w4, w5, w6], [], am_hp RF s) (.int r.1, am_hp RF r.2) := by
  obtain ⟨e, rfl⟩ : ∃ e, d = e + 1 := ⟨d - 1, by omega⟩
  intro x3 w0 w1 w2 w4 w5 w6 s r h
  unfold F_X12_will_82_b105 at h
  refine aq_iload_n (am_dg dkX12_will (i := 63) rfl) rfl ?_
  by_cases hc1 : (0 : Int32) ≤ x3
  · rw [if_pos hc1] at h
    refine aq_ifT (t := 113) (am_dg dkX12_will (i := 64) rfl) rfl (decide_eq_true hc1) ?_
    refine aq_iload_n (am_dg dkX12_will (i := 67) rfl) rfl ?_
    obtain rfl := Option.some.inj h
    exact aq_ireturn (am_dg dkX12_will (i := 68) rfl) rfl (Or.inl rfl) rfl
  · rw [if_neg hc1] at h
    refine aq_ifF (t := 113) (am_dg dkX12_will (i := 64) rfl) rfl (decide_eq_false hc1) ?_
    refine aq_iconst (v := (0 : Int32)) (am_dg dkX12_will (i := 65) rfl) (by decide) ?_
    refine aq_goto (t := 114) (am_dg dkX12_will (i := 66) rfl) rfl ?_
    obtain rfl := Option.some.inj h
    exact aq_ireturn (am_dg dkX12_will (i := 68) rfl) rfl (Or.inl rfl) rfl
set_option maxRecDepth 20000 in
theorem T_X12_will_82_b15 {sc : Option (Nat × (Nat → Int32))} {RF : Nat → Nat → Option Nat} {d : Nat} (hR : am_RFok RF) (hd : 4 ≤ d) : ∀ (n : Nat) (x1 : Int32) (x2 : Int32) (x3 : Int32) (x4 : Int32) (x5 : Int32) (w6 : Value) (s : am_S) (r : Int32 × am_S), F_X12_will_82_b15 n x1 x2 x3 x4 x5 s = some r → am_Q sc d mX12_will (15, [.ref 82, .int x1, .int x2, .int x3, .int x4, .int x5, w6], [], am_hp RF s) (.int r.1, am_hp RF r.2) := by
  obtain ⟨e, rfl⟩ : ∃ e, d = e + 1 := ⟨d - 1, by omega⟩
  intro n
  induction n with
  | zero => intro x1 x2 x3 x4 x5 w6 s r h; rw [F_X12_will_82_b15] at h; cases h
  | succ n ih =>
  intro x1 x2 x3 x4 x5 w6 s r h
  rw [F_X12_will_82_b15] at h
  refine aq_iload (am_dg dkX12_will (i := 11) rfl) rfl ?_
  refine aq_aload_n (am_dg dkX12_will (i := 12) rfl) rfl ?_
  refine aq_getR (am_dg dkX12_will (i := 13) rfl) gk_12_7_82 (rf_82_0 hR) ?_
  refine aq_iconst (v := (1 : Int32)) (am_dg dkX12_will (i := 14) rfl) (by decide) ?_
  obtain ⟨hg1, h⟩ := am_guard h
  refine aq_iald (am_dg dkX12_will (i := 15) rfl) sh_83 hg1 ?_
  by_cases hc2 : (s.1 83 (1 : Int32).toNatClampNeg) ≤ x5
  · rw [if_pos hc2] at h
    refine aq_icT (t := 105) (am_dg dkX12_will (i := 16) rfl) rfl (decide_eq_true hc2) ?_
    exact T_X12_will_82_b105 hR (by omega) _ _ _ _ _ _ _ _ _ h
  · rw [if_neg hc2] at h
    refine aq_icF (t := 105) (am_dg dkX12_will (i := 16) rfl) rfl (decide_eq_false hc2) ?_
    refine aq_iload_n (am_dg dkX12_will (i := 17) rfl) rfl ?_
    by_cases hc3 : (0 : Int32) ≤ x3
    · rw [if_pos hc3] at h
      refine aq_ifT (t := 105) (am_dg dkX12_will (i := 18) rfl) rfl (decide_eq_true hc3) ?_
      exact T_X12_will_82_b105 hR (by omega) _ _ _ _ _ _ _ _ _ h
    · rw [if_neg hc3] at h
      refine aq_ifF (t := 105) (am_dg dkX12_will (i := 18) rfl) rfl (decide_eq_false hc3) ?_
      refine aq_bipush (v := (72 : Int32)) (am_dg dkX12_will (i := 19) rfl) (by decide) ?_
      refine aq_iconst (v := (3 : Int32)) (am_dg dkX12_will (i := 20) rfl) (by decide) ?_
      refine aq_iload (am_dg dkX12_will (i := 21) rfl) rfl ?_
      refine aq_imul (am_dg dkX12_will (i := 22) rfl) ?_
      refine aq_iadd (am_dg dkX12_will (i := 23) rfl) ?_
      refine aq_istore (L1 := [.ref 82, .int x1, .int x2, .int x3, .int x4, .int x5, .int ((72 : Int32) + ((3 : Int32) * x5))]) (am_dg dkX12_will (i := 24) rfl) rfl ?_
      refine aq_iload_n (am_dg dkX12_will (i := 25) rfl) rfl ?_
      refine aq_aload_n (am_dg dkX12_will (i := 26) rfl) rfl ?_
      refine aq_getR (am_dg dkX12_will (i := 27) rfl) gk_12_7_82 (rf_82_0 hR) ?_
      refine aq_iload (am_dg dkX12_will (i := 28) rfl) rfl ?_
      refine aq_iconst (v := (0 : Int32)) (am_dg dkX12_will (i := 29) rfl) (by decide) ?_
      refine aq_iadd (am_dg dkX12_will (i := 30) rfl) ?_
      obtain ⟨hg4, h⟩ := am_guard h
      refine aq_iald (am_dg dkX12_will (i := 31) rfl) sh_83 hg4 ?_
      obtain ⟨q5, hq6, h⟩ := am_bnd h
      refine aq_static (a := [.int x2, .int (s.1 83 (((72 : Int32) + ((3 : Int32) * x5)) + (0 : Int32)).toNatClampNeg)]) (S1 := []) (v1 := .int q5.1) (S2 := [.int q5.1]) (am_dg dkX12_will (i := 32) rfl) ct_12_133 rfl rfl rfl (Nat.le_of_ble_eq_true rfl) (Nat.le_of_ble_eq_true rfl) (T_X12_isUnder hR (by omega) hq6) rfl ?_
      by_cases hc7 : q5.1 = (0 : Int32)
      · rw [if_pos hc7] at h
        refine aq_ifT (t := 86) (am_dg dkX12_will (i := 33) rfl) rfl (decide_eq_true hc7) ?_
        exact T_X12_will_82_b86 hR (by omega) ih _ _ _ _ _ _ _ _ h
      · rw [if_neg hc7] at h
        refine aq_ifF (t := 86) (am_dg dkX12_will (i := 33) rfl) rfl (decide_eq_false hc7) ?_
        refine aq_aload_n (am_dg dkX12_will (i := 34) rfl) rfl ?_
        refine aq_iload (am_dg dkX12_will (i := 35) rfl) rfl ?_
        refine aq_aload_n (am_dg dkX12_will (i := 36) rfl) rfl ?_
        refine aq_getR (am_dg dkX12_will (i := 37) rfl) gk_12_7_82 (rf_82_0 hR) ?_
        refine aq_iload (am_dg dkX12_will (i := 38) rfl) rfl ?_
        refine aq_iconst (v := (2 : Int32)) (am_dg dkX12_will (i := 39) rfl) (by decide) ?_
        refine aq_iadd (am_dg dkX12_will (i := 40) rfl) ?_
        obtain ⟨hg8, h⟩ := am_guard h
        refine aq_iald (am_dg dkX12_will (i := 41) rfl) sh_83 hg8 ?_
        refine aq_iload_n (am_dg dkX12_will (i := 42) rfl) rfl ?_
        obtain ⟨q9, hq10, h⟩ := am_bnd h
        refine aq_virt (a := [.ref 82, .int x4, .int (q5.2.1 83 (((72 : Int32) + ((3 : Int32) * x5)) + (2 : Int32)).toNatClampNeg), .int x1]) (S1 := []) (v1 := .int q9.1) (S2 := [.int q9.1]) (am_dg dkX12_will (i := 43) rfl) cv_12_136_12 (am_cls_c sh_82 (by decide)) rfl rfl rfl (Nat.le_of_ble_eq_true rfl) (Nat.le_of_ble_eq_true rfl) (T_X12_isSo_82 hR (by omega) hq10) rfl ?_
        by_cases hc11 : q9.1 = (0 : Int32)
        · rw [if_pos hc11] at h
          refine aq_ifT (t := 86) (am_dg dkX12_will (i := 44) rfl) rfl (decide_eq_true hc11) ?_
          exact T_X12_will_82_b86 hR (by omega) ih _ _ _ _ _ _ _ _ h
        · rw [if_neg hc11] at h
          refine aq_ifF (t := 86) (am_dg dkX12_will (i := 44) rfl) rfl (decide_eq_false hc11) ?_
          refine aq_aload_n (am_dg dkX12_will (i := 45) rfl) rfl ?_
          refine aq_getR (am_dg dkX12_will (i := 46) rfl) gk_12_7_82 (rf_82_0 hR) ?_
          refine aq_iload (am_dg dkX12_will (i := 47) rfl) rfl ?_
          refine aq_iconst (v := (1 : Int32)) (am_dg dkX12_will (i := 48) rfl) (by decide) ?_
          refine aq_iadd (am_dg dkX12_will (i := 49) rfl) ?_
          obtain ⟨hg12, h⟩ := am_guard h
          refine aq_iald (am_dg dkX12_will (i := 50) rfl) sh_83 hg12 ?_
          refine aq_goto (t := 87) (am_dg dkX12_will (i := 51) rfl) rfl ?_
          exact T_X12_will_82_b87 hR (by omega) ih _ _ _ _ _ _ _ _ _ h
set_option maxRecDepth 20000 in
theorem T_X12_will_82 {sc : Option (Nat × (Nat → Int32))} {RF : Nat → Nat → Option Nat} {d : Nat} (hR : am_RFok RF) (hd : 4 ≤ d) {a1 : Int32} {s : am_S} {r : Int32 × am_S} (h : F_X12_will_82 a1 s = some r) : am_Q sc d mX12_will (0, am_L0 mX12_will [.ref 82, .int a1], [], am_hp RF s) (.int r.1, am_hp RF r.2) := by
  obtain ⟨e, rfl⟩ : ∃ e, d = e + 1 := ⟨d - 1, by omega⟩
  unfold F_X12_will_82 at h
  show am_Q _ _ _ (0, [.ref 82, .int a1, .null, .null, .null, .null, .null], [], _) _
  refine aq_aload_n (am_dg dkX12_will (i := 0) rfl) rfl ?_
  refine aq_iload_n (am_dg dkX12_will (i := 1) rfl) rfl ?_
  refine aq_iconst (v := (0 : Int32)) (am_dg dkX12_will (i := 2) rfl) (by decide) ?_
  obtain ⟨q1, hq2, h⟩ := am_bnd h
  refine aq_virt (a := [.ref 82, .int a1, .int (0 : Int32)]) (S1 := []) (v1 := .int q1.1) (S2 := [.int q1.1]) (am_dg dkX12_will (i := 3) rfl) cv_12_83_12 (am_cls_c sh_82 (by decide)) rfl rfl rfl (Nat.le_of_ble_eq_true rfl) (Nat.le_of_ble_eq_true rfl) (T_X12_its_82 hR (by omega) hq2) rfl ?_
  refine aq_istore_n (L1 := [.ref 82, .int a1, .int q1.1, .null, .null, .null, .null]) (am_dg dkX12_will (i := 4) rfl) rfl ?_
  refine aq_iconst (v := (-1 : Int32)) (am_dg dkX12_will (i := 5) rfl) (by decide) ?_
  refine aq_istore_n (L1 := [.ref 82, .int a1, .int q1.1, .int (-1 : Int32), .null, .null, .null]) (am_dg dkX12_will (i := 6) rfl) rfl ?_
  refine aq_iconst (v := (0 : Int32)) (am_dg dkX12_will (i := 7) rfl) (by decide) ?_
  refine aq_istore (L1 := [.ref 82, .int a1, .int q1.1, .int (-1 : Int32), .int (0 : Int32), .null, .null]) (am_dg dkX12_will (i := 8) rfl) rfl ?_
  refine aq_iconst (v := (0 : Int32)) (am_dg dkX12_will (i := 9) rfl) (by decide) ?_
  refine aq_istore (L1 := [.ref 82, .int a1, .int q1.1, .int (-1 : Int32), .int (0 : Int32), .int (0 : Int32), .null]) (am_dg dkX12_will (i := 10) rfl) rfl ?_
  exact T_X12_will_82_b15 hR (by omega) _ _ _ _ _ _ _ _ _ h
set_option maxRecDepth 20000 in
theorem T_X12_voiceOf_82 {sc : Option (Nat × (Nat → Int32))} {RF : Nat → Nat → Option Nat} {d : Nat} (hR : am_RFok RF) (hd : 5 ≤ d) {a1 : Int32} {a2 : Int32} {s : am_S} {r : Int32 × am_S} (h : F_X12_voiceOf_82 a1 a2 s = some r) : am_Q sc d mX12_voiceOf (0, am_L0 mX12_voiceOf [.ref 82, .int a1, .int a2], [], am_hp RF s) (.int r.1, am_hp RF r.2) := by
  obtain ⟨e, rfl⟩ : ∃ e, d = e + 1 := ⟨d - 1, by omega⟩
  unfold F_X12_voiceOf_82 at h
  show am_Q _ _ _ (0, [.ref 82, .int a1, .int a2], [], _) _
  refine aq_aload_n (am_dg dkX12_voiceOf (i := 0) rfl) rfl ?_
  refine aq_iload_n (am_dg dkX12_voiceOf (i := 1) rfl) rfl ?_
  obtain ⟨q1, hq2, h⟩ := am_bnd h
  refine aq_virt (a := [.ref 82, .int a1]) (S1 := []) (v1 := .int q1.1) (S2 := [.int q1.1]) (am_dg dkX12_voiceOf (i := 2) rfl) cv_12_90_12 (am_cls_c sh_82 (by decide)) rfl rfl rfl (Nat.le_of_ble_eq_true rfl) (Nat.le_of_ble_eq_true rfl) (T_X12_isVoice_82 hR (by omega) hq2) rfl ?_
  by_cases hc3 : q1.1 = (0 : Int32)
  · rw [if_pos hc3] at h
    refine aq_ifT (t := 20) (am_dg dkX12_voiceOf (i := 3) rfl) rfl (decide_eq_true hc3) ?_
    refine aq_iconst (v := (-1 : Int32)) (am_dg dkX12_voiceOf (i := 10) rfl) (by decide) ?_
    obtain rfl := Option.some.inj h
    exact aq_ireturn (am_dg dkX12_voiceOf (i := 11) rfl) rfl (Or.inl rfl) rfl
  · rw [if_neg hc3] at h
    refine aq_ifF (t := 20) (am_dg dkX12_voiceOf (i := 3) rfl) rfl (decide_eq_false hc3) ?_
    refine aq_iload_n (am_dg dkX12_voiceOf (i := 4) rfl) rfl ?_
    refine aq_i2l (am_dg dkX12_voiceOf (i := 5) rfl) ?_
    refine aq_lconst (v := (0 : Int64)) (am_dg dkX12_voiceOf (i := 6) rfl) (by decide) ?_
    refine aq_ldc2 (am_dg dkX12_voiceOf (i := 7) rfl) cl_12_93 ?_
    obtain ⟨q4, hq5, h⟩ := am_bnd h
    refine aq_static (a := [.long a2.toInt64, .long (0 : Int64), .long (8 : Int64)]) (S1 := []) (v1 := .int q4.1) (S2 := [.int q4.1]) (am_dg dkX12_voiceOf (i := 8) rfl) ct_12_61 rfl rfl rfl (Nat.le_of_ble_eq_true rfl) (Nat.le_of_ble_eq_true rfl) (T_X12_in hR (by omega) hq5) rfl ?_
    by_cases hc6 : q4.1 = (0 : Int32)
    · rw [if_pos hc6] at h
      refine aq_ifF (t := 22) (am_dg dkX12_voiceOf (i := 9) rfl) rfl (decide_eq_false (not_not_intro hc6)) ?_
      refine aq_iconst (v := (-1 : Int32)) (am_dg dkX12_voiceOf (i := 10) rfl) (by decide) ?_
      obtain rfl := Option.some.inj h
      exact aq_ireturn (am_dg dkX12_voiceOf (i := 11) rfl) rfl (Or.inl rfl) rfl
    · rw [if_neg hc6] at h
      refine aq_ifT (t := 22) (am_dg dkX12_voiceOf (i := 9) rfl) rfl (decide_eq_true hc6) ?_
      refine aq_iload_n (am_dg dkX12_voiceOf (i := 12) rfl) rfl ?_
      by_cases hc7 : a2 = (5 : Int32)
      · rw [if_pos hc7] at h
        refine aq_tsw (t := 52) (am_dg dkX12_voiceOf (i := 13) rfl) (by rw [hc7]; rfl) ?_
        refine aq_aload_n (am_dg dkX12_voiceOf (i := 14) rfl) rfl ?_
        refine aq_iload_n (am_dg dkX12_voiceOf (i := 15) rfl) rfl ?_
        obtain ⟨q8, hq9, h⟩ := am_bnd h
        refine aq_virt (a := [.ref 82, .int a1]) (S1 := []) (v1 := .int q8.1) (S2 := [.int q8.1]) (am_dg dkX12_voiceOf (i := 16) rfl) cv_12_95_12 (am_cls_c sh_82 (by decide)) rfl rfl rfl (Nat.le_of_ble_eq_true rfl) (Nat.le_of_ble_eq_true rfl) (T_X12_drifts_82 hR (by omega) hq9) rfl ?_
        obtain rfl := Option.some.inj h
        exact aq_ireturn (am_dg dkX12_voiceOf (i := 17) rfl) rfl (Or.inl rfl) rfl
      rw [if_neg hc7] at h
      by_cases hc10 : a2 = (6 : Int32)
      · rw [if_pos hc10] at h
        refine aq_tsw (t := 58) (am_dg dkX12_voiceOf (i := 13) rfl) (by rw [hc10]; rfl) ?_
        refine aq_aload_n (am_dg dkX12_voiceOf (i := 18) rfl) rfl ?_
        refine aq_iload_n (am_dg dkX12_voiceOf (i := 19) rfl) rfl ?_
        obtain ⟨q11, hq12, h⟩ := am_bnd h
        refine aq_virt (a := [.ref 82, .int a1]) (S1 := []) (v1 := .int q11.1) (S2 := [.int q11.1]) (am_dg dkX12_voiceOf (i := 20) rfl) cv_12_99_12 (am_cls_c sh_82 (by decide)) rfl rfl rfl (Nat.le_of_ble_eq_true rfl) (Nat.le_of_ble_eq_true rfl) (T_X12_price_82 hR (by omega) hq12) rfl ?_
        obtain rfl := Option.some.inj h
        exact aq_ireturn (am_dg dkX12_voiceOf (i := 21) rfl) rfl (Or.inl rfl) rfl
      rw [if_neg hc10] at h
      by_cases hc13 : a2 = (7 : Int32)
      · rw [if_pos hc13] at h
        refine aq_tsw (t := 64) (am_dg dkX12_voiceOf (i := 13) rfl) (by rw [hc13]; rfl) ?_
        refine aq_aload_n (am_dg dkX12_voiceOf (i := 22) rfl) rfl ?_
        refine aq_iload_n (am_dg dkX12_voiceOf (i := 23) rfl) rfl ?_
        obtain ⟨q14, hq15, h⟩ := am_bnd h
        refine aq_virt (a := [.ref 82, .int a1]) (S1 := []) (v1 := .int q14.1) (S2 := [.int q14.1]) (am_dg dkX12_voiceOf (i := 24) rfl) cv_12_102_12 (am_cls_c sh_82 (by decide)) rfl rfl rfl (Nat.le_of_ble_eq_true rfl) (Nat.le_of_ble_eq_true rfl) (T_X12_isBursting_82 hR (by omega) hq15) rfl ?_
        by_cases hc16 : q14.1 = (0 : Int32)
        · rw [if_pos hc16] at h
          refine aq_ifT (t := 76) (am_dg dkX12_voiceOf (i := 25) rfl) rfl (decide_eq_true hc16) ?_
          refine aq_iconst (v := (0 : Int32)) (am_dg dkX12_voiceOf (i := 28) rfl) (by decide) ?_
          obtain rfl := Option.some.inj h
          exact aq_ireturn (am_dg dkX12_voiceOf (i := 29) rfl) rfl (Or.inl rfl) rfl
        · rw [if_neg hc16] at h
          refine aq_ifF (t := 76) (am_dg dkX12_voiceOf (i := 25) rfl) rfl (decide_eq_false hc16) ?_
          refine aq_iconst (v := (1 : Int32)) (am_dg dkX12_voiceOf (i := 26) rfl) (by decide) ?_
          refine aq_goto (t := 77) (am_dg dkX12_voiceOf (i := 27) rfl) rfl ?_
          obtain rfl := Option.some.inj h
          exact aq_ireturn (am_dg dkX12_voiceOf (i := 29) rfl) rfl (Or.inl rfl) rfl
      rw [if_neg hc13] at h
      by_cases hc17 : a2 = (8 : Int32)
      · rw [if_pos hc17] at h
        refine aq_tsw (t := 78) (am_dg dkX12_voiceOf (i := 13) rfl) (by rw [hc17]; rfl) ?_
        refine aq_aload_n (am_dg dkX12_voiceOf (i := 30) rfl) rfl ?_
        refine aq_iload_n (am_dg dkX12_voiceOf (i := 31) rfl) rfl ?_
        obtain ⟨q18, hq19, h⟩ := am_bnd h
        refine aq_virt (a := [.ref 82, .int a1]) (S1 := []) (v1 := .int q18.1) (S2 := [.int q18.1]) (am_dg dkX12_voiceOf (i := 32) rfl) cv_12_105_12 (am_cls_c sh_82 (by decide)) rfl rfl rfl (Nat.le_of_ble_eq_true rfl) (Nat.le_of_ble_eq_true rfl) (T_X12_will_82 hR (by omega) hq19) rfl ?_
        obtain rfl := Option.some.inj h
        exact aq_ireturn (am_dg dkX12_voiceOf (i := 33) rfl) rfl (Or.inl rfl) rfl
      rw [if_neg hc17] at h
      refine aq_tsw (t := 84) (am_dg dkX12_voiceOf (i := 13) rfl) (am_tsw_d (by have := lv_neT hc7 (show ((5 : Int32)).toInt = 5 by decide); have := lv_neT hc10 (show ((6 : Int32)).toInt = 6 by decide); have := lv_neT hc13 (show ((7 : Int32)).toInt = 7 by decide); have := lv_neT hc17 (show ((8 : Int32)).toInt = 8 by decide); omega) rfl) ?_
      refine aq_aload_n (am_dg dkX12_voiceOf (i := 34) rfl) rfl ?_
      refine aq_iload_n (am_dg dkX12_voiceOf (i := 35) rfl) rfl ?_
      refine aq_iload_n (am_dg dkX12_voiceOf (i := 36) rfl) rfl ?_
      obtain ⟨q20, hq21, h⟩ := am_bnd h
      refine aq_virt (a := [.ref 82, .int a1, .int a2]) (S1 := []) (v1 := .int q20.1) (S2 := [.int q20.1]) (am_dg dkX12_voiceOf (i := 37) rfl) cv_12_83_12 (am_cls_c sh_82 (by decide)) rfl rfl rfl (Nat.le_of_ble_eq_true rfl) (Nat.le_of_ble_eq_true rfl) (T_X12_its_82 hR (by omega) hq21) rfl ?_
      obtain rfl := Option.some.inj h
      exact aq_ireturn (am_dg dkX12_voiceOf (i := 38) rfl) rfl (Or.inl rfl) rfl
set_option maxRecDepth 20000 in
theorem T_X11_exchange_11 {sc : Option (Nat × (Nat → Int32))} {RF : Nat → Nat → Option Nat} {d : Nat} (hR : am_RFok RF) (hd : 0 ≤ d) {a1 : Int32} {a2 : Int32} {s : am_S} {r : Int32 × am_S} (h : F_X11_exchange_11 a1 a2 s = some r) : am_Q sc d mX11_exchange (0, am_L0 mX11_exchange [.ref 11, .int a1, .int a2], [], am_hp RF s) (.int r.1, am_hp RF r.2) := by
  unfold F_X11_exchange_11 at h
  show am_Q _ _ _ (0, [.ref 11, .int a1, .int a2, .null], [], _) _
  refine aq_iload_n (am_dg dkX11_exchange (i := 0) rfl) rfl ?_
  by_cases hc1 : a1 < (0 : Int32)
  · rw [if_pos hc1] at h
    refine aq_ifT (t := 10) (am_dg dkX11_exchange (i := 1) rfl) rfl (decide_eq_true hc1) ?_
    refine aq_iconst (v := (-1 : Int32)) (am_dg dkX11_exchange (i := 6) rfl) (by decide) ?_
    obtain rfl := Option.some.inj h
    exact aq_ireturn (am_dg dkX11_exchange (i := 7) rfl) rfl (Or.inl rfl) rfl
  · rw [if_neg hc1] at h
    refine aq_ifF (t := 10) (am_dg dkX11_exchange (i := 1) rfl) rfl (decide_eq_false hc1) ?_
    refine aq_iload_n (am_dg dkX11_exchange (i := 2) rfl) rfl ?_
    refine aq_aload_n (am_dg dkX11_exchange (i := 3) rfl) rfl ?_
    refine aq_alen (v := (6 : Int32)) (am_dg dkX11_exchange (i := 4) rfl) sh_11 (by decide) (by decide) ?_
    by_cases hc2 : a1 < (6 : Int32)
    · rw [if_pos hc2] at h
      refine aq_icT (t := 12) (am_dg dkX11_exchange (i := 5) rfl) rfl (decide_eq_true hc2) ?_
      refine aq_aload_n (am_dg dkX11_exchange (i := 8) rfl) rfl ?_
      refine aq_iload_n (am_dg dkX11_exchange (i := 9) rfl) rfl ?_
      obtain ⟨hg3, h⟩ := am_guard h
      refine aq_iald (am_dg dkX11_exchange (i := 10) rfl) sh_11 hg3 ?_
      refine aq_istore_n (L1 := [.ref 11, .int a1, .int a2, .int (s.1 11 a1.toNatClampNeg)]) (am_dg dkX11_exchange (i := 11) rfl) rfl ?_
      refine aq_aload_n (am_dg dkX11_exchange (i := 12) rfl) rfl ?_
      refine aq_iload_n (am_dg dkX11_exchange (i := 13) rfl) rfl ?_
      refine aq_iload_n (am_dg dkX11_exchange (i := 14) rfl) rfl ?_
      obtain ⟨hg4, h⟩ := am_guard h
      refine aq_iast (am_dg dkX11_exchange (i := 15) rfl) sh_11 hg4 ?_
      obtain ⟨s5, hs6, h⟩ := am_bnd h
      rw [Option.some.inj hs6]
      refine aq_iload_n (am_dg dkX11_exchange (i := 16) rfl) rfl ?_
      obtain rfl := Option.some.inj h
      exact aq_ireturn (am_dg dkX11_exchange (i := 17) rfl) rfl (Or.inl rfl) rfl
    · rw [if_neg hc2] at h
      refine aq_icF (t := 12) (am_dg dkX11_exchange (i := 5) rfl) rfl (decide_eq_false hc2) ?_
      refine aq_iconst (v := (-1 : Int32)) (am_dg dkX11_exchange (i := 6) rfl) (by decide) ?_
      obtain rfl := Option.some.inj h
      exact aq_ireturn (am_dg dkX11_exchange (i := 7) rfl) rfl (Or.inl rfl) rfl
set_option maxRecDepth 20000 in
theorem T_X11_exchange_12 {sc : Option (Nat × (Nat → Int32))} {RF : Nat → Nat → Option Nat} {d : Nat} (hR : am_RFok RF) (hd : 0 ≤ d) {a1 : Int32} {a2 : Int32} {s : am_S} {r : Int32 × am_S} (h : F_X11_exchange_12 a1 a2 s = some r) : am_Q sc d mX11_exchange (0, am_L0 mX11_exchange [.ref 12, .int a1, .int a2], [], am_hp RF s) (.int r.1, am_hp RF r.2) := by
  unfold F_X11_exchange_12 at h
  show am_Q _ _ _ (0, [.ref 12, .int a1, .int a2, .null], [], _) _
  refine aq_iload_n (am_dg dkX11_exchange (i := 0) rfl) rfl ?_
  by_cases hc1 : a1 < (0 : Int32)
  · rw [if_pos hc1] at h
    refine aq_ifT (t := 10) (am_dg dkX11_exchange (i := 1) rfl) rfl (decide_eq_true hc1) ?_
    refine aq_iconst (v := (-1 : Int32)) (am_dg dkX11_exchange (i := 6) rfl) (by decide) ?_
    obtain rfl := Option.some.inj h
    exact aq_ireturn (am_dg dkX11_exchange (i := 7) rfl) rfl (Or.inl rfl) rfl
  · rw [if_neg hc1] at h
    refine aq_ifF (t := 10) (am_dg dkX11_exchange (i := 1) rfl) rfl (decide_eq_false hc1) ?_
    refine aq_iload_n (am_dg dkX11_exchange (i := 2) rfl) rfl ?_
    refine aq_aload_n (am_dg dkX11_exchange (i := 3) rfl) rfl ?_
    refine aq_alen (v := (6 : Int32)) (am_dg dkX11_exchange (i := 4) rfl) sh_12 (by decide) (by decide) ?_
    by_cases hc2 : a1 < (6 : Int32)
    · rw [if_pos hc2] at h
      refine aq_icT (t := 12) (am_dg dkX11_exchange (i := 5) rfl) rfl (decide_eq_true hc2) ?_
      refine aq_aload_n (am_dg dkX11_exchange (i := 8) rfl) rfl ?_
      refine aq_iload_n (am_dg dkX11_exchange (i := 9) rfl) rfl ?_
      obtain ⟨hg3, h⟩ := am_guard h
      refine aq_iald (am_dg dkX11_exchange (i := 10) rfl) sh_12 hg3 ?_
      refine aq_istore_n (L1 := [.ref 12, .int a1, .int a2, .int (s.1 12 a1.toNatClampNeg)]) (am_dg dkX11_exchange (i := 11) rfl) rfl ?_
      refine aq_aload_n (am_dg dkX11_exchange (i := 12) rfl) rfl ?_
      refine aq_iload_n (am_dg dkX11_exchange (i := 13) rfl) rfl ?_
      refine aq_iload_n (am_dg dkX11_exchange (i := 14) rfl) rfl ?_
      obtain ⟨hg4, h⟩ := am_guard h
      refine aq_iast (am_dg dkX11_exchange (i := 15) rfl) sh_12 hg4 ?_
      obtain ⟨s5, hs6, h⟩ := am_bnd h
      rw [Option.some.inj hs6]
      refine aq_iload_n (am_dg dkX11_exchange (i := 16) rfl) rfl ?_
      obtain rfl := Option.some.inj h
      exact aq_ireturn (am_dg dkX11_exchange (i := 17) rfl) rfl (Or.inl rfl) rfl
    · rw [if_neg hc2] at h
      refine aq_icF (t := 12) (am_dg dkX11_exchange (i := 5) rfl) rfl (decide_eq_false hc2) ?_
      refine aq_iconst (v := (-1 : Int32)) (am_dg dkX11_exchange (i := 6) rfl) (by decide) ?_
      obtain rfl := Option.some.inj h
      exact aq_ireturn (am_dg dkX11_exchange (i := 7) rfl) rfl (Or.inl rfl) rfl
set_option maxRecDepth 20000 in
theorem T_X11_exchange_13 {sc : Option (Nat × (Nat → Int32))} {RF : Nat → Nat → Option Nat} {d : Nat} (hR : am_RFok RF) (hd : 0 ≤ d) {a1 : Int32} {a2 : Int32} {s : am_S} {r : Int32 × am_S} (h : F_X11_exchange_13 a1 a2 s = some r) : am_Q sc d mX11_exchange (0, am_L0 mX11_exchange [.ref 13, .int a1, .int a2], [], am_hp RF s) (.int r.1, am_hp RF r.2) := by
  unfold F_X11_exchange_13 at h
  show am_Q _ _ _ (0, [.ref 13, .int a1, .int a2, .null], [], _) _
  refine aq_iload_n (am_dg dkX11_exchange (i := 0) rfl) rfl ?_
  by_cases hc1 : a1 < (0 : Int32)
  · rw [if_pos hc1] at h
    refine aq_ifT (t := 10) (am_dg dkX11_exchange (i := 1) rfl) rfl (decide_eq_true hc1) ?_
    refine aq_iconst (v := (-1 : Int32)) (am_dg dkX11_exchange (i := 6) rfl) (by decide) ?_
    obtain rfl := Option.some.inj h
    exact aq_ireturn (am_dg dkX11_exchange (i := 7) rfl) rfl (Or.inl rfl) rfl
  · rw [if_neg hc1] at h
    refine aq_ifF (t := 10) (am_dg dkX11_exchange (i := 1) rfl) rfl (decide_eq_false hc1) ?_
    refine aq_iload_n (am_dg dkX11_exchange (i := 2) rfl) rfl ?_
    refine aq_aload_n (am_dg dkX11_exchange (i := 3) rfl) rfl ?_
    refine aq_alen (v := (6 : Int32)) (am_dg dkX11_exchange (i := 4) rfl) sh_13 (by decide) (by decide) ?_
    by_cases hc2 : a1 < (6 : Int32)
    · rw [if_pos hc2] at h
      refine aq_icT (t := 12) (am_dg dkX11_exchange (i := 5) rfl) rfl (decide_eq_true hc2) ?_
      refine aq_aload_n (am_dg dkX11_exchange (i := 8) rfl) rfl ?_
      refine aq_iload_n (am_dg dkX11_exchange (i := 9) rfl) rfl ?_
      obtain ⟨hg3, h⟩ := am_guard h
      refine aq_iald (am_dg dkX11_exchange (i := 10) rfl) sh_13 hg3 ?_
      refine aq_istore_n (L1 := [.ref 13, .int a1, .int a2, .int (s.1 13 a1.toNatClampNeg)]) (am_dg dkX11_exchange (i := 11) rfl) rfl ?_
      refine aq_aload_n (am_dg dkX11_exchange (i := 12) rfl) rfl ?_
      refine aq_iload_n (am_dg dkX11_exchange (i := 13) rfl) rfl ?_
      refine aq_iload_n (am_dg dkX11_exchange (i := 14) rfl) rfl ?_
      obtain ⟨hg4, h⟩ := am_guard h
      refine aq_iast (am_dg dkX11_exchange (i := 15) rfl) sh_13 hg4 ?_
      obtain ⟨s5, hs6, h⟩ := am_bnd h
      rw [Option.some.inj hs6]
      refine aq_iload_n (am_dg dkX11_exchange (i := 16) rfl) rfl ?_
      obtain rfl := Option.some.inj h
      exact aq_ireturn (am_dg dkX11_exchange (i := 17) rfl) rfl (Or.inl rfl) rfl
    · rw [if_neg hc2] at h
      refine aq_icF (t := 12) (am_dg dkX11_exchange (i := 5) rfl) rfl (decide_eq_false hc2) ?_
      refine aq_iconst (v := (-1 : Int32)) (am_dg dkX11_exchange (i := 6) rfl) (by decide) ?_
      obtain rfl := Option.some.inj h
      exact aq_ireturn (am_dg dkX11_exchange (i := 7) rfl) rfl (Or.inl rfl) rfl
set_option maxRecDepth 20000 in
theorem T_X8_markCaught_8 {sc : Option (Nat × (Nat → Int32))} {RF : Nat → Nat → Option Nat} {d : Nat} (hR : am_RFok RF) (hd : 0 ≤ d) {a1 : Int32} {a2 : Int32} {s : am_S} {r : am_S} (h : F_X8_markCaught_8 a1 a2 s = some r) : am_Q sc d mX8_markCaught (0, am_L0 mX8_markCaught [.ref 8, .int a1, .int a2], [], am_hp RF s) (.null, am_hp RF r) := by
  unfold F_X8_markCaught_8 at h
  show am_Q _ _ _ (0, [.ref 8, .int a1, .int a2], [], _) _
  refine aq_aload_n (am_dg dkX8_markCaught (i := 0) rfl) rfl ?_
  refine aq_iload_n (am_dg dkX8_markCaught (i := 1) rfl) rfl ?_
  by_cases hc1 : a2 = (0 : Int32)
  · rw [if_pos hc1] at h
    refine aq_ifT (t := 16) (am_dg dkX8_markCaught (i := 2) rfl) rfl (decide_eq_true hc1) ?_
    refine aq_aload_n (am_dg dkX8_markCaught (i := 10) rfl) rfl ?_
    refine aq_getI (am_dg dkX8_markCaught (i := 11) rfl) gk_8_75_8 (by decide) ?_
    refine aq_iconst (v := (1 : Int32)) (am_dg dkX8_markCaught (i := 12) rfl) (by decide) ?_
    refine aq_iload_n (am_dg dkX8_markCaught (i := 13) rfl) rfl ?_
    refine aq_ishl (am_dg dkX8_markCaught (i := 14) rfl) ?_
    refine aq_iconst (v := (-1 : Int32)) (am_dg dkX8_markCaught (i := 15) rfl) (by decide) ?_
    refine aq_ixor (am_dg dkX8_markCaught (i := 16) rfl) ?_
    refine aq_iand (am_dg dkX8_markCaught (i := 17) rfl) ?_
    refine aq_putI (am_dg dkX8_markCaught (i := 18) rfl) gk_8_75_8 ?_
    obtain ⟨s2, hs3, h⟩ := am_bnd h
    rw [Option.some.inj hs3]
    obtain rfl := Option.some.inj h
    exact aq_return (am_dg dkX8_markCaught (i := 19) rfl) rfl
  · rw [if_neg hc1] at h
    refine aq_ifF (t := 16) (am_dg dkX8_markCaught (i := 2) rfl) rfl (decide_eq_false hc1) ?_
    refine aq_aload_n (am_dg dkX8_markCaught (i := 3) rfl) rfl ?_
    refine aq_getI (am_dg dkX8_markCaught (i := 4) rfl) gk_8_75_8 (by decide) ?_
    refine aq_iconst (v := (1 : Int32)) (am_dg dkX8_markCaught (i := 5) rfl) (by decide) ?_
    refine aq_iload_n (am_dg dkX8_markCaught (i := 6) rfl) rfl ?_
    refine aq_ishl (am_dg dkX8_markCaught (i := 7) rfl) ?_
    refine aq_ior (am_dg dkX8_markCaught (i := 8) rfl) ?_
    refine aq_goto (t := 26) (am_dg dkX8_markCaught (i := 9) rfl) rfl ?_
    refine aq_putI (am_dg dkX8_markCaught (i := 18) rfl) gk_8_75_8 ?_
    obtain ⟨s4, hs5, h⟩ := am_bnd h
    rw [Option.some.inj hs5]
    obtain rfl := Option.some.inj h
    exact aq_return (am_dg dkX8_markCaught (i := 19) rfl) rfl
set_option maxRecDepth 20000 in
theorem T_X11_changeCaught_0_b32 {sc : Option (Nat × (Nat → Int32))} {RF : Nat → Nat → Option Nat} {d : Nat} (hR : am_RFok RF) (hd : 1 ≤ d) : ∀ (x3 : Int32) (y0 : Int32) (y1 : Int32) (w0 : Value) (w1 : Value) (w2 : Value) (s : am_S) (r : Int32 × am_S), F_X11_changeCaught_0_b32 x3 y0 y1 s = some r → am_Q sc d mX11_changeCaught (32, [w0, w1, w2, .int x3], [.int y0, .int y1, .ref 8], am_hp RF s) (.int r.1, am_hp RF r.2) := by
  obtain ⟨e, rfl⟩ : ∃ e, d = e + 1 := ⟨d - 1, by omega⟩
  intro x3 y0 y1 w0 w1 w2 s r h
  unfold F_X11_changeCaught_0_b32 at h
  obtain ⟨q1, hq2, h⟩ := am_bnd h
  refine aq_virt (a := [.ref 8, .int y1, .int y0]) (S1 := []) (v1 := .null) (S2 := []) (am_dg dkX11_changeCaught (i := 18) rfl) cv_11_157_8 (am_cls_c sh_8 (by decide)) rfl rfl rfl (Nat.le_of_ble_eq_true rfl) (Nat.le_of_ble_eq_true rfl) (T_X8_markCaught_8 hR (by omega) hq2) rfl ?_
  refine aq_iload_n (am_dg dkX11_changeCaught (i := 19) rfl) rfl ?_
  obtain rfl := Option.some.inj h
  exact aq_ireturn (am_dg dkX11_changeCaught (i := 20) rfl) rfl (Or.inl rfl) rfl
set_option maxRecDepth 20000 in
theorem T_X11_changeCaught_0_b16 {sc : Option (Nat × (Nat → Int32))} {RF : Nat → Nat → Option Nat} {d : Nat} (hR : am_RFok RF) (hd : 1 ≤ d) : ∀ (x1 : Int32) (x2 : Int32) (y0 : Int32) (w3 : Value) (s : am_S) (r : Int32 × am_S), F_X11_changeCaught_0_b16 x1 x2 y0 s = some r → am_Q sc d mX11_changeCaught (16, [.ref 0, .int x1, .int x2, w3], [.int y0], am_hp RF s) (.int r.1, am_hp RF r.2) := by
  obtain ⟨e, rfl⟩ : ∃ e, d = e + 1 := ⟨d - 1, by omega⟩
  intro x1 x2 y0 w3 s r h
  unfold F_X11_changeCaught_0_b16 at h
  refine aq_istore_n (L1 := [.ref 0, .int x1, .int x2, .int y0]) (am_dg dkX11_changeCaught (i := 8) rfl) rfl ?_
  refine aq_aload_n (am_dg dkX11_changeCaught (i := 9) rfl) rfl ?_
  refine aq_getR (am_dg dkX11_changeCaught (i := 10) rfl) gk_11_30_0 (rf_0_0 hR) ?_
  refine aq_iload_n (am_dg dkX11_changeCaught (i := 11) rfl) rfl ?_
  refine aq_iload_n (am_dg dkX11_changeCaught (i := 12) rfl) rfl ?_
  refine aq_iconst (v := (1 : Int32)) (am_dg dkX11_changeCaught (i := 13) rfl) (by decide) ?_
  by_cases hc1 : x2 = (1 : Int32)
  · rw [if_pos hc1] at h
    refine aq_icF (t := 31) (am_dg dkX11_changeCaught (i := 14) rfl) rfl (decide_eq_false (not_not_intro hc1)) ?_
    refine aq_iconst (v := (1 : Int32)) (am_dg dkX11_changeCaught (i := 15) rfl) (by decide) ?_
    refine aq_goto (t := 32) (am_dg dkX11_changeCaught (i := 16) rfl) rfl ?_
    exact T_X11_changeCaught_0_b32 hR (by omega) _ _ _ _ _ _ _ _ h
  · rw [if_neg hc1] at h
    refine aq_icT (t := 31) (am_dg dkX11_changeCaught (i := 14) rfl) rfl (decide_eq_true hc1) ?_
    refine aq_iconst (v := (0 : Int32)) (am_dg dkX11_changeCaught (i := 17) rfl) (by decide) ?_
    exact T_X11_changeCaught_0_b32 hR (by omega) _ _ _ _ _ _ _ _ h
set_option maxRecDepth 20000 in
theorem T_X11_changeCaught_0 {sc : Option (Nat × (Nat → Int32))} {RF : Nat → Nat → Option Nat} {d : Nat} (hR : am_RFok RF) (hd : 1 ≤ d) {a1 : Int32} {a2 : Int32} {s : am_S} {r : Int32 × am_S} (h : F_X11_changeCaught_0 a1 a2 s = some r) : am_Q sc d mX11_changeCaught (0, am_L0 mX11_changeCaught [.ref 0, .int a1, .int a2], [], am_hp RF s) (.int r.1, am_hp RF r.2) := by
  obtain ⟨e, rfl⟩ : ∃ e, d = e + 1 := ⟨d - 1, by omega⟩
  unfold F_X11_changeCaught_0 at h
  show am_Q _ _ _ (0, [.ref 0, .int a1, .int a2, .null], [], _) _
  refine aq_aload_n (am_dg dkX11_changeCaught (i := 0) rfl) rfl ?_
  refine aq_getR (am_dg dkX11_changeCaught (i := 1) rfl) gk_11_30_0 (rf_0_0 hR) ?_
  refine aq_iload_n (am_dg dkX11_changeCaught (i := 2) rfl) rfl ?_
  obtain ⟨q1, hq2, h⟩ := am_bnd h
  refine aq_virt (a := [.ref 8, .int a1]) (S1 := []) (v1 := .int q1.1) (S2 := [.int q1.1]) (am_dg dkX11_changeCaught (i := 3) rfl) cv_11_125_8 (am_cls_c sh_8 (by decide)) rfl rfl rfl (Nat.le_of_ble_eq_true rfl) (Nat.le_of_ble_eq_true rfl) (T_X8_isCaught_8 hR (by omega) hq2) rfl ?_
  by_cases hc3 : q1.1 = (0 : Int32)
  · rw [if_pos hc3] at h
    refine aq_ifT (t := 15) (am_dg dkX11_changeCaught (i := 4) rfl) rfl (decide_eq_true hc3) ?_
    refine aq_iconst (v := (0 : Int32)) (am_dg dkX11_changeCaught (i := 7) rfl) (by decide) ?_
    exact T_X11_changeCaught_0_b16 hR (by omega) _ _ _ _ _ _ h
  · rw [if_neg hc3] at h
    refine aq_ifF (t := 15) (am_dg dkX11_changeCaught (i := 4) rfl) rfl (decide_eq_false hc3) ?_
    refine aq_iconst (v := (1 : Int32)) (am_dg dkX11_changeCaught (i := 5) rfl) (by decide) ?_
    refine aq_goto (t := 16) (am_dg dkX11_changeCaught (i := 6) rfl) rfl ?_
    exact T_X11_changeCaught_0_b16 hR (by omega) _ _ _ _ _ _ h
set_option maxRecDepth 20000 in
theorem T_X11_change_0 {sc : Option (Nat × (Nat → Int32))} {RF : Nat → Nat → Option Nat} {d : Nat} (hR : am_RFok RF) (hd : 2 ≤ d) {a1 : Int32} {a2 : Int32} {a3 : Int32} {s : am_S} {r : Int32 × am_S} (h : F_X11_change_0 a1 a2 a3 s = some r) : am_Q sc d mX11_change (0, am_L0 mX11_change [.ref 0, .int a1, .int a2, .int a3], [], am_hp RF s) (.int r.1, am_hp RF r.2) := by
  obtain ⟨e, rfl⟩ : ∃ e, d = e + 1 := ⟨d - 1, by omega⟩
  unfold F_X11_change_0 at h
  show am_Q _ _ _ (0, [.ref 0, .int a1, .int a2, .int a3], [], _) _
  refine aq_aload_n (am_dg dkX11_change (i := 0) rfl) rfl ?_
  refine aq_getR (am_dg dkX11_change (i := 1) rfl) gk_11_30_0 (rf_0_0 hR) ?_
  refine aq_iload_n (am_dg dkX11_change (i := 2) rfl) rfl ?_
  obtain ⟨q1, hq2, h⟩ := am_bnd h
  refine aq_virt (a := [.ref 8, .int a1]) (S1 := []) (v1 := .int q1.1) (S2 := [.int q1.1]) (am_dg dkX11_change (i := 3) rfl) cv_11_110_8 (am_cls_c sh_8 (by decide)) rfl rfl rfl (Nat.le_of_ble_eq_true rfl) (Nat.le_of_ble_eq_true rfl) (T_X8_has_8 hR (by omega) hq2) rfl ?_
  by_cases hc3 : q1.1 = (0 : Int32)
  · rw [if_pos hc3] at h
    refine aq_ifF (t := 13) (am_dg dkX11_change (i := 4) rfl) rfl (decide_eq_false (not_not_intro hc3)) ?_
    refine aq_iconst (v := (-1 : Int32)) (am_dg dkX11_change (i := 5) rfl) (by decide) ?_
    obtain rfl := Option.some.inj h
    exact aq_ireturn (am_dg dkX11_change (i := 6) rfl) rfl (Or.inl rfl) rfl
  · rw [if_neg hc3] at h
    refine aq_ifT (t := 13) (am_dg dkX11_change (i := 4) rfl) rfl (decide_eq_true hc3) ?_
    refine aq_iload_n (am_dg dkX11_change (i := 7) rfl) rfl ?_
    by_cases hc4 : a2 = (1 : Int32)
    · rw [if_pos hc4] at h
      refine aq_tsw (t := 44) (am_dg dkX11_change (i := 8) rfl) (by rw [hc4]; rfl) ?_
      refine aq_iload_n (am_dg dkX11_change (i := 9) rfl) rfl ?_
      obtain ⟨q5, hq6, h⟩ := am_bnd h
      refine aq_static (a := [.int a3]) (S1 := []) (v1 := .int q5.1) (S2 := [.int q5.1]) (am_dg dkX11_change (i := 10) rfl) ct_11_97 rfl rfl rfl (Nat.le_of_ble_eq_true rfl) (Nat.le_of_ble_eq_true rfl) (T_X11_isPitch hR (by omega) hq6) rfl ?_
      by_cases hc7 : q5.1 = (0 : Int32)
      · rw [if_pos hc7] at h
        refine aq_ifT (t := 66) (am_dg dkX11_change (i := 11) rfl) rfl (decide_eq_true hc7) ?_
        refine aq_iconst (v := (-1 : Int32)) (am_dg dkX11_change (i := 19) rfl) (by decide) ?_
        obtain rfl := Option.some.inj h
        exact aq_ireturn (am_dg dkX11_change (i := 20) rfl) rfl (Or.inl rfl) rfl
      · rw [if_neg hc7] at h
        refine aq_ifF (t := 66) (am_dg dkX11_change (i := 11) rfl) rfl (decide_eq_false hc7) ?_
        refine aq_aload_n (am_dg dkX11_change (i := 12) rfl) rfl ?_
        refine aq_getR (am_dg dkX11_change (i := 13) rfl) gk_11_30_0 (rf_0_0 hR) ?_
        refine aq_getR (am_dg dkX11_change (i := 14) rfl) gk_11_116_8 (rf_8_10 hR) ?_
        refine aq_iload_n (am_dg dkX11_change (i := 15) rfl) rfl ?_
        refine aq_iload_n (am_dg dkX11_change (i := 16) rfl) rfl ?_
        obtain ⟨q8, hq9, h⟩ := am_bnd h
        refine aq_static (a := [.ref 11, .int a1, .int a3]) (S1 := []) (v1 := .int q8.1) (S2 := [.int q8.1]) (am_dg dkX11_change (i := 17) rfl) ct_11_145 rfl rfl rfl (Nat.le_of_ble_eq_true rfl) (Nat.le_of_ble_eq_true rfl) (T_X11_exchange_11 hR (by omega) hq9) rfl ?_
        refine aq_goto (t := 67) (am_dg dkX11_change (i := 18) rfl) rfl ?_
        obtain rfl := Option.some.inj h
        exact aq_ireturn (am_dg dkX11_change (i := 20) rfl) rfl (Or.inl rfl) rfl
    rw [if_neg hc4] at h
    by_cases hc10 : a2 = (2 : Int32)
    · rw [if_pos hc10] at h
      refine aq_tsw (t := 68) (am_dg dkX11_change (i := 8) rfl) (by rw [hc10]; rfl) ?_
      refine aq_iload_n (am_dg dkX11_change (i := 21) rfl) rfl ?_
      obtain ⟨q11, hq12, h⟩ := am_bnd h
      refine aq_static (a := [.int a3]) (S1 := []) (v1 := .int q11.1) (S2 := [.int q11.1]) (am_dg dkX11_change (i := 22) rfl) ct_11_100 rfl rfl rfl (Nat.le_of_ble_eq_true rfl) (Nat.le_of_ble_eq_true rfl) (T_X11_isStrength hR (by omega) hq12) rfl ?_
      by_cases hc13 : q11.1 = (0 : Int32)
      · rw [if_pos hc13] at h
        refine aq_ifT (t := 90) (am_dg dkX11_change (i := 23) rfl) rfl (decide_eq_true hc13) ?_
        refine aq_iconst (v := (-1 : Int32)) (am_dg dkX11_change (i := 31) rfl) (by decide) ?_
        obtain rfl := Option.some.inj h
        exact aq_ireturn (am_dg dkX11_change (i := 32) rfl) rfl (Or.inl rfl) rfl
      · rw [if_neg hc13] at h
        refine aq_ifF (t := 90) (am_dg dkX11_change (i := 23) rfl) rfl (decide_eq_false hc13) ?_
        refine aq_aload_n (am_dg dkX11_change (i := 24) rfl) rfl ?_
        refine aq_getR (am_dg dkX11_change (i := 25) rfl) gk_11_30_0 (rf_0_0 hR) ?_
        refine aq_getR (am_dg dkX11_change (i := 26) rfl) gk_11_119_8 (rf_8_11 hR) ?_
        refine aq_iload_n (am_dg dkX11_change (i := 27) rfl) rfl ?_
        refine aq_iload_n (am_dg dkX11_change (i := 28) rfl) rfl ?_
        obtain ⟨q14, hq15, h⟩ := am_bnd h
        refine aq_static (a := [.ref 12, .int a1, .int a3]) (S1 := []) (v1 := .int q14.1) (S2 := [.int q14.1]) (am_dg dkX11_change (i := 29) rfl) ct_11_145 rfl rfl rfl (Nat.le_of_ble_eq_true rfl) (Nat.le_of_ble_eq_true rfl) (T_X11_exchange_12 hR (by omega) hq15) rfl ?_
        refine aq_goto (t := 91) (am_dg dkX11_change (i := 30) rfl) rfl ?_
        obtain rfl := Option.some.inj h
        exact aq_ireturn (am_dg dkX11_change (i := 32) rfl) rfl (Or.inl rfl) rfl
    rw [if_neg hc10] at h
    by_cases hc16 : a2 = (3 : Int32)
    · rw [if_pos hc16] at h
      refine aq_tsw (t := 92) (am_dg dkX11_change (i := 8) rfl) (by rw [hc16]; rfl) ?_
      refine aq_iload_n (am_dg dkX11_change (i := 33) rfl) rfl ?_
      obtain ⟨q17, hq18, h⟩ := am_bnd h
      refine aq_static (a := [.int a3]) (S1 := []) (v1 := .int q17.1) (S2 := [.int q17.1]) (am_dg dkX11_change (i := 34) rfl) ct_11_103 rfl rfl rfl (Nat.le_of_ble_eq_true rfl) (Nat.le_of_ble_eq_true rfl) (T_X11_isPlace hR (by omega) hq18) rfl ?_
      by_cases hc19 : q17.1 = (0 : Int32)
      · rw [if_pos hc19] at h
        refine aq_ifT (t := 114) (am_dg dkX11_change (i := 35) rfl) rfl (decide_eq_true hc19) ?_
        refine aq_iconst (v := (-1 : Int32)) (am_dg dkX11_change (i := 43) rfl) (by decide) ?_
        obtain rfl := Option.some.inj h
        exact aq_ireturn (am_dg dkX11_change (i := 44) rfl) rfl (Or.inl rfl) rfl
      · rw [if_neg hc19] at h
        refine aq_ifF (t := 114) (am_dg dkX11_change (i := 35) rfl) rfl (decide_eq_false hc19) ?_
        refine aq_aload_n (am_dg dkX11_change (i := 36) rfl) rfl ?_
        refine aq_getR (am_dg dkX11_change (i := 37) rfl) gk_11_30_0 (rf_0_0 hR) ?_
        refine aq_getR (am_dg dkX11_change (i := 38) rfl) gk_11_122_8 (rf_8_12 hR) ?_
        refine aq_iload_n (am_dg dkX11_change (i := 39) rfl) rfl ?_
        refine aq_iload_n (am_dg dkX11_change (i := 40) rfl) rfl ?_
        obtain ⟨q20, hq21, h⟩ := am_bnd h
        refine aq_static (a := [.ref 13, .int a1, .int a3]) (S1 := []) (v1 := .int q20.1) (S2 := [.int q20.1]) (am_dg dkX11_change (i := 41) rfl) ct_11_145 rfl rfl rfl (Nat.le_of_ble_eq_true rfl) (Nat.le_of_ble_eq_true rfl) (T_X11_exchange_13 hR (by omega) hq21) rfl ?_
        refine aq_goto (t := 115) (am_dg dkX11_change (i := 42) rfl) rfl ?_
        obtain rfl := Option.some.inj h
        exact aq_ireturn (am_dg dkX11_change (i := 44) rfl) rfl (Or.inl rfl) rfl
    rw [if_neg hc16] at h
    by_cases hc22 : a2 = (4 : Int32)
    · rw [if_pos hc22] at h
      refine aq_tsw (t := 116) (am_dg dkX11_change (i := 8) rfl) (by rw [hc22]; rfl) ?_
      refine aq_iload_n (am_dg dkX11_change (i := 45) rfl) rfl ?_
      refine aq_iconst (v := (0 : Int32)) (am_dg dkX11_change (i := 46) rfl) (by decide) ?_
      refine aq_iconst (v := (1 : Int32)) (am_dg dkX11_change (i := 47) rfl) (by decide) ?_
      obtain ⟨q23, hq24, h⟩ := am_bnd h
      refine aq_static (a := [.int a3, .int (0 : Int32), .int (1 : Int32)]) (S1 := []) (v1 := .int q23.1) (S2 := [.int q23.1]) (am_dg dkX11_change (i := 48) rfl) ct_11_149 rfl rfl rfl (Nat.le_of_ble_eq_true rfl) (Nat.le_of_ble_eq_true rfl) (T_X11_isWithin hR (by omega) hq24) rfl ?_
      by_cases hc25 : q23.1 = (0 : Int32)
      · rw [if_pos hc25] at h
        refine aq_ifT (t := 134) (am_dg dkX11_change (i := 49) rfl) rfl (decide_eq_true hc25) ?_
        refine aq_iconst (v := (-1 : Int32)) (am_dg dkX11_change (i := 55) rfl) (by decide) ?_
        obtain rfl := Option.some.inj h
        exact aq_ireturn (am_dg dkX11_change (i := 56) rfl) rfl (Or.inl rfl) rfl
      · rw [if_neg hc25] at h
        refine aq_ifF (t := 134) (am_dg dkX11_change (i := 49) rfl) rfl (decide_eq_false hc25) ?_
        refine aq_aload_n (am_dg dkX11_change (i := 50) rfl) rfl ?_
        refine aq_iload_n (am_dg dkX11_change (i := 51) rfl) rfl ?_
        refine aq_iload_n (am_dg dkX11_change (i := 52) rfl) rfl ?_
        obtain ⟨q26, hq27, h⟩ := am_bnd h
        refine aq_virt (a := [.ref 0, .int a1, .int a3]) (S1 := []) (v1 := .int q26.1) (S2 := [.int q26.1]) (am_dg dkX11_change (i := 53) rfl) cv_11_153_11 (am_cls_c sh_0 (by decide)) rfl rfl rfl (Nat.le_of_ble_eq_true rfl) (Nat.le_of_ble_eq_true rfl) (T_X11_changeCaught_0 hR (by omega) hq27) rfl ?_
        refine aq_goto (t := 135) (am_dg dkX11_change (i := 54) rfl) rfl ?_
        obtain rfl := Option.some.inj h
        exact aq_ireturn (am_dg dkX11_change (i := 56) rfl) rfl (Or.inl rfl) rfl
    rw [if_neg hc22] at h
    refine aq_tsw (t := 136) (am_dg dkX11_change (i := 8) rfl) (am_tsw_d (by have := lv_neT hc4 (show ((1 : Int32)).toInt = 1 by decide); have := lv_neT hc10 (show ((2 : Int32)).toInt = 2 by decide); have := lv_neT hc16 (show ((3 : Int32)).toInt = 3 by decide); have := lv_neT hc22 (show ((4 : Int32)).toInt = 4 by decide); omega) rfl) ?_
    refine aq_iconst (v := (-1 : Int32)) (am_dg dkX11_change (i := 57) rfl) (by decide) ?_
    obtain rfl := Option.some.inj h
    exact aq_ireturn (am_dg dkX11_change (i := 58) rfl) rfl (Or.inl rfl) rfl
set_option maxRecDepth 20000 in
theorem T_X12_becomes_82 {sc : Option (Nat × (Nat → Int32))} {RF : Nat → Nat → Option Nat} {d : Nat} (hR : am_RFok RF) (hd : 0 ≤ d) {a1 : Int32} {a2 : Int32} {s : am_S} {r : Int32 × am_S} (h : F_X12_becomes_82 a1 a2 s = some r) : am_Q sc d mX12_becomes (0, am_L0 mX12_becomes [.ref 82, .int a1, .int a2], [], am_hp RF s) (.int r.1, am_hp RF r.2) := by
  unfold F_X12_becomes_82 at h
  show am_Q _ _ _ (0, [.ref 82, .int a1, .int a2, .null], [], _) _
  refine aq_aload_n (am_dg dkX12_becomes (i := 0) rfl) rfl ?_
  refine aq_getR (am_dg dkX12_becomes (i := 1) rfl) gk_12_7_82 (rf_82_0 hR) ?_
  refine aq_iload_n (am_dg dkX12_becomes (i := 2) rfl) rfl ?_
  obtain ⟨hg1, h⟩ := am_guard h
  refine aq_iald (am_dg dkX12_becomes (i := 3) rfl) sh_83 hg1 ?_
  refine aq_istore_n (L1 := [.ref 82, .int a1, .int a2, .int (s.1 83 a1.toNatClampNeg)]) (am_dg dkX12_becomes (i := 4) rfl) rfl ?_
  refine aq_aload_n (am_dg dkX12_becomes (i := 5) rfl) rfl ?_
  refine aq_getR (am_dg dkX12_becomes (i := 6) rfl) gk_12_7_82 (rf_82_0 hR) ?_
  refine aq_iload_n (am_dg dkX12_becomes (i := 7) rfl) rfl ?_
  refine aq_iload_n (am_dg dkX12_becomes (i := 8) rfl) rfl ?_
  obtain ⟨hg2, h⟩ := am_guard h
  refine aq_iast (am_dg dkX12_becomes (i := 9) rfl) sh_83 hg2 ?_
  obtain ⟨s3, hs4, h⟩ := am_bnd h
  rw [Option.some.inj hs4]
  refine aq_iload_n (am_dg dkX12_becomes (i := 10) rfl) rfl ?_
  obtain rfl := Option.some.inj h
  exact aq_ireturn (am_dg dkX12_becomes (i := 11) rfl) rfl (Or.inl rfl) rfl
set_option maxRecDepth 20000 in
theorem T_X12_change_82 {sc : Option (Nat × (Nat → Int32))} {RF : Nat → Nat → Option Nat} {d : Nat} (hR : am_RFok RF) (hd : 2 ≤ d) {a1 : Int32} {a2 : Int32} {a3 : Int32} {s : am_S} {r : Int32 × am_S} (h : F_X12_change_82 a1 a2 a3 s = some r) : am_Q sc d mX12_change (0, am_L0 mX12_change [.ref 82, .int a1, .int a2, .int a3], [], am_hp RF s) (.int r.1, am_hp RF r.2) := by
  obtain ⟨e, rfl⟩ : ∃ e, d = e + 1 := ⟨d - 1, by omega⟩
  unfold F_X12_change_82 at h
  show am_Q _ _ _ (0, [.ref 82, .int a1, .int a2, .int a3], [], _) _
  refine aq_aload_n (am_dg dkX12_change (i := 0) rfl) rfl ?_
  refine aq_iload_n (am_dg dkX12_change (i := 1) rfl) rfl ?_
  obtain ⟨q1, hq2, h⟩ := am_bnd h
  refine aq_virt (a := [.ref 82, .int a1]) (S1 := []) (v1 := .int q1.1) (S2 := [.int q1.1]) (am_dg dkX12_change (i := 2) rfl) cv_12_90_12 (am_cls_c sh_82 (by decide)) rfl rfl rfl (Nat.le_of_ble_eq_true rfl) (Nat.le_of_ble_eq_true rfl) (T_X12_isVoice_82 hR (by omega) hq2) rfl ?_
  by_cases hc3 : q1.1 = (0 : Int32)
  · rw [if_pos hc3] at h
    refine aq_ifT (t := 29) (am_dg dkX12_change (i := 3) rfl) rfl (decide_eq_true hc3) ?_
    refine aq_iconst (v := (-1 : Int32)) (am_dg dkX12_change (i := 15) rfl) (by decide) ?_
    obtain rfl := Option.some.inj h
    exact aq_ireturn (am_dg dkX12_change (i := 16) rfl) rfl (Or.inl rfl) rfl
  · rw [if_neg hc3] at h
    refine aq_ifF (t := 29) (am_dg dkX12_change (i := 3) rfl) rfl (decide_eq_false hc3) ?_
    refine aq_iload_n (am_dg dkX12_change (i := 4) rfl) rfl ?_
    refine aq_iload_n (am_dg dkX12_change (i := 5) rfl) rfl ?_
    obtain ⟨q4, hq5, h⟩ := am_bnd h
    refine aq_static (a := [.int a2, .int a3]) (S1 := []) (v1 := .int q4.1) (S2 := [.int q4.1]) (am_dg dkX12_change (i := 6) rfl) ct_12_79 rfl rfl rfl (Nat.le_of_ble_eq_true rfl) (Nat.le_of_ble_eq_true rfl) (T_X12_isPart hR (by omega) hq5) rfl ?_
    by_cases hc6 : q4.1 = (0 : Int32)
    · rw [if_pos hc6] at h
      refine aq_ifT (t := 29) (am_dg dkX12_change (i := 7) rfl) rfl (decide_eq_true hc6) ?_
      refine aq_iconst (v := (-1 : Int32)) (am_dg dkX12_change (i := 15) rfl) (by decide) ?_
      obtain rfl := Option.some.inj h
      exact aq_ireturn (am_dg dkX12_change (i := 16) rfl) rfl (Or.inl rfl) rfl
    · rw [if_neg hc6] at h
      refine aq_ifF (t := 29) (am_dg dkX12_change (i := 7) rfl) rfl (decide_eq_false hc6) ?_
      refine aq_aload_n (am_dg dkX12_change (i := 8) rfl) rfl ?_
      refine aq_iload_n (am_dg dkX12_change (i := 9) rfl) rfl ?_
      refine aq_iload_n (am_dg dkX12_change (i := 10) rfl) rfl ?_
      obtain ⟨q7, hq8, h⟩ := am_bnd h
      refine aq_static (a := [.int a1, .int a2]) (S1 := [.ref 82]) (v1 := .int q7.1) (S2 := [.int q7.1, .ref 82]) (am_dg dkX12_change (i := 11) rfl) ct_12_65 rfl rfl rfl (Nat.le_of_ble_eq_true rfl) (Nat.le_of_ble_eq_true rfl) (T_X12_at hR (by omega) hq8) rfl ?_
      refine aq_iload_n (am_dg dkX12_change (i := 12) rfl) rfl ?_
      obtain ⟨q9, hq10, h⟩ := am_bnd h
      refine aq_virt (a := [.ref 82, .int q7.1, .int a3]) (S1 := []) (v1 := .int q9.1) (S2 := [.int q9.1]) (am_dg dkX12_change (i := 13) rfl) cv_12_108_12 (am_cls_c sh_82 (by decide)) rfl rfl rfl (Nat.le_of_ble_eq_true rfl) (Nat.le_of_ble_eq_true rfl) (T_X12_becomes_82 hR (by omega) hq10) rfl ?_
      refine aq_goto (t := 30) (am_dg dkX12_change (i := 14) rfl) rfl ?_
      obtain rfl := Option.some.inj h
      exact aq_ireturn (am_dg dkX12_change (i := 16) rfl) rfl (Or.inl rfl) rfl
set_option maxRecDepth 20000 in
theorem T_X11_exchange_10 {sc : Option (Nat × (Nat → Int32))} {RF : Nat → Nat → Option Nat} {d : Nat} (hR : am_RFok RF) (hd : 0 ≤ d) {a1 : Int32} {a2 : Int32} {s : am_S} {r : Int32 × am_S} (h : F_X11_exchange_10 a1 a2 s = some r) : am_Q sc d mX11_exchange (0, am_L0 mX11_exchange [.ref 10, .int a1, .int a2], [], am_hp RF s) (.int r.1, am_hp RF r.2) := by
  unfold F_X11_exchange_10 at h
  show am_Q _ _ _ (0, [.ref 10, .int a1, .int a2, .null], [], _) _
  refine aq_iload_n (am_dg dkX11_exchange (i := 0) rfl) rfl ?_
  by_cases hc1 : a1 < (0 : Int32)
  · rw [if_pos hc1] at h
    refine aq_ifT (t := 10) (am_dg dkX11_exchange (i := 1) rfl) rfl (decide_eq_true hc1) ?_
    refine aq_iconst (v := (-1 : Int32)) (am_dg dkX11_exchange (i := 6) rfl) (by decide) ?_
    obtain rfl := Option.some.inj h
    exact aq_ireturn (am_dg dkX11_exchange (i := 7) rfl) rfl (Or.inl rfl) rfl
  · rw [if_neg hc1] at h
    refine aq_ifF (t := 10) (am_dg dkX11_exchange (i := 1) rfl) rfl (decide_eq_false hc1) ?_
    refine aq_iload_n (am_dg dkX11_exchange (i := 2) rfl) rfl ?_
    refine aq_aload_n (am_dg dkX11_exchange (i := 3) rfl) rfl ?_
    refine aq_alen (v := (6 : Int32)) (am_dg dkX11_exchange (i := 4) rfl) sh_10 (by decide) (by decide) ?_
    by_cases hc2 : a1 < (6 : Int32)
    · rw [if_pos hc2] at h
      refine aq_icT (t := 12) (am_dg dkX11_exchange (i := 5) rfl) rfl (decide_eq_true hc2) ?_
      refine aq_aload_n (am_dg dkX11_exchange (i := 8) rfl) rfl ?_
      refine aq_iload_n (am_dg dkX11_exchange (i := 9) rfl) rfl ?_
      obtain ⟨hg3, h⟩ := am_guard h
      refine aq_iald (am_dg dkX11_exchange (i := 10) rfl) sh_10 hg3 ?_
      refine aq_istore_n (L1 := [.ref 10, .int a1, .int a2, .int (s.1 10 a1.toNatClampNeg)]) (am_dg dkX11_exchange (i := 11) rfl) rfl ?_
      refine aq_aload_n (am_dg dkX11_exchange (i := 12) rfl) rfl ?_
      refine aq_iload_n (am_dg dkX11_exchange (i := 13) rfl) rfl ?_
      refine aq_iload_n (am_dg dkX11_exchange (i := 14) rfl) rfl ?_
      obtain ⟨hg4, h⟩ := am_guard h
      refine aq_iast (am_dg dkX11_exchange (i := 15) rfl) sh_10 hg4 ?_
      obtain ⟨s5, hs6, h⟩ := am_bnd h
      rw [Option.some.inj hs6]
      refine aq_iload_n (am_dg dkX11_exchange (i := 16) rfl) rfl ?_
      obtain rfl := Option.some.inj h
      exact aq_ireturn (am_dg dkX11_exchange (i := 17) rfl) rfl (Or.inl rfl) rfl
    · rw [if_neg hc2] at h
      refine aq_icF (t := 12) (am_dg dkX11_exchange (i := 5) rfl) rfl (decide_eq_false hc2) ?_
      refine aq_iconst (v := (-1 : Int32)) (am_dg dkX11_exchange (i := 6) rfl) (by decide) ?_
      obtain rfl := Option.some.inj h
      exact aq_ireturn (am_dg dkX11_exchange (i := 7) rfl) rfl (Or.inl rfl) rfl
set_option maxRecDepth 20000 in
theorem T_X11_remake_0 {sc : Option (Nat × (Nat → Int32))} {RF : Nat → Nat → Option Nat} {d : Nat} (hR : am_RFok RF) (hd : 2 ≤ d) {a1 : Int32} {a2 : Int32} {s : am_S} {r : Int32 × am_S} (h : F_X11_remake_0 a1 a2 s = some r) : am_Q sc d mX11_remake (0, am_L0 mX11_remake [.ref 0, .int a1, .int a2], [], am_hp RF s) (.int r.1, am_hp RF r.2) := by
  obtain ⟨e, rfl⟩ : ∃ e, d = e + 1 := ⟨d - 1, by omega⟩
  unfold F_X11_remake_0 at h
  show am_Q _ _ _ (0, [.ref 0, .int a1, .int a2], [], _) _
  refine aq_aload_n (am_dg dkX11_remake (i := 0) rfl) rfl ?_
  refine aq_getR (am_dg dkX11_remake (i := 1) rfl) gk_11_30_0 (rf_0_0 hR) ?_
  refine aq_iload_n (am_dg dkX11_remake (i := 2) rfl) rfl ?_
  obtain ⟨q1, hq2, h⟩ := am_bnd h
  refine aq_virt (a := [.ref 8, .int a1]) (S1 := []) (v1 := .int q1.1) (S2 := [.int q1.1]) (am_dg dkX11_remake (i := 3) rfl) cv_11_110_8 (am_cls_c sh_8 (by decide)) rfl rfl rfl (Nat.le_of_ble_eq_true rfl) (Nat.le_of_ble_eq_true rfl) (T_X8_has_8 hR (by omega) hq2) rfl ?_
  by_cases hc3 : q1.1 = (0 : Int32)
  · rw [if_pos hc3] at h
    refine aq_ifT (t := 33) (am_dg dkX11_remake (i := 4) rfl) rfl (decide_eq_true hc3) ?_
    refine aq_iconst (v := (-1 : Int32)) (am_dg dkX11_remake (i := 15) rfl) (by decide) ?_
    obtain rfl := Option.some.inj h
    exact aq_ireturn (am_dg dkX11_remake (i := 16) rfl) rfl (Or.inl rfl) rfl
  · rw [if_neg hc3] at h
    refine aq_ifF (t := 33) (am_dg dkX11_remake (i := 4) rfl) rfl (decide_eq_false hc3) ?_
    refine aq_iload_n (am_dg dkX11_remake (i := 5) rfl) rfl ?_
    obtain ⟨q4, hq5, h⟩ := am_bnd h
    refine aq_static (a := [.int a2]) (S1 := []) (v1 := .int q4.1) (S2 := [.int q4.1]) (am_dg dkX11_remake (i := 6) rfl) ct_11_93 rfl rfl rfl (Nat.le_of_ble_eq_true rfl) (Nat.le_of_ble_eq_true rfl) (T_X11_isKind hR (by omega) hq5) rfl ?_
    by_cases hc6 : q4.1 = (0 : Int32)
    · rw [if_pos hc6] at h
      refine aq_ifT (t := 33) (am_dg dkX11_remake (i := 7) rfl) rfl (decide_eq_true hc6) ?_
      refine aq_iconst (v := (-1 : Int32)) (am_dg dkX11_remake (i := 15) rfl) (by decide) ?_
      obtain rfl := Option.some.inj h
      exact aq_ireturn (am_dg dkX11_remake (i := 16) rfl) rfl (Or.inl rfl) rfl
    · rw [if_neg hc6] at h
      refine aq_ifF (t := 33) (am_dg dkX11_remake (i := 7) rfl) rfl (decide_eq_false hc6) ?_
      refine aq_aload_n (am_dg dkX11_remake (i := 8) rfl) rfl ?_
      refine aq_getR (am_dg dkX11_remake (i := 9) rfl) gk_11_30_0 (rf_0_0 hR) ?_
      refine aq_getR (am_dg dkX11_remake (i := 10) rfl) gk_11_113_8 (rf_8_9 hR) ?_
      refine aq_iload_n (am_dg dkX11_remake (i := 11) rfl) rfl ?_
      refine aq_iload_n (am_dg dkX11_remake (i := 12) rfl) rfl ?_
      obtain ⟨q7, hq8, h⟩ := am_bnd h
      refine aq_static (a := [.ref 10, .int a1, .int a2]) (S1 := []) (v1 := .int q7.1) (S2 := [.int q7.1]) (am_dg dkX11_remake (i := 13) rfl) ct_11_145 rfl rfl rfl (Nat.le_of_ble_eq_true rfl) (Nat.le_of_ble_eq_true rfl) (T_X11_exchange_10 hR (by omega) hq8) rfl ?_
      refine aq_goto (t := 34) (am_dg dkX11_remake (i := 14) rfl) rfl ?_
      obtain rfl := Option.some.inj h
      exact aq_ireturn (am_dg dkX11_remake (i := 16) rfl) rfl (Or.inl rfl) rfl
set_option maxRecDepth 20000 in
theorem T_X12_remake_82 {sc : Option (Nat × (Nat → Int32))} {RF : Nat → Nat → Option Nat} {d : Nat} (hR : am_RFok RF) (hd : 2 ≤ d) {a1 : Int32} {a2 : Int32} {s : am_S} {r : Int32 × am_S} (h : F_X12_remake_82 a1 a2 s = some r) : am_Q sc d mX12_remake (0, am_L0 mX12_remake [.ref 82, .int a1, .int a2], [], am_hp RF s) (.int r.1, am_hp RF r.2) := by
  obtain ⟨e, rfl⟩ : ∃ e, d = e + 1 := ⟨d - 1, by omega⟩
  unfold F_X12_remake_82 at h
  show am_Q _ _ _ (0, [.ref 82, .int a1, .int a2], [], _) _
  refine aq_aload_n (am_dg dkX12_remake (i := 0) rfl) rfl ?_
  refine aq_iload_n (am_dg dkX12_remake (i := 1) rfl) rfl ?_
  obtain ⟨q1, hq2, h⟩ := am_bnd h
  refine aq_virt (a := [.ref 82, .int a1]) (S1 := []) (v1 := .int q1.1) (S2 := [.int q1.1]) (am_dg dkX12_remake (i := 2) rfl) cv_12_90_12 (am_cls_c sh_82 (by decide)) rfl rfl rfl (Nat.le_of_ble_eq_true rfl) (Nat.le_of_ble_eq_true rfl) (T_X12_isVoice_82 hR (by omega) hq2) rfl ?_
  by_cases hc3 : q1.1 = (0 : Int32)
  · rw [if_pos hc3] at h
    refine aq_ifT (t := 28) (am_dg dkX12_remake (i := 3) rfl) rfl (decide_eq_true hc3) ?_
    refine aq_iconst (v := (-1 : Int32)) (am_dg dkX12_remake (i := 14) rfl) (by decide) ?_
    obtain rfl := Option.some.inj h
    exact aq_ireturn (am_dg dkX12_remake (i := 15) rfl) rfl (Or.inl rfl) rfl
  · rw [if_neg hc3] at h
    refine aq_ifF (t := 28) (am_dg dkX12_remake (i := 3) rfl) rfl (decide_eq_false hc3) ?_
    refine aq_iload_n (am_dg dkX12_remake (i := 4) rfl) rfl ?_
    obtain ⟨q4, hq5, h⟩ := am_bnd h
    refine aq_static (a := [.int a2]) (S1 := []) (v1 := .int q4.1) (S2 := [.int q4.1]) (am_dg dkX12_remake (i := 5) rfl) ct_12_75 rfl rfl rfl (Nat.le_of_ble_eq_true rfl) (Nat.le_of_ble_eq_true rfl) (T_X12_isKind hR (by omega) hq5) rfl ?_
    by_cases hc6 : q4.1 = (0 : Int32)
    · rw [if_pos hc6] at h
      refine aq_ifT (t := 28) (am_dg dkX12_remake (i := 6) rfl) rfl (decide_eq_true hc6) ?_
      refine aq_iconst (v := (-1 : Int32)) (am_dg dkX12_remake (i := 14) rfl) (by decide) ?_
      obtain rfl := Option.some.inj h
      exact aq_ireturn (am_dg dkX12_remake (i := 15) rfl) rfl (Or.inl rfl) rfl
    · rw [if_neg hc6] at h
      refine aq_ifF (t := 28) (am_dg dkX12_remake (i := 6) rfl) rfl (decide_eq_false hc6) ?_
      refine aq_aload_n (am_dg dkX12_remake (i := 7) rfl) rfl ?_
      refine aq_iload_n (am_dg dkX12_remake (i := 8) rfl) rfl ?_
      refine aq_iconst (v := (0 : Int32)) (am_dg dkX12_remake (i := 9) rfl) (by decide) ?_
      obtain ⟨q7, hq8, h⟩ := am_bnd h
      refine aq_static (a := [.int a1, .int (0 : Int32)]) (S1 := [.ref 82]) (v1 := .int q7.1) (S2 := [.int q7.1, .ref 82]) (am_dg dkX12_remake (i := 10) rfl) ct_12_65 rfl rfl rfl (Nat.le_of_ble_eq_true rfl) (Nat.le_of_ble_eq_true rfl) (T_X12_at hR (by omega) hq8) rfl ?_
      refine aq_iload_n (am_dg dkX12_remake (i := 11) rfl) rfl ?_
      obtain ⟨q9, hq10, h⟩ := am_bnd h
      refine aq_virt (a := [.ref 82, .int q7.1, .int a2]) (S1 := []) (v1 := .int q9.1) (S2 := [.int q9.1]) (am_dg dkX12_remake (i := 12) rfl) cv_12_108_12 (am_cls_c sh_82 (by decide)) rfl rfl rfl (Nat.le_of_ble_eq_true rfl) (Nat.le_of_ble_eq_true rfl) (T_X12_becomes_82 hR (by omega) hq10) rfl ?_
      refine aq_goto (t := 29) (am_dg dkX12_remake (i := 13) rfl) rfl ?_
      obtain rfl := Option.some.inj h
      exact aq_ireturn (am_dg dkX12_remake (i := 15) rfl) rfl (Or.inl rfl) rfl
set_option maxRecDepth 20000 in
theorem T_X11_isTideTurn {sc : Option (Nat × (Nat → Int32))} {RF : Nat → Nat → Option Nat} {d : Nat} (hR : am_RFok RF) (hd : 1 ≤ d) {a0 : Int32} {s : am_S} {r : Int32 × am_S} (h : F_X11_isTideTurn a0 s = some r) : am_Q sc d mX11_isTideTurn (0, am_L0 mX11_isTideTurn [.int a0], [], am_hp RF s) (.int r.1, am_hp RF r.2) := by
  obtain ⟨e, rfl⟩ : ∃ e, d = e + 1 := ⟨d - 1, by omega⟩
  unfold F_X11_isTideTurn at h
  show am_Q _ _ _ (0, [.int a0], [], _) _
  refine aq_iload_n (am_dg dkX11_isTideTurn (i := 0) rfl) rfl ?_
  refine aq_iconst (v := (0 : Int32)) (am_dg dkX11_isTideTurn (i := 1) rfl) (by decide) ?_
  refine aq_bipush (v := (15 : Int32)) (am_dg dkX11_isTideTurn (i := 2) rfl) (by decide) ?_
  obtain ⟨q1, hq2, h⟩ := am_bnd h
  refine aq_static (a := [.int a0, .int (0 : Int32), .int (15 : Int32)]) (S1 := []) (v1 := .int q1.1) (S2 := [.int q1.1]) (am_dg dkX11_isTideTurn (i := 3) rfl) ct_11_149 rfl rfl rfl (Nat.le_of_ble_eq_true rfl) (Nat.le_of_ble_eq_true rfl) (T_X11_isWithin hR (by omega) hq2) rfl ?_
  obtain ⟨hg3, h⟩ := am_guard h
  obtain rfl := Option.some.inj h
  exact aq_ireturn (am_dg dkX11_isTideTurn (i := 4) rfl) rfl (Or.inr (Or.inl rfl)) (am_nz hg3)
set_option maxRecDepth 20000 in
theorem T_X11_exchange_9 {sc : Option (Nat × (Nat → Int32))} {RF : Nat → Nat → Option Nat} {d : Nat} (hR : am_RFok RF) (hd : 0 ≤ d) {a1 : Int32} {a2 : Int32} {s : am_S} {r : Int32 × am_S} (h : F_X11_exchange_9 a1 a2 s = some r) : am_Q sc d mX11_exchange (0, am_L0 mX11_exchange [.ref 9, .int a1, .int a2], [], am_hp RF s) (.int r.1, am_hp RF r.2) := by
  unfold F_X11_exchange_9 at h
  show am_Q _ _ _ (0, [.ref 9, .int a1, .int a2, .null], [], _) _
  refine aq_iload_n (am_dg dkX11_exchange (i := 0) rfl) rfl ?_
  by_cases hc1 : a1 < (0 : Int32)
  · rw [if_pos hc1] at h
    refine aq_ifT (t := 10) (am_dg dkX11_exchange (i := 1) rfl) rfl (decide_eq_true hc1) ?_
    refine aq_iconst (v := (-1 : Int32)) (am_dg dkX11_exchange (i := 6) rfl) (by decide) ?_
    obtain rfl := Option.some.inj h
    exact aq_ireturn (am_dg dkX11_exchange (i := 7) rfl) rfl (Or.inl rfl) rfl
  · rw [if_neg hc1] at h
    refine aq_ifF (t := 10) (am_dg dkX11_exchange (i := 1) rfl) rfl (decide_eq_false hc1) ?_
    refine aq_iload_n (am_dg dkX11_exchange (i := 2) rfl) rfl ?_
    refine aq_aload_n (am_dg dkX11_exchange (i := 3) rfl) rfl ?_
    refine aq_alen (v := (16 : Int32)) (am_dg dkX11_exchange (i := 4) rfl) sh_9 (by decide) (by decide) ?_
    by_cases hc2 : a1 < (16 : Int32)
    · rw [if_pos hc2] at h
      refine aq_icT (t := 12) (am_dg dkX11_exchange (i := 5) rfl) rfl (decide_eq_true hc2) ?_
      refine aq_aload_n (am_dg dkX11_exchange (i := 8) rfl) rfl ?_
      refine aq_iload_n (am_dg dkX11_exchange (i := 9) rfl) rfl ?_
      obtain ⟨hg3, h⟩ := am_guard h
      refine aq_iald (am_dg dkX11_exchange (i := 10) rfl) sh_9 hg3 ?_
      refine aq_istore_n (L1 := [.ref 9, .int a1, .int a2, .int (s.1 9 a1.toNatClampNeg)]) (am_dg dkX11_exchange (i := 11) rfl) rfl ?_
      refine aq_aload_n (am_dg dkX11_exchange (i := 12) rfl) rfl ?_
      refine aq_iload_n (am_dg dkX11_exchange (i := 13) rfl) rfl ?_
      refine aq_iload_n (am_dg dkX11_exchange (i := 14) rfl) rfl ?_
      obtain ⟨hg4, h⟩ := am_guard h
      refine aq_iast (am_dg dkX11_exchange (i := 15) rfl) sh_9 hg4 ?_
      obtain ⟨s5, hs6, h⟩ := am_bnd h
      rw [Option.some.inj hs6]
      refine aq_iload_n (am_dg dkX11_exchange (i := 16) rfl) rfl ?_
      obtain rfl := Option.some.inj h
      exact aq_ireturn (am_dg dkX11_exchange (i := 17) rfl) rfl (Or.inl rfl) rfl
    · rw [if_neg hc2] at h
      refine aq_icF (t := 12) (am_dg dkX11_exchange (i := 5) rfl) rfl (decide_eq_false hc2) ?_
      refine aq_iconst (v := (-1 : Int32)) (am_dg dkX11_exchange (i := 6) rfl) (by decide) ?_
      obtain rfl := Option.some.inj h
      exact aq_ireturn (am_dg dkX11_exchange (i := 7) rfl) rfl (Or.inl rfl) rfl
set_option maxRecDepth 20000 in
theorem T_X11_tide_0 {sc : Option (Nat × (Nat → Int32))} {RF : Nat → Nat → Option Nat} {d : Nat} (hR : am_RFok RF) (hd : 2 ≤ d) {a1 : Int32} {a2 : Int32} {s : am_S} {r : Int32 × am_S} (h : F_X11_tide_0 a1 a2 s = some r) : am_Q sc d mX11_tide (0, am_L0 mX11_tide [.ref 0, .int a1, .int a2], [], am_hp RF s) (.int r.1, am_hp RF r.2) := by
  obtain ⟨e, rfl⟩ : ∃ e, d = e + 1 := ⟨d - 1, by omega⟩
  unfold F_X11_tide_0 at h
  show am_Q _ _ _ (0, [.ref 0, .int a1, .int a2], [], _) _
  refine aq_iload_n (am_dg dkX11_tide (i := 0) rfl) rfl ?_
  obtain ⟨q1, hq2, h⟩ := am_bnd h
  refine aq_static (a := [.int a1]) (S1 := []) (v1 := .int q1.1) (S2 := [.int q1.1]) (am_dg dkX11_tide (i := 1) rfl) ct_11_161 rfl rfl rfl (Nat.le_of_ble_eq_true rfl) (Nat.le_of_ble_eq_true rfl) (T_X11_isTideTurn hR (by omega) hq2) rfl ?_
  by_cases hc3 : q1.1 = (0 : Int32)
  · rw [if_pos hc3] at h
    refine aq_ifT (t := 31) (am_dg dkX11_tide (i := 2) rfl) rfl (decide_eq_true hc3) ?_
    refine aq_iconst (v := (-1 : Int32)) (am_dg dkX11_tide (i := 15) rfl) (by decide) ?_
    obtain rfl := Option.some.inj h
    exact aq_ireturn (am_dg dkX11_tide (i := 16) rfl) rfl (Or.inl rfl) rfl
  · rw [if_neg hc3] at h
    refine aq_ifF (t := 31) (am_dg dkX11_tide (i := 2) rfl) rfl (decide_eq_false hc3) ?_
    refine aq_iload_n (am_dg dkX11_tide (i := 3) rfl) rfl ?_
    refine aq_iconst (v := (0 : Int32)) (am_dg dkX11_tide (i := 4) rfl) (by decide) ?_
    refine aq_iconst (v := (2 : Int32)) (am_dg dkX11_tide (i := 5) rfl) (by decide) ?_
    obtain ⟨q4, hq5, h⟩ := am_bnd h
    refine aq_static (a := [.int a2, .int (0 : Int32), .int (2 : Int32)]) (S1 := []) (v1 := .int q4.1) (S2 := [.int q4.1]) (am_dg dkX11_tide (i := 6) rfl) ct_11_149 rfl rfl rfl (Nat.le_of_ble_eq_true rfl) (Nat.le_of_ble_eq_true rfl) (T_X11_isWithin hR (by omega) hq5) rfl ?_
    by_cases hc6 : q4.1 = (0 : Int32)
    · rw [if_pos hc6] at h
      refine aq_ifT (t := 31) (am_dg dkX11_tide (i := 7) rfl) rfl (decide_eq_true hc6) ?_
      refine aq_iconst (v := (-1 : Int32)) (am_dg dkX11_tide (i := 15) rfl) (by decide) ?_
      obtain rfl := Option.some.inj h
      exact aq_ireturn (am_dg dkX11_tide (i := 16) rfl) rfl (Or.inl rfl) rfl
    · rw [if_neg hc6] at h
      refine aq_ifF (t := 31) (am_dg dkX11_tide (i := 7) rfl) rfl (decide_eq_false hc6) ?_
      refine aq_aload_n (am_dg dkX11_tide (i := 8) rfl) rfl ?_
      refine aq_getR (am_dg dkX11_tide (i := 9) rfl) gk_11_30_0 (rf_0_0 hR) ?_
      refine aq_getR (am_dg dkX11_tide (i := 10) rfl) gk_11_164_8 (rf_8_8 hR) ?_
      refine aq_iload_n (am_dg dkX11_tide (i := 11) rfl) rfl ?_
      refine aq_iload_n (am_dg dkX11_tide (i := 12) rfl) rfl ?_
      obtain ⟨q7, hq8, h⟩ := am_bnd h
      refine aq_static (a := [.ref 9, .int a1, .int a2]) (S1 := []) (v1 := .int q7.1) (S2 := [.int q7.1]) (am_dg dkX11_tide (i := 13) rfl) ct_11_145 rfl rfl rfl (Nat.le_of_ble_eq_true rfl) (Nat.le_of_ble_eq_true rfl) (T_X11_exchange_9 hR (by omega) hq8) rfl ?_
      refine aq_goto (t := 32) (am_dg dkX11_tide (i := 14) rfl) rfl ?_
      obtain rfl := Option.some.inj h
      exact aq_ireturn (am_dg dkX11_tide (i := 16) rfl) rfl (Or.inl rfl) rfl
set_option maxRecDepth 20000 in
theorem T_X12_isTurn {sc : Option (Nat × (Nat → Int32))} {RF : Nat → Nat → Option Nat} {d : Nat} (hR : am_RFok RF) (hd : 1 ≤ d) {a0 : Int32} {s : am_S} {r : Int32 × am_S} (h : F_X12_isTurn a0 s = some r) : am_Q sc d mX12_isTurn (0, am_L0 mX12_isTurn [.int a0], [], am_hp RF s) (.int r.1, am_hp RF r.2) := by
  obtain ⟨e, rfl⟩ : ∃ e, d = e + 1 := ⟨d - 1, by omega⟩
  unfold F_X12_isTurn at h
  show am_Q _ _ _ (0, [.int a0], [], _) _
  refine aq_iload_n (am_dg dkX12_isTurn (i := 0) rfl) rfl ?_
  refine aq_i2l (am_dg dkX12_isTurn (i := 1) rfl) ?_
  refine aq_lconst (v := (0 : Int64)) (am_dg dkX12_isTurn (i := 2) rfl) (by decide) ?_
  refine aq_ldc2 (am_dg dkX12_isTurn (i := 3) rfl) cl_12_73 ?_
  obtain ⟨q1, hq2, h⟩ := am_bnd h
  refine aq_static (a := [.long a0.toInt64, .long (0 : Int64), .long (15 : Int64)]) (S1 := []) (v1 := .int q1.1) (S2 := [.int q1.1]) (am_dg dkX12_isTurn (i := 4) rfl) ct_12_61 rfl rfl rfl (Nat.le_of_ble_eq_true rfl) (Nat.le_of_ble_eq_true rfl) (T_X12_in hR (by omega) hq2) rfl ?_
  obtain ⟨hg3, h⟩ := am_guard h
  obtain rfl := Option.some.inj h
  exact aq_ireturn (am_dg dkX12_isTurn (i := 5) rfl) rfl (Or.inr (Or.inl rfl)) (am_nz hg3)
set_option maxRecDepth 20000 in
theorem T_X12_tide_82 {sc : Option (Nat × (Nat → Int32))} {RF : Nat → Nat → Option Nat} {d : Nat} (hR : am_RFok RF) (hd : 2 ≤ d) {a1 : Int32} {a2 : Int32} {s : am_S} {r : Int32 × am_S} (h : F_X12_tide_82 a1 a2 s = some r) : am_Q sc d mX12_tide (0, am_L0 mX12_tide [.ref 82, .int a1, .int a2], [], am_hp RF s) (.int r.1, am_hp RF r.2) := by
  obtain ⟨e, rfl⟩ : ∃ e, d = e + 1 := ⟨d - 1, by omega⟩
  unfold F_X12_tide_82 at h
  show am_Q _ _ _ (0, [.ref 82, .int a1, .int a2], [], _) _
  refine aq_iload_n (am_dg dkX12_tide (i := 0) rfl) rfl ?_
  obtain ⟨q1, hq2, h⟩ := am_bnd h
  refine aq_static (a := [.int a1]) (S1 := []) (v1 := .int q1.1) (S2 := [.int q1.1]) (am_dg dkX12_tide (i := 1) rfl) ct_12_111 rfl rfl rfl (Nat.le_of_ble_eq_true rfl) (Nat.le_of_ble_eq_true rfl) (T_X12_isTurn hR (by omega) hq2) rfl ?_
  by_cases hc3 : q1.1 = (0 : Int32)
  · rw [if_pos hc3] at h
    refine aq_ifT (t := 31) (am_dg dkX12_tide (i := 2) rfl) rfl (decide_eq_true hc3) ?_
    refine aq_iconst (v := (-1 : Int32)) (am_dg dkX12_tide (i := 16) rfl) (by decide) ?_
    obtain rfl := Option.some.inj h
    exact aq_ireturn (am_dg dkX12_tide (i := 17) rfl) rfl (Or.inl rfl) rfl
  · rw [if_neg hc3] at h
    refine aq_ifF (t := 31) (am_dg dkX12_tide (i := 2) rfl) rfl (decide_eq_false hc3) ?_
    refine aq_iload_n (am_dg dkX12_tide (i := 3) rfl) rfl ?_
    refine aq_i2l (am_dg dkX12_tide (i := 4) rfl) ?_
    refine aq_lconst (v := (0 : Int64)) (am_dg dkX12_tide (i := 5) rfl) (by decide) ?_
    refine aq_ldc2 (am_dg dkX12_tide (i := 6) rfl) cl_12_114 ?_
    obtain ⟨q4, hq5, h⟩ := am_bnd h
    refine aq_static (a := [.long a2.toInt64, .long (0 : Int64), .long (2 : Int64)]) (S1 := []) (v1 := .int q4.1) (S2 := [.int q4.1]) (am_dg dkX12_tide (i := 7) rfl) ct_12_61 rfl rfl rfl (Nat.le_of_ble_eq_true rfl) (Nat.le_of_ble_eq_true rfl) (T_X12_in hR (by omega) hq5) rfl ?_
    by_cases hc6 : q4.1 = (0 : Int32)
    · rw [if_pos hc6] at h
      refine aq_ifT (t := 31) (am_dg dkX12_tide (i := 8) rfl) rfl (decide_eq_true hc6) ?_
      refine aq_iconst (v := (-1 : Int32)) (am_dg dkX12_tide (i := 16) rfl) (by decide) ?_
      obtain rfl := Option.some.inj h
      exact aq_ireturn (am_dg dkX12_tide (i := 17) rfl) rfl (Or.inl rfl) rfl
    · rw [if_neg hc6] at h
      refine aq_ifF (t := 31) (am_dg dkX12_tide (i := 8) rfl) rfl (decide_eq_false hc6) ?_
      refine aq_aload_n (am_dg dkX12_tide (i := 9) rfl) rfl ?_
      refine aq_bipush (v := (8 : Int32)) (am_dg dkX12_tide (i := 10) rfl) (by decide) ?_
      refine aq_iload_n (am_dg dkX12_tide (i := 11) rfl) rfl ?_
      refine aq_iadd (am_dg dkX12_tide (i := 12) rfl) ?_
      refine aq_iload_n (am_dg dkX12_tide (i := 13) rfl) rfl ?_
      obtain ⟨q7, hq8, h⟩ := am_bnd h
      refine aq_virt (a := [.ref 82, .int ((8 : Int32) + a1), .int a2]) (S1 := []) (v1 := .int q7.1) (S2 := [.int q7.1]) (am_dg dkX12_tide (i := 14) rfl) cv_12_108_12 (am_cls_c sh_82 (by decide)) rfl rfl rfl (Nat.le_of_ble_eq_true rfl) (Nat.le_of_ble_eq_true rfl) (T_X12_becomes_82 hR (by omega) hq8) rfl ?_
      refine aq_goto (t := 32) (am_dg dkX12_tide (i := 15) rfl) rfl ?_
      obtain rfl := Option.some.inj h
      exact aq_ireturn (am_dg dkX12_tide (i := 17) rfl) rfl (Or.inl rfl) rfl
set_option maxRecDepth 20000 in
theorem T_X11_tideOf_0 {sc : Option (Nat × (Nat → Int32))} {RF : Nat → Nat → Option Nat} {d : Nat} (hR : am_RFok RF) (hd : 2 ≤ d) {a1 : Int32} {s : am_S} {r : Int32 × am_S} (h : F_X11_tideOf_0 a1 s = some r) : am_Q sc d mX11_tideOf (0, am_L0 mX11_tideOf [.ref 0, .int a1], [], am_hp RF s) (.int r.1, am_hp RF r.2) := by
  obtain ⟨e, rfl⟩ : ∃ e, d = e + 1 := ⟨d - 1, by omega⟩
  unfold F_X11_tideOf_0 at h
  show am_Q _ _ _ (0, [.ref 0, .int a1], [], _) _
  refine aq_iload_n (am_dg dkX11_tideOf (i := 0) rfl) rfl ?_
  obtain ⟨q1, hq2, h⟩ := am_bnd h
  refine aq_static (a := [.int a1]) (S1 := []) (v1 := .int q1.1) (S2 := [.int q1.1]) (am_dg dkX11_tideOf (i := 1) rfl) ct_11_161 rfl rfl rfl (Nat.le_of_ble_eq_true rfl) (Nat.le_of_ble_eq_true rfl) (T_X11_isTideTurn hR (by omega) hq2) rfl ?_
  by_cases hc3 : q1.1 = (0 : Int32)
  · rw [if_pos hc3] at h
    refine aq_ifT (t := 19) (am_dg dkX11_tideOf (i := 2) rfl) rfl (decide_eq_true hc3) ?_
    refine aq_iconst (v := (-1 : Int32)) (am_dg dkX11_tideOf (i := 9) rfl) (by decide) ?_
    obtain rfl := Option.some.inj h
    exact aq_ireturn (am_dg dkX11_tideOf (i := 10) rfl) rfl (Or.inl rfl) rfl
  · rw [if_neg hc3] at h
    refine aq_ifF (t := 19) (am_dg dkX11_tideOf (i := 2) rfl) rfl (decide_eq_false hc3) ?_
    refine aq_aload_n (am_dg dkX11_tideOf (i := 3) rfl) rfl ?_
    refine aq_getR (am_dg dkX11_tideOf (i := 4) rfl) gk_11_30_0 (rf_0_0 hR) ?_
    refine aq_getR (am_dg dkX11_tideOf (i := 5) rfl) gk_11_164_8 (rf_8_8 hR) ?_
    refine aq_iload_n (am_dg dkX11_tideOf (i := 6) rfl) rfl ?_
    obtain ⟨hg4, h⟩ := am_guard h
    refine aq_iald (am_dg dkX11_tideOf (i := 7) rfl) sh_9 hg4 ?_
    refine aq_goto (t := 20) (am_dg dkX11_tideOf (i := 8) rfl) rfl ?_
    obtain rfl := Option.some.inj h
    exact aq_ireturn (am_dg dkX11_tideOf (i := 10) rfl) rfl (Or.inl rfl) rfl
set_option maxRecDepth 20000 in
theorem T_X12_tideOf_82 {sc : Option (Nat × (Nat → Int32))} {RF : Nat → Nat → Option Nat} {d : Nat} (hR : am_RFok RF) (hd : 2 ≤ d) {a1 : Int32} {s : am_S} {r : Int32 × am_S} (h : F_X12_tideOf_82 a1 s = some r) : am_Q sc d mX12_tideOf (0, am_L0 mX12_tideOf [.ref 82, .int a1], [], am_hp RF s) (.int r.1, am_hp RF r.2) := by
  obtain ⟨e, rfl⟩ : ∃ e, d = e + 1 := ⟨d - 1, by omega⟩
  unfold F_X12_tideOf_82 at h
  show am_Q _ _ _ (0, [.ref 82, .int a1], [], _) _
  refine aq_iload_n (am_dg dkX12_tideOf (i := 0) rfl) rfl ?_
  obtain ⟨q1, hq2, h⟩ := am_bnd h
  refine aq_static (a := [.int a1]) (S1 := []) (v1 := .int q1.1) (S2 := [.int q1.1]) (am_dg dkX12_tideOf (i := 1) rfl) ct_12_111 rfl rfl rfl (Nat.le_of_ble_eq_true rfl) (Nat.le_of_ble_eq_true rfl) (T_X12_isTurn hR (by omega) hq2) rfl ?_
  by_cases hc3 : q1.1 = (0 : Int32)
  · rw [if_pos hc3] at h
    refine aq_ifT (t := 19) (am_dg dkX12_tideOf (i := 2) rfl) rfl (decide_eq_true hc3) ?_
    refine aq_iconst (v := (-1 : Int32)) (am_dg dkX12_tideOf (i := 10) rfl) (by decide) ?_
    obtain rfl := Option.some.inj h
    exact aq_ireturn (am_dg dkX12_tideOf (i := 11) rfl) rfl (Or.inl rfl) rfl
  · rw [if_neg hc3] at h
    refine aq_ifF (t := 19) (am_dg dkX12_tideOf (i := 2) rfl) rfl (decide_eq_false hc3) ?_
    refine aq_aload_n (am_dg dkX12_tideOf (i := 3) rfl) rfl ?_
    refine aq_getR (am_dg dkX12_tideOf (i := 4) rfl) gk_12_7_82 (rf_82_0 hR) ?_
    refine aq_bipush (v := (8 : Int32)) (am_dg dkX12_tideOf (i := 5) rfl) (by decide) ?_
    refine aq_iload_n (am_dg dkX12_tideOf (i := 6) rfl) rfl ?_
    refine aq_iadd (am_dg dkX12_tideOf (i := 7) rfl) ?_
    obtain ⟨hg4, h⟩ := am_guard h
    refine aq_iald (am_dg dkX12_tideOf (i := 8) rfl) sh_83 hg4 ?_
    refine aq_goto (t := 20) (am_dg dkX12_tideOf (i := 9) rfl) rfl ?_
    obtain rfl := Option.some.inj h
    exact aq_ireturn (am_dg dkX12_tideOf (i := 11) rfl) rfl (Or.inl rfl) rfl
set_option maxRecDepth 20000 in
theorem T_X11_changeEnd_0 {sc : Option (Nat × (Nat → Int32))} {RF : Nat → Nat → Option Nat} {d : Nat} (hR : am_RFok RF) (hd : 0 ≤ d) {a1 : Int32} {s : am_S} {r : Int32 × am_S} (h : F_X11_changeEnd_0 a1 s = some r) : am_Q sc d mX11_changeEnd (0, am_L0 mX11_changeEnd [.ref 0, .int a1], [], am_hp RF s) (.int r.1, am_hp RF r.2) := by
  unfold F_X11_changeEnd_0 at h
  show am_Q _ _ _ (0, [.ref 0, .int a1, .null], [], _) _
  refine aq_iload_n (am_dg dkX11_changeEnd (i := 0) rfl) rfl ?_
  refine aq_aload_n (am_dg dkX11_changeEnd (i := 1) rfl) rfl ?_
  refine aq_getR (am_dg dkX11_changeEnd (i := 2) rfl) gk_11_30_0 (rf_0_0 hR) ?_
  refine aq_getI (am_dg dkX11_changeEnd (i := 3) rfl) gk_11_173_8 (by decide) ?_
  by_cases hc1 : (s.1 8 0) ≤ a1
  · rw [if_pos hc1] at h
    refine aq_icT (t := 14) (am_dg dkX11_changeEnd (i := 4) rfl) rfl (decide_eq_true hc1) ?_
    refine aq_aload_n (am_dg dkX11_changeEnd (i := 7) rfl) rfl ?_
    refine aq_getR (am_dg dkX11_changeEnd (i := 8) rfl) gk_11_30_0 (rf_0_0 hR) ?_
    refine aq_getI (am_dg dkX11_changeEnd (i := 9) rfl) gk_11_177_8 (by decide) ?_
    refine aq_istore_n (L1 := [.ref 0, .int a1, .int (s.1 8 1)]) (am_dg dkX11_changeEnd (i := 10) rfl) rfl ?_
    refine aq_aload_n (am_dg dkX11_changeEnd (i := 11) rfl) rfl ?_
    refine aq_getR (am_dg dkX11_changeEnd (i := 12) rfl) gk_11_30_0 (rf_0_0 hR) ?_
    refine aq_iload_n (am_dg dkX11_changeEnd (i := 13) rfl) rfl ?_
    refine aq_putI (am_dg dkX11_changeEnd (i := 14) rfl) gk_11_177_8 ?_
    obtain ⟨s2, hs3, h⟩ := am_bnd h
    rw [Option.some.inj hs3]
    refine aq_iload_n (am_dg dkX11_changeEnd (i := 15) rfl) rfl ?_
    obtain rfl := Option.some.inj h
    exact aq_ireturn (am_dg dkX11_changeEnd (i := 16) rfl) rfl (Or.inl rfl) rfl
  · rw [if_neg hc1] at h
    refine aq_icF (t := 14) (am_dg dkX11_changeEnd (i := 4) rfl) rfl (decide_eq_false hc1) ?_
    refine aq_bipush (v := (-4 : Int32)) (am_dg dkX11_changeEnd (i := 5) rfl) (by decide) ?_
    obtain rfl := Option.some.inj h
    exact aq_ireturn (am_dg dkX11_changeEnd (i := 6) rfl) rfl (Or.inl rfl) rfl
set_option maxRecDepth 20000 in
theorem T_X11_changeMesh_0 {sc : Option (Nat × (Nat → Int32))} {RF : Nat → Nat → Option Nat} {d : Nat} (hR : am_RFok RF) (hd : 0 ≤ d) {a1 : Int32} {s : am_S} {r : Int32 × am_S} (h : F_X11_changeMesh_0 a1 s = some r) : am_Q sc d mX11_changeMesh (0, am_L0 mX11_changeMesh [.ref 0, .int a1], [], am_hp RF s) (.int r.1, am_hp RF r.2) := by
  unfold F_X11_changeMesh_0 at h
  show am_Q _ _ _ (0, [.ref 0, .int a1, .null], [], _) _
  refine aq_aload_n (am_dg dkX11_changeMesh (i := 0) rfl) rfl ?_
  refine aq_getR (am_dg dkX11_changeMesh (i := 1) rfl) gk_11_30_0 (rf_0_0 hR) ?_
  refine aq_getI (am_dg dkX11_changeMesh (i := 2) rfl) gk_11_180_8 (by decide) ?_
  refine aq_istore_n (L1 := [.ref 0, .int a1, .int (s.1 8 2)]) (am_dg dkX11_changeMesh (i := 3) rfl) rfl ?_
  refine aq_aload_n (am_dg dkX11_changeMesh (i := 4) rfl) rfl ?_
  refine aq_getR (am_dg dkX11_changeMesh (i := 5) rfl) gk_11_30_0 (rf_0_0 hR) ?_
  refine aq_iload_n (am_dg dkX11_changeMesh (i := 6) rfl) rfl ?_
  refine aq_putI (am_dg dkX11_changeMesh (i := 7) rfl) gk_11_180_8 ?_
  obtain ⟨s1, hs2, h⟩ := am_bnd h
  rw [Option.some.inj hs2]
  refine aq_iload_n (am_dg dkX11_changeMesh (i := 8) rfl) rfl ?_
  obtain rfl := Option.some.inj h
  exact aq_ireturn (am_dg dkX11_changeMesh (i := 9) rfl) rfl (Or.inl rfl) rfl
set_option maxRecDepth 20000 in
theorem T_X11_set_0 {sc : Option (Nat × (Nat → Int32))} {RF : Nat → Nat → Option Nat} {d : Nat} (hR : am_RFok RF) (hd : 1 ≤ d) {a1 : Int32} {a2 : Int32} {s : am_S} {r : Int32 × am_S} (h : F_X11_set_0 a1 a2 s = some r) : am_Q sc d mX11_set (0, am_L0 mX11_set [.ref 0, .int a1, .int a2], [], am_hp RF s) (.int r.1, am_hp RF r.2) := by
  obtain ⟨e, rfl⟩ : ∃ e, d = e + 1 := ⟨d - 1, by omega⟩
  unfold F_X11_set_0 at h
  show am_Q _ _ _ (0, [.ref 0, .int a1, .int a2], [], _) _
  refine aq_iload_n (am_dg dkX11_set (i := 0) rfl) rfl ?_
  by_cases hc1 : a1 = (0 : Int32)
  · rw [if_pos hc1] at h
    refine aq_lsw (t := 28) (am_dg dkX11_set (i := 1) rfl) (by rw [hc1]; rfl) ?_
    refine aq_iload_n (am_dg dkX11_set (i := 2) rfl) rfl ?_
    refine aq_iconst (v := (1 : Int32)) (am_dg dkX11_set (i := 3) rfl) (by decide) ?_
    refine aq_bipush (v := (16 : Int32)) (am_dg dkX11_set (i := 4) rfl) (by decide) ?_
    obtain ⟨q2, hq3, h⟩ := am_bnd h
    refine aq_static (a := [.int a2, .int (1 : Int32), .int (16 : Int32)]) (S1 := []) (v1 := .int q2.1) (S2 := [.int q2.1]) (am_dg dkX11_set (i := 5) rfl) ct_11_149 rfl rfl rfl (Nat.le_of_ble_eq_true rfl) (Nat.le_of_ble_eq_true rfl) (T_X11_isWithin hR (by omega) hq3) rfl ?_
    by_cases hc4 : q2.1 = (0 : Int32)
    · rw [if_pos hc4] at h
      refine aq_ifT (t := 46) (am_dg dkX11_set (i := 6) rfl) rfl (decide_eq_true hc4) ?_
      refine aq_iconst (v := (-1 : Int32)) (am_dg dkX11_set (i := 11) rfl) (by decide) ?_
      obtain rfl := Option.some.inj h
      exact aq_ireturn (am_dg dkX11_set (i := 12) rfl) rfl (Or.inl rfl) rfl
    · rw [if_neg hc4] at h
      refine aq_ifF (t := 46) (am_dg dkX11_set (i := 6) rfl) rfl (decide_eq_false hc4) ?_
      refine aq_aload_n (am_dg dkX11_set (i := 7) rfl) rfl ?_
      refine aq_iload_n (am_dg dkX11_set (i := 8) rfl) rfl ?_
      obtain ⟨q5, hq6, h⟩ := am_bnd h
      refine aq_virt (a := [.ref 0, .int a2]) (S1 := []) (v1 := .int q5.1) (S2 := [.int q5.1]) (am_dg dkX11_set (i := 9) rfl) cv_11_167_11 (am_cls_c sh_0 (by decide)) rfl rfl rfl (Nat.le_of_ble_eq_true rfl) (Nat.le_of_ble_eq_true rfl) (T_X11_changeEnd_0 hR (by omega) hq6) rfl ?_
      refine aq_goto (t := 47) (am_dg dkX11_set (i := 10) rfl) rfl ?_
      obtain rfl := Option.some.inj h
      exact aq_ireturn (am_dg dkX11_set (i := 12) rfl) rfl (Or.inl rfl) rfl
  rw [if_neg hc1] at h
  by_cases hc7 : a1 = (1 : Int32)
  · rw [if_pos hc7] at h
    refine aq_lsw (t := 48) (am_dg dkX11_set (i := 1) rfl) (by rw [hc7]; rfl) ?_
    refine aq_iload_n (am_dg dkX11_set (i := 13) rfl) rfl ?_
    refine aq_iconst (v := (0 : Int32)) (am_dg dkX11_set (i := 14) rfl) (by decide) ?_
    refine aq_bipush (v := (9 : Int32)) (am_dg dkX11_set (i := 15) rfl) (by decide) ?_
    obtain ⟨q8, hq9, h⟩ := am_bnd h
    refine aq_static (a := [.int a2, .int (0 : Int32), .int (9 : Int32)]) (S1 := []) (v1 := .int q8.1) (S2 := [.int q8.1]) (am_dg dkX11_set (i := 16) rfl) ct_11_149 rfl rfl rfl (Nat.le_of_ble_eq_true rfl) (Nat.le_of_ble_eq_true rfl) (T_X11_isWithin hR (by omega) hq9) rfl ?_
    by_cases hc10 : q8.1 = (0 : Int32)
    · rw [if_pos hc10] at h
      refine aq_ifT (t := 66) (am_dg dkX11_set (i := 17) rfl) rfl (decide_eq_true hc10) ?_
      refine aq_iconst (v := (-1 : Int32)) (am_dg dkX11_set (i := 22) rfl) (by decide) ?_
      obtain rfl := Option.some.inj h
      exact aq_ireturn (am_dg dkX11_set (i := 23) rfl) rfl (Or.inl rfl) rfl
    · rw [if_neg hc10] at h
      refine aq_ifF (t := 66) (am_dg dkX11_set (i := 17) rfl) rfl (decide_eq_false hc10) ?_
      refine aq_aload_n (am_dg dkX11_set (i := 18) rfl) rfl ?_
      refine aq_iload_n (am_dg dkX11_set (i := 19) rfl) rfl ?_
      obtain ⟨q11, hq12, h⟩ := am_bnd h
      refine aq_virt (a := [.ref 0, .int a2]) (S1 := []) (v1 := .int q11.1) (S2 := [.int q11.1]) (am_dg dkX11_set (i := 20) rfl) cv_11_170_11 (am_cls_c sh_0 (by decide)) rfl rfl rfl (Nat.le_of_ble_eq_true rfl) (Nat.le_of_ble_eq_true rfl) (T_X11_changeMesh_0 hR (by omega) hq12) rfl ?_
      refine aq_goto (t := 67) (am_dg dkX11_set (i := 21) rfl) rfl ?_
      obtain rfl := Option.some.inj h
      exact aq_ireturn (am_dg dkX11_set (i := 23) rfl) rfl (Or.inl rfl) rfl
  rw [if_neg hc7] at h
  refine aq_lsw (t := 68) (am_dg dkX11_set (i := 1) rfl) (am_lsw_d rfl (by simp only [lv_osw hc1 (show ((0 : Int32)).toInt = 0 by decide), lv_osw hc7 (show ((1 : Int32)).toInt = 1 by decide)]; rfl)) ?_
  refine aq_iconst (v := (-1 : Int32)) (am_dg dkX11_set (i := 24) rfl) (by decide) ?_
  obtain rfl := Option.some.inj h
  exact aq_ireturn (am_dg dkX11_set (i := 25) rfl) rfl (Or.inl rfl) rfl
set_option maxRecDepth 20000 in
theorem T_X12_set_82 {sc : Option (Nat × (Nat → Int32))} {RF : Nat → Nat → Option Nat} {d : Nat} (hR : am_RFok RF) (hd : 1 ≤ d) {a1 : Int32} {a2 : Int32} {s : am_S} {r : Int32 × am_S} (h : F_X12_set_82 a1 a2 s = some r) : am_Q sc d mX12_set (0, am_L0 mX12_set [.ref 82, .int a1, .int a2], [], am_hp RF s) (.int r.1, am_hp RF r.2) := by
  obtain ⟨e, rfl⟩ : ∃ e, d = e + 1 := ⟨d - 1, by omega⟩
  unfold F_X12_set_82 at h
  show am_Q _ _ _ (0, [.ref 82, .int a1, .int a2], [], _) _
  refine aq_iload_n (am_dg dkX12_set (i := 0) rfl) rfl ?_
  refine aq_iconst (v := (1 : Int32)) (am_dg dkX12_set (i := 1) rfl) (by decide) ?_
  by_cases hc1 : a1 = (1 : Int32)
  · rw [if_pos hc1] at h
    refine aq_icF (t := 28) (am_dg dkX12_set (i := 2) rfl) rfl (decide_eq_false (not_not_intro hc1)) ?_
    refine aq_iload_n (am_dg dkX12_set (i := 3) rfl) rfl ?_
    refine aq_i2l (am_dg dkX12_set (i := 4) rfl) ?_
    refine aq_lconst (v := (0 : Int64)) (am_dg dkX12_set (i := 5) rfl) (by decide) ?_
    refine aq_ldc2 (am_dg dkX12_set (i := 6) rfl) cl_12_71 ?_
    obtain ⟨q2, hq3, h⟩ := am_bnd h
    refine aq_static (a := [.long a2.toInt64, .long (0 : Int64), .long (9 : Int64)]) (S1 := []) (v1 := .int q2.1) (S2 := [.int q2.1]) (am_dg dkX12_set (i := 7) rfl) ct_12_61 rfl rfl rfl (Nat.le_of_ble_eq_true rfl) (Nat.le_of_ble_eq_true rfl) (T_X12_in hR (by omega) hq3) rfl ?_
    by_cases hc4 : q2.1 = (0 : Int32)
    · rw [if_pos hc4] at h
      refine aq_ifT (t := 26) (am_dg dkX12_set (i := 8) rfl) rfl (decide_eq_true hc4) ?_
      refine aq_iconst (v := (-1 : Int32)) (am_dg dkX12_set (i := 14) rfl) (by decide) ?_
      obtain rfl := Option.some.inj h
      exact aq_ireturn (am_dg dkX12_set (i := 15) rfl) rfl (Or.inl rfl) rfl
    · rw [if_neg hc4] at h
      refine aq_ifF (t := 26) (am_dg dkX12_set (i := 8) rfl) rfl (decide_eq_false hc4) ?_
      refine aq_aload_n (am_dg dkX12_set (i := 9) rfl) rfl ?_
      refine aq_iconst (v := (5 : Int32)) (am_dg dkX12_set (i := 10) rfl) (by decide) ?_
      refine aq_iload_n (am_dg dkX12_set (i := 11) rfl) rfl ?_
      obtain ⟨q5, hq6, h⟩ := am_bnd h
      refine aq_virt (a := [.ref 82, .int (5 : Int32), .int a2]) (S1 := []) (v1 := .int q5.1) (S2 := [.int q5.1]) (am_dg dkX12_set (i := 12) rfl) cv_12_108_12 (am_cls_c sh_82 (by decide)) rfl rfl rfl (Nat.le_of_ble_eq_true rfl) (Nat.le_of_ble_eq_true rfl) (T_X12_becomes_82 hR (by omega) hq6) rfl ?_
      refine aq_goto (t := 27) (am_dg dkX12_set (i := 13) rfl) rfl ?_
      obtain rfl := Option.some.inj h
      exact aq_ireturn (am_dg dkX12_set (i := 15) rfl) rfl (Or.inl rfl) rfl
  · rw [if_neg hc1] at h
    refine aq_icT (t := 28) (am_dg dkX12_set (i := 2) rfl) rfl (decide_eq_true hc1) ?_
    refine aq_iload_n (am_dg dkX12_set (i := 16) rfl) rfl ?_
    by_cases hc7 : a1 = (0 : Int32)
    · rw [if_pos hc7] at h
      refine aq_ifF (t := 44) (am_dg dkX12_set (i := 17) rfl) rfl (decide_eq_false (not_not_intro hc7)) ?_
      refine aq_iload_n (am_dg dkX12_set (i := 18) rfl) rfl ?_
      refine aq_i2l (am_dg dkX12_set (i := 19) rfl) ?_
      refine aq_lconst (v := (1 : Int64)) (am_dg dkX12_set (i := 20) rfl) (by decide) ?_
      refine aq_ldc2 (am_dg dkX12_set (i := 21) rfl) cl_12_116 ?_
      obtain ⟨q8, hq9, h⟩ := am_bnd h
      refine aq_static (a := [.long a2.toInt64, .long (1 : Int64), .long (16 : Int64)]) (S1 := []) (v1 := .int q8.1) (S2 := [.int q8.1]) (am_dg dkX12_set (i := 22) rfl) ct_12_61 rfl rfl rfl (Nat.le_of_ble_eq_true rfl) (Nat.le_of_ble_eq_true rfl) (T_X12_in hR (by omega) hq9) rfl ?_
      by_cases hc10 : q8.1 = (0 : Int32)
      · rw [if_pos hc10] at h
        refine aq_ifF (t := 48) (am_dg dkX12_set (i := 23) rfl) rfl (decide_eq_false (not_not_intro hc10)) ?_
        refine aq_iconst (v := (-1 : Int32)) (am_dg dkX12_set (i := 24) rfl) (by decide) ?_
        refine aq_goto (t := 69) (am_dg dkX12_set (i := 25) rfl) rfl ?_
        obtain rfl := Option.some.inj h
        exact aq_ireturn (am_dg dkX12_set (i := 38) rfl) rfl (Or.inl rfl) rfl
      · rw [if_neg hc10] at h
        refine aq_ifT (t := 48) (am_dg dkX12_set (i := 23) rfl) rfl (decide_eq_true hc10) ?_
        refine aq_iload_n (am_dg dkX12_set (i := 26) rfl) rfl ?_
        refine aq_aload_n (am_dg dkX12_set (i := 27) rfl) rfl ?_
        refine aq_getR (am_dg dkX12_set (i := 28) rfl) gk_12_7_82 (rf_82_0 hR) ?_
        refine aq_iconst (v := (3 : Int32)) (am_dg dkX12_set (i := 29) rfl) (by decide) ?_
        obtain ⟨hg11, h⟩ := am_guard h
        refine aq_iald (am_dg dkX12_set (i := 30) rfl) sh_83 hg11 ?_
        by_cases hc12 : (q8.2.1 83 (3 : Int32).toNatClampNeg) ≤ a2
        · rw [if_pos hc12] at h
          refine aq_icT (t := 63) (am_dg dkX12_set (i := 31) rfl) rfl (decide_eq_true hc12) ?_
          refine aq_aload_n (am_dg dkX12_set (i := 34) rfl) rfl ?_
          refine aq_iconst (v := (2 : Int32)) (am_dg dkX12_set (i := 35) rfl) (by decide) ?_
          refine aq_iload_n (am_dg dkX12_set (i := 36) rfl) rfl ?_
          obtain ⟨q13, hq14, h⟩ := am_bnd h
          refine aq_virt (a := [.ref 82, .int (2 : Int32), .int a2]) (S1 := []) (v1 := .int q13.1) (S2 := [.int q13.1]) (am_dg dkX12_set (i := 37) rfl) cv_12_108_12 (am_cls_c sh_82 (by decide)) rfl rfl rfl (Nat.le_of_ble_eq_true rfl) (Nat.le_of_ble_eq_true rfl) (T_X12_becomes_82 hR (by omega) hq14) rfl ?_
          obtain rfl := Option.some.inj h
          exact aq_ireturn (am_dg dkX12_set (i := 38) rfl) rfl (Or.inl rfl) rfl
        · rw [if_neg hc12] at h
          refine aq_icF (t := 63) (am_dg dkX12_set (i := 31) rfl) rfl (decide_eq_false hc12) ?_
          refine aq_bipush (v := (-4 : Int32)) (am_dg dkX12_set (i := 32) rfl) (by decide) ?_
          refine aq_goto (t := 69) (am_dg dkX12_set (i := 33) rfl) rfl ?_
          obtain rfl := Option.some.inj h
          exact aq_ireturn (am_dg dkX12_set (i := 38) rfl) rfl (Or.inl rfl) rfl
    · rw [if_neg hc7] at h
      refine aq_ifT (t := 44) (am_dg dkX12_set (i := 17) rfl) rfl (decide_eq_true hc7) ?_
      refine aq_iconst (v := (-1 : Int32)) (am_dg dkX12_set (i := 24) rfl) (by decide) ?_
      refine aq_goto (t := 69) (am_dg dkX12_set (i := 25) rfl) rfl ?_
      obtain rfl := Option.some.inj h
      exact aq_ireturn (am_dg dkX12_set (i := 38) rfl) rfl (Or.inl rfl) rfl
set_option maxRecDepth 20000 in
theorem T_X11_anew_0 {sc : Option (Nat × (Nat → Int32))} {RF : Nat → Nat → Option Nat} {d : Nat} (hR : am_RFok RF) (hd : 0 ≤ d) {s : am_S} {r : Int32 × am_S} (h : F_X11_anew_0 s = some r) : am_Q sc d mX11_anew (0, am_L0 mX11_anew [.ref 0], [], am_hp RF s) (.int r.1, am_hp RF r.2) := by
  unfold F_X11_anew_0 at h
  show am_Q _ _ _ (0, [.ref 0, .null], [], _) _
  refine aq_aload_n (am_dg dkX11_anew (i := 0) rfl) rfl ?_
  refine aq_getR (am_dg dkX11_anew (i := 1) rfl) gk_11_30_0 (rf_0_0 hR) ?_
  refine aq_getI (am_dg dkX11_anew (i := 2) rfl) gk_11_173_8 (by decide) ?_
  refine aq_istore_n (L1 := [.ref 0, .int (s.1 8 0)]) (am_dg dkX11_anew (i := 3) rfl) rfl ?_
  refine aq_aload_n (am_dg dkX11_anew (i := 4) rfl) rfl ?_
  refine aq_getR (am_dg dkX11_anew (i := 5) rfl) gk_11_30_0 (rf_0_0 hR) ?_
  refine aq_iconst (v := (0 : Int32)) (am_dg dkX11_anew (i := 6) rfl) (by decide) ?_
  refine aq_putI (am_dg dkX11_anew (i := 7) rfl) gk_11_173_8 ?_
  obtain ⟨s1, hs2, h⟩ := am_bnd h
  rw [Option.some.inj hs2]
  refine aq_aload_n (am_dg dkX11_anew (i := 8) rfl) rfl ?_
  refine aq_getR (am_dg dkX11_anew (i := 9) rfl) gk_11_30_0 (rf_0_0 hR) ?_
  refine aq_iconst (v := (0 : Int32)) (am_dg dkX11_anew (i := 10) rfl) (by decide) ?_
  refine aq_putI (am_dg dkX11_anew (i := 11) rfl) gk_11_183_8 ?_
  obtain ⟨s3, hs4, h⟩ := am_bnd h
  rw [Option.some.inj hs4]
  refine aq_aload_n (am_dg dkX11_anew (i := 12) rfl) rfl ?_
  refine aq_getR (am_dg dkX11_anew (i := 13) rfl) gk_11_30_0 (rf_0_0 hR) ?_
  refine aq_iconst (v := (0 : Int32)) (am_dg dkX11_anew (i := 14) rfl) (by decide) ?_
  refine aq_putI (am_dg dkX11_anew (i := 15) rfl) gk_11_186_8 ?_
  obtain ⟨s5, hs6, h⟩ := am_bnd h
  rw [Option.some.inj hs6]
  refine aq_iload_n (am_dg dkX11_anew (i := 16) rfl) rfl ?_
  obtain rfl := Option.some.inj h
  exact aq_ireturn (am_dg dkX11_anew (i := 17) rfl) rfl (Or.inl rfl) rfl
set_option maxRecDepth 20000 in
theorem T_X12_anew_82_b9 {sc : Option (Nat × (Nat → Int32))} {RF : Nat → Nat → Option Nat} {d : Nat} (hR : am_RFok RF) (hd : 1 ≤ d) : ∀ (n : Nat) (x1 : Int32) (s : am_S) (r : Int32 × am_S), F_X12_anew_82_b9 n x1 s = some r → am_Q sc d mX12_anew (9, [.ref 82, .int x1], [], am_hp RF s) (.int r.1, am_hp RF r.2) := by
  obtain ⟨e, rfl⟩ : ∃ e, d = e + 1 := ⟨d - 1, by omega⟩
  intro n
  induction n with
  | zero => intro x1 s r h; rw [F_X12_anew_82_b9] at h; cases h
  | succ n ih =>
  intro x1 s r h
  rw [F_X12_anew_82_b9] at h
  refine aq_iload_n (am_dg dkX12_anew (i := 7) rfl) rfl ?_
  refine aq_aload_n (am_dg dkX12_anew (i := 8) rfl) rfl ?_
  refine aq_getR (am_dg dkX12_anew (i := 9) rfl) gk_12_7_82 (rf_82_0 hR) ?_
  refine aq_iconst (v := (0 : Int32)) (am_dg dkX12_anew (i := 10) rfl) (by decide) ?_
  obtain ⟨hg1, h⟩ := am_guard h
  refine aq_iald (am_dg dkX12_anew (i := 11) rfl) sh_83 hg1 ?_
  by_cases hc2 : (s.1 83 (0 : Int32).toNatClampNeg) ≤ x1
  · rw [if_pos hc2] at h
    refine aq_icT (t := 36) (am_dg dkX12_anew (i := 12) rfl) rfl (decide_eq_true hc2) ?_
    refine aq_aload_n (am_dg dkX12_anew (i := 22) rfl) rfl ?_
    refine aq_iconst (v := (3 : Int32)) (am_dg dkX12_anew (i := 23) rfl) (by decide) ?_
    refine aq_iconst (v := (0 : Int32)) (am_dg dkX12_anew (i := 24) rfl) (by decide) ?_
    obtain ⟨q3, hq4, h⟩ := am_bnd h
    refine aq_virt (a := [.ref 82, .int (3 : Int32), .int (0 : Int32)]) (S1 := []) (v1 := .int q3.1) (S2 := [.int q3.1]) (am_dg dkX12_anew (i := 25) rfl) cv_12_108_12 (am_cls_c sh_82 (by decide)) rfl rfl rfl (Nat.le_of_ble_eq_true rfl) (Nat.le_of_ble_eq_true rfl) (T_X12_becomes_82 hR (by omega) hq4) rfl ?_
    obtain rfl := Option.some.inj h
    exact aq_ireturn (am_dg dkX12_anew (i := 26) rfl) rfl (Or.inl rfl) rfl
  · rw [if_neg hc2] at h
    refine aq_icF (t := 36) (am_dg dkX12_anew (i := 12) rfl) rfl (decide_eq_false hc2) ?_
    refine aq_aload_n (am_dg dkX12_anew (i := 13) rfl) rfl ?_
    refine aq_getR (am_dg dkX12_anew (i := 14) rfl) gk_12_7_82 (rf_82_0 hR) ?_
    refine aq_iload_n (am_dg dkX12_anew (i := 15) rfl) rfl ?_
    refine aq_iconst (v := (4 : Int32)) (am_dg dkX12_anew (i := 16) rfl) (by decide) ?_
    obtain ⟨q5, hq6, h⟩ := am_bnd h
    refine aq_static (a := [.int x1, .int (4 : Int32)]) (S1 := [.ref 83]) (v1 := .int q5.1) (S2 := [.int q5.1, .ref 83]) (am_dg dkX12_anew (i := 17) rfl) ct_12_65 rfl rfl rfl (Nat.le_of_ble_eq_true rfl) (Nat.le_of_ble_eq_true rfl) (T_X12_at hR (by omega) hq6) rfl ?_
    refine aq_iconst (v := (0 : Int32)) (am_dg dkX12_anew (i := 18) rfl) (by decide) ?_
    obtain ⟨hg7, h⟩ := am_guard h
    refine aq_iast (am_dg dkX12_anew (i := 19) rfl) sh_83 hg7 ?_
    obtain ⟨s8, hs9, h⟩ := am_bnd h
    rw [Option.some.inj hs9]
    refine aq_iinc (v := (1 : Int32)) (L1 := [.ref 82, .int (x1 + (1 : Int32))]) (am_dg dkX12_anew (i := 20) rfl) rfl (by decide) rfl ?_
    refine aq_goto (t := 9) (am_dg dkX12_anew (i := 21) rfl) rfl ?_
    exact ih _ _ _ h
set_option maxRecDepth 20000 in
theorem T_X12_anew_82 {sc : Option (Nat × (Nat → Int32))} {RF : Nat → Nat → Option Nat} {d : Nat} (hR : am_RFok RF) (hd : 1 ≤ d) {s : am_S} {r : Int32 × am_S} (h : F_X12_anew_82 s = some r) : am_Q sc d mX12_anew (0, am_L0 mX12_anew [.ref 82], [], am_hp RF s) (.int r.1, am_hp RF r.2) := by
  obtain ⟨e, rfl⟩ : ∃ e, d = e + 1 := ⟨d - 1, by omega⟩
  unfold F_X12_anew_82 at h
  show am_Q _ _ _ (0, [.ref 82, .null], [], _) _
  refine aq_aload_n (am_dg dkX12_anew (i := 0) rfl) rfl ?_
  refine aq_getR (am_dg dkX12_anew (i := 1) rfl) gk_12_7_82 (rf_82_0 hR) ?_
  refine aq_iconst (v := (4 : Int32)) (am_dg dkX12_anew (i := 2) rfl) (by decide) ?_
  refine aq_iconst (v := (0 : Int32)) (am_dg dkX12_anew (i := 3) rfl) (by decide) ?_
  obtain ⟨hg1, h⟩ := am_guard h
  refine aq_iast (am_dg dkX12_anew (i := 4) rfl) sh_83 hg1 ?_
  obtain ⟨s2, hs3, h⟩ := am_bnd h
  rw [Option.some.inj hs3]
  refine aq_iconst (v := (0 : Int32)) (am_dg dkX12_anew (i := 5) rfl) (by decide) ?_
  refine aq_istore_n (L1 := [.ref 82, .int (0 : Int32)]) (am_dg dkX12_anew (i := 6) rfl) rfl ?_
  exact T_X12_anew_82_b9 hR (by omega) _ _ _ _ h
set_option maxRecDepth 20000 in
theorem T_X8_isOver_8 {sc : Option (Nat × (Nat → Int32))} {RF : Nat → Nat → Option Nat} {d : Nat} (hR : am_RFok RF) (hd : 0 ≤ d) {s : am_S} {r : Int32 × am_S} (h : F_X8_isOver_8 s = some r) : am_Q sc d mX8_isOver (0, am_L0 mX8_isOver [.ref 8], [], am_hp RF s) (.int r.1, am_hp RF r.2) := by
  unfold F_X8_isOver_8 at h
  show am_Q _ _ _ (0, [.ref 8], [], _) _
  refine aq_aload_n (am_dg dkX8_isOver (i := 0) rfl) rfl ?_
  refine aq_getI (am_dg dkX8_isOver (i := 1) rfl) gk_8_66_8 (by decide) ?_
  refine aq_aload_n (am_dg dkX8_isOver (i := 2) rfl) rfl ?_
  refine aq_getI (am_dg dkX8_isOver (i := 3) rfl) gk_8_50_8 (by decide) ?_
  by_cases hc1 : (s.1 8 1) ≤ (s.1 8 0)
  · rw [if_pos hc1] at h
    refine aq_icT (t := 20) (am_dg dkX8_isOver (i := 4) rfl) rfl (decide_eq_true hc1) ?_
    refine aq_iconst (v := (1 : Int32)) (am_dg dkX8_isOver (i := 9) rfl) (by decide) ?_
    refine aq_goto (t := 25) (am_dg dkX8_isOver (i := 10) rfl) rfl ?_
    obtain rfl := Option.some.inj h
    exact aq_ireturn (am_dg dkX8_isOver (i := 12) rfl) rfl (Or.inr (Or.inl rfl)) rfl
  · rw [if_neg hc1] at h
    refine aq_icF (t := 20) (am_dg dkX8_isOver (i := 4) rfl) rfl (decide_eq_false hc1) ?_
    refine aq_aload_n (am_dg dkX8_isOver (i := 5) rfl) rfl ?_
    refine aq_getI (am_dg dkX8_isOver (i := 6) rfl) gk_8_66_8 (by decide) ?_
    refine aq_bipush (v := (16 : Int32)) (am_dg dkX8_isOver (i := 7) rfl) (by decide) ?_
    by_cases hc2 : (s.1 8 0) < (16 : Int32)
    · rw [if_pos hc2] at h
      refine aq_icT (t := 24) (am_dg dkX8_isOver (i := 8) rfl) rfl (decide_eq_true hc2) ?_
      refine aq_iconst (v := (0 : Int32)) (am_dg dkX8_isOver (i := 11) rfl) (by decide) ?_
      obtain rfl := Option.some.inj h
      exact aq_ireturn (am_dg dkX8_isOver (i := 12) rfl) rfl (Or.inr (Or.inl rfl)) rfl
    · rw [if_neg hc2] at h
      refine aq_icF (t := 24) (am_dg dkX8_isOver (i := 8) rfl) rfl (decide_eq_false hc2) ?_
      refine aq_iconst (v := (1 : Int32)) (am_dg dkX8_isOver (i := 9) rfl) (by decide) ?_
      refine aq_goto (t := 25) (am_dg dkX8_isOver (i := 10) rfl) rfl ?_
      obtain rfl := Option.some.inj h
      exact aq_ireturn (am_dg dkX8_isOver (i := 12) rfl) rfl (Or.inr (Or.inl rfl)) rfl
set_option maxRecDepth 20000 in
theorem T_X11_state_0 {sc : Option (Nat × (Nat → Int32))} {RF : Nat → Nat → Option Nat} {d : Nat} (hR : am_RFok RF) (hd : 1 ≤ d) {a1 : Int32} {s : am_S} {r : Int32 × am_S} (h : F_X11_state_0 a1 s = some r) : am_Q sc d mX11_state (0, am_L0 mX11_state [.ref 0, .int a1], [], am_hp RF s) (.int r.1, am_hp RF r.2) := by
  obtain ⟨e, rfl⟩ : ∃ e, d = e + 1 := ⟨d - 1, by omega⟩
  unfold F_X11_state_0 at h
  show am_Q _ _ _ (0, [.ref 0, .int a1], [], _) _
  refine aq_iload_n (am_dg dkX11_state (i := 0) rfl) rfl ?_
  by_cases hc1 : a1 = (0 : Int32)
  · rw [if_pos hc1] at h
    refine aq_tsw (t := 40) (am_dg dkX11_state (i := 1) rfl) (by rw [hc1]; rfl) ?_
    refine aq_aload_n (am_dg dkX11_state (i := 2) rfl) rfl ?_
    refine aq_getR (am_dg dkX11_state (i := 3) rfl) gk_11_30_0 (rf_0_0 hR) ?_
    refine aq_getI (am_dg dkX11_state (i := 4) rfl) gk_11_173_8 (by decide) ?_
    obtain rfl := Option.some.inj h
    exact aq_ireturn (am_dg dkX11_state (i := 5) rfl) rfl (Or.inl rfl) rfl
  rw [if_neg hc1] at h
  by_cases hc2 : a1 = (1 : Int32)
  · rw [if_pos hc2] at h
    refine aq_tsw (t := 48) (am_dg dkX11_state (i := 1) rfl) (by rw [hc2]; rfl) ?_
    refine aq_aload_n (am_dg dkX11_state (i := 6) rfl) rfl ?_
    refine aq_getR (am_dg dkX11_state (i := 7) rfl) gk_11_30_0 (rf_0_0 hR) ?_
    refine aq_getI (am_dg dkX11_state (i := 8) rfl) gk_11_177_8 (by decide) ?_
    obtain rfl := Option.some.inj h
    exact aq_ireturn (am_dg dkX11_state (i := 9) rfl) rfl (Or.inl rfl) rfl
  rw [if_neg hc2] at h
  by_cases hc3 : a1 = (2 : Int32)
  · rw [if_pos hc3] at h
    refine aq_tsw (t := 56) (am_dg dkX11_state (i := 1) rfl) (by rw [hc3]; rfl) ?_
    refine aq_aload_n (am_dg dkX11_state (i := 10) rfl) rfl ?_
    refine aq_getR (am_dg dkX11_state (i := 11) rfl) gk_11_30_0 (rf_0_0 hR) ?_
    refine aq_getI (am_dg dkX11_state (i := 12) rfl) gk_11_183_8 (by decide) ?_
    obtain rfl := Option.some.inj h
    exact aq_ireturn (am_dg dkX11_state (i := 13) rfl) rfl (Or.inl rfl) rfl
  rw [if_neg hc3] at h
  by_cases hc4 : a1 = (3 : Int32)
  · rw [if_pos hc4] at h
    refine aq_tsw (t := 64) (am_dg dkX11_state (i := 1) rfl) (by rw [hc4]; rfl) ?_
    refine aq_aload_n (am_dg dkX11_state (i := 14) rfl) rfl ?_
    refine aq_getR (am_dg dkX11_state (i := 15) rfl) gk_11_30_0 (rf_0_0 hR) ?_
    obtain ⟨q5, hq6, h⟩ := am_bnd h
    refine aq_virt (a := [.ref 8]) (S1 := []) (v1 := .int q5.1) (S2 := [.int q5.1]) (am_dg dkX11_state (i := 16) rfl) cv_11_189_8 (am_cls_c sh_8 (by decide)) rfl rfl rfl (Nat.le_of_ble_eq_true rfl) (Nat.le_of_ble_eq_true rfl) (T_X8_isOver_8 hR (by omega) hq6) rfl ?_
    by_cases hc7 : q5.1 = (0 : Int32)
    · rw [if_pos hc7] at h
      refine aq_ifT (t := 78) (am_dg dkX11_state (i := 17) rfl) rfl (decide_eq_true hc7) ?_
      refine aq_iconst (v := (0 : Int32)) (am_dg dkX11_state (i := 20) rfl) (by decide) ?_
      obtain rfl := Option.some.inj h
      exact aq_ireturn (am_dg dkX11_state (i := 21) rfl) rfl (Or.inl rfl) rfl
    · rw [if_neg hc7] at h
      refine aq_ifF (t := 78) (am_dg dkX11_state (i := 17) rfl) rfl (decide_eq_false hc7) ?_
      refine aq_iconst (v := (1 : Int32)) (am_dg dkX11_state (i := 18) rfl) (by decide) ?_
      refine aq_goto (t := 79) (am_dg dkX11_state (i := 19) rfl) rfl ?_
      obtain rfl := Option.some.inj h
      exact aq_ireturn (am_dg dkX11_state (i := 21) rfl) rfl (Or.inl rfl) rfl
  rw [if_neg hc4] at h
  by_cases hc8 : a1 = (4 : Int32)
  · rw [if_pos hc8] at h
    refine aq_tsw (t := 80) (am_dg dkX11_state (i := 1) rfl) (by rw [hc8]; rfl) ?_
    refine aq_aload_n (am_dg dkX11_state (i := 22) rfl) rfl ?_
    refine aq_getR (am_dg dkX11_state (i := 23) rfl) gk_11_30_0 (rf_0_0 hR) ?_
    refine aq_getI (am_dg dkX11_state (i := 24) rfl) gk_11_186_8 (by decide) ?_
    obtain rfl := Option.some.inj h
    exact aq_ireturn (am_dg dkX11_state (i := 25) rfl) rfl (Or.inl rfl) rfl
  rw [if_neg hc8] at h
  by_cases hc9 : a1 = (5 : Int32)
  · rw [if_pos hc9] at h
    refine aq_tsw (t := 88) (am_dg dkX11_state (i := 1) rfl) (by rw [hc9]; rfl) ?_
    refine aq_aload_n (am_dg dkX11_state (i := 26) rfl) rfl ?_
    refine aq_getR (am_dg dkX11_state (i := 27) rfl) gk_11_30_0 (rf_0_0 hR) ?_
    refine aq_getI (am_dg dkX11_state (i := 28) rfl) gk_11_180_8 (by decide) ?_
    obtain rfl := Option.some.inj h
    exact aq_ireturn (am_dg dkX11_state (i := 29) rfl) rfl (Or.inl rfl) rfl
  rw [if_neg hc9] at h
  refine aq_tsw (t := 96) (am_dg dkX11_state (i := 1) rfl) (am_tsw_d (by have := lv_neT hc1 (show ((0 : Int32)).toInt = 0 by decide); have := lv_neT hc2 (show ((1 : Int32)).toInt = 1 by decide); have := lv_neT hc3 (show ((2 : Int32)).toInt = 2 by decide); have := lv_neT hc4 (show ((3 : Int32)).toInt = 3 by decide); have := lv_neT hc8 (show ((4 : Int32)).toInt = 4 by decide); have := lv_neT hc9 (show ((5 : Int32)).toInt = 5 by decide); omega) rfl) ?_
  refine aq_iconst (v := (-1 : Int32)) (am_dg dkX11_state (i := 30) rfl) (by decide) ?_
  obtain rfl := Option.some.inj h
  exact aq_ireturn (am_dg dkX11_state (i := 31) rfl) rfl (Or.inl rfl) rfl
set_option maxRecDepth 20000 in
theorem T_X12_isOver_82 {sc : Option (Nat × (Nat → Int32))} {RF : Nat → Nat → Option Nat} {d : Nat} (hR : am_RFok RF) (hd : 0 ≤ d) {s : am_S} {r : Int32 × am_S} (h : F_X12_isOver_82 s = some r) : am_Q sc d mX12_isOver (0, am_L0 mX12_isOver [.ref 82], [], am_hp RF s) (.int r.1, am_hp RF r.2) := by
  unfold F_X12_isOver_82 at h
  show am_Q _ _ _ (0, [.ref 82], [], _) _
  refine aq_aload_n (am_dg dkX12_isOver (i := 0) rfl) rfl ?_
  refine aq_getR (am_dg dkX12_isOver (i := 1) rfl) gk_12_7_82 (rf_82_0 hR) ?_
  refine aq_iconst (v := (3 : Int32)) (am_dg dkX12_isOver (i := 2) rfl) (by decide) ?_
  obtain ⟨hg1, h⟩ := am_guard h
  refine aq_iald (am_dg dkX12_isOver (i := 3) rfl) sh_83 hg1 ?_
  refine aq_aload_n (am_dg dkX12_isOver (i := 4) rfl) rfl ?_
  refine aq_getR (am_dg dkX12_isOver (i := 5) rfl) gk_12_7_82 (rf_82_0 hR) ?_
  refine aq_iconst (v := (2 : Int32)) (am_dg dkX12_isOver (i := 6) rfl) (by decide) ?_
  obtain ⟨hg2, h⟩ := am_guard h
  refine aq_iald (am_dg dkX12_isOver (i := 7) rfl) sh_83 hg2 ?_
  by_cases hc3 : (s.1 83 (3 : Int32).toNatClampNeg) < (s.1 83 (2 : Int32).toNatClampNeg)
  · rw [if_pos hc3] at h
    refine aq_icT (t := 19) (am_dg dkX12_isOver (i := 8) rfl) rfl (decide_eq_true hc3) ?_
    refine aq_iconst (v := (0 : Int32)) (am_dg dkX12_isOver (i := 11) rfl) (by decide) ?_
    obtain rfl := Option.some.inj h
    exact aq_ireturn (am_dg dkX12_isOver (i := 12) rfl) rfl (Or.inr (Or.inl rfl)) rfl
  · rw [if_neg hc3] at h
    refine aq_icF (t := 19) (am_dg dkX12_isOver (i := 8) rfl) rfl (decide_eq_false hc3) ?_
    refine aq_iconst (v := (1 : Int32)) (am_dg dkX12_isOver (i := 9) rfl) (by decide) ?_
    refine aq_goto (t := 20) (am_dg dkX12_isOver (i := 10) rfl) rfl ?_
    obtain rfl := Option.some.inj h
    exact aq_ireturn (am_dg dkX12_isOver (i := 12) rfl) rfl (Or.inr (Or.inl rfl)) rfl
set_option maxRecDepth 20000 in
theorem T_X12_caught_82_b4 {sc : Option (Nat × (Nat → Int32))} {RF : Nat → Nat → Option Nat} {d : Nat} (hR : am_RFok RF) (hd : 2 ≤ d) : ∀ (n : Nat) (x1 : Int32) (x2 : Int32) (s : am_S) (r : Int32 × am_S), F_X12_caught_82_b4 n x1 x2 s = some r → am_Q sc d mX12_caught (4, [.ref 82, .int x1, .int x2], [], am_hp RF s) (.int r.1, am_hp RF r.2) := by
  obtain ⟨e, rfl⟩ : ∃ e, d = e + 1 := ⟨d - 1, by omega⟩
  intro n
  induction n with
  | zero => intro x1 x2 s r h; rw [F_X12_caught_82_b4] at h; cases h
  | succ n ih =>
  intro x1 x2 s r h
  rw [F_X12_caught_82_b4] at h
  refine aq_iload_n (am_dg dkX12_caught (i := 4) rfl) rfl ?_
  refine aq_aload_n (am_dg dkX12_caught (i := 5) rfl) rfl ?_
  refine aq_getR (am_dg dkX12_caught (i := 6) rfl) gk_12_7_82 (rf_82_0 hR) ?_
  refine aq_iconst (v := (0 : Int32)) (am_dg dkX12_caught (i := 7) rfl) (by decide) ?_
  obtain ⟨hg1, h⟩ := am_guard h
  refine aq_iald (am_dg dkX12_caught (i := 8) rfl) sh_83 hg1 ?_
  by_cases hc2 : (s.1 83 (0 : Int32).toNatClampNeg) ≤ x2
  · rw [if_pos hc2] at h
    refine aq_icT (t := 31) (am_dg dkX12_caught (i := 9) rfl) rfl (decide_eq_true hc2) ?_
    refine aq_iload_n (am_dg dkX12_caught (i := 21) rfl) rfl ?_
    obtain rfl := Option.some.inj h
    exact aq_ireturn (am_dg dkX12_caught (i := 22) rfl) rfl (Or.inl rfl) rfl
  · rw [if_neg hc2] at h
    refine aq_icF (t := 31) (am_dg dkX12_caught (i := 9) rfl) rfl (decide_eq_false hc2) ?_
    refine aq_iload_n (am_dg dkX12_caught (i := 10) rfl) rfl ?_
    refine aq_aload_n (am_dg dkX12_caught (i := 11) rfl) rfl ?_
    refine aq_iload_n (am_dg dkX12_caught (i := 12) rfl) rfl ?_
    refine aq_iconst (v := (4 : Int32)) (am_dg dkX12_caught (i := 13) rfl) (by decide) ?_
    obtain ⟨q3, hq4, h⟩ := am_bnd h
    refine aq_virt (a := [.ref 82, .int x2, .int (4 : Int32)]) (S1 := [.int x1]) (v1 := .int q3.1) (S2 := [.int q3.1, .int x1]) (am_dg dkX12_caught (i := 14) rfl) cv_12_83_12 (am_cls_c sh_82 (by decide)) rfl rfl rfl (Nat.le_of_ble_eq_true rfl) (Nat.le_of_ble_eq_true rfl) (T_X12_its_82 hR (by omega) hq4) rfl ?_
    refine aq_iload_n (am_dg dkX12_caught (i := 15) rfl) rfl ?_
    refine aq_ishl (am_dg dkX12_caught (i := 16) rfl) ?_
    refine aq_ior (am_dg dkX12_caught (i := 17) rfl) ?_
    refine aq_istore_n (L1 := [.ref 82, .int (x1 ||| (q3.1 <<< (x2 &&& 31))), .int x2]) (am_dg dkX12_caught (i := 18) rfl) rfl ?_
    refine aq_iinc (v := (1 : Int32)) (L1 := [.ref 82, .int (x1 ||| (q3.1 <<< (x2 &&& 31))), .int (x2 + (1 : Int32))]) (am_dg dkX12_caught (i := 19) rfl) rfl (by decide) rfl ?_
    refine aq_goto (t := 4) (am_dg dkX12_caught (i := 20) rfl) rfl ?_
    exact ih _ _ _ _ h
set_option maxRecDepth 20000 in
theorem T_X12_caught_82 {sc : Option (Nat × (Nat → Int32))} {RF : Nat → Nat → Option Nat} {d : Nat} (hR : am_RFok RF) (hd : 2 ≤ d) {s : am_S} {r : Int32 × am_S} (h : F_X12_caught_82 s = some r) : am_Q sc d mX12_caught (0, am_L0 mX12_caught [.ref 82], [], am_hp RF s) (.int r.1, am_hp RF r.2) := by
  obtain ⟨e, rfl⟩ : ∃ e, d = e + 1 := ⟨d - 1, by omega⟩
  unfold F_X12_caught_82 at h
  show am_Q _ _ _ (0, [.ref 82, .null, .null], [], _) _
  refine aq_iconst (v := (0 : Int32)) (am_dg dkX12_caught (i := 0) rfl) (by decide) ?_
  refine aq_istore_n (L1 := [.ref 82, .int (0 : Int32), .null]) (am_dg dkX12_caught (i := 1) rfl) rfl ?_
  refine aq_iconst (v := (0 : Int32)) (am_dg dkX12_caught (i := 2) rfl) (by decide) ?_
  refine aq_istore_n (L1 := [.ref 82, .int (0 : Int32), .int (0 : Int32)]) (am_dg dkX12_caught (i := 3) rfl) rfl ?_
  exact T_X12_caught_82_b4 hR (by omega) _ _ _ _ _ h
set_option maxRecDepth 20000 in
theorem T_X12_state_82 {sc : Option (Nat × (Nat → Int32))} {RF : Nat → Nat → Option Nat} {d : Nat} (hR : am_RFok RF) (hd : 3 ≤ d) {a1 : Int32} {s : am_S} {r : Int32 × am_S} (h : F_X12_state_82 a1 s = some r) : am_Q sc d mX12_state (0, am_L0 mX12_state [.ref 82, .int a1], [], am_hp RF s) (.int r.1, am_hp RF r.2) := by
  obtain ⟨e, rfl⟩ : ∃ e, d = e + 1 := ⟨d - 1, by omega⟩
  unfold F_X12_state_82 at h
  show am_Q _ _ _ (0, [.ref 82, .int a1], [], _) _
  refine aq_iload_n (am_dg dkX12_state (i := 0) rfl) rfl ?_
  by_cases hc1 : a1 = (0 : Int32)
  · rw [if_pos hc1] at h
    refine aq_tsw (t := 40) (am_dg dkX12_state (i := 1) rfl) (by rw [hc1]; rfl) ?_
    refine aq_aload_n (am_dg dkX12_state (i := 2) rfl) rfl ?_
    refine aq_getR (am_dg dkX12_state (i := 3) rfl) gk_12_7_82 (rf_82_0 hR) ?_
    refine aq_iconst (v := (3 : Int32)) (am_dg dkX12_state (i := 4) rfl) (by decide) ?_
    obtain ⟨hg2, h⟩ := am_guard h
    refine aq_iald (am_dg dkX12_state (i := 5) rfl) sh_83 hg2 ?_
    obtain rfl := Option.some.inj h
    exact aq_ireturn (am_dg dkX12_state (i := 6) rfl) rfl (Or.inl rfl) rfl
  rw [if_neg hc1] at h
  by_cases hc3 : a1 = (1 : Int32)
  · rw [if_pos hc3] at h
    refine aq_tsw (t := 47) (am_dg dkX12_state (i := 1) rfl) (by rw [hc3]; rfl) ?_
    refine aq_aload_n (am_dg dkX12_state (i := 7) rfl) rfl ?_
    refine aq_getR (am_dg dkX12_state (i := 8) rfl) gk_12_7_82 (rf_82_0 hR) ?_
    refine aq_iconst (v := (2 : Int32)) (am_dg dkX12_state (i := 9) rfl) (by decide) ?_
    obtain ⟨hg4, h⟩ := am_guard h
    refine aq_iald (am_dg dkX12_state (i := 10) rfl) sh_83 hg4 ?_
    obtain rfl := Option.some.inj h
    exact aq_ireturn (am_dg dkX12_state (i := 11) rfl) rfl (Or.inl rfl) rfl
  rw [if_neg hc3] at h
  by_cases hc5 : a1 = (2 : Int32)
  · rw [if_pos hc5] at h
    refine aq_tsw (t := 54) (am_dg dkX12_state (i := 1) rfl) (by rw [hc5]; rfl) ?_
    refine aq_aload_n (am_dg dkX12_state (i := 12) rfl) rfl ?_
    refine aq_getR (am_dg dkX12_state (i := 13) rfl) gk_12_7_82 (rf_82_0 hR) ?_
    refine aq_iconst (v := (4 : Int32)) (am_dg dkX12_state (i := 14) rfl) (by decide) ?_
    obtain ⟨hg6, h⟩ := am_guard h
    refine aq_iald (am_dg dkX12_state (i := 15) rfl) sh_83 hg6 ?_
    obtain rfl := Option.some.inj h
    exact aq_ireturn (am_dg dkX12_state (i := 16) rfl) rfl (Or.inl rfl) rfl
  rw [if_neg hc5] at h
  by_cases hc7 : a1 = (3 : Int32)
  · rw [if_pos hc7] at h
    refine aq_tsw (t := 61) (am_dg dkX12_state (i := 1) rfl) (by rw [hc7]; rfl) ?_
    refine aq_aload_n (am_dg dkX12_state (i := 17) rfl) rfl ?_
    obtain ⟨q8, hq9, h⟩ := am_bnd h
    refine aq_virt (a := [.ref 82]) (S1 := []) (v1 := .int q8.1) (S2 := [.int q8.1]) (am_dg dkX12_state (i := 18) rfl) cv_12_118_12 (am_cls_c sh_82 (by decide)) rfl rfl rfl (Nat.le_of_ble_eq_true rfl) (Nat.le_of_ble_eq_true rfl) (T_X12_isOver_82 hR (by omega) hq9) rfl ?_
    by_cases hc10 : q8.1 = (0 : Int32)
    · rw [if_pos hc10] at h
      refine aq_ifT (t := 72) (am_dg dkX12_state (i := 19) rfl) rfl (decide_eq_true hc10) ?_
      refine aq_iconst (v := (0 : Int32)) (am_dg dkX12_state (i := 22) rfl) (by decide) ?_
      obtain rfl := Option.some.inj h
      exact aq_ireturn (am_dg dkX12_state (i := 23) rfl) rfl (Or.inl rfl) rfl
    · rw [if_neg hc10] at h
      refine aq_ifF (t := 72) (am_dg dkX12_state (i := 19) rfl) rfl (decide_eq_false hc10) ?_
      refine aq_iconst (v := (1 : Int32)) (am_dg dkX12_state (i := 20) rfl) (by decide) ?_
      refine aq_goto (t := 73) (am_dg dkX12_state (i := 21) rfl) rfl ?_
      obtain rfl := Option.some.inj h
      exact aq_ireturn (am_dg dkX12_state (i := 23) rfl) rfl (Or.inl rfl) rfl
  rw [if_neg hc7] at h
  by_cases hc11 : a1 = (4 : Int32)
  · rw [if_pos hc11] at h
    refine aq_tsw (t := 74) (am_dg dkX12_state (i := 1) rfl) (by rw [hc11]; rfl) ?_
    refine aq_aload_n (am_dg dkX12_state (i := 24) rfl) rfl ?_
    obtain ⟨q12, hq13, h⟩ := am_bnd h
    refine aq_virt (a := [.ref 82]) (S1 := []) (v1 := .int q12.1) (S2 := [.int q12.1]) (am_dg dkX12_state (i := 25) rfl) cv_12_122_12 (am_cls_c sh_82 (by decide)) rfl rfl rfl (Nat.le_of_ble_eq_true rfl) (Nat.le_of_ble_eq_true rfl) (T_X12_caught_82 hR (by omega) hq13) rfl ?_
    obtain rfl := Option.some.inj h
    exact aq_ireturn (am_dg dkX12_state (i := 26) rfl) rfl (Or.inl rfl) rfl
  rw [if_neg hc11] at h
  by_cases hc14 : a1 = (5 : Int32)
  · rw [if_pos hc14] at h
    refine aq_tsw (t := 79) (am_dg dkX12_state (i := 1) rfl) (by rw [hc14]; rfl) ?_
    refine aq_aload_n (am_dg dkX12_state (i := 27) rfl) rfl ?_
    refine aq_getR (am_dg dkX12_state (i := 28) rfl) gk_12_7_82 (rf_82_0 hR) ?_
    refine aq_iconst (v := (5 : Int32)) (am_dg dkX12_state (i := 29) rfl) (by decide) ?_
    obtain ⟨hg15, h⟩ := am_guard h
    refine aq_iald (am_dg dkX12_state (i := 30) rfl) sh_83 hg15 ?_
    obtain rfl := Option.some.inj h
    exact aq_ireturn (am_dg dkX12_state (i := 31) rfl) rfl (Or.inl rfl) rfl
  rw [if_neg hc14] at h
  refine aq_tsw (t := 86) (am_dg dkX12_state (i := 1) rfl) (am_tsw_d (by have := lv_neT hc1 (show ((0 : Int32)).toInt = 0 by decide); have := lv_neT hc3 (show ((1 : Int32)).toInt = 1 by decide); have := lv_neT hc5 (show ((2 : Int32)).toInt = 2 by decide); have := lv_neT hc7 (show ((3 : Int32)).toInt = 3 by decide); have := lv_neT hc11 (show ((4 : Int32)).toInt = 4 by decide); have := lv_neT hc14 (show ((5 : Int32)).toInt = 5 by decide); omega) rfl) ?_
  refine aq_iconst (v := (-1 : Int32)) (am_dg dkX12_state (i := 32) rfl) (by decide) ?_
  obtain rfl := Option.some.inj h
  exact aq_ireturn (am_dg dkX12_state (i := 33) rfl) rfl (Or.inl rfl) rfl
