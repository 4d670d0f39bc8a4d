/-! LAYER 1: the runs (written by wip/whole/gen_f.py) -/
set_option maxRecDepth 20000 in
theorem T_X3_bestPlace_50 {sc : Option (Nat × (Nat → Int32))} {RF : Nat → Nat → Option Nat} {d : Nat} (hR : am_RFok RF) (hd : 6 ≤ d) {a1 : Int32} {s : am_S} {r : Int32 × am_S} (h : F_X3_bestPlace_50 a1 s = some r) : am_Q sc d mX3_bestPlace (0, am_L0 mX3_bestPlace [.ref 50, .int a1], [], am_hp RF s) (.int r.1, am_hp RF r.2) := by
  obtain ⟨e, rfl⟩ : ∃ e, d = e + 1 := ⟨d - 1, by omega⟩
  unfold F_X3_bestPlace_50 at h
  show am_Q _ _ _ (0, [.ref 50, .int a1, .null, .null, .null, .null, .null], [], _) _
  refine aq_aload_n (am_dg dkX3_bestPlace (i := 0) rfl) rfl ?_
  refine aq_getR (am_dg dkX3_bestPlace (i := 1) rfl) gk_3_37_50 (rf_50_0 hR) ?_
  refine aq_getR (am_dg dkX3_bestPlace (i := 2) rfl) gk_3_80_8 (rf_8_12 hR) ?_
  refine aq_iload_n (am_dg dkX3_bestPlace (i := 3) rfl) rfl ?_
  obtain ⟨hg1, h⟩ := am_guard h
  refine aq_iald (am_dg dkX3_bestPlace (i := 4) rfl) sh_13 hg1 ?_
  refine aq_istore_n (L1 := [.ref 50, .int a1, .int (s.1 13 a1.toNatClampNeg), .null, .null, .null, .null]) (am_dg dkX3_bestPlace (i := 5) rfl) rfl ?_
  refine aq_iconst (v := (0 : Int32)) (am_dg dkX3_bestPlace (i := 6) rfl) (by decide) ?_
  refine aq_istore_n (L1 := [.ref 50, .int a1, .int (s.1 13 a1.toNatClampNeg), .int (0 : Int32), .null, .null, .null]) (am_dg dkX3_bestPlace (i := 7) rfl) rfl ?_
  refine aq_iconst (v := (-1 : Int32)) (am_dg dkX3_bestPlace (i := 8) rfl) (by decide) ?_
  refine aq_istore (L1 := [.ref 50, .int a1, .int (s.1 13 a1.toNatClampNeg), .int (0 : Int32), .int (-1 : Int32), .null, .null]) (am_dg dkX3_bestPlace (i := 9) rfl) rfl ?_
  refine aq_iconst (v := (0 : Int32)) (am_dg dkX3_bestPlace (i := 10) rfl) (by decide) ?_
  refine aq_istore (L1 := [.ref 50, .int a1, .int (s.1 13 a1.toNatClampNeg), .int (0 : Int32), .int (-1 : Int32), .int (0 : Int32), .null]) (am_dg dkX3_bestPlace (i := 11) rfl) rfl ?_
  exact T_X3_bestPlace_50_b18 hR (by omega) _ _ _ _ _ _ _ _ _ h
set_option maxRecDepth 20000 in
theorem T_X11_placeFor_0 {sc : Option (Nat × (Nat → Int32))} {RF : Nat → Nat → Option Nat} {d : Nat} (hR : am_RFok RF) (hd : 7 ≤ d) {a1 : Int32} {s : am_S} {r : Int32 × am_S} (h : F_X11_placeFor_0 a1 s = some r) : am_Q sc d mX11_placeFor (0, am_L0 mX11_placeFor [.ref 0, .int a1], [], am_hp RF s) (.int r.1, am_hp RF r.2) := by
  obtain ⟨e, rfl⟩ : ∃ e, d = e + 1 := ⟨d - 1, by omega⟩
  unfold F_X11_placeFor_0 at h
  show am_Q _ _ _ (0, [.ref 0, .int a1], [], _) _
  refine aq_aload_n (am_dg dkX11_placeFor (i := 0) rfl) rfl ?_
  refine aq_getR (am_dg dkX11_placeFor (i := 1) rfl) gk_11_30_0 (rf_0_0 hR) ?_
  refine aq_iload_n (am_dg dkX11_placeFor (i := 2) rfl) rfl ?_
  obtain ⟨q1, hq2, h⟩ := am_bnd h
  refine aq_virt (a := [.ref 8, .int a1]) (S1 := []) (v1 := .int q1.1) (S2 := [.int q1.1]) (am_dg dkX11_placeFor (i := 3) rfl) cv_11_110_8 (am_cls_c sh_8 (by decide)) rfl rfl rfl (Nat.le_of_ble_eq_true rfl) (Nat.le_of_ble_eq_true rfl) (T_X8_has_8 hR (by omega) hq2) rfl ?_
  by_cases hc3 : q1.1 = (0 : Int32)
  · rw [if_pos hc3] at h
    refine aq_ifT (t := 22) (am_dg dkX11_placeFor (i := 4) rfl) rfl (decide_eq_true hc3) ?_
    refine aq_iconst (v := (-1 : Int32)) (am_dg dkX11_placeFor (i := 10) rfl) (by decide) ?_
    obtain rfl := Option.some.inj h
    exact aq_ireturn (am_dg dkX11_placeFor (i := 11) rfl) rfl (Or.inl rfl) rfl
  · rw [if_neg hc3] at h
    refine aq_ifF (t := 22) (am_dg dkX11_placeFor (i := 4) rfl) rfl (decide_eq_false hc3) ?_
    refine aq_aload_n (am_dg dkX11_placeFor (i := 5) rfl) rfl ?_
    refine aq_getR (am_dg dkX11_placeFor (i := 6) rfl) gk_11_55_0 (rf_0_4 hR) ?_
    refine aq_iload_n (am_dg dkX11_placeFor (i := 7) rfl) rfl ?_
    obtain ⟨q4, hq5, h⟩ := am_bnd h
    refine aq_virt (a := [.ref 50, .int a1]) (S1 := []) (v1 := .int q4.1) (S2 := [.int q4.1]) (am_dg dkX11_placeFor (i := 8) rfl) cv_11_224_3 (am_cls_c sh_50 (by decide)) rfl rfl rfl (Nat.le_of_ble_eq_true rfl) (Nat.le_of_ble_eq_true rfl) (T_X3_bestPlace_50 hR (by omega) hq5) rfl ?_
    refine aq_goto (t := 23) (am_dg dkX11_placeFor (i := 9) rfl) rfl ?_
    obtain rfl := Option.some.inj h
    exact aq_ireturn (am_dg dkX11_placeFor (i := 11) rfl) rfl (Or.inl rfl) rfl
set_option maxRecDepth 20000 in
theorem T_X12_placeFor_82 {sc : Option (Nat × (Nat → Int32))} {RF : Nat → Nat → Option Nat} {d : Nat} (hR : am_RFok RF) (hd : 10 ≤ d) {a1 : Int32} {s : am_S} {r : Int32 × am_S} (h : F_X12_placeFor_82 a1 s = some r) : am_Q sc d mX12_placeFor (0, am_L0 mX12_placeFor [.ref 82, .int a1], [], am_hp RF s) (.int r.1, am_hp RF r.2) := by
  obtain ⟨e, rfl⟩ : ∃ e, d = e + 1 := ⟨d - 1, by omega⟩
  unfold F_X12_placeFor_82 at h
  show am_Q _ _ _ (0, [.ref 82, .int a1], [], _) _
  refine aq_aload_n (am_dg dkX12_placeFor (i := 0) rfl) rfl ?_
  refine aq_iload_n (am_dg dkX12_placeFor (i := 1) rfl) rfl ?_
  obtain ⟨q1, hq2, h⟩ := am_bnd h
  refine aq_virt (a := [.ref 82, .int a1]) (S1 := []) (v1 := .int q1.1) (S2 := [.int q1.1]) (am_dg dkX12_placeFor (i := 2) rfl) cv_12_90_12 (am_cls_c sh_82 (by decide)) rfl rfl rfl (Nat.le_of_ble_eq_true rfl) (Nat.le_of_ble_eq_true rfl) (T_X12_isVoice_82 hR (by omega) hq2) rfl ?_
  by_cases hc3 : q1.1 = (0 : Int32)
  · rw [if_pos hc3] at h
    refine aq_ifT (t := 22) (am_dg dkX12_placeFor (i := 3) rfl) rfl (decide_eq_true hc3) ?_
    refine aq_iconst (v := (-1 : Int32)) (am_dg dkX12_placeFor (i := 11) rfl) (by decide) ?_
    obtain rfl := Option.some.inj h
    exact aq_ireturn (am_dg dkX12_placeFor (i := 12) rfl) rfl (Or.inl rfl) rfl
  · rw [if_neg hc3] at h
    refine aq_ifF (t := 22) (am_dg dkX12_placeFor (i := 3) rfl) rfl (decide_eq_false hc3) ?_
    refine aq_aload_n (am_dg dkX12_placeFor (i := 4) rfl) rfl ?_
    refine aq_iload_n (am_dg dkX12_placeFor (i := 5) rfl) rfl ?_
    refine aq_iconst (v := (3 : Int32)) (am_dg dkX12_placeFor (i := 6) rfl) (by decide) ?_
    obtain ⟨q4, hq5, h⟩ := am_bnd h
    refine aq_static (a := [.int a1, .int (3 : Int32)]) (S1 := [.ref 82]) (v1 := .int q4.1) (S2 := [.int q4.1, .ref 82]) (am_dg dkX12_placeFor (i := 7) rfl) ct_12_65 rfl rfl rfl (Nat.le_of_ble_eq_true rfl) (Nat.le_of_ble_eq_true rfl) (T_X12_at hR (by omega) hq5) rfl ?_
    refine aq_bipush (v := (15 : Int32)) (am_dg dkX12_placeFor (i := 8) rfl) (by decide) ?_
    obtain ⟨q6, hq7, h⟩ := am_bnd h
    refine aq_virt (a := [.ref 82, .int q4.1, .int (15 : Int32)]) (S1 := []) (v1 := .int q6.1) (S2 := [.int q6.1]) (am_dg dkX12_placeFor (i := 9) rfl) cv_12_174_12 (am_cls_c sh_82 (by decide)) rfl rfl rfl (Nat.le_of_ble_eq_true rfl) (Nat.le_of_ble_eq_true rfl) (T_X12_mostFor_82 hR (by omega) hq7) rfl ?_
    refine aq_goto (t := 23) (am_dg dkX12_placeFor (i := 10) rfl) rfl ?_
    obtain rfl := Option.some.inj h
    exact aq_ireturn (am_dg dkX12_placeFor (i := 12) rfl) rfl (Or.inl rfl) rfl
set_option maxRecDepth 20000 in
theorem T_X3_isQuarrel_50 {sc : Option (Nat × (Nat → Int32))} {RF : Nat → Nat → Option Nat} {d : Nat} (hR : am_RFok RF) (hd : 0 ≤ d) {a1 : Int32} {a2 : Int32} {s : am_S} {r : Int32 × am_S} (h : F_X3_isQuarrel_50 a1 a2 s = some r) : am_Q sc d mX3_isQuarrel (0, am_L0 mX3_isQuarrel [.ref 50, .int a1, .int a2], [], am_hp RF s) (.int r.1, am_hp RF r.2) := by
  unfold F_X3_isQuarrel_50 at h
  show am_Q _ _ _ (0, [.ref 50, .int a1, .int a2], [], _) _
  refine aq_aload_n (am_dg dkX3_isQuarrel (i := 0) rfl) rfl ?_
  refine aq_getR (am_dg dkX3_isQuarrel (i := 1) rfl) gk_3_37_50 (rf_50_0 hR) ?_
  refine aq_getR (am_dg dkX3_isQuarrel (i := 2) rfl) gk_3_83_8 (rf_8_10 hR) ?_
  refine aq_iload_n (am_dg dkX3_isQuarrel (i := 3) rfl) rfl ?_
  obtain ⟨hg1, h⟩ := am_guard h
  refine aq_iald (am_dg dkX3_isQuarrel (i := 4) rfl) sh_11 hg1 ?_
  refine aq_aload_n (am_dg dkX3_isQuarrel (i := 5) rfl) rfl ?_
  refine aq_getR (am_dg dkX3_isQuarrel (i := 6) rfl) gk_3_37_50 (rf_50_0 hR) ?_
  refine aq_getR (am_dg dkX3_isQuarrel (i := 7) rfl) gk_3_83_8 (rf_8_10 hR) ?_
  refine aq_iload_n (am_dg dkX3_isQuarrel (i := 8) rfl) rfl ?_
  obtain ⟨hg2, h⟩ := am_guard h
  refine aq_iald (am_dg dkX3_isQuarrel (i := 9) rfl) sh_11 hg2 ?_
  refine aq_isub (am_dg dkX3_isQuarrel (i := 10) rfl) ?_
  refine aq_abs (am_dg dkX3_isQuarrel (i := 11) rfl) mk_3_86 (Nat.le_of_ble_eq_true rfl) ?_
  refine aq_iconst (v := (1 : Int32)) (am_dg dkX3_isQuarrel (i := 12) rfl) (by decide) ?_
  by_cases hc3 : (1 : Int32) < (if 0 ≤ ((s.1 11 a1.toNatClampNeg) - (s.1 11 a2.toNatClampNeg)) then ((s.1 11 a1.toNatClampNeg) - (s.1 11 a2.toNatClampNeg)) else 0 - ((s.1 11 a1.toNatClampNeg) - (s.1 11 a2.toNatClampNeg)))
  · rw [if_pos hc3] at h
    refine aq_icT (t := 30) (am_dg dkX3_isQuarrel (i := 13) rfl) rfl (decide_eq_true hc3) ?_
    refine aq_iconst (v := (0 : Int32)) (am_dg dkX3_isQuarrel (i := 16) rfl) (by decide) ?_
    obtain rfl := Option.some.inj h
    exact aq_ireturn (am_dg dkX3_isQuarrel (i := 17) rfl) rfl (Or.inr (Or.inl rfl)) rfl
  · rw [if_neg hc3] at h
    refine aq_icF (t := 30) (am_dg dkX3_isQuarrel (i := 13) rfl) rfl (decide_eq_false hc3) ?_
    refine aq_iconst (v := (1 : Int32)) (am_dg dkX3_isQuarrel (i := 14) rfl) (by decide) ?_
    refine aq_goto (t := 31) (am_dg dkX3_isQuarrel (i := 15) rfl) rfl ?_
    obtain rfl := Option.some.inj h
    exact aq_ireturn (am_dg dkX3_isQuarrel (i := 17) rfl) rfl (Or.inr (Or.inl rfl)) rfl
set_option maxRecDepth 20000 in
theorem T_X3_quarrellingPairs_50_b34 {sc : Option (Nat × (Nat → Int32))} {RF : Nat → Nat → Option Nat} {d : Nat} (hR : am_RFok RF) (hd : 1 ≤ d) {k4 : Int32 → Int32 → am_S → Option (Int32 × am_S)} (hk4 : ∀ (x1 : Int32) (x2 : Int32) (w3 : Value) (s2 : am_S) (r2 : Int32 × am_S), k4 x1 x2 s2 = some r2 → am_Q sc d mX3_quarrellingPairs (4, [.ref 50, .int x1, .int x2, w3], [], am_hp RF s2) (.int r2.1, am_hp RF r2.2)) {k17 : Int32 → Int32 → Int32 → am_S → Option (Int32 × am_S)} (hk17 : ∀ (x1 : Int32) (x2 : Int32) (x3 : Int32) (s2 : am_S) (r2 : Int32 × am_S), k17 x1 x2 x3 s2 = some r2 → am_Q sc d mX3_quarrellingPairs (17, [.ref 50, .int x1, .int x2, .int x3], [], am_hp RF s2) (.int r2.1, am_hp RF r2.2)) : ∀ (x1 : Int32) (x2 : Int32) (x3 : Int32) (s : am_S) (r : Int32 × am_S), F_X3_quarrellingPairs_50_b34 k4 k17 x1 x2 x3 s = some r → am_Q sc d mX3_quarrellingPairs (34, [.ref 50, .int x1, .int x2, .int x3], [], am_hp RF s) (.int r.1, am_hp RF r.2) := by
  obtain ⟨e, rfl⟩ : ∃ e, d = e + 1 := ⟨d - 1, by omega⟩
  intro x1 x2 x3 s r h
  unfold F_X3_quarrellingPairs_50_b34 at h
  refine aq_iinc (v := (1 : Int32)) (L1 := [.ref 50, .int x1, .int x2, .int (x3 + (1 : Int32))]) (am_dg dkX3_quarrellingPairs (i := 20) rfl) rfl (by decide) rfl ?_
  refine aq_goto (t := 17) (am_dg dkX3_quarrellingPairs (i := 21) rfl) rfl ?_
  exact hk17 _ _ _ _ _ h
set_option maxRecDepth 20000 in
theorem T_X3_quarrellingPairs_50_b17 {sc : Option (Nat × (Nat → Int32))} {RF : Nat → Nat → Option Nat} {d : Nat} (hR : am_RFok RF) (hd : 1 ≤ d) {k4 : Int32 → Int32 → am_S → Option (Int32 × am_S)} (hk4 : ∀ (x1 : Int32) (x2 : Int32) (w3 : Value) (s2 : am_S) (r2 : Int32 × am_S), k4 x1 x2 s2 = some r2 → am_Q sc d mX3_quarrellingPairs (4, [.ref 50, .int x1, .int x2, w3], [], am_hp RF s2) (.int r2.1, am_hp RF r2.2)) : ∀ (n : Nat) (x1 : Int32) (x2 : Int32) (x3 : Int32) (s : am_S) (r : Int32 × am_S), F_X3_quarrellingPairs_50_b17 k4 n x1 x2 x3 s = some r → am_Q sc d mX3_quarrellingPairs (17, [.ref 50, .int x1, .int x2, .int x3], [], am_hp RF s) (.int r.1, am_hp RF r.2) := by
  obtain ⟨e, rfl⟩ : ∃ e, d = e + 1 := ⟨d - 1, by omega⟩
  intro n
  induction n with
  | zero => intro x1 x2 x3 s r h; rw [F_X3_quarrellingPairs_50_b17] at h; cases h
  | succ n ih =>
  intro x1 x2 x3 s r h
  rw [F_X3_quarrellingPairs_50_b17] at h
  refine aq_iload_n (am_dg dkX3_quarrellingPairs (i := 11) rfl) rfl ?_
  refine aq_iload_n (am_dg dkX3_quarrellingPairs (i := 12) rfl) rfl ?_
  by_cases hc1 : x2 ≤ x3
  · rw [if_pos hc1] at h
    refine aq_icT (t := 40) (am_dg dkX3_quarrellingPairs (i := 13) rfl) rfl (decide_eq_true hc1) ?_
    refine aq_iinc (v := (1 : Int32)) (L1 := [.ref 50, .int x1, .int (x2 + (1 : Int32)), .int x3]) (am_dg dkX3_quarrellingPairs (i := 22) rfl) rfl (by decide) rfl ?_
    refine aq_goto (t := 4) (am_dg dkX3_quarrellingPairs (i := 23) rfl) rfl ?_
    exact hk4 _ _ _ _ _ h
  · rw [if_neg hc1] at h
    refine aq_icF (t := 40) (am_dg dkX3_quarrellingPairs (i := 13) rfl) rfl (decide_eq_false hc1) ?_
    refine aq_aload_n (am_dg dkX3_quarrellingPairs (i := 14) rfl) rfl ?_
    refine aq_iload_n (am_dg dkX3_quarrellingPairs (i := 15) rfl) rfl ?_
    refine aq_iload_n (am_dg dkX3_quarrellingPairs (i := 16) rfl) rfl ?_
    obtain ⟨q2, hq3, h⟩ := am_bnd h
    refine aq_virt (a := [.ref 50, .int x2, .int x3]) (S1 := []) (v1 := .int q2.1) (S2 := [.int q2.1]) (am_dg dkX3_quarrellingPairs (i := 17) rfl) cv_3_94_3 (am_cls_c sh_50 (by decide)) rfl rfl rfl (Nat.le_of_ble_eq_true rfl) (Nat.le_of_ble_eq_true rfl) (T_X3_isQuarrel_50 hR (by omega) hq3) rfl ?_
    by_cases hc4 : q2.1 = (0 : Int32)
    · rw [if_pos hc4] at h
      refine aq_ifT (t := 34) (am_dg dkX3_quarrellingPairs (i := 18) rfl) rfl (decide_eq_true hc4) ?_
      exact T_X3_quarrellingPairs_50_b34 hR (by omega) hk4 ih _ _ _ _ _ h
    · rw [if_neg hc4] at h
      refine aq_ifF (t := 34) (am_dg dkX3_quarrellingPairs (i := 18) rfl) rfl (decide_eq_false hc4) ?_
      refine aq_iinc (v := (1 : Int32)) (L1 := [.ref 50, .int (x1 + (1 : Int32)), .int x2, .int x3]) (am_dg dkX3_quarrellingPairs (i := 19) rfl) rfl (by decide) rfl ?_
      exact T_X3_quarrellingPairs_50_b34 hR (by omega) hk4 ih _ _ _ _ _ h
set_option maxRecDepth 20000 in
theorem T_X3_quarrellingPairs_50_b4 {sc : Option (Nat × (Nat → Int32))} {RF : Nat → Nat → Option Nat} {d : Nat} (hR : am_RFok RF) (hd : 1 ≤ d) : ∀ (n : Nat) (x1 : Int32) (x2 : Int32) (w3 : Value) (s : am_S) (r : Int32 × am_S), F_X3_quarrellingPairs_50_b4 n x1 x2 s = some r → am_Q sc d mX3_quarrellingPairs (4, [.ref 50, .int x1, .int x2, w3], [], am_hp RF s) (.int r.1, am_hp RF r.2) := by
  obtain ⟨e, rfl⟩ : ∃ e, d = e + 1 := ⟨d - 1, by omega⟩
  intro n
  induction n with
  | zero => intro x1 x2 w3 s r h; rw [F_X3_quarrellingPairs_50_b4] at h; cases h
  | succ n ih =>
  intro x1 x2 w3 s r h
  rw [F_X3_quarrellingPairs_50_b4] at h
  refine aq_iload_n (am_dg dkX3_quarrellingPairs (i := 4) rfl) rfl ?_
  refine aq_aload_n (am_dg dkX3_quarrellingPairs (i := 5) rfl) rfl ?_
  refine aq_getR (am_dg dkX3_quarrellingPairs (i := 6) rfl) gk_3_37_50 (rf_50_0 hR) ?_
  refine aq_getI (am_dg dkX3_quarrellingPairs (i := 7) rfl) gk_3_91_8 (by decide) ?_
  by_cases hc1 : (s.1 8 5) ≤ x2
  · rw [if_pos hc1] at h
    refine aq_icT (t := 46) (am_dg dkX3_quarrellingPairs (i := 8) rfl) rfl (decide_eq_true hc1) ?_
    refine aq_iload_n (am_dg dkX3_quarrellingPairs (i := 24) rfl) rfl ?_
    obtain rfl := Option.some.inj h
    exact aq_ireturn (am_dg dkX3_quarrellingPairs (i := 25) rfl) rfl (Or.inl rfl) rfl
  · rw [if_neg hc1] at h
    refine aq_icF (t := 46) (am_dg dkX3_quarrellingPairs (i := 8) rfl) rfl (decide_eq_false hc1) ?_
    refine aq_iconst (v := (0 : Int32)) (am_dg dkX3_quarrellingPairs (i := 9) rfl) (by decide) ?_
    refine aq_istore_n (L1 := [.ref 50, .int x1, .int x2, .int (0 : Int32)]) (am_dg dkX3_quarrellingPairs (i := 10) rfl) rfl ?_
    exact T_X3_quarrellingPairs_50_b17 hR (by omega) ih _ _ _ _ _ _ h
set_option maxRecDepth 20000 in
theorem T_X3_quarrellingPairs_50 {sc : Option (Nat × (Nat → Int32))} {RF : Nat → Nat → Option Nat} {d : Nat} (hR : am_RFok RF) (hd : 1 ≤ d) {s : am_S} {r : Int32 × am_S} (h : F_X3_quarrellingPairs_50 s = some r) : am_Q sc d mX3_quarrellingPairs (0, am_L0 mX3_quarrellingPairs [.ref 50], [], am_hp RF s) (.int r.1, am_hp RF r.2) := by
  obtain ⟨e, rfl⟩ : ∃ e, d = e + 1 := ⟨d - 1, by omega⟩
  unfold F_X3_quarrellingPairs_50 at h
  show am_Q _ _ _ (0, [.ref 50, .null, .null, .null], [], _) _
  refine aq_iconst (v := (0 : Int32)) (am_dg dkX3_quarrellingPairs (i := 0) rfl) (by decide) ?_
  refine aq_istore_n (L1 := [.ref 50, .int (0 : Int32), .null, .null]) (am_dg dkX3_quarrellingPairs (i := 1) rfl) rfl ?_
  refine aq_iconst (v := (0 : Int32)) (am_dg dkX3_quarrellingPairs (i := 2) rfl) (by decide) ?_
  refine aq_istore_n (L1 := [.ref 50, .int (0 : Int32), .int (0 : Int32), .null]) (am_dg dkX3_quarrellingPairs (i := 3) rfl) rfl ?_
  exact T_X3_quarrellingPairs_50_b4 hR (by omega) _ _ _ _ _ _ h
set_option maxRecDepth 20000 in
theorem T_X11_quarrels_0 {sc : Option (Nat × (Nat → Int32))} {RF : Nat → Nat → Option Nat} {d : Nat} (hR : am_RFok RF) (hd : 2 ≤ d) {s : am_S} {r : Int32 × am_S} (h : F_X11_quarrels_0 s = some r) : am_Q sc d mX11_quarrels (0, am_L0 mX11_quarrels [.ref 0], [], am_hp RF s) (.int r.1, am_hp RF r.2) := by
  obtain ⟨e, rfl⟩ : ∃ e, d = e + 1 := ⟨d - 1, by omega⟩
  unfold F_X11_quarrels_0 at h
  show am_Q _ _ _ (0, [.ref 0], [], _) _
  refine aq_aload_n (am_dg dkX11_quarrels (i := 0) rfl) rfl ?_
  refine aq_getR (am_dg dkX11_quarrels (i := 1) rfl) gk_11_55_0 (rf_0_4 hR) ?_
  obtain ⟨q1, hq2, h⟩ := am_bnd h
  refine aq_virt (a := [.ref 50]) (S1 := []) (v1 := .int q1.1) (S2 := [.int q1.1]) (am_dg dkX11_quarrels (i := 2) rfl) cv_11_227_3 (am_cls_c sh_50 (by decide)) rfl rfl rfl (Nat.le_of_ble_eq_true rfl) (Nat.le_of_ble_eq_true rfl) (T_X3_quarrellingPairs_50 hR (by omega) hq2) rfl ?_
  obtain rfl := Option.some.inj h
  exact aq_ireturn (am_dg dkX11_quarrels (i := 3) rfl) rfl (Or.inl rfl) rfl
set_option maxRecDepth 20000 in
theorem T_X12_areAtOdds_82 {sc : Option (Nat × (Nat → Int32))} {RF : Nat → Nat → Option Nat} {d : Nat} (hR : am_RFok RF) (hd : 2 ≤ d) {a1 : Int32} {a2 : Int32} {s : am_S} {r : Int32 × am_S} (h : F_X12_areAtOdds_82 a1 a2 s = some r) : am_Q sc d mX12_areAtOdds (0, am_L0 mX12_areAtOdds [.ref 82, .int a1, .int a2], [], am_hp RF s) (.int r.1, am_hp RF r.2) := by
  obtain ⟨e, rfl⟩ : ∃ e, d = e + 1 := ⟨d - 1, by omega⟩
  unfold F_X12_areAtOdds_82 at h
  show am_Q _ _ _ (0, [.ref 82, .int a1, .int a2], [], _) _
  refine aq_aload_n (am_dg dkX12_areAtOdds (i := 0) rfl) rfl ?_
  refine aq_iload_n (am_dg dkX12_areAtOdds (i := 1) rfl) rfl ?_
  refine aq_iconst (v := (1 : Int32)) (am_dg dkX12_areAtOdds (i := 2) rfl) (by decide) ?_
  obtain ⟨q1, hq2, h⟩ := am_bnd h
  refine aq_virt (a := [.ref 82, .int a1, .int (1 : Int32)]) (S1 := []) (v1 := .int q1.1) (S2 := [.int q1.1]) (am_dg dkX12_areAtOdds (i := 3) rfl) cv_12_83_12 (am_cls_c sh_82 (by decide)) rfl rfl rfl (Nat.le_of_ble_eq_true rfl) (Nat.le_of_ble_eq_true rfl) (T_X12_its_82 hR (by omega) hq2) rfl ?_
  refine aq_aload_n (am_dg dkX12_areAtOdds (i := 4) rfl) rfl ?_
  refine aq_iload_n (am_dg dkX12_areAtOdds (i := 5) rfl) rfl ?_
  refine aq_iconst (v := (1 : Int32)) (am_dg dkX12_areAtOdds (i := 6) rfl) (by decide) ?_
  obtain ⟨q3, hq4, h⟩ := am_bnd h
  refine aq_virt (a := [.ref 82, .int a2, .int (1 : Int32)]) (S1 := [.int q1.1]) (v1 := .int q3.1) (S2 := [.int q3.1, .int q1.1]) (am_dg dkX12_areAtOdds (i := 7) rfl) cv_12_83_12 (am_cls_c sh_82 (by decide)) rfl rfl rfl (Nat.le_of_ble_eq_true rfl) (Nat.le_of_ble_eq_true rfl) (T_X12_its_82 hR (by omega) hq4) rfl ?_
  refine aq_isub (am_dg dkX12_areAtOdds (i := 8) rfl) ?_
  refine aq_i2l (am_dg dkX12_areAtOdds (i := 9) rfl) ?_
  refine aq_ldc2 (am_dg dkX12_areAtOdds (i := 10) rfl) cl_12_142 ?_
  refine aq_lconst (v := (1 : Int64)) (am_dg dkX12_areAtOdds (i := 11) rfl) (by decide) ?_
  obtain ⟨q5, hq6, h⟩ := am_bnd h
  refine aq_static (a := [.long (q1.1 - q3.1).toInt64, .long (-1 : Int64), .long (1 : Int64)]) (S1 := []) (v1 := .int q5.1) (S2 := [.int q5.1]) (am_dg dkX12_areAtOdds (i := 12) rfl) ct_12_61 rfl rfl rfl (Nat.le_of_ble_eq_true rfl) (Nat.le_of_ble_eq_true rfl) (T_X12_in hR (by omega) hq6) rfl ?_
  obtain ⟨hg7, h⟩ := am_guard h
  obtain rfl := Option.some.inj h
  exact aq_ireturn (am_dg dkX12_areAtOdds (i := 13) rfl) rfl (Or.inr (Or.inl rfl)) (am_nz hg7)
set_option maxRecDepth 20000 in
theorem T_X12_quarrels_82_b36 {sc : Option (Nat × (Nat → Int32))} {RF : Nat → Nat → Option Nat} {d : Nat} (hR : am_RFok RF) (hd : 3 ≤ d) {k4 : Int32 → Int32 → am_S → Option (Int32 × am_S)} (hk4 : ∀ (x1 : Int32) (x2 : Int32) (w3 : Value) (s2 : am_S) (r2 : Int32 × am_S), k4 x1 x2 s2 = some r2 → am_Q sc d mX12_quarrels (4, [.ref 82, .int x1, .int x2, w3], [], am_hp RF s2) (.int r2.1, am_hp RF r2.2)) {k16 : Int32 → Int32 → Int32 → am_S → Option (Int32 × am_S)} (hk16 : ∀ (x1 : Int32) (x2 : Int32) (x3 : Int32) (s2 : am_S) (r2 : Int32 × am_S), k16 x1 x2 x3 s2 = some r2 → am_Q sc d mX12_quarrels (16, [.ref 82, .int x1, .int x2, .int x3], [], am_hp RF s2) (.int r2.1, am_hp RF r2.2)) : ∀ (x2 : Int32) (x3 : Int32) (y0 : Int32) (y1 : Int32) (w1 : Value) (s : am_S) (r : Int32 × am_S), F_X12_quarrels_82_b36 k4 k16 x2 x3 y0 y1 s = some r → am_Q sc d mX12_quarrels (36, [.ref 82, w1, .int x2, .int x3], [.int y0, .int y1], am_hp RF s) (.int r.1, am_hp RF r.2) := by
  obtain ⟨e, rfl⟩ : ∃ e, d = e + 1 := ⟨d - 1, by omega⟩
  intro x2 x3 y0 y1 w1 s r h
  unfold F_X12_quarrels_82_b36 at h
  refine aq_iadd (am_dg dkX12_quarrels (i := 24) rfl) ?_
  refine aq_istore_n (L1 := [.ref 82, .int (y1 + y0), .int x2, .int x3]) (am_dg dkX12_quarrels (i := 25) rfl) rfl ?_
  refine aq_iinc (v := (1 : Int32)) (L1 := [.ref 82, .int (y1 + y0), .int x2, .int (x3 + (1 : Int32))]) (am_dg dkX12_quarrels (i := 26) rfl) rfl (by decide) rfl ?_
  refine aq_goto (t := 16) (am_dg dkX12_quarrels (i := 27) rfl) rfl ?_
  exact hk16 _ _ _ _ _ h
set_option maxRecDepth 20000 in
theorem T_X12_quarrels_82_b16 {sc : Option (Nat × (Nat → Int32))} {RF : Nat → Nat → Option Nat} {d : Nat} (hR : am_RFok RF) (hd : 3 ≤ d) {k4 : Int32 → Int32 → am_S → Option (Int32 × am_S)} (hk4 : ∀ (x1 : Int32) (x2 : Int32) (w3 : Value) (s2 : am_S) (r2 : Int32 × am_S), k4 x1 x2 s2 = some r2 → am_Q sc d mX12_quarrels (4, [.ref 82, .int x1, .int x2, w3], [], am_hp RF s2) (.int r2.1, am_hp RF r2.2)) : ∀ (n : Nat) (x1 : Int32) (x2 : Int32) (x3 : Int32) (s : am_S) (r : Int32 × am_S), F_X12_quarrels_82_b16 k4 n x1 x2 x3 s = some r → am_Q sc d mX12_quarrels (16, [.ref 82, .int x1, .int x2, .int x3], [], am_hp RF s) (.int r.1, am_hp RF r.2) := by
  obtain ⟨e, rfl⟩ : ∃ e, d = e + 1 := ⟨d - 1, by omega⟩
  intro n
  induction n with
  | zero => intro x1 x2 x3 s r h; rw [F_X12_quarrels_82_b16] at h; cases h
  | succ n ih =>
  intro x1 x2 x3 s r h
  rw [F_X12_quarrels_82_b16] at h
  refine aq_iload_n (am_dg dkX12_quarrels (i := 12) rfl) rfl ?_
  refine aq_iload_n (am_dg dkX12_quarrels (i := 13) rfl) rfl ?_
  by_cases hc1 : x2 ≤ x3
  · rw [if_pos hc1] at h
    refine aq_icT (t := 44) (am_dg dkX12_quarrels (i := 14) rfl) rfl (decide_eq_true hc1) ?_
    refine aq_iinc (v := (1 : Int32)) (L1 := [.ref 82, .int x1, .int (x2 + (1 : Int32)), .int x3]) (am_dg dkX12_quarrels (i := 28) rfl) rfl (by decide) rfl ?_
    refine aq_goto (t := 4) (am_dg dkX12_quarrels (i := 29) rfl) rfl ?_
    exact hk4 _ _ _ _ _ h
  · rw [if_neg hc1] at h
    refine aq_icF (t := 44) (am_dg dkX12_quarrels (i := 14) rfl) rfl (decide_eq_false hc1) ?_
    refine aq_iload_n (am_dg dkX12_quarrels (i := 15) rfl) rfl ?_
    refine aq_aload_n (am_dg dkX12_quarrels (i := 16) rfl) rfl ?_
    refine aq_iload_n (am_dg dkX12_quarrels (i := 17) rfl) rfl ?_
    refine aq_iload_n (am_dg dkX12_quarrels (i := 18) rfl) rfl ?_
    obtain ⟨q2, hq3, h⟩ := am_bnd h
    refine aq_virt (a := [.ref 82, .int x2, .int x3]) (S1 := [.int x1]) (v1 := .int q2.1) (S2 := [.int q2.1, .int x1]) (am_dg dkX12_quarrels (i := 19) rfl) cv_12_177_12 (am_cls_c sh_82 (by decide)) rfl rfl rfl (Nat.le_of_ble_eq_true rfl) (Nat.le_of_ble_eq_true rfl) (T_X12_areAtOdds_82 hR (by omega) hq3) rfl ?_
    by_cases hc4 : q2.1 = (0 : Int32)
    · rw [if_pos hc4] at h
      refine aq_ifT (t := 35) (am_dg dkX12_quarrels (i := 20) rfl) rfl (decide_eq_true hc4) ?_
      refine aq_iconst (v := (0 : Int32)) (am_dg dkX12_quarrels (i := 23) rfl) (by decide) ?_
      exact T_X12_quarrels_82_b36 hR (by omega) hk4 ih _ _ _ _ _ _ _ h
    · rw [if_neg hc4] at h
      refine aq_ifF (t := 35) (am_dg dkX12_quarrels (i := 20) rfl) rfl (decide_eq_false hc4) ?_
      refine aq_iconst (v := (1 : Int32)) (am_dg dkX12_quarrels (i := 21) rfl) (by decide) ?_
      refine aq_goto (t := 36) (am_dg dkX12_quarrels (i := 22) rfl) rfl ?_
      exact T_X12_quarrels_82_b36 hR (by omega) hk4 ih _ _ _ _ _ _ _ h
set_option maxRecDepth 20000 in
theorem T_X12_quarrels_82_b4 {sc : Option (Nat × (Nat → Int32))} {RF : Nat → Nat → Option Nat} {d : Nat} (hR : am_RFok RF) (hd : 3 ≤ d) : ∀ (n : Nat) (x1 : Int32) (x2 : Int32) (w3 : Value) (s : am_S) (r : Int32 × am_S), F_X12_quarrels_82_b4 n x1 x2 s = some r → am_Q sc d mX12_quarrels (4, [.ref 82, .int x1, .int x2, w3], [], am_hp RF s) (.int r.1, am_hp RF r.2) := by
  obtain ⟨e, rfl⟩ : ∃ e, d = e + 1 := ⟨d - 1, by omega⟩
  intro n
  induction n with
  | zero => intro x1 x2 w3 s r h; rw [F_X12_quarrels_82_b4] at h; cases h
  | succ n ih =>
  intro x1 x2 w3 s r h
  rw [F_X12_quarrels_82_b4] at h
  refine aq_iload_n (am_dg dkX12_quarrels (i := 4) rfl) rfl ?_
  refine aq_aload_n (am_dg dkX12_quarrels (i := 5) rfl) rfl ?_
  refine aq_getR (am_dg dkX12_quarrels (i := 6) rfl) gk_12_7_82 (rf_82_0 hR) ?_
  refine aq_iconst (v := (0 : Int32)) (am_dg dkX12_quarrels (i := 7) rfl) (by decide) ?_
  obtain ⟨hg1, h⟩ := am_guard h
  refine aq_iald (am_dg dkX12_quarrels (i := 8) rfl) sh_83 hg1 ?_
  by_cases hc2 : (s.1 83 (0 : Int32).toNatClampNeg) ≤ x2
  · rw [if_pos hc2] at h
    refine aq_icT (t := 50) (am_dg dkX12_quarrels (i := 9) rfl) rfl (decide_eq_true hc2) ?_
    refine aq_iload_n (am_dg dkX12_quarrels (i := 30) rfl) rfl ?_
    obtain rfl := Option.some.inj h
    exact aq_ireturn (am_dg dkX12_quarrels (i := 31) rfl) rfl (Or.inl rfl) rfl
  · rw [if_neg hc2] at h
    refine aq_icF (t := 50) (am_dg dkX12_quarrels (i := 9) rfl) rfl (decide_eq_false hc2) ?_
    refine aq_iconst (v := (0 : Int32)) (am_dg dkX12_quarrels (i := 10) rfl) (by decide) ?_
    refine aq_istore_n (L1 := [.ref 82, .int x1, .int x2, .int (0 : Int32)]) (am_dg dkX12_quarrels (i := 11) rfl) rfl ?_
    exact T_X12_quarrels_82_b16 hR (by omega) ih _ _ _ _ _ _ h
set_option maxRecDepth 20000 in
theorem T_X12_quarrels_82 {sc : Option (Nat × (Nat → Int32))} {RF : Nat → Nat → Option Nat} {d : Nat} (hR : am_RFok RF) (hd : 3 ≤ d) {s : am_S} {r : Int32 × am_S} (h : F_X12_quarrels_82 s = some r) : am_Q sc d mX12_quarrels (0, am_L0 mX12_quarrels [.ref 82], [], am_hp RF s) (.int r.1, am_hp RF r.2) := by
  obtain ⟨e, rfl⟩ : ∃ e, d = e + 1 := ⟨d - 1, by omega⟩
  unfold F_X12_quarrels_82 at h
  show am_Q _ _ _ (0, [.ref 82, .null, .null, .null], [], _) _
  refine aq_iconst (v := (0 : Int32)) (am_dg dkX12_quarrels (i := 0) rfl) (by decide) ?_
  refine aq_istore_n (L1 := [.ref 82, .int (0 : Int32), .null, .null]) (am_dg dkX12_quarrels (i := 1) rfl) rfl ?_
  refine aq_iconst (v := (0 : Int32)) (am_dg dkX12_quarrels (i := 2) rfl) (by decide) ?_
  refine aq_istore_n (L1 := [.ref 82, .int (0 : Int32), .int (0 : Int32), .null]) (am_dg dkX12_quarrels (i := 3) rfl) rfl ?_
  exact T_X12_quarrels_82_b4 hR (by omega) _ _ _ _ _ _ h
set_option maxRecDepth 20000 in
theorem T_X3_isAtPeace_50_b33 {sc : Option (Nat × (Nat → Int32))} {RF : Nat → Nat → Option Nat} {d : Nat} (hR : am_RFok RF) (hd : 1 ≤ d) {k2 : Int32 → Int32 → am_S → Option (Int32 × am_S)} (hk2 : ∀ (x1 : Int32) (x2 : Int32) (s2 : am_S) (r2 : Int32 × am_S), k2 x1 x2 s2 = some r2 → am_Q sc d mX3_isAtPeace (2, [.ref 50, .int x1, .int x2], [], am_hp RF s2) (.int r2.1, am_hp RF r2.2)) : ∀ (x1 : Int32) (x2 : Int32) (s : am_S) (r : Int32 × am_S), F_X3_isAtPeace_50_b33 k2 x1 x2 s = some r → am_Q sc d mX3_isAtPeace (33, [.ref 50, .int x1, .int x2], [], am_hp RF s) (.int r.1, am_hp RF r.2) := by
  obtain ⟨e, rfl⟩ : ∃ e, d = e + 1 := ⟨d - 1, by omega⟩
  intro x1 x2 s r h
  unfold F_X3_isAtPeace_50_b33 at h
  refine aq_iinc (v := (1 : Int32)) (L1 := [.ref 50, .int x1, .int (x2 + (1 : Int32))]) (am_dg dkX3_isAtPeace (i := 21) rfl) rfl (by decide) rfl ?_
  refine aq_goto (t := 2) (am_dg dkX3_isAtPeace (i := 22) rfl) rfl ?_
  exact hk2 _ _ _ _ h
set_option maxRecDepth 20000 in
theorem T_X3_isAtPeace_50_b2 {sc : Option (Nat × (Nat → Int32))} {RF : Nat → Nat → Option Nat} {d : Nat} (hR : am_RFok RF) (hd : 1 ≤ d) : ∀ (n : Nat) (x1 : Int32) (x2 : Int32) (s : am_S) (r : Int32 × am_S), F_X3_isAtPeace_50_b2 n x1 x2 s = some r → am_Q sc d mX3_isAtPeace (2, [.ref 50, .int x1, .int x2], [], am_hp RF s) (.int r.1, am_hp RF r.2) := by
  obtain ⟨e, rfl⟩ : ∃ e, d = e + 1 := ⟨d - 1, by omega⟩
  intro n
  induction n with
  | zero => intro x1 x2 s r h; rw [F_X3_isAtPeace_50_b2] at h; cases h
  | succ n ih =>
  intro x1 x2 s r h
  rw [F_X3_isAtPeace_50_b2] at h
  refine aq_iload_n (am_dg dkX3_isAtPeace (i := 2) rfl) rfl ?_
  refine aq_iload_n (am_dg dkX3_isAtPeace (i := 3) rfl) rfl ?_
  by_cases hc1 : x1 ≤ x2
  · rw [if_pos hc1] at h
    refine aq_icT (t := 39) (am_dg dkX3_isAtPeace (i := 4) rfl) rfl (decide_eq_true hc1) ?_
    refine aq_iconst (v := (1 : Int32)) (am_dg dkX3_isAtPeace (i := 23) rfl) (by decide) ?_
    obtain rfl := Option.some.inj h
    exact aq_ireturn (am_dg dkX3_isAtPeace (i := 24) rfl) rfl (Or.inr (Or.inl rfl)) rfl
  · rw [if_neg hc1] at h
    refine aq_icF (t := 39) (am_dg dkX3_isAtPeace (i := 4) rfl) rfl (decide_eq_false hc1) ?_
    refine aq_aload_n (am_dg dkX3_isAtPeace (i := 5) rfl) rfl ?_
    refine aq_getR (am_dg dkX3_isAtPeace (i := 6) rfl) gk_3_31_50 (rf_50_13 hR) ?_
    refine aq_iload_n (am_dg dkX3_isAtPeace (i := 7) rfl) rfl ?_
    obtain ⟨hg2, h⟩ := am_guard h
    refine aq_iald (am_dg dkX3_isAtPeace (i := 8) rfl) sh_64 hg2 ?_
    refine aq_aload_n (am_dg dkX3_isAtPeace (i := 9) rfl) rfl ?_
    refine aq_getR (am_dg dkX3_isAtPeace (i := 10) rfl) gk_3_31_50 (rf_50_13 hR) ?_
    refine aq_iload_n (am_dg dkX3_isAtPeace (i := 11) rfl) rfl ?_
    obtain ⟨hg3, h⟩ := am_guard h
    refine aq_iald (am_dg dkX3_isAtPeace (i := 12) rfl) sh_64 hg3 ?_
    by_cases hc4 : (s.1 64 x2.toNatClampNeg) = (s.1 64 x1.toNatClampNeg)
    · rw [if_pos hc4] at h
      refine aq_icF (t := 33) (am_dg dkX3_isAtPeace (i := 13) rfl) rfl (decide_eq_false (not_not_intro hc4)) ?_
      refine aq_aload_n (am_dg dkX3_isAtPeace (i := 14) rfl) rfl ?_
      refine aq_iload_n (am_dg dkX3_isAtPeace (i := 15) rfl) rfl ?_
      refine aq_iload_n (am_dg dkX3_isAtPeace (i := 16) rfl) rfl ?_
      obtain ⟨q5, hq6, h⟩ := am_bnd h
      refine aq_virt (a := [.ref 50, .int x1, .int x2]) (S1 := []) (v1 := .int q5.1) (S2 := [.int q5.1]) (am_dg dkX3_isAtPeace (i := 17) rfl) cv_3_94_3 (am_cls_c sh_50 (by decide)) rfl rfl rfl (Nat.le_of_ble_eq_true rfl) (Nat.le_of_ble_eq_true rfl) (T_X3_isQuarrel_50 hR (by omega) hq6) rfl ?_
      by_cases hc7 : q5.1 = (0 : Int32)
      · rw [if_pos hc7] at h
        refine aq_ifT (t := 33) (am_dg dkX3_isAtPeace (i := 18) rfl) rfl (decide_eq_true hc7) ?_
        exact T_X3_isAtPeace_50_b33 hR (by omega) ih _ _ _ _ h
      · rw [if_neg hc7] at h
        refine aq_ifF (t := 33) (am_dg dkX3_isAtPeace (i := 18) rfl) rfl (decide_eq_false hc7) ?_
        refine aq_iconst (v := (0 : Int32)) (am_dg dkX3_isAtPeace (i := 19) rfl) (by decide) ?_
        obtain rfl := Option.some.inj h
        exact aq_ireturn (am_dg dkX3_isAtPeace (i := 20) rfl) rfl (Or.inr (Or.inl rfl)) rfl
    · rw [if_neg hc4] at h
      refine aq_icT (t := 33) (am_dg dkX3_isAtPeace (i := 13) rfl) rfl (decide_eq_true hc4) ?_
      exact T_X3_isAtPeace_50_b33 hR (by omega) ih _ _ _ _ h
set_option maxRecDepth 20000 in
theorem T_X3_isAtPeace_50 {sc : Option (Nat × (Nat → Int32))} {RF : Nat → Nat → Option Nat} {d : Nat} (hR : am_RFok RF) (hd : 1 ≤ d) {a1 : Int32} {s : am_S} {r : Int32 × am_S} (h : F_X3_isAtPeace_50 a1 s = some r) : am_Q sc d mX3_isAtPeace (0, am_L0 mX3_isAtPeace [.ref 50, .int a1], [], am_hp RF s) (.int r.1, am_hp RF r.2) := by
  obtain ⟨e, rfl⟩ : ∃ e, d = e + 1 := ⟨d - 1, by omega⟩
  unfold F_X3_isAtPeace_50 at h
  show am_Q _ _ _ (0, [.ref 50, .int a1, .null], [], _) _
  refine aq_iconst (v := (0 : Int32)) (am_dg dkX3_isAtPeace (i := 0) rfl) (by decide) ?_
  refine aq_istore_n (L1 := [.ref 50, .int a1, .int (0 : Int32)]) (am_dg dkX3_isAtPeace (i := 1) rfl) rfl ?_
  exact T_X3_isAtPeace_50_b2 hR (by omega) _ _ _ _ _ h
set_option maxRecDepth 20000 in
theorem T_X3_canPutFrom_50_b48 {sc : Option (Nat × (Nat → Int32))} {RF : Nat → Nat → Option Nat} {d : Nat} (hR : am_RFok RF) (hd : 2 ≤ d) {rc : Int32 → Int32 → am_S → Option (Int32 × am_S)} {dr : Nat} (hdr : dr + 1 ≤ d) (hrc : ∀ (c0 : Int32) (c1 : Int32) (s2 : am_S) (r2 : Int32 × am_S), rc c0 c1 s2 = some r2 → am_Q sc dr mX3_canPutFrom (0, am_L0 mX3_canPutFrom [.ref 50, .int c0, .int c1], [], am_hp RF s2) (.int r2.1, am_hp RF r2.2)) {k15 : Int32 → Int32 → Int32 → am_S → Option (Int32 × am_S)} (hk15 : ∀ (x1 : Int32) (x2 : Int32) (x3 : Int32) (s2 : am_S) (r2 : Int32 × am_S), k15 x1 x2 x3 s2 = some r2 → am_Q sc d mX3_canPutFrom (15, [.ref 50, .int x1, .int x2, .int x3], [], am_hp RF s2) (.int r2.1, am_hp RF r2.2)) : ∀ (x1 : Int32) (x2 : Int32) (x3 : Int32) (s : am_S) (r : Int32 × am_S), F_X3_canPutFrom_50_b48 rc k15 x1 x2 x3 s = some r → am_Q sc d mX3_canPutFrom (48, [.ref 50, .int x1, .int x2, .int x3], [], am_hp RF s) (.int r.1, am_hp RF r.2) := by
  obtain ⟨e, rfl⟩ : ∃ e, d = e + 1 := ⟨d - 1, by omega⟩
  intro x1 x2 x3 s r h
  unfold F_X3_canPutFrom_50_b48 at h
  refine aq_iinc (v := (1 : Int32)) (L1 := [.ref 50, .int x1, .int x2, .int (x3 + (1 : Int32))]) (am_dg dkX3_canPutFrom (i := 30) rfl) rfl (by decide) rfl ?_
  refine aq_goto (t := 15) (am_dg dkX3_canPutFrom (i := 31) rfl) rfl ?_
  exact hk15 _ _ _ _ _ h
set_option maxRecDepth 20000 in
theorem T_X3_canPutFrom_50_b15 {sc : Option (Nat × (Nat → Int32))} {RF : Nat → Nat → Option Nat} {d : Nat} (hR : am_RFok RF) (hd : 2 ≤ d) {rc : Int32 → Int32 → am_S → Option (Int32 × am_S)} {dr : Nat} (hdr : dr + 1 ≤ d) (hrc : ∀ (c0 : Int32) (c1 : Int32) (s2 : am_S) (r2 : Int32 × am_S), rc c0 c1 s2 = some r2 → am_Q sc dr mX3_canPutFrom (0, am_L0 mX3_canPutFrom [.ref 50, .int c0, .int c1], [], am_hp RF s2) (.int r2.1, am_hp RF r2.2)) : ∀ (n : Nat) (x1 : Int32) (x2 : Int32) (x3 : Int32) (s : am_S) (r : Int32 × am_S), F_X3_canPutFrom_50_b15 rc n x1 x2 x3 s = some r → am_Q sc d mX3_canPutFrom (15, [.ref 50, .int x1, .int x2, .int x3], [], am_hp RF s) (.int r.1, am_hp RF r.2) := by
  obtain ⟨e, rfl⟩ : ∃ e, d = e + 1 := ⟨d - 1, by omega⟩
  intro n
  induction n with
  | zero => intro x1 x2 x3 s r h; rw [F_X3_canPutFrom_50_b15] at h; cases h
  | succ n ih =>
  intro x1 x2 x3 s r h
  rw [F_X3_canPutFrom_50_b15] at h
  refine aq_iload_n (am_dg dkX3_canPutFrom (i := 9) rfl) rfl ?_
  refine aq_iload_n (am_dg dkX3_canPutFrom (i := 10) rfl) rfl ?_
  by_cases hc1 : x2 ≤ x3
  · rw [if_pos hc1] at h
    refine aq_icT (t := 54) (am_dg dkX3_canPutFrom (i := 11) rfl) rfl (decide_eq_true hc1) ?_
    refine aq_iconst (v := (0 : Int32)) (am_dg dkX3_canPutFrom (i := 32) rfl) (by decide) ?_
    obtain rfl := Option.some.inj h
    exact aq_ireturn (am_dg dkX3_canPutFrom (i := 33) rfl) rfl (Or.inr (Or.inl rfl)) rfl
  · rw [if_neg hc1] at h
    refine aq_icF (t := 54) (am_dg dkX3_canPutFrom (i := 11) rfl) rfl (decide_eq_false hc1) ?_
    refine aq_aload_n (am_dg dkX3_canPutFrom (i := 12) rfl) rfl ?_
    refine aq_getR (am_dg dkX3_canPutFrom (i := 13) rfl) gk_3_31_50 (rf_50_13 hR) ?_
    refine aq_iload_n (am_dg dkX3_canPutFrom (i := 14) rfl) rfl ?_
    refine aq_iload_n (am_dg dkX3_canPutFrom (i := 15) rfl) rfl ?_
    obtain ⟨hg2, h⟩ := am_guard h
    refine aq_iast (am_dg dkX3_canPutFrom (i := 16) rfl) sh_64 hg2 ?_
    obtain ⟨s3, hs4, h⟩ := am_bnd h
    rw [Option.some.inj hs4]
    refine aq_aload_n (am_dg dkX3_canPutFrom (i := 17) rfl) rfl ?_
    refine aq_iload_n (am_dg dkX3_canPutFrom (i := 18) rfl) rfl ?_
    obtain ⟨q5, hq6, h⟩ := am_bnd h
    refine aq_virt (a := [.ref 50, .int x1]) (S1 := []) (v1 := .int q5.1) (S2 := [.int q5.1]) (am_dg dkX3_canPutFrom (i := 19) rfl) cv_3_101_3 (am_cls_c sh_50 (by decide)) rfl rfl rfl (Nat.le_of_ble_eq_true rfl) (Nat.le_of_ble_eq_true rfl) (T_X3_isAtPeace_50 hR (by omega) hq6) rfl ?_
    by_cases hc7 : q5.1 = (0 : Int32)
    · rw [if_pos hc7] at h
      refine aq_ifT (t := 48) (am_dg dkX3_canPutFrom (i := 20) rfl) rfl (decide_eq_true hc7) ?_
      exact T_X3_canPutFrom_50_b48 hR (by omega) (by omega) hrc ih _ _ _ _ _ h
    · rw [if_neg hc7] at h
      refine aq_ifF (t := 48) (am_dg dkX3_canPutFrom (i := 20) rfl) rfl (decide_eq_false hc7) ?_
      refine aq_aload_n (am_dg dkX3_canPutFrom (i := 21) rfl) rfl ?_
      refine aq_iload_n (am_dg dkX3_canPutFrom (i := 22) rfl) rfl ?_
      refine aq_iconst (v := (1 : Int32)) (am_dg dkX3_canPutFrom (i := 23) rfl) (by decide) ?_
      refine aq_iadd (am_dg dkX3_canPutFrom (i := 24) rfl) ?_
      refine aq_iload_n (am_dg dkX3_canPutFrom (i := 25) rfl) rfl ?_
      obtain ⟨q8, hq9, h⟩ := am_bnd h
      refine aq_virt (a := [.ref 50, .int (x1 + (1 : Int32)), .int x2]) (S1 := []) (v1 := .int q8.1) (S2 := [.int q8.1]) (am_dg dkX3_canPutFrom (i := 26) rfl) cv_3_98_3 (am_cls_c sh_50 (by decide)) rfl rfl rfl (Nat.le_of_ble_eq_true rfl) (Nat.le_of_ble_eq_true rfl) (am_Q_le (hrc _ _ _ _ hq9) (by omega)) rfl ?_
      by_cases hc10 : q8.1 = (0 : Int32)
      · rw [if_pos hc10] at h
        refine aq_ifT (t := 48) (am_dg dkX3_canPutFrom (i := 27) rfl) rfl (decide_eq_true hc10) ?_
        exact T_X3_canPutFrom_50_b48 hR (by omega) (by omega) hrc ih _ _ _ _ _ h
      · rw [if_neg hc10] at h
        refine aq_ifF (t := 48) (am_dg dkX3_canPutFrom (i := 27) rfl) rfl (decide_eq_false hc10) ?_
        refine aq_iconst (v := (1 : Int32)) (am_dg dkX3_canPutFrom (i := 28) rfl) (by decide) ?_
        obtain rfl := Option.some.inj h
        exact aq_ireturn (am_dg dkX3_canPutFrom (i := 29) rfl) rfl (Or.inr (Or.inl rfl)) rfl
set_option maxRecDepth 20000 in
theorem T_X3_canPutFrom_50_o {sc : Option (Nat × (Nat → Int32))} {RF : Nat → Nat → Option Nat} {d : Nat} (hR : am_RFok RF) (hd : 2 ≤ d) {rc : Int32 → Int32 → am_S → Option (Int32 × am_S)} {dr : Nat} (hdr : dr + 1 ≤ d) (hrc : ∀ (c0 : Int32) (c1 : Int32) (s2 : am_S) (r2 : Int32 × am_S), rc c0 c1 s2 = some r2 → am_Q sc dr mX3_canPutFrom (0, am_L0 mX3_canPutFrom [.ref 50, .int c0, .int c1], [], am_hp RF s2) (.int r2.1, am_hp RF r2.2)) {a1 : Int32} {a2 : Int32} {s : am_S} {r : Int32 × am_S} (h : F_X3_canPutFrom_50_o rc a1 a2 s = some r) : am_Q sc d mX3_canPutFrom (0, am_L0 mX3_canPutFrom [.ref 50, .int a1, .int a2], [], am_hp RF s) (.int r.1, am_hp RF r.2) := by
  obtain ⟨e, rfl⟩ : ∃ e, d = e + 1 := ⟨d - 1, by omega⟩
  unfold F_X3_canPutFrom_50_o at h
  show am_Q _ _ _ (0, [.ref 50, .int a1, .int a2, .null], [], _) _
  refine aq_iload_n (am_dg dkX3_canPutFrom (i := 0) rfl) rfl ?_
  refine aq_aload_n (am_dg dkX3_canPutFrom (i := 1) rfl) rfl ?_
  refine aq_getR (am_dg dkX3_canPutFrom (i := 2) rfl) gk_3_37_50 (rf_50_0 hR) ?_
  refine aq_getI (am_dg dkX3_canPutFrom (i := 3) rfl) gk_3_91_8 (by decide) ?_
  by_cases hc1 : a1 < (s.1 8 5)
  · rw [if_pos hc1] at h
    refine aq_icT (t := 13) (am_dg dkX3_canPutFrom (i := 4) rfl) rfl (decide_eq_true hc1) ?_
    refine aq_iconst (v := (0 : Int32)) (am_dg dkX3_canPutFrom (i := 7) rfl) (by decide) ?_
    refine aq_istore_n (L1 := [.ref 50, .int a1, .int a2, .int (0 : Int32)]) (am_dg dkX3_canPutFrom (i := 8) rfl) rfl ?_
    exact T_X3_canPutFrom_50_b15 hR (by omega) (by omega) hrc _ _ _ _ _ _ h
  · rw [if_neg hc1] at h
    refine aq_icF (t := 13) (am_dg dkX3_canPutFrom (i := 4) rfl) rfl (decide_eq_false hc1) ?_
    refine aq_iconst (v := (1 : Int32)) (am_dg dkX3_canPutFrom (i := 5) rfl) (by decide) ?_
    obtain rfl := Option.some.inj h
    exact aq_ireturn (am_dg dkX3_canPutFrom (i := 6) rfl) rfl (Or.inr (Or.inl rfl)) rfl
set_option maxRecDepth 20000 in
theorem T_X3_canPutFrom_50_n {sc : Option (Nat × (Nat → Int32))} {RF : Nat → Nat → Option Nat} (hR : am_RFok RF) : ∀ (n d : Nat) (hd : 1 * n + 2 ≤ d) (a1 : Int32) (a2 : Int32) (s : am_S) (r : Int32 × am_S), F_X3_canPutFrom_50 n a1 a2 s = some r → am_Q sc d mX3_canPutFrom (0, am_L0 mX3_canPutFrom [.ref 50, .int a1, .int a2], [], am_hp RF s) (.int r.1, am_hp RF r.2) := by
  intro n
  induction n with
  | zero => intro d hd a1 a2 s r h; cases h
  | succ n ih =>
    intro d hd a1 a2 s r h
    exact T_X3_canPutFrom_50_o hR (by omega) (rc := F_X3_canPutFrom_50 n) (dr := d - 1) (by omega) (fun c0 c1 s2 r2 h2 => ih (d - 1) (by omega) c0 c1 s2 r2 h2) h
set_option maxRecDepth 20000 in
theorem T_X3_canPutFrom_50 {sc : Option (Nat × (Nat → Int32))} {RF : Nat → Nat → Option Nat} {d : Nat} (hR : am_RFok RF) (hd : 13 ≤ d) {a1 : Int32} {a2 : Int32} {s : am_S} {r : Int32 × am_S} (h : F_X3_canPutFrom_50 10 a1 a2 s = some r) : am_Q sc d mX3_canPutFrom (0, am_L0 mX3_canPutFrom [.ref 50, .int a1, .int a2], [], am_hp RF s) (.int r.1, am_hp RF r.2) := T_X3_canPutFrom_50_n hR 10 d (by omega) _ _ _ _ h
set_option maxRecDepth 20000 in
theorem T_X3_putApart_50_b2 {sc : Option (Nat × (Nat → Int32))} {RF : Nat → Nat → Option Nat} {d : Nat} (hR : am_RFok RF) (hd : 14 ≤ d) : ∀ (n : Nat) (x1 : Int32) (s : am_S) (r : Int32 × am_S), F_X3_putApart_50_b2 n x1 s = some r → am_Q sc d mX3_putApart (2, [.ref 50, .int x1], [], am_hp RF s) (.int r.1, am_hp RF r.2) := by
  obtain ⟨e, rfl⟩ : ∃ e, d = e + 1 := ⟨d - 1, by omega⟩
  intro n
  induction n with
  | zero => intro x1 s r h; rw [F_X3_putApart_50_b2] at h; cases h
  | succ n ih =>
  intro x1 s r h
  rw [F_X3_putApart_50_b2] at h
  refine aq_iload_n (am_dg dkX3_putApart (i := 2) rfl) rfl ?_
  refine aq_aload_n (am_dg dkX3_putApart (i := 3) rfl) rfl ?_
  refine aq_getR (am_dg dkX3_putApart (i := 4) rfl) gk_3_37_50 (rf_50_0 hR) ?_
  refine aq_getI (am_dg dkX3_putApart (i := 5) rfl) gk_3_91_8 (by decide) ?_
  by_cases hc1 : (s.1 8 5) ≤ x1
  · rw [if_pos hc1] at h
    refine aq_icT (t := 30) (am_dg dkX3_putApart (i := 6) rfl) rfl (decide_eq_true hc1) ?_
    refine aq_aload_n (am_dg dkX3_putApart (i := 16) rfl) rfl ?_
    refine aq_iconst (v := (0 : Int32)) (am_dg dkX3_putApart (i := 17) rfl) (by decide) ?_
    refine aq_aload_n (am_dg dkX3_putApart (i := 18) rfl) rfl ?_
    refine aq_getR (am_dg dkX3_putApart (i := 19) rfl) gk_3_37_50 (rf_50_0 hR) ?_
    refine aq_getI (am_dg dkX3_putApart (i := 20) rfl) gk_3_91_8 (by decide) ?_
    obtain ⟨q2, hq3, h⟩ := am_bnd h
    refine aq_virt (a := [.ref 50, .int (0 : Int32), .int (s.1 8 5)]) (S1 := []) (v1 := .int q2.1) (S2 := [.int q2.1]) (am_dg dkX3_putApart (i := 21) rfl) cv_3_98_3 (am_cls_c sh_50 (by decide)) rfl rfl rfl (Nat.le_of_ble_eq_true rfl) (Nat.le_of_ble_eq_true rfl) (T_X3_canPutFrom_50 hR (by omega) hq3) rfl ?_
    refine aq_pop (am_dg dkX3_putApart (i := 22) rfl) rfl ?_
    refine aq_aload_n (am_dg dkX3_putApart (i := 23) rfl) rfl ?_
    refine aq_getR (am_dg dkX3_putApart (i := 24) rfl) gk_3_37_50 (rf_50_0 hR) ?_
    refine aq_getI (am_dg dkX3_putApart (i := 25) rfl) gk_3_91_8 (by decide) ?_
    obtain rfl := Option.some.inj h
    exact aq_ireturn (am_dg dkX3_putApart (i := 26) rfl) rfl (Or.inl rfl) rfl
  · rw [if_neg hc1] at h
    refine aq_icF (t := 30) (am_dg dkX3_putApart (i := 6) rfl) rfl (decide_eq_false hc1) ?_
    refine aq_aload_n (am_dg dkX3_putApart (i := 7) rfl) rfl ?_
    refine aq_iconst (v := (0 : Int32)) (am_dg dkX3_putApart (i := 8) rfl) (by decide) ?_
    refine aq_iload_n (am_dg dkX3_putApart (i := 9) rfl) rfl ?_
    obtain ⟨q4, hq5, h⟩ := am_bnd h
    refine aq_virt (a := [.ref 50, .int (0 : Int32), .int x1]) (S1 := []) (v1 := .int q4.1) (S2 := [.int q4.1]) (am_dg dkX3_putApart (i := 10) rfl) cv_3_98_3 (am_cls_c sh_50 (by decide)) rfl rfl rfl (Nat.le_of_ble_eq_true rfl) (Nat.le_of_ble_eq_true rfl) (T_X3_canPutFrom_50 hR (by omega) hq5) rfl ?_
    by_cases hc6 : q4.1 = (0 : Int32)
    · rw [if_pos hc6] at h
      refine aq_ifT (t := 24) (am_dg dkX3_putApart (i := 11) rfl) rfl (decide_eq_true hc6) ?_
      refine aq_iinc (v := (1 : Int32)) (L1 := [.ref 50, .int (x1 + (1 : Int32))]) (am_dg dkX3_putApart (i := 14) rfl) rfl (by decide) rfl ?_
      refine aq_goto (t := 2) (am_dg dkX3_putApart (i := 15) rfl) rfl ?_
      exact ih _ _ _ h
    · rw [if_neg hc6] at h
      refine aq_ifF (t := 24) (am_dg dkX3_putApart (i := 11) rfl) rfl (decide_eq_false hc6) ?_
      refine aq_iload_n (am_dg dkX3_putApart (i := 12) rfl) rfl ?_
      obtain rfl := Option.some.inj h
      exact aq_ireturn (am_dg dkX3_putApart (i := 13) rfl) rfl (Or.inl rfl) rfl
set_option maxRecDepth 20000 in
theorem T_X3_putApart_50 {sc : Option (Nat × (Nat → Int32))} {RF : Nat → Nat → Option Nat} {d : Nat} (hR : am_RFok RF) (hd : 14 ≤ d) {s : am_S} {r : Int32 × am_S} (h : F_X3_putApart_50 s = some r) : am_Q sc d mX3_putApart (0, am_L0 mX3_putApart [.ref 50], [], am_hp RF s) (.int r.1, am_hp RF r.2) := by
  obtain ⟨e, rfl⟩ : ∃ e, d = e + 1 := ⟨d - 1, by omega⟩
  unfold F_X3_putApart_50 at h
  show am_Q _ _ _ (0, [.ref 50, .null], [], _) _
  refine aq_iconst (v := (0 : Int32)) (am_dg dkX3_putApart (i := 0) rfl) (by decide) ?_
  refine aq_istore_n (L1 := [.ref 50, .int (0 : Int32)]) (am_dg dkX3_putApart (i := 1) rfl) rfl ?_
  exact T_X3_putApart_50_b2 hR (by omega) _ _ _ _ h
set_option maxRecDepth 20000 in
theorem T_X11_apart_0_b18 {sc : Option (Nat × (Nat → Int32))} {RF : Nat → Nat → Option Nat} {d : Nat} (hR : am_RFok RF) (hd : 15 ≤ d) : ∀ (x1 : Int32) (w2 : Value) (s : am_S) (r : Int32 × am_S), F_X11_apart_0_b18 x1 s = some r → am_Q sc d mX11_apart (18, [.ref 0, .int x1, w2], [], am_hp RF s) (.int r.1, am_hp RF r.2) := by
  obtain ⟨e, rfl⟩ : ∃ e, d = e + 1 := ⟨d - 1, by omega⟩
  intro x1 w2 s r h
  unfold F_X11_apart_0_b18 at h
  refine aq_aload_n (am_dg dkX11_apart (i := 10) rfl) rfl ?_
  refine aq_getR (am_dg dkX11_apart (i := 11) rfl) gk_11_55_0 (rf_0_4 hR) ?_
  obtain ⟨q1, hq2, h⟩ := am_bnd h
  refine aq_virt (a := [.ref 50]) (S1 := []) (v1 := .int q1.1) (S2 := [.int q1.1]) (am_dg dkX11_apart (i := 12) rfl) cv_11_230_3 (am_cls_c sh_50 (by decide)) rfl rfl rfl (Nat.le_of_ble_eq_true rfl) (Nat.le_of_ble_eq_true rfl) (T_X3_putApart_50 hR (by omega) hq2) rfl ?_
  refine aq_istore_n (L1 := [.ref 0, .int x1, .int q1.1]) (am_dg dkX11_apart (i := 13) rfl) rfl ?_
  refine aq_iload_n (am_dg dkX11_apart (i := 14) rfl) rfl ?_
  refine aq_iconst (v := (-1 : Int32)) (am_dg dkX11_apart (i := 15) rfl) (by decide) ?_
  by_cases hc3 : x1 = (-1 : Int32)
  · rw [if_pos hc3] at h
    refine aq_icF (t := 35) (am_dg dkX11_apart (i := 16) rfl) rfl (decide_eq_false (not_not_intro hc3)) ?_
    refine aq_iload_n (am_dg dkX11_apart (i := 17) rfl) rfl ?_
    refine aq_goto (t := 44) (am_dg dkX11_apart (i := 18) rfl) rfl ?_
    obtain rfl := Option.some.inj h
    exact aq_ireturn (am_dg dkX11_apart (i := 24) rfl) rfl (Or.inl rfl) rfl
  · rw [if_neg hc3] at h
    refine aq_icT (t := 35) (am_dg dkX11_apart (i := 16) rfl) rfl (decide_eq_true hc3) ?_
    refine aq_aload_n (am_dg dkX11_apart (i := 19) rfl) rfl ?_
    refine aq_getR (am_dg dkX11_apart (i := 20) rfl) gk_11_55_0 (rf_0_4 hR) ?_
    refine aq_getR (am_dg dkX11_apart (i := 21) rfl) gk_11_233_50 (rf_50_13 hR) ?_
    refine aq_iload_n (am_dg dkX11_apart (i := 22) rfl) rfl ?_
    obtain ⟨hg4, h⟩ := am_guard h
    refine aq_iald (am_dg dkX11_apart (i := 23) rfl) sh_64 hg4 ?_
    obtain rfl := Option.some.inj h
    exact aq_ireturn (am_dg dkX11_apart (i := 24) rfl) rfl (Or.inl rfl) rfl
set_option maxRecDepth 20000 in
theorem T_X11_apart_0 {sc : Option (Nat × (Nat → Int32))} {RF : Nat → Nat → Option Nat} {d : Nat} (hR : am_RFok RF) (hd : 15 ≤ d) {a1 : Int32} {s : am_S} {r : Int32 × am_S} (h : F_X11_apart_0 a1 s = some r) : am_Q sc d mX11_apart (0, am_L0 mX11_apart [.ref 0, .int a1], [], am_hp RF s) (.int r.1, am_hp RF r.2) := by
  obtain ⟨e, rfl⟩ : ∃ e, d = e + 1 := ⟨d - 1, by omega⟩
  unfold F_X11_apart_0 at h
  show am_Q _ _ _ (0, [.ref 0, .int a1, .null], [], _) _
  refine aq_iload_n (am_dg dkX11_apart (i := 0) rfl) rfl ?_
  refine aq_iconst (v := (-1 : Int32)) (am_dg dkX11_apart (i := 1) rfl) (by decide) ?_
  by_cases hc1 : a1 = (-1 : Int32)
  · rw [if_pos hc1] at h
    refine aq_icT (t := 18) (am_dg dkX11_apart (i := 2) rfl) rfl (decide_eq_true hc1) ?_
    exact T_X11_apart_0_b18 hR (by omega) _ _ _ _ h
  · rw [if_neg hc1] at h
    refine aq_icF (t := 18) (am_dg dkX11_apart (i := 2) rfl) rfl (decide_eq_false hc1) ?_
    refine aq_aload_n (am_dg dkX11_apart (i := 3) rfl) rfl ?_
    refine aq_getR (am_dg dkX11_apart (i := 4) rfl) gk_11_30_0 (rf_0_0 hR) ?_
    refine aq_iload_n (am_dg dkX11_apart (i := 5) rfl) rfl ?_
    obtain ⟨q2, hq3, h⟩ := am_bnd h
    refine aq_virt (a := [.ref 8, .int a1]) (S1 := []) (v1 := .int q2.1) (S2 := [.int q2.1]) (am_dg dkX11_apart (i := 6) rfl) cv_11_110_8 (am_cls_c sh_8 (by decide)) rfl rfl rfl (Nat.le_of_ble_eq_true rfl) (Nat.le_of_ble_eq_true rfl) (T_X8_has_8 hR (by omega) hq3) rfl ?_
    by_cases hc4 : q2.1 = (0 : Int32)
    · rw [if_pos hc4] at h
      refine aq_ifF (t := 18) (am_dg dkX11_apart (i := 7) rfl) rfl (decide_eq_false (not_not_intro hc4)) ?_
      refine aq_iconst (v := (-1 : Int32)) (am_dg dkX11_apart (i := 8) rfl) (by decide) ?_
      obtain rfl := Option.some.inj h
      exact aq_ireturn (am_dg dkX11_apart (i := 9) rfl) rfl (Or.inl rfl) rfl
    · rw [if_neg hc4] at h
      refine aq_ifT (t := 18) (am_dg dkX11_apart (i := 7) rfl) rfl (decide_eq_true hc4) ?_
      exact T_X11_apart_0_b18 hR (by omega) _ _ _ _ h
set_option maxRecDepth 20000 in
theorem T_X12_isApart_82_b42 {sc : Option (Nat × (Nat → Int32))} {RF : Nat → Nat → Option Nat} {d : Nat} (hR : am_RFok RF) (hd : 3 ≤ d) {k4 : Int32 → Int32 → Int32 → am_S → Option (Int32 × am_S)} (hk4 : ∀ (x1 : Int32) (x2 : Int32) (x3 : Int32) (s2 : am_S) (r2 : Int32 × am_S), k4 x1 x2 x3 s2 = some r2 → am_Q sc d mX12_isApart (4, [.ref 82, .int x1, .int x2, .int x3], [], am_hp RF s2) (.int r2.1, am_hp RF r2.2)) : ∀ (x1 : Int32) (x3 : Int32) (y0 : Int32) (w2 : Value) (s : am_S) (r : Int32 × am_S), F_X12_isApart_82_b42 k4 x1 x3 y0 s = some r → am_Q sc d mX12_isApart (42, [.ref 82, .int x1, w2, .int x3], [.int y0], am_hp RF s) (.int r.1, am_hp RF r.2) := by
  obtain ⟨e, rfl⟩ : ∃ e, d = e + 1 := ⟨d - 1, by omega⟩
  intro x1 x3 y0 w2 s r h
  unfold F_X12_isApart_82_b42 at h
  refine aq_istore_n (L1 := [.ref 82, .int x1, .int y0, .int x3]) (am_dg dkX12_isApart (i := 26) rfl) rfl ?_
  refine aq_iinc (v := (1 : Int32)) (L1 := [.ref 82, .int x1, .int y0, .int (x3 + (1 : Int32))]) (am_dg dkX12_isApart (i := 27) rfl) rfl (by decide) rfl ?_
  refine aq_goto (t := 4) (am_dg dkX12_isApart (i := 28) rfl) rfl ?_
  exact hk4 _ _ _ _ _ h
set_option maxRecDepth 20000 in
theorem T_X12_isApart_82_b37 {sc : Option (Nat × (Nat → Int32))} {RF : Nat → Nat → Option Nat} {d : Nat} (hR : am_RFok RF) (hd : 3 ≤ d) {k4 : Int32 → Int32 → Int32 → am_S → Option (Int32 × am_S)} (hk4 : ∀ (x1 : Int32) (x2 : Int32) (x3 : Int32) (s2 : am_S) (r2 : Int32 × am_S), k4 x1 x2 x3 s2 = some r2 → am_Q sc d mX12_isApart (4, [.ref 82, .int x1, .int x2, .int x3], [], am_hp RF s2) (.int r2.1, am_hp RF r2.2)) : ∀ (x1 : Int32) (x3 : Int32) (w2 : Value) (s : am_S) (r : Int32 × am_S), F_X12_isApart_82_b37 k4 x1 x3 s = some r → am_Q sc d mX12_isApart (37, [.ref 82, .int x1, w2, .int x3], [], am_hp RF s) (.int r.1, am_hp RF r.2) := by
  obtain ⟨e, rfl⟩ : ∃ e, d = e + 1 := ⟨d - 1, by omega⟩
  intro x1 x3 w2 s r h
  unfold F_X12_isApart_82_b37 at h
  refine aq_iconst (v := (1 : Int32)) (am_dg dkX12_isApart (i := 23) rfl) (by decide) ?_
  refine aq_goto (t := 42) (am_dg dkX12_isApart (i := 24) rfl) rfl ?_
  exact T_X12_isApart_82_b42 hR (by omega) hk4 _ _ _ _ _ _ h
set_option maxRecDepth 20000 in
theorem T_X12_isApart_82_b41 {sc : Option (Nat × (Nat → Int32))} {RF : Nat → Nat → Option Nat} {d : Nat} (hR : am_RFok RF) (hd : 3 ≤ d) {k4 : Int32 → Int32 → Int32 → am_S → Option (Int32 × am_S)} (hk4 : ∀ (x1 : Int32) (x2 : Int32) (x3 : Int32) (s2 : am_S) (r2 : Int32 × am_S), k4 x1 x2 x3 s2 = some r2 → am_Q sc d mX12_isApart (4, [.ref 82, .int x1, .int x2, .int x3], [], am_hp RF s2) (.int r2.1, am_hp RF r2.2)) : ∀ (x1 : Int32) (x3 : Int32) (w2 : Value) (s : am_S) (r : Int32 × am_S), F_X12_isApart_82_b41 k4 x1 x3 s = some r → am_Q sc d mX12_isApart (41, [.ref 82, .int x1, w2, .int x3], [], am_hp RF s) (.int r.1, am_hp RF r.2) := by
  obtain ⟨e, rfl⟩ : ∃ e, d = e + 1 := ⟨d - 1, by omega⟩
  intro x1 x3 w2 s r h
  unfold F_X12_isApart_82_b41 at h
  refine aq_iconst (v := (0 : Int32)) (am_dg dkX12_isApart (i := 25) rfl) (by decide) ?_
  exact T_X12_isApart_82_b42 hR (by omega) hk4 _ _ _ _ _ _ h
set_option maxRecDepth 20000 in
theorem T_X12_isApart_82_b4 {sc : Option (Nat × (Nat → Int32))} {RF : Nat → Nat → Option Nat} {d : Nat} (hR : am_RFok RF) (hd : 3 ≤ d) : ∀ (n : Nat) (x1 : Int32) (x2 : Int32) (x3 : Int32) (s : am_S) (r : Int32 × am_S), F_X12_isApart_82_b4 n x1 x2 x3 s = some r → am_Q sc d mX12_isApart (4, [.ref 82, .int x1, .int x2, .int x3], [], am_hp RF s) (.int r.1, am_hp RF r.2) := by
  obtain ⟨e, rfl⟩ : ∃ e, d = e + 1 := ⟨d - 1, by omega⟩
  intro n
  induction n with
  | zero => intro x1 x2 x3 s r h; rw [F_X12_isApart_82_b4] at h; cases h
  | succ n ih =>
  intro x1 x2 x3 s r h
  rw [F_X12_isApart_82_b4] at h
  refine aq_iload_n (am_dg dkX12_isApart (i := 4) rfl) rfl ?_
  refine aq_iload_n (am_dg dkX12_isApart (i := 5) rfl) rfl ?_
  by_cases hc1 : x1 ≤ x3
  · rw [if_pos hc1] at h
    refine aq_icT (t := 49) (am_dg dkX12_isApart (i := 6) rfl) rfl (decide_eq_true hc1) ?_
    refine aq_iload_n (am_dg dkX12_isApart (i := 29) rfl) rfl ?_
    obtain ⟨hg2, h⟩ := am_guard h
    obtain rfl := Option.some.inj h
    exact aq_ireturn (am_dg dkX12_isApart (i := 30) rfl) rfl (Or.inr (Or.inl rfl)) (am_nz hg2)
  · rw [if_neg hc1] at h
    refine aq_icF (t := 49) (am_dg dkX12_isApart (i := 6) rfl) rfl (decide_eq_false hc1) ?_
    refine aq_iload_n (am_dg dkX12_isApart (i := 7) rfl) rfl ?_
    by_cases hc3 : x2 = (0 : Int32)
    · rw [if_pos hc3] at h
      refine aq_ifT (t := 41) (am_dg dkX12_isApart (i := 8) rfl) rfl (decide_eq_true hc3) ?_
      exact T_X12_isApart_82_b41 hR (by omega) ih _ _ _ _ _ h
    · rw [if_neg hc3] at h
      refine aq_ifF (t := 41) (am_dg dkX12_isApart (i := 8) rfl) rfl (decide_eq_false hc3) ?_
      refine aq_aload_n (am_dg dkX12_isApart (i := 9) rfl) rfl ?_
      refine aq_getR (am_dg dkX12_isApart (i := 10) rfl) gk_12_22_82 (rf_82_5 hR) ?_
      refine aq_iload_n (am_dg dkX12_isApart (i := 11) rfl) rfl ?_
      obtain ⟨hg4, h⟩ := am_guard h
      refine aq_iald (am_dg dkX12_isApart (i := 12) rfl) sh_87 hg4 ?_
      refine aq_aload_n (am_dg dkX12_isApart (i := 13) rfl) rfl ?_
      refine aq_getR (am_dg dkX12_isApart (i := 14) rfl) gk_12_22_82 (rf_82_5 hR) ?_
      refine aq_iload_n (am_dg dkX12_isApart (i := 15) rfl) rfl ?_
      obtain ⟨hg5, h⟩ := am_guard h
      refine aq_iald (am_dg dkX12_isApart (i := 16) rfl) sh_87 hg5 ?_
      by_cases hc6 : (s.1 87 x3.toNatClampNeg) = (s.1 87 x1.toNatClampNeg)
      · rw [if_pos hc6] at h
        refine aq_icF (t := 37) (am_dg dkX12_isApart (i := 17) rfl) rfl (decide_eq_false (not_not_intro hc6)) ?_
        refine aq_aload_n (am_dg dkX12_isApart (i := 18) rfl) rfl ?_
        refine aq_iload_n (am_dg dkX12_isApart (i := 19) rfl) rfl ?_
        refine aq_iload_n (am_dg dkX12_isApart (i := 20) rfl) rfl ?_
        obtain ⟨q7, hq8, h⟩ := am_bnd h
        refine aq_virt (a := [.ref 82, .int x3, .int x1]) (S1 := []) (v1 := .int q7.1) (S2 := [.int q7.1]) (am_dg dkX12_isApart (i := 21) rfl) cv_12_177_12 (am_cls_c sh_82 (by decide)) rfl rfl rfl (Nat.le_of_ble_eq_true rfl) (Nat.le_of_ble_eq_true rfl) (T_X12_areAtOdds_82 hR (by omega) hq8) rfl ?_
        by_cases hc9 : q7.1 = (0 : Int32)
        · rw [if_pos hc9] at h
          refine aq_ifF (t := 41) (am_dg dkX12_isApart (i := 22) rfl) rfl (decide_eq_false (not_not_intro hc9)) ?_
          exact T_X12_isApart_82_b37 hR (by omega) ih _ _ _ _ _ h
        · rw [if_neg hc9] at h
          refine aq_ifT (t := 41) (am_dg dkX12_isApart (i := 22) rfl) rfl (decide_eq_true hc9) ?_
          exact T_X12_isApart_82_b41 hR (by omega) ih _ _ _ _ _ h
      · rw [if_neg hc6] at h
        refine aq_icT (t := 37) (am_dg dkX12_isApart (i := 17) rfl) rfl (decide_eq_true hc6) ?_
        exact T_X12_isApart_82_b37 hR (by omega) ih _ _ _ _ _ h
set_option maxRecDepth 20000 in
theorem T_X12_isApart_82 {sc : Option (Nat × (Nat → Int32))} {RF : Nat → Nat → Option Nat} {d : Nat} (hR : am_RFok RF) (hd : 3 ≤ d) {a1 : Int32} {s : am_S} {r : Int32 × am_S} (h : F_X12_isApart_82 a1 s = some r) : am_Q sc d mX12_isApart (0, am_L0 mX12_isApart [.ref 82, .int a1], [], am_hp RF s) (.int r.1, am_hp RF r.2) := by
  obtain ⟨e, rfl⟩ : ∃ e, d = e + 1 := ⟨d - 1, by omega⟩
  unfold F_X12_isApart_82 at h
  show am_Q _ _ _ (0, [.ref 82, .int a1, .null, .null], [], _) _
  refine aq_iconst (v := (1 : Int32)) (am_dg dkX12_isApart (i := 0) rfl) (by decide) ?_
  refine aq_istore_n (L1 := [.ref 82, .int a1, .int (1 : Int32), .null]) (am_dg dkX12_isApart (i := 1) rfl) rfl ?_
  refine aq_iconst (v := (0 : Int32)) (am_dg dkX12_isApart (i := 2) rfl) (by decide) ?_
  refine aq_istore_n (L1 := [.ref 82, .int a1, .int (1 : Int32), .int (0 : Int32)]) (am_dg dkX12_isApart (i := 3) rfl) rfl ?_
  exact T_X12_isApart_82_b4 hR (by omega) _ _ _ _ _ _ h
set_option maxRecDepth 20000 in
theorem T_X12_areIn_82_b47 {sc : Option (Nat × (Nat → Int32))} {RF : Nat → Nat → Option Nat} {d : Nat} (hR : am_RFok RF) (hd : 4 ≤ d) {rc : Int32 → Int32 → am_S → Option (Int32 × am_S)} {dr : Nat} (hdr : dr + 1 ≤ d) (hrc : ∀ (c0 : Int32) (c1 : Int32) (s2 : am_S) (r2 : Int32 × am_S), rc c0 c1 s2 = some r2 → am_Q sc dr mX12_areIn (0, am_L0 mX12_areIn [.ref 82, .int c0, .int c1], [], am_hp RF s2) (.int r2.1, am_hp RF r2.2)) {k14 : Int32 → Int32 → Int32 → am_S → Option (Int32 × am_S)} (hk14 : ∀ (x1 : Int32) (x2 : Int32) (x3 : Int32) (s2 : am_S) (r2 : Int32 × am_S), k14 x1 x2 x3 s2 = some r2 → am_Q sc d mX12_areIn (14, [.ref 82, .int x1, .int x2, .int x3], [], am_hp RF s2) (.int r2.1, am_hp RF r2.2)) : ∀ (x1 : Int32) (x2 : Int32) (x3 : Int32) (s : am_S) (r : Int32 × am_S), F_X12_areIn_82_b47 rc k14 x1 x2 x3 s = some r → am_Q sc d mX12_areIn (47, [.ref 82, .int x1, .int x2, .int x3], [], am_hp RF s) (.int r.1, am_hp RF r.2) := by
  obtain ⟨e, rfl⟩ : ∃ e, d = e + 1 := ⟨d - 1, by omega⟩
  intro x1 x2 x3 s r h
  unfold F_X12_areIn_82_b47 at h
  refine aq_iinc (v := (1 : Int32)) (L1 := [.ref 82, .int x1, .int x2, .int (x3 + (1 : Int32))]) (am_dg dkX12_areIn (i := 31) rfl) rfl (by decide) rfl ?_
  refine aq_goto (t := 14) (am_dg dkX12_areIn (i := 32) rfl) rfl ?_
  exact hk14 _ _ _ _ _ h
set_option maxRecDepth 20000 in
theorem T_X12_areIn_82_b14 {sc : Option (Nat × (Nat → Int32))} {RF : Nat → Nat → Option Nat} {d : Nat} (hR : am_RFok RF) (hd : 4 ≤ d) {rc : Int32 → Int32 → am_S → Option (Int32 × am_S)} {dr : Nat} (hdr : dr + 1 ≤ d) (hrc : ∀ (c0 : Int32) (c1 : Int32) (s2 : am_S) (r2 : Int32 × am_S), rc c0 c1 s2 = some r2 → am_Q sc dr mX12_areIn (0, am_L0 mX12_areIn [.ref 82, .int c0, .int c1], [], am_hp RF s2) (.int r2.1, am_hp RF r2.2)) : ∀ (n : Nat) (x1 : Int32) (x2 : Int32) (x3 : Int32) (s : am_S) (r : Int32 × am_S), F_X12_areIn_82_b14 rc n x1 x2 x3 s = some r → am_Q sc d mX12_areIn (14, [.ref 82, .int x1, .int x2, .int x3], [], am_hp RF s) (.int r.1, am_hp RF r.2) := by
  obtain ⟨e, rfl⟩ : ∃ e, d = e + 1 := ⟨d - 1, by omega⟩
  intro n
  induction n with
  | zero => intro x1 x2 x3 s r h; rw [F_X12_areIn_82_b14] at h; cases h
  | succ n ih =>
  intro x1 x2 x3 s r h
  rw [F_X12_areIn_82_b14] at h
  refine aq_iload_n (am_dg dkX12_areIn (i := 10) rfl) rfl ?_
  refine aq_iload_n (am_dg dkX12_areIn (i := 11) rfl) rfl ?_
  by_cases hc1 : x2 ≤ x3
  · rw [if_pos hc1] at h
    refine aq_icT (t := 53) (am_dg dkX12_areIn (i := 12) rfl) rfl (decide_eq_true hc1) ?_
    refine aq_iconst (v := (0 : Int32)) (am_dg dkX12_areIn (i := 33) rfl) (by decide) ?_
    obtain rfl := Option.some.inj h
    exact aq_ireturn (am_dg dkX12_areIn (i := 34) rfl) rfl (Or.inr (Or.inl rfl)) rfl
  · rw [if_neg hc1] at h
    refine aq_icF (t := 53) (am_dg dkX12_areIn (i := 12) rfl) rfl (decide_eq_false hc1) ?_
    refine aq_aload_n (am_dg dkX12_areIn (i := 13) rfl) rfl ?_
    refine aq_getR (am_dg dkX12_areIn (i := 14) rfl) gk_12_22_82 (rf_82_5 hR) ?_
    refine aq_iload_n (am_dg dkX12_areIn (i := 15) rfl) rfl ?_
    refine aq_iload_n (am_dg dkX12_areIn (i := 16) rfl) rfl ?_
    obtain ⟨hg2, h⟩ := am_guard h
    refine aq_iast (am_dg dkX12_areIn (i := 17) rfl) sh_87 hg2 ?_
    obtain ⟨s3, hs4, h⟩ := am_bnd h
    rw [Option.some.inj hs4]
    refine aq_aload_n (am_dg dkX12_areIn (i := 18) rfl) rfl ?_
    refine aq_iload_n (am_dg dkX12_areIn (i := 19) rfl) rfl ?_
    obtain ⟨q5, hq6, h⟩ := am_bnd h
    refine aq_virt (a := [.ref 82, .int x1]) (S1 := []) (v1 := .int q5.1) (S2 := [.int q5.1]) (am_dg dkX12_areIn (i := 20) rfl) cv_12_180_12 (am_cls_c sh_82 (by decide)) rfl rfl rfl (Nat.le_of_ble_eq_true rfl) (Nat.le_of_ble_eq_true rfl) (T_X12_isApart_82 hR (by omega) hq6) rfl ?_
    by_cases hc7 : q5.1 = (0 : Int32)
    · rw [if_pos hc7] at h
      refine aq_ifT (t := 47) (am_dg dkX12_areIn (i := 21) rfl) rfl (decide_eq_true hc7) ?_
      exact T_X12_areIn_82_b47 hR (by omega) (by omega) hrc ih _ _ _ _ _ h
    · rw [if_neg hc7] at h
      refine aq_ifF (t := 47) (am_dg dkX12_areIn (i := 21) rfl) rfl (decide_eq_false hc7) ?_
      refine aq_aload_n (am_dg dkX12_areIn (i := 22) rfl) rfl ?_
      refine aq_iload_n (am_dg dkX12_areIn (i := 23) rfl) rfl ?_
      refine aq_iconst (v := (1 : Int32)) (am_dg dkX12_areIn (i := 24) rfl) (by decide) ?_
      refine aq_iadd (am_dg dkX12_areIn (i := 25) rfl) ?_
      refine aq_iload_n (am_dg dkX12_areIn (i := 26) rfl) rfl ?_
      obtain ⟨q8, hq9, h⟩ := am_bnd h
      refine aq_virt (a := [.ref 82, .int (x1 + (1 : Int32)), .int x2]) (S1 := []) (v1 := .int q8.1) (S2 := [.int q8.1]) (am_dg dkX12_areIn (i := 27) rfl) cv_12_183_12 (am_cls_c sh_82 (by decide)) rfl rfl rfl (Nat.le_of_ble_eq_true rfl) (Nat.le_of_ble_eq_true rfl) (am_Q_le (hrc _ _ _ _ hq9) (by omega)) rfl ?_
      by_cases hc10 : q8.1 = (0 : Int32)
      · rw [if_pos hc10] at h
        refine aq_ifT (t := 47) (am_dg dkX12_areIn (i := 28) rfl) rfl (decide_eq_true hc10) ?_
        exact T_X12_areIn_82_b47 hR (by omega) (by omega) hrc ih _ _ _ _ _ h
      · rw [if_neg hc10] at h
        refine aq_ifF (t := 47) (am_dg dkX12_areIn (i := 28) rfl) rfl (decide_eq_false hc10) ?_
        refine aq_iconst (v := (1 : Int32)) (am_dg dkX12_areIn (i := 29) rfl) (by decide) ?_
        obtain rfl := Option.some.inj h
        exact aq_ireturn (am_dg dkX12_areIn (i := 30) rfl) rfl (Or.inr (Or.inl rfl)) rfl
set_option maxRecDepth 20000 in
theorem T_X12_areIn_82_o {sc : Option (Nat × (Nat → Int32))} {RF : Nat → Nat → Option Nat} {d : Nat} (hR : am_RFok RF) (hd : 4 ≤ d) {rc : Int32 → Int32 → am_S → Option (Int32 × am_S)} {dr : Nat} (hdr : dr + 1 ≤ d) (hrc : ∀ (c0 : Int32) (c1 : Int32) (s2 : am_S) (r2 : Int32 × am_S), rc c0 c1 s2 = some r2 → am_Q sc dr mX12_areIn (0, am_L0 mX12_areIn [.ref 82, .int c0, .int c1], [], am_hp RF s2) (.int r2.1, am_hp RF r2.2)) {a1 : Int32} {a2 : Int32} {s : am_S} {r : Int32 × am_S} (h : F_X12_areIn_82_o rc a1 a2 s = some r) : am_Q sc d mX12_areIn (0, am_L0 mX12_areIn [.ref 82, .int a1, .int a2], [], am_hp RF s) (.int r.1, am_hp RF r.2) := by
  obtain ⟨e, rfl⟩ : ∃ e, d = e + 1 := ⟨d - 1, by omega⟩
  unfold F_X12_areIn_82_o at h
  show am_Q _ _ _ (0, [.ref 82, .int a1, .int a2, .null], [], _) _
  refine aq_iload_n (am_dg dkX12_areIn (i := 0) rfl) rfl ?_
  refine aq_aload_n (am_dg dkX12_areIn (i := 1) rfl) rfl ?_
  refine aq_getR (am_dg dkX12_areIn (i := 2) rfl) gk_12_7_82 (rf_82_0 hR) ?_
  refine aq_iconst (v := (0 : Int32)) (am_dg dkX12_areIn (i := 3) rfl) (by decide) ?_
  obtain ⟨hg1, h⟩ := am_guard h
  refine aq_iald (am_dg dkX12_areIn (i := 4) rfl) sh_83 hg1 ?_
  by_cases hc2 : a1 = (s.1 83 (0 : Int32).toNatClampNeg)
  · rw [if_pos hc2] at h
    refine aq_icF (t := 12) (am_dg dkX12_areIn (i := 5) rfl) rfl (decide_eq_false (not_not_intro hc2)) ?_
    refine aq_iconst (v := (1 : Int32)) (am_dg dkX12_areIn (i := 6) rfl) (by decide) ?_
    obtain rfl := Option.some.inj h
    exact aq_ireturn (am_dg dkX12_areIn (i := 7) rfl) rfl (Or.inr (Or.inl rfl)) rfl
  · rw [if_neg hc2] at h
    refine aq_icT (t := 12) (am_dg dkX12_areIn (i := 5) rfl) rfl (decide_eq_true hc2) ?_
    refine aq_iconst (v := (0 : Int32)) (am_dg dkX12_areIn (i := 8) rfl) (by decide) ?_
    refine aq_istore_n (L1 := [.ref 82, .int a1, .int a2, .int (0 : Int32)]) (am_dg dkX12_areIn (i := 9) rfl) rfl ?_
    exact T_X12_areIn_82_b14 hR (by omega) (by omega) hrc _ _ _ _ _ _ h
set_option maxRecDepth 20000 in
theorem T_X12_areIn_82_n {sc : Option (Nat × (Nat → Int32))} {RF : Nat → Nat → Option Nat} (hR : am_RFok RF) : ∀ (n d : Nat) (hd : 1 * n + 4 ≤ d) (a1 : Int32) (a2 : Int32) (s : am_S) (r : Int32 × am_S), F_X12_areIn_82 n a1 a2 s = some r → am_Q sc d mX12_areIn (0, am_L0 mX12_areIn [.ref 82, .int a1, .int a2], [], am_hp RF s) (.int r.1, am_hp RF r.2) := by
  intro n
  induction n with
  | zero => intro d hd a1 a2 s r h; cases h
  | succ n ih =>
    intro d hd a1 a2 s r h
    exact T_X12_areIn_82_o hR (by omega) (rc := F_X12_areIn_82 n) (dr := d - 1) (by omega) (fun c0 c1 s2 r2 h2 => ih (d - 1) (by omega) c0 c1 s2 r2 h2) h
set_option maxRecDepth 20000 in
theorem T_X12_areIn_82 {sc : Option (Nat × (Nat → Int32))} {RF : Nat → Nat → Option Nat} {d : Nat} (hR : am_RFok RF) (hd : 15 ≤ d) {a1 : Int32} {a2 : Int32} {s : am_S} {r : Int32 × am_S} (h : F_X12_areIn_82 10 a1 a2 s = some r) : am_Q sc d mX12_areIn (0, am_L0 mX12_areIn [.ref 82, .int a1, .int a2], [], am_hp RF s) (.int r.1, am_hp RF r.2) := T_X12_areIn_82_n hR 10 d (by omega) _ _ _ _ h
set_option maxRecDepth 20000 in
theorem T_X12_apart_82_b17 {sc : Option (Nat × (Nat → Int32))} {RF : Nat → Nat → Option Nat} {d : Nat} (hR : am_RFok RF) (hd : 16 ≤ d) : ∀ (n : Nat) (x1 : Int32) (x2 : Int32) (s : am_S) (r : Int32 × am_S), F_X12_apart_82_b17 n x1 x2 s = some r → am_Q sc d mX12_apart (17, [.ref 82, .int x1, .int x2], [], am_hp RF s) (.int r.1, am_hp RF r.2) := by
  obtain ⟨e, rfl⟩ : ∃ e, d = e + 1 := ⟨d - 1, by omega⟩
  intro n
  induction n with
  | zero => intro x1 x2 s r h; rw [F_X12_apart_82_b17] at h; cases h
  | succ n ih =>
  intro x1 x2 s r h
  rw [F_X12_apart_82_b17] at h
  refine aq_aload_n (am_dg dkX12_apart (i := 11) rfl) rfl ?_
  refine aq_iconst (v := (0 : Int32)) (am_dg dkX12_apart (i := 12) rfl) (by decide) ?_
  refine aq_iload_n (am_dg dkX12_apart (i := 13) rfl) rfl ?_
  obtain ⟨q1, hq2, h⟩ := am_bnd h
  refine aq_virt (a := [.ref 82, .int (0 : Int32), .int x2]) (S1 := []) (v1 := .int q1.1) (S2 := [.int q1.1]) (am_dg dkX12_apart (i := 14) rfl) cv_12_183_12 (am_cls_c sh_82 (by decide)) rfl rfl rfl (Nat.le_of_ble_eq_true rfl) (Nat.le_of_ble_eq_true rfl) (T_X12_areIn_82 hR (by omega) hq2) rfl ?_
  by_cases hc3 : q1.1 = (0 : Int32)
  · rw [if_pos hc3] at h
    refine aq_ifF (t := 32) (am_dg dkX12_apart (i := 15) rfl) rfl (decide_eq_false (not_not_intro hc3)) ?_
    refine aq_iinc (v := (1 : Int32)) (L1 := [.ref 82, .int x1, .int (x2 + (1 : Int32))]) (am_dg dkX12_apart (i := 16) rfl) rfl (by decide) rfl ?_
    refine aq_goto (t := 17) (am_dg dkX12_apart (i := 17) rfl) rfl ?_
    exact ih _ _ _ _ h
  · rw [if_neg hc3] at h
    refine aq_ifT (t := 32) (am_dg dkX12_apart (i := 15) rfl) rfl (decide_eq_true hc3) ?_
    refine aq_iload_n (am_dg dkX12_apart (i := 18) rfl) rfl ?_
    refine aq_iconst (v := (-1 : Int32)) (am_dg dkX12_apart (i := 19) rfl) (by decide) ?_
    by_cases hc4 : x1 = (-1 : Int32)
    · rw [if_pos hc4] at h
      refine aq_icF (t := 41) (am_dg dkX12_apart (i := 20) rfl) rfl (decide_eq_false (not_not_intro hc4)) ?_
      refine aq_iload_n (am_dg dkX12_apart (i := 21) rfl) rfl ?_
      refine aq_goto (t := 47) (am_dg dkX12_apart (i := 22) rfl) rfl ?_
      obtain rfl := Option.some.inj h
      exact aq_ireturn (am_dg dkX12_apart (i := 27) rfl) rfl (Or.inl rfl) rfl
    · rw [if_neg hc4] at h
      refine aq_icT (t := 41) (am_dg dkX12_apart (i := 20) rfl) rfl (decide_eq_true hc4) ?_
      refine aq_aload_n (am_dg dkX12_apart (i := 23) rfl) rfl ?_
      refine aq_getR (am_dg dkX12_apart (i := 24) rfl) gk_12_22_82 (rf_82_5 hR) ?_
      refine aq_iload_n (am_dg dkX12_apart (i := 25) rfl) rfl ?_
      obtain ⟨hg5, h⟩ := am_guard h
      refine aq_iald (am_dg dkX12_apart (i := 26) rfl) sh_87 hg5 ?_
      obtain rfl := Option.some.inj h
      exact aq_ireturn (am_dg dkX12_apart (i := 27) rfl) rfl (Or.inl rfl) rfl
set_option maxRecDepth 20000 in
theorem T_X12_apart_82_b15 {sc : Option (Nat × (Nat → Int32))} {RF : Nat → Nat → Option Nat} {d : Nat} (hR : am_RFok RF) (hd : 16 ≤ d) : ∀ (x1 : Int32) (w2 : Value) (s : am_S) (r : Int32 × am_S), F_X12_apart_82_b15 x1 s = some r → am_Q sc d mX12_apart (15, [.ref 82, .int x1, w2], [], am_hp RF s) (.int r.1, am_hp RF r.2) := by
  obtain ⟨e, rfl⟩ : ∃ e, d = e + 1 := ⟨d - 1, by omega⟩
  intro x1 w2 s r h
  unfold F_X12_apart_82_b15 at h
  refine aq_iconst (v := (0 : Int32)) (am_dg dkX12_apart (i := 9) rfl) (by decide) ?_
  refine aq_istore_n (L1 := [.ref 82, .int x1, .int (0 : Int32)]) (am_dg dkX12_apart (i := 10) rfl) rfl ?_
  exact T_X12_apart_82_b17 hR (by omega) _ _ _ _ _ h
set_option maxRecDepth 20000 in
theorem T_X12_apart_82 {sc : Option (Nat × (Nat → Int32))} {RF : Nat → Nat → Option Nat} {d : Nat} (hR : am_RFok RF) (hd : 16 ≤ d) {a1 : Int32} {s : am_S} {r : Int32 × am_S} (h : F_X12_apart_82 a1 s = some r) : am_Q sc d mX12_apart (0, am_L0 mX12_apart [.ref 82, .int a1], [], am_hp RF s) (.int r.1, am_hp RF r.2) := by
  obtain ⟨e, rfl⟩ : ∃ e, d = e + 1 := ⟨d - 1, by omega⟩
  unfold F_X12_apart_82 at h
  show am_Q _ _ _ (0, [.ref 82, .int a1, .null], [], _) _
  refine aq_iload_n (am_dg dkX12_apart (i := 0) rfl) rfl ?_
  refine aq_iconst (v := (-1 : Int32)) (am_dg dkX12_apart (i := 1) rfl) (by decide) ?_
  by_cases hc1 : a1 = (-1 : Int32)
  · rw [if_pos hc1] at h
    refine aq_icT (t := 15) (am_dg dkX12_apart (i := 2) rfl) rfl (decide_eq_true hc1) ?_
    exact T_X12_apart_82_b15 hR (by omega) _ _ _ _ h
  · rw [if_neg hc1] at h
    refine aq_icF (t := 15) (am_dg dkX12_apart (i := 2) rfl) rfl (decide_eq_false hc1) ?_
    refine aq_aload_n (am_dg dkX12_apart (i := 3) rfl) rfl ?_
    refine aq_iload_n (am_dg dkX12_apart (i := 4) rfl) rfl ?_
    obtain ⟨q2, hq3, h⟩ := am_bnd h
    refine aq_virt (a := [.ref 82, .int a1]) (S1 := []) (v1 := .int q2.1) (S2 := [.int q2.1]) (am_dg dkX12_apart (i := 5) rfl) cv_12_90_12 (am_cls_c sh_82 (by decide)) rfl rfl rfl (Nat.le_of_ble_eq_true rfl) (Nat.le_of_ble_eq_true rfl) (T_X12_isVoice_82 hR (by omega) hq3) rfl ?_
    by_cases hc4 : q2.1 = (0 : Int32)
    · rw [if_pos hc4] at h
      refine aq_ifF (t := 15) (am_dg dkX12_apart (i := 6) rfl) rfl (decide_eq_false (not_not_intro hc4)) ?_
      refine aq_iconst (v := (-1 : Int32)) (am_dg dkX12_apart (i := 7) rfl) (by decide) ?_
      obtain rfl := Option.some.inj h
      exact aq_ireturn (am_dg dkX12_apart (i := 8) rfl) rfl (Or.inl rfl) rfl
    · rw [if_neg hc4] at h
      refine aq_ifT (t := 15) (am_dg dkX12_apart (i := 6) rfl) rfl (decide_eq_true hc4) ?_
      exact T_X12_apart_82_b15 hR (by omega) _ _ _ _ h
set_option maxRecDepth 20000 in
theorem T_X3_strengthOf_50_b4 {sc : Option (Nat × (Nat → Int32))} {RF : Nat → Nat → Option Nat} {d : Nat} (hR : am_RFok RF) (hd : 0 ≤ d) : ∀ (n : Nat) (x1 : Int32) (x2 : Int32) (x3 : Int32) (s : am_S) (r : Int32 × am_S), F_X3_strengthOf_50_b4 n x1 x2 x3 s = some r → am_Q sc d mX3_strengthOf (4, [.ref 50, .int x1, .int x2, .int x3], [], am_hp RF s) (.int r.1, am_hp RF r.2) := by
  intro n
  induction n with
  | zero => intro x1 x2 x3 s r h; rw [F_X3_strengthOf_50_b4] at h; cases h
  | succ n ih =>
  intro x1 x2 x3 s r h
  rw [F_X3_strengthOf_50_b4] at h
  refine aq_iload_n (am_dg dkX3_strengthOf (i := 4) rfl) rfl ?_
  refine aq_aload_n (am_dg dkX3_strengthOf (i := 5) rfl) rfl ?_
  refine aq_getR (am_dg dkX3_strengthOf (i := 6) rfl) gk_3_37_50 (rf_50_0 hR) ?_
  refine aq_getI (am_dg dkX3_strengthOf (i := 7) rfl) gk_3_91_8 (by decide) ?_
  by_cases hc1 : (s.1 8 5) ≤ x3
  · rw [if_pos hc1] at h
    refine aq_icT (t := 39) (am_dg dkX3_strengthOf (i := 8) rfl) rfl (decide_eq_true hc1) ?_
    refine aq_iload_n (am_dg dkX3_strengthOf (i := 25) rfl) rfl ?_
    obtain rfl := Option.some.inj h
    exact aq_ireturn (am_dg dkX3_strengthOf (i := 26) rfl) rfl (Or.inl rfl) rfl
  · rw [if_neg hc1] at h
    refine aq_icF (t := 39) (am_dg dkX3_strengthOf (i := 8) rfl) rfl (decide_eq_false hc1) ?_
    refine aq_iload_n (am_dg dkX3_strengthOf (i := 9) rfl) rfl ?_
    refine aq_iload_n (am_dg dkX3_strengthOf (i := 10) rfl) rfl ?_
    refine aq_iload_n (am_dg dkX3_strengthOf (i := 11) rfl) rfl ?_
    refine aq_ishr (am_dg dkX3_strengthOf (i := 12) rfl) ?_
    refine aq_iconst (v := (1 : Int32)) (am_dg dkX3_strengthOf (i := 13) rfl) (by decide) ?_
    refine aq_iand (am_dg dkX3_strengthOf (i := 14) rfl) ?_
    refine aq_aload_n (am_dg dkX3_strengthOf (i := 15) rfl) rfl ?_
    refine aq_getR (am_dg dkX3_strengthOf (i := 16) rfl) gk_3_37_50 (rf_50_0 hR) ?_
    refine aq_getR (am_dg dkX3_strengthOf (i := 17) rfl) gk_3_110_8 (rf_8_11 hR) ?_
    refine aq_iload_n (am_dg dkX3_strengthOf (i := 18) rfl) rfl ?_
    obtain ⟨hg2, h⟩ := am_guard h
    refine aq_iald (am_dg dkX3_strengthOf (i := 19) rfl) sh_12 hg2 ?_
    refine aq_imul (am_dg dkX3_strengthOf (i := 20) rfl) ?_
    refine aq_iadd (am_dg dkX3_strengthOf (i := 21) rfl) ?_
    obtain ⟨v3, hv4, h⟩ := am_bnd h
    rw [Option.some.inj hv4]
    refine aq_istore_n (L1 := [.ref 50, .int x1, .int v3, .int x3]) (am_dg dkX3_strengthOf (i := 22) rfl) rfl ?_
    refine aq_iinc (v := (1 : Int32)) (L1 := [.ref 50, .int x1, .int v3, .int (x3 + (1 : Int32))]) (am_dg dkX3_strengthOf (i := 23) rfl) rfl (by decide) rfl ?_
    refine aq_goto (t := 4) (am_dg dkX3_strengthOf (i := 24) rfl) rfl ?_
    exact ih _ _ _ _ _ h
set_option maxRecDepth 20000 in
theorem T_X3_strengthOf_50 {sc : Option (Nat × (Nat → Int32))} {RF : Nat → Nat → Option Nat} {d : Nat} (hR : am_RFok RF) (hd : 0 ≤ d) {a1 : Int32} {s : am_S} {r : Int32 × am_S} (h : F_X3_strengthOf_50 a1 s = some r) : am_Q sc d mX3_strengthOf (0, am_L0 mX3_strengthOf [.ref 50, .int a1], [], am_hp RF s) (.int r.1, am_hp RF r.2) := by
  unfold F_X3_strengthOf_50 at h
  show am_Q _ _ _ (0, [.ref 50, .int a1, .null, .null], [], _) _
  refine aq_iconst (v := (0 : Int32)) (am_dg dkX3_strengthOf (i := 0) rfl) (by decide) ?_
  refine aq_istore_n (L1 := [.ref 50, .int a1, .int (0 : Int32), .null]) (am_dg dkX3_strengthOf (i := 1) rfl) rfl ?_
  refine aq_iconst (v := (0 : Int32)) (am_dg dkX3_strengthOf (i := 2) rfl) (by decide) ?_
  refine aq_istore_n (L1 := [.ref 50, .int a1, .int (0 : Int32), .int (0 : Int32)]) (am_dg dkX3_strengthOf (i := 3) rfl) rfl ?_
  exact T_X3_strengthOf_50_b4 hR (by omega) _ _ _ _ _ _ h
set_option maxRecDepth 20000 in
theorem T_X3_isChoir_50_b44 {sc : Option (Nat × (Nat → Int32))} {RF : Nat → Nat → Option Nat} {d : Nat} (hR : am_RFok RF) (hd : 1 ≤ d) {k2 : Int32 → Int32 → am_S → Option (Int32 × am_S)} (hk2 : ∀ (x1 : Int32) (x2 : Int32) (w3 : Value) (s2 : am_S) (r2 : Int32 × am_S), k2 x1 x2 s2 = some r2 → am_Q sc d mX3_isChoir (2, [.ref 50, .int x1, .int x2, w3], [], am_hp RF s2) (.int r2.1, am_hp RF r2.2)) {k15 : Int32 → Int32 → Int32 → am_S → Option (Int32 × am_S)} (hk15 : ∀ (x1 : Int32) (x2 : Int32) (x3 : Int32) (s2 : am_S) (r2 : Int32 × am_S), k15 x1 x2 x3 s2 = some r2 → am_Q sc d mX3_isChoir (15, [.ref 50, .int x1, .int x2, .int x3], [], am_hp RF s2) (.int r2.1, am_hp RF r2.2)) : ∀ (x1 : Int32) (x2 : Int32) (x3 : Int32) (s : am_S) (r : Int32 × am_S), F_X3_isChoir_50_b44 k2 k15 x1 x2 x3 s = some r → am_Q sc d mX3_isChoir (44, [.ref 50, .int x1, .int x2, .int x3], [], am_hp RF s) (.int r.1, am_hp RF r.2) := by
  obtain ⟨e, rfl⟩ : ∃ e, d = e + 1 := ⟨d - 1, by omega⟩
  intro x1 x2 x3 s r h
  unfold F_X3_isChoir_50_b44 at h
  refine aq_iinc (v := (1 : Int32)) (L1 := [.ref 50, .int x1, .int x2, .int (x3 + (1 : Int32))]) (am_dg dkX3_isChoir (i := 30) rfl) rfl (by decide) rfl ?_
  refine aq_goto (t := 15) (am_dg dkX3_isChoir (i := 31) rfl) rfl ?_
  exact hk15 _ _ _ _ _ h
set_option maxRecDepth 20000 in
theorem T_X3_isChoir_50_b15 {sc : Option (Nat × (Nat → Int32))} {RF : Nat → Nat → Option Nat} {d : Nat} (hR : am_RFok RF) (hd : 1 ≤ d) {k2 : Int32 → Int32 → am_S → Option (Int32 × am_S)} (hk2 : ∀ (x1 : Int32) (x2 : Int32) (w3 : Value) (s2 : am_S) (r2 : Int32 × am_S), k2 x1 x2 s2 = some r2 → am_Q sc d mX3_isChoir (2, [.ref 50, .int x1, .int x2, w3], [], am_hp RF s2) (.int r2.1, am_hp RF r2.2)) : ∀ (n : Nat) (x1 : Int32) (x2 : Int32) (x3 : Int32) (s : am_S) (r : Int32 × am_S), F_X3_isChoir_50_b15 k2 n x1 x2 x3 s = some r → am_Q sc d mX3_isChoir (15, [.ref 50, .int x1, .int x2, .int x3], [], am_hp RF s) (.int r.1, am_hp RF r.2) := by
  obtain ⟨e, rfl⟩ : ∃ e, d = e + 1 := ⟨d - 1, by omega⟩
  intro n
  induction n with
  | zero => intro x1 x2 x3 s r h; rw [F_X3_isChoir_50_b15] at h; cases h
  | succ n ih =>
  intro x1 x2 x3 s r h
  rw [F_X3_isChoir_50_b15] at h
  refine aq_iload_n (am_dg dkX3_isChoir (i := 9) rfl) rfl ?_
  refine aq_iload_n (am_dg dkX3_isChoir (i := 10) rfl) rfl ?_
  by_cases hc1 : x2 ≤ x3
  · rw [if_pos hc1] at h
    refine aq_icT (t := 50) (am_dg dkX3_isChoir (i := 11) rfl) rfl (decide_eq_true hc1) ?_
    refine aq_iinc (v := (1 : Int32)) (L1 := [.ref 50, .int x1, .int (x2 + (1 : Int32)), .int x3]) (am_dg dkX3_isChoir (i := 32) rfl) rfl (by decide) rfl ?_
    refine aq_goto (t := 2) (am_dg dkX3_isChoir (i := 33) rfl) rfl ?_
    exact hk2 _ _ _ _ _ h
  · rw [if_neg hc1] at h
    refine aq_icF (t := 50) (am_dg dkX3_isChoir (i := 11) rfl) rfl (decide_eq_false hc1) ?_
    refine aq_iload_n (am_dg dkX3_isChoir (i := 12) rfl) rfl ?_
    refine aq_iload_n (am_dg dkX3_isChoir (i := 13) rfl) rfl ?_
    refine aq_ishr (am_dg dkX3_isChoir (i := 14) rfl) ?_
    refine aq_iload_n (am_dg dkX3_isChoir (i := 15) rfl) rfl ?_
    refine aq_iload_n (am_dg dkX3_isChoir (i := 16) rfl) rfl ?_
    refine aq_ishr (am_dg dkX3_isChoir (i := 17) rfl) ?_
    refine aq_iand (am_dg dkX3_isChoir (i := 18) rfl) ?_
    refine aq_iconst (v := (1 : Int32)) (am_dg dkX3_isChoir (i := 19) rfl) (by decide) ?_
    refine aq_iand (am_dg dkX3_isChoir (i := 20) rfl) ?_
    refine aq_iconst (v := (1 : Int32)) (am_dg dkX3_isChoir (i := 21) rfl) (by decide) ?_
    by_cases hc2 : (((x1 >>> (x2 &&& 31)) &&& (x1 >>> (x3 &&& 31))) &&& (1 : Int32)) = (1 : Int32)
    · rw [if_pos hc2] at h
      refine aq_icF (t := 44) (am_dg dkX3_isChoir (i := 22) rfl) rfl (decide_eq_false (not_not_intro hc2)) ?_
      refine aq_aload_n (am_dg dkX3_isChoir (i := 23) rfl) rfl ?_
      refine aq_iload_n (am_dg dkX3_isChoir (i := 24) rfl) rfl ?_
      refine aq_iload_n (am_dg dkX3_isChoir (i := 25) rfl) rfl ?_
      obtain ⟨q3, hq4, h⟩ := am_bnd h
      refine aq_virt (a := [.ref 50, .int x2, .int x3]) (S1 := []) (v1 := .int q3.1) (S2 := [.int q3.1]) (am_dg dkX3_isChoir (i := 26) rfl) cv_3_94_3 (am_cls_c sh_50 (by decide)) rfl rfl rfl (Nat.le_of_ble_eq_true rfl) (Nat.le_of_ble_eq_true rfl) (T_X3_isQuarrel_50 hR (by omega) hq4) rfl ?_
      by_cases hc5 : q3.1 = (0 : Int32)
      · rw [if_pos hc5] at h
        refine aq_ifT (t := 44) (am_dg dkX3_isChoir (i := 27) rfl) rfl (decide_eq_true hc5) ?_
        exact T_X3_isChoir_50_b44 hR (by omega) hk2 ih _ _ _ _ _ h
      · rw [if_neg hc5] at h
        refine aq_ifF (t := 44) (am_dg dkX3_isChoir (i := 27) rfl) rfl (decide_eq_false hc5) ?_
        refine aq_iconst (v := (0 : Int32)) (am_dg dkX3_isChoir (i := 28) rfl) (by decide) ?_
        obtain rfl := Option.some.inj h
        exact aq_ireturn (am_dg dkX3_isChoir (i := 29) rfl) rfl (Or.inr (Or.inl rfl)) rfl
    · rw [if_neg hc2] at h
      refine aq_icT (t := 44) (am_dg dkX3_isChoir (i := 22) rfl) rfl (decide_eq_true hc2) ?_
      exact T_X3_isChoir_50_b44 hR (by omega) hk2 ih _ _ _ _ _ h
set_option maxRecDepth 20000 in
theorem T_X3_isChoir_50_b2 {sc : Option (Nat × (Nat → Int32))} {RF : Nat → Nat → Option Nat} {d : Nat} (hR : am_RFok RF) (hd : 1 ≤ d) : ∀ (n : Nat) (x1 : Int32) (x2 : Int32) (w3 : Value) (s : am_S) (r : Int32 × am_S), F_X3_isChoir_50_b2 n x1 x2 s = some r → am_Q sc d mX3_isChoir (2, [.ref 50, .int x1, .int x2, w3], [], am_hp RF s) (.int r.1, am_hp RF r.2) := by
  obtain ⟨e, rfl⟩ : ∃ e, d = e + 1 := ⟨d - 1, by omega⟩
  intro n
  induction n with
  | zero => intro x1 x2 w3 s r h; rw [F_X3_isChoir_50_b2] at h; cases h
  | succ n ih =>
  intro x1 x2 w3 s r h
  rw [F_X3_isChoir_50_b2] at h
  refine aq_iload_n (am_dg dkX3_isChoir (i := 2) rfl) rfl ?_
  refine aq_aload_n (am_dg dkX3_isChoir (i := 3) rfl) rfl ?_
  refine aq_getR (am_dg dkX3_isChoir (i := 4) rfl) gk_3_37_50 (rf_50_0 hR) ?_
  refine aq_getI (am_dg dkX3_isChoir (i := 5) rfl) gk_3_91_8 (by decide) ?_
  by_cases hc1 : (s.1 8 5) ≤ x2
  · rw [if_pos hc1] at h
    refine aq_icT (t := 56) (am_dg dkX3_isChoir (i := 6) rfl) rfl (decide_eq_true hc1) ?_
    refine aq_iconst (v := (1 : Int32)) (am_dg dkX3_isChoir (i := 34) rfl) (by decide) ?_
    obtain rfl := Option.some.inj h
    exact aq_ireturn (am_dg dkX3_isChoir (i := 35) rfl) rfl (Or.inr (Or.inl rfl)) rfl
  · rw [if_neg hc1] at h
    refine aq_icF (t := 56) (am_dg dkX3_isChoir (i := 6) rfl) rfl (decide_eq_false hc1) ?_
    refine aq_iconst (v := (0 : Int32)) (am_dg dkX3_isChoir (i := 7) rfl) (by decide) ?_
    refine aq_istore_n (L1 := [.ref 50, .int x1, .int x2, .int (0 : Int32)]) (am_dg dkX3_isChoir (i := 8) rfl) rfl ?_
    exact T_X3_isChoir_50_b15 hR (by omega) ih _ _ _ _ _ _ h
set_option maxRecDepth 20000 in
theorem T_X3_isChoir_50 {sc : Option (Nat × (Nat → Int32))} {RF : Nat → Nat → Option Nat} {d : Nat} (hR : am_RFok RF) (hd : 1 ≤ d) {a1 : Int32} {s : am_S} {r : Int32 × am_S} (h : F_X3_isChoir_50 a1 s = some r) : am_Q sc d mX3_isChoir (0, am_L0 mX3_isChoir [.ref 50, .int a1], [], am_hp RF s) (.int r.1, am_hp RF r.2) := by
  obtain ⟨e, rfl⟩ : ∃ e, d = e + 1 := ⟨d - 1, by omega⟩
  unfold F_X3_isChoir_50 at h
  show am_Q _ _ _ (0, [.ref 50, .int a1, .null, .null], [], _) _
  refine aq_iconst (v := (0 : Int32)) (am_dg dkX3_isChoir (i := 0) rfl) (by decide) ?_
  refine aq_istore_n (L1 := [.ref 50, .int a1, .int (0 : Int32), .null]) (am_dg dkX3_isChoir (i := 1) rfl) rfl ?_
  exact T_X3_isChoir_50_b2 hR (by omega) _ _ _ _ _ _ h
set_option maxRecDepth 20000 in
theorem T_X3_loudestChoir_50_b45 {sc : Option (Nat × (Nat → Int32))} {RF : Nat → Nat → Option Nat} {d : Nat} (hR : am_RFok RF) (hd : 2 ≤ d) {k6 : Int32 → Int32 → Int32 → am_S → Option (Int32 × am_S)} (hk6 : ∀ (x1 : Int32) (x2 : Int32) (x3 : Int32) (w4 : Value) (s2 : am_S) (r2 : Int32 × am_S), k6 x1 x2 x3 s2 = some r2 → am_Q sc d mX3_loudestChoir (6, [.ref 50, .int x1, .int x2, .int x3, w4], [], am_hp RF s2) (.int r2.1, am_hp RF r2.2)) : ∀ (x1 : Int32) (x2 : Int32) (x3 : Int32) (w4 : Value) (s : am_S) (r : Int32 × am_S), F_X3_loudestChoir_50_b45 k6 x1 x2 x3 s = some r → am_Q sc d mX3_loudestChoir (45, [.ref 50, .int x1, .int x2, .int x3, w4], [], am_hp RF s) (.int r.1, am_hp RF r.2) := by
  obtain ⟨e, rfl⟩ : ∃ e, d = e + 1 := ⟨d - 1, by omega⟩
  intro x1 x2 x3 w4 s r h
  unfold F_X3_loudestChoir_50_b45 at h
  refine aq_iinc (v := (1 : Int32)) (L1 := [.ref 50, .int x1, .int x2, .int (x3 + (1 : Int32)), w4]) (am_dg dkX3_loudestChoir (i := 28) rfl) rfl (by decide) rfl ?_
  refine aq_goto (t := 6) (am_dg dkX3_loudestChoir (i := 29) rfl) rfl ?_
  exact hk6 _ _ _ _ _ _ h
set_option maxRecDepth 20000 in
theorem T_X3_loudestChoir_50_b6 {sc : Option (Nat × (Nat → Int32))} {RF : Nat → Nat → Option Nat} {d : Nat} (hR : am_RFok RF) (hd : 2 ≤ d) : ∀ (n : Nat) (x1 : Int32) (x2 : Int32) (x3 : Int32) (w4 : Value) (s : am_S) (r : Int32 × am_S), F_X3_loudestChoir_50_b6 n x1 x2 x3 s = some r → am_Q sc d mX3_loudestChoir (6, [.ref 50, .int x1, .int x2, .int x3, w4], [], am_hp RF s) (.int r.1, am_hp RF r.2) := by
  obtain ⟨e, rfl⟩ : ∃ e, d = e + 1 := ⟨d - 1, by omega⟩
  intro n
  induction n with
  | zero => intro x1 x2 x3 w4 s r h; rw [F_X3_loudestChoir_50_b6] at h; cases h
  | succ n ih =>
  intro x1 x2 x3 w4 s r h
  rw [F_X3_loudestChoir_50_b6] at h
  refine aq_iload_n (am_dg dkX3_loudestChoir (i := 6) rfl) rfl ?_
  refine aq_iconst (v := (1 : Int32)) (am_dg dkX3_loudestChoir (i := 7) rfl) (by decide) ?_
  refine aq_aload_n (am_dg dkX3_loudestChoir (i := 8) rfl) rfl ?_
  refine aq_getR (am_dg dkX3_loudestChoir (i := 9) rfl) gk_3_37_50 (rf_50_0 hR) ?_
  refine aq_getI (am_dg dkX3_loudestChoir (i := 10) rfl) gk_3_91_8 (by decide) ?_
  refine aq_ishl (am_dg dkX3_loudestChoir (i := 11) rfl) ?_
  by_cases hc1 : ((1 : Int32) <<< ((s.1 8 5) &&& 31)) ≤ x3
  · rw [if_pos hc1] at h
    refine aq_icT (t := 51) (am_dg dkX3_loudestChoir (i := 12) rfl) rfl (decide_eq_true hc1) ?_
    refine aq_iload_n (am_dg dkX3_loudestChoir (i := 30) rfl) rfl ?_
    obtain rfl := Option.some.inj h
    exact aq_ireturn (am_dg dkX3_loudestChoir (i := 31) rfl) rfl (Or.inl rfl) rfl
  · rw [if_neg hc1] at h
    refine aq_icF (t := 51) (am_dg dkX3_loudestChoir (i := 12) rfl) rfl (decide_eq_false hc1) ?_
    refine aq_aload_n (am_dg dkX3_loudestChoir (i := 13) rfl) rfl ?_
    refine aq_iload_n (am_dg dkX3_loudestChoir (i := 14) rfl) rfl ?_
    obtain ⟨q2, hq3, h⟩ := am_bnd h
    refine aq_virt (a := [.ref 50, .int x3]) (S1 := []) (v1 := .int q2.1) (S2 := [.int q2.1]) (am_dg dkX3_loudestChoir (i := 15) rfl) cv_3_104_3 (am_cls_c sh_50 (by decide)) rfl rfl rfl (Nat.le_of_ble_eq_true rfl) (Nat.le_of_ble_eq_true rfl) (T_X3_strengthOf_50 hR (by omega) hq3) rfl ?_
    refine aq_istore (L1 := [.ref 50, .int x1, .int x2, .int x3, .int q2.1]) (am_dg dkX3_loudestChoir (i := 16) rfl) rfl ?_
    refine aq_iload (am_dg dkX3_loudestChoir (i := 17) rfl) rfl ?_
    refine aq_iload_n (am_dg dkX3_loudestChoir (i := 18) rfl) rfl ?_
    by_cases hc4 : q2.1 ≤ x2
    · rw [if_pos hc4] at h
      refine aq_icT (t := 45) (am_dg dkX3_loudestChoir (i := 19) rfl) rfl (decide_eq_true hc4) ?_
      exact T_X3_loudestChoir_50_b45 hR (by omega) ih _ _ _ _ _ _ h
    · rw [if_neg hc4] at h
      refine aq_icF (t := 45) (am_dg dkX3_loudestChoir (i := 19) rfl) rfl (decide_eq_false hc4) ?_
      refine aq_aload_n (am_dg dkX3_loudestChoir (i := 20) rfl) rfl ?_
      refine aq_iload_n (am_dg dkX3_loudestChoir (i := 21) rfl) rfl ?_
      obtain ⟨q5, hq6, h⟩ := am_bnd h
      refine aq_virt (a := [.ref 50, .int x3]) (S1 := []) (v1 := .int q5.1) (S2 := [.int q5.1]) (am_dg dkX3_loudestChoir (i := 22) rfl) cv_3_107_3 (am_cls_c sh_50 (by decide)) rfl rfl rfl (Nat.le_of_ble_eq_true rfl) (Nat.le_of_ble_eq_true rfl) (T_X3_isChoir_50 hR (by omega) hq6) rfl ?_
      by_cases hc7 : q5.1 = (0 : Int32)
      · rw [if_pos hc7] at h
        refine aq_ifT (t := 45) (am_dg dkX3_loudestChoir (i := 23) rfl) rfl (decide_eq_true hc7) ?_
        exact T_X3_loudestChoir_50_b45 hR (by omega) ih _ _ _ _ _ _ h
      · rw [if_neg hc7] at h
        refine aq_ifF (t := 45) (am_dg dkX3_loudestChoir (i := 23) rfl) rfl (decide_eq_false hc7) ?_
        refine aq_iload_n (am_dg dkX3_loudestChoir (i := 24) rfl) rfl ?_
        refine aq_istore_n (L1 := [.ref 50, .int x3, .int x2, .int x3, .int q2.1]) (am_dg dkX3_loudestChoir (i := 25) rfl) rfl ?_
        refine aq_iload (am_dg dkX3_loudestChoir (i := 26) rfl) rfl ?_
        refine aq_istore_n (L1 := [.ref 50, .int x3, .int q2.1, .int x3, .int q2.1]) (am_dg dkX3_loudestChoir (i := 27) rfl) rfl ?_
        exact T_X3_loudestChoir_50_b45 hR (by omega) ih _ _ _ _ _ _ h
set_option maxRecDepth 20000 in
theorem T_X3_loudestChoir_50 {sc : Option (Nat × (Nat → Int32))} {RF : Nat → Nat → Option Nat} {d : Nat} (hR : am_RFok RF) (hd : 2 ≤ d) {s : am_S} {r : Int32 × am_S} (h : F_X3_loudestChoir_50 s = some r) : am_Q sc d mX3_loudestChoir (0, am_L0 mX3_loudestChoir [.ref 50], [], am_hp RF s) (.int r.1, am_hp RF r.2) := by
  obtain ⟨e, rfl⟩ : ∃ e, d = e + 1 := ⟨d - 1, by omega⟩
  unfold F_X3_loudestChoir_50 at h
  show am_Q _ _ _ (0, [.ref 50, .null, .null, .null, .null], [], _) _
  refine aq_iconst (v := (0 : Int32)) (am_dg dkX3_loudestChoir (i := 0) rfl) (by decide) ?_
  refine aq_istore_n (L1 := [.ref 50, .int (0 : Int32), .null, .null, .null]) (am_dg dkX3_loudestChoir (i := 1) rfl) rfl ?_
  refine aq_iconst (v := (0 : Int32)) (am_dg dkX3_loudestChoir (i := 2) rfl) (by decide) ?_
  refine aq_istore_n (L1 := [.ref 50, .int (0 : Int32), .int (0 : Int32), .null, .null]) (am_dg dkX3_loudestChoir (i := 3) rfl) rfl ?_
  refine aq_iconst (v := (1 : Int32)) (am_dg dkX3_loudestChoir (i := 4) rfl) (by decide) ?_
  refine aq_istore_n (L1 := [.ref 50, .int (0 : Int32), .int (0 : Int32), .int (1 : Int32), .null]) (am_dg dkX3_loudestChoir (i := 5) rfl) rfl ?_
  exact T_X3_loudestChoir_50_b6 hR (by omega) _ _ _ _ _ _ _ h
set_option maxRecDepth 20000 in
theorem T_X11_choir_0 {sc : Option (Nat × (Nat → Int32))} {RF : Nat → Nat → Option Nat} {d : Nat} (hR : am_RFok RF) (hd : 3 ≤ d) {a1 : Int32} {s : am_S} {r : Int32 × am_S} (h : F_X11_choir_0 a1 s = some r) : am_Q sc d mX11_choir (0, am_L0 mX11_choir [.ref 0, .int a1], [], am_hp RF s) (.int r.1, am_hp RF r.2) := by
  obtain ⟨e, rfl⟩ : ∃ e, d = e + 1 := ⟨d - 1, by omega⟩
  unfold F_X11_choir_0 at h
  show am_Q _ _ _ (0, [.ref 0, .int a1, .null], [], _) _
  refine aq_iload_n (am_dg dkX11_choir (i := 0) rfl) rfl ?_
  refine aq_iconst (v := (0 : Int32)) (am_dg dkX11_choir (i := 1) rfl) (by decide) ?_
  refine aq_iconst (v := (1 : Int32)) (am_dg dkX11_choir (i := 2) rfl) (by decide) ?_
  obtain ⟨q1, hq2, h⟩ := am_bnd h
  refine aq_static (a := [.int a1, .int (0 : Int32), .int (1 : Int32)]) (S1 := []) (v1 := .int q1.1) (S2 := [.int q1.1]) (am_dg dkX11_choir (i := 3) rfl) ct_11_149 rfl rfl rfl (Nat.le_of_ble_eq_true rfl) (Nat.le_of_ble_eq_true rfl) (T_X11_isWithin hR (by omega) hq2) rfl ?_
  by_cases hc3 : q1.1 = (0 : Int32)
  · rw [if_pos hc3] at h
    refine aq_ifF (t := 11) (am_dg dkX11_choir (i := 4) rfl) rfl (decide_eq_false (not_not_intro hc3)) ?_
    refine aq_iconst (v := (-1 : Int32)) (am_dg dkX11_choir (i := 5) rfl) (by decide) ?_
    obtain rfl := Option.some.inj h
    exact aq_ireturn (am_dg dkX11_choir (i := 6) rfl) rfl (Or.inl rfl) rfl
  · rw [if_neg hc3] at h
    refine aq_ifT (t := 11) (am_dg dkX11_choir (i := 4) rfl) rfl (decide_eq_true hc3) ?_
    refine aq_aload_n (am_dg dkX11_choir (i := 7) rfl) rfl ?_
    refine aq_getR (am_dg dkX11_choir (i := 8) rfl) gk_11_55_0 (rf_0_4 hR) ?_
    obtain ⟨q4, hq5, h⟩ := am_bnd h
    refine aq_virt (a := [.ref 50]) (S1 := []) (v1 := .int q4.1) (S2 := [.int q4.1]) (am_dg dkX11_choir (i := 9) rfl) cv_11_236_3 (am_cls_c sh_50 (by decide)) rfl rfl rfl (Nat.le_of_ble_eq_true rfl) (Nat.le_of_ble_eq_true rfl) (T_X3_loudestChoir_50 hR (by omega) hq5) rfl ?_
    refine aq_istore_n (L1 := [.ref 0, .int a1, .int q4.1]) (am_dg dkX11_choir (i := 10) rfl) rfl ?_
    refine aq_iload_n (am_dg dkX11_choir (i := 11) rfl) rfl ?_
    by_cases hc6 : a1 = (0 : Int32)
    · rw [if_pos hc6] at h
      refine aq_ifF (t := 27) (am_dg dkX11_choir (i := 12) rfl) rfl (decide_eq_false (not_not_intro hc6)) ?_
      refine aq_iload_n (am_dg dkX11_choir (i := 13) rfl) rfl ?_
      refine aq_goto (t := 35) (am_dg dkX11_choir (i := 14) rfl) rfl ?_
      obtain rfl := Option.some.inj h
      exact aq_ireturn (am_dg dkX11_choir (i := 19) rfl) rfl (Or.inl rfl) rfl
    · rw [if_neg hc6] at h
      refine aq_ifT (t := 27) (am_dg dkX11_choir (i := 12) rfl) rfl (decide_eq_true hc6) ?_
      refine aq_aload_n (am_dg dkX11_choir (i := 15) rfl) rfl ?_
      refine aq_getR (am_dg dkX11_choir (i := 16) rfl) gk_11_55_0 (rf_0_4 hR) ?_
      refine aq_iload_n (am_dg dkX11_choir (i := 17) rfl) rfl ?_
      obtain ⟨q7, hq8, h⟩ := am_bnd h
      refine aq_virt (a := [.ref 50, .int q4.1]) (S1 := []) (v1 := .int q7.1) (S2 := [.int q7.1]) (am_dg dkX11_choir (i := 18) rfl) cv_11_239_3 (am_cls_c sh_50 (by decide)) rfl rfl rfl (Nat.le_of_ble_eq_true rfl) (Nat.le_of_ble_eq_true rfl) (T_X3_strengthOf_50 hR (by omega) hq8) rfl ?_
      obtain rfl := Option.some.inj h
      exact aq_ireturn (am_dg dkX11_choir (i := 19) rfl) rfl (Or.inl rfl) rfl
set_option maxRecDepth 20000 in
theorem T_X12_strengthOf_82_b34 {sc : Option (Nat × (Nat → Int32))} {RF : Nat → Nat → Option Nat} {d : Nat} (hR : am_RFok RF) (hd : 2 ≤ d) {k4 : Int32 → Int32 → Int32 → am_S → Option (Int32 × am_S)} (hk4 : ∀ (x1 : Int32) (x2 : Int32) (x3 : Int32) (s2 : am_S) (r2 : Int32 × am_S), k4 x1 x2 x3 s2 = some r2 → am_Q sc d mX12_strengthOf (4, [.ref 82, .int x1, .int x2, .int x3], [], am_hp RF s2) (.int r2.1, am_hp RF r2.2)) : ∀ (x1 : Int32) (x3 : Int32) (y0 : Int32) (y1 : Int32) (w2 : Value) (s : am_S) (r : Int32 × am_S), F_X12_strengthOf_82_b34 k4 x1 x3 y0 y1 s = some r → am_Q sc d mX12_strengthOf (34, [.ref 82, .int x1, w2, .int x3], [.int y0, .int y1], am_hp RF s) (.int r.1, am_hp RF r.2) := by
  obtain ⟨e, rfl⟩ : ∃ e, d = e + 1 := ⟨d - 1, by omega⟩
  intro x1 x3 y0 y1 w2 s r h
  unfold F_X12_strengthOf_82_b34 at h
  refine aq_iadd (am_dg dkX12_strengthOf (i := 24) rfl) ?_
  refine aq_istore_n (L1 := [.ref 82, .int x1, .int (y1 + y0), .int x3]) (am_dg dkX12_strengthOf (i := 25) rfl) rfl ?_
  refine aq_iinc (v := (1 : Int32)) (L1 := [.ref 82, .int x1, .int (y1 + y0), .int (x3 + (1 : Int32))]) (am_dg dkX12_strengthOf (i := 26) rfl) rfl (by decide) rfl ?_
  refine aq_goto (t := 4) (am_dg dkX12_strengthOf (i := 27) rfl) rfl ?_
  exact hk4 _ _ _ _ _ h
set_option maxRecDepth 20000 in
theorem T_X12_strengthOf_82_b4 {sc : Option (Nat × (Nat → Int32))} {RF : Nat → Nat → Option Nat} {d : Nat} (hR : am_RFok RF) (hd : 2 ≤ d) : ∀ (n : Nat) (x1 : Int32) (x2 : Int32) (x3 : Int32) (s : am_S) (r : Int32 × am_S), F_X12_strengthOf_82_b4 n x1 x2 x3 s = some r → am_Q sc d mX12_strengthOf (4, [.ref 82, .int x1, .int x2, .int x3], [], am_hp RF s) (.int r.1, am_hp RF r.2) := by
  obtain ⟨e, rfl⟩ : ∃ e, d = e + 1 := ⟨d - 1, by omega⟩
  intro n
  induction n with
  | zero => intro x1 x2 x3 s r h; rw [F_X12_strengthOf_82_b4] at h; cases h
  | succ n ih =>
  intro x1 x2 x3 s r h
  rw [F_X12_strengthOf_82_b4] at h
  refine aq_iload_n (am_dg dkX12_strengthOf (i := 4) rfl) rfl ?_
  refine aq_aload_n (am_dg dkX12_strengthOf (i := 5) rfl) rfl ?_
  refine aq_getR (am_dg dkX12_strengthOf (i := 6) rfl) gk_12_7_82 (rf_82_0 hR) ?_
  refine aq_iconst (v := (0 : Int32)) (am_dg dkX12_strengthOf (i := 7) rfl) (by decide) ?_
  obtain ⟨hg1, h⟩ := am_guard h
  refine aq_iald (am_dg dkX12_strengthOf (i := 8) rfl) sh_83 hg1 ?_
  by_cases hc2 : (s.1 83 (0 : Int32).toNatClampNeg) ≤ x3
  · rw [if_pos hc2] at h
    refine aq_icT (t := 42) (am_dg dkX12_strengthOf (i := 9) rfl) rfl (decide_eq_true hc2) ?_
    refine aq_iload_n (am_dg dkX12_strengthOf (i := 28) rfl) rfl ?_
    obtain rfl := Option.some.inj h
    exact aq_ireturn (am_dg dkX12_strengthOf (i := 29) rfl) rfl (Or.inl rfl) rfl
  · rw [if_neg hc2] at h
    refine aq_icF (t := 42) (am_dg dkX12_strengthOf (i := 9) rfl) rfl (decide_eq_false hc2) ?_
    refine aq_iload_n (am_dg dkX12_strengthOf (i := 10) rfl) rfl ?_
    refine aq_iload_n (am_dg dkX12_strengthOf (i := 11) rfl) rfl ?_
    refine aq_iload_n (am_dg dkX12_strengthOf (i := 12) rfl) rfl ?_
    refine aq_ishr (am_dg dkX12_strengthOf (i := 13) rfl) ?_
    refine aq_iconst (v := (1 : Int32)) (am_dg dkX12_strengthOf (i := 14) rfl) (by decide) ?_
    refine aq_iand (am_dg dkX12_strengthOf (i := 15) rfl) ?_
    refine aq_iconst (v := (1 : Int32)) (am_dg dkX12_strengthOf (i := 16) rfl) (by decide) ?_
    by_cases hc3 : ((x1 >>> (x3 &&& 31)) &&& (1 : Int32)) = (1 : Int32)
    · rw [if_pos hc3] at h
      refine aq_icF (t := 33) (am_dg dkX12_strengthOf (i := 17) rfl) rfl (decide_eq_false (not_not_intro hc3)) ?_
      refine aq_aload_n (am_dg dkX12_strengthOf (i := 18) rfl) rfl ?_
      refine aq_iload_n (am_dg dkX12_strengthOf (i := 19) rfl) rfl ?_
      refine aq_iconst (v := (2 : Int32)) (am_dg dkX12_strengthOf (i := 20) rfl) (by decide) ?_
      obtain ⟨q4, hq5, h⟩ := am_bnd h
      refine aq_virt (a := [.ref 82, .int x3, .int (2 : Int32)]) (S1 := [.int x2]) (v1 := .int q4.1) (S2 := [.int q4.1, .int x2]) (am_dg dkX12_strengthOf (i := 21) rfl) cv_12_83_12 (am_cls_c sh_82 (by decide)) rfl rfl rfl (Nat.le_of_ble_eq_true rfl) (Nat.le_of_ble_eq_true rfl) (T_X12_its_82 hR (by omega) hq5) rfl ?_
      refine aq_goto (t := 34) (am_dg dkX12_strengthOf (i := 22) rfl) rfl ?_
      exact T_X12_strengthOf_82_b34 hR (by omega) ih _ _ _ _ _ _ _ h
    · rw [if_neg hc3] at h
      refine aq_icT (t := 33) (am_dg dkX12_strengthOf (i := 17) rfl) rfl (decide_eq_true hc3) ?_
      refine aq_iconst (v := (0 : Int32)) (am_dg dkX12_strengthOf (i := 23) rfl) (by decide) ?_
      exact T_X12_strengthOf_82_b34 hR (by omega) ih _ _ _ _ _ _ _ h
set_option maxRecDepth 20000 in
theorem T_X12_strengthOf_82 {sc : Option (Nat × (Nat → Int32))} {RF : Nat → Nat → Option Nat} {d : Nat} (hR : am_RFok RF) (hd : 2 ≤ d) {a1 : Int32} {s : am_S} {r : Int32 × am_S} (h : F_X12_strengthOf_82 a1 s = some r) : am_Q sc d mX12_strengthOf (0, am_L0 mX12_strengthOf [.ref 82, .int a1], [], am_hp RF s) (.int r.1, am_hp RF r.2) := by
  obtain ⟨e, rfl⟩ : ∃ e, d = e + 1 := ⟨d - 1, by omega⟩
  unfold F_X12_strengthOf_82 at h
  show am_Q _ _ _ (0, [.ref 82, .int a1, .null, .null], [], _) _
  refine aq_iconst (v := (0 : Int32)) (am_dg dkX12_strengthOf (i := 0) rfl) (by decide) ?_
  refine aq_istore_n (L1 := [.ref 82, .int a1, .int (0 : Int32), .null]) (am_dg dkX12_strengthOf (i := 1) rfl) rfl ?_
  refine aq_iconst (v := (0 : Int32)) (am_dg dkX12_strengthOf (i := 2) rfl) (by decide) ?_
  refine aq_istore_n (L1 := [.ref 82, .int a1, .int (0 : Int32), .int (0 : Int32)]) (am_dg dkX12_strengthOf (i := 3) rfl) rfl ?_
  exact T_X12_strengthOf_82_b4 hR (by omega) _ _ _ _ _ _ h
set_option maxRecDepth 20000 in
theorem T_X12_isPeace_82_b55 {sc : Option (Nat × (Nat → Int32))} {RF : Nat → Nat → Option Nat} {d : Nat} (hR : am_RFok RF) (hd : 3 ≤ d) {k4 : Int32 → Int32 → Int32 → am_S → Option (Int32 × am_S)} (hk4 : ∀ (x1 : Int32) (x2 : Int32) (x3 : Int32) (w4 : Value) (s2 : am_S) (r2 : Int32 × am_S), k4 x1 x2 x3 s2 = some r2 → am_Q sc d mX12_isPeace (4, [.ref 82, .int x1, .int x2, .int x3, w4], [], am_hp RF s2) (.int r2.1, am_hp RF r2.2)) {k17 : Int32 → Int32 → Int32 → Int32 → am_S → Option (Int32 × am_S)} (hk17 : ∀ (x1 : Int32) (x2 : Int32) (x3 : Int32) (x4 : Int32) (s2 : am_S) (r2 : Int32 × am_S), k17 x1 x2 x3 x4 s2 = some r2 → am_Q sc d mX12_isPeace (17, [.ref 82, .int x1, .int x2, .int x3, .int x4], [], am_hp RF s2) (.int r2.1, am_hp RF r2.2)) : ∀ (x1 : Int32) (x3 : Int32) (x4 : Int32) (y0 : Int32) (w2 : Value) (s : am_S) (r : Int32 × am_S), F_X12_isPeace_82_b55 k4 k17 x1 x3 x4 y0 s = some r → am_Q sc d mX12_isPeace (55, [.ref 82, .int x1, w2, .int x3, .int x4], [.int y0], am_hp RF s) (.int r.1, am_hp RF r.2) := by
  obtain ⟨e, rfl⟩ : ∃ e, d = e + 1 := ⟨d - 1, by omega⟩
  intro x1 x3 x4 y0 w2 s r h
  unfold F_X12_isPeace_82_b55 at h
  refine aq_istore_n (L1 := [.ref 82, .int x1, .int y0, .int x3, .int x4]) (am_dg dkX12_isPeace (i := 35) rfl) rfl ?_
  refine aq_iinc (v := (1 : Int32)) (L1 := [.ref 82, .int x1, .int y0, .int x3, .int (x4 + (1 : Int32))]) (am_dg dkX12_isPeace (i := 36) rfl) rfl (by decide) rfl ?_
  refine aq_goto (t := 17) (am_dg dkX12_isPeace (i := 37) rfl) rfl ?_
  exact hk17 _ _ _ _ _ _ h
set_option maxRecDepth 20000 in
theorem T_X12_isPeace_82_b50 {sc : Option (Nat × (Nat → Int32))} {RF : Nat → Nat → Option Nat} {d : Nat} (hR : am_RFok RF) (hd : 3 ≤ d) {k4 : Int32 → Int32 → Int32 → am_S → Option (Int32 × am_S)} (hk4 : ∀ (x1 : Int32) (x2 : Int32) (x3 : Int32) (w4 : Value) (s2 : am_S) (r2 : Int32 × am_S), k4 x1 x2 x3 s2 = some r2 → am_Q sc d mX12_isPeace (4, [.ref 82, .int x1, .int x2, .int x3, w4], [], am_hp RF s2) (.int r2.1, am_hp RF r2.2)) {k17 : Int32 → Int32 → Int32 → Int32 → am_S → Option (Int32 × am_S)} (hk17 : ∀ (x1 : Int32) (x2 : Int32) (x3 : Int32) (x4 : Int32) (s2 : am_S) (r2 : Int32 × am_S), k17 x1 x2 x3 x4 s2 = some r2 → am_Q sc d mX12_isPeace (17, [.ref 82, .int x1, .int x2, .int x3, .int x4], [], am_hp RF s2) (.int r2.1, am_hp RF r2.2)) : ∀ (x1 : Int32) (x3 : Int32) (x4 : Int32) (w2 : Value) (s : am_S) (r : Int32 × am_S), F_X12_isPeace_82_b50 k4 k17 x1 x3 x4 s = some r → am_Q sc d mX12_isPeace (50, [.ref 82, .int x1, w2, .int x3, .int x4], [], am_hp RF s) (.int r.1, am_hp RF r.2) := by
  obtain ⟨e, rfl⟩ : ∃ e, d = e + 1 := ⟨d - 1, by omega⟩
  intro x1 x3 x4 w2 s r h
  unfold F_X12_isPeace_82_b50 at h
  refine aq_iconst (v := (1 : Int32)) (am_dg dkX12_isPeace (i := 32) rfl) (by decide) ?_
  refine aq_goto (t := 55) (am_dg dkX12_isPeace (i := 33) rfl) rfl ?_
  exact T_X12_isPeace_82_b55 hR (by omega) hk4 hk17 _ _ _ _ _ _ _ h
set_option maxRecDepth 20000 in
theorem T_X12_isPeace_82_b54 {sc : Option (Nat × (Nat → Int32))} {RF : Nat → Nat → Option Nat} {d : Nat} (hR : am_RFok RF) (hd : 3 ≤ d) {k4 : Int32 → Int32 → Int32 → am_S → Option (Int32 × am_S)} (hk4 : ∀ (x1 : Int32) (x2 : Int32) (x3 : Int32) (w4 : Value) (s2 : am_S) (r2 : Int32 × am_S), k4 x1 x2 x3 s2 = some r2 → am_Q sc d mX12_isPeace (4, [.ref 82, .int x1, .int x2, .int x3, w4], [], am_hp RF s2) (.int r2.1, am_hp RF r2.2)) {k17 : Int32 → Int32 → Int32 → Int32 → am_S → Option (Int32 × am_S)} (hk17 : ∀ (x1 : Int32) (x2 : Int32) (x3 : Int32) (x4 : Int32) (s2 : am_S) (r2 : Int32 × am_S), k17 x1 x2 x3 x4 s2 = some r2 → am_Q sc d mX12_isPeace (17, [.ref 82, .int x1, .int x2, .int x3, .int x4], [], am_hp RF s2) (.int r2.1, am_hp RF r2.2)) : ∀ (x1 : Int32) (x3 : Int32) (x4 : Int32) (w2 : Value) (s : am_S) (r : Int32 × am_S), F_X12_isPeace_82_b54 k4 k17 x1 x3 x4 s = some r → am_Q sc d mX12_isPeace (54, [.ref 82, .int x1, w2, .int x3, .int x4], [], am_hp RF s) (.int r.1, am_hp RF r.2) := by
  obtain ⟨e, rfl⟩ : ∃ e, d = e + 1 := ⟨d - 1, by omega⟩
  intro x1 x3 x4 w2 s r h
  unfold F_X12_isPeace_82_b54 at h
  refine aq_iconst (v := (0 : Int32)) (am_dg dkX12_isPeace (i := 34) rfl) (by decide) ?_
  exact T_X12_isPeace_82_b55 hR (by omega) hk4 hk17 _ _ _ _ _ _ _ h
set_option maxRecDepth 20000 in
theorem T_X12_isPeace_82_b17 {sc : Option (Nat × (Nat → Int32))} {RF : Nat → Nat → Option Nat} {d : Nat} (hR : am_RFok RF) (hd : 3 ≤ d) {k4 : Int32 → Int32 → Int32 → am_S → Option (Int32 × am_S)} (hk4 : ∀ (x1 : Int32) (x2 : Int32) (x3 : Int32) (w4 : Value) (s2 : am_S) (r2 : Int32 × am_S), k4 x1 x2 x3 s2 = some r2 → am_Q sc d mX12_isPeace (4, [.ref 82, .int x1, .int x2, .int x3, w4], [], am_hp RF s2) (.int r2.1, am_hp RF r2.2)) : ∀ (n : Nat) (x1 : Int32) (x2 : Int32) (x3 : Int32) (x4 : Int32) (s : am_S) (r : Int32 × am_S), F_X12_isPeace_82_b17 k4 n x1 x2 x3 x4 s = some r → am_Q sc d mX12_isPeace (17, [.ref 82, .int x1, .int x2, .int x3, .int x4], [], am_hp RF s) (.int r.1, am_hp RF r.2) := by
  obtain ⟨e, rfl⟩ : ∃ e, d = e + 1 := ⟨d - 1, by omega⟩
  intro n
  induction n with
  | zero => intro x1 x2 x3 x4 s r h; rw [F_X12_isPeace_82_b17] at h; cases h
  | succ n ih =>
  intro x1 x2 x3 x4 s r h
  rw [F_X12_isPeace_82_b17] at h
  refine aq_iload (am_dg dkX12_isPeace (i := 12) rfl) rfl ?_
  refine aq_iload_n (am_dg dkX12_isPeace (i := 13) rfl) rfl ?_
  by_cases hc1 : x3 ≤ x4
  · rw [if_pos hc1] at h
    refine aq_icT (t := 62) (am_dg dkX12_isPeace (i := 14) rfl) rfl (decide_eq_true hc1) ?_
    refine aq_iinc (v := (1 : Int32)) (L1 := [.ref 82, .int x1, .int x2, .int (x3 + (1 : Int32)), .int x4]) (am_dg dkX12_isPeace (i := 38) rfl) rfl (by decide) rfl ?_
    refine aq_goto (t := 4) (am_dg dkX12_isPeace (i := 39) rfl) rfl ?_
    exact hk4 _ _ _ _ _ _ h
  · rw [if_neg hc1] at h
    refine aq_icF (t := 62) (am_dg dkX12_isPeace (i := 14) rfl) rfl (decide_eq_false hc1) ?_
    refine aq_iload_n (am_dg dkX12_isPeace (i := 15) rfl) rfl ?_
    by_cases hc2 : x2 = (0 : Int32)
    · rw [if_pos hc2] at h
      refine aq_ifT (t := 54) (am_dg dkX12_isPeace (i := 16) rfl) rfl (decide_eq_true hc2) ?_
      exact T_X12_isPeace_82_b54 hR (by omega) hk4 ih _ _ _ _ _ _ h
    · rw [if_neg hc2] at h
      refine aq_ifF (t := 54) (am_dg dkX12_isPeace (i := 16) rfl) rfl (decide_eq_false hc2) ?_
      refine aq_iload_n (am_dg dkX12_isPeace (i := 17) rfl) rfl ?_
      refine aq_iload_n (am_dg dkX12_isPeace (i := 18) rfl) rfl ?_
      refine aq_ishr (am_dg dkX12_isPeace (i := 19) rfl) ?_
      refine aq_iload_n (am_dg dkX12_isPeace (i := 20) rfl) rfl ?_
      refine aq_iload (am_dg dkX12_isPeace (i := 21) rfl) rfl ?_
      refine aq_ishr (am_dg dkX12_isPeace (i := 22) rfl) ?_
      refine aq_iand (am_dg dkX12_isPeace (i := 23) rfl) ?_
      refine aq_iconst (v := (1 : Int32)) (am_dg dkX12_isPeace (i := 24) rfl) (by decide) ?_
      refine aq_iand (am_dg dkX12_isPeace (i := 25) rfl) ?_
      by_cases hc3 : (((x1 >>> (x3 &&& 31)) &&& (x1 >>> (x4 &&& 31))) &&& (1 : Int32)) = (0 : Int32)
      · rw [if_pos hc3] at h
        refine aq_ifT (t := 50) (am_dg dkX12_isPeace (i := 26) rfl) rfl (decide_eq_true hc3) ?_
        exact T_X12_isPeace_82_b50 hR (by omega) hk4 ih _ _ _ _ _ _ h
      · rw [if_neg hc3] at h
        refine aq_ifF (t := 50) (am_dg dkX12_isPeace (i := 26) rfl) rfl (decide_eq_false hc3) ?_
        refine aq_aload_n (am_dg dkX12_isPeace (i := 27) rfl) rfl ?_
        refine aq_iload_n (am_dg dkX12_isPeace (i := 28) rfl) rfl ?_
        refine aq_iload (am_dg dkX12_isPeace (i := 29) rfl) rfl ?_
        obtain ⟨q4, hq5, h⟩ := am_bnd h
        refine aq_virt (a := [.ref 82, .int x3, .int x4]) (S1 := []) (v1 := .int q4.1) (S2 := [.int q4.1]) (am_dg dkX12_isPeace (i := 30) rfl) cv_12_177_12 (am_cls_c sh_82 (by decide)) rfl rfl rfl (Nat.le_of_ble_eq_true rfl) (Nat.le_of_ble_eq_true rfl) (T_X12_areAtOdds_82 hR (by omega) hq5) rfl ?_
        by_cases hc6 : q4.1 = (0 : Int32)
        · rw [if_pos hc6] at h
          refine aq_ifF (t := 54) (am_dg dkX12_isPeace (i := 31) rfl) rfl (decide_eq_false (not_not_intro hc6)) ?_
          exact T_X12_isPeace_82_b50 hR (by omega) hk4 ih _ _ _ _ _ _ h
        · rw [if_neg hc6] at h
          refine aq_ifT (t := 54) (am_dg dkX12_isPeace (i := 31) rfl) rfl (decide_eq_true hc6) ?_
          exact T_X12_isPeace_82_b54 hR (by omega) hk4 ih _ _ _ _ _ _ h
set_option maxRecDepth 20000 in
theorem T_X12_isPeace_82_b4 {sc : Option (Nat × (Nat → Int32))} {RF : Nat → Nat → Option Nat} {d : Nat} (hR : am_RFok RF) (hd : 3 ≤ d) : ∀ (n : Nat) (x1 : Int32) (x2 : Int32) (x3 : Int32) (w4 : Value) (s : am_S) (r : Int32 × am_S), F_X12_isPeace_82_b4 n x1 x2 x3 s = some r → am_Q sc d mX12_isPeace (4, [.ref 82, .int x1, .int x2, .int x3, w4], [], am_hp RF s) (.int r.1, am_hp RF r.2) := by
  obtain ⟨e, rfl⟩ : ∃ e, d = e + 1 := ⟨d - 1, by omega⟩
  intro n
  induction n with
  | zero => intro x1 x2 x3 w4 s r h; rw [F_X12_isPeace_82_b4] at h; cases h
  | succ n ih =>
  intro x1 x2 x3 w4 s r h
  rw [F_X12_isPeace_82_b4] at h
  refine aq_iload_n (am_dg dkX12_isPeace (i := 4) rfl) rfl ?_
  refine aq_aload_n (am_dg dkX12_isPeace (i := 5) rfl) rfl ?_
  refine aq_getR (am_dg dkX12_isPeace (i := 6) rfl) gk_12_7_82 (rf_82_0 hR) ?_
  refine aq_iconst (v := (0 : Int32)) (am_dg dkX12_isPeace (i := 7) rfl) (by decide) ?_
  obtain ⟨hg1, h⟩ := am_guard h
  refine aq_iald (am_dg dkX12_isPeace (i := 8) rfl) sh_83 hg1 ?_
  by_cases hc2 : (s.1 83 (0 : Int32).toNatClampNeg) ≤ x3
  · rw [if_pos hc2] at h
    refine aq_icT (t := 68) (am_dg dkX12_isPeace (i := 9) rfl) rfl (decide_eq_true hc2) ?_
    refine aq_iload_n (am_dg dkX12_isPeace (i := 40) rfl) rfl ?_
    obtain ⟨hg3, h⟩ := am_guard h
    obtain rfl := Option.some.inj h
    exact aq_ireturn (am_dg dkX12_isPeace (i := 41) rfl) rfl (Or.inr (Or.inl rfl)) (am_nz hg3)
  · rw [if_neg hc2] at h
    refine aq_icF (t := 68) (am_dg dkX12_isPeace (i := 9) rfl) rfl (decide_eq_false hc2) ?_
    refine aq_iconst (v := (0 : Int32)) (am_dg dkX12_isPeace (i := 10) rfl) (by decide) ?_
    refine aq_istore (L1 := [.ref 82, .int x1, .int x2, .int x3, .int (0 : Int32)]) (am_dg dkX12_isPeace (i := 11) rfl) rfl ?_
    exact T_X12_isPeace_82_b17 hR (by omega) ih _ _ _ _ _ _ _ h
set_option maxRecDepth 20000 in
theorem T_X12_isPeace_82 {sc : Option (Nat × (Nat → Int32))} {RF : Nat → Nat → Option Nat} {d : Nat} (hR : am_RFok RF) (hd : 3 ≤ d) {a1 : Int32} {s : am_S} {r : Int32 × am_S} (h : F_X12_isPeace_82 a1 s = some r) : am_Q sc d mX12_isPeace (0, am_L0 mX12_isPeace [.ref 82, .int a1], [], am_hp RF s) (.int r.1, am_hp RF r.2) := by
  obtain ⟨e, rfl⟩ : ∃ e, d = e + 1 := ⟨d - 1, by omega⟩
  unfold F_X12_isPeace_82 at h
  show am_Q _ _ _ (0, [.ref 82, .int a1, .null, .null, .null], [], _) _
  refine aq_iconst (v := (1 : Int32)) (am_dg dkX12_isPeace (i := 0) rfl) (by decide) ?_
  refine aq_istore_n (L1 := [.ref 82, .int a1, .int (1 : Int32), .null, .null]) (am_dg dkX12_isPeace (i := 1) rfl) rfl ?_
  refine aq_iconst (v := (0 : Int32)) (am_dg dkX12_isPeace (i := 2) rfl) (by decide) ?_
  refine aq_istore_n (L1 := [.ref 82, .int a1, .int (1 : Int32), .int (0 : Int32), .null]) (am_dg dkX12_isPeace (i := 3) rfl) rfl ?_
  exact T_X12_isPeace_82_b4 hR (by omega) _ _ _ _ _ _ _ h
set_option maxRecDepth 20000 in
theorem T_X12_choir_82_b54 {sc : Option (Nat × (Nat → Int32))} {RF : Nat → Nat → Option Nat} {d : Nat} (hR : am_RFok RF) (hd : 4 ≤ d) {k16 : Int32 → Int32 → Int32 → am_S → Option (Int32 × am_S)} (hk16 : ∀ (x1 : Int32) (x2 : Int32) (x3 : Int32) (s2 : am_S) (r2 : Int32 × am_S), k16 x1 x2 x3 s2 = some r2 → am_Q sc d mX12_choir (16, [.ref 82, .int x1, .int x2, .int x3], [], am_hp RF s2) (.int r2.1, am_hp RF r2.2)) : ∀ (x1 : Int32) (x3 : Int32) (y0 : Int32) (w2 : Value) (s : am_S) (r : Int32 × am_S), F_X12_choir_82_b54 k16 x1 x3 y0 s = some r → am_Q sc d mX12_choir (54, [.ref 82, .int x1, w2, .int x3], [.int y0], am_hp RF s) (.int r.1, am_hp RF r.2) := by
  obtain ⟨e, rfl⟩ : ∃ e, d = e + 1 := ⟨d - 1, by omega⟩
  intro x1 x3 y0 w2 s r h
  unfold F_X12_choir_82_b54 at h
  refine aq_istore_n (L1 := [.ref 82, .int x1, .int y0, .int x3]) (am_dg dkX12_choir (i := 34) rfl) rfl ?_
  refine aq_iinc (v := (1 : Int32)) (L1 := [.ref 82, .int x1, .int y0, .int (x3 + (1 : Int32))]) (am_dg dkX12_choir (i := 35) rfl) rfl (by decide) rfl ?_
  refine aq_goto (t := 16) (am_dg dkX12_choir (i := 36) rfl) rfl ?_
  exact hk16 _ _ _ _ _ h
set_option maxRecDepth 20000 in
theorem T_X12_choir_82_b53 {sc : Option (Nat × (Nat → Int32))} {RF : Nat → Nat → Option Nat} {d : Nat} (hR : am_RFok RF) (hd : 4 ≤ d) {k16 : Int32 → Int32 → Int32 → am_S → Option (Int32 × am_S)} (hk16 : ∀ (x1 : Int32) (x2 : Int32) (x3 : Int32) (s2 : am_S) (r2 : Int32 × am_S), k16 x1 x2 x3 s2 = some r2 → am_Q sc d mX12_choir (16, [.ref 82, .int x1, .int x2, .int x3], [], am_hp RF s2) (.int r2.1, am_hp RF r2.2)) : ∀ (x1 : Int32) (x2 : Int32) (x3 : Int32) (s : am_S) (r : Int32 × am_S), F_X12_choir_82_b53 k16 x1 x2 x3 s = some r → am_Q sc d mX12_choir (53, [.ref 82, .int x1, .int x2, .int x3], [], am_hp RF s) (.int r.1, am_hp RF r.2) := by
  obtain ⟨e, rfl⟩ : ∃ e, d = e + 1 := ⟨d - 1, by omega⟩
  intro x1 x2 x3 s r h
  unfold F_X12_choir_82_b53 at h
  refine aq_iload_n (am_dg dkX12_choir (i := 33) rfl) rfl ?_
  exact T_X12_choir_82_b54 hR (by omega) hk16 _ _ _ _ _ _ h
set_option maxRecDepth 20000 in
theorem T_X12_choir_82_b16 {sc : Option (Nat × (Nat → Int32))} {RF : Nat → Nat → Option Nat} {d : Nat} (hR : am_RFok RF) (hd : 4 ≤ d) : ∀ (n : Nat) (x1 : Int32) (x2 : Int32) (x3 : Int32) (s : am_S) (r : Int32 × am_S), F_X12_choir_82_b16 n x1 x2 x3 s = some r → am_Q sc d mX12_choir (16, [.ref 82, .int x1, .int x2, .int x3], [], am_hp RF s) (.int r.1, am_hp RF r.2) := by
  obtain ⟨e, rfl⟩ : ∃ e, d = e + 1 := ⟨d - 1, by omega⟩
  intro n
  induction n with
  | zero => intro x1 x2 x3 s r h; rw [F_X12_choir_82_b16] at h; cases h
  | succ n ih =>
  intro x1 x2 x3 s r h
  rw [F_X12_choir_82_b16] at h
  refine aq_iload_n (am_dg dkX12_choir (i := 12) rfl) rfl ?_
  refine aq_iconst (v := (1 : Int32)) (am_dg dkX12_choir (i := 13) rfl) (by decide) ?_
  refine aq_aload_n (am_dg dkX12_choir (i := 14) rfl) rfl ?_
  refine aq_getR (am_dg dkX12_choir (i := 15) rfl) gk_12_7_82 (rf_82_0 hR) ?_
  refine aq_iconst (v := (0 : Int32)) (am_dg dkX12_choir (i := 16) rfl) (by decide) ?_
  obtain ⟨hg1, h⟩ := am_guard h
  refine aq_iald (am_dg dkX12_choir (i := 17) rfl) sh_83 hg1 ?_
  refine aq_ishl (am_dg dkX12_choir (i := 18) rfl) ?_
  by_cases hc2 : ((1 : Int32) <<< ((s.1 83 (0 : Int32).toNatClampNeg) &&& 31)) ≤ x3
  · rw [if_pos hc2] at h
    refine aq_icT (t := 61) (am_dg dkX12_choir (i := 19) rfl) rfl (decide_eq_true hc2) ?_
    refine aq_iload_n (am_dg dkX12_choir (i := 37) rfl) rfl ?_
    by_cases hc3 : x1 = (0 : Int32)
    · rw [if_pos hc3] at h
      refine aq_ifF (t := 69) (am_dg dkX12_choir (i := 38) rfl) rfl (decide_eq_false (not_not_intro hc3)) ?_
      refine aq_iload_n (am_dg dkX12_choir (i := 39) rfl) rfl ?_
      refine aq_goto (t := 74) (am_dg dkX12_choir (i := 40) rfl) rfl ?_
      obtain rfl := Option.some.inj h
      exact aq_ireturn (am_dg dkX12_choir (i := 44) rfl) rfl (Or.inl rfl) rfl
    · rw [if_neg hc3] at h
      refine aq_ifT (t := 69) (am_dg dkX12_choir (i := 38) rfl) rfl (decide_eq_true hc3) ?_
      refine aq_aload_n (am_dg dkX12_choir (i := 41) rfl) rfl ?_
      refine aq_iload_n (am_dg dkX12_choir (i := 42) rfl) rfl ?_
      obtain ⟨q4, hq5, h⟩ := am_bnd h
      refine aq_virt (a := [.ref 82, .int x2]) (S1 := []) (v1 := .int q4.1) (S2 := [.int q4.1]) (am_dg dkX12_choir (i := 43) rfl) cv_12_189_12 (am_cls_c sh_82 (by decide)) rfl rfl rfl (Nat.le_of_ble_eq_true rfl) (Nat.le_of_ble_eq_true rfl) (T_X12_strengthOf_82 hR (by omega) hq5) rfl ?_
      obtain rfl := Option.some.inj h
      exact aq_ireturn (am_dg dkX12_choir (i := 44) rfl) rfl (Or.inl rfl) rfl
  · rw [if_neg hc2] at h
    refine aq_icF (t := 61) (am_dg dkX12_choir (i := 19) rfl) rfl (decide_eq_false hc2) ?_
    refine aq_aload_n (am_dg dkX12_choir (i := 20) rfl) rfl ?_
    refine aq_iload_n (am_dg dkX12_choir (i := 21) rfl) rfl ?_
    obtain ⟨q6, hq7, h⟩ := am_bnd h
    refine aq_virt (a := [.ref 82, .int x3]) (S1 := []) (v1 := .int q6.1) (S2 := [.int q6.1]) (am_dg dkX12_choir (i := 22) rfl) cv_12_186_12 (am_cls_c sh_82 (by decide)) rfl rfl rfl (Nat.le_of_ble_eq_true rfl) (Nat.le_of_ble_eq_true rfl) (T_X12_isPeace_82 hR (by omega) hq7) rfl ?_
    by_cases hc8 : q6.1 = (0 : Int32)
    · rw [if_pos hc8] at h
      refine aq_ifT (t := 53) (am_dg dkX12_choir (i := 23) rfl) rfl (decide_eq_true hc8) ?_
      exact T_X12_choir_82_b53 hR (by omega) ih _ _ _ _ _ h
    · rw [if_neg hc8] at h
      refine aq_ifF (t := 53) (am_dg dkX12_choir (i := 23) rfl) rfl (decide_eq_false hc8) ?_
      refine aq_aload_n (am_dg dkX12_choir (i := 24) rfl) rfl ?_
      refine aq_iload_n (am_dg dkX12_choir (i := 25) rfl) rfl ?_
      obtain ⟨q9, hq10, h⟩ := am_bnd h
      refine aq_virt (a := [.ref 82, .int x3]) (S1 := []) (v1 := .int q9.1) (S2 := [.int q9.1]) (am_dg dkX12_choir (i := 26) rfl) cv_12_189_12 (am_cls_c sh_82 (by decide)) rfl rfl rfl (Nat.le_of_ble_eq_true rfl) (Nat.le_of_ble_eq_true rfl) (T_X12_strengthOf_82 hR (by omega) hq10) rfl ?_
      refine aq_aload_n (am_dg dkX12_choir (i := 27) rfl) rfl ?_
      refine aq_iload_n (am_dg dkX12_choir (i := 28) rfl) rfl ?_
      obtain ⟨q11, hq12, h⟩ := am_bnd h
      refine aq_virt (a := [.ref 82, .int x2]) (S1 := [.int q9.1]) (v1 := .int q11.1) (S2 := [.int q11.1, .int q9.1]) (am_dg dkX12_choir (i := 29) rfl) cv_12_189_12 (am_cls_c sh_82 (by decide)) rfl rfl rfl (Nat.le_of_ble_eq_true rfl) (Nat.le_of_ble_eq_true rfl) (T_X12_strengthOf_82 hR (by omega) hq12) rfl ?_
      by_cases hc13 : q9.1 ≤ q11.1
      · rw [if_pos hc13] at h
        refine aq_icT (t := 53) (am_dg dkX12_choir (i := 30) rfl) rfl (decide_eq_true hc13) ?_
        exact T_X12_choir_82_b53 hR (by omega) ih _ _ _ _ _ h
      · rw [if_neg hc13] at h
        refine aq_icF (t := 53) (am_dg dkX12_choir (i := 30) rfl) rfl (decide_eq_false hc13) ?_
        refine aq_iload_n (am_dg dkX12_choir (i := 31) rfl) rfl ?_
        refine aq_goto (t := 54) (am_dg dkX12_choir (i := 32) rfl) rfl ?_
        exact T_X12_choir_82_b54 hR (by omega) ih _ _ _ _ _ _ h
set_option maxRecDepth 20000 in
theorem T_X12_choir_82 {sc : Option (Nat × (Nat → Int32))} {RF : Nat → Nat → Option Nat} {d : Nat} (hR : am_RFok RF) (hd : 4 ≤ d) {a1 : Int32} {s : am_S} {r : Int32 × am_S} (h : F_X12_choir_82 a1 s = some r) : am_Q sc d mX12_choir (0, am_L0 mX12_choir [.ref 82, .int a1], [], am_hp RF s) (.int r.1, am_hp RF r.2) := by
  obtain ⟨e, rfl⟩ : ∃ e, d = e + 1 := ⟨d - 1, by omega⟩
  unfold F_X12_choir_82 at h
  show am_Q _ _ _ (0, [.ref 82, .int a1, .null, .null], [], _) _
  refine aq_iload_n (am_dg dkX12_choir (i := 0) rfl) rfl ?_
  refine aq_i2l (am_dg dkX12_choir (i := 1) rfl) ?_
  refine aq_lconst (v := (0 : Int64)) (am_dg dkX12_choir (i := 2) rfl) (by decide) ?_
  refine aq_lconst (v := (1 : Int64)) (am_dg dkX12_choir (i := 3) rfl) (by decide) ?_
  obtain ⟨q1, hq2, h⟩ := am_bnd h
  refine aq_static (a := [.long a1.toInt64, .long (0 : Int64), .long (1 : Int64)]) (S1 := []) (v1 := .int q1.1) (S2 := [.int q1.1]) (am_dg dkX12_choir (i := 4) rfl) ct_12_61 rfl rfl rfl (Nat.le_of_ble_eq_true rfl) (Nat.le_of_ble_eq_true rfl) (T_X12_in hR (by omega) hq2) rfl ?_
  by_cases hc3 : q1.1 = (0 : Int32)
  · rw [if_pos hc3] at h
    refine aq_ifF (t := 12) (am_dg dkX12_choir (i := 5) rfl) rfl (decide_eq_false (not_not_intro hc3)) ?_
    refine aq_iconst (v := (-1 : Int32)) (am_dg dkX12_choir (i := 6) rfl) (by decide) ?_
    obtain rfl := Option.some.inj h
    exact aq_ireturn (am_dg dkX12_choir (i := 7) rfl) rfl (Or.inl rfl) rfl
  · rw [if_neg hc3] at h
    refine aq_ifT (t := 12) (am_dg dkX12_choir (i := 5) rfl) rfl (decide_eq_true hc3) ?_
    refine aq_iconst (v := (0 : Int32)) (am_dg dkX12_choir (i := 8) rfl) (by decide) ?_
    refine aq_istore_n (L1 := [.ref 82, .int a1, .int (0 : Int32), .null]) (am_dg dkX12_choir (i := 9) rfl) rfl ?_
    refine aq_iconst (v := (1 : Int32)) (am_dg dkX12_choir (i := 10) rfl) (by decide) ?_
    refine aq_istore_n (L1 := [.ref 82, .int a1, .int (0 : Int32), .int (1 : Int32)]) (am_dg dkX12_choir (i := 11) rfl) rfl ?_
    exact T_X12_choir_82_b16 hR (by omega) _ _ _ _ _ _ h
set_option maxRecDepth 20000 in
theorem T_X11_isPlan {sc : Option (Nat × (Nat → Int32))} {RF : Nat → Nat → Option Nat} {d : Nat} (hR : am_RFok RF) (hd : 1 ≤ d) {a0 : Int32} {s : am_S} {r : Int32 × am_S} (h : F_X11_isPlan a0 s = some r) : am_Q sc d mX11_isPlan (0, am_L0 mX11_isPlan [.int a0], [], am_hp RF s) (.int r.1, am_hp RF r.2) := by
  obtain ⟨e, rfl⟩ : ∃ e, d = e + 1 := ⟨d - 1, by omega⟩
  unfold F_X11_isPlan at h
  show am_Q _ _ _ (0, [.int a0], [], _) _
  refine aq_iload_n (am_dg dkX11_isPlan (i := 0) rfl) rfl ?_
  refine aq_iconst (v := (0 : Int32)) (am_dg dkX11_isPlan (i := 1) rfl) (by decide) ?_
  refine aq_iconst (v := (4 : Int32)) (am_dg dkX11_isPlan (i := 2) rfl) (by decide) ?_
  obtain ⟨q1, hq2, h⟩ := am_bnd h
  refine aq_static (a := [.int a0, .int (0 : Int32), .int (4 : Int32)]) (S1 := []) (v1 := .int q1.1) (S2 := [.int q1.1]) (am_dg dkX11_isPlan (i := 3) rfl) ct_11_149 rfl rfl rfl (Nat.le_of_ble_eq_true rfl) (Nat.le_of_ble_eq_true rfl) (T_X11_isWithin hR (by omega) hq2) rfl ?_
  obtain ⟨hg3, h⟩ := am_guard h
  obtain rfl := Option.some.inj h
  exact aq_ireturn (am_dg dkX11_isPlan (i := 4) rfl) rfl (Or.inr (Or.inl rfl)) (am_nz hg3)
set_option maxRecDepth 20000 in
theorem T_X3_planLength_50 {sc : Option (Nat × (Nat → Int32))} {RF : Nat → Nat → Option Nat} {d : Nat} (hR : am_RFok RF) (hd : 0 ≤ d) {a1 : Int32} {s : am_S} {r : Int32 × am_S} (h : F_X3_planLength_50 a1 s = some r) : am_Q sc d mX3_planLength (0, am_L0 mX3_planLength [.ref 50, .int a1], [], am_hp RF s) (.int r.1, am_hp RF r.2) := by
  unfold F_X3_planLength_50 at h
  show am_Q _ _ _ (0, [.ref 50, .int a1], [], _) _
  refine aq_iconst (v := (0 : Int32)) (am_dg dkX3_planLength (i := 0) rfl) (by decide) ?_
  refine aq_iload_n (am_dg dkX3_planLength (i := 1) rfl) rfl ?_
  refine aq_iconst (v := (4 : Int32)) (am_dg dkX3_planLength (i := 2) rfl) (by decide) ?_
  refine aq_min (am_dg dkX3_planLength (i := 3) rfl) mk_3_113 (Nat.le_of_ble_eq_true rfl) ?_
  refine aq_aload_n (am_dg dkX3_planLength (i := 4) rfl) rfl ?_
  refine aq_getR (am_dg dkX3_planLength (i := 5) rfl) gk_3_37_50 (rf_50_0 hR) ?_
  refine aq_getI (am_dg dkX3_planLength (i := 6) rfl) gk_3_117_8 (by decide) ?_
  refine aq_aload_n (am_dg dkX3_planLength (i := 7) rfl) rfl ?_
  refine aq_getR (am_dg dkX3_planLength (i := 8) rfl) gk_3_37_50 (rf_50_0 hR) ?_
  refine aq_getI (am_dg dkX3_planLength (i := 9) rfl) gk_3_70_8 (by decide) ?_
  refine aq_isub (am_dg dkX3_planLength (i := 10) rfl) ?_
  refine aq_min (am_dg dkX3_planLength (i := 11) rfl) mk_3_113 (Nat.le_of_ble_eq_true rfl) ?_
  refine aq_max (am_dg dkX3_planLength (i := 12) rfl) mk_3_120 (Nat.le_of_ble_eq_true rfl) ?_
  obtain rfl := Option.some.inj h
  exact aq_ireturn (am_dg dkX3_planLength (i := 13) rfl) rfl (Or.inl rfl) rfl
set_option maxRecDepth 20000 in
theorem T_X8_saveTo_8_f52 {sc : Option (Nat × (Nat → Int32))} {RF : Nat → Nat → Option Nat} {d : Nat} (hR : am_RFok RF) (hd : 0 ≤ d) {j1 : Nat} (hj1 : j1 < 4) {s : am_S} {r : am_S} (h : F_X8_saveTo_8_f52 j1 s = some r) : am_Q sc d mX8_saveTo (0, am_L0 mX8_saveTo [.ref 8, .ref (53 + j1)], [], am_hp RF s) (.null, am_hp RF r) := by
  unfold F_X8_saveTo_8_f52 at h
  show am_Q _ _ _ (0, [.ref 8, .ref (53 + j1)], [], _) _
  refine aq_aload_n (am_dg dkX8_saveTo (i := 0) rfl) rfl ?_
  refine aq_alen (v := (9 : Int32)) (am_dg dkX8_saveTo (i := 1) rfl) (fs_52 _ hj1) (by decide) (by decide) ?_
  refine aq_bipush (v := (9 : Int32)) (am_dg dkX8_saveTo (i := 2) rfl) (by decide) ?_
  by_cases hc1 : (9 : Int32) ≤ (9 : Int32)
  · rw [if_pos hc1] at h
    refine aq_icT (t := 8) (am_dg dkX8_saveTo (i := 3) rfl) rfl (decide_eq_true hc1) ?_
    refine aq_aload_n (am_dg dkX8_saveTo (i := 5) rfl) rfl ?_
    refine aq_iconst (v := (0 : Int32)) (am_dg dkX8_saveTo (i := 6) rfl) (by decide) ?_
    refine aq_aload_n (am_dg dkX8_saveTo (i := 7) rfl) rfl ?_
    refine aq_getI (am_dg dkX8_saveTo (i := 8) rfl) gk_8_66_8 (by decide) ?_
    obtain ⟨hg2, h⟩ := am_guard h
    refine aq_iast (am_dg dkX8_saveTo (i := 9) rfl) (fs_52 _ hj1) hg2 ?_
    obtain ⟨s3, hs4, h⟩ := am_bnd h
    rw [Option.some.inj hs4]
    refine aq_aload_n (am_dg dkX8_saveTo (i := 10) rfl) rfl ?_
    refine aq_iconst (v := (1 : Int32)) (am_dg dkX8_saveTo (i := 11) rfl) (by decide) ?_
    refine aq_aload_n (am_dg dkX8_saveTo (i := 12) rfl) rfl ?_
    refine aq_getI (am_dg dkX8_saveTo (i := 13) rfl) gk_8_69_8 (by decide) ?_
    obtain ⟨hg5, h⟩ := am_guard h
    refine aq_iast (am_dg dkX8_saveTo (i := 14) rfl) (fs_52 _ hj1) hg5 ?_
    obtain ⟨s6, hs7, h⟩ := am_bnd h
    rw [Option.some.inj hs7]
    refine aq_aload_n (am_dg dkX8_saveTo (i := 15) rfl) rfl ?_
    refine aq_iconst (v := (2 : Int32)) (am_dg dkX8_saveTo (i := 16) rfl) (by decide) ?_
    refine aq_aload_n (am_dg dkX8_saveTo (i := 17) rfl) rfl ?_
    refine aq_getI (am_dg dkX8_saveTo (i := 18) rfl) gk_8_75_8 (by decide) ?_
    obtain ⟨hg8, h⟩ := am_guard h
    refine aq_iast (am_dg dkX8_saveTo (i := 19) rfl) (fs_52 _ hj1) hg8 ?_
    obtain ⟨s9, hs10, h⟩ := am_bnd h
    rw [Option.some.inj hs10]
    refine aq_aload_n (am_dg dkX8_saveTo (i := 20) rfl) rfl ?_
    refine aq_getR (am_dg dkX8_saveTo (i := 21) rfl) gk_8_24_8 (rf_8_12 hR) ?_
    refine aq_iconst (v := (0 : Int32)) (am_dg dkX8_saveTo (i := 22) rfl) (by decide) ?_
    refine aq_aload_n (am_dg dkX8_saveTo (i := 23) rfl) rfl ?_
    refine aq_iconst (v := (3 : Int32)) (am_dg dkX8_saveTo (i := 24) rfl) (by decide) ?_
    refine aq_bipush (v := (6 : Int32)) (am_dg dkX8_saveTo (i := 25) rfl) (by decide) ?_
    obtain ⟨hg11, h⟩ := am_guard h
    refine aq_copy (am_dg dkX8_saveTo (i := 26) rfl) yk_8_81.1 yk_8_81.2 (Nat.le_of_ble_eq_true rfl) sh_13 (fs_52 _ hj1) hg11 ?_
    obtain ⟨s12, hs13, h⟩ := am_bnd h
    rw [Option.some.inj hs13]
    obtain rfl := Option.some.inj h
    exact aq_return (am_dg dkX8_saveTo (i := 27) rfl) rfl
  · rw [if_neg hc1] at h
    refine aq_icF (t := 8) (am_dg dkX8_saveTo (i := 3) rfl) rfl (decide_eq_false hc1) ?_
    obtain rfl := Option.some.inj h
    exact aq_return (am_dg dkX8_saveTo (i := 4) rfl) rfl
set_option maxRecDepth 20000 in
theorem T_X8_saveTo_8_f57 {sc : Option (Nat × (Nat → Int32))} {RF : Nat → Nat → Option Nat} {d : Nat} (hR : am_RFok RF) (hd : 0 ≤ d) {j1 : Nat} (hj1 : j1 < 4) {s : am_S} {r : am_S} (h : F_X8_saveTo_8_f57 j1 s = some r) : am_Q sc d mX8_saveTo (0, am_L0 mX8_saveTo [.ref 8, .ref (58 + j1)], [], am_hp RF s) (.null, am_hp RF r) := by
  unfold F_X8_saveTo_8_f57 at h
  show am_Q _ _ _ (0, [.ref 8, .ref (58 + j1)], [], _) _
  refine aq_aload_n (am_dg dkX8_saveTo (i := 0) rfl) rfl ?_
  refine aq_alen (v := (9 : Int32)) (am_dg dkX8_saveTo (i := 1) rfl) (fs_57 _ hj1) (by decide) (by decide) ?_
  refine aq_bipush (v := (9 : Int32)) (am_dg dkX8_saveTo (i := 2) rfl) (by decide) ?_
  by_cases hc1 : (9 : Int32) ≤ (9 : Int32)
  · rw [if_pos hc1] at h
    refine aq_icT (t := 8) (am_dg dkX8_saveTo (i := 3) rfl) rfl (decide_eq_true hc1) ?_
    refine aq_aload_n (am_dg dkX8_saveTo (i := 5) rfl) rfl ?_
    refine aq_iconst (v := (0 : Int32)) (am_dg dkX8_saveTo (i := 6) rfl) (by decide) ?_
    refine aq_aload_n (am_dg dkX8_saveTo (i := 7) rfl) rfl ?_
    refine aq_getI (am_dg dkX8_saveTo (i := 8) rfl) gk_8_66_8 (by decide) ?_
    obtain ⟨hg2, h⟩ := am_guard h
    refine aq_iast (am_dg dkX8_saveTo (i := 9) rfl) (fs_57 _ hj1) hg2 ?_
    obtain ⟨s3, hs4, h⟩ := am_bnd h
    rw [Option.some.inj hs4]
    refine aq_aload_n (am_dg dkX8_saveTo (i := 10) rfl) rfl ?_
    refine aq_iconst (v := (1 : Int32)) (am_dg dkX8_saveTo (i := 11) rfl) (by decide) ?_
    refine aq_aload_n (am_dg dkX8_saveTo (i := 12) rfl) rfl ?_
    refine aq_getI (am_dg dkX8_saveTo (i := 13) rfl) gk_8_69_8 (by decide) ?_
    obtain ⟨hg5, h⟩ := am_guard h
    refine aq_iast (am_dg dkX8_saveTo (i := 14) rfl) (fs_57 _ hj1) hg5 ?_
    obtain ⟨s6, hs7, h⟩ := am_bnd h
    rw [Option.some.inj hs7]
    refine aq_aload_n (am_dg dkX8_saveTo (i := 15) rfl) rfl ?_
    refine aq_iconst (v := (2 : Int32)) (am_dg dkX8_saveTo (i := 16) rfl) (by decide) ?_
    refine aq_aload_n (am_dg dkX8_saveTo (i := 17) rfl) rfl ?_
    refine aq_getI (am_dg dkX8_saveTo (i := 18) rfl) gk_8_75_8 (by decide) ?_
    obtain ⟨hg8, h⟩ := am_guard h
    refine aq_iast (am_dg dkX8_saveTo (i := 19) rfl) (fs_57 _ hj1) hg8 ?_
    obtain ⟨s9, hs10, h⟩ := am_bnd h
    rw [Option.some.inj hs10]
    refine aq_aload_n (am_dg dkX8_saveTo (i := 20) rfl) rfl ?_
    refine aq_getR (am_dg dkX8_saveTo (i := 21) rfl) gk_8_24_8 (rf_8_12 hR) ?_
    refine aq_iconst (v := (0 : Int32)) (am_dg dkX8_saveTo (i := 22) rfl) (by decide) ?_
    refine aq_aload_n (am_dg dkX8_saveTo (i := 23) rfl) rfl ?_
    refine aq_iconst (v := (3 : Int32)) (am_dg dkX8_saveTo (i := 24) rfl) (by decide) ?_
    refine aq_bipush (v := (6 : Int32)) (am_dg dkX8_saveTo (i := 25) rfl) (by decide) ?_
    obtain ⟨hg11, h⟩ := am_guard h
    refine aq_copy (am_dg dkX8_saveTo (i := 26) rfl) yk_8_81.1 yk_8_81.2 (Nat.le_of_ble_eq_true rfl) sh_13 (fs_57 _ hj1) hg11 ?_
    obtain ⟨s12, hs13, h⟩ := am_bnd h
    rw [Option.some.inj hs13]
    obtain rfl := Option.some.inj h
    exact aq_return (am_dg dkX8_saveTo (i := 27) rfl) rfl
  · rw [if_neg hc1] at h
    refine aq_icF (t := 8) (am_dg dkX8_saveTo (i := 3) rfl) rfl (decide_eq_false hc1) ?_
    obtain rfl := Option.some.inj h
    exact aq_return (am_dg dkX8_saveTo (i := 4) rfl) rfl
set_option maxRecDepth 20000 in
theorem T_X3_weigh_50_b50 {sc : Option (Nat × (Nat → Int32))} {RF : Nat → Nat → Option Nat} {d : Nat} (hR : am_RFok RF) (hd : 0 ≤ d) : ∀ (x2 : Int32) (w1 : Value) (s : am_S) (r : am_S), F_X3_weigh_50_b50 x2 s = some r → am_Q sc d mX3_weigh (50, [.ref 50, w1, .int x2], [], am_hp RF s) (.null, am_hp RF r) := by
  intro x2 w1 s r h
  unfold F_X3_weigh_50_b50 at h
  refine aq_aload_n (am_dg dkX3_weigh (i := 28) rfl) rfl ?_
  refine aq_dup (am_dg dkX3_weigh (i := 29) rfl) rfl ?_
  refine aq_getI (am_dg dkX3_weigh (i := 30) rfl) gk_3_141_50 (by decide) ?_
  refine aq_aload_n (am_dg dkX3_weigh (i := 31) rfl) rfl ?_
  refine aq_getR (am_dg dkX3_weigh (i := 32) rfl) gk_3_37_50 (rf_50_0 hR) ?_
  refine aq_getI (am_dg dkX3_weigh (i := 33) rfl) gk_3_164_8 (by decide) ?_
  refine aq_ior (am_dg dkX3_weigh (i := 34) rfl) ?_
  refine aq_putI (am_dg dkX3_weigh (i := 35) rfl) gk_3_141_50 ?_
  obtain ⟨s1, hs2, h⟩ := am_bnd h
  rw [Option.some.inj hs2]
  refine aq_aload_n (am_dg dkX3_weigh (i := 36) rfl) rfl ?_
  refine aq_getI (am_dg dkX3_weigh (i := 37) rfl) gk_3_129_50 (by decide) ?_
  refine aq_aload_n (am_dg dkX3_weigh (i := 38) rfl) rfl ?_
  refine aq_getR (am_dg dkX3_weigh (i := 39) rfl) gk_3_37_50 (rf_50_0 hR) ?_
  refine aq_getI (am_dg dkX3_weigh (i := 40) rfl) gk_3_164_8 (by decide) ?_
  refine aq_iconst (v := (-1 : Int32)) (am_dg dkX3_weigh (i := 41) rfl) (by decide) ?_
  refine aq_ixor (am_dg dkX3_weigh (i := 42) rfl) ?_
  refine aq_iand (am_dg dkX3_weigh (i := 43) rfl) ?_
  by_cases hc3 : ((s1.1 50 6) &&& ((s1.1 8 6) ^^^ (-1 : Int32))) = (0 : Int32)
  · rw [if_pos hc3] at h
    refine aq_ifF (t := 105) (am_dg dkX3_weigh (i := 44) rfl) rfl (decide_eq_false (not_not_intro hc3)) ?_
    refine aq_aload_n (am_dg dkX3_weigh (i := 45) rfl) rfl ?_
    refine aq_getI (am_dg dkX3_weigh (i := 46) rfl) gk_3_138_50 (by decide) ?_
    refine aq_bipush (v := (-3 : Int32)) (am_dg dkX3_weigh (i := 47) rfl) (by decide) ?_
    by_cases hc4 : (s1.1 50 10) = (-3 : Int32)
    · rw [if_pos hc4] at h
      refine aq_icT (t := 100) (am_dg dkX3_weigh (i := 48) rfl) rfl (decide_eq_true hc4) ?_
      refine aq_aload_n (am_dg dkX3_weigh (i := 53) rfl) rfl ?_
      refine aq_iload_n (am_dg dkX3_weigh (i := 54) rfl) rfl ?_
      refine aq_putI (am_dg dkX3_weigh (i := 55) rfl) gk_3_138_50 ?_
      obtain ⟨s5, hs6, h⟩ := am_bnd h
      rw [Option.some.inj hs6]
      obtain rfl := Option.some.inj h
      exact aq_return (am_dg dkX3_weigh (i := 56) rfl) rfl
    · rw [if_neg hc4] at h
      refine aq_icF (t := 100) (am_dg dkX3_weigh (i := 48) rfl) rfl (decide_eq_false hc4) ?_
      refine aq_iload_n (am_dg dkX3_weigh (i := 49) rfl) rfl ?_
      refine aq_aload_n (am_dg dkX3_weigh (i := 50) rfl) rfl ?_
      refine aq_getI (am_dg dkX3_weigh (i := 51) rfl) gk_3_138_50 (by decide) ?_
      by_cases hc7 : (s1.1 50 10) ≤ x2
      · rw [if_pos hc7] at h
        refine aq_icT (t := 105) (am_dg dkX3_weigh (i := 52) rfl) rfl (decide_eq_true hc7) ?_
        obtain rfl := Option.some.inj h
        exact aq_return (am_dg dkX3_weigh (i := 56) rfl) rfl
      · rw [if_neg hc7] at h
        refine aq_icF (t := 105) (am_dg dkX3_weigh (i := 52) rfl) rfl (decide_eq_false hc7) ?_
        refine aq_aload_n (am_dg dkX3_weigh (i := 53) rfl) rfl ?_
        refine aq_iload_n (am_dg dkX3_weigh (i := 54) rfl) rfl ?_
        refine aq_putI (am_dg dkX3_weigh (i := 55) rfl) gk_3_138_50 ?_
        obtain ⟨s8, hs9, h⟩ := am_bnd h
        rw [Option.some.inj hs9]
        obtain rfl := Option.some.inj h
        exact aq_return (am_dg dkX3_weigh (i := 56) rfl) rfl
  · rw [if_neg hc3] at h
    refine aq_ifT (t := 105) (am_dg dkX3_weigh (i := 44) rfl) rfl (decide_eq_true hc3) ?_
    obtain rfl := Option.some.inj h
    exact aq_return (am_dg dkX3_weigh (i := 56) rfl) rfl
set_option maxRecDepth 20000 in
theorem T_X3_weigh_50_b32 {sc : Option (Nat × (Nat → Int32))} {RF : Nat → Nat → Option Nat} {d : Nat} (hR : am_RFok RF) (hd : 0 ≤ d) : ∀ (x1 : Int32) (x2 : Int32) (s : am_S) (r : am_S), F_X3_weigh_50_b32 x1 x2 s = some r → am_Q sc d mX3_weigh (32, [.ref 50, .int x1, .int x2], [], am_hp RF s) (.null, am_hp RF r) := by
  intro x1 x2 s r h
  unfold F_X3_weigh_50_b32 at h
  refine aq_iload_n (am_dg dkX3_weigh (i := 18) rfl) rfl ?_
  refine aq_aload_n (am_dg dkX3_weigh (i := 19) rfl) rfl ?_
  refine aq_getI (am_dg dkX3_weigh (i := 20) rfl) gk_3_132_50 (by decide) ?_
  by_cases hc1 : x1 = (s.1 50 8)
  · rw [if_pos hc1] at h
    refine aq_icF (t := 50) (am_dg dkX3_weigh (i := 21) rfl) rfl (decide_eq_false (not_not_intro hc1)) ?_
    refine aq_aload_n (am_dg dkX3_weigh (i := 22) rfl) rfl ?_
    refine aq_dup (am_dg dkX3_weigh (i := 23) rfl) rfl ?_
    refine aq_getI (am_dg dkX3_weigh (i := 24) rfl) gk_3_135_50 (by decide) ?_
    refine aq_iconst (v := (1 : Int32)) (am_dg dkX3_weigh (i := 25) rfl) (by decide) ?_
    refine aq_iadd (am_dg dkX3_weigh (i := 26) rfl) ?_
    refine aq_putI (am_dg dkX3_weigh (i := 27) rfl) gk_3_135_50 ?_
    obtain ⟨s2, hs3, h⟩ := am_bnd h
    rw [Option.some.inj hs3]
    exact T_X3_weigh_50_b50 hR (by omega) _ _ _ _ h
  · rw [if_neg hc1] at h
    refine aq_icT (t := 50) (am_dg dkX3_weigh (i := 21) rfl) rfl (decide_eq_true hc1) ?_
    exact T_X3_weigh_50_b50 hR (by omega) _ _ _ _ h
set_option maxRecDepth 20000 in
theorem T_X3_weigh_50 {sc : Option (Nat × (Nat → Int32))} {RF : Nat → Nat → Option Nat} {d : Nat} (hR : am_RFok RF) (hd : 0 ≤ d) {a1 : Int32} {a2 : Int32} {s : am_S} {r : am_S} (h : F_X3_weigh_50 a1 a2 s = some r) : am_Q sc d mX3_weigh (0, am_L0 mX3_weigh [.ref 50, .int a1, .int a2], [], am_hp RF s) (.null, am_hp RF r) := by
  unfold F_X3_weigh_50 at h
  show am_Q _ _ _ (0, [.ref 50, .int a1, .int a2], [], _) _
  refine aq_iload_n (am_dg dkX3_weigh (i := 0) rfl) rfl ?_
  refine aq_aload_n (am_dg dkX3_weigh (i := 1) rfl) rfl ?_
  refine aq_getI (am_dg dkX3_weigh (i := 2) rfl) gk_3_132_50 (by decide) ?_
  by_cases hc1 : a1 ≤ (s.1 50 8)
  · rw [if_pos hc1] at h
    refine aq_icT (t := 32) (am_dg dkX3_weigh (i := 3) rfl) rfl (decide_eq_true hc1) ?_
    exact T_X3_weigh_50_b32 hR (by omega) _ _ _ _ h
  · rw [if_neg hc1] at h
    refine aq_icF (t := 32) (am_dg dkX3_weigh (i := 3) rfl) rfl (decide_eq_false hc1) ?_
    refine aq_aload_n (am_dg dkX3_weigh (i := 4) rfl) rfl ?_
    refine aq_iload_n (am_dg dkX3_weigh (i := 5) rfl) rfl ?_
    refine aq_putI (am_dg dkX3_weigh (i := 6) rfl) gk_3_132_50 ?_
    obtain ⟨s2, hs3, h⟩ := am_bnd h
    rw [Option.some.inj hs3]
    refine aq_aload_n (am_dg dkX3_weigh (i := 7) rfl) rfl ?_
    refine aq_iconst (v := (0 : Int32)) (am_dg dkX3_weigh (i := 8) rfl) (by decide) ?_
    refine aq_putI (am_dg dkX3_weigh (i := 9) rfl) gk_3_135_50 ?_
    obtain ⟨s4, hs5, h⟩ := am_bnd h
    rw [Option.some.inj hs5]
    refine aq_aload_n (am_dg dkX3_weigh (i := 10) rfl) rfl ?_
    refine aq_getR (am_dg dkX3_weigh (i := 11) rfl) gk_3_25_50 (rf_50_4 hR) ?_
    refine aq_iconst (v := (0 : Int32)) (am_dg dkX3_weigh (i := 12) rfl) (by decide) ?_
    refine aq_aload_n (am_dg dkX3_weigh (i := 13) rfl) rfl ?_
    refine aq_getR (am_dg dkX3_weigh (i := 14) rfl) gk_3_28_50 (rf_50_7 hR) ?_
    refine aq_iconst (v := (0 : Int32)) (am_dg dkX3_weigh (i := 15) rfl) (by decide) ?_
    refine aq_iconst (v := (4 : Int32)) (am_dg dkX3_weigh (i := 16) rfl) (by decide) ?_
    obtain ⟨hg6, h⟩ := am_guard h
    refine aq_copy (am_dg dkX3_weigh (i := 17) rfl) yk_3_158.1 yk_3_158.2 (Nat.le_of_ble_eq_true rfl) sh_62 sh_63 hg6 ?_
    obtain ⟨s7, hs8, h⟩ := am_bnd h
    rw [Option.some.inj hs8]
    exact T_X3_weigh_50_b32 hR (by omega) _ _ _ _ h
set_option maxRecDepth 20000 in
theorem T_X8_comeBackTo_8_f52 {sc : Option (Nat × (Nat → Int32))} {RF : Nat → Nat → Option Nat} {d : Nat} (hR : am_RFok RF) (hd : 0 ≤ d) {j1 : Nat} (hj1 : j1 < 4) {s : am_S} {r : am_S} (h : F_X8_comeBackTo_8_f52 j1 s = some r) : am_Q sc d mX8_comeBackTo (0, am_L0 mX8_comeBackTo [.ref 8, .ref (53 + j1)], [], am_hp RF s) (.null, am_hp RF r) := by
  unfold F_X8_comeBackTo_8_f52 at h
  show am_Q _ _ _ (0, [.ref 8, .ref (53 + j1)], [], _) _
  refine aq_aload_n (am_dg dkX8_comeBackTo (i := 0) rfl) rfl ?_
  refine aq_alen (v := (9 : Int32)) (am_dg dkX8_comeBackTo (i := 1) rfl) (fs_52 _ hj1) (by decide) (by decide) ?_
  refine aq_bipush (v := (9 : Int32)) (am_dg dkX8_comeBackTo (i := 2) rfl) (by decide) ?_
  by_cases hc1 : (9 : Int32) ≤ (9 : Int32)
  · rw [if_pos hc1] at h
    refine aq_icT (t := 8) (am_dg dkX8_comeBackTo (i := 3) rfl) rfl (decide_eq_true hc1) ?_
    refine aq_aload_n (am_dg dkX8_comeBackTo (i := 5) rfl) rfl ?_
    refine aq_aload_n (am_dg dkX8_comeBackTo (i := 6) rfl) rfl ?_
    refine aq_iconst (v := (0 : Int32)) (am_dg dkX8_comeBackTo (i := 7) rfl) (by decide) ?_
    obtain ⟨hg2, h⟩ := am_guard h
    refine aq_iald (am_dg dkX8_comeBackTo (i := 8) rfl) (fs_52 _ hj1) hg2 ?_
    refine aq_putI (am_dg dkX8_comeBackTo (i := 9) rfl) gk_8_66_8 ?_
    obtain ⟨s3, hs4, h⟩ := am_bnd h
    rw [Option.some.inj hs4]
    refine aq_aload_n (am_dg dkX8_comeBackTo (i := 10) rfl) rfl ?_
    refine aq_aload_n (am_dg dkX8_comeBackTo (i := 11) rfl) rfl ?_
    refine aq_iconst (v := (1 : Int32)) (am_dg dkX8_comeBackTo (i := 12) rfl) (by decide) ?_
    obtain ⟨hg5, h⟩ := am_guard h
    refine aq_iald (am_dg dkX8_comeBackTo (i := 13) rfl) (fs_52 _ hj1) hg5 ?_
    refine aq_putI (am_dg dkX8_comeBackTo (i := 14) rfl) gk_8_69_8 ?_
    obtain ⟨s6, hs7, h⟩ := am_bnd h
    rw [Option.some.inj hs7]
    refine aq_aload_n (am_dg dkX8_comeBackTo (i := 15) rfl) rfl ?_
    refine aq_aload_n (am_dg dkX8_comeBackTo (i := 16) rfl) rfl ?_
    refine aq_iconst (v := (2 : Int32)) (am_dg dkX8_comeBackTo (i := 17) rfl) (by decide) ?_
    obtain ⟨hg8, h⟩ := am_guard h
    refine aq_iald (am_dg dkX8_comeBackTo (i := 18) rfl) (fs_52 _ hj1) hg8 ?_
    refine aq_putI (am_dg dkX8_comeBackTo (i := 19) rfl) gk_8_75_8 ?_
    obtain ⟨s9, hs10, h⟩ := am_bnd h
    rw [Option.some.inj hs10]
    refine aq_aload_n (am_dg dkX8_comeBackTo (i := 20) rfl) rfl ?_
    refine aq_iconst (v := (3 : Int32)) (am_dg dkX8_comeBackTo (i := 21) rfl) (by decide) ?_
    refine aq_aload_n (am_dg dkX8_comeBackTo (i := 22) rfl) rfl ?_
    refine aq_getR (am_dg dkX8_comeBackTo (i := 23) rfl) gk_8_24_8 (rf_8_12 hR) ?_
    refine aq_iconst (v := (0 : Int32)) (am_dg dkX8_comeBackTo (i := 24) rfl) (by decide) ?_
    refine aq_bipush (v := (6 : Int32)) (am_dg dkX8_comeBackTo (i := 25) rfl) (by decide) ?_
    obtain ⟨hg11, h⟩ := am_guard h
    refine aq_copy (am_dg dkX8_comeBackTo (i := 26) rfl) yk_8_81.1 yk_8_81.2 (Nat.le_of_ble_eq_true rfl) (fs_52 _ hj1) sh_13 hg11 ?_
    obtain ⟨s12, hs13, h⟩ := am_bnd h
    rw [Option.some.inj hs13]
    obtain rfl := Option.some.inj h
    exact aq_return (am_dg dkX8_comeBackTo (i := 27) rfl) rfl
  · rw [if_neg hc1] at h
    refine aq_icF (t := 8) (am_dg dkX8_comeBackTo (i := 3) rfl) rfl (decide_eq_false hc1) ?_
    obtain rfl := Option.some.inj h
    exact aq_return (am_dg dkX8_comeBackTo (i := 4) rfl) rfl
set_option maxRecDepth 20000 in
theorem T_X8_comeBackTo_8_f57 {sc : Option (Nat × (Nat → Int32))} {RF : Nat → Nat → Option Nat} {d : Nat} (hR : am_RFok RF) (hd : 0 ≤ d) {j1 : Nat} (hj1 : j1 < 4) {s : am_S} {r : am_S} (h : F_X8_comeBackTo_8_f57 j1 s = some r) : am_Q sc d mX8_comeBackTo (0, am_L0 mX8_comeBackTo [.ref 8, .ref (58 + j1)], [], am_hp RF s) (.null, am_hp RF r) := by
  unfold F_X8_comeBackTo_8_f57 at h
  show am_Q _ _ _ (0, [.ref 8, .ref (58 + j1)], [], _) _
  refine aq_aload_n (am_dg dkX8_comeBackTo (i := 0) rfl) rfl ?_
  refine aq_alen (v := (9 : Int32)) (am_dg dkX8_comeBackTo (i := 1) rfl) (fs_57 _ hj1) (by decide) (by decide) ?_
  refine aq_bipush (v := (9 : Int32)) (am_dg dkX8_comeBackTo (i := 2) rfl) (by decide) ?_
  by_cases hc1 : (9 : Int32) ≤ (9 : Int32)
  · rw [if_pos hc1] at h
    refine aq_icT (t := 8) (am_dg dkX8_comeBackTo (i := 3) rfl) rfl (decide_eq_true hc1) ?_
    refine aq_aload_n (am_dg dkX8_comeBackTo (i := 5) rfl) rfl ?_
    refine aq_aload_n (am_dg dkX8_comeBackTo (i := 6) rfl) rfl ?_
    refine aq_iconst (v := (0 : Int32)) (am_dg dkX8_comeBackTo (i := 7) rfl) (by decide) ?_
    obtain ⟨hg2, h⟩ := am_guard h
    refine aq_iald (am_dg dkX8_comeBackTo (i := 8) rfl) (fs_57 _ hj1) hg2 ?_
    refine aq_putI (am_dg dkX8_comeBackTo (i := 9) rfl) gk_8_66_8 ?_
    obtain ⟨s3, hs4, h⟩ := am_bnd h
    rw [Option.some.inj hs4]
    refine aq_aload_n (am_dg dkX8_comeBackTo (i := 10) rfl) rfl ?_
    refine aq_aload_n (am_dg dkX8_comeBackTo (i := 11) rfl) rfl ?_
    refine aq_iconst (v := (1 : Int32)) (am_dg dkX8_comeBackTo (i := 12) rfl) (by decide) ?_
    obtain ⟨hg5, h⟩ := am_guard h
    refine aq_iald (am_dg dkX8_comeBackTo (i := 13) rfl) (fs_57 _ hj1) hg5 ?_
    refine aq_putI (am_dg dkX8_comeBackTo (i := 14) rfl) gk_8_69_8 ?_
    obtain ⟨s6, hs7, h⟩ := am_bnd h
    rw [Option.some.inj hs7]
    refine aq_aload_n (am_dg dkX8_comeBackTo (i := 15) rfl) rfl ?_
    refine aq_aload_n (am_dg dkX8_comeBackTo (i := 16) rfl) rfl ?_
    refine aq_iconst (v := (2 : Int32)) (am_dg dkX8_comeBackTo (i := 17) rfl) (by decide) ?_
    obtain ⟨hg8, h⟩ := am_guard h
    refine aq_iald (am_dg dkX8_comeBackTo (i := 18) rfl) (fs_57 _ hj1) hg8 ?_
    refine aq_putI (am_dg dkX8_comeBackTo (i := 19) rfl) gk_8_75_8 ?_
    obtain ⟨s9, hs10, h⟩ := am_bnd h
    rw [Option.some.inj hs10]
    refine aq_aload_n (am_dg dkX8_comeBackTo (i := 20) rfl) rfl ?_
    refine aq_iconst (v := (3 : Int32)) (am_dg dkX8_comeBackTo (i := 21) rfl) (by decide) ?_
    refine aq_aload_n (am_dg dkX8_comeBackTo (i := 22) rfl) rfl ?_
    refine aq_getR (am_dg dkX8_comeBackTo (i := 23) rfl) gk_8_24_8 (rf_8_12 hR) ?_
    refine aq_iconst (v := (0 : Int32)) (am_dg dkX8_comeBackTo (i := 24) rfl) (by decide) ?_
    refine aq_bipush (v := (6 : Int32)) (am_dg dkX8_comeBackTo (i := 25) rfl) (by decide) ?_
    obtain ⟨hg11, h⟩ := am_guard h
    refine aq_copy (am_dg dkX8_comeBackTo (i := 26) rfl) yk_8_81.1 yk_8_81.2 (Nat.le_of_ble_eq_true rfl) (fs_57 _ hj1) sh_13 hg11 ?_
    obtain ⟨s12, hs13, h⟩ := am_bnd h
    rw [Option.some.inj hs13]
    obtain rfl := Option.some.inj h
    exact aq_return (am_dg dkX8_comeBackTo (i := 27) rfl) rfl
  · rw [if_neg hc1] at h
    refine aq_icF (t := 8) (am_dg dkX8_comeBackTo (i := 3) rfl) rfl (decide_eq_false hc1) ?_
    obtain rfl := Option.some.inj h
    exact aq_return (am_dg dkX8_comeBackTo (i := 4) rfl) rfl
set_option maxRecDepth 20000 in
theorem T_X3_walk_50_b102 {sc : Option (Nat × (Nat → Int32))} {RF : Nat → Nat → Option Nat} {d : Nat} (hR : am_RFok RF) (hd : 4 ≤ d) {rc : Int32 → Int32 → Int32 → am_S → Option (am_S)} {dr : Nat} (hdr : dr + 1 ≤ d) (hrc : ∀ (c0 : Int32) (c1 : Int32) (c2 : Int32) (s2 : am_S) (r2 : am_S), rc c0 c1 c2 s2 = some r2 → am_Q sc dr mX3_walk (0, am_L0 mX3_walk [.ref 50, .int c0, .int c1, .int c2], [], am_hp RF s2) (.null, am_hp RF r2)) {k51 : Int32 → Int32 → Int32 → Int32 → am_S → Option (am_S)} (hk51 : ∀ (x1 : Int32) (x2 : Int32) (x3 : Int32) (x4 : Int32) (w5 : Value) (s2 : am_S) (r2 : am_S), k51 x1 x2 x3 x4 s2 = some r2 → am_Q sc d mX3_walk (51, [.ref 50, .int x1, .int x2, .int x3, .int x4, w5], [], am_hp RF s2) (.null, am_hp RF r2)) : ∀ (x1 : Int32) (x2 : Int32) (x3 : Int32) (x4 : Int32) (y0 : Int32) (y1 : Int32) (y2 : Int32) (w5 : Value) (s : am_S) (r : am_S), F_X3_walk_50_b102 rc k51 x1 x2 x3 x4 y0 y1 y2 s = some r → am_Q sc d mX3_walk (102, [.ref 50, .int x1, .int x2, .int x3, .int x4, w5], [.int y0, .int y1, .int y2, .ref 50], am_hp RF s) (.null, am_hp RF r) := by
  obtain ⟨e, rfl⟩ : ∃ e, d = e + 1 := ⟨d - 1, by omega⟩
  intro x1 x2 x3 x4 y0 y1 y2 w5 s r h
  unfold F_X3_walk_50_b102 at h
  obtain ⟨q1, hq2, h⟩ := am_bnd h
  refine aq_virt (a := [.ref 50, .int y2, .int y1, .int y0]) (S1 := []) (v1 := .null) (S2 := []) (am_dg dkX3_walk (i := 57) rfl) cv_3_144_3 (am_cls_c sh_50 (by decide)) rfl rfl rfl (Nat.le_of_ble_eq_true rfl) (Nat.le_of_ble_eq_true rfl) (am_Q_le (hrc _ _ _ _ _ hq2) (by omega)) rfl ?_
  refine aq_aload_n (am_dg dkX3_walk (i := 58) rfl) rfl ?_
  refine aq_getR (am_dg dkX3_walk (i := 59) rfl) gk_3_37_50 (rf_50_0 hR) ?_
  refine aq_aload_n (am_dg dkX3_walk (i := 60) rfl) rfl ?_
  refine aq_getR (am_dg dkX3_walk (i := 61) rfl) gk_3_22_50 (rf_50_3 hR) ?_
  refine aq_iload_n (am_dg dkX3_walk (i := 62) rfl) rfl ?_
  obtain ⟨hg3, h⟩ := am_guard h
  refine aq_aald (am_dg dkX3_walk (i := 63) rfl) sh_57 (by decide) hg3 (fm_57 hR _ (am_in_lt hg3)) ?_
  obtain ⟨q4, hq5, h⟩ := am_bnd h
  refine aq_virt (a := [.ref 8, .ref (58 + x1.toNatClampNeg)]) (S1 := []) (v1 := .null) (S2 := []) (am_dg dkX3_walk (i := 64) rfl) cv_3_45_8 (am_cls_c sh_8 (by decide)) rfl rfl rfl (Nat.le_of_ble_eq_true rfl) (Nat.le_of_ble_eq_true rfl) (T_X8_comeBackTo_8_f57 hR (by omega) (am_in_lt hg3) hq5) rfl ?_
  refine aq_iinc (v := (1 : Int32)) (L1 := [.ref 50, .int x1, .int x2, .int x3, .int (x4 + (1 : Int32)), w5]) (am_dg dkX3_walk (i := 65) rfl) rfl (by decide) rfl ?_
  refine aq_goto (t := 51) (am_dg dkX3_walk (i := 66) rfl) rfl ?_
  exact hk51 _ _ _ _ _ _ _ h
set_option maxRecDepth 20000 in
theorem T_X3_walk_50_b51 {sc : Option (Nat × (Nat → Int32))} {RF : Nat → Nat → Option Nat} {d : Nat} (hR : am_RFok RF) (hd : 4 ≤ d) {rc : Int32 → Int32 → Int32 → am_S → Option (am_S)} {dr : Nat} (hdr : dr + 1 ≤ d) (hrc : ∀ (c0 : Int32) (c1 : Int32) (c2 : Int32) (s2 : am_S) (r2 : am_S), rc c0 c1 c2 s2 = some r2 → am_Q sc dr mX3_walk (0, am_L0 mX3_walk [.ref 50, .int c0, .int c1, .int c2], [], am_hp RF s2) (.null, am_hp RF r2)) : ∀ (n : Nat) (x1 : Int32) (x2 : Int32) (x3 : Int32) (x4 : Int32) (w5 : Value) (s : am_S) (r : am_S), F_X3_walk_50_b51 rc n x1 x2 x3 x4 s = some r → am_Q sc d mX3_walk (51, [.ref 50, .int x1, .int x2, .int x3, .int x4, w5], [], am_hp RF s) (.null, am_hp RF r) := by
  obtain ⟨e, rfl⟩ : ∃ e, d = e + 1 := ⟨d - 1, by omega⟩
  intro n
  induction n with
  | zero => intro x1 x2 x3 x4 w5 s r h; rw [F_X3_walk_50_b51] at h; cases h
  | succ n ih =>
  intro x1 x2 x3 x4 w5 s r h
  rw [F_X3_walk_50_b51] at h
  refine aq_iload (am_dg dkX3_walk (i := 28) rfl) rfl ?_
  refine aq_aload_n (am_dg dkX3_walk (i := 29) rfl) rfl ?_
  refine aq_getR (am_dg dkX3_walk (i := 30) rfl) gk_3_37_50 (rf_50_0 hR) ?_
  refine aq_getI (am_dg dkX3_walk (i := 31) rfl) gk_3_91_8 (by decide) ?_
  by_cases hc1 : (s.1 8 5) < x4
  · rw [if_pos hc1] at h
    refine aq_icT (t := 124) (am_dg dkX3_walk (i := 32) rfl) rfl (decide_eq_true hc1) ?_
    refine aq_aload_n (am_dg dkX3_walk (i := 67) rfl) rfl ?_
    refine aq_getR (am_dg dkX3_walk (i := 68) rfl) gk_3_37_50 (rf_50_0 hR) ?_
    refine aq_aload_n (am_dg dkX3_walk (i := 69) rfl) rfl ?_
    refine aq_getR (am_dg dkX3_walk (i := 70) rfl) gk_3_19_50 (rf_50_2 hR) ?_
    refine aq_iload_n (am_dg dkX3_walk (i := 71) rfl) rfl ?_
    obtain ⟨hg2, h⟩ := am_guard h
    refine aq_aald (am_dg dkX3_walk (i := 72) rfl) sh_52 (by decide) hg2 (fm_52 hR _ (am_in_lt hg2)) ?_
    obtain ⟨q3, hq4, h⟩ := am_bnd h
    refine aq_virt (a := [.ref 8, .ref (53 + x1.toNatClampNeg)]) (S1 := []) (v1 := .null) (S2 := []) (am_dg dkX3_walk (i := 73) rfl) cv_3_45_8 (am_cls_c sh_8 (by decide)) rfl rfl rfl (Nat.le_of_ble_eq_true rfl) (Nat.le_of_ble_eq_true rfl) (T_X8_comeBackTo_8_f52 hR (by omega) (am_in_lt hg2) hq4) rfl ?_
    obtain rfl := Option.some.inj h
    exact aq_return (am_dg dkX3_walk (i := 74) rfl) rfl
  · rw [if_neg hc1] at h
    refine aq_icF (t := 124) (am_dg dkX3_walk (i := 32) rfl) rfl (decide_eq_false hc1) ?_
    refine aq_aload_n (am_dg dkX3_walk (i := 33) rfl) rfl ?_
    refine aq_getR (am_dg dkX3_walk (i := 34) rfl) gk_3_25_50 (rf_50_4 hR) ?_
    refine aq_iload_n (am_dg dkX3_walk (i := 35) rfl) rfl ?_
    refine aq_iload (am_dg dkX3_walk (i := 36) rfl) rfl ?_
    obtain ⟨hg5, h⟩ := am_guard h
    refine aq_iast (am_dg dkX3_walk (i := 37) rfl) sh_62 hg5 ?_
    obtain ⟨s6, hs7, h⟩ := am_bnd h
    rw [Option.some.inj hs7]
    refine aq_aload_n (am_dg dkX3_walk (i := 38) rfl) rfl ?_
    refine aq_getR (am_dg dkX3_walk (i := 39) rfl) gk_3_37_50 (rf_50_0 hR) ?_
    refine aq_iload (am_dg dkX3_walk (i := 40) rfl) rfl ?_
    obtain ⟨q8, hq9, h⟩ := am_bnd h
    refine aq_virt (a := [.ref 8, .int x4]) (S1 := []) (v1 := .int q8.1) (S2 := [.int q8.1]) (am_dg dkX3_walk (i := 41) rfl) cv_3_155_8 (am_cls_c sh_8 (by decide)) rfl rfl rfl (Nat.le_of_ble_eq_true rfl) (Nat.le_of_ble_eq_true rfl) (T_X8_cast_8 hR (by omega) hq9) rfl ?_
    refine aq_istore (L1 := [.ref 50, .int x1, .int x2, .int x3, .int x4, .int q8.1]) (am_dg dkX3_walk (i := 42) rfl) rfl ?_
    refine aq_aload_n (am_dg dkX3_walk (i := 43) rfl) rfl ?_
    refine aq_iload_n (am_dg dkX3_walk (i := 44) rfl) rfl ?_
    refine aq_iconst (v := (1 : Int32)) (am_dg dkX3_walk (i := 45) rfl) (by decide) ?_
    refine aq_iadd (am_dg dkX3_walk (i := 46) rfl) ?_
    refine aq_iload_n (am_dg dkX3_walk (i := 47) rfl) rfl ?_
    refine aq_iload (am_dg dkX3_walk (i := 48) rfl) rfl ?_
    refine aq_iadd (am_dg dkX3_walk (i := 49) rfl) ?_
    refine aq_iload (am_dg dkX3_walk (i := 50) rfl) rfl ?_
    by_cases hc10 : x4 = (0 : Int32)
    · rw [if_pos hc10] at h
      refine aq_ifF (t := 99) (am_dg dkX3_walk (i := 51) rfl) rfl (decide_eq_false (not_not_intro hc10)) ?_
      refine aq_iload_n (am_dg dkX3_walk (i := 52) rfl) rfl ?_
      refine aq_goto (t := 102) (am_dg dkX3_walk (i := 53) rfl) rfl ?_
      exact T_X3_walk_50_b102 hR (by omega) (by omega) hrc ih _ _ _ _ _ _ _ _ _ _ h
    · rw [if_neg hc10] at h
      refine aq_ifT (t := 99) (am_dg dkX3_walk (i := 51) rfl) rfl (decide_eq_true hc10) ?_
      refine aq_iload_n (am_dg dkX3_walk (i := 54) rfl) rfl ?_
      refine aq_iconst (v := (1 : Int32)) (am_dg dkX3_walk (i := 55) rfl) (by decide) ?_
      refine aq_iadd (am_dg dkX3_walk (i := 56) rfl) ?_
      exact T_X3_walk_50_b102 hR (by omega) (by omega) hrc ih _ _ _ _ _ _ _ _ _ _ h
set_option maxRecDepth 20000 in
theorem T_X3_walk_50_o {sc : Option (Nat × (Nat → Int32))} {RF : Nat → Nat → Option Nat} {d : Nat} (hR : am_RFok RF) (hd : 4 ≤ d) {rc : Int32 → Int32 → Int32 → am_S → Option (am_S)} {dr : Nat} (hdr : dr + 1 ≤ d) (hrc : ∀ (c0 : Int32) (c1 : Int32) (c2 : Int32) (s2 : am_S) (r2 : am_S), rc c0 c1 c2 s2 = some r2 → am_Q sc dr mX3_walk (0, am_L0 mX3_walk [.ref 50, .int c0, .int c1, .int c2], [], am_hp RF s2) (.null, am_hp RF r2)) {a1 : Int32} {a2 : Int32} {a3 : Int32} {s : am_S} {r : am_S} (h : F_X3_walk_50_o rc a1 a2 a3 s = some r) : am_Q sc d mX3_walk (0, am_L0 mX3_walk [.ref 50, .int a1, .int a2, .int a3], [], am_hp RF s) (.null, am_hp RF r) := by
  obtain ⟨e, rfl⟩ : ∃ e, d = e + 1 := ⟨d - 1, by omega⟩
  unfold F_X3_walk_50_o at h
  show am_Q _ _ _ (0, [.ref 50, .int a1, .int a2, .int a3, .null, .null], [], _) _
  refine aq_iload_n (am_dg dkX3_walk (i := 0) rfl) rfl ?_
  refine aq_aload_n (am_dg dkX3_walk (i := 1) rfl) rfl ?_
  refine aq_getI (am_dg dkX3_walk (i := 2) rfl) gk_3_126_50 (by decide) ?_
  by_cases hc1 : a1 < (s.1 50 5)
  · rw [if_pos hc1] at h
    refine aq_icT (t := 15) (am_dg dkX3_walk (i := 3) rfl) rfl (decide_eq_true hc1) ?_
    refine aq_aload_n (am_dg dkX3_walk (i := 9) rfl) rfl ?_
    refine aq_getR (am_dg dkX3_walk (i := 10) rfl) gk_3_37_50 (rf_50_0 hR) ?_
    refine aq_aload_n (am_dg dkX3_walk (i := 11) rfl) rfl ?_
    refine aq_getR (am_dg dkX3_walk (i := 12) rfl) gk_3_19_50 (rf_50_2 hR) ?_
    refine aq_iload_n (am_dg dkX3_walk (i := 13) rfl) rfl ?_
    obtain ⟨hg2, h⟩ := am_guard h
    refine aq_aald (am_dg dkX3_walk (i := 14) rfl) sh_52 (by decide) hg2 (fm_52 hR _ (am_in_lt hg2)) ?_
    obtain ⟨q3, hq4, h⟩ := am_bnd h
    refine aq_virt (a := [.ref 8, .ref (53 + a1.toNatClampNeg)]) (S1 := []) (v1 := .null) (S2 := []) (am_dg dkX3_walk (i := 15) rfl) cv_3_41_8 (am_cls_c sh_8 (by decide)) rfl rfl rfl (Nat.le_of_ble_eq_true rfl) (Nat.le_of_ble_eq_true rfl) (T_X8_saveTo_8_f52 hR (by omega) (am_in_lt hg2) hq4) rfl ?_
    refine aq_aload_n (am_dg dkX3_walk (i := 16) rfl) rfl ?_
    refine aq_getR (am_dg dkX3_walk (i := 17) rfl) gk_3_37_50 (rf_50_0 hR) ?_
    obtain ⟨q5, hq6, h⟩ := am_bnd h
    refine aq_virt (a := [.ref 8]) (S1 := []) (v1 := .null) (S2 := []) (am_dg dkX3_walk (i := 18) rfl) cv_3_152_8 (am_cls_c sh_8 (by decide)) rfl rfl rfl (Nat.le_of_ble_eq_true rfl) (Nat.le_of_ble_eq_true rfl) (T_X8_drift_8 hR (by omega) hq6) rfl ?_
    refine aq_aload_n (am_dg dkX3_walk (i := 19) rfl) rfl ?_
    refine aq_getR (am_dg dkX3_walk (i := 20) rfl) gk_3_37_50 (rf_50_0 hR) ?_
    refine aq_aload_n (am_dg dkX3_walk (i := 21) rfl) rfl ?_
    refine aq_getR (am_dg dkX3_walk (i := 22) rfl) gk_3_22_50 (rf_50_3 hR) ?_
    refine aq_iload_n (am_dg dkX3_walk (i := 23) rfl) rfl ?_
    obtain ⟨hg7, h⟩ := am_guard h
    refine aq_aald (am_dg dkX3_walk (i := 24) rfl) sh_57 (by decide) hg7 (fm_57 hR _ (am_in_lt hg7)) ?_
    obtain ⟨q8, hq9, h⟩ := am_bnd h
    refine aq_virt (a := [.ref 8, .ref (58 + a1.toNatClampNeg)]) (S1 := []) (v1 := .null) (S2 := []) (am_dg dkX3_walk (i := 25) rfl) cv_3_41_8 (am_cls_c sh_8 (by decide)) rfl rfl rfl (Nat.le_of_ble_eq_true rfl) (Nat.le_of_ble_eq_true rfl) (T_X8_saveTo_8_f57 hR (by omega) (am_in_lt hg7) hq9) rfl ?_
    refine aq_iconst (v := (0 : Int32)) (am_dg dkX3_walk (i := 26) rfl) (by decide) ?_
    refine aq_istore (L1 := [.ref 50, .int a1, .int a2, .int a3, .int (0 : Int32), .null]) (am_dg dkX3_walk (i := 27) rfl) rfl ?_
    exact T_X3_walk_50_b51 hR (by omega) (by omega) hrc _ _ _ _ _ _ _ _ h
  · rw [if_neg hc1] at h
    refine aq_icF (t := 15) (am_dg dkX3_walk (i := 3) rfl) rfl (decide_eq_false hc1) ?_
    refine aq_aload_n (am_dg dkX3_walk (i := 4) rfl) rfl ?_
    refine aq_iload_n (am_dg dkX3_walk (i := 5) rfl) rfl ?_
    refine aq_iload_n (am_dg dkX3_walk (i := 6) rfl) rfl ?_
    obtain ⟨q10, hq11, h⟩ := am_bnd h
    refine aq_virt (a := [.ref 50, .int a2, .int a3]) (S1 := []) (v1 := .null) (S2 := []) (am_dg dkX3_walk (i := 7) rfl) cv_3_148_3 (am_cls_c sh_50 (by decide)) rfl rfl rfl (Nat.le_of_ble_eq_true rfl) (Nat.le_of_ble_eq_true rfl) (T_X3_weigh_50 hR (by omega) hq11) rfl ?_
    obtain rfl := Option.some.inj h
    exact aq_return (am_dg dkX3_walk (i := 8) rfl) rfl
set_option maxRecDepth 20000 in
theorem T_X3_walk_50_n {sc : Option (Nat × (Nat → Int32))} {RF : Nat → Nat → Option Nat} (hR : am_RFok RF) : ∀ (n d : Nat) (hd : 1 * n + 4 ≤ d) (a1 : Int32) (a2 : Int32) (a3 : Int32) (s : am_S) (r : am_S), F_X3_walk_50 n a1 a2 a3 s = some r → am_Q sc d mX3_walk (0, am_L0 mX3_walk [.ref 50, .int a1, .int a2, .int a3], [], am_hp RF s) (.null, am_hp RF r) := by
  intro n
  induction n with
  | zero => intro d hd a1 a2 a3 s r h; cases h
  | succ n ih =>
    intro d hd a1 a2 a3 s r h
    exact T_X3_walk_50_o hR (by omega) (rc := F_X3_walk_50 n) (dr := d - 1) (by omega) (fun c0 c1 c2 s2 r2 h2 => ih (d - 1) (by omega) c0 c1 c2 s2 r2 h2) h
