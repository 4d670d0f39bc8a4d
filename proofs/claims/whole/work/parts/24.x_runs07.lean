/-! LAYER 1: the runs (written by wip/whole/gen_f.py) -/
set_option maxRecDepth 20000 in
theorem T_X11_forget_0 {sc : Option (Nat × (Nat → Int32))} {RF : Nat → Nat → Option Nat} {d : Nat} (hR : am_RFok RF) (hd : 0 ≤ d) {s : am_S} {r : Int32 × am_S} (h : F_X11_forget_0 s = some r) : am_Q sc d mX11_forget (0, am_L0 mX11_forget [.ref 0], [], am_hp RF s) (.int r.1, am_hp RF r.2) := by
  unfold F_X11_forget_0 at h
  show am_Q _ _ _ (0, [.ref 0, .null], [], _) _
  refine aq_aload_n (am_dg dkX11_forget (i := 0) rfl) rfl ?_
  refine aq_getR (am_dg dkX11_forget (i := 1) rfl) gk_11_30_0 (rf_0_0 hR) ?_
  refine aq_getI (am_dg dkX11_forget (i := 2) rfl) gk_11_286_8 (by decide) ?_
  refine aq_istore_n (L1 := [.ref 0, .int (s.1 8 7)]) (am_dg dkX11_forget (i := 3) rfl) rfl ?_
  refine aq_aload_n (am_dg dkX11_forget (i := 4) rfl) rfl ?_
  refine aq_getR (am_dg dkX11_forget (i := 5) rfl) gk_11_30_0 (rf_0_0 hR) ?_
  refine aq_iconst (v := (0 : Int32)) (am_dg dkX11_forget (i := 6) rfl) (by decide) ?_
  refine aq_putI (am_dg dkX11_forget (i := 7) rfl) gk_11_286_8 ?_
  obtain ⟨s1, hs2, h⟩ := am_bnd h
  rw [Option.some.inj hs2]
  refine aq_iload_n (am_dg dkX11_forget (i := 8) rfl) rfl ?_
  obtain rfl := Option.some.inj h
  exact aq_ireturn (am_dg dkX11_forget (i := 9) rfl) rfl (Or.inl rfl) rfl
set_option maxRecDepth 20000 in
theorem T_X12_forget_82 {sc : Option (Nat × (Nat → Int32))} {RF : Nat → Nat → Option Nat} {d : Nat} (hR : am_RFok RF) (hd : 1 ≤ d) {s : am_S} {r : Int32 × am_S} (h : F_X12_forget_82 s = some r) : am_Q sc d mX12_forget (0, am_L0 mX12_forget [.ref 82], [], am_hp RF s) (.int r.1, am_hp RF r.2) := by
  obtain ⟨e, rfl⟩ : ∃ e, d = e + 1 := ⟨d - 1, by omega⟩
  unfold F_X12_forget_82 at h
  show am_Q _ _ _ (0, [.ref 82], [], _) _
  refine aq_aload_n (am_dg dkX12_forget (i := 0) rfl) rfl ?_
  refine aq_bipush (v := (6 : Int32)) (am_dg dkX12_forget (i := 1) rfl) (by decide) ?_
  refine aq_iconst (v := (0 : Int32)) (am_dg dkX12_forget (i := 2) rfl) (by decide) ?_
  obtain ⟨q1, hq2, h⟩ := am_bnd h
  refine aq_virt (a := [.ref 82, .int (6 : Int32), .int (0 : Int32)]) (S1 := []) (v1 := .int q1.1) (S2 := [.int q1.1]) (am_dg dkX12_forget (i := 3) rfl) cv_12_108_12 (am_cls_c sh_82 (by decide)) rfl rfl rfl (Nat.le_of_ble_eq_true rfl) (Nat.le_of_ble_eq_true rfl) (T_X12_becomes_82 hR (by omega) hq2) rfl ?_
  obtain rfl := Option.some.inj h
  exact aq_ireturn (am_dg dkX12_forget (i := 4) rfl) rfl (Or.inl rfl) rfl
set_option maxRecDepth 20000 in
theorem T_X3_kindOfStranger {sc : Option (Nat × (Nat → Int32))} {RF : Nat → Nat → Option Nat} {d : Nat} (hR : am_RFok RF) (hd : 0 ≤ d) {a0 : Int32} {s : am_S} {r : Int32 × am_S} (h : F_X3_kindOfStranger a0 s = some r) : am_Q sc d mX3_kindOfStranger (0, am_L0 mX3_kindOfStranger [.int a0], [], am_hp RF s) (.int r.1, am_hp RF r.2) := by
  unfold F_X3_kindOfStranger at h
  show am_Q _ _ _ (0, [.int a0], [], _) _
  refine aq_iload_n (am_dg dkX3_kindOfStranger (i := 0) rfl) rfl ?_
  refine aq_bipush (v := (16 : Int32)) (am_dg dkX3_kindOfStranger (i := 1) rfl) (by decide) ?_
  refine aq_idiv (am_dg dkX3_kindOfStranger (i := 2) rfl) (by decide) ?_
  refine aq_iconst (v := (1 : Int32)) (am_dg dkX3_kindOfStranger (i := 3) rfl) (by decide) ?_
  refine aq_iadd (am_dg dkX3_kindOfStranger (i := 4) rfl) ?_
  obtain rfl := Option.some.inj h
  exact aq_ireturn (am_dg dkX3_kindOfStranger (i := 5) rfl) rfl (Or.inl rfl) rfl
set_option maxRecDepth 20000 in
theorem T_X3_placeOfStranger {sc : Option (Nat × (Nat → Int32))} {RF : Nat → Nat → Option Nat} {d : Nat} (hR : am_RFok RF) (hd : 0 ≤ d) {a0 : Int32} {s : am_S} {r : Int32 × am_S} (h : F_X3_placeOfStranger a0 s = some r) : am_Q sc d mX3_placeOfStranger (0, am_L0 mX3_placeOfStranger [.int a0], [], am_hp RF s) (.int r.1, am_hp RF r.2) := by
  unfold F_X3_placeOfStranger at h
  show am_Q _ _ _ (0, [.int a0], [], _) _
  refine aq_iload_n (am_dg dkX3_placeOfStranger (i := 0) rfl) rfl ?_
  refine aq_bipush (v := (16 : Int32)) (am_dg dkX3_placeOfStranger (i := 1) rfl) (by decide) ?_
  refine aq_iremN (am_dg dkX3_placeOfStranger (i := 2) rfl) (by decide) ?_
  obtain rfl := Option.some.inj h
  exact aq_ireturn (am_dg dkX3_placeOfStranger (i := 3) rfl) rfl (Or.inl rfl) rfl
set_option maxRecDepth 20000 in
theorem T_X3_brokenAt_50_b65 {sc : Option (Nat × (Nat → Int32))} {RF : Nat → Nat → Option Nat} {d : Nat} (hR : am_RFok RF) (hd : 1 ≤ d) {k5 : Int32 → Int32 → Int32 → Int32 → am_S → Option (Int32 × am_S)} (hk5 : ∀ (x1 : Int32) (x2 : Int32) (x3 : Int32) (x4 : Int32) (s2 : am_S) (r2 : Int32 × am_S), k5 x1 x2 x3 x4 s2 = some r2 → am_Q sc d mX3_brokenAt (5, [.ref 50, .int x1, .int x2, .int x3, .int x4], [], am_hp RF s2) (.int r2.1, am_hp RF r2.2)) : ∀ (x1 : Int32) (x2 : Int32) (x3 : Int32) (x4 : Int32) (s : am_S) (r : Int32 × am_S), F_X3_brokenAt_50_b65 k5 x1 x2 x3 x4 s = some r → am_Q sc d mX3_brokenAt (65, [.ref 50, .int x1, .int x2, .int x3, .int x4], [], am_hp RF s) (.int r.1, am_hp RF r.2) := by
  obtain ⟨e, rfl⟩ : ∃ e, d = e + 1 := ⟨d - 1, by omega⟩
  intro x1 x2 x3 x4 s r h
  unfold F_X3_brokenAt_50_b65 at h
  refine aq_iinc (v := (1 : Int32)) (L1 := [.ref 50, .int x1, .int x2, .int x3, .int (x4 + (1 : Int32))]) (am_dg dkX3_brokenAt (i := 35) rfl) rfl (by decide) rfl ?_
  refine aq_goto (t := 5) (am_dg dkX3_brokenAt (i := 36) rfl) rfl ?_
  exact hk5 _ _ _ _ _ _ h
set_option maxRecDepth 20000 in
theorem T_X3_brokenAt_50_b5 {sc : Option (Nat × (Nat → Int32))} {RF : Nat → Nat → Option Nat} {d : Nat} (hR : am_RFok RF) (hd : 1 ≤ d) : ∀ (n : Nat) (x1 : Int32) (x2 : Int32) (x3 : Int32) (x4 : Int32) (s : am_S) (r : Int32 × am_S), F_X3_brokenAt_50_b5 n x1 x2 x3 x4 s = some r → am_Q sc d mX3_brokenAt (5, [.ref 50, .int x1, .int x2, .int x3, .int x4], [], am_hp RF s) (.int r.1, am_hp RF r.2) := by
  obtain ⟨e, rfl⟩ : ∃ e, d = e + 1 := ⟨d - 1, by omega⟩
  intro n
  induction n with
  | zero => intro x1 x2 x3 x4 s r h; rw [F_X3_brokenAt_50_b5] at h; cases h
  | succ n ih =>
  intro x1 x2 x3 x4 s r h
  rw [F_X3_brokenAt_50_b5] at h
  refine aq_iload (am_dg dkX3_brokenAt (i := 4) rfl) rfl ?_
  refine aq_aload_n (am_dg dkX3_brokenAt (i := 5) rfl) rfl ?_
  refine aq_getR (am_dg dkX3_brokenAt (i := 6) rfl) gk_3_37_50 (rf_50_0 hR) ?_
  refine aq_getI (am_dg dkX3_brokenAt (i := 7) rfl) gk_3_205_8 (by decide) ?_
  by_cases hc1 : (s.1 8 7) ≤ x4
  · rw [if_pos hc1] at h
    refine aq_icT (t := 71) (am_dg dkX3_brokenAt (i := 8) rfl) rfl (decide_eq_true hc1) ?_
    refine aq_iload_n (am_dg dkX3_brokenAt (i := 37) rfl) rfl ?_
    obtain rfl := Option.some.inj h
    exact aq_ireturn (am_dg dkX3_brokenAt (i := 38) rfl) rfl (Or.inl rfl) rfl
  · rw [if_neg hc1] at h
    refine aq_icF (t := 71) (am_dg dkX3_brokenAt (i := 8) rfl) rfl (decide_eq_false hc1) ?_
    refine aq_aload_n (am_dg dkX3_brokenAt (i := 9) rfl) rfl ?_
    refine aq_getR (am_dg dkX3_brokenAt (i := 10) rfl) gk_3_37_50 (rf_50_0 hR) ?_
    refine aq_getR (am_dg dkX3_brokenAt (i := 11) rfl) gk_3_208_8 (rf_8_13 hR) ?_
    refine aq_iload (am_dg dkX3_brokenAt (i := 12) rfl) rfl ?_
    obtain ⟨hg2, h⟩ := am_guard h
    refine aq_iald (am_dg dkX3_brokenAt (i := 13) rfl) sh_14 hg2 ?_
    refine aq_iload_n (am_dg dkX3_brokenAt (i := 14) rfl) rfl ?_
    by_cases hc3 : (s.1 14 x4.toNatClampNeg) = x1
    · rw [if_pos hc3] at h
      refine aq_icF (t := 65) (am_dg dkX3_brokenAt (i := 15) rfl) rfl (decide_eq_false (not_not_intro hc3)) ?_
      refine aq_iload_n (am_dg dkX3_brokenAt (i := 16) rfl) rfl ?_
      refine aq_aload_n (am_dg dkX3_brokenAt (i := 17) rfl) rfl ?_
      refine aq_getR (am_dg dkX3_brokenAt (i := 18) rfl) gk_3_37_50 (rf_50_0 hR) ?_
      refine aq_getR (am_dg dkX3_brokenAt (i := 19) rfl) gk_3_211_8 (rf_8_14 hR) ?_
      refine aq_iload (am_dg dkX3_brokenAt (i := 20) rfl) rfl ?_
      obtain ⟨hg4, h⟩ := am_guard h
      refine aq_iald (am_dg dkX3_brokenAt (i := 21) rfl) sh_15 hg4 ?_
      refine aq_aload_n (am_dg dkX3_brokenAt (i := 22) rfl) rfl ?_
      refine aq_getR (am_dg dkX3_brokenAt (i := 23) rfl) gk_3_37_50 (rf_50_0 hR) ?_
      refine aq_getR (am_dg dkX3_brokenAt (i := 24) rfl) gk_3_214_8 (rf_8_15 hR) ?_
      refine aq_iload (am_dg dkX3_brokenAt (i := 25) rfl) rfl ?_
      obtain ⟨hg5, h⟩ := am_guard h
      refine aq_iald (am_dg dkX3_brokenAt (i := 26) rfl) sh_16 hg5 ?_
      obtain ⟨q6, hq7, h⟩ := am_bnd h
      refine aq_static (a := [.int x2, .int (s.1 15 x4.toNatClampNeg), .int (s.1 16 x4.toNatClampNeg)]) (S1 := []) (v1 := .int q6.1) (S2 := [.int q6.1]) (am_dg dkX3_brokenAt (i := 27) rfl) ct_3_217 rfl rfl rfl (Nat.le_of_ble_eq_true rfl) (Nat.le_of_ble_eq_true rfl) (T_X11_isWithin hR (by omega) hq7) rfl ?_
      by_cases hc8 : q6.1 = (0 : Int32)
      · rw [if_pos hc8] at h
        refine aq_ifF (t := 65) (am_dg dkX3_brokenAt (i := 28) rfl) rfl (decide_eq_false (not_not_intro hc8)) ?_
        refine aq_iload_n (am_dg dkX3_brokenAt (i := 29) rfl) rfl ?_
        refine aq_iconst (v := (1 : Int32)) (am_dg dkX3_brokenAt (i := 30) rfl) (by decide) ?_
        refine aq_iload (am_dg dkX3_brokenAt (i := 31) rfl) rfl ?_
        refine aq_ishl (am_dg dkX3_brokenAt (i := 32) rfl) ?_
        refine aq_ior (am_dg dkX3_brokenAt (i := 33) rfl) ?_
        refine aq_istore_n (L1 := [.ref 50, .int x1, .int x2, .int (x3 ||| ((1 : Int32) <<< (x4 &&& 31))), .int x4]) (am_dg dkX3_brokenAt (i := 34) rfl) rfl ?_
        exact T_X3_brokenAt_50_b65 hR (by omega) ih _ _ _ _ _ _ h
      · rw [if_neg hc8] at h
        refine aq_ifT (t := 65) (am_dg dkX3_brokenAt (i := 28) rfl) rfl (decide_eq_true hc8) ?_
        exact T_X3_brokenAt_50_b65 hR (by omega) ih _ _ _ _ _ _ h
    · rw [if_neg hc3] at h
      refine aq_icT (t := 65) (am_dg dkX3_brokenAt (i := 15) rfl) rfl (decide_eq_true hc3) ?_
      exact T_X3_brokenAt_50_b65 hR (by omega) ih _ _ _ _ _ _ h
set_option maxRecDepth 20000 in
theorem T_X3_brokenAt_50 {sc : Option (Nat × (Nat → Int32))} {RF : Nat → Nat → Option Nat} {d : Nat} (hR : am_RFok RF) (hd : 1 ≤ d) {a1 : Int32} {a2 : Int32} {s : am_S} {r : Int32 × am_S} (h : F_X3_brokenAt_50 a1 a2 s = some r) : am_Q sc d mX3_brokenAt (0, am_L0 mX3_brokenAt [.ref 50, .int a1, .int a2], [], am_hp RF s) (.int r.1, am_hp RF r.2) := by
  obtain ⟨e, rfl⟩ : ∃ e, d = e + 1 := ⟨d - 1, by omega⟩
  unfold F_X3_brokenAt_50 at h
  show am_Q _ _ _ (0, [.ref 50, .int a1, .int a2, .null, .null], [], _) _
  refine aq_iconst (v := (0 : Int32)) (am_dg dkX3_brokenAt (i := 0) rfl) (by decide) ?_
  refine aq_istore_n (L1 := [.ref 50, .int a1, .int a2, .int (0 : Int32), .null]) (am_dg dkX3_brokenAt (i := 1) rfl) rfl ?_
  refine aq_iconst (v := (0 : Int32)) (am_dg dkX3_brokenAt (i := 2) rfl) (by decide) ?_
  refine aq_istore (L1 := [.ref 50, .int a1, .int a2, .int (0 : Int32), .int (0 : Int32)]) (am_dg dkX3_brokenAt (i := 3) rfl) rfl ?_
  exact T_X3_brokenAt_50_b5 hR (by omega) _ _ _ _ _ _ _ h
set_option maxRecDepth 20000 in
theorem T_X3_brokenBy_50_b24 {sc : Option (Nat × (Nat → Int32))} {RF : Nat → Nat → Option Nat} {d : Nat} (hR : am_RFok RF) (hd : 3 ≤ d) : ∀ (n : Nat) (x2 : Nat) (x3 : Int32) (x4 : Int32) (x5 : Int32) (w1 : Value) (s : am_S) (r : Int32 × am_S), F_X3_brokenBy_50_b24 n x2 x3 x4 x5 s = some r → am_Q sc d mX3_brokenBy (24, [.ref 50, w1, .ref (2 + x2), .int x3, .int x4, .int x5], [], am_hp RF s) (.int r.1, am_hp RF r.2) := by
  obtain ⟨e, rfl⟩ : ∃ e, d = e + 1 := ⟨d - 1, by omega⟩
  intro n
  induction n with
  | zero => intro x2 x3 x4 x5 w1 s r h; rw [F_X3_brokenBy_50_b24] at h; cases h
  | succ n ih =>
  intro x2 x3 x4 x5 w1 s r h
  rw [F_X3_brokenBy_50_b24] at h
  obtain ⟨hx2, h⟩ := am_guard h
  refine aq_iload (am_dg dkX3_brokenBy (i := 14) rfl) rfl ?_
  refine aq_bipush (v := (16 : Int32)) (am_dg dkX3_brokenBy (i := 15) rfl) (by decide) ?_
  by_cases hc1 : (16 : Int32) ≤ x5
  · rw [if_pos hc1] at h
    refine aq_icT (t := 68) (am_dg dkX3_brokenBy (i := 16) rfl) rfl (decide_eq_true hc1) ?_
    refine aq_iload (am_dg dkX3_brokenBy (i := 36) rfl) rfl ?_
    obtain rfl := Option.some.inj h
    exact aq_ireturn (am_dg dkX3_brokenBy (i := 37) rfl) rfl (Or.inl rfl) rfl
  · rw [if_neg hc1] at h
    refine aq_icF (t := 68) (am_dg dkX3_brokenBy (i := 16) rfl) rfl (decide_eq_false hc1) ?_
    refine aq_iload (am_dg dkX3_brokenBy (i := 17) rfl) rfl ?_
    refine aq_aload_n (am_dg dkX3_brokenBy (i := 18) rfl) rfl ?_
    refine aq_iload (am_dg dkX3_brokenBy (i := 19) rfl) rfl ?_
    refine aq_iload_n (am_dg dkX3_brokenBy (i := 20) rfl) rfl ?_
    obtain ⟨q2, hq3, h⟩ := am_bnd h
    refine aq_virt (a := [.ref 50, .int x5, .int x3]) (S1 := [.int x4]) (v1 := .int q2.1) (S2 := [.int q2.1, .int x4]) (am_dg dkX3_brokenBy (i := 21) rfl) cv_3_194_3 (am_cls_c sh_50 (by decide)) rfl rfl rfl (Nat.le_of_ble_eq_true rfl) (Nat.le_of_ble_eq_true rfl) (T_X3_brokenAt_50 hR (by omega) hq3) rfl ?_
    refine aq_ior (am_dg dkX3_brokenBy (i := 22) rfl) ?_
    refine aq_istore (L1 := [.ref 50, w1, .ref (2 + x2), .int x3, .int (x4 ||| q2.1), .int x5]) (am_dg dkX3_brokenBy (i := 23) rfl) rfl ?_
    refine aq_aload_n (am_dg dkX3_brokenBy (i := 24) rfl) rfl ?_
    refine aq_getR (am_dg dkX3_brokenBy (i := 25) rfl) gk_3_37_50 (rf_50_0 hR) ?_
    refine aq_iload_n (am_dg dkX3_brokenBy (i := 26) rfl) rfl ?_
    refine aq_aload_n (am_dg dkX3_brokenBy (i := 27) rfl) rfl ?_
    refine aq_bipush (v := (6 : Int32)) (am_dg dkX3_brokenBy (i := 28) rfl) (by decide) ?_
    refine aq_iload (am_dg dkX3_brokenBy (i := 29) rfl) rfl ?_
    by_cases hc4 : x2 = 0
    · rw [if_pos hc4] at h
      obtain ⟨q5, hq6, h⟩ := am_bnd h
      refine aq_virt (a := [.ref 2, .int (6 : Int32), .int x5]) (S1 := [.int x3, .ref 8]) (v1 := .int q5.1) (S2 := [.int q5.1, .int x3, .ref 8]) (am_dg dkX3_brokenBy (i := 30) rfl) cv_3_197_10 (by rw [(show 2 + x2 = 2 by rw [hc4])]; exact am_cls_c sh_2 (by decide)) rfl (congrArg (fun z => Value.ref z :: _) (show 2 + x2 = 2 by rw [hc4])) rfl (Nat.le_of_ble_eq_true rfl) (Nat.le_of_ble_eq_true rfl) (T_X10_drifts_2 hR (by omega) hq6) rfl ?_
      refine aq_iload (am_dg dkX3_brokenBy (i := 31) rfl) rfl ?_
      obtain ⟨q7, hq8, h⟩ := am_bnd h
      refine aq_virt (a := [.ref 8, .int x3, .int q5.1, .int x5]) (S1 := []) (v1 := .int q7.1) (S2 := [.int q7.1]) (am_dg dkX3_brokenBy (i := 32) rfl) cv_3_202_8 (am_cls_c sh_8 (by decide)) rfl rfl rfl (Nat.le_of_ble_eq_true rfl) (Nat.le_of_ble_eq_true rfl) (T_X8_drifted_8 hR (by omega) hq8) rfl ?_
      refine aq_istore_n (L1 := [.ref 50, w1, .ref (2 + x2), .int q7.1, .int (x4 ||| q2.1), .int x5]) (am_dg dkX3_brokenBy (i := 33) rfl) rfl ?_
      refine aq_iinc (v := (1 : Int32)) (L1 := [.ref 50, w1, .ref (2 + x2), .int q7.1, .int (x4 ||| q2.1), .int (x5 + (1 : Int32))]) (am_dg dkX3_brokenBy (i := 34) rfl) rfl (by decide) rfl ?_
      refine aq_goto (t := 24) (am_dg dkX3_brokenBy (i := 35) rfl) rfl ?_
      exact ih _ _ _ _ _ _ _ h
    rw [if_neg hc4] at h
    by_cases hc9 : x2 = 1
    · rw [if_pos hc9] at h
      obtain ⟨q10, hq11, h⟩ := am_bnd h
      refine aq_virt (a := [.ref 3, .int (6 : Int32), .int x5]) (S1 := [.int x3, .ref 8]) (v1 := .int q10.1) (S2 := [.int q10.1, .int x3, .ref 8]) (am_dg dkX3_brokenBy (i := 30) rfl) cv_3_197_0 (by rw [(show 2 + x2 = 3 by rw [hc9])]; exact am_cls_c sh_3 (by decide)) rfl (congrArg (fun z => Value.ref z :: _) (show 2 + x2 = 3 by rw [hc9])) rfl (Nat.le_of_ble_eq_true rfl) (Nat.le_of_ble_eq_true rfl) (T_X0_drifts_3 hR (by omega) hq11) rfl ?_
      refine aq_iload (am_dg dkX3_brokenBy (i := 31) rfl) rfl ?_
      obtain ⟨q12, hq13, h⟩ := am_bnd h
      refine aq_virt (a := [.ref 8, .int x3, .int q10.1, .int x5]) (S1 := []) (v1 := .int q12.1) (S2 := [.int q12.1]) (am_dg dkX3_brokenBy (i := 32) rfl) cv_3_202_8 (am_cls_c sh_8 (by decide)) rfl rfl rfl (Nat.le_of_ble_eq_true rfl) (Nat.le_of_ble_eq_true rfl) (T_X8_drifted_8 hR (by omega) hq13) rfl ?_
      refine aq_istore_n (L1 := [.ref 50, w1, .ref (2 + x2), .int q12.1, .int (x4 ||| q2.1), .int x5]) (am_dg dkX3_brokenBy (i := 33) rfl) rfl ?_
      refine aq_iinc (v := (1 : Int32)) (L1 := [.ref 50, w1, .ref (2 + x2), .int q12.1, .int (x4 ||| q2.1), .int (x5 + (1 : Int32))]) (am_dg dkX3_brokenBy (i := 34) rfl) rfl (by decide) rfl ?_
      refine aq_goto (t := 24) (am_dg dkX3_brokenBy (i := 35) rfl) rfl ?_
      exact ih _ _ _ _ _ _ _ h
    rw [if_neg hc9] at h
    by_cases hc14 : x2 = 2
    · rw [if_pos hc14] at h
      obtain ⟨q15, hq16, h⟩ := am_bnd h
      refine aq_virt (a := [.ref 4, .int (6 : Int32), .int x5]) (S1 := [.int x3, .ref 8]) (v1 := .int q15.1) (S2 := [.int q15.1, .int x3, .ref 8]) (am_dg dkX3_brokenBy (i := 30) rfl) cv_3_197_5 (by rw [(show 2 + x2 = 4 by rw [hc14])]; exact am_cls_c sh_4 (by decide)) rfl (congrArg (fun z => Value.ref z :: _) (show 2 + x2 = 4 by rw [hc14])) rfl (Nat.le_of_ble_eq_true rfl) (Nat.le_of_ble_eq_true rfl) (T_X5_drifts_4 hR (by omega) hq16) rfl ?_
      refine aq_iload (am_dg dkX3_brokenBy (i := 31) rfl) rfl ?_
      obtain ⟨q17, hq18, h⟩ := am_bnd h
      refine aq_virt (a := [.ref 8, .int x3, .int q15.1, .int x5]) (S1 := []) (v1 := .int q17.1) (S2 := [.int q17.1]) (am_dg dkX3_brokenBy (i := 32) rfl) cv_3_202_8 (am_cls_c sh_8 (by decide)) rfl rfl rfl (Nat.le_of_ble_eq_true rfl) (Nat.le_of_ble_eq_true rfl) (T_X8_drifted_8 hR (by omega) hq18) rfl ?_
      refine aq_istore_n (L1 := [.ref 50, w1, .ref (2 + x2), .int q17.1, .int (x4 ||| q2.1), .int x5]) (am_dg dkX3_brokenBy (i := 33) rfl) rfl ?_
      refine aq_iinc (v := (1 : Int32)) (L1 := [.ref 50, w1, .ref (2 + x2), .int q17.1, .int (x4 ||| q2.1), .int (x5 + (1 : Int32))]) (am_dg dkX3_brokenBy (i := 34) rfl) rfl (by decide) rfl ?_
      refine aq_goto (t := 24) (am_dg dkX3_brokenBy (i := 35) rfl) rfl ?_
      exact ih _ _ _ _ _ _ _ h
    rw [if_neg hc14] at h
    by_cases hc19 : x2 = 3
    · rw [if_pos hc19] at h
      obtain ⟨q20, hq21, h⟩ := am_bnd h
      refine aq_virt (a := [.ref 5, .int (6 : Int32), .int x5]) (S1 := [.int x3, .ref 8]) (v1 := .int q20.1) (S2 := [.int q20.1, .int x3, .ref 8]) (am_dg dkX3_brokenBy (i := 30) rfl) cv_3_197_4 (by rw [(show 2 + x2 = 5 by rw [hc19])]; exact am_cls_c sh_5 (by decide)) rfl (congrArg (fun z => Value.ref z :: _) (show 2 + x2 = 5 by rw [hc19])) rfl (Nat.le_of_ble_eq_true rfl) (Nat.le_of_ble_eq_true rfl) (T_X4_drifts_5 hR (by omega) hq21) rfl ?_
      refine aq_iload (am_dg dkX3_brokenBy (i := 31) rfl) rfl ?_
      obtain ⟨q22, hq23, h⟩ := am_bnd h
      refine aq_virt (a := [.ref 8, .int x3, .int q20.1, .int x5]) (S1 := []) (v1 := .int q22.1) (S2 := [.int q22.1]) (am_dg dkX3_brokenBy (i := 32) rfl) cv_3_202_8 (am_cls_c sh_8 (by decide)) rfl rfl rfl (Nat.le_of_ble_eq_true rfl) (Nat.le_of_ble_eq_true rfl) (T_X8_drifted_8 hR (by omega) hq23) rfl ?_
      refine aq_istore_n (L1 := [.ref 50, w1, .ref (2 + x2), .int q22.1, .int (x4 ||| q2.1), .int x5]) (am_dg dkX3_brokenBy (i := 33) rfl) rfl ?_
      refine aq_iinc (v := (1 : Int32)) (L1 := [.ref 50, w1, .ref (2 + x2), .int q22.1, .int (x4 ||| q2.1), .int (x5 + (1 : Int32))]) (am_dg dkX3_brokenBy (i := 34) rfl) rfl (by decide) rfl ?_
      refine aq_goto (t := 24) (am_dg dkX3_brokenBy (i := 35) rfl) rfl ?_
      exact ih _ _ _ _ _ _ _ h
    rw [if_neg hc19] at h
    by_cases hc24 : x2 = 4
    · rw [if_pos hc24] at h
      obtain ⟨q25, hq26, h⟩ := am_bnd h
      refine aq_virt (a := [.ref 6, .int (6 : Int32), .int x5]) (S1 := [.int x3, .ref 8]) (v1 := .int q25.1) (S2 := [.int q25.1, .int x3, .ref 8]) (am_dg dkX3_brokenBy (i := 30) rfl) cv_3_197_1 (by rw [(show 2 + x2 = 6 by rw [hc24])]; exact am_cls_c sh_6 (by decide)) rfl (congrArg (fun z => Value.ref z :: _) (show 2 + x2 = 6 by rw [hc24])) rfl (Nat.le_of_ble_eq_true rfl) (Nat.le_of_ble_eq_true rfl) (T_X1_drifts_6 hR (by omega) hq26) rfl ?_
      refine aq_iload (am_dg dkX3_brokenBy (i := 31) rfl) rfl ?_
      obtain ⟨q27, hq28, h⟩ := am_bnd h
      refine aq_virt (a := [.ref 8, .int x3, .int q25.1, .int x5]) (S1 := []) (v1 := .int q27.1) (S2 := [.int q27.1]) (am_dg dkX3_brokenBy (i := 32) rfl) cv_3_202_8 (am_cls_c sh_8 (by decide)) rfl rfl rfl (Nat.le_of_ble_eq_true rfl) (Nat.le_of_ble_eq_true rfl) (T_X8_drifted_8 hR (by omega) hq28) rfl ?_
      refine aq_istore_n (L1 := [.ref 50, w1, .ref (2 + x2), .int q27.1, .int (x4 ||| q2.1), .int x5]) (am_dg dkX3_brokenBy (i := 33) rfl) rfl ?_
      refine aq_iinc (v := (1 : Int32)) (L1 := [.ref 50, w1, .ref (2 + x2), .int q27.1, .int (x4 ||| q2.1), .int (x5 + (1 : Int32))]) (am_dg dkX3_brokenBy (i := 34) rfl) rfl (by decide) rfl ?_
      refine aq_goto (t := 24) (am_dg dkX3_brokenBy (i := 35) rfl) rfl ?_
      exact ih _ _ _ _ _ _ _ h
    rw [if_neg hc24] at h
    have hc29 : x2 = 5 := by have := hx2; omega
    obtain ⟨q30, hq31, h⟩ := am_bnd h
    refine aq_virt (a := [.ref 7, .int (6 : Int32), .int x5]) (S1 := [.int x3, .ref 8]) (v1 := .int q30.1) (S2 := [.int q30.1, .int x3, .ref 8]) (am_dg dkX3_brokenBy (i := 30) rfl) cv_3_197_2 (by rw [(show 2 + x2 = 7 by rw [hc29])]; exact am_cls_c sh_7 (by decide)) rfl (congrArg (fun z => Value.ref z :: _) (show 2 + x2 = 7 by rw [hc29])) rfl (Nat.le_of_ble_eq_true rfl) (Nat.le_of_ble_eq_true rfl) (T_X2_drifts_7 hR (by omega) hq31) rfl ?_
    refine aq_iload (am_dg dkX3_brokenBy (i := 31) rfl) rfl ?_
    obtain ⟨q32, hq33, h⟩ := am_bnd h
    refine aq_virt (a := [.ref 8, .int x3, .int q30.1, .int x5]) (S1 := []) (v1 := .int q32.1) (S2 := [.int q32.1]) (am_dg dkX3_brokenBy (i := 32) rfl) cv_3_202_8 (am_cls_c sh_8 (by decide)) rfl rfl rfl (Nat.le_of_ble_eq_true rfl) (Nat.le_of_ble_eq_true rfl) (T_X8_drifted_8 hR (by omega) hq33) rfl ?_
    refine aq_istore_n (L1 := [.ref 50, w1, .ref (2 + x2), .int q32.1, .int (x4 ||| q2.1), .int x5]) (am_dg dkX3_brokenBy (i := 33) rfl) rfl ?_
    refine aq_iinc (v := (1 : Int32)) (L1 := [.ref 50, w1, .ref (2 + x2), .int q32.1, .int (x4 ||| q2.1), .int (x5 + (1 : Int32))]) (am_dg dkX3_brokenBy (i := 34) rfl) rfl (by decide) rfl ?_
    refine aq_goto (t := 24) (am_dg dkX3_brokenBy (i := 35) rfl) rfl ?_
    exact ih _ _ _ _ _ _ _ h
set_option maxRecDepth 20000 in
theorem T_X3_brokenBy_50 {sc : Option (Nat × (Nat → Int32))} {RF : Nat → Nat → Option Nat} {d : Nat} (hR : am_RFok RF) (hd : 3 ≤ d) {a1 : Int32} {s : am_S} {r : Int32 × am_S} (h : F_X3_brokenBy_50 a1 s = some r) : am_Q sc d mX3_brokenBy (0, am_L0 mX3_brokenBy [.ref 50, .int a1], [], am_hp RF s) (.int r.1, am_hp RF r.2) := by
  obtain ⟨e, rfl⟩ : ∃ e, d = e + 1 := ⟨d - 1, by omega⟩
  unfold F_X3_brokenBy_50 at h
  show am_Q _ _ _ (0, [.ref 50, .int a1, .null, .null, .null, .null], [], _) _
  refine aq_aload_n (am_dg dkX3_brokenBy (i := 0) rfl) rfl ?_
  refine aq_getR (am_dg dkX3_brokenBy (i := 1) rfl) gk_3_37_50 (rf_50_0 hR) ?_
  refine aq_getR (am_dg dkX3_brokenBy (i := 2) rfl) gk_3_184_8 (rf_8_17 hR) ?_
  refine aq_iload_n (am_dg dkX3_brokenBy (i := 3) rfl) rfl ?_
  obtain ⟨q1, hq2, h⟩ := am_bnd h
  refine aq_static (a := [.int a1]) (S1 := [.ref 1]) (v1 := .int q1.1) (S2 := [.int q1.1, .ref 1]) (am_dg dkX3_brokenBy (i := 4) rfl) ct_3_188 rfl rfl rfl (Nat.le_of_ble_eq_true rfl) (Nat.le_of_ble_eq_true rfl) (T_X3_kindOfStranger hR (by omega) hq2) rfl ?_
  obtain ⟨hg3, h⟩ := am_guard h
  refine aq_aald (am_dg dkX3_brokenBy (i := 5) rfl) sh_1 (by decide) hg3 (fm_1 hR _ (am_in_lt hg3)) ?_
  refine aq_astore_n (L1 := [.ref 50, .int a1, .ref (2 + q1.1.toNatClampNeg), .null, .null, .null]) (am_dg dkX3_brokenBy (i := 6) rfl) rfl ?_
  refine aq_iload_n (am_dg dkX3_brokenBy (i := 7) rfl) rfl ?_
  obtain ⟨q4, hq5, h⟩ := am_bnd h
  refine aq_static (a := [.int a1]) (S1 := []) (v1 := .int q4.1) (S2 := [.int q4.1]) (am_dg dkX3_brokenBy (i := 8) rfl) ct_3_191 rfl rfl rfl (Nat.le_of_ble_eq_true rfl) (Nat.le_of_ble_eq_true rfl) (T_X3_placeOfStranger hR (by omega) hq5) rfl ?_
  refine aq_istore_n (L1 := [.ref 50, .int a1, .ref (2 + q1.1.toNatClampNeg), .int q4.1, .null, .null]) (am_dg dkX3_brokenBy (i := 9) rfl) rfl ?_
  refine aq_iconst (v := (0 : Int32)) (am_dg dkX3_brokenBy (i := 10) rfl) (by decide) ?_
  refine aq_istore (L1 := [.ref 50, .int a1, .ref (2 + q1.1.toNatClampNeg), .int q4.1, .int (0 : Int32), .null]) (am_dg dkX3_brokenBy (i := 11) rfl) rfl ?_
  refine aq_iconst (v := (0 : Int32)) (am_dg dkX3_brokenBy (i := 12) rfl) (by decide) ?_
  refine aq_istore (L1 := [.ref 50, .int a1, .ref (2 + q1.1.toNatClampNeg), .int q4.1, .int (0 : Int32), .int (0 : Int32)]) (am_dg dkX3_brokenBy (i := 13) rfl) rfl ?_
  exact T_X3_brokenBy_50_b24 hR (by omega) _ _ _ _ _ _ _ _ h
set_option maxRecDepth 20000 in
theorem T_X3_leastThatFits_50_b2 {sc : Option (Nat × (Nat → Int32))} {RF : Nat → Nat → Option Nat} {d : Nat} (hR : am_RFok RF) (hd : 4 ≤ d) : ∀ (n : Nat) (x1 : Int32) (s : am_S) (r : Int32 × am_S), F_X3_leastThatFits_50_b2 n x1 s = some r → am_Q sc d mX3_leastThatFits (2, [.ref 50, .int x1], [], am_hp RF s) (.int r.1, am_hp RF r.2) := by
  obtain ⟨e, rfl⟩ : ∃ e, d = e + 1 := ⟨d - 1, by omega⟩
  intro n
  induction n with
  | zero => intro x1 s r h; rw [F_X3_leastThatFits_50_b2] at h; cases h
  | succ n ih =>
  intro x1 s r h
  rw [F_X3_leastThatFits_50_b2] at h
  refine aq_iload_n (am_dg dkX3_leastThatFits (i := 2) rfl) rfl ?_
  refine aq_bipush (v := (80 : Int32)) (am_dg dkX3_leastThatFits (i := 3) rfl) (by decide) ?_
  by_cases hc1 : (80 : Int32) ≤ x1
  · rw [if_pos hc1] at h
    refine aq_icT (t := 24) (am_dg dkX3_leastThatFits (i := 4) rfl) rfl (decide_eq_true hc1) ?_
    refine aq_bipush (v := (-3 : Int32)) (am_dg dkX3_leastThatFits (i := 13) rfl) (by decide) ?_
    obtain rfl := Option.some.inj h
    exact aq_ireturn (am_dg dkX3_leastThatFits (i := 14) rfl) rfl (Or.inl rfl) rfl
  · rw [if_neg hc1] at h
    refine aq_icF (t := 24) (am_dg dkX3_leastThatFits (i := 4) rfl) rfl (decide_eq_false hc1) ?_
    refine aq_aload_n (am_dg dkX3_leastThatFits (i := 5) rfl) rfl ?_
    refine aq_iload_n (am_dg dkX3_leastThatFits (i := 6) rfl) rfl ?_
    obtain ⟨q2, hq3, h⟩ := am_bnd h
    refine aq_virt (a := [.ref 50, .int x1]) (S1 := []) (v1 := .int q2.1) (S2 := [.int q2.1]) (am_dg dkX3_leastThatFits (i := 7) rfl) cv_3_173_3 (am_cls_c sh_50 (by decide)) rfl rfl rfl (Nat.le_of_ble_eq_true rfl) (Nat.le_of_ble_eq_true rfl) (T_X3_brokenBy_50 hR (by omega) hq3) rfl ?_
    by_cases hc4 : q2.1 = (0 : Int32)
    · rw [if_pos hc4] at h
      refine aq_ifF (t := 18) (am_dg dkX3_leastThatFits (i := 8) rfl) rfl (decide_eq_false (not_not_intro hc4)) ?_
      refine aq_iload_n (am_dg dkX3_leastThatFits (i := 9) rfl) rfl ?_
      obtain rfl := Option.some.inj h
      exact aq_ireturn (am_dg dkX3_leastThatFits (i := 10) rfl) rfl (Or.inl rfl) rfl
    · rw [if_neg hc4] at h
      refine aq_ifT (t := 18) (am_dg dkX3_leastThatFits (i := 8) rfl) rfl (decide_eq_true hc4) ?_
      refine aq_iinc (v := (1 : Int32)) (L1 := [.ref 50, .int (x1 + (1 : Int32))]) (am_dg dkX3_leastThatFits (i := 11) rfl) rfl (by decide) rfl ?_
      refine aq_goto (t := 2) (am_dg dkX3_leastThatFits (i := 12) rfl) rfl ?_
      exact ih _ _ _ h
set_option maxRecDepth 20000 in
theorem T_X3_leastThatFits_50 {sc : Option (Nat × (Nat → Int32))} {RF : Nat → Nat → Option Nat} {d : Nat} (hR : am_RFok RF) (hd : 4 ≤ d) {s : am_S} {r : Int32 × am_S} (h : F_X3_leastThatFits_50 s = some r) : am_Q sc d mX3_leastThatFits (0, am_L0 mX3_leastThatFits [.ref 50], [], am_hp RF s) (.int r.1, am_hp RF r.2) := by
  obtain ⟨e, rfl⟩ : ∃ e, d = e + 1 := ⟨d - 1, by omega⟩
  unfold F_X3_leastThatFits_50 at h
  show am_Q _ _ _ (0, [.ref 50, .null], [], _) _
  refine aq_iconst (v := (0 : Int32)) (am_dg dkX3_leastThatFits (i := 0) rfl) (by decide) ?_
  refine aq_istore_n (L1 := [.ref 50, .int (0 : Int32)]) (am_dg dkX3_leastThatFits (i := 1) rfl) rfl ?_
  exact T_X3_leastThatFits_50_b2 hR (by omega) _ _ _ _ h
set_option maxRecDepth 20000 in
theorem T_X3_howManyFit_50_b21 {sc : Option (Nat × (Nat → Int32))} {RF : Nat → Nat → Option Nat} {d : Nat} (hR : am_RFok RF) (hd : 4 ≤ d) {k4 : Int32 → Int32 → am_S → Option (Int32 × am_S)} (hk4 : ∀ (x1 : Int32) (x2 : Int32) (s2 : am_S) (r2 : Int32 × am_S), k4 x1 x2 s2 = some r2 → am_Q sc d mX3_howManyFit (4, [.ref 50, .int x1, .int x2], [], am_hp RF s2) (.int r2.1, am_hp RF r2.2)) : ∀ (x1 : Int32) (x2 : Int32) (s : am_S) (r : Int32 × am_S), F_X3_howManyFit_50_b21 k4 x1 x2 s = some r → am_Q sc d mX3_howManyFit (21, [.ref 50, .int x1, .int x2], [], am_hp RF s) (.int r.1, am_hp RF r.2) := by
  obtain ⟨e, rfl⟩ : ∃ e, d = e + 1 := ⟨d - 1, by omega⟩
  intro x1 x2 s r h
  unfold F_X3_howManyFit_50_b21 at h
  refine aq_iinc (v := (1 : Int32)) (L1 := [.ref 50, .int x1, .int (x2 + (1 : Int32))]) (am_dg dkX3_howManyFit (i := 12) rfl) rfl (by decide) rfl ?_
  refine aq_goto (t := 4) (am_dg dkX3_howManyFit (i := 13) rfl) rfl ?_
  exact hk4 _ _ _ _ h
set_option maxRecDepth 20000 in
theorem T_X3_howManyFit_50_b4 {sc : Option (Nat × (Nat → Int32))} {RF : Nat → Nat → Option Nat} {d : Nat} (hR : am_RFok RF) (hd : 4 ≤ d) : ∀ (n : Nat) (x1 : Int32) (x2 : Int32) (s : am_S) (r : Int32 × am_S), F_X3_howManyFit_50_b4 n x1 x2 s = some r → am_Q sc d mX3_howManyFit (4, [.ref 50, .int x1, .int x2], [], am_hp RF s) (.int r.1, am_hp RF r.2) := by
  obtain ⟨e, rfl⟩ : ∃ e, d = e + 1 := ⟨d - 1, by omega⟩
  intro n
  induction n with
  | zero => intro x1 x2 s r h; rw [F_X3_howManyFit_50_b4] at h; cases h
  | succ n ih =>
  intro x1 x2 s r h
  rw [F_X3_howManyFit_50_b4] at h
  refine aq_iload_n (am_dg dkX3_howManyFit (i := 4) rfl) rfl ?_
  refine aq_bipush (v := (80 : Int32)) (am_dg dkX3_howManyFit (i := 5) rfl) (by decide) ?_
  by_cases hc1 : (80 : Int32) ≤ x2
  · rw [if_pos hc1] at h
    refine aq_icT (t := 27) (am_dg dkX3_howManyFit (i := 6) rfl) rfl (decide_eq_true hc1) ?_
    refine aq_iload_n (am_dg dkX3_howManyFit (i := 14) rfl) rfl ?_
    obtain rfl := Option.some.inj h
    exact aq_ireturn (am_dg dkX3_howManyFit (i := 15) rfl) rfl (Or.inl rfl) rfl
  · rw [if_neg hc1] at h
    refine aq_icF (t := 27) (am_dg dkX3_howManyFit (i := 6) rfl) rfl (decide_eq_false hc1) ?_
    refine aq_aload_n (am_dg dkX3_howManyFit (i := 7) rfl) rfl ?_
    refine aq_iload_n (am_dg dkX3_howManyFit (i := 8) rfl) rfl ?_
    obtain ⟨q2, hq3, h⟩ := am_bnd h
    refine aq_virt (a := [.ref 50, .int x2]) (S1 := []) (v1 := .int q2.1) (S2 := [.int q2.1]) (am_dg dkX3_howManyFit (i := 9) rfl) cv_3_173_3 (am_cls_c sh_50 (by decide)) rfl rfl rfl (Nat.le_of_ble_eq_true rfl) (Nat.le_of_ble_eq_true rfl) (T_X3_brokenBy_50 hR (by omega) hq3) rfl ?_
    by_cases hc4 : q2.1 = (0 : Int32)
    · rw [if_pos hc4] at h
      refine aq_ifF (t := 21) (am_dg dkX3_howManyFit (i := 10) rfl) rfl (decide_eq_false (not_not_intro hc4)) ?_
      refine aq_iinc (v := (1 : Int32)) (L1 := [.ref 50, .int (x1 + (1 : Int32)), .int x2]) (am_dg dkX3_howManyFit (i := 11) rfl) rfl (by decide) rfl ?_
      exact T_X3_howManyFit_50_b21 hR (by omega) ih _ _ _ _ h
    · rw [if_neg hc4] at h
      refine aq_ifT (t := 21) (am_dg dkX3_howManyFit (i := 10) rfl) rfl (decide_eq_true hc4) ?_
      exact T_X3_howManyFit_50_b21 hR (by omega) ih _ _ _ _ h
set_option maxRecDepth 20000 in
theorem T_X3_howManyFit_50 {sc : Option (Nat × (Nat → Int32))} {RF : Nat → Nat → Option Nat} {d : Nat} (hR : am_RFok RF) (hd : 4 ≤ d) {s : am_S} {r : Int32 × am_S} (h : F_X3_howManyFit_50 s = some r) : am_Q sc d mX3_howManyFit (0, am_L0 mX3_howManyFit [.ref 50], [], am_hp RF s) (.int r.1, am_hp RF r.2) := by
  obtain ⟨e, rfl⟩ : ∃ e, d = e + 1 := ⟨d - 1, by omega⟩
  unfold F_X3_howManyFit_50 at h
  show am_Q _ _ _ (0, [.ref 50, .null, .null], [], _) _
  refine aq_iconst (v := (0 : Int32)) (am_dg dkX3_howManyFit (i := 0) rfl) (by decide) ?_
  refine aq_istore_n (L1 := [.ref 50, .int (0 : Int32), .null]) (am_dg dkX3_howManyFit (i := 1) rfl) rfl ?_
  refine aq_iconst (v := (0 : Int32)) (am_dg dkX3_howManyFit (i := 2) rfl) (by decide) ?_
  refine aq_istore_n (L1 := [.ref 50, .int (0 : Int32), .int (0 : Int32)]) (am_dg dkX3_howManyFit (i := 3) rfl) rfl ?_
  exact T_X3_howManyFit_50_b4 hR (by omega) _ _ _ _ _ h
set_option maxRecDepth 20000 in
theorem T_X11_span_0 {sc : Option (Nat × (Nat → Int32))} {RF : Nat → Nat → Option Nat} {d : Nat} (hR : am_RFok RF) (hd : 5 ≤ d) {a1 : Int32} {s : am_S} {r : Int32 × am_S} (h : F_X11_span_0 a1 s = some r) : am_Q sc d mX11_span (0, am_L0 mX11_span [.ref 0, .int a1], [], am_hp RF s) (.int r.1, am_hp RF r.2) := by
  obtain ⟨e, rfl⟩ : ∃ e, d = e + 1 := ⟨d - 1, by omega⟩
  unfold F_X11_span_0 at h
  show am_Q _ _ _ (0, [.ref 0, .int a1, .null], [], _) _
  refine aq_iload_n (am_dg dkX11_span (i := 0) rfl) rfl ?_
  refine aq_iconst (v := (0 : Int32)) (am_dg dkX11_span (i := 1) rfl) (by decide) ?_
  refine aq_iconst (v := (2 : Int32)) (am_dg dkX11_span (i := 2) rfl) (by decide) ?_
  obtain ⟨q1, hq2, h⟩ := am_bnd h
  refine aq_static (a := [.int a1, .int (0 : Int32), .int (2 : Int32)]) (S1 := []) (v1 := .int q1.1) (S2 := [.int q1.1]) (am_dg dkX11_span (i := 3) rfl) ct_11_149 rfl rfl rfl (Nat.le_of_ble_eq_true rfl) (Nat.le_of_ble_eq_true rfl) (T_X11_isWithin hR (by omega) hq2) rfl ?_
  by_cases hc3 : q1.1 = (0 : Int32)
  · rw [if_pos hc3] at h
    refine aq_ifF (t := 11) (am_dg dkX11_span (i := 4) rfl) rfl (decide_eq_false (not_not_intro hc3)) ?_
    refine aq_iconst (v := (-1 : Int32)) (am_dg dkX11_span (i := 5) rfl) (by decide) ?_
    obtain rfl := Option.some.inj h
    exact aq_ireturn (am_dg dkX11_span (i := 6) rfl) rfl (Or.inl rfl) rfl
  · rw [if_neg hc3] at h
    refine aq_ifT (t := 11) (am_dg dkX11_span (i := 4) rfl) rfl (decide_eq_true hc3) ?_
    refine aq_iload_n (am_dg dkX11_span (i := 7) rfl) rfl ?_
    by_cases hc4 : a1 = (0 : Int32)
    · rw [if_pos hc4] at h
      refine aq_ifF (t := 23) (am_dg dkX11_span (i := 8) rfl) rfl (decide_eq_false (not_not_intro hc4)) ?_
      refine aq_aload_n (am_dg dkX11_span (i := 9) rfl) rfl ?_
      refine aq_getR (am_dg dkX11_span (i := 10) rfl) gk_11_55_0 (rf_0_4 hR) ?_
      obtain ⟨q5, hq6, h⟩ := am_bnd h
      refine aq_virt (a := [.ref 50]) (S1 := []) (v1 := .int q5.1) (S2 := [.int q5.1]) (am_dg dkX11_span (i := 11) rfl) cv_11_289_3 (am_cls_c sh_50 (by decide)) rfl rfl rfl (Nat.le_of_ble_eq_true rfl) (Nat.le_of_ble_eq_true rfl) (T_X3_howManyFit_50 hR (by omega) hq6) rfl ?_
      obtain rfl := Option.some.inj h
      exact aq_ireturn (am_dg dkX11_span (i := 12) rfl) rfl (Or.inl rfl) rfl
    · rw [if_neg hc4] at h
      refine aq_ifT (t := 23) (am_dg dkX11_span (i := 8) rfl) rfl (decide_eq_true hc4) ?_
      refine aq_aload_n (am_dg dkX11_span (i := 13) rfl) rfl ?_
      refine aq_getR (am_dg dkX11_span (i := 14) rfl) gk_11_55_0 (rf_0_4 hR) ?_
      obtain ⟨q7, hq8, h⟩ := am_bnd h
      refine aq_virt (a := [.ref 50]) (S1 := []) (v1 := .int q7.1) (S2 := [.int q7.1]) (am_dg dkX11_span (i := 15) rfl) cv_11_292_3 (am_cls_c sh_50 (by decide)) rfl rfl rfl (Nat.le_of_ble_eq_true rfl) (Nat.le_of_ble_eq_true rfl) (T_X3_leastThatFits_50 hR (by omega) hq8) rfl ?_
      refine aq_istore_n (L1 := [.ref 0, .int a1, .int q7.1]) (am_dg dkX11_span (i := 16) rfl) rfl ?_
      refine aq_iload_n (am_dg dkX11_span (i := 17) rfl) rfl ?_
      refine aq_bipush (v := (-3 : Int32)) (am_dg dkX11_span (i := 18) rfl) (by decide) ?_
      by_cases hc9 : q7.1 = (-3 : Int32)
      · rw [if_pos hc9] at h
        refine aq_icF (t := 40) (am_dg dkX11_span (i := 19) rfl) rfl (decide_eq_false (not_not_intro hc9)) ?_
        refine aq_bipush (v := (-3 : Int32)) (am_dg dkX11_span (i := 20) rfl) (by decide) ?_
        obtain rfl := Option.some.inj h
        exact aq_ireturn (am_dg dkX11_span (i := 21) rfl) rfl (Or.inl rfl) rfl
      · rw [if_neg hc9] at h
        refine aq_icT (t := 40) (am_dg dkX11_span (i := 19) rfl) rfl (decide_eq_true hc9) ?_
        refine aq_iload_n (am_dg dkX11_span (i := 22) rfl) rfl ?_
        refine aq_iconst (v := (1 : Int32)) (am_dg dkX11_span (i := 23) rfl) (by decide) ?_
        by_cases hc10 : a1 = (1 : Int32)
        · rw [if_pos hc10] at h
          refine aq_icF (t := 52) (am_dg dkX11_span (i := 24) rfl) rfl (decide_eq_false (not_not_intro hc10)) ?_
          refine aq_iload_n (am_dg dkX11_span (i := 25) rfl) rfl ?_
          obtain ⟨q11, hq12, h⟩ := am_bnd h
          refine aq_static (a := [.int q7.1]) (S1 := []) (v1 := .int q11.1) (S2 := [.int q11.1]) (am_dg dkX11_span (i := 26) rfl) ct_11_295 rfl rfl rfl (Nat.le_of_ble_eq_true rfl) (Nat.le_of_ble_eq_true rfl) (T_X3_kindOfStranger hR (by omega) hq12) rfl ?_
          refine aq_goto (t := 56) (am_dg dkX11_span (i := 27) rfl) rfl ?_
          obtain rfl := Option.some.inj h
          exact aq_ireturn (am_dg dkX11_span (i := 30) rfl) rfl (Or.inl rfl) rfl
        · rw [if_neg hc10] at h
          refine aq_icT (t := 52) (am_dg dkX11_span (i := 24) rfl) rfl (decide_eq_true hc10) ?_
          refine aq_iload_n (am_dg dkX11_span (i := 28) rfl) rfl ?_
          obtain ⟨q13, hq14, h⟩ := am_bnd h
          refine aq_static (a := [.int q7.1]) (S1 := []) (v1 := .int q13.1) (S2 := [.int q13.1]) (am_dg dkX11_span (i := 29) rfl) ct_11_298 rfl rfl rfl (Nat.le_of_ble_eq_true rfl) (Nat.le_of_ble_eq_true rfl) (T_X3_placeOfStranger hR (by omega) hq14) rfl ?_
          obtain rfl := Option.some.inj h
          exact aq_ireturn (am_dg dkX11_span (i := 30) rfl) rfl (Or.inl rfl) rfl
set_option maxRecDepth 20000 in
theorem T_X12_isSoBy_82_b14 {sc : Option (Nat × (Nat → Int32))} {RF : Nat → Nat → Option Nat} {d : Nat} (hR : am_RFok RF) (hd : 2 ≤ d) : ∀ (n : Nat) (x2 : Int32) (x4 : Int32) (x5 : Int32) (x6 : Int32) (w1 : Value) (w3 : Value) (s : am_S) (r : Int32 × am_S), F_X12_isSoBy_82_b14 n x2 x4 x5 x6 s = some r → am_Q sc d mX12_isSoBy (14, [.ref 82, w1, .int x2, w3, .int x4, .int x5, .int x6], [], am_hp RF s) (.int r.1, am_hp RF r.2) := by
  obtain ⟨e, rfl⟩ : ∃ e, d = e + 1 := ⟨d - 1, by omega⟩
  intro n
  induction n with
  | zero => intro x2 x4 x5 x6 w1 w3 s r h; rw [F_X12_isSoBy_82_b14] at h; cases h
  | succ n ih =>
  intro x2 x4 x5 x6 w1 w3 s r h
  rw [F_X12_isSoBy_82_b14] at h
  refine aq_iload (am_dg dkX12_isSoBy (i := 10) rfl) rfl ?_
  refine aq_aload_n (am_dg dkX12_isSoBy (i := 11) rfl) rfl ?_
  refine aq_getR (am_dg dkX12_isSoBy (i := 12) rfl) gk_12_7_82 (rf_82_0 hR) ?_
  refine aq_iload (am_dg dkX12_isSoBy (i := 13) rfl) rfl ?_
  obtain ⟨hg1, h⟩ := am_guard h
  refine aq_iald (am_dg dkX12_isSoBy (i := 14) rfl) sh_83 hg1 ?_
  by_cases hc2 : (s.1 83 x4.toNatClampNeg) ≤ x6
  · rw [if_pos hc2] at h
    refine aq_icT (t := 50) (am_dg dkX12_isSoBy (i := 15) rfl) rfl (decide_eq_true hc2) ?_
    refine aq_iload (am_dg dkX12_isSoBy (i := 27) rfl) rfl ?_
    refine aq_i2l (am_dg dkX12_isSoBy (i := 28) rfl) ?_
    refine aq_aload_n (am_dg dkX12_isSoBy (i := 29) rfl) rfl ?_
    refine aq_getR (am_dg dkX12_isSoBy (i := 30) rfl) gk_12_7_82 (rf_82_0 hR) ?_
    refine aq_iload (am_dg dkX12_isSoBy (i := 31) rfl) rfl ?_
    refine aq_iconst (v := (1 : Int32)) (am_dg dkX12_isSoBy (i := 32) rfl) (by decide) ?_
    refine aq_iadd (am_dg dkX12_isSoBy (i := 33) rfl) ?_
    obtain ⟨hg3, h⟩ := am_guard h
    refine aq_iald (am_dg dkX12_isSoBy (i := 34) rfl) sh_83 hg3 ?_
    refine aq_i2l (am_dg dkX12_isSoBy (i := 35) rfl) ?_
    refine aq_aload_n (am_dg dkX12_isSoBy (i := 36) rfl) rfl ?_
    refine aq_getR (am_dg dkX12_isSoBy (i := 37) rfl) gk_12_7_82 (rf_82_0 hR) ?_
    refine aq_iload (am_dg dkX12_isSoBy (i := 38) rfl) rfl ?_
    refine aq_iconst (v := (2 : Int32)) (am_dg dkX12_isSoBy (i := 39) rfl) (by decide) ?_
    refine aq_iadd (am_dg dkX12_isSoBy (i := 40) rfl) ?_
    obtain ⟨hg4, h⟩ := am_guard h
    refine aq_iald (am_dg dkX12_isSoBy (i := 41) rfl) sh_83 hg4 ?_
    refine aq_i2l (am_dg dkX12_isSoBy (i := 42) rfl) ?_
    obtain ⟨q5, hq6, h⟩ := am_bnd h
    refine aq_static (a := [.long x5.toInt64, .long (s.1 83 (x4 + (1 : Int32)).toNatClampNeg).toInt64, .long (s.1 83 (x4 + (2 : Int32)).toNatClampNeg).toInt64]) (S1 := []) (v1 := .int q5.1) (S2 := [.int q5.1]) (am_dg dkX12_isSoBy (i := 43) rfl) ct_12_61 rfl rfl rfl (Nat.le_of_ble_eq_true rfl) (Nat.le_of_ble_eq_true rfl) (T_X12_in hR (by omega) hq6) rfl ?_
    obtain ⟨hg7, h⟩ := am_guard h
    obtain rfl := Option.some.inj h
    exact aq_ireturn (am_dg dkX12_isSoBy (i := 44) rfl) rfl (Or.inr (Or.inl rfl)) (am_nz hg7)
  · rw [if_neg hc2] at h
    refine aq_icF (t := 50) (am_dg dkX12_isSoBy (i := 15) rfl) rfl (decide_eq_false hc2) ?_
    refine aq_aload_n (am_dg dkX12_isSoBy (i := 16) rfl) rfl ?_
    refine aq_iload (am_dg dkX12_isSoBy (i := 17) rfl) rfl ?_
    refine aq_iload_n (am_dg dkX12_isSoBy (i := 18) rfl) rfl ?_
    refine aq_bipush (v := (6 : Int32)) (am_dg dkX12_isSoBy (i := 19) rfl) (by decide) ?_
    refine aq_iload (am_dg dkX12_isSoBy (i := 20) rfl) rfl ?_
    obtain ⟨q8, hq9, h⟩ := am_bnd h
    refine aq_static (a := [.int x2, .int (6 : Int32), .int x6]) (S1 := [.int x5, .ref 82]) (v1 := .int q8.1) (S2 := [.int q8.1, .int x5, .ref 82]) (am_dg dkX12_isSoBy (i := 21) rfl) ct_12_86 rfl rfl rfl (Nat.le_of_ble_eq_true rfl) (Nat.le_of_ble_eq_true rfl) (T_X12_driftOf hR (by omega) hq9) rfl ?_
    refine aq_iload (am_dg dkX12_isSoBy (i := 22) rfl) rfl ?_
    obtain ⟨q10, hq11, h⟩ := am_bnd h
    refine aq_virt (a := [.ref 82, .int x5, .int q8.1, .int x6]) (S1 := []) (v1 := .int q10.1) (S2 := [.int q10.1]) (am_dg dkX12_isSoBy (i := 23) rfl) cv_12_147_12 (am_cls_c sh_82 (by decide)) rfl rfl rfl (Nat.le_of_ble_eq_true rfl) (Nat.le_of_ble_eq_true rfl) (T_X12_driftsTo_82 hR (by omega) hq11) rfl ?_
    refine aq_istore (L1 := [.ref 82, w1, .int x2, w3, .int x4, .int q10.1, .int x6]) (am_dg dkX12_isSoBy (i := 24) rfl) rfl ?_
    refine aq_iinc (v := (1 : Int32)) (L1 := [.ref 82, w1, .int x2, w3, .int x4, .int q10.1, .int (x6 + (1 : Int32))]) (am_dg dkX12_isSoBy (i := 25) rfl) rfl (by decide) rfl ?_
    refine aq_goto (t := 14) (am_dg dkX12_isSoBy (i := 26) rfl) rfl ?_
    exact ih _ _ _ _ _ _ _ _ h
set_option maxRecDepth 20000 in
theorem T_X12_isSoBy_82 {sc : Option (Nat × (Nat → Int32))} {RF : Nat → Nat → Option Nat} {d : Nat} (hR : am_RFok RF) (hd : 2 ≤ d) {a1 : Int32} {a2 : Int32} {a3 : Int32} {s : am_S} {r : Int32 × am_S} (h : F_X12_isSoBy_82 a1 a2 a3 s = some r) : am_Q sc d mX12_isSoBy (0, am_L0 mX12_isSoBy [.ref 82, .int a1, .int a2, .int a3], [], am_hp RF s) (.int r.1, am_hp RF r.2) := by
  obtain ⟨e, rfl⟩ : ∃ e, d = e + 1 := ⟨d - 1, by omega⟩
  unfold F_X12_isSoBy_82 at h
  show am_Q _ _ _ (0, [.ref 82, .int a1, .int a2, .int a3, .null, .null, .null], [], _) _
  refine aq_bipush (v := (54 : Int32)) (am_dg dkX12_isSoBy (i := 0) rfl) (by decide) ?_
  refine aq_iconst (v := (3 : Int32)) (am_dg dkX12_isSoBy (i := 1) rfl) (by decide) ?_
  refine aq_iload_n (am_dg dkX12_isSoBy (i := 2) rfl) rfl ?_
  refine aq_imul (am_dg dkX12_isSoBy (i := 3) rfl) ?_
  refine aq_iadd (am_dg dkX12_isSoBy (i := 4) rfl) ?_
  refine aq_istore (L1 := [.ref 82, .int a1, .int a2, .int a3, .int ((54 : Int32) + ((3 : Int32) * a1)), .null, .null]) (am_dg dkX12_isSoBy (i := 5) rfl) rfl ?_
  refine aq_iload_n (am_dg dkX12_isSoBy (i := 6) rfl) rfl ?_
  refine aq_istore (L1 := [.ref 82, .int a1, .int a2, .int a3, .int ((54 : Int32) + ((3 : Int32) * a1)), .int a3, .null]) (am_dg dkX12_isSoBy (i := 7) rfl) rfl ?_
  refine aq_iconst (v := (0 : Int32)) (am_dg dkX12_isSoBy (i := 8) rfl) (by decide) ?_
  refine aq_istore (L1 := [.ref 82, .int a1, .int a2, .int a3, .int ((54 : Int32) + ((3 : Int32) * a1)), .int a3, .int (0 : Int32)]) (am_dg dkX12_isSoBy (i := 9) rfl) rfl ?_
  exact T_X12_isSoBy_82_b14 hR (by omega) _ _ _ _ _ _ _ _ _ h
set_option maxRecDepth 20000 in
theorem T_X12_isFit_82_b45 {sc : Option (Nat × (Nat → Int32))} {RF : Nat → Nat → Option Nat} {d : Nat} (hR : am_RFok RF) (hd : 3 ≤ d) {k6 : Int32 → Int32 → Int32 → Int32 → Int32 → am_S → Option (Int32 × am_S)} (hk6 : ∀ (x1 : Int32) (x2 : Int32) (x3 : Int32) (x4 : Int32) (x5 : Int32) (s2 : am_S) (r2 : Int32 × am_S), k6 x1 x2 x3 x4 x5 s2 = some r2 → am_Q sc d mX12_isFit (6, [.ref 82, .int x1, .int x2, .int x3, .int x4, .int x5], [], am_hp RF s2) (.int r2.1, am_hp RF r2.2)) : ∀ (x1 : Int32) (x2 : Int32) (x3 : Int32) (x5 : Int32) (y0 : Int32) (w4 : Value) (s : am_S) (r : Int32 × am_S), F_X12_isFit_82_b45 k6 x1 x2 x3 x5 y0 s = some r → am_Q sc d mX12_isFit (45, [.ref 82, .int x1, .int x2, .int x3, w4, .int x5], [.int y0], am_hp RF s) (.int r.1, am_hp RF r.2) := by
  obtain ⟨e, rfl⟩ : ∃ e, d = e + 1 := ⟨d - 1, by omega⟩
  intro x1 x2 x3 x5 y0 w4 s r h
  unfold F_X12_isFit_82_b45 at h
  refine aq_istore (L1 := [.ref 82, .int x1, .int x2, .int x3, .int y0, .int x5]) (am_dg dkX12_isFit (i := 24) rfl) rfl ?_
  refine aq_iinc (v := (1 : Int32)) (L1 := [.ref 82, .int x1, .int x2, .int x3, .int y0, .int (x5 + (1 : Int32))]) (am_dg dkX12_isFit (i := 25) rfl) rfl (by decide) rfl ?_
  refine aq_goto (t := 6) (am_dg dkX12_isFit (i := 26) rfl) rfl ?_
  exact hk6 _ _ _ _ _ _ _ h
set_option maxRecDepth 20000 in
theorem T_X12_isFit_82_b40 {sc : Option (Nat × (Nat → Int32))} {RF : Nat → Nat → Option Nat} {d : Nat} (hR : am_RFok RF) (hd : 3 ≤ d) {k6 : Int32 → Int32 → Int32 → Int32 → Int32 → am_S → Option (Int32 × am_S)} (hk6 : ∀ (x1 : Int32) (x2 : Int32) (x3 : Int32) (x4 : Int32) (x5 : Int32) (s2 : am_S) (r2 : Int32 × am_S), k6 x1 x2 x3 x4 x5 s2 = some r2 → am_Q sc d mX12_isFit (6, [.ref 82, .int x1, .int x2, .int x3, .int x4, .int x5], [], am_hp RF s2) (.int r2.1, am_hp RF r2.2)) : ∀ (x1 : Int32) (x2 : Int32) (x3 : Int32) (x5 : Int32) (w4 : Value) (s : am_S) (r : Int32 × am_S), F_X12_isFit_82_b40 k6 x1 x2 x3 x5 s = some r → am_Q sc d mX12_isFit (40, [.ref 82, .int x1, .int x2, .int x3, w4, .int x5], [], am_hp RF s) (.int r.1, am_hp RF r.2) := by
  obtain ⟨e, rfl⟩ : ∃ e, d = e + 1 := ⟨d - 1, by omega⟩
  intro x1 x2 x3 x5 w4 s r h
  unfold F_X12_isFit_82_b40 at h
  refine aq_iconst (v := (1 : Int32)) (am_dg dkX12_isFit (i := 21) rfl) (by decide) ?_
  refine aq_goto (t := 45) (am_dg dkX12_isFit (i := 22) rfl) rfl ?_
  exact T_X12_isFit_82_b45 hR (by omega) hk6 _ _ _ _ _ _ _ _ h
set_option maxRecDepth 20000 in
theorem T_X12_isFit_82_b6 {sc : Option (Nat × (Nat → Int32))} {RF : Nat → Nat → Option Nat} {d : Nat} (hR : am_RFok RF) (hd : 3 ≤ d) : ∀ (n : Nat) (x1 : Int32) (x2 : Int32) (x3 : Int32) (x4 : Int32) (x5 : Int32) (s : am_S) (r : Int32 × am_S), F_X12_isFit_82_b6 n x1 x2 x3 x4 x5 s = some r → am_Q sc d mX12_isFit (6, [.ref 82, .int x1, .int x2, .int x3, .int x4, .int x5], [], am_hp RF s) (.int r.1, am_hp RF r.2) := by
  obtain ⟨e, rfl⟩ : ∃ e, d = e + 1 := ⟨d - 1, by omega⟩
  intro n
  induction n with
  | zero => intro x1 x2 x3 x4 x5 s r h; rw [F_X12_isFit_82_b6] at h; cases h
  | succ n ih =>
  intro x1 x2 x3 x4 x5 s r h
  rw [F_X12_isFit_82_b6] at h
  refine aq_iload (am_dg dkX12_isFit (i := 4) rfl) rfl ?_
  refine aq_aload_n (am_dg dkX12_isFit (i := 5) rfl) rfl ?_
  refine aq_getR (am_dg dkX12_isFit (i := 6) rfl) gk_12_7_82 (rf_82_0 hR) ?_
  refine aq_bipush (v := (6 : Int32)) (am_dg dkX12_isFit (i := 7) rfl) (by decide) ?_
  obtain ⟨hg1, h⟩ := am_guard h
  refine aq_iald (am_dg dkX12_isFit (i := 8) rfl) sh_83 hg1 ?_
  by_cases hc2 : (s.1 83 (6 : Int32).toNatClampNeg) ≤ x5
  · rw [if_pos hc2] at h
    refine aq_icT (t := 53) (am_dg dkX12_isFit (i := 9) rfl) rfl (decide_eq_true hc2) ?_
    refine aq_iload (am_dg dkX12_isFit (i := 27) rfl) rfl ?_
    obtain ⟨hg3, h⟩ := am_guard h
    obtain rfl := Option.some.inj h
    exact aq_ireturn (am_dg dkX12_isFit (i := 28) rfl) rfl (Or.inr (Or.inl rfl)) (am_nz hg3)
  · rw [if_neg hc2] at h
    refine aq_icF (t := 53) (am_dg dkX12_isFit (i := 9) rfl) rfl (decide_eq_false hc2) ?_
    refine aq_iload (am_dg dkX12_isFit (i := 10) rfl) rfl ?_
    by_cases hc4 : x4 = (0 : Int32)
    · rw [if_pos hc4] at h
      refine aq_ifT (t := 53) (am_dg dkX12_isFit (i := 11) rfl) rfl (decide_eq_true hc4) ?_
      refine aq_iload (am_dg dkX12_isFit (i := 27) rfl) rfl ?_
      obtain ⟨hg5, h⟩ := am_guard h
      obtain rfl := Option.some.inj h
      exact aq_ireturn (am_dg dkX12_isFit (i := 28) rfl) rfl (Or.inr (Or.inl rfl)) (am_nz hg5)
    · rw [if_neg hc4] at h
      refine aq_ifF (t := 53) (am_dg dkX12_isFit (i := 11) rfl) rfl (decide_eq_false hc4) ?_
      refine aq_iload (am_dg dkX12_isFit (i := 12) rfl) rfl ?_
      refine aq_iload_n (am_dg dkX12_isFit (i := 13) rfl) rfl ?_
      by_cases hc6 : x5 = x3
      · rw [if_pos hc6] at h
        refine aq_icT (t := 40) (am_dg dkX12_isFit (i := 14) rfl) rfl (decide_eq_true hc6) ?_
        exact T_X12_isFit_82_b40 hR (by omega) ih _ _ _ _ _ _ _ h
      · rw [if_neg hc6] at h
        refine aq_icF (t := 40) (am_dg dkX12_isFit (i := 14) rfl) rfl (decide_eq_false hc6) ?_
        refine aq_aload_n (am_dg dkX12_isFit (i := 15) rfl) rfl ?_
        refine aq_iload (am_dg dkX12_isFit (i := 16) rfl) rfl ?_
        refine aq_iload_n (am_dg dkX12_isFit (i := 17) rfl) rfl ?_
        refine aq_iload_n (am_dg dkX12_isFit (i := 18) rfl) rfl ?_
        obtain ⟨q7, hq8, h⟩ := am_bnd h
        refine aq_virt (a := [.ref 82, .int x5, .int x1, .int x2]) (S1 := []) (v1 := .int q7.1) (S2 := [.int q7.1]) (am_dg dkX12_isFit (i := 19) rfl) cv_12_246_12 (am_cls_c sh_82 (by decide)) rfl rfl rfl (Nat.le_of_ble_eq_true rfl) (Nat.le_of_ble_eq_true rfl) (T_X12_isSoBy_82 hR (by omega) hq8) rfl ?_
        by_cases hc9 : q7.1 = (0 : Int32)
        · rw [if_pos hc9] at h
          refine aq_ifT (t := 44) (am_dg dkX12_isFit (i := 20) rfl) rfl (decide_eq_true hc9) ?_
          refine aq_iconst (v := (0 : Int32)) (am_dg dkX12_isFit (i := 23) rfl) (by decide) ?_
          exact T_X12_isFit_82_b45 hR (by omega) ih _ _ _ _ _ _ _ _ h
        · rw [if_neg hc9] at h
          refine aq_ifF (t := 44) (am_dg dkX12_isFit (i := 20) rfl) rfl (decide_eq_false hc9) ?_
          exact T_X12_isFit_82_b40 hR (by omega) ih _ _ _ _ _ _ _ h
set_option maxRecDepth 20000 in
theorem T_X12_isFit_82 {sc : Option (Nat × (Nat → Int32))} {RF : Nat → Nat → Option Nat} {d : Nat} (hR : am_RFok RF) (hd : 3 ≤ d) {a1 : Int32} {a2 : Int32} {a3 : Int32} {s : am_S} {r : Int32 × am_S} (h : F_X12_isFit_82 a1 a2 a3 s = some r) : am_Q sc d mX12_isFit (0, am_L0 mX12_isFit [.ref 82, .int a1, .int a2, .int a3], [], am_hp RF s) (.int r.1, am_hp RF r.2) := by
  obtain ⟨e, rfl⟩ : ∃ e, d = e + 1 := ⟨d - 1, by omega⟩
  unfold F_X12_isFit_82 at h
  show am_Q _ _ _ (0, [.ref 82, .int a1, .int a2, .int a3, .null, .null], [], _) _
  refine aq_iconst (v := (1 : Int32)) (am_dg dkX12_isFit (i := 0) rfl) (by decide) ?_
  refine aq_istore (L1 := [.ref 82, .int a1, .int a2, .int a3, .int (1 : Int32), .null]) (am_dg dkX12_isFit (i := 1) rfl) rfl ?_
  refine aq_iconst (v := (0 : Int32)) (am_dg dkX12_isFit (i := 2) rfl) (by decide) ?_
  refine aq_istore (L1 := [.ref 82, .int a1, .int a2, .int a3, .int (1 : Int32), .int (0 : Int32)]) (am_dg dkX12_isFit (i := 3) rfl) rfl ?_
  exact T_X12_isFit_82_b6 hR (by omega) _ _ _ _ _ _ _ _ h
set_option maxRecDepth 20000 in
theorem T_X12_findFits_82_b86 {sc : Option (Nat × (Nat → Int32))} {RF : Nat → Nat → Option Nat} {d : Nat} (hR : am_RFok RF) (hd : 4 ≤ d) {k7 : Int32 → Int32 → am_S → Option (am_S)} (hk7 : ∀ (x1 : Int32) (x2 : Int32) (w3 : Value) (w4 : Value) (s2 : am_S) (r2 : am_S), k7 x1 x2 s2 = some r2 → am_Q sc d mX12_findFits (7, [.ref 82, .int x1, .int x2, w3, w4], [], am_hp RF s2) (.null, am_hp RF r2)) : ∀ (x1 : Int32) (x2 : Int32) (w3 : Value) (w4 : Value) (s : am_S) (r : am_S), F_X12_findFits_82_b86 k7 x1 x2 s = some r → am_Q sc d mX12_findFits (86, [.ref 82, .int x1, .int x2, w3, w4], [], am_hp RF s) (.null, am_hp RF r) := by
  obtain ⟨e, rfl⟩ : ∃ e, d = e + 1 := ⟨d - 1, by omega⟩
  intro x1 x2 w3 w4 s r h
  unfold F_X12_findFits_82_b86 at h
  refine aq_iinc (v := (1 : Int32)) (L1 := [.ref 82, .int x1, .int (x2 + (1 : Int32)), w3, w4]) (am_dg dkX12_findFits (i := 48) rfl) rfl (by decide) rfl ?_
  refine aq_goto (t := 7) (am_dg dkX12_findFits (i := 49) rfl) rfl ?_
  exact hk7 _ _ _ _ _ _ h
set_option maxRecDepth 20000 in
theorem T_X12_findFits_82_b73 {sc : Option (Nat × (Nat → Int32))} {RF : Nat → Nat → Option Nat} {d : Nat} (hR : am_RFok RF) (hd : 4 ≤ d) {k7 : Int32 → Int32 → am_S → Option (am_S)} (hk7 : ∀ (x1 : Int32) (x2 : Int32) (w3 : Value) (w4 : Value) (s2 : am_S) (r2 : am_S), k7 x1 x2 s2 = some r2 → am_Q sc d mX12_findFits (7, [.ref 82, .int x1, .int x2, w3, w4], [], am_hp RF s2) (.null, am_hp RF r2)) : ∀ (x1 : Int32) (x2 : Int32) (y0 : Int32) (w3 : Value) (w4 : Value) (s : am_S) (r : am_S), F_X12_findFits_82_b73 k7 x1 x2 y0 s = some r → am_Q sc d mX12_findFits (73, [.ref 82, .int x1, .int x2, w3, w4], [.int y0, .ref 82], am_hp RF s) (.null, am_hp RF r) := by
  obtain ⟨e, rfl⟩ : ∃ e, d = e + 1 := ⟨d - 1, by omega⟩
  intro x1 x2 y0 w3 w4 s r h
  unfold F_X12_findFits_82_b73 at h
  refine aq_putI (am_dg dkX12_findFits (i := 41) rfl) gk_12_258_82 ?_
  obtain ⟨s1, hs2, h⟩ := am_bnd h
  rw [Option.some.inj hs2]
  refine aq_aload_n (am_dg dkX12_findFits (i := 42) rfl) rfl ?_
  refine aq_dup (am_dg dkX12_findFits (i := 43) rfl) rfl ?_
  refine aq_getI (am_dg dkX12_findFits (i := 44) rfl) gk_12_249_82 (by decide) ?_
  refine aq_iconst (v := (1 : Int32)) (am_dg dkX12_findFits (i := 45) rfl) (by decide) ?_
  refine aq_iadd (am_dg dkX12_findFits (i := 46) rfl) ?_
  refine aq_putI (am_dg dkX12_findFits (i := 47) rfl) gk_12_249_82 ?_
  obtain ⟨s3, hs4, h⟩ := am_bnd h
  rw [Option.some.inj hs4]
  exact T_X12_findFits_82_b86 hR (by omega) hk7 _ _ _ _ _ _ h
set_option maxRecDepth 20000 in
theorem T_X12_findFits_82_b53 {sc : Option (Nat × (Nat → Int32))} {RF : Nat → Nat → Option Nat} {d : Nat} (hR : am_RFok RF) (hd : 4 ≤ d) {k7 : Int32 → Int32 → am_S → Option (am_S)} (hk7 : ∀ (x1 : Int32) (x2 : Int32) (w3 : Value) (w4 : Value) (s2 : am_S) (r2 : am_S), k7 x1 x2 s2 = some r2 → am_Q sc d mX12_findFits (7, [.ref 82, .int x1, .int x2, w3, w4], [], am_hp RF s2) (.null, am_hp RF r2)) : ∀ (x1 : Int32) (x2 : Int32) (x4 : Int32) (y0 : Int32) (w3 : Value) (s : am_S) (r : am_S), F_X12_findFits_82_b53 k7 x1 x2 x4 y0 s = some r → am_Q sc d mX12_findFits (53, [.ref 82, .int x1, .int x2, w3, .int x4], [.int y0, .ref 82], am_hp RF s) (.null, am_hp RF r) := by
  obtain ⟨e, rfl⟩ : ∃ e, d = e + 1 := ⟨d - 1, by omega⟩
  intro x1 x2 x4 y0 w3 s r h
  unfold F_X12_findFits_82_b53 at h
  refine aq_putI (am_dg dkX12_findFits (i := 32) rfl) gk_12_255_82 ?_
  obtain ⟨s1, hs2, h⟩ := am_bnd h
  rw [Option.some.inj hs2]
  refine aq_aload_n (am_dg dkX12_findFits (i := 33) rfl) rfl ?_
  refine aq_aload_n (am_dg dkX12_findFits (i := 34) rfl) rfl ?_
  refine aq_getI (am_dg dkX12_findFits (i := 35) rfl) gk_12_249_82 (by decide) ?_
  by_cases hc3 : (s1.1 82 16) = (0 : Int32)
  · rw [if_pos hc3] at h
    refine aq_ifF (t := 69) (am_dg dkX12_findFits (i := 36) rfl) rfl (decide_eq_false (not_not_intro hc3)) ?_
    refine aq_iload (am_dg dkX12_findFits (i := 37) rfl) rfl ?_
    refine aq_goto (t := 73) (am_dg dkX12_findFits (i := 38) rfl) rfl ?_
    exact T_X12_findFits_82_b73 hR (by omega) hk7 _ _ _ _ _ _ _ h
  · rw [if_neg hc3] at h
    refine aq_ifT (t := 69) (am_dg dkX12_findFits (i := 36) rfl) rfl (decide_eq_true hc3) ?_
    refine aq_aload_n (am_dg dkX12_findFits (i := 39) rfl) rfl ?_
    refine aq_getI (am_dg dkX12_findFits (i := 40) rfl) gk_12_258_82 (by decide) ?_
    exact T_X12_findFits_82_b73 hR (by omega) hk7 _ _ _ _ _ _ _ h
set_option maxRecDepth 20000 in
theorem T_X12_findFits_82_b7 {sc : Option (Nat × (Nat → Int32))} {RF : Nat → Nat → Option Nat} {d : Nat} (hR : am_RFok RF) (hd : 4 ≤ d) : ∀ (n : Nat) (x1 : Int32) (x2 : Int32) (w3 : Value) (w4 : Value) (s : am_S) (r : am_S), F_X12_findFits_82_b7 n x1 x2 s = some r → am_Q sc d mX12_findFits (7, [.ref 82, .int x1, .int x2, w3, w4], [], am_hp RF s) (.null, am_hp RF r) := by
  obtain ⟨e, rfl⟩ : ∃ e, d = e + 1 := ⟨d - 1, by omega⟩
  intro n
  induction n with
  | zero => intro x1 x2 w3 w4 s r h; rw [F_X12_findFits_82_b7] at h; cases h
  | succ n ih =>
  intro x1 x2 w3 w4 s r h
  rw [F_X12_findFits_82_b7] at h
  refine aq_iload_n (am_dg dkX12_findFits (i := 5) rfl) rfl ?_
  refine aq_bipush (v := (80 : Int32)) (am_dg dkX12_findFits (i := 6) rfl) (by decide) ?_
  by_cases hc1 : (80 : Int32) ≤ x2
  · rw [if_pos hc1] at h
    refine aq_icT (t := 92) (am_dg dkX12_findFits (i := 7) rfl) rfl (decide_eq_true hc1) ?_
    obtain rfl := Option.some.inj h
    exact aq_return (am_dg dkX12_findFits (i := 50) rfl) rfl
  · rw [if_neg hc1] at h
    refine aq_icF (t := 92) (am_dg dkX12_findFits (i := 7) rfl) rfl (decide_eq_false hc1) ?_
    refine aq_iconst (v := (1 : Int32)) (am_dg dkX12_findFits (i := 8) rfl) (by decide) ?_
    refine aq_iload_n (am_dg dkX12_findFits (i := 9) rfl) rfl ?_
    refine aq_bipush (v := (16 : Int32)) (am_dg dkX12_findFits (i := 10) rfl) (by decide) ?_
    refine aq_idiv (am_dg dkX12_findFits (i := 11) rfl) (by decide) ?_
    refine aq_iadd (am_dg dkX12_findFits (i := 12) rfl) ?_
    refine aq_istore_n (L1 := [.ref 82, .int x1, .int x2, .int ((1 : Int32) + (x2 / (16 : Int32))), w4]) (am_dg dkX12_findFits (i := 13) rfl) rfl ?_
    refine aq_iload_n (am_dg dkX12_findFits (i := 14) rfl) rfl ?_
    refine aq_bipush (v := (16 : Int32)) (am_dg dkX12_findFits (i := 15) rfl) (by decide) ?_
    refine aq_iremN (am_dg dkX12_findFits (i := 16) rfl) (by decide) ?_
    refine aq_istore (L1 := [.ref 82, .int x1, .int x2, .int ((1 : Int32) + (x2 / (16 : Int32))), .int (am_rem x2 (16 : Int32))]) (am_dg dkX12_findFits (i := 17) rfl) rfl ?_
    refine aq_aload_n (am_dg dkX12_findFits (i := 18) rfl) rfl ?_
    refine aq_iload_n (am_dg dkX12_findFits (i := 19) rfl) rfl ?_
    refine aq_iload (am_dg dkX12_findFits (i := 20) rfl) rfl ?_
    refine aq_iload_n (am_dg dkX12_findFits (i := 21) rfl) rfl ?_
    obtain ⟨q2, hq3, h⟩ := am_bnd h
    refine aq_virt (a := [.ref 82, .int ((1 : Int32) + (x2 / (16 : Int32))), .int (am_rem x2 (16 : Int32)), .int x1]) (S1 := []) (v1 := .int q2.1) (S2 := [.int q2.1]) (am_dg dkX12_findFits (i := 22) rfl) cv_12_252_12 (am_cls_c sh_82 (by decide)) rfl rfl rfl (Nat.le_of_ble_eq_true rfl) (Nat.le_of_ble_eq_true rfl) (T_X12_isFit_82 hR (by omega) hq3) rfl ?_
    by_cases hc4 : q2.1 = (0 : Int32)
    · rw [if_pos hc4] at h
      refine aq_ifT (t := 86) (am_dg dkX12_findFits (i := 23) rfl) rfl (decide_eq_true hc4) ?_
      exact T_X12_findFits_82_b86 hR (by omega) ih _ _ _ _ _ _ h
    · rw [if_neg hc4] at h
      refine aq_ifF (t := 86) (am_dg dkX12_findFits (i := 23) rfl) rfl (decide_eq_false hc4) ?_
      refine aq_aload_n (am_dg dkX12_findFits (i := 24) rfl) rfl ?_
      refine aq_aload_n (am_dg dkX12_findFits (i := 25) rfl) rfl ?_
      refine aq_getI (am_dg dkX12_findFits (i := 26) rfl) gk_12_249_82 (by decide) ?_
      by_cases hc5 : (q2.2.1 82 16) = (0 : Int32)
      · rw [if_pos hc5] at h
        refine aq_ifF (t := 49) (am_dg dkX12_findFits (i := 27) rfl) rfl (decide_eq_false (not_not_intro hc5)) ?_
        refine aq_iload_n (am_dg dkX12_findFits (i := 28) rfl) rfl ?_
        refine aq_goto (t := 53) (am_dg dkX12_findFits (i := 29) rfl) rfl ?_
        exact T_X12_findFits_82_b53 hR (by omega) ih _ _ _ _ _ _ _ h
      · rw [if_neg hc5] at h
        refine aq_ifT (t := 49) (am_dg dkX12_findFits (i := 27) rfl) rfl (decide_eq_true hc5) ?_
        refine aq_aload_n (am_dg dkX12_findFits (i := 30) rfl) rfl ?_
        refine aq_getI (am_dg dkX12_findFits (i := 31) rfl) gk_12_255_82 (by decide) ?_
        exact T_X12_findFits_82_b53 hR (by omega) ih _ _ _ _ _ _ _ h
set_option maxRecDepth 20000 in
theorem T_X12_findFits_82 {sc : Option (Nat × (Nat → Int32))} {RF : Nat → Nat → Option Nat} {d : Nat} (hR : am_RFok RF) (hd : 4 ≤ d) {a1 : Int32} {s : am_S} {r : am_S} (h : F_X12_findFits_82 a1 s = some r) : am_Q sc d mX12_findFits (0, am_L0 mX12_findFits [.ref 82, .int a1], [], am_hp RF s) (.null, am_hp RF r) := by
  obtain ⟨e, rfl⟩ : ∃ e, d = e + 1 := ⟨d - 1, by omega⟩
  unfold F_X12_findFits_82 at h
  show am_Q _ _ _ (0, [.ref 82, .int a1, .null, .null, .null], [], _) _
  refine aq_aload_n (am_dg dkX12_findFits (i := 0) rfl) rfl ?_
  refine aq_iconst (v := (0 : Int32)) (am_dg dkX12_findFits (i := 1) rfl) (by decide) ?_
  refine aq_putI (am_dg dkX12_findFits (i := 2) rfl) gk_12_249_82 ?_
  obtain ⟨s1, hs2, h⟩ := am_bnd h
  rw [Option.some.inj hs2]
  refine aq_iconst (v := (0 : Int32)) (am_dg dkX12_findFits (i := 3) rfl) (by decide) ?_
  refine aq_istore_n (L1 := [.ref 82, .int a1, .int (0 : Int32), .null, .null]) (am_dg dkX12_findFits (i := 4) rfl) rfl ?_
  exact T_X12_findFits_82_b7 hR (by omega) _ _ _ _ _ _ _ h
set_option maxRecDepth 20000 in
theorem T_X12_span_82 {sc : Option (Nat × (Nat → Int32))} {RF : Nat → Nat → Option Nat} {d : Nat} (hR : am_RFok RF) (hd : 5 ≤ d) {a1 : Int32} {s : am_S} {r : Int32 × am_S} (h : F_X12_span_82 a1 s = some r) : am_Q sc d mX12_span (0, am_L0 mX12_span [.ref 82, .int a1], [], am_hp RF s) (.int r.1, am_hp RF r.2) := by
  obtain ⟨e, rfl⟩ : ∃ e, d = e + 1 := ⟨d - 1, by omega⟩
  unfold F_X12_span_82 at h
  show am_Q _ _ _ (0, [.ref 82, .int a1], [], _) _
  refine aq_iload_n (am_dg dkX12_span (i := 0) rfl) rfl ?_
  refine aq_i2l (am_dg dkX12_span (i := 1) rfl) ?_
  refine aq_lconst (v := (0 : Int64)) (am_dg dkX12_span (i := 2) rfl) (by decide) ?_
  refine aq_ldc2 (am_dg dkX12_span (i := 3) rfl) cl_12_114 ?_
  obtain ⟨q1, hq2, h⟩ := am_bnd h
  refine aq_static (a := [.long a1.toInt64, .long (0 : Int64), .long (2 : Int64)]) (S1 := []) (v1 := .int q1.1) (S2 := [.int q1.1]) (am_dg dkX12_span (i := 4) rfl) ct_12_61 rfl rfl rfl (Nat.le_of_ble_eq_true rfl) (Nat.le_of_ble_eq_true rfl) (T_X12_in hR (by omega) hq2) rfl ?_
  by_cases hc3 : q1.1 = (0 : Int32)
  · rw [if_pos hc3] at h
    refine aq_ifF (t := 14) (am_dg dkX12_span (i := 5) rfl) rfl (decide_eq_false (not_not_intro hc3)) ?_
    refine aq_iconst (v := (-1 : Int32)) (am_dg dkX12_span (i := 6) rfl) (by decide) ?_
    obtain rfl := Option.some.inj h
    exact aq_ireturn (am_dg dkX12_span (i := 7) rfl) rfl (Or.inl rfl) rfl
  · rw [if_neg hc3] at h
    refine aq_ifT (t := 14) (am_dg dkX12_span (i := 5) rfl) rfl (decide_eq_true hc3) ?_
    refine aq_aload_n (am_dg dkX12_span (i := 8) rfl) rfl ?_
    refine aq_iconst (v := (-1 : Int32)) (am_dg dkX12_span (i := 9) rfl) (by decide) ?_
    obtain ⟨q4, hq5, h⟩ := am_bnd h
    refine aq_virt (a := [.ref 82, .int (-1 : Int32)]) (S1 := []) (v1 := .null) (S2 := []) (am_dg dkX12_span (i := 10) rfl) cv_12_261_12 (am_cls_c sh_82 (by decide)) rfl rfl rfl (Nat.le_of_ble_eq_true rfl) (Nat.le_of_ble_eq_true rfl) (T_X12_findFits_82 hR (by omega) hq5) rfl ?_
    refine aq_iload_n (am_dg dkX12_span (i := 11) rfl) rfl ?_
    by_cases hc6 : a1 = (0 : Int32)
    · rw [if_pos hc6] at h
      refine aq_ifF (t := 30) (am_dg dkX12_span (i := 12) rfl) rfl (decide_eq_false (not_not_intro hc6)) ?_
      refine aq_aload_n (am_dg dkX12_span (i := 13) rfl) rfl ?_
      refine aq_getI (am_dg dkX12_span (i := 14) rfl) gk_12_249_82 (by decide) ?_
      refine aq_goto (t := 58) (am_dg dkX12_span (i := 15) rfl) rfl ?_
      obtain rfl := Option.some.inj h
      exact aq_ireturn (am_dg dkX12_span (i := 29) rfl) rfl (Or.inl rfl) rfl
    · rw [if_neg hc6] at h
      refine aq_ifT (t := 30) (am_dg dkX12_span (i := 12) rfl) rfl (decide_eq_true hc6) ?_
      refine aq_aload_n (am_dg dkX12_span (i := 16) rfl) rfl ?_
      refine aq_getI (am_dg dkX12_span (i := 17) rfl) gk_12_249_82 (by decide) ?_
      by_cases hc7 : (q4.1 82 16) = (0 : Int32)
      · rw [if_pos hc7] at h
        refine aq_ifF (t := 42) (am_dg dkX12_span (i := 18) rfl) rfl (decide_eq_false (not_not_intro hc7)) ?_
        refine aq_bipush (v := (-3 : Int32)) (am_dg dkX12_span (i := 19) rfl) (by decide) ?_
        refine aq_goto (t := 58) (am_dg dkX12_span (i := 20) rfl) rfl ?_
        obtain rfl := Option.some.inj h
        exact aq_ireturn (am_dg dkX12_span (i := 29) rfl) rfl (Or.inl rfl) rfl
      · rw [if_neg hc7] at h
        refine aq_ifT (t := 42) (am_dg dkX12_span (i := 18) rfl) rfl (decide_eq_true hc7) ?_
        refine aq_iload_n (am_dg dkX12_span (i := 21) rfl) rfl ?_
        refine aq_iconst (v := (1 : Int32)) (am_dg dkX12_span (i := 22) rfl) (by decide) ?_
        by_cases hc8 : a1 = (1 : Int32)
        · rw [if_pos hc8] at h
          refine aq_icF (t := 54) (am_dg dkX12_span (i := 23) rfl) rfl (decide_eq_false (not_not_intro hc8)) ?_
          refine aq_aload_n (am_dg dkX12_span (i := 24) rfl) rfl ?_
          refine aq_getI (am_dg dkX12_span (i := 25) rfl) gk_12_255_82 (by decide) ?_
          refine aq_goto (t := 58) (am_dg dkX12_span (i := 26) rfl) rfl ?_
          obtain rfl := Option.some.inj h
          exact aq_ireturn (am_dg dkX12_span (i := 29) rfl) rfl (Or.inl rfl) rfl
        · rw [if_neg hc8] at h
          refine aq_icT (t := 54) (am_dg dkX12_span (i := 23) rfl) rfl (decide_eq_true hc8) ?_
          refine aq_aload_n (am_dg dkX12_span (i := 27) rfl) rfl ?_
          refine aq_getI (am_dg dkX12_span (i := 28) rfl) gk_12_258_82 (by decide) ?_
          obtain rfl := Option.some.inj h
          exact aq_ireturn (am_dg dkX12_span (i := 29) rfl) rfl (Or.inl rfl) rfl
set_option maxRecDepth 20000 in
theorem T_J6_bitCount_0f7a4 {sc : Option (Nat × (Nat → Int32))} {RF : Nat → Nat → Option Nat} {d : Nat} (hR : am_RFok RF) (hd : 0 ≤ d) {a0 : Int32} {s : am_S} {r : Int32 × am_S} (h : F_J6_bitCount_0f7a4 a0 s = some r) : am_Q sc d mJ6_bitCount_0f7a4 (0, am_L0 mJ6_bitCount_0f7a4 [.int a0], [], am_hp RF s) (.int r.1, am_hp RF r.2) := by
  unfold F_J6_bitCount_0f7a4 at h
  show am_Q _ _ _ (0, [.int a0], [], _) _
  refine aq_iload_n (am_dg dkJ6_bitCount_0f7a4 (i := 0) rfl) rfl ?_
  refine aq_iload_n (am_dg dkJ6_bitCount_0f7a4 (i := 1) rfl) rfl ?_
  refine aq_iconst (v := (1 : Int32)) (am_dg dkJ6_bitCount_0f7a4 (i := 2) rfl) (by decide) ?_
  refine aq_iushrN (am_dg dkJ6_bitCount_0f7a4 (i := 3) rfl) ?_
  refine aq_ldc_w (am_dg dkJ6_bitCount_0f7a4 (i := 4) rfl) ci_16_265 ?_
  refine aq_iand (am_dg dkJ6_bitCount_0f7a4 (i := 5) rfl) ?_
  refine aq_isub (am_dg dkJ6_bitCount_0f7a4 (i := 6) rfl) ?_
  obtain ⟨v1, hv2, h⟩ := am_bnd h
  rw [Option.some.inj hv2]
  refine aq_istore_n (L1 := [.int v1]) (am_dg dkJ6_bitCount_0f7a4 (i := 7) rfl) rfl ?_
  refine aq_iload_n (am_dg dkJ6_bitCount_0f7a4 (i := 8) rfl) rfl ?_
  refine aq_ldc_w (am_dg dkJ6_bitCount_0f7a4 (i := 9) rfl) ci_16_266 ?_
  refine aq_iand (am_dg dkJ6_bitCount_0f7a4 (i := 10) rfl) ?_
  refine aq_iload_n (am_dg dkJ6_bitCount_0f7a4 (i := 11) rfl) rfl ?_
  refine aq_iconst (v := (2 : Int32)) (am_dg dkJ6_bitCount_0f7a4 (i := 12) rfl) (by decide) ?_
  refine aq_iushrN (am_dg dkJ6_bitCount_0f7a4 (i := 13) rfl) ?_
  refine aq_ldc_w (am_dg dkJ6_bitCount_0f7a4 (i := 14) rfl) ci_16_266 ?_
  refine aq_iand (am_dg dkJ6_bitCount_0f7a4 (i := 15) rfl) ?_
  refine aq_iadd (am_dg dkJ6_bitCount_0f7a4 (i := 16) rfl) ?_
  obtain ⟨v3, hv4, h⟩ := am_bnd h
  rw [Option.some.inj hv4]
  refine aq_istore_n (L1 := [.int v3]) (am_dg dkJ6_bitCount_0f7a4 (i := 17) rfl) rfl ?_
  refine aq_iload_n (am_dg dkJ6_bitCount_0f7a4 (i := 18) rfl) rfl ?_
  refine aq_iload_n (am_dg dkJ6_bitCount_0f7a4 (i := 19) rfl) rfl ?_
  refine aq_iconst (v := (4 : Int32)) (am_dg dkJ6_bitCount_0f7a4 (i := 20) rfl) (by decide) ?_
  refine aq_iushrN (am_dg dkJ6_bitCount_0f7a4 (i := 21) rfl) ?_
  refine aq_iadd (am_dg dkJ6_bitCount_0f7a4 (i := 22) rfl) ?_
  refine aq_ldc_w (am_dg dkJ6_bitCount_0f7a4 (i := 23) rfl) ci_16_267 ?_
  refine aq_iand (am_dg dkJ6_bitCount_0f7a4 (i := 24) rfl) ?_
  obtain ⟨v5, hv6, h⟩ := am_bnd h
  rw [Option.some.inj hv6]
  refine aq_istore_n (L1 := [.int v5]) (am_dg dkJ6_bitCount_0f7a4 (i := 25) rfl) rfl ?_
  refine aq_iload_n (am_dg dkJ6_bitCount_0f7a4 (i := 26) rfl) rfl ?_
  refine aq_iload_n (am_dg dkJ6_bitCount_0f7a4 (i := 27) rfl) rfl ?_
  refine aq_bipush (v := (8 : Int32)) (am_dg dkJ6_bitCount_0f7a4 (i := 28) rfl) (by decide) ?_
  refine aq_iushrN (am_dg dkJ6_bitCount_0f7a4 (i := 29) rfl) ?_
  refine aq_iadd (am_dg dkJ6_bitCount_0f7a4 (i := 30) rfl) ?_
  refine aq_istore_n (L1 := [.int (v5 + (am_ushr v5 (8 : Int32)))]) (am_dg dkJ6_bitCount_0f7a4 (i := 31) rfl) rfl ?_
  refine aq_iload_n (am_dg dkJ6_bitCount_0f7a4 (i := 32) rfl) rfl ?_
  refine aq_iload_n (am_dg dkJ6_bitCount_0f7a4 (i := 33) rfl) rfl ?_
  refine aq_bipush (v := (16 : Int32)) (am_dg dkJ6_bitCount_0f7a4 (i := 34) rfl) (by decide) ?_
  refine aq_iushrN (am_dg dkJ6_bitCount_0f7a4 (i := 35) rfl) ?_
  refine aq_iadd (am_dg dkJ6_bitCount_0f7a4 (i := 36) rfl) ?_
  obtain ⟨v7, hv8, h⟩ := am_bnd h
  rw [Option.some.inj hv8]
  refine aq_istore_n (L1 := [.int v7]) (am_dg dkJ6_bitCount_0f7a4 (i := 37) rfl) rfl ?_
  refine aq_iload_n (am_dg dkJ6_bitCount_0f7a4 (i := 38) rfl) rfl ?_
  refine aq_bipush (v := (63 : Int32)) (am_dg dkJ6_bitCount_0f7a4 (i := 39) rfl) (by decide) ?_
  refine aq_iand (am_dg dkJ6_bitCount_0f7a4 (i := 40) rfl) ?_
  obtain rfl := Option.some.inj h
  exact aq_ireturn (am_dg dkJ6_bitCount_0f7a4 (i := 41) rfl) rfl (Or.inl rfl) rfl
set_option maxRecDepth 20000 in
theorem T_X3_leastLiar_50_b35 {sc : Option (Nat × (Nat → Int32))} {RF : Nat → Nat → Option Nat} {d : Nat} (hR : am_RFok RF) (hd : 4 ≤ d) {k4 : Int32 → Int32 → am_S → Option (Int32 × am_S)} (hk4 : ∀ (x1 : Int32) (x2 : Int32) (w3 : Value) (s2 : am_S) (r2 : Int32 × am_S), k4 x1 x2 s2 = some r2 → am_Q sc d mX3_leastLiar (4, [.ref 50, .int x1, .int x2, w3], [], am_hp RF s2) (.int r2.1, am_hp RF r2.2)) : ∀ (x1 : Int32) (x2 : Int32) (w3 : Value) (s : am_S) (r : Int32 × am_S), F_X3_leastLiar_50_b35 k4 x1 x2 s = some r → am_Q sc d mX3_leastLiar (35, [.ref 50, .int x1, .int x2, w3], [], am_hp RF s) (.int r.1, am_hp RF r.2) := by
  obtain ⟨e, rfl⟩ : ∃ e, d = e + 1 := ⟨d - 1, by omega⟩
  intro x1 x2 w3 s r h
  unfold F_X3_leastLiar_50_b35 at h
  refine aq_iinc (v := (1 : Int32)) (L1 := [.ref 50, .int x1, .int (x2 + (1 : Int32)), w3]) (am_dg dkX3_leastLiar (i := 23) rfl) rfl (by decide) rfl ?_
  refine aq_goto (t := 4) (am_dg dkX3_leastLiar (i := 24) rfl) rfl ?_
  exact hk4 _ _ _ _ _ h
set_option maxRecDepth 20000 in
theorem T_X3_leastLiar_50_b4 {sc : Option (Nat × (Nat → Int32))} {RF : Nat → Nat → Option Nat} {d : Nat} (hR : am_RFok RF) (hd : 4 ≤ d) : ∀ (n : Nat) (x1 : Int32) (x2 : Int32) (w3 : Value) (s : am_S) (r : Int32 × am_S), F_X3_leastLiar_50_b4 n x1 x2 s = some r → am_Q sc d mX3_leastLiar (4, [.ref 50, .int x1, .int x2, w3], [], am_hp RF s) (.int r.1, am_hp RF r.2) := by
  obtain ⟨e, rfl⟩ : ∃ e, d = e + 1 := ⟨d - 1, by omega⟩
  intro n
  induction n with
  | zero => intro x1 x2 w3 s r h; rw [F_X3_leastLiar_50_b4] at h; cases h
  | succ n ih =>
  intro x1 x2 w3 s r h
  rw [F_X3_leastLiar_50_b4] at h
  refine aq_iload_n (am_dg dkX3_leastLiar (i := 4) rfl) rfl ?_
  refine aq_bipush (v := (80 : Int32)) (am_dg dkX3_leastLiar (i := 5) rfl) (by decide) ?_
  by_cases hc1 : (80 : Int32) ≤ x2
  · rw [if_pos hc1] at h
    refine aq_icT (t := 41) (am_dg dkX3_leastLiar (i := 6) rfl) rfl (decide_eq_true hc1) ?_
    refine aq_iload_n (am_dg dkX3_leastLiar (i := 25) rfl) rfl ?_
    obtain ⟨q2, hq3, h⟩ := am_bnd h
    refine aq_static (a := [.int x1]) (S1 := []) (v1 := .int q2.1) (S2 := [.int q2.1]) (am_dg dkX3_leastLiar (i := 26) rfl) ct_3_181 rfl rfl rfl (Nat.le_of_ble_eq_true rfl) (Nat.le_of_ble_eq_true rfl) (T_X11_leastOf hR (by omega) hq3) rfl ?_
    obtain rfl := Option.some.inj h
    exact aq_ireturn (am_dg dkX3_leastLiar (i := 27) rfl) rfl (Or.inl rfl) rfl
  · rw [if_neg hc1] at h
    refine aq_icF (t := 41) (am_dg dkX3_leastLiar (i := 6) rfl) rfl (decide_eq_false hc1) ?_
    refine aq_aload_n (am_dg dkX3_leastLiar (i := 7) rfl) rfl ?_
    refine aq_iload_n (am_dg dkX3_leastLiar (i := 8) rfl) rfl ?_
    obtain ⟨q4, hq5, h⟩ := am_bnd h
    refine aq_virt (a := [.ref 50, .int x2]) (S1 := []) (v1 := .int q4.1) (S2 := [.int q4.1]) (am_dg dkX3_leastLiar (i := 9) rfl) cv_3_173_3 (am_cls_c sh_50 (by decide)) rfl rfl rfl (Nat.le_of_ble_eq_true rfl) (Nat.le_of_ble_eq_true rfl) (T_X3_brokenBy_50 hR (by omega) hq5) rfl ?_
    refine aq_istore_n (L1 := [.ref 50, .int x1, .int x2, .int q4.1]) (am_dg dkX3_leastLiar (i := 10) rfl) rfl ?_
    refine aq_iload_n (am_dg dkX3_leastLiar (i := 11) rfl) rfl ?_
    by_cases hc6 : q4.1 = (0 : Int32)
    · rw [if_pos hc6] at h
      refine aq_ifF (t := 23) (am_dg dkX3_leastLiar (i := 12) rfl) rfl (decide_eq_false (not_not_intro hc6)) ?_
      refine aq_bipush (v := (-3 : Int32)) (am_dg dkX3_leastLiar (i := 13) rfl) (by decide) ?_
      obtain rfl := Option.some.inj h
      exact aq_ireturn (am_dg dkX3_leastLiar (i := 14) rfl) rfl (Or.inl rfl) rfl
    · rw [if_neg hc6] at h
      refine aq_ifT (t := 23) (am_dg dkX3_leastLiar (i := 12) rfl) rfl (decide_eq_true hc6) ?_
      refine aq_iload_n (am_dg dkX3_leastLiar (i := 15) rfl) rfl ?_
      obtain ⟨q7, hq8, h⟩ := am_bnd h
      refine aq_static (a := [.int q4.1]) (S1 := []) (v1 := .int q7.1) (S2 := [.int q7.1]) (am_dg dkX3_leastLiar (i := 16) rfl) ct_3_176 rfl rfl rfl (Nat.le_of_ble_eq_true rfl) (Nat.le_of_ble_eq_true rfl) (T_J6_bitCount_0f7a4 hR (by omega) hq8) rfl ?_
      refine aq_iconst (v := (1 : Int32)) (am_dg dkX3_leastLiar (i := 17) rfl) (by decide) ?_
      by_cases hc9 : q7.1 = (1 : Int32)
      · rw [if_pos hc9] at h
        refine aq_icF (t := 35) (am_dg dkX3_leastLiar (i := 18) rfl) rfl (decide_eq_false (not_not_intro hc9)) ?_
        refine aq_iload_n (am_dg dkX3_leastLiar (i := 19) rfl) rfl ?_
        refine aq_iload_n (am_dg dkX3_leastLiar (i := 20) rfl) rfl ?_
        refine aq_ior (am_dg dkX3_leastLiar (i := 21) rfl) ?_
        refine aq_istore_n (L1 := [.ref 50, .int (x1 ||| q4.1), .int x2, .int q4.1]) (am_dg dkX3_leastLiar (i := 22) rfl) rfl ?_
        exact T_X3_leastLiar_50_b35 hR (by omega) ih _ _ _ _ _ h
      · rw [if_neg hc9] at h
        refine aq_icT (t := 35) (am_dg dkX3_leastLiar (i := 18) rfl) rfl (decide_eq_true hc9) ?_
        exact T_X3_leastLiar_50_b35 hR (by omega) ih _ _ _ _ _ h
set_option maxRecDepth 20000 in
theorem T_X3_leastLiar_50 {sc : Option (Nat × (Nat → Int32))} {RF : Nat → Nat → Option Nat} {d : Nat} (hR : am_RFok RF) (hd : 4 ≤ d) {s : am_S} {r : Int32 × am_S} (h : F_X3_leastLiar_50 s = some r) : am_Q sc d mX3_leastLiar (0, am_L0 mX3_leastLiar [.ref 50], [], am_hp RF s) (.int r.1, am_hp RF r.2) := by
  obtain ⟨e, rfl⟩ : ∃ e, d = e + 1 := ⟨d - 1, by omega⟩
  unfold F_X3_leastLiar_50 at h
  show am_Q _ _ _ (0, [.ref 50, .null, .null, .null], [], _) _
  refine aq_iconst (v := (0 : Int32)) (am_dg dkX3_leastLiar (i := 0) rfl) (by decide) ?_
  refine aq_istore_n (L1 := [.ref 50, .int (0 : Int32), .null, .null]) (am_dg dkX3_leastLiar (i := 1) rfl) rfl ?_
  refine aq_iconst (v := (0 : Int32)) (am_dg dkX3_leastLiar (i := 2) rfl) (by decide) ?_
  refine aq_istore_n (L1 := [.ref 50, .int (0 : Int32), .int (0 : Int32), .null]) (am_dg dkX3_leastLiar (i := 3) rfl) rfl ?_
  exact T_X3_leastLiar_50_b4 hR (by omega) _ _ _ _ _ _ h
set_option maxRecDepth 20000 in
theorem T_X11_liar_0 {sc : Option (Nat × (Nat → Int32))} {RF : Nat → Nat → Option Nat} {d : Nat} (hR : am_RFok RF) (hd : 5 ≤ d) {s : am_S} {r : Int32 × am_S} (h : F_X11_liar_0 s = some r) : am_Q sc d mX11_liar (0, am_L0 mX11_liar [.ref 0], [], am_hp RF s) (.int r.1, am_hp RF r.2) := by
  obtain ⟨e, rfl⟩ : ∃ e, d = e + 1 := ⟨d - 1, by omega⟩
  unfold F_X11_liar_0 at h
  show am_Q _ _ _ (0, [.ref 0], [], _) _
  refine aq_aload_n (am_dg dkX11_liar (i := 0) rfl) rfl ?_
  refine aq_getR (am_dg dkX11_liar (i := 1) rfl) gk_11_55_0 (rf_0_4 hR) ?_
  obtain ⟨q1, hq2, h⟩ := am_bnd h
  refine aq_virt (a := [.ref 50]) (S1 := []) (v1 := .int q1.1) (S2 := [.int q1.1]) (am_dg dkX11_liar (i := 2) rfl) cv_11_301_3 (am_cls_c sh_50 (by decide)) rfl rfl rfl (Nat.le_of_ble_eq_true rfl) (Nat.le_of_ble_eq_true rfl) (T_X3_leastLiar_50 hR (by omega) hq2) rfl ?_
  obtain rfl := Option.some.inj h
  exact aq_ireturn (am_dg dkX11_liar (i := 3) rfl) rfl (Or.inl rfl) rfl
set_option maxRecDepth 20000 in
theorem T_X12_liar_82_b20 {sc : Option (Nat × (Nat → Int32))} {RF : Nat → Nat → Option Nat} {d : Nat} (hR : am_RFok RF) (hd : 5 ≤ d) : ∀ (n : Nat) (x1 : Int32) (x2 : Int32) (s : am_S) (r : Int32 × am_S), F_X12_liar_82_b20 n x1 x2 s = some r → am_Q sc d mX12_liar (20, [.ref 82, .int x1, .int x2], [], am_hp RF s) (.int r.1, am_hp RF r.2) := by
  obtain ⟨e, rfl⟩ : ∃ e, d = e + 1 := ⟨d - 1, by omega⟩
  intro n
  induction n with
  | zero => intro x1 x2 s r h; rw [F_X12_liar_82_b20] at h; cases h
  | succ n ih =>
  intro x1 x2 s r h
  rw [F_X12_liar_82_b20] at h
  refine aq_iload_n (am_dg dkX12_liar (i := 12) rfl) rfl ?_
  refine aq_aload_n (am_dg dkX12_liar (i := 13) rfl) rfl ?_
  refine aq_getR (am_dg dkX12_liar (i := 14) rfl) gk_12_7_82 (rf_82_0 hR) ?_
  refine aq_bipush (v := (6 : Int32)) (am_dg dkX12_liar (i := 15) rfl) (by decide) ?_
  obtain ⟨hg1, h⟩ := am_guard h
  refine aq_iald (am_dg dkX12_liar (i := 16) rfl) sh_83 hg1 ?_
  by_cases hc2 : (s.1 83 (6 : Int32).toNatClampNeg) ≤ x2
  · rw [if_pos hc2] at h
    refine aq_icT (t := 55) (am_dg dkX12_liar (i := 17) rfl) rfl (decide_eq_true hc2) ?_
    refine aq_bipush (v := (-3 : Int32)) (am_dg dkX12_liar (i := 30) rfl) (by decide) ?_
    obtain rfl := Option.some.inj h
    exact aq_ireturn (am_dg dkX12_liar (i := 31) rfl) rfl (Or.inl rfl) rfl
  · rw [if_neg hc2] at h
    refine aq_icF (t := 55) (am_dg dkX12_liar (i := 17) rfl) rfl (decide_eq_false hc2) ?_
    refine aq_iload_n (am_dg dkX12_liar (i := 18) rfl) rfl ?_
    by_cases hc3 : x1 = (0 : Int32)
    · rw [if_pos hc3] at h
      refine aq_ifT (t := 55) (am_dg dkX12_liar (i := 19) rfl) rfl (decide_eq_true hc3) ?_
      refine aq_bipush (v := (-3 : Int32)) (am_dg dkX12_liar (i := 30) rfl) (by decide) ?_
      obtain rfl := Option.some.inj h
      exact aq_ireturn (am_dg dkX12_liar (i := 31) rfl) rfl (Or.inl rfl) rfl
    · rw [if_neg hc3] at h
      refine aq_ifF (t := 55) (am_dg dkX12_liar (i := 19) rfl) rfl (decide_eq_false hc3) ?_
      refine aq_aload_n (am_dg dkX12_liar (i := 20) rfl) rfl ?_
      refine aq_iload_n (am_dg dkX12_liar (i := 21) rfl) rfl ?_
      obtain ⟨q4, hq5, h⟩ := am_bnd h
      refine aq_virt (a := [.ref 82, .int x2]) (S1 := []) (v1 := .null) (S2 := []) (am_dg dkX12_liar (i := 22) rfl) cv_12_261_12 (am_cls_c sh_82 (by decide)) rfl rfl rfl (Nat.le_of_ble_eq_true rfl) (Nat.le_of_ble_eq_true rfl) (T_X12_findFits_82 hR (by omega) hq5) rfl ?_
      refine aq_aload_n (am_dg dkX12_liar (i := 23) rfl) rfl ?_
      refine aq_getI (am_dg dkX12_liar (i := 24) rfl) gk_12_249_82 (by decide) ?_
      by_cases hc6 : (q4.1 82 16) ≤ (0 : Int32)
      · rw [if_pos hc6] at h
        refine aq_ifT (t := 49) (am_dg dkX12_liar (i := 25) rfl) rfl (decide_eq_true hc6) ?_
        refine aq_iinc (v := (1 : Int32)) (L1 := [.ref 82, .int x1, .int (x2 + (1 : Int32))]) (am_dg dkX12_liar (i := 28) rfl) rfl (by decide) rfl ?_
        refine aq_goto (t := 20) (am_dg dkX12_liar (i := 29) rfl) rfl ?_
        exact ih _ _ _ _ h
      · rw [if_neg hc6] at h
        refine aq_ifF (t := 49) (am_dg dkX12_liar (i := 25) rfl) rfl (decide_eq_false hc6) ?_
        refine aq_iload_n (am_dg dkX12_liar (i := 26) rfl) rfl ?_
        obtain rfl := Option.some.inj h
        exact aq_ireturn (am_dg dkX12_liar (i := 27) rfl) rfl (Or.inl rfl) rfl
set_option maxRecDepth 20000 in
theorem T_X12_liar_82_b17 {sc : Option (Nat × (Nat → Int32))} {RF : Nat → Nat → Option Nat} {d : Nat} (hR : am_RFok RF) (hd : 5 ≤ d) : ∀ (y0 : Int32) (w1 : Value) (w2 : Value) (s : am_S) (r : Int32 × am_S), F_X12_liar_82_b17 y0 s = some r → am_Q sc d mX12_liar (17, [.ref 82, w1, w2], [.int y0], am_hp RF s) (.int r.1, am_hp RF r.2) := by
  obtain ⟨e, rfl⟩ : ∃ e, d = e + 1 := ⟨d - 1, by omega⟩
  intro y0 w1 w2 s r h
  unfold F_X12_liar_82_b17 at h
  refine aq_istore_n (L1 := [.ref 82, .int y0, w2]) (am_dg dkX12_liar (i := 9) rfl) rfl ?_
  refine aq_iconst (v := (0 : Int32)) (am_dg dkX12_liar (i := 10) rfl) (by decide) ?_
  refine aq_istore_n (L1 := [.ref 82, .int y0, .int (0 : Int32)]) (am_dg dkX12_liar (i := 11) rfl) rfl ?_
  exact T_X12_liar_82_b20 hR (by omega) _ _ _ _ _ h
set_option maxRecDepth 20000 in
theorem T_X12_liar_82 {sc : Option (Nat × (Nat → Int32))} {RF : Nat → Nat → Option Nat} {d : Nat} (hR : am_RFok RF) (hd : 5 ≤ d) {s : am_S} {r : Int32 × am_S} (h : F_X12_liar_82 s = some r) : am_Q sc d mX12_liar (0, am_L0 mX12_liar [.ref 82], [], am_hp RF s) (.int r.1, am_hp RF r.2) := by
  obtain ⟨e, rfl⟩ : ∃ e, d = e + 1 := ⟨d - 1, by omega⟩
  unfold F_X12_liar_82 at h
  show am_Q _ _ _ (0, [.ref 82, .null, .null], [], _) _
  refine aq_aload_n (am_dg dkX12_liar (i := 0) rfl) rfl ?_
  refine aq_iconst (v := (-1 : Int32)) (am_dg dkX12_liar (i := 1) rfl) (by decide) ?_
  obtain ⟨q1, hq2, h⟩ := am_bnd h
  refine aq_virt (a := [.ref 82, .int (-1 : Int32)]) (S1 := []) (v1 := .null) (S2 := []) (am_dg dkX12_liar (i := 2) rfl) cv_12_261_12 (am_cls_c sh_82 (by decide)) rfl rfl rfl (Nat.le_of_ble_eq_true rfl) (Nat.le_of_ble_eq_true rfl) (T_X12_findFits_82 hR (by omega) hq2) rfl ?_
  refine aq_aload_n (am_dg dkX12_liar (i := 3) rfl) rfl ?_
  refine aq_getI (am_dg dkX12_liar (i := 4) rfl) gk_12_249_82 (by decide) ?_
  by_cases hc3 : (q1.1 82 16) = (0 : Int32)
  · rw [if_pos hc3] at h
    refine aq_ifF (t := 16) (am_dg dkX12_liar (i := 5) rfl) rfl (decide_eq_false (not_not_intro hc3)) ?_
    refine aq_iconst (v := (1 : Int32)) (am_dg dkX12_liar (i := 6) rfl) (by decide) ?_
    refine aq_goto (t := 17) (am_dg dkX12_liar (i := 7) rfl) rfl ?_
    exact T_X12_liar_82_b17 hR (by omega) _ _ _ _ _ h
  · rw [if_neg hc3] at h
    refine aq_ifT (t := 16) (am_dg dkX12_liar (i := 5) rfl) rfl (decide_eq_true hc3) ?_
    refine aq_iconst (v := (0 : Int32)) (am_dg dkX12_liar (i := 8) rfl) (by decide) ?_
    exact T_X12_liar_82_b17 hR (by omega) _ _ _ _ _ h
set_option maxRecDepth 20000 in
theorem T_X11_seed_0 {sc : Option (Nat × (Nat → Int32))} {RF : Nat → Nat → Option Nat} {d : Nat} (hR : am_RFok RF) (hd : 0 ≤ d) {a1 : Int32} {s : am_S} {r : Int32 × am_S} (h : F_X11_seed_0 a1 s = some r) : am_Q sc d mX11_seed (0, am_L0 mX11_seed [.ref 0, .int a1], [], am_hp RF s) (.int r.1, am_hp RF r.2) := by
  unfold F_X11_seed_0 at h
  show am_Q _ _ _ (0, [.ref 0, .int a1, .null], [], _) _
  refine aq_aload_n (am_dg dkX11_seed (i := 0) rfl) rfl ?_
  refine aq_getR (am_dg dkX11_seed (i := 1) rfl) gk_11_30_0 (rf_0_0 hR) ?_
  refine aq_getI (am_dg dkX11_seed (i := 2) rfl) gk_11_304_8 (by decide) ?_
  refine aq_istore_n (L1 := [.ref 0, .int a1, .int (s.1 8 4)]) (am_dg dkX11_seed (i := 3) rfl) rfl ?_
  refine aq_aload_n (am_dg dkX11_seed (i := 4) rfl) rfl ?_
  refine aq_getR (am_dg dkX11_seed (i := 5) rfl) gk_11_30_0 (rf_0_0 hR) ?_
  refine aq_iload_n (am_dg dkX11_seed (i := 6) rfl) rfl ?_
  refine aq_putI (am_dg dkX11_seed (i := 7) rfl) gk_11_304_8 ?_
  obtain ⟨s1, hs2, h⟩ := am_bnd h
  rw [Option.some.inj hs2]
  refine aq_iload_n (am_dg dkX11_seed (i := 8) rfl) rfl ?_
  obtain rfl := Option.some.inj h
  exact aq_ireturn (am_dg dkX11_seed (i := 9) rfl) rfl (Or.inl rfl) rfl
set_option maxRecDepth 20000 in
theorem T_X12_seed_82 {sc : Option (Nat × (Nat → Int32))} {RF : Nat → Nat → Option Nat} {d : Nat} (hR : am_RFok RF) (hd : 1 ≤ d) {a1 : Int32} {s : am_S} {r : Int32 × am_S} (h : F_X12_seed_82 a1 s = some r) : am_Q sc d mX12_seed (0, am_L0 mX12_seed [.ref 82, .int a1], [], am_hp RF s) (.int r.1, am_hp RF r.2) := by
  obtain ⟨e, rfl⟩ : ∃ e, d = e + 1 := ⟨d - 1, by omega⟩
  unfold F_X12_seed_82 at h
  show am_Q _ _ _ (0, [.ref 82, .int a1], [], _) _
  refine aq_aload_n (am_dg dkX12_seed (i := 0) rfl) rfl ?_
  refine aq_bipush (v := (7 : Int32)) (am_dg dkX12_seed (i := 1) rfl) (by decide) ?_
  refine aq_iload_n (am_dg dkX12_seed (i := 2) rfl) rfl ?_
  obtain ⟨q1, hq2, h⟩ := am_bnd h
  refine aq_virt (a := [.ref 82, .int (7 : Int32), .int a1]) (S1 := []) (v1 := .int q1.1) (S2 := [.int q1.1]) (am_dg dkX12_seed (i := 3) rfl) cv_12_108_12 (am_cls_c sh_82 (by decide)) rfl rfl rfl (Nat.le_of_ble_eq_true rfl) (Nat.le_of_ble_eq_true rfl) (T_X12_becomes_82 hR (by omega) hq2) rfl ?_
  obtain rfl := Option.some.inj h
  exact aq_ireturn (am_dg dkX12_seed (i := 4) rfl) rfl (Or.inl rfl) rfl
set_option maxRecDepth 20000 in
theorem T_X8_drawLot_8 {sc : Option (Nat × (Nat → Int32))} {RF : Nat → Nat → Option Nat} {d : Nat} (hR : am_RFok RF) (hd : 0 ≤ d) {s : am_S} {r : Int32 × am_S} (h : F_X8_drawLot_8 s = some r) : am_Q sc d mX8_drawLot (0, am_L0 mX8_drawLot [.ref 8], [], am_hp RF s) (.int r.1, am_hp RF r.2) := by
  unfold F_X8_drawLot_8 at h
  show am_Q _ _ _ (0, [.ref 8, .null], [], _) _
  refine aq_aload_n (am_dg dkX8_drawLot (i := 0) rfl) rfl ?_
  refine aq_aload_n (am_dg dkX8_drawLot (i := 1) rfl) rfl ?_
  refine aq_getI (am_dg dkX8_drawLot (i := 2) rfl) gk_8_57_8 (by decide) ?_
  refine aq_ldc (am_dg dkX8_drawLot (i := 3) rfl) ci_8_123 ?_
  refine aq_imul (am_dg dkX8_drawLot (i := 4) rfl) ?_
  refine aq_sipush (v := (12345 : Int32)) (am_dg dkX8_drawLot (i := 5) rfl) (by decide) ?_
  refine aq_iadd (am_dg dkX8_drawLot (i := 6) rfl) ?_
  refine aq_putI (am_dg dkX8_drawLot (i := 7) rfl) gk_8_57_8 ?_
  obtain ⟨s1, hs2, h⟩ := am_bnd h
  rw [Option.some.inj hs2]
  refine aq_aload_n (am_dg dkX8_drawLot (i := 8) rfl) rfl ?_
  refine aq_getI (am_dg dkX8_drawLot (i := 9) rfl) gk_8_72_8 (by decide) ?_
  refine aq_iconst (v := (1 : Int32)) (am_dg dkX8_drawLot (i := 10) rfl) (by decide) ?_
  refine aq_iadd (am_dg dkX8_drawLot (i := 11) rfl) ?_
  refine aq_istore_n (L1 := [.ref 8, .int ((s1.1 8 5) + (1 : Int32))]) (am_dg dkX8_drawLot (i := 12) rfl) rfl ?_
  refine aq_iload_n (am_dg dkX8_drawLot (i := 13) rfl) rfl ?_
  by_cases hc3 : ((s1.1 8 5) + (1 : Int32)) ≤ (0 : Int32)
  · rw [if_pos hc3] at h
    refine aq_ifT (t := 38) (am_dg dkX8_drawLot (i := 14) rfl) rfl (decide_eq_true hc3) ?_
    refine aq_iconst (v := (0 : Int32)) (am_dg dkX8_drawLot (i := 22) rfl) (by decide) ?_
    obtain rfl := Option.some.inj h
    exact aq_ireturn (am_dg dkX8_drawLot (i := 23) rfl) rfl (Or.inl rfl) rfl
  · rw [if_neg hc3] at h
    refine aq_ifF (t := 38) (am_dg dkX8_drawLot (i := 14) rfl) rfl (decide_eq_false hc3) ?_
    refine aq_aload_n (am_dg dkX8_drawLot (i := 15) rfl) rfl ?_
    refine aq_getI (am_dg dkX8_drawLot (i := 16) rfl) gk_8_57_8 (by decide) ?_
    refine aq_bipush (v := (16 : Int32)) (am_dg dkX8_drawLot (i := 17) rfl) (by decide) ?_
    refine aq_iushrN (am_dg dkX8_drawLot (i := 18) rfl) ?_
    refine aq_iload_n (am_dg dkX8_drawLot (i := 19) rfl) rfl ?_
    obtain ⟨hg4, h⟩ := am_guard h
    refine aq_iremN (am_dg dkX8_drawLot (i := 20) rfl) hg4 ?_
    refine aq_goto (t := 39) (am_dg dkX8_drawLot (i := 21) rfl) rfl ?_
    obtain rfl := Option.some.inj h
    exact aq_ireturn (am_dg dkX8_drawLot (i := 23) rfl) rfl (Or.inl rfl) rfl
set_option maxRecDepth 20000 in
theorem T_X11_lot_0 {sc : Option (Nat × (Nat → Int32))} {RF : Nat → Nat → Option Nat} {d : Nat} (hR : am_RFok RF) (hd : 5 ≤ d) {s : am_S} {r : Int32 × am_S} (h : F_X11_lot_0 s = some r) : am_Q sc d mX11_lot (0, am_L0 mX11_lot [.ref 0], [], am_hp RF s) (.int r.1, am_hp RF r.2) := by
  obtain ⟨e, rfl⟩ : ∃ e, d = e + 1 := ⟨d - 1, by omega⟩
  unfold F_X11_lot_0 at h
  show am_Q _ _ _ (0, [.ref 0], [], _) _
  refine aq_aload_n (am_dg dkX11_lot (i := 0) rfl) rfl ?_
  refine aq_getR (am_dg dkX11_lot (i := 1) rfl) gk_11_30_0 (rf_0_0 hR) ?_
  obtain ⟨q1, hq2, h⟩ := am_bnd h
  refine aq_virt (a := [.ref 8]) (S1 := []) (v1 := .int q1.1) (S2 := [.int q1.1]) (am_dg dkX11_lot (i := 2) rfl) cv_11_189_8 (am_cls_c sh_8 (by decide)) rfl rfl rfl (Nat.le_of_ble_eq_true rfl) (Nat.le_of_ble_eq_true rfl) (T_X8_isOver_8 hR (by omega) hq2) rfl ?_
  by_cases hc3 : q1.1 = (0 : Int32)
  · rw [if_pos hc3] at h
    refine aq_ifT (t := 15) (am_dg dkX11_lot (i := 3) rfl) rfl (decide_eq_true hc3) ?_
    refine aq_aload_n (am_dg dkX11_lot (i := 6) rfl) rfl ?_
    refine aq_getR (am_dg dkX11_lot (i := 7) rfl) gk_11_30_0 (rf_0_0 hR) ?_
    refine aq_aload_n (am_dg dkX11_lot (i := 8) rfl) rfl ?_
    refine aq_getR (am_dg dkX11_lot (i := 9) rfl) gk_11_30_0 (rf_0_0 hR) ?_
    obtain ⟨q4, hq5, h⟩ := am_bnd h
    refine aq_virt (a := [.ref 8]) (S1 := [.ref 8]) (v1 := .int q4.1) (S2 := [.int q4.1, .ref 8]) (am_dg dkX11_lot (i := 10) rfl) cv_11_307_8 (am_cls_c sh_8 (by decide)) rfl rfl rfl (Nat.le_of_ble_eq_true rfl) (Nat.le_of_ble_eq_true rfl) (T_X8_drawLot_8 hR (by omega) hq5) rfl ?_
    obtain ⟨q6, hq7, h⟩ := am_bnd h
    refine aq_virt (a := [.ref 8, .int q4.1]) (S1 := []) (v1 := .int q6.1) (S2 := [.int q6.1]) (am_dg dkX11_lot (i := 11) rfl) cv_11_212_8 (am_cls_c sh_8 (by decide)) rfl rfl rfl (Nat.le_of_ble_eq_true rfl) (Nat.le_of_ble_eq_true rfl) (T_X8_goBy_8 hR (by omega) hq7) rfl ?_
    obtain rfl := Option.some.inj h
    exact aq_ireturn (am_dg dkX11_lot (i := 12) rfl) rfl (Or.inl rfl) rfl
  · rw [if_neg hc3] at h
    refine aq_ifF (t := 15) (am_dg dkX11_lot (i := 3) rfl) rfl (decide_eq_false hc3) ?_
    refine aq_bipush (v := (-4 : Int32)) (am_dg dkX11_lot (i := 4) rfl) (by decide) ?_
    refine aq_goto (t := 29) (am_dg dkX11_lot (i := 5) rfl) rfl ?_
    obtain rfl := Option.some.inj h
    exact aq_ireturn (am_dg dkX11_lot (i := 12) rfl) rfl (Or.inl rfl) rfl
set_option maxRecDepth 20000 in
theorem T_X12_byLot_82 {sc : Option (Nat × (Nat → Int32))} {RF : Nat → Nat → Option Nat} {d : Nat} (hR : am_RFok RF) (hd : 7 ≤ d) {s : am_S} {r : Int32 × am_S} (h : F_X12_byLot_82 s = some r) : am_Q sc d mX12_byLot (0, am_L0 mX12_byLot [.ref 82], [], am_hp RF s) (.int r.1, am_hp RF r.2) := by
  obtain ⟨e, rfl⟩ : ∃ e, d = e + 1 := ⟨d - 1, by omega⟩
  unfold F_X12_byLot_82 at h
  show am_Q _ _ _ (0, [.ref 82], [], _) _
  refine aq_aload_n (am_dg dkX12_byLot (i := 0) rfl) rfl ?_
  refine aq_getR (am_dg dkX12_byLot (i := 1) rfl) gk_12_7_82 (rf_82_0 hR) ?_
  refine aq_bipush (v := (7 : Int32)) (am_dg dkX12_byLot (i := 2) rfl) (by decide) ?_
  refine aq_aload_n (am_dg dkX12_byLot (i := 3) rfl) rfl ?_
  refine aq_getR (am_dg dkX12_byLot (i := 4) rfl) gk_12_7_82 (rf_82_0 hR) ?_
  refine aq_bipush (v := (7 : Int32)) (am_dg dkX12_byLot (i := 5) rfl) (by decide) ?_
  obtain ⟨hg1, h⟩ := am_guard h
  refine aq_iald (am_dg dkX12_byLot (i := 6) rfl) sh_83 hg1 ?_
  refine aq_ldc_w (am_dg dkX12_byLot (i := 7) rfl) ci_12_264 ?_
  refine aq_imul (am_dg dkX12_byLot (i := 8) rfl) ?_
  refine aq_sipush (v := (12345 : Int32)) (am_dg dkX12_byLot (i := 9) rfl) (by decide) ?_
  refine aq_iadd (am_dg dkX12_byLot (i := 10) rfl) ?_
  obtain ⟨hg2, h⟩ := am_guard h
  refine aq_iast (am_dg dkX12_byLot (i := 11) rfl) sh_83 hg2 ?_
  obtain ⟨s3, hs4, h⟩ := am_bnd h
  rw [Option.some.inj hs4]
  refine aq_aload_n (am_dg dkX12_byLot (i := 12) rfl) rfl ?_
  refine aq_aload_n (am_dg dkX12_byLot (i := 13) rfl) rfl ?_
  refine aq_getR (am_dg dkX12_byLot (i := 14) rfl) gk_12_7_82 (rf_82_0 hR) ?_
  refine aq_bipush (v := (7 : Int32)) (am_dg dkX12_byLot (i := 15) rfl) (by decide) ?_
  obtain ⟨hg5, h⟩ := am_guard h
  refine aq_iald (am_dg dkX12_byLot (i := 16) rfl) sh_83 hg5 ?_
  refine aq_bipush (v := (16 : Int32)) (am_dg dkX12_byLot (i := 17) rfl) (by decide) ?_
  refine aq_iushrN (am_dg dkX12_byLot (i := 18) rfl) ?_
  refine aq_aload_n (am_dg dkX12_byLot (i := 19) rfl) rfl ?_
  refine aq_getR (am_dg dkX12_byLot (i := 20) rfl) gk_12_7_82 (rf_82_0 hR) ?_
  refine aq_iconst (v := (0 : Int32)) (am_dg dkX12_byLot (i := 21) rfl) (by decide) ?_
  obtain ⟨hg6, h⟩ := am_guard h
  refine aq_iald (am_dg dkX12_byLot (i := 22) rfl) sh_83 hg6 ?_
  refine aq_iconst (v := (1 : Int32)) (am_dg dkX12_byLot (i := 23) rfl) (by decide) ?_
  refine aq_iadd (am_dg dkX12_byLot (i := 24) rfl) ?_
  obtain ⟨hg7, h⟩ := am_guard h
  refine aq_iremN (am_dg dkX12_byLot (i := 25) rfl) hg7 ?_
  obtain ⟨q8, hq9, h⟩ := am_bnd h
  refine aq_virt (a := [.ref 82, .int (am_rem (am_ushr (s3.1 83 (7 : Int32).toNatClampNeg) (16 : Int32)) ((s3.1 83 (0 : Int32).toNatClampNeg) + (1 : Int32)))]) (S1 := []) (v1 := .int q8.1) (S2 := [.int q8.1]) (am_dg dkX12_byLot (i := 26) rfl) cv_12_159_12 (am_cls_c sh_82 (by decide)) rfl rfl rfl (Nat.le_of_ble_eq_true rfl) (Nat.le_of_ble_eq_true rfl) (T_X12_goes_82 hR (by omega) hq9) rfl ?_
  obtain rfl := Option.some.inj h
  exact aq_ireturn (am_dg dkX12_byLot (i := 27) rfl) rfl (Or.inl rfl) rfl
set_option maxRecDepth 20000 in
theorem T_X12_lot_82 {sc : Option (Nat × (Nat → Int32))} {RF : Nat → Nat → Option Nat} {d : Nat} (hR : am_RFok RF) (hd : 8 ≤ d) {s : am_S} {r : Int32 × am_S} (h : F_X12_lot_82 s = some r) : am_Q sc d mX12_lot (0, am_L0 mX12_lot [.ref 82], [], am_hp RF s) (.int r.1, am_hp RF r.2) := by
  obtain ⟨e, rfl⟩ : ∃ e, d = e + 1 := ⟨d - 1, by omega⟩
  unfold F_X12_lot_82 at h
  show am_Q _ _ _ (0, [.ref 82], [], _) _
  refine aq_aload_n (am_dg dkX12_lot (i := 0) rfl) rfl ?_
  obtain ⟨q1, hq2, h⟩ := am_bnd h
  refine aq_virt (a := [.ref 82]) (S1 := []) (v1 := .int q1.1) (S2 := [.int q1.1]) (am_dg dkX12_lot (i := 1) rfl) cv_12_118_12 (am_cls_c sh_82 (by decide)) rfl rfl rfl (Nat.le_of_ble_eq_true rfl) (Nat.le_of_ble_eq_true rfl) (T_X12_isOver_82 hR (by omega) hq2) rfl ?_
  by_cases hc3 : q1.1 = (0 : Int32)
  · rw [if_pos hc3] at h
    refine aq_ifT (t := 12) (am_dg dkX12_lot (i := 2) rfl) rfl (decide_eq_true hc3) ?_
    refine aq_aload_n (am_dg dkX12_lot (i := 5) rfl) rfl ?_
    obtain ⟨q4, hq5, h⟩ := am_bnd h
    refine aq_virt (a := [.ref 82]) (S1 := []) (v1 := .int q4.1) (S2 := [.int q4.1]) (am_dg dkX12_lot (i := 6) rfl) cv_12_265_12 (am_cls_c sh_82 (by decide)) rfl rfl rfl (Nat.le_of_ble_eq_true rfl) (Nat.le_of_ble_eq_true rfl) (T_X12_byLot_82 hR (by omega) hq5) rfl ?_
    obtain rfl := Option.some.inj h
    exact aq_ireturn (am_dg dkX12_lot (i := 7) rfl) rfl (Or.inl rfl) rfl
  · rw [if_neg hc3] at h
    refine aq_ifF (t := 12) (am_dg dkX12_lot (i := 2) rfl) rfl (decide_eq_false hc3) ?_
    refine aq_bipush (v := (-4 : Int32)) (am_dg dkX12_lot (i := 3) rfl) (by decide) ?_
    refine aq_goto (t := 16) (am_dg dkX12_lot (i := 4) rfl) rfl ?_
    obtain rfl := Option.some.inj h
    exact aq_ireturn (am_dg dkX12_lot (i := 7) rfl) rfl (Or.inl rfl) rfl
set_option maxRecDepth 20000 in
theorem T_X3_worthByLot_50_b4 {sc : Option (Nat × (Nat → Int32))} {RF : Nat → Nat → Option Nat} {d : Nat} (hR : am_RFok RF) (hd : 5 ≤ d) : ∀ (n : Nat) (x1 : Int32) (x2 : Int32) (s : am_S) (r : Int32 × am_S), F_X3_worthByLot_50_b4 n x1 x2 s = some r → am_Q sc d mX3_worthByLot (4, [.ref 50, .int x1, .int x2], [], am_hp RF s) (.int r.1, am_hp RF r.2) := by
  obtain ⟨e, rfl⟩ : ∃ e, d = e + 1 := ⟨d - 1, by omega⟩
  intro n
  induction n with
  | zero => intro x1 x2 s r h; rw [F_X3_worthByLot_50_b4] at h; cases h
  | succ n ih =>
  intro x1 x2 s r h
  rw [F_X3_worthByLot_50_b4] at h
  refine aq_iload_n (am_dg dkX3_worthByLot (i := 4) rfl) rfl ?_
  refine aq_bipush (v := (16 : Int32)) (am_dg dkX3_worthByLot (i := 5) rfl) (by decide) ?_
  by_cases hc1 : (16 : Int32) ≤ x2
  · rw [if_pos hc1] at h
    refine aq_icT (t := 43) (am_dg dkX3_worthByLot (i := 6) rfl) rfl (decide_eq_true hc1) ?_
    refine aq_iload_n (am_dg dkX3_worthByLot (i := 22) rfl) rfl ?_
    obtain rfl := Option.some.inj h
    exact aq_ireturn (am_dg dkX3_worthByLot (i := 23) rfl) rfl (Or.inl rfl) rfl
  · rw [if_neg hc1] at h
    refine aq_icF (t := 43) (am_dg dkX3_worthByLot (i := 6) rfl) rfl (decide_eq_false hc1) ?_
    refine aq_aload_n (am_dg dkX3_worthByLot (i := 7) rfl) rfl ?_
    refine aq_getR (am_dg dkX3_worthByLot (i := 8) rfl) gk_3_37_50 (rf_50_0 hR) ?_
    obtain ⟨q2, hq3, h⟩ := am_bnd h
    refine aq_virt (a := [.ref 8]) (S1 := []) (v1 := .int q2.1) (S2 := [.int q2.1]) (am_dg dkX3_worthByLot (i := 9) rfl) cv_3_51_8 (am_cls_c sh_8 (by decide)) rfl rfl rfl (Nat.le_of_ble_eq_true rfl) (Nat.le_of_ble_eq_true rfl) (T_X8_isOver_8 hR (by omega) hq3) rfl ?_
    by_cases hc4 : q2.1 = (0 : Int32)
    · rw [if_pos hc4] at h
      refine aq_ifF (t := 43) (am_dg dkX3_worthByLot (i := 10) rfl) rfl (decide_eq_false (not_not_intro hc4)) ?_
      refine aq_iload_n (am_dg dkX3_worthByLot (i := 11) rfl) rfl ?_
      refine aq_aload_n (am_dg dkX3_worthByLot (i := 12) rfl) rfl ?_
      refine aq_getR (am_dg dkX3_worthByLot (i := 13) rfl) gk_3_37_50 (rf_50_0 hR) ?_
      refine aq_aload_n (am_dg dkX3_worthByLot (i := 14) rfl) rfl ?_
      refine aq_getR (am_dg dkX3_worthByLot (i := 15) rfl) gk_3_37_50 (rf_50_0 hR) ?_
      obtain ⟨q5, hq6, h⟩ := am_bnd h
      refine aq_virt (a := [.ref 8]) (S1 := [.ref 8, .int x1]) (v1 := .int q5.1) (S2 := [.int q5.1, .ref 8, .int x1]) (am_dg dkX3_worthByLot (i := 16) rfl) cv_3_227_8 (am_cls_c sh_8 (by decide)) rfl rfl rfl (Nat.le_of_ble_eq_true rfl) (Nat.le_of_ble_eq_true rfl) (T_X8_drawLot_8 hR (by omega) hq6) rfl ?_
      obtain ⟨q7, hq8, h⟩ := am_bnd h
      refine aq_virt (a := [.ref 8, .int q5.1]) (S1 := [.int x1]) (v1 := .int q7.1) (S2 := [.int q7.1, .int x1]) (am_dg dkX3_worthByLot (i := 17) rfl) cv_3_59_8 (am_cls_c sh_8 (by decide)) rfl rfl rfl (Nat.le_of_ble_eq_true rfl) (Nat.le_of_ble_eq_true rfl) (T_X8_goBy_8 hR (by omega) hq8) rfl ?_
      refine aq_iadd (am_dg dkX3_worthByLot (i := 18) rfl) ?_
      refine aq_istore_n (L1 := [.ref 50, .int (x1 + q7.1), .int x2]) (am_dg dkX3_worthByLot (i := 19) rfl) rfl ?_
      refine aq_iinc (v := (1 : Int32)) (L1 := [.ref 50, .int (x1 + q7.1), .int (x2 + (1 : Int32))]) (am_dg dkX3_worthByLot (i := 20) rfl) rfl (by decide) rfl ?_
      refine aq_goto (t := 4) (am_dg dkX3_worthByLot (i := 21) rfl) rfl ?_
      exact ih _ _ _ _ h
    · rw [if_neg hc4] at h
      refine aq_ifT (t := 43) (am_dg dkX3_worthByLot (i := 10) rfl) rfl (decide_eq_true hc4) ?_
      refine aq_iload_n (am_dg dkX3_worthByLot (i := 22) rfl) rfl ?_
      obtain rfl := Option.some.inj h
      exact aq_ireturn (am_dg dkX3_worthByLot (i := 23) rfl) rfl (Or.inl rfl) rfl
set_option maxRecDepth 20000 in
theorem T_X3_worthByLot_50 {sc : Option (Nat × (Nat → Int32))} {RF : Nat → Nat → Option Nat} {d : Nat} (hR : am_RFok RF) (hd : 5 ≤ d) {s : am_S} {r : Int32 × am_S} (h : F_X3_worthByLot_50 s = some r) : am_Q sc d mX3_worthByLot (0, am_L0 mX3_worthByLot [.ref 50], [], am_hp RF s) (.int r.1, am_hp RF r.2) := by
  obtain ⟨e, rfl⟩ : ∃ e, d = e + 1 := ⟨d - 1, by omega⟩
  unfold F_X3_worthByLot_50 at h
  show am_Q _ _ _ (0, [.ref 50, .null, .null], [], _) _
  refine aq_iconst (v := (0 : Int32)) (am_dg dkX3_worthByLot (i := 0) rfl) (by decide) ?_
  refine aq_istore_n (L1 := [.ref 50, .int (0 : Int32), .null]) (am_dg dkX3_worthByLot (i := 1) rfl) rfl ?_
  refine aq_iconst (v := (0 : Int32)) (am_dg dkX3_worthByLot (i := 2) rfl) (by decide) ?_
  refine aq_istore_n (L1 := [.ref 50, .int (0 : Int32), .int (0 : Int32)]) (am_dg dkX3_worthByLot (i := 3) rfl) rfl ?_
  exact T_X3_worthByLot_50_b4 hR (by omega) _ _ _ _ _ h
set_option maxRecDepth 20000 in
theorem T_X3_timesWorth_50_b35 {sc : Option (Nat × (Nat → Int32))} {RF : Nat → Nat → Option Nat} {d : Nat} (hR : am_RFok RF) (hd : 6 ≤ d) {k18 : Int32 → Int32 → Int32 → Int32 → Int32 → am_S → Option (Int32 × am_S)} (hk18 : ∀ (x1 : Int32) (x2 : Int32) (x3 : Int32) (x4 : Int32) (x5 : Int32) (s2 : am_S) (r2 : Int32 × am_S), k18 x1 x2 x3 x4 x5 s2 = some r2 → am_Q sc d mX3_timesWorth (18, [.ref 50, .int x1, .int x2, .int x3, .int x4, .int x5], [], am_hp RF s2) (.int r2.1, am_hp RF r2.2)) : ∀ (x1 : Int32) (x2 : Int32) (x3 : Int32) (x4 : Int32) (x5 : Int32) (s : am_S) (r : Int32 × am_S), F_X3_timesWorth_50_b35 k18 x1 x2 x3 x4 x5 s = some r → am_Q sc d mX3_timesWorth (35, [.ref 50, .int x1, .int x2, .int x3, .int x4, .int x5], [], am_hp RF s) (.int r.1, am_hp RF r.2) := by
  obtain ⟨e, rfl⟩ : ∃ e, d = e + 1 := ⟨d - 1, by omega⟩
  intro x1 x2 x3 x4 x5 s r h
  unfold F_X3_timesWorth_50_b35 at h
  refine aq_aload_n (am_dg dkX3_timesWorth (i := 18) rfl) rfl ?_
  obtain ⟨q1, hq2, h⟩ := am_bnd h
  refine aq_virt (a := [.ref 50]) (S1 := []) (v1 := .null) (S2 := []) (am_dg dkX3_timesWorth (i := 19) rfl) cv_3_63_3 (am_cls_c sh_50 (by decide)) rfl rfl rfl (Nat.le_of_ble_eq_true rfl) (Nat.le_of_ble_eq_true rfl) (T_X3_goBack_50 hR (by omega) hq2) rfl ?_
  refine aq_iinc (v := (1 : Int32)) (L1 := [.ref 50, .int x1, .int x2, .int x3, .int x4, .int (x5 + (1 : Int32))]) (am_dg dkX3_timesWorth (i := 20) rfl) rfl (by decide) rfl ?_
  refine aq_goto (t := 18) (am_dg dkX3_timesWorth (i := 21) rfl) rfl ?_
  exact hk18 _ _ _ _ _ _ _ h
set_option maxRecDepth 20000 in
theorem T_X3_timesWorth_50_b18 {sc : Option (Nat × (Nat → Int32))} {RF : Nat → Nat → Option Nat} {d : Nat} (hR : am_RFok RF) (hd : 6 ≤ d) : ∀ (n : Nat) (x1 : Int32) (x2 : Int32) (x3 : Int32) (x4 : Int32) (x5 : Int32) (s : am_S) (r : Int32 × am_S), F_X3_timesWorth_50_b18 n x1 x2 x3 x4 x5 s = some r → am_Q sc d mX3_timesWorth (18, [.ref 50, .int x1, .int x2, .int x3, .int x4, .int x5], [], am_hp RF s) (.int r.1, am_hp RF r.2) := by
  obtain ⟨e, rfl⟩ : ∃ e, d = e + 1 := ⟨d - 1, by omega⟩
  intro n
  induction n with
  | zero => intro x1 x2 x3 x4 x5 s r h; rw [F_X3_timesWorth_50_b18] at h; cases h
  | succ n ih =>
  intro x1 x2 x3 x4 x5 s r h
  rw [F_X3_timesWorth_50_b18] at h
  refine aq_iload (am_dg dkX3_timesWorth (i := 10) rfl) rfl ?_
  refine aq_iload_n (am_dg dkX3_timesWorth (i := 11) rfl) rfl ?_
  by_cases hc1 : x1 ≤ x5
  · rw [if_pos hc1] at h
    refine aq_icT (t := 45) (am_dg dkX3_timesWorth (i := 12) rfl) rfl (decide_eq_true hc1) ?_
    refine aq_aload_n (am_dg dkX3_timesWorth (i := 22) rfl) rfl ?_
    refine aq_getR (am_dg dkX3_timesWorth (i := 23) rfl) gk_3_37_50 (rf_50_0 hR) ?_
    refine aq_iload_n (am_dg dkX3_timesWorth (i := 24) rfl) rfl ?_
    refine aq_putI (am_dg dkX3_timesWorth (i := 25) rfl) gk_3_221_8 ?_
    obtain ⟨s2, hs3, h⟩ := am_bnd h
    rw [Option.some.inj hs3]
    refine aq_iload (am_dg dkX3_timesWorth (i := 26) rfl) rfl ?_
    obtain rfl := Option.some.inj h
    exact aq_ireturn (am_dg dkX3_timesWorth (i := 27) rfl) rfl (Or.inl rfl) rfl
  · rw [if_neg hc1] at h
    refine aq_icF (t := 45) (am_dg dkX3_timesWorth (i := 12) rfl) rfl (decide_eq_false hc1) ?_
    refine aq_aload_n (am_dg dkX3_timesWorth (i := 13) rfl) rfl ?_
    obtain ⟨q4, hq5, h⟩ := am_bnd h
    refine aq_virt (a := [.ref 50]) (S1 := []) (v1 := .int q4.1) (S2 := [.int q4.1]) (am_dg dkX3_timesWorth (i := 14) rfl) cv_3_224_3 (am_cls_c sh_50 (by decide)) rfl rfl rfl (Nat.le_of_ble_eq_true rfl) (Nat.le_of_ble_eq_true rfl) (T_X3_worthByLot_50 hR (by omega) hq5) rfl ?_
    refine aq_iload_n (am_dg dkX3_timesWorth (i := 15) rfl) rfl ?_
    by_cases hc6 : q4.1 < x2
    · rw [if_pos hc6] at h
      refine aq_icT (t := 35) (am_dg dkX3_timesWorth (i := 16) rfl) rfl (decide_eq_true hc6) ?_
      exact T_X3_timesWorth_50_b35 hR (by omega) ih _ _ _ _ _ _ _ h
    · rw [if_neg hc6] at h
      refine aq_icF (t := 35) (am_dg dkX3_timesWorth (i := 16) rfl) rfl (decide_eq_false hc6) ?_
      refine aq_iinc (v := (1 : Int32)) (L1 := [.ref 50, .int x1, .int x2, .int x3, .int (x4 + (1 : Int32)), .int x5]) (am_dg dkX3_timesWorth (i := 17) rfl) rfl (by decide) rfl ?_
      exact T_X3_timesWorth_50_b35 hR (by omega) ih _ _ _ _ _ _ _ h
set_option maxRecDepth 20000 in
theorem T_X3_timesWorth_50 {sc : Option (Nat × (Nat → Int32))} {RF : Nat → Nat → Option Nat} {d : Nat} (hR : am_RFok RF) (hd : 6 ≤ d) {a1 : Int32} {a2 : Int32} {s : am_S} {r : Int32 × am_S} (h : F_X3_timesWorth_50 a1 a2 s = some r) : am_Q sc d mX3_timesWorth (0, am_L0 mX3_timesWorth [.ref 50, .int a1, .int a2], [], am_hp RF s) (.int r.1, am_hp RF r.2) := by
  obtain ⟨e, rfl⟩ : ∃ e, d = e + 1 := ⟨d - 1, by omega⟩
  unfold F_X3_timesWorth_50 at h
  show am_Q _ _ _ (0, [.ref 50, .int a1, .int a2, .null, .null, .null], [], _) _
  refine aq_aload_n (am_dg dkX3_timesWorth (i := 0) rfl) rfl ?_
  refine aq_getR (am_dg dkX3_timesWorth (i := 1) rfl) gk_3_37_50 (rf_50_0 hR) ?_
  refine aq_getI (am_dg dkX3_timesWorth (i := 2) rfl) gk_3_221_8 (by decide) ?_
  refine aq_istore_n (L1 := [.ref 50, .int a1, .int a2, .int (s.1 8 4), .null, .null]) (am_dg dkX3_timesWorth (i := 3) rfl) rfl ?_
  refine aq_aload_n (am_dg dkX3_timesWorth (i := 4) rfl) rfl ?_
  obtain ⟨q1, hq2, h⟩ := am_bnd h
  refine aq_virt (a := [.ref 50]) (S1 := []) (v1 := .null) (S2 := []) (am_dg dkX3_timesWorth (i := 5) rfl) cv_3_48_3 (am_cls_c sh_50 (by decide)) rfl rfl rfl (Nat.le_of_ble_eq_true rfl) (Nat.le_of_ble_eq_true rfl) (T_X3_remember_50 hR (by omega) hq2) rfl ?_
  refine aq_iconst (v := (0 : Int32)) (am_dg dkX3_timesWorth (i := 6) rfl) (by decide) ?_
  refine aq_istore (L1 := [.ref 50, .int a1, .int a2, .int (s.1 8 4), .int (0 : Int32), .null]) (am_dg dkX3_timesWorth (i := 7) rfl) rfl ?_
  refine aq_iconst (v := (0 : Int32)) (am_dg dkX3_timesWorth (i := 8) rfl) (by decide) ?_
  refine aq_istore (L1 := [.ref 50, .int a1, .int a2, .int (s.1 8 4), .int (0 : Int32), .int (0 : Int32)]) (am_dg dkX3_timesWorth (i := 9) rfl) rfl ?_
  exact T_X3_timesWorth_50_b18 hR (by omega) _ _ _ _ _ _ _ _ h
set_option maxRecDepth 20000 in
theorem T_X11_times_0 {sc : Option (Nat × (Nat → Int32))} {RF : Nat → Nat → Option Nat} {d : Nat} (hR : am_RFok RF) (hd : 7 ≤ d) {a1 : Int32} {a2 : Int32} {s : am_S} {r : Int32 × am_S} (h : F_X11_times_0 a1 a2 s = some r) : am_Q sc d mX11_times (0, am_L0 mX11_times [.ref 0, .int a1, .int a2], [], am_hp RF s) (.int r.1, am_hp RF r.2) := by
  obtain ⟨e, rfl⟩ : ∃ e, d = e + 1 := ⟨d - 1, by omega⟩
  unfold F_X11_times_0 at h
  show am_Q _ _ _ (0, [.ref 0, .int a1, .int a2], [], _) _
  refine aq_iload_n (am_dg dkX11_times (i := 0) rfl) rfl ?_
  refine aq_iconst (v := (1 : Int32)) (am_dg dkX11_times (i := 1) rfl) (by decide) ?_
  refine aq_bipush (v := (40 : Int32)) (am_dg dkX11_times (i := 2) rfl) (by decide) ?_
  obtain ⟨q1, hq2, h⟩ := am_bnd h
  refine aq_static (a := [.int a1, .int (1 : Int32), .int (40 : Int32)]) (S1 := []) (v1 := .int q1.1) (S2 := [.int q1.1]) (am_dg dkX11_times (i := 3) rfl) ct_11_149 rfl rfl rfl (Nat.le_of_ble_eq_true rfl) (Nat.le_of_ble_eq_true rfl) (T_X11_isWithin hR (by omega) hq2) rfl ?_
  by_cases hc3 : q1.1 = (0 : Int32)
  · rw [if_pos hc3] at h
    refine aq_ifT (t := 33) (am_dg dkX11_times (i := 4) rfl) rfl (decide_eq_true hc3) ?_
    refine aq_iconst (v := (-1 : Int32)) (am_dg dkX11_times (i := 16) rfl) (by decide) ?_
    obtain rfl := Option.some.inj h
    exact aq_ireturn (am_dg dkX11_times (i := 17) rfl) rfl (Or.inl rfl) rfl
  · rw [if_neg hc3] at h
    refine aq_ifF (t := 33) (am_dg dkX11_times (i := 4) rfl) rfl (decide_eq_false hc3) ?_
    refine aq_iload_n (am_dg dkX11_times (i := 5) rfl) rfl ?_
    refine aq_iconst (v := (0 : Int32)) (am_dg dkX11_times (i := 6) rfl) (by decide) ?_
    refine aq_sipush (v := (999 : Int32)) (am_dg dkX11_times (i := 7) rfl) (by decide) ?_
    obtain ⟨q4, hq5, h⟩ := am_bnd h
    refine aq_static (a := [.int a2, .int (0 : Int32), .int (999 : Int32)]) (S1 := []) (v1 := .int q4.1) (S2 := [.int q4.1]) (am_dg dkX11_times (i := 8) rfl) ct_11_149 rfl rfl rfl (Nat.le_of_ble_eq_true rfl) (Nat.le_of_ble_eq_true rfl) (T_X11_isWithin hR (by omega) hq5) rfl ?_
    by_cases hc6 : q4.1 = (0 : Int32)
    · rw [if_pos hc6] at h
      refine aq_ifT (t := 33) (am_dg dkX11_times (i := 9) rfl) rfl (decide_eq_true hc6) ?_
      refine aq_iconst (v := (-1 : Int32)) (am_dg dkX11_times (i := 16) rfl) (by decide) ?_
      obtain rfl := Option.some.inj h
      exact aq_ireturn (am_dg dkX11_times (i := 17) rfl) rfl (Or.inl rfl) rfl
    · rw [if_neg hc6] at h
      refine aq_ifF (t := 33) (am_dg dkX11_times (i := 9) rfl) rfl (decide_eq_false hc6) ?_
      refine aq_aload_n (am_dg dkX11_times (i := 10) rfl) rfl ?_
      refine aq_getR (am_dg dkX11_times (i := 11) rfl) gk_11_55_0 (rf_0_4 hR) ?_
      refine aq_iload_n (am_dg dkX11_times (i := 12) rfl) rfl ?_
      refine aq_iload_n (am_dg dkX11_times (i := 13) rfl) rfl ?_
      obtain ⟨q7, hq8, h⟩ := am_bnd h
      refine aq_virt (a := [.ref 50, .int a1, .int a2]) (S1 := []) (v1 := .int q7.1) (S2 := [.int q7.1]) (am_dg dkX11_times (i := 14) rfl) cv_11_310_3 (am_cls_c sh_50 (by decide)) rfl rfl rfl (Nat.le_of_ble_eq_true rfl) (Nat.le_of_ble_eq_true rfl) (T_X3_timesWorth_50 hR (by omega) hq8) rfl ?_
      refine aq_goto (t := 34) (am_dg dkX11_times (i := 15) rfl) rfl ?_
      obtain rfl := Option.some.inj h
      exact aq_ireturn (am_dg dkX11_times (i := 17) rfl) rfl (Or.inl rfl) rfl
set_option maxRecDepth 20000 in
theorem T_X12_times_82_b75 {sc : Option (Nat × (Nat → Int32))} {RF : Nat → Nat → Option Nat} {d : Nat} (hR : am_RFok RF) (hd : 8 ≤ d) {k35 : Int32 → Int32 → Int32 → Int32 → am_S → Option (Int32 × am_S)} (hk35 : ∀ (x1 : Int32) (x2 : Int32) (x3 : Int32) (x4 : Int32) (w5 : Value) (w6 : Value) (s2 : am_S) (r2 : Int32 × am_S), k35 x1 x2 x3 x4 s2 = some r2 → am_Q sc d mX12_times (35, [.ref 82, .int x1, .int x2, .int x3, .int x4, w5, w6], [], am_hp RF s2) (.int r2.1, am_hp RF r2.2)) : ∀ (x1 : Int32) (x2 : Int32) (x4 : Int32) (x5 : Int32) (y0 : Int32) (y1 : Int32) (w3 : Value) (w6 : Value) (s : am_S) (r : Int32 × am_S), F_X12_times_82_b75 k35 x1 x2 x4 x5 y0 y1 s = some r → am_Q sc d mX12_times (75, [.ref 82, .int x1, .int x2, w3, .int x4, .int x5, w6], [.int y0, .int y1], am_hp RF s) (.int r.1, am_hp RF r.2) := by
  obtain ⟨e, rfl⟩ : ∃ e, d = e + 1 := ⟨d - 1, by omega⟩
  intro x1 x2 x4 x5 y0 y1 w3 w6 s r h
  unfold F_X12_times_82_b75 at h
  refine aq_iadd (am_dg dkX12_times (i := 41) rfl) ?_
  refine aq_istore_n (L1 := [.ref 82, .int x1, .int x2, .int (y1 + y0), .int x4, .int x5, w6]) (am_dg dkX12_times (i := 42) rfl) rfl ?_
  refine aq_aload_n (am_dg dkX12_times (i := 43) rfl) rfl ?_
  refine aq_getR (am_dg dkX12_times (i := 44) rfl) gk_12_7_82 (rf_82_0 hR) ?_
  refine aq_bipush (v := (7 : Int32)) (am_dg dkX12_times (i := 45) rfl) (by decide) ?_
  obtain ⟨hg1, h⟩ := am_guard h
  refine aq_iald (am_dg dkX12_times (i := 46) rfl) sh_83 hg1 ?_
  refine aq_istore (L1 := [.ref 82, .int x1, .int x2, .int (y1 + y0), .int x4, .int x5, .int (s.1 83 (7 : Int32).toNatClampNeg)]) (am_dg dkX12_times (i := 47) rfl) rfl ?_
  refine aq_aload_n (am_dg dkX12_times (i := 48) rfl) rfl ?_
  obtain ⟨q2, hq3, h⟩ := am_bnd h
  refine aq_virt (a := [.ref 82]) (S1 := []) (v1 := .null) (S2 := []) (am_dg dkX12_times (i := 49) rfl) cv_12_168_12 (am_cls_c sh_82 (by decide)) rfl rfl rfl (Nat.le_of_ble_eq_true rfl) (Nat.le_of_ble_eq_true rfl) (T_X12_putsBack_82 hR (by omega) hq3) rfl ?_
  refine aq_aload_n (am_dg dkX12_times (i := 50) rfl) rfl ?_
  refine aq_getR (am_dg dkX12_times (i := 51) rfl) gk_12_7_82 (rf_82_0 hR) ?_
  refine aq_bipush (v := (7 : Int32)) (am_dg dkX12_times (i := 52) rfl) (by decide) ?_
  refine aq_iload (am_dg dkX12_times (i := 53) rfl) rfl ?_
  obtain ⟨hg4, h⟩ := am_guard h
  refine aq_iast (am_dg dkX12_times (i := 54) rfl) sh_83 hg4 ?_
  obtain ⟨s5, hs6, h⟩ := am_bnd h
  rw [Option.some.inj hs6]
  refine aq_iinc (v := (1 : Int32)) (L1 := [.ref 82, .int x1, .int x2, .int (y1 + y0), .int (x4 + (1 : Int32)), .int x5, .int (s.1 83 (7 : Int32).toNatClampNeg)]) (am_dg dkX12_times (i := 55) rfl) rfl (by decide) rfl ?_
  refine aq_goto (t := 35) (am_dg dkX12_times (i := 56) rfl) rfl ?_
  exact hk35 _ _ _ _ _ _ _ _ h
set_option maxRecDepth 20000 in
theorem T_X12_times_82_b44 {sc : Option (Nat × (Nat → Int32))} {RF : Nat → Nat → Option Nat} {d : Nat} (hR : am_RFok RF) (hd : 8 ≤ d) {k35 : Int32 → Int32 → Int32 → Int32 → am_S → Option (Int32 × am_S)} (hk35 : ∀ (x1 : Int32) (x2 : Int32) (x3 : Int32) (x4 : Int32) (w5 : Value) (w6 : Value) (s2 : am_S) (r2 : Int32 × am_S), k35 x1 x2 x3 x4 s2 = some r2 → am_Q sc d mX12_times (35, [.ref 82, .int x1, .int x2, .int x3, .int x4, w5, w6], [], am_hp RF s2) (.int r2.1, am_hp RF r2.2)) : ∀ (n : Nat) (x1 : Int32) (x2 : Int32) (x3 : Int32) (x4 : Int32) (x5 : Int32) (w6 : Value) (s : am_S) (r : Int32 × am_S), F_X12_times_82_b44 k35 n x1 x2 x3 x4 x5 s = some r → am_Q sc d mX12_times (44, [.ref 82, .int x1, .int x2, .int x3, .int x4, .int x5, w6], [], am_hp RF s) (.int r.1, am_hp RF r.2) := by
  obtain ⟨e, rfl⟩ : ∃ e, d = e + 1 := ⟨d - 1, by omega⟩
  intro n
  induction n with
  | zero => intro x1 x2 x3 x4 x5 w6 s r h; rw [F_X12_times_82_b44] at h; cases h
  | succ n ih =>
  intro x1 x2 x3 x4 x5 w6 s r h
  rw [F_X12_times_82_b44] at h
  refine aq_aload_n (am_dg dkX12_times (i := 25) rfl) rfl ?_
  obtain ⟨q1, hq2, h⟩ := am_bnd h
  refine aq_virt (a := [.ref 82]) (S1 := []) (v1 := .int q1.1) (S2 := [.int q1.1]) (am_dg dkX12_times (i := 26) rfl) cv_12_118_12 (am_cls_c sh_82 (by decide)) rfl rfl rfl (Nat.le_of_ble_eq_true rfl) (Nat.le_of_ble_eq_true rfl) (T_X12_isOver_82 hR (by omega) hq2) rfl ?_
  by_cases hc3 : q1.1 = (0 : Int32)
  · rw [if_pos hc3] at h
    refine aq_ifF (t := 63) (am_dg dkX12_times (i := 27) rfl) rfl (decide_eq_false (not_not_intro hc3)) ?_
    refine aq_iload (am_dg dkX12_times (i := 28) rfl) rfl ?_
    refine aq_aload_n (am_dg dkX12_times (i := 29) rfl) rfl ?_
    obtain ⟨q4, hq5, h⟩ := am_bnd h
    refine aq_virt (a := [.ref 82]) (S1 := [.int x5]) (v1 := .int q4.1) (S2 := [.int q4.1, .int x5]) (am_dg dkX12_times (i := 30) rfl) cv_12_265_12 (am_cls_c sh_82 (by decide)) rfl rfl rfl (Nat.le_of_ble_eq_true rfl) (Nat.le_of_ble_eq_true rfl) (T_X12_byLot_82 hR (by omega) hq5) rfl ?_
    refine aq_iadd (am_dg dkX12_times (i := 31) rfl) ?_
    refine aq_istore (L1 := [.ref 82, .int x1, .int x2, .int x3, .int x4, .int (x5 + q4.1), w6]) (am_dg dkX12_times (i := 32) rfl) rfl ?_
    refine aq_goto (t := 44) (am_dg dkX12_times (i := 33) rfl) rfl ?_
    exact ih _ _ _ _ _ _ _ _ h
  · rw [if_neg hc3] at h
    refine aq_ifT (t := 63) (am_dg dkX12_times (i := 27) rfl) rfl (decide_eq_true hc3) ?_
    refine aq_iload_n (am_dg dkX12_times (i := 34) rfl) rfl ?_
    refine aq_iload (am_dg dkX12_times (i := 35) rfl) rfl ?_
    refine aq_iload_n (am_dg dkX12_times (i := 36) rfl) rfl ?_
    by_cases hc6 : x5 < x2
    · rw [if_pos hc6] at h
      refine aq_icT (t := 74) (am_dg dkX12_times (i := 37) rfl) rfl (decide_eq_true hc6) ?_
      refine aq_iconst (v := (0 : Int32)) (am_dg dkX12_times (i := 40) rfl) (by decide) ?_
      exact T_X12_times_82_b75 hR (by omega) hk35 _ _ _ _ _ _ _ _ _ _ h
    · rw [if_neg hc6] at h
      refine aq_icF (t := 74) (am_dg dkX12_times (i := 37) rfl) rfl (decide_eq_false hc6) ?_
      refine aq_iconst (v := (1 : Int32)) (am_dg dkX12_times (i := 38) rfl) (by decide) ?_
      refine aq_goto (t := 75) (am_dg dkX12_times (i := 39) rfl) rfl ?_
      exact T_X12_times_82_b75 hR (by omega) hk35 _ _ _ _ _ _ _ _ _ _ h
set_option maxRecDepth 20000 in
theorem T_X12_times_82_b35 {sc : Option (Nat × (Nat → Int32))} {RF : Nat → Nat → Option Nat} {d : Nat} (hR : am_RFok RF) (hd : 8 ≤ d) : ∀ (n : Nat) (x1 : Int32) (x2 : Int32) (x3 : Int32) (x4 : Int32) (w5 : Value) (w6 : Value) (s : am_S) (r : Int32 × am_S), F_X12_times_82_b35 n x1 x2 x3 x4 s = some r → am_Q sc d mX12_times (35, [.ref 82, .int x1, .int x2, .int x3, .int x4, w5, w6], [], am_hp RF s) (.int r.1, am_hp RF r.2) := by
  obtain ⟨e, rfl⟩ : ∃ e, d = e + 1 := ⟨d - 1, by omega⟩
  intro n
  induction n with
  | zero => intro x1 x2 x3 x4 w5 w6 s r h; rw [F_X12_times_82_b35] at h; cases h
  | succ n ih =>
  intro x1 x2 x3 x4 w5 w6 s r h
  rw [F_X12_times_82_b35] at h
  refine aq_iload (am_dg dkX12_times (i := 20) rfl) rfl ?_
  refine aq_iload_n (am_dg dkX12_times (i := 21) rfl) rfl ?_
  by_cases hc1 : x1 ≤ x4
  · rw [if_pos hc1] at h
    refine aq_icT (t := 105) (am_dg dkX12_times (i := 22) rfl) rfl (decide_eq_true hc1) ?_
    refine aq_aload_n (am_dg dkX12_times (i := 57) rfl) rfl ?_
    obtain ⟨q2, hq3, h⟩ := am_bnd h
    refine aq_virt (a := [.ref 82]) (S1 := []) (v1 := .null) (S2 := []) (am_dg dkX12_times (i := 58) rfl) cv_12_168_12 (am_cls_c sh_82 (by decide)) rfl rfl rfl (Nat.le_of_ble_eq_true rfl) (Nat.le_of_ble_eq_true rfl) (T_X12_putsBack_82 hR (by omega) hq3) rfl ?_
    refine aq_iload_n (am_dg dkX12_times (i := 59) rfl) rfl ?_
    obtain rfl := Option.some.inj h
    exact aq_ireturn (am_dg dkX12_times (i := 60) rfl) rfl (Or.inl rfl) rfl
  · rw [if_neg hc1] at h
    refine aq_icF (t := 105) (am_dg dkX12_times (i := 22) rfl) rfl (decide_eq_false hc1) ?_
    refine aq_iconst (v := (0 : Int32)) (am_dg dkX12_times (i := 23) rfl) (by decide) ?_
    refine aq_istore (L1 := [.ref 82, .int x1, .int x2, .int x3, .int x4, .int (0 : Int32), w6]) (am_dg dkX12_times (i := 24) rfl) rfl ?_
    exact T_X12_times_82_b44 hR (by omega) ih _ _ _ _ _ _ _ _ _ h
set_option maxRecDepth 20000 in
theorem T_X12_times_82 {sc : Option (Nat × (Nat → Int32))} {RF : Nat → Nat → Option Nat} {d : Nat} (hR : am_RFok RF) (hd : 8 ≤ d) {a1 : Int32} {a2 : Int32} {s : am_S} {r : Int32 × am_S} (h : F_X12_times_82 a1 a2 s = some r) : am_Q sc d mX12_times (0, am_L0 mX12_times [.ref 82, .int a1, .int a2], [], am_hp RF s) (.int r.1, am_hp RF r.2) := by
  obtain ⟨e, rfl⟩ : ∃ e, d = e + 1 := ⟨d - 1, by omega⟩
  unfold F_X12_times_82 at h
  show am_Q _ _ _ (0, [.ref 82, .int a1, .int a2, .null, .null, .null, .null], [], _) _
  refine aq_iload_n (am_dg dkX12_times (i := 0) rfl) rfl ?_
  refine aq_i2l (am_dg dkX12_times (i := 1) rfl) ?_
  refine aq_lconst (v := (1 : Int64)) (am_dg dkX12_times (i := 2) rfl) (by decide) ?_
  refine aq_ldc2 (am_dg dkX12_times (i := 3) rfl) cl_12_268 ?_
  obtain ⟨q1, hq2, h⟩ := am_bnd h
  refine aq_static (a := [.long a1.toInt64, .long (1 : Int64), .long (40 : Int64)]) (S1 := []) (v1 := .int q1.1) (S2 := [.int q1.1]) (am_dg dkX12_times (i := 4) rfl) ct_12_61 rfl rfl rfl (Nat.le_of_ble_eq_true rfl) (Nat.le_of_ble_eq_true rfl) (T_X12_in hR (by omega) hq2) rfl ?_
  by_cases hc3 : q1.1 = (0 : Int32)
  · rw [if_pos hc3] at h
    refine aq_ifT (t := 24) (am_dg dkX12_times (i := 5) rfl) rfl (decide_eq_true hc3) ?_
    refine aq_iconst (v := (-1 : Int32)) (am_dg dkX12_times (i := 12) rfl) (by decide) ?_
    obtain rfl := Option.some.inj h
    exact aq_ireturn (am_dg dkX12_times (i := 13) rfl) rfl (Or.inl rfl) rfl
  · rw [if_neg hc3] at h
    refine aq_ifF (t := 24) (am_dg dkX12_times (i := 5) rfl) rfl (decide_eq_false hc3) ?_
    refine aq_iload_n (am_dg dkX12_times (i := 6) rfl) rfl ?_
    refine aq_i2l (am_dg dkX12_times (i := 7) rfl) ?_
    refine aq_lconst (v := (0 : Int64)) (am_dg dkX12_times (i := 8) rfl) (by decide) ?_
    refine aq_ldc2 (am_dg dkX12_times (i := 9) rfl) cl_12_270 ?_
    obtain ⟨q4, hq5, h⟩ := am_bnd h
    refine aq_static (a := [.long a2.toInt64, .long (0 : Int64), .long (999 : Int64)]) (S1 := []) (v1 := .int q4.1) (S2 := [.int q4.1]) (am_dg dkX12_times (i := 10) rfl) ct_12_61 rfl rfl rfl (Nat.le_of_ble_eq_true rfl) (Nat.le_of_ble_eq_true rfl) (T_X12_in hR (by omega) hq5) rfl ?_
    by_cases hc6 : q4.1 = (0 : Int32)
    · rw [if_pos hc6] at h
      refine aq_ifF (t := 26) (am_dg dkX12_times (i := 11) rfl) rfl (decide_eq_false (not_not_intro hc6)) ?_
      refine aq_iconst (v := (-1 : Int32)) (am_dg dkX12_times (i := 12) rfl) (by decide) ?_
      obtain rfl := Option.some.inj h
      exact aq_ireturn (am_dg dkX12_times (i := 13) rfl) rfl (Or.inl rfl) rfl
    · rw [if_neg hc6] at h
      refine aq_ifT (t := 26) (am_dg dkX12_times (i := 11) rfl) rfl (decide_eq_true hc6) ?_
      refine aq_aload_n (am_dg dkX12_times (i := 14) rfl) rfl ?_
      obtain ⟨q7, hq8, h⟩ := am_bnd h
      refine aq_virt (a := [.ref 82]) (S1 := []) (v1 := .null) (S2 := []) (am_dg dkX12_times (i := 15) rfl) cv_12_162_12 (am_cls_c sh_82 (by decide)) rfl rfl rfl (Nat.le_of_ble_eq_true rfl) (Nat.le_of_ble_eq_true rfl) (T_X12_puts_82 hR (by omega) hq8) rfl ?_
      refine aq_iconst (v := (0 : Int32)) (am_dg dkX12_times (i := 16) rfl) (by decide) ?_
      refine aq_istore_n (L1 := [.ref 82, .int a1, .int a2, .int (0 : Int32), .null, .null, .null]) (am_dg dkX12_times (i := 17) rfl) rfl ?_
      refine aq_iconst (v := (0 : Int32)) (am_dg dkX12_times (i := 18) rfl) (by decide) ?_
      refine aq_istore (L1 := [.ref 82, .int a1, .int a2, .int (0 : Int32), .int (0 : Int32), .null, .null]) (am_dg dkX12_times (i := 19) rfl) rfl ?_
      exact T_X12_times_82_b35 hR (by omega) _ _ _ _ _ _ _ _ _ h
set_option maxRecDepth 20000 in
theorem T_X3_writeRows_50_b6 {sc : Option (Nat × (Nat → Int32))} {RF : Nat → Nat → Option Nat} {d : Nat} (hR : am_RFok RF) (hd : 5 ≤ d) : ∀ (n : Nat) (x1 : Int32) (s : am_S) (r : Int32 × am_S), F_X3_writeRows_50_b6 n x1 s = some r → am_Q sc d mX3_writeRows (6, [.ref 50, .int x1], [], am_hp RF s) (.int r.1, am_hp RF r.2) := by
  obtain ⟨e, rfl⟩ : ∃ e, d = e + 1 := ⟨d - 1, by omega⟩
  intro n
  induction n with
  | zero => intro x1 s r h; rw [F_X3_writeRows_50_b6] at h; cases h
  | succ n ih =>
  intro x1 s r h
  rw [F_X3_writeRows_50_b6] at h
  refine aq_iload_n (am_dg dkX3_writeRows (i := 4) rfl) rfl ?_
  refine aq_aload_n (am_dg dkX3_writeRows (i := 5) rfl) rfl ?_
  refine aq_getI (am_dg dkX3_writeRows (i := 6) rfl) gk_3_126_50 (by decide) ?_
  by_cases hc1 : (s.1 50 5) ≤ x1
  · rw [if_pos hc1] at h
    refine aq_icT (t := 70) (am_dg dkX3_writeRows (i := 7) rfl) rfl (decide_eq_true hc1) ?_
    refine aq_aload_n (am_dg dkX3_writeRows (i := 42) rfl) rfl ?_
    refine aq_aload_n (am_dg dkX3_writeRows (i := 43) rfl) rfl ?_
    refine aq_getI (am_dg dkX3_writeRows (i := 44) rfl) gk_3_126_50 (by decide) ?_
    refine aq_putI (am_dg dkX3_writeRows (i := 45) rfl) gk_3_230_50 ?_
    obtain ⟨s2, hs3, h⟩ := am_bnd h
    rw [Option.some.inj hs3]
    refine aq_aload_n (am_dg dkX3_writeRows (i := 46) rfl) rfl ?_
    obtain ⟨q4, hq5, h⟩ := am_bnd h
    refine aq_virt (a := [.ref 50]) (S1 := []) (v1 := .null) (S2 := []) (am_dg dkX3_writeRows (i := 47) rfl) cv_3_63_3 (am_cls_c sh_50 (by decide)) rfl rfl rfl (Nat.le_of_ble_eq_true rfl) (Nat.le_of_ble_eq_true rfl) (T_X3_goBack_50 hR (by omega) hq5) rfl ?_
    refine aq_aload_n (am_dg dkX3_writeRows (i := 48) rfl) rfl ?_
    refine aq_getI (am_dg dkX3_writeRows (i := 49) rfl) gk_3_230_50 (by decide) ?_
    obtain rfl := Option.some.inj h
    exact aq_ireturn (am_dg dkX3_writeRows (i := 50) rfl) rfl (Or.inl rfl) rfl
  · rw [if_neg hc1] at h
    refine aq_icF (t := 70) (am_dg dkX3_writeRows (i := 7) rfl) rfl (decide_eq_false hc1) ?_
    refine aq_aload_n (am_dg dkX3_writeRows (i := 8) rfl) rfl ?_
    refine aq_getR (am_dg dkX3_writeRows (i := 9) rfl) gk_3_34_50 (rf_50_15 hR) ?_
    refine aq_iload_n (am_dg dkX3_writeRows (i := 10) rfl) rfl ?_
    obtain ⟨hg6, h⟩ := am_guard h
    refine aq_aald (am_dg dkX3_writeRows (i := 11) rfl) sh_65 (by decide) hg6 (fm_65 hR _ (am_in_lt hg6)) ?_
    refine aq_iconst (v := (0 : Int32)) (am_dg dkX3_writeRows (i := 12) rfl) (by decide) ?_
    refine aq_aload_n (am_dg dkX3_writeRows (i := 13) rfl) rfl ?_
    refine aq_getR (am_dg dkX3_writeRows (i := 14) rfl) gk_3_28_50 (rf_50_7 hR) ?_
    refine aq_iload_n (am_dg dkX3_writeRows (i := 15) rfl) rfl ?_
    obtain ⟨hg7, h⟩ := am_guard h
    refine aq_iald (am_dg dkX3_writeRows (i := 16) rfl) sh_63 hg7 ?_
    obtain ⟨hg8, h⟩ := am_guard h
    refine aq_iast (am_dg dkX3_writeRows (i := 17) rfl) (fs_65 _ (am_in_lt hg6)) hg8 ?_
    obtain ⟨s9, hs10, h⟩ := am_bnd h
    rw [Option.some.inj hs10]
    refine aq_aload_n (am_dg dkX3_writeRows (i := 18) rfl) rfl ?_
    refine aq_getR (am_dg dkX3_writeRows (i := 19) rfl) gk_3_34_50 (rf_50_15 hR) ?_
    refine aq_iload_n (am_dg dkX3_writeRows (i := 20) rfl) rfl ?_
    obtain ⟨hg11, h⟩ := am_guard h
    refine aq_aald (am_dg dkX3_writeRows (i := 21) rfl) sh_65 (by decide) hg11 (fm_65 hR _ (am_in_lt hg11)) ?_
    refine aq_iconst (v := (1 : Int32)) (am_dg dkX3_writeRows (i := 22) rfl) (by decide) ?_
    refine aq_aload_n (am_dg dkX3_writeRows (i := 23) rfl) rfl ?_
    refine aq_getR (am_dg dkX3_writeRows (i := 24) rfl) gk_3_37_50 (rf_50_0 hR) ?_
    refine aq_aload_n (am_dg dkX3_writeRows (i := 25) rfl) rfl ?_
    refine aq_getR (am_dg dkX3_writeRows (i := 26) rfl) gk_3_28_50 (rf_50_7 hR) ?_
    refine aq_iload_n (am_dg dkX3_writeRows (i := 27) rfl) rfl ?_
    obtain ⟨hg12, h⟩ := am_guard h
    refine aq_iald (am_dg dkX3_writeRows (i := 28) rfl) sh_63 hg12 ?_
    obtain ⟨q13, hq14, h⟩ := am_bnd h
    refine aq_virt (a := [.ref 8, .int (s9.1 63 x1.toNatClampNeg)]) (S1 := [.int (1 : Int32), .ref (66 + x1.toNatClampNeg)]) (v1 := .int q13.1) (S2 := [.int q13.1, .int (1 : Int32), .ref (66 + x1.toNatClampNeg)]) (am_dg dkX3_writeRows (i := 29) rfl) cv_3_59_8 (am_cls_c sh_8 (by decide)) rfl rfl rfl (Nat.le_of_ble_eq_true rfl) (Nat.le_of_ble_eq_true rfl) (T_X8_goBy_8 hR (by omega) hq14) rfl ?_
    obtain ⟨hg15, h⟩ := am_guard h
    refine aq_iast (am_dg dkX3_writeRows (i := 30) rfl) (fs_65 _ (am_in_lt hg11)) hg15 ?_
    obtain ⟨s16, hs17, h⟩ := am_bnd h
    rw [Option.some.inj hs17]
    refine aq_aload_n (am_dg dkX3_writeRows (i := 31) rfl) rfl ?_
    refine aq_getR (am_dg dkX3_writeRows (i := 32) rfl) gk_3_34_50 (rf_50_15 hR) ?_
    refine aq_iload_n (am_dg dkX3_writeRows (i := 33) rfl) rfl ?_
    obtain ⟨hg18, h⟩ := am_guard h
    refine aq_aald (am_dg dkX3_writeRows (i := 34) rfl) sh_65 (by decide) hg18 (fm_65 hR _ (am_in_lt hg18)) ?_
    refine aq_iconst (v := (2 : Int32)) (am_dg dkX3_writeRows (i := 35) rfl) (by decide) ?_
    refine aq_aload_n (am_dg dkX3_writeRows (i := 36) rfl) rfl ?_
    refine aq_getR (am_dg dkX3_writeRows (i := 37) rfl) gk_3_37_50 (rf_50_0 hR) ?_
    refine aq_getI (am_dg dkX3_writeRows (i := 38) rfl) gk_3_164_8 (by decide) ?_
    obtain ⟨hg19, h⟩ := am_guard h
    refine aq_iast (am_dg dkX3_writeRows (i := 39) rfl) (fs_65 _ (am_in_lt hg18)) hg19 ?_
    obtain ⟨s20, hs21, h⟩ := am_bnd h
    rw [Option.some.inj hs21]
    refine aq_iinc (v := (1 : Int32)) (L1 := [.ref 50, .int (x1 + (1 : Int32))]) (am_dg dkX3_writeRows (i := 40) rfl) rfl (by decide) rfl ?_
    refine aq_goto (t := 6) (am_dg dkX3_writeRows (i := 41) rfl) rfl ?_
    exact ih _ _ _ h
set_option maxRecDepth 20000 in
theorem T_X3_writeRows_50 {sc : Option (Nat × (Nat → Int32))} {RF : Nat → Nat → Option Nat} {d : Nat} (hR : am_RFok RF) (hd : 5 ≤ d) {s : am_S} {r : Int32 × am_S} (h : F_X3_writeRows_50 s = some r) : am_Q sc d mX3_writeRows (0, am_L0 mX3_writeRows [.ref 50], [], am_hp RF s) (.int r.1, am_hp RF r.2) := by
  obtain ⟨e, rfl⟩ : ∃ e, d = e + 1 := ⟨d - 1, by omega⟩
  unfold F_X3_writeRows_50 at h
  show am_Q _ _ _ (0, [.ref 50, .null], [], _) _
  refine aq_aload_n (am_dg dkX3_writeRows (i := 0) rfl) rfl ?_
  obtain ⟨q1, hq2, h⟩ := am_bnd h
  refine aq_virt (a := [.ref 50]) (S1 := []) (v1 := .null) (S2 := []) (am_dg dkX3_writeRows (i := 1) rfl) cv_3_48_3 (am_cls_c sh_50 (by decide)) rfl rfl rfl (Nat.le_of_ble_eq_true rfl) (Nat.le_of_ble_eq_true rfl) (T_X3_remember_50 hR (by omega) hq2) rfl ?_
  refine aq_iconst (v := (0 : Int32)) (am_dg dkX3_writeRows (i := 2) rfl) (by decide) ?_
  refine aq_istore_n (L1 := [.ref 50, .int (0 : Int32)]) (am_dg dkX3_writeRows (i := 3) rfl) rfl ?_
  exact T_X3_writeRows_50_b6 hR (by omega) _ _ _ _ h
set_option maxRecDepth 20000 in
theorem T_X11_prove_0 {sc : Option (Nat × (Nat → Int32))} {RF : Nat → Nat → Option Nat} {d : Nat} (hR : am_RFok RF) (hd : 17 ≤ d) {a1 : Int32} {s : am_S} {r : Int32 × am_S} (h : F_X11_prove_0 a1 s = some r) : am_Q sc d mX11_prove (0, am_L0 mX11_prove [.ref 0, .int a1], [], am_hp RF s) (.int r.1, am_hp RF r.2) := by
  obtain ⟨e, rfl⟩ : ∃ e, d = e + 1 := ⟨d - 1, by omega⟩
  unfold F_X11_prove_0 at h
  show am_Q _ _ _ (0, [.ref 0, .int a1], [], _) _
  refine aq_iload_n (am_dg dkX11_prove (i := 0) rfl) rfl ?_
  obtain ⟨q1, hq2, h⟩ := am_bnd h
  refine aq_static (a := [.int a1]) (S1 := []) (v1 := .int q1.1) (S2 := [.int q1.1]) (am_dg dkX11_prove (i := 1) rfl) ct_11_242 rfl rfl rfl (Nat.le_of_ble_eq_true rfl) (Nat.le_of_ble_eq_true rfl) (T_X11_isPlan hR (by omega) hq2) rfl ?_
  by_cases hc3 : q1.1 = (0 : Int32)
  · rw [if_pos hc3] at h
    refine aq_ifF (t := 9) (am_dg dkX11_prove (i := 2) rfl) rfl (decide_eq_false (not_not_intro hc3)) ?_
    refine aq_iconst (v := (-1 : Int32)) (am_dg dkX11_prove (i := 3) rfl) (by decide) ?_
    obtain rfl := Option.some.inj h
    exact aq_ireturn (am_dg dkX11_prove (i := 4) rfl) rfl (Or.inl rfl) rfl
  · rw [if_neg hc3] at h
    refine aq_ifT (t := 9) (am_dg dkX11_prove (i := 2) rfl) rfl (decide_eq_true hc3) ?_
    refine aq_aload_n (am_dg dkX11_prove (i := 5) rfl) rfl ?_
    refine aq_getR (am_dg dkX11_prove (i := 6) rfl) gk_11_55_0 (rf_0_4 hR) ?_
    refine aq_iload_n (am_dg dkX11_prove (i := 7) rfl) rfl ?_
    refine aq_iconst (v := (0 : Int32)) (am_dg dkX11_prove (i := 8) rfl) (by decide) ?_
    obtain ⟨q4, hq5, h⟩ := am_bnd h
    refine aq_virt (a := [.ref 50, .int a1, .int (0 : Int32)]) (S1 := []) (v1 := .null) (S2 := []) (am_dg dkX11_prove (i := 9) rfl) cv_11_245_3 (am_cls_c sh_50 (by decide)) rfl rfl rfl (Nat.le_of_ble_eq_true rfl) (Nat.le_of_ble_eq_true rfl) (T_X3_search_50 hR (by omega) hq5) rfl ?_
    refine aq_aload_n (am_dg dkX11_prove (i := 10) rfl) rfl ?_
    refine aq_getR (am_dg dkX11_prove (i := 11) rfl) gk_11_55_0 (rf_0_4 hR) ?_
    obtain ⟨q6, hq7, h⟩ := am_bnd h
    refine aq_virt (a := [.ref 50]) (S1 := []) (v1 := .int q6.1) (S2 := [.int q6.1]) (am_dg dkX11_prove (i := 12) rfl) cv_11_313_3 (am_cls_c sh_50 (by decide)) rfl rfl rfl (Nat.le_of_ble_eq_true rfl) (Nat.le_of_ble_eq_true rfl) (T_X3_writeRows_50 hR (by omega) hq7) rfl ?_
    obtain rfl := Option.some.inj h
    exact aq_ireturn (am_dg dkX11_prove (i := 13) rfl) rfl (Or.inl rfl) rfl
set_option maxRecDepth 20000 in
theorem T_X12_prove_82_b25 {sc : Option (Nat × (Nat → Int32))} {RF : Nat → Nat → Option Nat} {d : Nat} (hR : am_RFok RF) (hd : 20 ≤ d) : ∀ (n : Nat) (x1 : Int32) (x2 : Int32) (s : am_S) (r : Int32 × am_S), F_X12_prove_82_b25 n x1 x2 s = some r → am_Q sc d mX12_prove (25, [.ref 82, .int x1, .int x2], [], am_hp RF s) (.int r.1, am_hp RF r.2) := by
  obtain ⟨e, rfl⟩ : ∃ e, d = e + 1 := ⟨d - 1, by omega⟩
  intro n
  induction n with
  | zero => intro x1 x2 s r h; rw [F_X12_prove_82_b25] at h; cases h
  | succ n ih =>
  intro x1 x2 s r h
  rw [F_X12_prove_82_b25] at h
  refine aq_iload_n (am_dg dkX12_prove (i := 15) rfl) rfl ?_
  refine aq_aload_n (am_dg dkX12_prove (i := 16) rfl) rfl ?_
  refine aq_getI (am_dg dkX12_prove (i := 17) rfl) gk_12_272_82 (by decide) ?_
  by_cases hc1 : (s.1 82 20) ≤ x2
  · rw [if_pos hc1] at h
    refine aq_icT (t := 87) (am_dg dkX12_prove (i := 18) rfl) rfl (decide_eq_true hc1) ?_
    refine aq_aload_n (am_dg dkX12_prove (i := 55) rfl) rfl ?_
    obtain ⟨q2, hq3, h⟩ := am_bnd h
    refine aq_virt (a := [.ref 82]) (S1 := []) (v1 := .null) (S2 := []) (am_dg dkX12_prove (i := 56) rfl) cv_12_168_12 (am_cls_c sh_82 (by decide)) rfl rfl rfl (Nat.le_of_ble_eq_true rfl) (Nat.le_of_ble_eq_true rfl) (T_X12_putsBack_82 hR (by omega) hq3) rfl ?_
    refine aq_aload_n (am_dg dkX12_prove (i := 57) rfl) rfl ?_
    refine aq_getI (am_dg dkX12_prove (i := 58) rfl) gk_12_272_82 (by decide) ?_
    obtain rfl := Option.some.inj h
    exact aq_ireturn (am_dg dkX12_prove (i := 59) rfl) rfl (Or.inl rfl) rfl
  · rw [if_neg hc1] at h
    refine aq_icF (t := 87) (am_dg dkX12_prove (i := 18) rfl) rfl (decide_eq_false hc1) ?_
    refine aq_aload_n (am_dg dkX12_prove (i := 19) rfl) rfl ?_
    refine aq_getR (am_dg dkX12_prove (i := 20) rfl) gk_12_34_82 (rf_82_19 hR) ?_
    refine aq_iconst (v := (3 : Int32)) (am_dg dkX12_prove (i := 21) rfl) (by decide) ?_
    refine aq_iload_n (am_dg dkX12_prove (i := 22) rfl) rfl ?_
    refine aq_imul (am_dg dkX12_prove (i := 23) rfl) ?_
    refine aq_aload_n (am_dg dkX12_prove (i := 24) rfl) rfl ?_
    refine aq_getR (am_dg dkX12_prove (i := 25) rfl) gk_12_31_82 (rf_82_8 hR) ?_
    refine aq_iload_n (am_dg dkX12_prove (i := 26) rfl) rfl ?_
    obtain ⟨hg4, h⟩ := am_guard h
    refine aq_iald (am_dg dkX12_prove (i := 27) rfl) sh_90 hg4 ?_
    obtain ⟨hg5, h⟩ := am_guard h
    refine aq_iast (am_dg dkX12_prove (i := 28) rfl) sh_91 hg5 ?_
    obtain ⟨s6, hs7, h⟩ := am_bnd h
    rw [Option.some.inj hs7]
    refine aq_aload_n (am_dg dkX12_prove (i := 29) rfl) rfl ?_
    refine aq_getR (am_dg dkX12_prove (i := 30) rfl) gk_12_34_82 (rf_82_19 hR) ?_
    refine aq_iconst (v := (3 : Int32)) (am_dg dkX12_prove (i := 31) rfl) (by decide) ?_
    refine aq_iload_n (am_dg dkX12_prove (i := 32) rfl) rfl ?_
    refine aq_imul (am_dg dkX12_prove (i := 33) rfl) ?_
    refine aq_iconst (v := (1 : Int32)) (am_dg dkX12_prove (i := 34) rfl) (by decide) ?_
    refine aq_iadd (am_dg dkX12_prove (i := 35) rfl) ?_
    refine aq_aload_n (am_dg dkX12_prove (i := 36) rfl) rfl ?_
    refine aq_aload_n (am_dg dkX12_prove (i := 37) rfl) rfl ?_
    refine aq_getR (am_dg dkX12_prove (i := 38) rfl) gk_12_31_82 (rf_82_8 hR) ?_
    refine aq_iload_n (am_dg dkX12_prove (i := 39) rfl) rfl ?_
    obtain ⟨hg8, h⟩ := am_guard h
    refine aq_iald (am_dg dkX12_prove (i := 40) rfl) sh_90 hg8 ?_
    obtain ⟨q9, hq10, h⟩ := am_bnd h
    refine aq_virt (a := [.ref 82, .int (s6.1 90 x2.toNatClampNeg)]) (S1 := [.int (((3 : Int32) * x2) + (1 : Int32)), .ref 91]) (v1 := .int q9.1) (S2 := [.int q9.1, .int (((3 : Int32) * x2) + (1 : Int32)), .ref 91]) (am_dg dkX12_prove (i := 41) rfl) cv_12_159_12 (am_cls_c sh_82 (by decide)) rfl rfl rfl (Nat.le_of_ble_eq_true rfl) (Nat.le_of_ble_eq_true rfl) (T_X12_goes_82 hR (by omega) hq10) rfl ?_
    obtain ⟨hg11, h⟩ := am_guard h
    refine aq_iast (am_dg dkX12_prove (i := 42) rfl) sh_91 hg11 ?_
    obtain ⟨s12, hs13, h⟩ := am_bnd h
    rw [Option.some.inj hs13]
    refine aq_aload_n (am_dg dkX12_prove (i := 43) rfl) rfl ?_
    refine aq_getR (am_dg dkX12_prove (i := 44) rfl) gk_12_34_82 (rf_82_19 hR) ?_
    refine aq_iconst (v := (3 : Int32)) (am_dg dkX12_prove (i := 45) rfl) (by decide) ?_
    refine aq_iload_n (am_dg dkX12_prove (i := 46) rfl) rfl ?_
    refine aq_imul (am_dg dkX12_prove (i := 47) rfl) ?_
    refine aq_iconst (v := (2 : Int32)) (am_dg dkX12_prove (i := 48) rfl) (by decide) ?_
    refine aq_iadd (am_dg dkX12_prove (i := 49) rfl) ?_
    refine aq_aload_n (am_dg dkX12_prove (i := 50) rfl) rfl ?_
    obtain ⟨q14, hq15, h⟩ := am_bnd h
    refine aq_virt (a := [.ref 82]) (S1 := [.int (((3 : Int32) * x2) + (2 : Int32)), .ref 91]) (v1 := .int q14.1) (S2 := [.int q14.1, .int (((3 : Int32) * x2) + (2 : Int32)), .ref 91]) (am_dg dkX12_prove (i := 51) rfl) cv_12_122_12 (am_cls_c sh_82 (by decide)) rfl rfl rfl (Nat.le_of_ble_eq_true rfl) (Nat.le_of_ble_eq_true rfl) (T_X12_caught_82 hR (by omega) hq15) rfl ?_
    obtain ⟨hg16, h⟩ := am_guard h
    refine aq_iast (am_dg dkX12_prove (i := 52) rfl) sh_91 hg16 ?_
    obtain ⟨s17, hs18, h⟩ := am_bnd h
    rw [Option.some.inj hs18]
    refine aq_iinc (v := (1 : Int32)) (L1 := [.ref 82, .int x1, .int (x2 + (1 : Int32))]) (am_dg dkX12_prove (i := 53) rfl) rfl (by decide) rfl ?_
    refine aq_goto (t := 25) (am_dg dkX12_prove (i := 54) rfl) rfl ?_
    exact ih _ _ _ _ h
set_option maxRecDepth 20000 in
theorem T_X12_prove_82 {sc : Option (Nat × (Nat → Int32))} {RF : Nat → Nat → Option Nat} {d : Nat} (hR : am_RFok RF) (hd : 20 ≤ d) {a1 : Int32} {s : am_S} {r : Int32 × am_S} (h : F_X12_prove_82 a1 s = some r) : am_Q sc d mX12_prove (0, am_L0 mX12_prove [.ref 82, .int a1], [], am_hp RF s) (.int r.1, am_hp RF r.2) := by
  obtain ⟨e, rfl⟩ : ∃ e, d = e + 1 := ⟨d - 1, by omega⟩
  unfold F_X12_prove_82 at h
  show am_Q _ _ _ (0, [.ref 82, .int a1, .null], [], _) _
  refine aq_iload_n (am_dg dkX12_prove (i := 0) rfl) rfl ?_
  obtain ⟨q1, hq2, h⟩ := am_bnd h
  refine aq_static (a := [.int a1]) (S1 := []) (v1 := .int q1.1) (S2 := [.int q1.1]) (am_dg dkX12_prove (i := 1) rfl) ct_12_228 rfl rfl rfl (Nat.le_of_ble_eq_true rfl) (Nat.le_of_ble_eq_true rfl) (T_X12_isLong hR (by omega) hq2) rfl ?_
  by_cases hc3 : q1.1 = (0 : Int32)
  · rw [if_pos hc3] at h
    refine aq_ifF (t := 9) (am_dg dkX12_prove (i := 2) rfl) rfl (decide_eq_false (not_not_intro hc3)) ?_
    refine aq_iconst (v := (-1 : Int32)) (am_dg dkX12_prove (i := 3) rfl) (by decide) ?_
    obtain rfl := Option.some.inj h
    exact aq_ireturn (am_dg dkX12_prove (i := 4) rfl) rfl (Or.inl rfl) rfl
  · rw [if_neg hc3] at h
    refine aq_ifT (t := 9) (am_dg dkX12_prove (i := 2) rfl) rfl (decide_eq_true hc3) ?_
    refine aq_aload_n (am_dg dkX12_prove (i := 5) rfl) rfl ?_
    refine aq_aload_n (am_dg dkX12_prove (i := 6) rfl) rfl ?_
    refine aq_iload_n (am_dg dkX12_prove (i := 7) rfl) rfl ?_
    refine aq_iconst (v := (0 : Int32)) (am_dg dkX12_prove (i := 8) rfl) (by decide) ?_
    obtain ⟨q4, hq5, h⟩ := am_bnd h
    refine aq_virt (a := [.ref 82, .int a1, .int (0 : Int32)]) (S1 := [.ref 82]) (v1 := .int q4.1) (S2 := [.int q4.1, .ref 82]) (am_dg dkX12_prove (i := 9) rfl) cv_12_231_12 (am_cls_c sh_82 (by decide)) rfl rfl rfl (Nat.le_of_ble_eq_true rfl) (Nat.le_of_ble_eq_true rfl) (T_X12_plansOf_82 hR (by omega) hq5) rfl ?_
    refine aq_putI (am_dg dkX12_prove (i := 10) rfl) gk_12_272_82 ?_
    obtain ⟨s6, hs7, h⟩ := am_bnd h
    rw [Option.some.inj hs7]
    refine aq_aload_n (am_dg dkX12_prove (i := 11) rfl) rfl ?_
    obtain ⟨q8, hq9, h⟩ := am_bnd h
    refine aq_virt (a := [.ref 82]) (S1 := []) (v1 := .null) (S2 := []) (am_dg dkX12_prove (i := 12) rfl) cv_12_162_12 (am_cls_c sh_82 (by decide)) rfl rfl rfl (Nat.le_of_ble_eq_true rfl) (Nat.le_of_ble_eq_true rfl) (T_X12_puts_82 hR (by omega) hq9) rfl ?_
    refine aq_iconst (v := (0 : Int32)) (am_dg dkX12_prove (i := 13) rfl) (by decide) ?_
    refine aq_istore_n (L1 := [.ref 82, .int a1, .int (0 : Int32)]) (am_dg dkX12_prove (i := 14) rfl) rfl ?_
    exact T_X12_prove_82_b25 hR (by omega) _ _ _ _ _ h
set_option maxRecDepth 20000 in
theorem T_X3_hasRow_50 {sc : Option (Nat × (Nat → Int32))} {RF : Nat → Nat → Option Nat} {d : Nat} (hR : am_RFok RF) (hd : 0 ≤ d) {a1 : Int32} {s : am_S} {r : Int32 × am_S} (h : F_X3_hasRow_50 a1 s = some r) : am_Q sc d mX3_hasRow (0, am_L0 mX3_hasRow [.ref 50, .int a1], [], am_hp RF s) (.int r.1, am_hp RF r.2) := by
  unfold F_X3_hasRow_50 at h
  show am_Q _ _ _ (0, [.ref 50, .int a1], [], _) _
  refine aq_iload_n (am_dg dkX3_hasRow (i := 0) rfl) rfl ?_
  by_cases hc1 : a1 < (0 : Int32)
  · rw [if_pos hc1] at h
    refine aq_ifT (t := 16) (am_dg dkX3_hasRow (i := 1) rfl) rfl (decide_eq_true hc1) ?_
    refine aq_iconst (v := (0 : Int32)) (am_dg dkX3_hasRow (i := 8) rfl) (by decide) ?_
    obtain rfl := Option.some.inj h
    exact aq_ireturn (am_dg dkX3_hasRow (i := 9) rfl) rfl (Or.inr (Or.inl rfl)) rfl
  · rw [if_neg hc1] at h
    refine aq_ifF (t := 16) (am_dg dkX3_hasRow (i := 1) rfl) rfl (decide_eq_false hc1) ?_
    refine aq_iload_n (am_dg dkX3_hasRow (i := 2) rfl) rfl ?_
    refine aq_aload_n (am_dg dkX3_hasRow (i := 3) rfl) rfl ?_
    refine aq_getI (am_dg dkX3_hasRow (i := 4) rfl) gk_3_230_50 (by decide) ?_
    by_cases hc2 : (s.1 50 14) ≤ a1
    · rw [if_pos hc2] at h
      refine aq_icT (t := 16) (am_dg dkX3_hasRow (i := 5) rfl) rfl (decide_eq_true hc2) ?_
      refine aq_iconst (v := (0 : Int32)) (am_dg dkX3_hasRow (i := 8) rfl) (by decide) ?_
      obtain rfl := Option.some.inj h
      exact aq_ireturn (am_dg dkX3_hasRow (i := 9) rfl) rfl (Or.inr (Or.inl rfl)) rfl
    · rw [if_neg hc2] at h
      refine aq_icF (t := 16) (am_dg dkX3_hasRow (i := 5) rfl) rfl (decide_eq_false hc2) ?_
      refine aq_iconst (v := (1 : Int32)) (am_dg dkX3_hasRow (i := 6) rfl) (by decide) ?_
      refine aq_goto (t := 17) (am_dg dkX3_hasRow (i := 7) rfl) rfl ?_
      obtain rfl := Option.some.inj h
      exact aq_ireturn (am_dg dkX3_hasRow (i := 9) rfl) rfl (Or.inr (Or.inl rfl)) rfl
set_option maxRecDepth 20000 in
theorem T_X11_row_0 {sc : Option (Nat × (Nat → Int32))} {RF : Nat → Nat → Option Nat} {d : Nat} (hR : am_RFok RF) (hd : 1 ≤ d) {a1 : Int32} {a2 : Int32} {s : am_S} {r : Int32 × am_S} (h : F_X11_row_0 a1 a2 s = some r) : am_Q sc d mX11_row (0, am_L0 mX11_row [.ref 0, .int a1, .int a2], [], am_hp RF s) (.int r.1, am_hp RF r.2) := by
  obtain ⟨e, rfl⟩ : ∃ e, d = e + 1 := ⟨d - 1, by omega⟩
  unfold F_X11_row_0 at h
  show am_Q _ _ _ (0, [.ref 0, .int a1, .int a2], [], _) _
  refine aq_aload_n (am_dg dkX11_row (i := 0) rfl) rfl ?_
  refine aq_getR (am_dg dkX11_row (i := 1) rfl) gk_11_55_0 (rf_0_4 hR) ?_
  refine aq_iload_n (am_dg dkX11_row (i := 2) rfl) rfl ?_
  obtain ⟨q1, hq2, h⟩ := am_bnd h
  refine aq_virt (a := [.ref 50, .int a1]) (S1 := []) (v1 := .int q1.1) (S2 := [.int q1.1]) (am_dg dkX11_row (i := 3) rfl) cv_11_316_3 (am_cls_c sh_50 (by decide)) rfl rfl rfl (Nat.le_of_ble_eq_true rfl) (Nat.le_of_ble_eq_true rfl) (T_X3_hasRow_50 hR (by omega) hq2) rfl ?_
  by_cases hc3 : q1.1 = (0 : Int32)
  · rw [if_pos hc3] at h
    refine aq_ifT (t := 34) (am_dg dkX11_row (i := 4) rfl) rfl (decide_eq_true hc3) ?_
    refine aq_bipush (v := (-9 : Int32)) (am_dg dkX11_row (i := 18) rfl) (by decide) ?_
    obtain rfl := Option.some.inj h
    exact aq_ireturn (am_dg dkX11_row (i := 19) rfl) rfl (Or.inl rfl) rfl
  · rw [if_neg hc3] at h
    refine aq_ifF (t := 34) (am_dg dkX11_row (i := 4) rfl) rfl (decide_eq_false hc3) ?_
    refine aq_iload_n (am_dg dkX11_row (i := 5) rfl) rfl ?_
    refine aq_iconst (v := (0 : Int32)) (am_dg dkX11_row (i := 6) rfl) (by decide) ?_
    refine aq_iconst (v := (2 : Int32)) (am_dg dkX11_row (i := 7) rfl) (by decide) ?_
    obtain ⟨q4, hq5, h⟩ := am_bnd h
    refine aq_static (a := [.int a2, .int (0 : Int32), .int (2 : Int32)]) (S1 := []) (v1 := .int q4.1) (S2 := [.int q4.1]) (am_dg dkX11_row (i := 8) rfl) ct_11_149 rfl rfl rfl (Nat.le_of_ble_eq_true rfl) (Nat.le_of_ble_eq_true rfl) (T_X11_isWithin hR (by omega) hq5) rfl ?_
    by_cases hc6 : q4.1 = (0 : Int32)
    · rw [if_pos hc6] at h
      refine aq_ifT (t := 34) (am_dg dkX11_row (i := 9) rfl) rfl (decide_eq_true hc6) ?_
      refine aq_bipush (v := (-9 : Int32)) (am_dg dkX11_row (i := 18) rfl) (by decide) ?_
      obtain rfl := Option.some.inj h
      exact aq_ireturn (am_dg dkX11_row (i := 19) rfl) rfl (Or.inl rfl) rfl
    · rw [if_neg hc6] at h
      refine aq_ifF (t := 34) (am_dg dkX11_row (i := 9) rfl) rfl (decide_eq_false hc6) ?_
      refine aq_aload_n (am_dg dkX11_row (i := 10) rfl) rfl ?_
      refine aq_getR (am_dg dkX11_row (i := 11) rfl) gk_11_55_0 (rf_0_4 hR) ?_
      refine aq_getR (am_dg dkX11_row (i := 12) rfl) gk_11_319_50 (rf_50_15 hR) ?_
      refine aq_iload_n (am_dg dkX11_row (i := 13) rfl) rfl ?_
      obtain ⟨hg7, h⟩ := am_guard h
      refine aq_aald (am_dg dkX11_row (i := 14) rfl) sh_65 (by decide) hg7 (fm_65 hR _ (am_in_lt hg7)) ?_
      refine aq_iload_n (am_dg dkX11_row (i := 15) rfl) rfl ?_
      obtain ⟨hg8, h⟩ := am_guard h
      refine aq_iald (am_dg dkX11_row (i := 16) rfl) (fs_65 _ (am_in_lt hg7)) hg8 ?_
      refine aq_goto (t := 36) (am_dg dkX11_row (i := 17) rfl) rfl ?_
      obtain rfl := Option.some.inj h
      exact aq_ireturn (am_dg dkX11_row (i := 19) rfl) rfl (Or.inl rfl) rfl
set_option maxRecDepth 20000 in
theorem T_X12_isRow_82 {sc : Option (Nat × (Nat → Int32))} {RF : Nat → Nat → Option Nat} {d : Nat} (hR : am_RFok RF) (hd : 1 ≤ d) {a1 : Int32} {a2 : Int32} {s : am_S} {r : Int32 × am_S} (h : F_X12_isRow_82 a1 a2 s = some r) : am_Q sc d mX12_isRow (0, am_L0 mX12_isRow [.ref 82, .int a1, .int a2], [], am_hp RF s) (.int r.1, am_hp RF r.2) := by
  obtain ⟨e, rfl⟩ : ∃ e, d = e + 1 := ⟨d - 1, by omega⟩
  unfold F_X12_isRow_82 at h
  show am_Q _ _ _ (0, [.ref 82, .int a1, .int a2], [], _) _
  refine aq_iload_n (am_dg dkX12_isRow (i := 0) rfl) rfl ?_
  refine aq_i2l (am_dg dkX12_isRow (i := 1) rfl) ?_
  refine aq_lconst (v := (0 : Int64)) (am_dg dkX12_isRow (i := 2) rfl) (by decide) ?_
  refine aq_aload_n (am_dg dkX12_isRow (i := 3) rfl) rfl ?_
  refine aq_getI (am_dg dkX12_isRow (i := 4) rfl) gk_12_272_82 (by decide) ?_
  refine aq_iconst (v := (1 : Int32)) (am_dg dkX12_isRow (i := 5) rfl) (by decide) ?_
  refine aq_isub (am_dg dkX12_isRow (i := 6) rfl) ?_
  refine aq_i2l (am_dg dkX12_isRow (i := 7) rfl) ?_
  obtain ⟨q1, hq2, h⟩ := am_bnd h
  refine aq_static (a := [.long a1.toInt64, .long (0 : Int64), .long ((s.1 82 20) - (1 : Int32)).toInt64]) (S1 := []) (v1 := .int q1.1) (S2 := [.int q1.1]) (am_dg dkX12_isRow (i := 8) rfl) ct_12_61 rfl rfl rfl (Nat.le_of_ble_eq_true rfl) (Nat.le_of_ble_eq_true rfl) (T_X12_in hR (by omega) hq2) rfl ?_
  by_cases hc3 : q1.1 = (0 : Int32)
  · rw [if_pos hc3] at h
    refine aq_ifT (t := 32) (am_dg dkX12_isRow (i := 9) rfl) rfl (decide_eq_true hc3) ?_
    refine aq_iconst (v := (0 : Int32)) (am_dg dkX12_isRow (i := 18) rfl) (by decide) ?_
    obtain rfl := Option.some.inj h
    exact aq_ireturn (am_dg dkX12_isRow (i := 19) rfl) rfl (Or.inr (Or.inl rfl)) rfl
  · rw [if_neg hc3] at h
    refine aq_ifF (t := 32) (am_dg dkX12_isRow (i := 9) rfl) rfl (decide_eq_false hc3) ?_
    refine aq_iload_n (am_dg dkX12_isRow (i := 10) rfl) rfl ?_
    refine aq_i2l (am_dg dkX12_isRow (i := 11) rfl) ?_
    refine aq_lconst (v := (0 : Int64)) (am_dg dkX12_isRow (i := 12) rfl) (by decide) ?_
    refine aq_ldc2 (am_dg dkX12_isRow (i := 13) rfl) cl_12_114 ?_
    obtain ⟨q4, hq5, h⟩ := am_bnd h
    refine aq_static (a := [.long a2.toInt64, .long (0 : Int64), .long (2 : Int64)]) (S1 := []) (v1 := .int q4.1) (S2 := [.int q4.1]) (am_dg dkX12_isRow (i := 14) rfl) ct_12_61 rfl rfl rfl (Nat.le_of_ble_eq_true rfl) (Nat.le_of_ble_eq_true rfl) (T_X12_in hR (by omega) hq5) rfl ?_
    by_cases hc6 : q4.1 = (0 : Int32)
    · rw [if_pos hc6] at h
      refine aq_ifT (t := 32) (am_dg dkX12_isRow (i := 15) rfl) rfl (decide_eq_true hc6) ?_
      refine aq_iconst (v := (0 : Int32)) (am_dg dkX12_isRow (i := 18) rfl) (by decide) ?_
      obtain rfl := Option.some.inj h
      exact aq_ireturn (am_dg dkX12_isRow (i := 19) rfl) rfl (Or.inr (Or.inl rfl)) rfl
    · rw [if_neg hc6] at h
      refine aq_ifF (t := 32) (am_dg dkX12_isRow (i := 15) rfl) rfl (decide_eq_false hc6) ?_
      refine aq_iconst (v := (1 : Int32)) (am_dg dkX12_isRow (i := 16) rfl) (by decide) ?_
      refine aq_goto (t := 33) (am_dg dkX12_isRow (i := 17) rfl) rfl ?_
      obtain rfl := Option.some.inj h
      exact aq_ireturn (am_dg dkX12_isRow (i := 19) rfl) rfl (Or.inr (Or.inl rfl)) rfl
set_option maxRecDepth 20000 in
theorem T_X12_row_82 {sc : Option (Nat × (Nat → Int32))} {RF : Nat → Nat → Option Nat} {d : Nat} (hR : am_RFok RF) (hd : 2 ≤ d) {a1 : Int32} {a2 : Int32} {s : am_S} {r : Int32 × am_S} (h : F_X12_row_82 a1 a2 s = some r) : am_Q sc d mX12_row (0, am_L0 mX12_row [.ref 82, .int a1, .int a2], [], am_hp RF s) (.int r.1, am_hp RF r.2) := by
  obtain ⟨e, rfl⟩ : ∃ e, d = e + 1 := ⟨d - 1, by omega⟩
  unfold F_X12_row_82 at h
  show am_Q _ _ _ (0, [.ref 82, .int a1, .int a2], [], _) _
  refine aq_aload_n (am_dg dkX12_row (i := 0) rfl) rfl ?_
  refine aq_iload_n (am_dg dkX12_row (i := 1) rfl) rfl ?_
  refine aq_iload_n (am_dg dkX12_row (i := 2) rfl) rfl ?_
  obtain ⟨q1, hq2, h⟩ := am_bnd h
  refine aq_virt (a := [.ref 82, .int a1, .int a2]) (S1 := []) (v1 := .int q1.1) (S2 := [.int q1.1]) (am_dg dkX12_row (i := 3) rfl) cv_12_275_12 (am_cls_c sh_82 (by decide)) rfl rfl rfl (Nat.le_of_ble_eq_true rfl) (Nat.le_of_ble_eq_true rfl) (T_X12_isRow_82 hR (by omega) hq2) rfl ?_
  by_cases hc3 : q1.1 = (0 : Int32)
  · rw [if_pos hc3] at h
    refine aq_ifT (t := 22) (am_dg dkX12_row (i := 4) rfl) rfl (decide_eq_true hc3) ?_
    refine aq_bipush (v := (-9 : Int32)) (am_dg dkX12_row (i := 14) rfl) (by decide) ?_
    obtain rfl := Option.some.inj h
    exact aq_ireturn (am_dg dkX12_row (i := 15) rfl) rfl (Or.inl rfl) rfl
  · rw [if_neg hc3] at h
    refine aq_ifF (t := 22) (am_dg dkX12_row (i := 4) rfl) rfl (decide_eq_false hc3) ?_
    refine aq_aload_n (am_dg dkX12_row (i := 5) rfl) rfl ?_
    refine aq_getR (am_dg dkX12_row (i := 6) rfl) gk_12_34_82 (rf_82_19 hR) ?_
    refine aq_iconst (v := (3 : Int32)) (am_dg dkX12_row (i := 7) rfl) (by decide) ?_
    refine aq_iload_n (am_dg dkX12_row (i := 8) rfl) rfl ?_
    refine aq_imul (am_dg dkX12_row (i := 9) rfl) ?_
    refine aq_iload_n (am_dg dkX12_row (i := 10) rfl) rfl ?_
    refine aq_iadd (am_dg dkX12_row (i := 11) rfl) ?_
    obtain ⟨hg4, h⟩ := am_guard h
    refine aq_iald (am_dg dkX12_row (i := 12) rfl) sh_91 hg4 ?_
    refine aq_goto (t := 24) (am_dg dkX12_row (i := 13) rfl) rfl ?_
    obtain rfl := Option.some.inj h
    exact aq_ireturn (am_dg dkX12_row (i := 15) rfl) rfl (Or.inl rfl) rfl
set_option maxRecDepth 20000 in
theorem T_X11_exchange_f65 {sc : Option (Nat × (Nat → Int32))} {RF : Nat → Nat → Option Nat} {d : Nat} (hR : am_RFok RF) (hd : 0 ≤ d) {j0 : Nat} (hj0 : j0 < 4) {a1 : Int32} {a2 : Int32} {s : am_S} {r : Int32 × am_S} (h : F_X11_exchange_f65 j0 a1 a2 s = some r) : am_Q sc d mX11_exchange (0, am_L0 mX11_exchange [.ref (66 + j0), .int a1, .int a2], [], am_hp RF s) (.int r.1, am_hp RF r.2) := by
  unfold F_X11_exchange_f65 at h
  show am_Q _ _ _ (0, [.ref (66 + j0), .int a1, .int a2, .null], [], _) _
  refine aq_iload_n (am_dg dkX11_exchange (i := 0) rfl) rfl ?_
  by_cases hc1 : a1 < (0 : Int32)
  · rw [if_pos hc1] at h
    refine aq_ifT (t := 10) (am_dg dkX11_exchange (i := 1) rfl) rfl (decide_eq_true hc1) ?_
    refine aq_iconst (v := (-1 : Int32)) (am_dg dkX11_exchange (i := 6) rfl) (by decide) ?_
    obtain rfl := Option.some.inj h
    exact aq_ireturn (am_dg dkX11_exchange (i := 7) rfl) rfl (Or.inl rfl) rfl
  · rw [if_neg hc1] at h
    refine aq_ifF (t := 10) (am_dg dkX11_exchange (i := 1) rfl) rfl (decide_eq_false hc1) ?_
    refine aq_iload_n (am_dg dkX11_exchange (i := 2) rfl) rfl ?_
    refine aq_aload_n (am_dg dkX11_exchange (i := 3) rfl) rfl ?_
    refine aq_alen (v := (3 : Int32)) (am_dg dkX11_exchange (i := 4) rfl) (fs_65 _ hj0) (by decide) (by decide) ?_
    by_cases hc2 : a1 < (3 : Int32)
    · rw [if_pos hc2] at h
      refine aq_icT (t := 12) (am_dg dkX11_exchange (i := 5) rfl) rfl (decide_eq_true hc2) ?_
      refine aq_aload_n (am_dg dkX11_exchange (i := 8) rfl) rfl ?_
      refine aq_iload_n (am_dg dkX11_exchange (i := 9) rfl) rfl ?_
      obtain ⟨hg3, h⟩ := am_guard h
      refine aq_iald (am_dg dkX11_exchange (i := 10) rfl) (fs_65 _ hj0) hg3 ?_
      refine aq_istore_n (L1 := [.ref (66 + j0), .int a1, .int a2, .int (s.1 (66 + j0) a1.toNatClampNeg)]) (am_dg dkX11_exchange (i := 11) rfl) rfl ?_
      refine aq_aload_n (am_dg dkX11_exchange (i := 12) rfl) rfl ?_
      refine aq_iload_n (am_dg dkX11_exchange (i := 13) rfl) rfl ?_
      refine aq_iload_n (am_dg dkX11_exchange (i := 14) rfl) rfl ?_
      obtain ⟨hg4, h⟩ := am_guard h
      refine aq_iast (am_dg dkX11_exchange (i := 15) rfl) (fs_65 _ hj0) hg4 ?_
      obtain ⟨s5, hs6, h⟩ := am_bnd h
      rw [Option.some.inj hs6]
      refine aq_iload_n (am_dg dkX11_exchange (i := 16) rfl) rfl ?_
      obtain rfl := Option.some.inj h
      exact aq_ireturn (am_dg dkX11_exchange (i := 17) rfl) rfl (Or.inl rfl) rfl
    · rw [if_neg hc2] at h
      refine aq_icF (t := 12) (am_dg dkX11_exchange (i := 5) rfl) rfl (decide_eq_false hc2) ?_
      refine aq_iconst (v := (-1 : Int32)) (am_dg dkX11_exchange (i := 6) rfl) (by decide) ?_
      obtain rfl := Option.some.inj h
      exact aq_ireturn (am_dg dkX11_exchange (i := 7) rfl) rfl (Or.inl rfl) rfl
set_option maxRecDepth 20000 in
theorem T_X11_alterRow_0 {sc : Option (Nat × (Nat → Int32))} {RF : Nat → Nat → Option Nat} {d : Nat} (hR : am_RFok RF) (hd : 1 ≤ d) {a1 : Int32} {a2 : Int32} {a3 : Int32} {s : am_S} {r : Int32 × am_S} (h : F_X11_alterRow_0 a1 a2 a3 s = some r) : am_Q sc d mX11_alterRow (0, am_L0 mX11_alterRow [.ref 0, .int a1, .int a2, .int a3], [], am_hp RF s) (.int r.1, am_hp RF r.2) := by
  obtain ⟨e, rfl⟩ : ∃ e, d = e + 1 := ⟨d - 1, by omega⟩
  unfold F_X11_alterRow_0 at h
  show am_Q _ _ _ (0, [.ref 0, .int a1, .int a2, .int a3], [], _) _
  refine aq_aload_n (am_dg dkX11_alterRow (i := 0) rfl) rfl ?_
  refine aq_getR (am_dg dkX11_alterRow (i := 1) rfl) gk_11_55_0 (rf_0_4 hR) ?_
  refine aq_iload_n (am_dg dkX11_alterRow (i := 2) rfl) rfl ?_
  obtain ⟨q1, hq2, h⟩ := am_bnd h
  refine aq_virt (a := [.ref 50, .int a1]) (S1 := []) (v1 := .int q1.1) (S2 := [.int q1.1]) (am_dg dkX11_alterRow (i := 3) rfl) cv_11_316_3 (am_cls_c sh_50 (by decide)) rfl rfl rfl (Nat.le_of_ble_eq_true rfl) (Nat.le_of_ble_eq_true rfl) (T_X3_hasRow_50 hR (by omega) hq2) rfl ?_
  by_cases hc3 : q1.1 = (0 : Int32)
  · rw [if_pos hc3] at h
    refine aq_ifT (t := 37) (am_dg dkX11_alterRow (i := 4) rfl) rfl (decide_eq_true hc3) ?_
    refine aq_bipush (v := (-9 : Int32)) (am_dg dkX11_alterRow (i := 19) rfl) (by decide) ?_
    obtain rfl := Option.some.inj h
    exact aq_ireturn (am_dg dkX11_alterRow (i := 20) rfl) rfl (Or.inl rfl) rfl
  · rw [if_neg hc3] at h
    refine aq_ifF (t := 37) (am_dg dkX11_alterRow (i := 4) rfl) rfl (decide_eq_false hc3) ?_
    refine aq_iload_n (am_dg dkX11_alterRow (i := 5) rfl) rfl ?_
    refine aq_iconst (v := (0 : Int32)) (am_dg dkX11_alterRow (i := 6) rfl) (by decide) ?_
    refine aq_iconst (v := (2 : Int32)) (am_dg dkX11_alterRow (i := 7) rfl) (by decide) ?_
    obtain ⟨q4, hq5, h⟩ := am_bnd h
    refine aq_static (a := [.int a2, .int (0 : Int32), .int (2 : Int32)]) (S1 := []) (v1 := .int q4.1) (S2 := [.int q4.1]) (am_dg dkX11_alterRow (i := 8) rfl) ct_11_149 rfl rfl rfl (Nat.le_of_ble_eq_true rfl) (Nat.le_of_ble_eq_true rfl) (T_X11_isWithin hR (by omega) hq5) rfl ?_
    by_cases hc6 : q4.1 = (0 : Int32)
    · rw [if_pos hc6] at h
      refine aq_ifT (t := 37) (am_dg dkX11_alterRow (i := 9) rfl) rfl (decide_eq_true hc6) ?_
      refine aq_bipush (v := (-9 : Int32)) (am_dg dkX11_alterRow (i := 19) rfl) (by decide) ?_
      obtain rfl := Option.some.inj h
      exact aq_ireturn (am_dg dkX11_alterRow (i := 20) rfl) rfl (Or.inl rfl) rfl
    · rw [if_neg hc6] at h
      refine aq_ifF (t := 37) (am_dg dkX11_alterRow (i := 9) rfl) rfl (decide_eq_false hc6) ?_
      refine aq_aload_n (am_dg dkX11_alterRow (i := 10) rfl) rfl ?_
      refine aq_getR (am_dg dkX11_alterRow (i := 11) rfl) gk_11_55_0 (rf_0_4 hR) ?_
      refine aq_getR (am_dg dkX11_alterRow (i := 12) rfl) gk_11_319_50 (rf_50_15 hR) ?_
      refine aq_iload_n (am_dg dkX11_alterRow (i := 13) rfl) rfl ?_
      obtain ⟨hg7, h⟩ := am_guard h
      refine aq_aald (am_dg dkX11_alterRow (i := 14) rfl) sh_65 (by decide) hg7 (fm_65 hR _ (am_in_lt hg7)) ?_
      refine aq_iload_n (am_dg dkX11_alterRow (i := 15) rfl) rfl ?_
      refine aq_iload_n (am_dg dkX11_alterRow (i := 16) rfl) rfl ?_
      obtain ⟨q8, hq9, h⟩ := am_bnd h
      refine aq_static (a := [.ref (66 + a1.toNatClampNeg), .int a2, .int a3]) (S1 := []) (v1 := .int q8.1) (S2 := [.int q8.1]) (am_dg dkX11_alterRow (i := 17) rfl) ct_11_145 rfl rfl rfl (Nat.le_of_ble_eq_true rfl) (Nat.le_of_ble_eq_true rfl) (T_X11_exchange_f65 hR (by omega) (am_in_lt hg7) hq9) rfl ?_
      refine aq_goto (t := 39) (am_dg dkX11_alterRow (i := 18) rfl) rfl ?_
      obtain rfl := Option.some.inj h
      exact aq_ireturn (am_dg dkX11_alterRow (i := 20) rfl) rfl (Or.inl rfl) rfl
