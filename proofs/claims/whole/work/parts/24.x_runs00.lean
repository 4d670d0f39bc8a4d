/-! LAYER 1: the runs (written by wip/whole/gen_f.py) -/
set_option maxRecDepth 20000 in
theorem T_X11_isWithin {sc : Option (Nat × (Nat → Int32))} {RF : Nat → Nat → Option Nat} {d : Nat} (hR : am_RFok RF) (hd : 0 ≤ d) {a0 : Int32} {a1 : Int32} {a2 : Int32} {s : am_S} {r : Int32 × am_S} (h : F_X11_isWithin a0 a1 a2 s = some r) : am_Q sc d mX11_isWithin (0, am_L0 mX11_isWithin [.int a0, .int a1, .int a2], [], am_hp RF s) (.int r.1, am_hp RF r.2) := by
  unfold F_X11_isWithin at h
  show am_Q _ _ _ (0, [.int a0, .int a1, .int a2], [], _) _
  refine aq_iload_n (am_dg dkX11_isWithin (i := 0) rfl) rfl ?_
  refine aq_iload_n (am_dg dkX11_isWithin (i := 1) rfl) rfl ?_
  by_cases hc1 : a0 < a1
  · rw [if_pos hc1] at h
    refine aq_icT (t := 14) (am_dg dkX11_isWithin (i := 2) rfl) rfl (decide_eq_true hc1) ?_
    refine aq_iconst (v := (0 : Int32)) (am_dg dkX11_isWithin (i := 8) rfl) (by decide) ?_
    obtain rfl := Option.some.inj h
    exact aq_ireturn (am_dg dkX11_isWithin (i := 9) rfl) rfl (Or.inr (Or.inl rfl)) rfl
  · rw [if_neg hc1] at h
    refine aq_icF (t := 14) (am_dg dkX11_isWithin (i := 2) rfl) rfl (decide_eq_false hc1) ?_
    refine aq_iload_n (am_dg dkX11_isWithin (i := 3) rfl) rfl ?_
    refine aq_iload_n (am_dg dkX11_isWithin (i := 4) rfl) rfl ?_
    by_cases hc2 : a2 < a0
    · rw [if_pos hc2] at h
      refine aq_icT (t := 14) (am_dg dkX11_isWithin (i := 5) rfl) rfl (decide_eq_true hc2) ?_
      refine aq_iconst (v := (0 : Int32)) (am_dg dkX11_isWithin (i := 8) rfl) (by decide) ?_
      obtain rfl := Option.some.inj h
      exact aq_ireturn (am_dg dkX11_isWithin (i := 9) rfl) rfl (Or.inr (Or.inl rfl)) rfl
    · rw [if_neg hc2] at h
      refine aq_icF (t := 14) (am_dg dkX11_isWithin (i := 5) rfl) rfl (decide_eq_false hc2) ?_
      refine aq_iconst (v := (1 : Int32)) (am_dg dkX11_isWithin (i := 6) rfl) (by decide) ?_
      refine aq_goto (t := 15) (am_dg dkX11_isWithin (i := 7) rfl) rfl ?_
      obtain rfl := Option.some.inj h
      exact aq_ireturn (am_dg dkX11_isWithin (i := 9) rfl) rfl (Or.inr (Or.inl rfl)) rfl
set_option maxRecDepth 20000 in
theorem T_X11_isKind {sc : Option (Nat × (Nat → Int32))} {RF : Nat → Nat → Option Nat} {d : Nat} (hR : am_RFok RF) (hd : 1 ≤ d) {a0 : Int32} {s : am_S} {r : Int32 × am_S} (h : F_X11_isKind a0 s = some r) : am_Q sc d mX11_isKind (0, am_L0 mX11_isKind [.int a0], [], am_hp RF s) (.int r.1, am_hp RF r.2) := by
  obtain ⟨e, rfl⟩ : ∃ e, d = e + 1 := ⟨d - 1, by omega⟩
  unfold F_X11_isKind at h
  show am_Q _ _ _ (0, [.int a0], [], _) _
  refine aq_iload_n (am_dg dkX11_isKind (i := 0) rfl) rfl ?_
  refine aq_iconst (v := (1 : Int32)) (am_dg dkX11_isKind (i := 1) rfl) (by decide) ?_
  refine aq_iconst (v := (5 : Int32)) (am_dg dkX11_isKind (i := 2) rfl) (by decide) ?_
  obtain ⟨q1, hq2, h⟩ := am_bnd h
  refine aq_static (a := [.int a0, .int (1 : Int32), .int (5 : Int32)]) (S1 := []) (v1 := .int q1.1) (S2 := [.int q1.1]) (am_dg dkX11_isKind (i := 3) rfl) ct_11_149 rfl rfl rfl (Nat.le_of_ble_eq_true rfl) (Nat.le_of_ble_eq_true rfl) (T_X11_isWithin hR (by omega) hq2) rfl ?_
  obtain ⟨hg3, h⟩ := am_guard h
  obtain rfl := Option.some.inj h
  exact aq_ireturn (am_dg dkX11_isKind (i := 4) rfl) rfl (Or.inr (Or.inl rfl)) (am_nz hg3)
set_option maxRecDepth 20000 in
theorem T_X11_isPitch {sc : Option (Nat × (Nat → Int32))} {RF : Nat → Nat → Option Nat} {d : Nat} (hR : am_RFok RF) (hd : 1 ≤ d) {a0 : Int32} {s : am_S} {r : Int32 × am_S} (h : F_X11_isPitch a0 s = some r) : am_Q sc d mX11_isPitch (0, am_L0 mX11_isPitch [.int a0], [], am_hp RF s) (.int r.1, am_hp RF r.2) := by
  obtain ⟨e, rfl⟩ : ∃ e, d = e + 1 := ⟨d - 1, by omega⟩
  unfold F_X11_isPitch at h
  show am_Q _ _ _ (0, [.int a0], [], _) _
  refine aq_iload_n (am_dg dkX11_isPitch (i := 0) rfl) rfl ?_
  refine aq_iconst (v := (0 : Int32)) (am_dg dkX11_isPitch (i := 1) rfl) (by decide) ?_
  refine aq_bipush (v := (9 : Int32)) (am_dg dkX11_isPitch (i := 2) rfl) (by decide) ?_
  obtain ⟨q1, hq2, h⟩ := am_bnd h
  refine aq_static (a := [.int a0, .int (0 : Int32), .int (9 : Int32)]) (S1 := []) (v1 := .int q1.1) (S2 := [.int q1.1]) (am_dg dkX11_isPitch (i := 3) rfl) ct_11_149 rfl rfl rfl (Nat.le_of_ble_eq_true rfl) (Nat.le_of_ble_eq_true rfl) (T_X11_isWithin hR (by omega) hq2) rfl ?_
  obtain ⟨hg3, h⟩ := am_guard h
  obtain rfl := Option.some.inj h
  exact aq_ireturn (am_dg dkX11_isPitch (i := 4) rfl) rfl (Or.inr (Or.inl rfl)) (am_nz hg3)
set_option maxRecDepth 20000 in
theorem T_X11_isStrength {sc : Option (Nat × (Nat → Int32))} {RF : Nat → Nat → Option Nat} {d : Nat} (hR : am_RFok RF) (hd : 1 ≤ d) {a0 : Int32} {s : am_S} {r : Int32 × am_S} (h : F_X11_isStrength a0 s = some r) : am_Q sc d mX11_isStrength (0, am_L0 mX11_isStrength [.int a0], [], am_hp RF s) (.int r.1, am_hp RF r.2) := by
  obtain ⟨e, rfl⟩ : ∃ e, d = e + 1 := ⟨d - 1, by omega⟩
  unfold F_X11_isStrength at h
  show am_Q _ _ _ (0, [.int a0], [], _) _
  refine aq_iload_n (am_dg dkX11_isStrength (i := 0) rfl) rfl ?_
  refine aq_iconst (v := (1 : Int32)) (am_dg dkX11_isStrength (i := 1) rfl) (by decide) ?_
  refine aq_bipush (v := (9 : Int32)) (am_dg dkX11_isStrength (i := 2) rfl) (by decide) ?_
  obtain ⟨q1, hq2, h⟩ := am_bnd h
  refine aq_static (a := [.int a0, .int (1 : Int32), .int (9 : Int32)]) (S1 := []) (v1 := .int q1.1) (S2 := [.int q1.1]) (am_dg dkX11_isStrength (i := 3) rfl) ct_11_149 rfl rfl rfl (Nat.le_of_ble_eq_true rfl) (Nat.le_of_ble_eq_true rfl) (T_X11_isWithin hR (by omega) hq2) rfl ?_
  obtain ⟨hg3, h⟩ := am_guard h
  obtain rfl := Option.some.inj h
  exact aq_ireturn (am_dg dkX11_isStrength (i := 4) rfl) rfl (Or.inr (Or.inl rfl)) (am_nz hg3)
set_option maxRecDepth 20000 in
theorem T_X11_isPlace {sc : Option (Nat × (Nat → Int32))} {RF : Nat → Nat → Option Nat} {d : Nat} (hR : am_RFok RF) (hd : 1 ≤ d) {a0 : Int32} {s : am_S} {r : Int32 × am_S} (h : F_X11_isPlace a0 s = some r) : am_Q sc d mX11_isPlace (0, am_L0 mX11_isPlace [.int a0], [], am_hp RF s) (.int r.1, am_hp RF r.2) := by
  obtain ⟨e, rfl⟩ : ∃ e, d = e + 1 := ⟨d - 1, by omega⟩
  unfold F_X11_isPlace at h
  show am_Q _ _ _ (0, [.int a0], [], _) _
  refine aq_iload_n (am_dg dkX11_isPlace (i := 0) rfl) rfl ?_
  refine aq_iconst (v := (0 : Int32)) (am_dg dkX11_isPlace (i := 1) rfl) (by decide) ?_
  refine aq_bipush (v := (15 : Int32)) (am_dg dkX11_isPlace (i := 2) rfl) (by decide) ?_
  obtain ⟨q1, hq2, h⟩ := am_bnd h
  refine aq_static (a := [.int a0, .int (0 : Int32), .int (15 : Int32)]) (S1 := []) (v1 := .int q1.1) (S2 := [.int q1.1]) (am_dg dkX11_isPlace (i := 3) rfl) ct_11_149 rfl rfl rfl (Nat.le_of_ble_eq_true rfl) (Nat.le_of_ble_eq_true rfl) (T_X11_isWithin hR (by omega) hq2) rfl ?_
  obtain ⟨hg3, h⟩ := am_guard h
  obtain rfl := Option.some.inj h
  exact aq_ireturn (am_dg dkX11_isPlace (i := 4) rfl) rfl (Or.inr (Or.inl rfl)) (am_nz hg3)
set_option maxRecDepth 20000 in
theorem T_X8_addVoice_8 {sc : Option (Nat × (Nat → Int32))} {RF : Nat → Nat → Option Nat} {d : Nat} (hR : am_RFok RF) (hd : 0 ≤ d) {a1 : Int32} {a2 : Int32} {a3 : Int32} {a4 : Int32} {s : am_S} {r : Int32 × am_S} (h : F_X8_addVoice_8 a1 a2 a3 a4 s = some r) : am_Q sc d mX8_addVoice (0, am_L0 mX8_addVoice [.ref 8, .int a1, .int a2, .int a3, .int a4], [], am_hp RF s) (.int r.1, am_hp RF r.2) := by
  unfold F_X8_addVoice_8 at h
  show am_Q _ _ _ (0, [.ref 8, .int a1, .int a2, .int a3, .int a4], [], _) _
  refine aq_aload_n (am_dg dkX8_addVoice (i := 0) rfl) rfl ?_
  refine aq_getI (am_dg dkX8_addVoice (i := 1) rfl) gk_8_72_8 (by decide) ?_
  refine aq_bipush (v := (6 : Int32)) (am_dg dkX8_addVoice (i := 2) rfl) (by decide) ?_
  by_cases hc1 : (s.1 8 5) < (6 : Int32)
  · rw [if_pos hc1] at h
    refine aq_icT (t := 12) (am_dg dkX8_addVoice (i := 3) rfl) rfl (decide_eq_true hc1) ?_
    refine aq_aload_n (am_dg dkX8_addVoice (i := 6) rfl) rfl ?_
    refine aq_getR (am_dg dkX8_addVoice (i := 7) rfl) gk_8_15_8 (rf_8_9 hR) ?_
    refine aq_aload_n (am_dg dkX8_addVoice (i := 8) rfl) rfl ?_
    refine aq_getI (am_dg dkX8_addVoice (i := 9) rfl) gk_8_72_8 (by decide) ?_
    refine aq_iload_n (am_dg dkX8_addVoice (i := 10) rfl) rfl ?_
    obtain ⟨hg2, h⟩ := am_guard h
    refine aq_iast (am_dg dkX8_addVoice (i := 11) rfl) sh_10 hg2 ?_
    obtain ⟨s3, hs4, h⟩ := am_bnd h
    rw [Option.some.inj hs4]
    refine aq_aload_n (am_dg dkX8_addVoice (i := 12) rfl) rfl ?_
    refine aq_getR (am_dg dkX8_addVoice (i := 13) rfl) gk_8_18_8 (rf_8_10 hR) ?_
    refine aq_aload_n (am_dg dkX8_addVoice (i := 14) rfl) rfl ?_
    refine aq_getI (am_dg dkX8_addVoice (i := 15) rfl) gk_8_72_8 (by decide) ?_
    refine aq_iload_n (am_dg dkX8_addVoice (i := 16) rfl) rfl ?_
    obtain ⟨hg5, h⟩ := am_guard h
    refine aq_iast (am_dg dkX8_addVoice (i := 17) rfl) sh_11 hg5 ?_
    obtain ⟨s6, hs7, h⟩ := am_bnd h
    rw [Option.some.inj hs7]
    refine aq_aload_n (am_dg dkX8_addVoice (i := 18) rfl) rfl ?_
    refine aq_getR (am_dg dkX8_addVoice (i := 19) rfl) gk_8_21_8 (rf_8_11 hR) ?_
    refine aq_aload_n (am_dg dkX8_addVoice (i := 20) rfl) rfl ?_
    refine aq_getI (am_dg dkX8_addVoice (i := 21) rfl) gk_8_72_8 (by decide) ?_
    refine aq_iload_n (am_dg dkX8_addVoice (i := 22) rfl) rfl ?_
    obtain ⟨hg8, h⟩ := am_guard h
    refine aq_iast (am_dg dkX8_addVoice (i := 23) rfl) sh_12 hg8 ?_
    obtain ⟨s9, hs10, h⟩ := am_bnd h
    rw [Option.some.inj hs10]
    refine aq_aload_n (am_dg dkX8_addVoice (i := 24) rfl) rfl ?_
    refine aq_getR (am_dg dkX8_addVoice (i := 25) rfl) gk_8_24_8 (rf_8_12 hR) ?_
    refine aq_aload_n (am_dg dkX8_addVoice (i := 26) rfl) rfl ?_
    refine aq_getI (am_dg dkX8_addVoice (i := 27) rfl) gk_8_72_8 (by decide) ?_
    refine aq_iload (am_dg dkX8_addVoice (i := 28) rfl) rfl ?_
    obtain ⟨hg11, h⟩ := am_guard h
    refine aq_iast (am_dg dkX8_addVoice (i := 29) rfl) sh_13 hg11 ?_
    obtain ⟨s12, hs13, h⟩ := am_bnd h
    rw [Option.some.inj hs13]
    refine aq_aload_n (am_dg dkX8_addVoice (i := 30) rfl) rfl ?_
    refine aq_dup (am_dg dkX8_addVoice (i := 31) rfl) rfl ?_
    refine aq_getI (am_dg dkX8_addVoice (i := 32) rfl) gk_8_72_8 (by decide) ?_
    refine aq_iconst (v := (1 : Int32)) (am_dg dkX8_addVoice (i := 33) rfl) (by decide) ?_
    refine aq_iadd (am_dg dkX8_addVoice (i := 34) rfl) ?_
    refine aq_putI (am_dg dkX8_addVoice (i := 35) rfl) gk_8_72_8 ?_
    obtain ⟨s14, hs15, h⟩ := am_bnd h
    rw [Option.some.inj hs15]
    refine aq_aload_n (am_dg dkX8_addVoice (i := 36) rfl) rfl ?_
    refine aq_getI (am_dg dkX8_addVoice (i := 37) rfl) gk_8_72_8 (by decide) ?_
    refine aq_iconst (v := (1 : Int32)) (am_dg dkX8_addVoice (i := 38) rfl) (by decide) ?_
    refine aq_isub (am_dg dkX8_addVoice (i := 39) rfl) ?_
    obtain rfl := Option.some.inj h
    exact aq_ireturn (am_dg dkX8_addVoice (i := 40) rfl) rfl (Or.inl rfl) rfl
  · rw [if_neg hc1] at h
    refine aq_icF (t := 12) (am_dg dkX8_addVoice (i := 3) rfl) rfl (decide_eq_false hc1) ?_
    refine aq_bipush (v := (-2 : Int32)) (am_dg dkX8_addVoice (i := 4) rfl) (by decide) ?_
    obtain rfl := Option.some.inj h
    exact aq_ireturn (am_dg dkX8_addVoice (i := 5) rfl) rfl (Or.inl rfl) rfl
set_option maxRecDepth 20000 in
theorem T_X11_voice_0_b34 {sc : Option (Nat × (Nat → Int32))} {RF : Nat → Nat → Option Nat} {d : Nat} (hR : am_RFok RF) (hd : 2 ≤ d) : ∀ (x1 : Int32) (x2 : Int32) (x3 : Int32) (x4 : Int32) (y0 : Int32) (w5 : Value) (s : am_S) (r : Int32 × am_S), F_X11_voice_0_b34 x1 x2 x3 x4 y0 s = some r → am_Q sc d mX11_voice (34, [.ref 0, .int x1, .int x2, .int x3, .int x4, w5], [.int y0], am_hp RF s) (.int r.1, am_hp RF r.2) := by
  obtain ⟨e, rfl⟩ : ∃ e, d = e + 1 := ⟨d - 1, by omega⟩
  intro x1 x2 x3 x4 y0 w5 s r h
  unfold F_X11_voice_0_b34 at h
  refine aq_istore (L1 := [.ref 0, .int x1, .int x2, .int x3, .int x4, .int y0]) (am_dg dkX11_voice (i := 15) rfl) rfl ?_
  refine aq_iload (am_dg dkX11_voice (i := 16) rfl) rfl ?_
  by_cases hc1 : y0 = (0 : Int32)
  · rw [if_pos hc1] at h
    refine aq_ifT (t := 56) (am_dg dkX11_voice (i := 17) rfl) rfl (decide_eq_true hc1) ?_
    refine aq_iconst (v := (-1 : Int32)) (am_dg dkX11_voice (i := 26) rfl) (by decide) ?_
    obtain rfl := Option.some.inj h
    exact aq_ireturn (am_dg dkX11_voice (i := 27) rfl) rfl (Or.inl rfl) rfl
  · rw [if_neg hc1] at h
    refine aq_ifF (t := 56) (am_dg dkX11_voice (i := 17) rfl) rfl (decide_eq_false hc1) ?_
    refine aq_aload_n (am_dg dkX11_voice (i := 18) rfl) rfl ?_
    refine aq_getR (am_dg dkX11_voice (i := 19) rfl) gk_11_30_0 (rf_0_0 hR) ?_
    refine aq_iload_n (am_dg dkX11_voice (i := 20) rfl) rfl ?_
    refine aq_iload_n (am_dg dkX11_voice (i := 21) rfl) rfl ?_
    refine aq_iload_n (am_dg dkX11_voice (i := 22) rfl) rfl ?_
    refine aq_iload (am_dg dkX11_voice (i := 23) rfl) rfl ?_
    obtain ⟨q2, hq3, h⟩ := am_bnd h
    refine aq_virt (a := [.ref 8, .int x1, .int x2, .int x3, .int x4]) (S1 := []) (v1 := .int q2.1) (S2 := [.int q2.1]) (am_dg dkX11_voice (i := 24) rfl) cv_11_106_8 (am_cls_c sh_8 (by decide)) rfl rfl rfl (Nat.le_of_ble_eq_true rfl) (Nat.le_of_ble_eq_true rfl) (T_X8_addVoice_8 hR (by omega) hq3) rfl ?_
    refine aq_goto (t := 57) (am_dg dkX11_voice (i := 25) rfl) rfl ?_
    obtain rfl := Option.some.inj h
    exact aq_ireturn (am_dg dkX11_voice (i := 27) rfl) rfl (Or.inl rfl) rfl
set_option maxRecDepth 20000 in
theorem T_X11_voice_0_b33 {sc : Option (Nat × (Nat → Int32))} {RF : Nat → Nat → Option Nat} {d : Nat} (hR : am_RFok RF) (hd : 2 ≤ d) : ∀ (x1 : Int32) (x2 : Int32) (x3 : Int32) (x4 : Int32) (w5 : Value) (s : am_S) (r : Int32 × am_S), F_X11_voice_0_b33 x1 x2 x3 x4 s = some r → am_Q sc d mX11_voice (33, [.ref 0, .int x1, .int x2, .int x3, .int x4, w5], [], am_hp RF s) (.int r.1, am_hp RF r.2) := by
  obtain ⟨e, rfl⟩ : ∃ e, d = e + 1 := ⟨d - 1, by omega⟩
  intro x1 x2 x3 x4 w5 s r h
  unfold F_X11_voice_0_b33 at h
  refine aq_iconst (v := (0 : Int32)) (am_dg dkX11_voice (i := 14) rfl) (by decide) ?_
  exact T_X11_voice_0_b34 hR (by omega) _ _ _ _ _ _ _ _ h
set_option maxRecDepth 20000 in
theorem T_X11_voice_0 {sc : Option (Nat × (Nat → Int32))} {RF : Nat → Nat → Option Nat} {d : Nat} (hR : am_RFok RF) (hd : 2 ≤ d) {a1 : Int32} {a2 : Int32} {a3 : Int32} {a4 : Int32} {s : am_S} {r : Int32 × am_S} (h : F_X11_voice_0 a1 a2 a3 a4 s = some r) : am_Q sc d mX11_voice (0, am_L0 mX11_voice [.ref 0, .int a1, .int a2, .int a3, .int a4], [], am_hp RF s) (.int r.1, am_hp RF r.2) := by
  obtain ⟨e, rfl⟩ : ∃ e, d = e + 1 := ⟨d - 1, by omega⟩
  unfold F_X11_voice_0 at h
  show am_Q _ _ _ (0, [.ref 0, .int a1, .int a2, .int a3, .int a4, .null], [], _) _
  refine aq_iload_n (am_dg dkX11_voice (i := 0) rfl) rfl ?_
  obtain ⟨q1, hq2, h⟩ := am_bnd h
  refine aq_static (a := [.int a1]) (S1 := []) (v1 := .int q1.1) (S2 := [.int q1.1]) (am_dg dkX11_voice (i := 1) rfl) ct_11_93 rfl rfl rfl (Nat.le_of_ble_eq_true rfl) (Nat.le_of_ble_eq_true rfl) (T_X11_isKind hR (by omega) hq2) rfl ?_
  by_cases hc3 : q1.1 = (0 : Int32)
  · rw [if_pos hc3] at h
    refine aq_ifT (t := 33) (am_dg dkX11_voice (i := 2) rfl) rfl (decide_eq_true hc3) ?_
    exact T_X11_voice_0_b33 hR (by omega) _ _ _ _ _ _ _ h
  · rw [if_neg hc3] at h
    refine aq_ifF (t := 33) (am_dg dkX11_voice (i := 2) rfl) rfl (decide_eq_false hc3) ?_
    refine aq_iload_n (am_dg dkX11_voice (i := 3) rfl) rfl ?_
    obtain ⟨q4, hq5, h⟩ := am_bnd h
    refine aq_static (a := [.int a2]) (S1 := []) (v1 := .int q4.1) (S2 := [.int q4.1]) (am_dg dkX11_voice (i := 4) rfl) ct_11_97 rfl rfl rfl (Nat.le_of_ble_eq_true rfl) (Nat.le_of_ble_eq_true rfl) (T_X11_isPitch hR (by omega) hq5) rfl ?_
    by_cases hc6 : q4.1 = (0 : Int32)
    · rw [if_pos hc6] at h
      refine aq_ifT (t := 33) (am_dg dkX11_voice (i := 5) rfl) rfl (decide_eq_true hc6) ?_
      exact T_X11_voice_0_b33 hR (by omega) _ _ _ _ _ _ _ h
    · rw [if_neg hc6] at h
      refine aq_ifF (t := 33) (am_dg dkX11_voice (i := 5) rfl) rfl (decide_eq_false hc6) ?_
      refine aq_iload_n (am_dg dkX11_voice (i := 6) rfl) rfl ?_
      obtain ⟨q7, hq8, h⟩ := am_bnd h
      refine aq_static (a := [.int a3]) (S1 := []) (v1 := .int q7.1) (S2 := [.int q7.1]) (am_dg dkX11_voice (i := 7) rfl) ct_11_100 rfl rfl rfl (Nat.le_of_ble_eq_true rfl) (Nat.le_of_ble_eq_true rfl) (T_X11_isStrength hR (by omega) hq8) rfl ?_
      by_cases hc9 : q7.1 = (0 : Int32)
      · rw [if_pos hc9] at h
        refine aq_ifT (t := 33) (am_dg dkX11_voice (i := 8) rfl) rfl (decide_eq_true hc9) ?_
        exact T_X11_voice_0_b33 hR (by omega) _ _ _ _ _ _ _ h
      · rw [if_neg hc9] at h
        refine aq_ifF (t := 33) (am_dg dkX11_voice (i := 8) rfl) rfl (decide_eq_false hc9) ?_
        refine aq_iload (am_dg dkX11_voice (i := 9) rfl) rfl ?_
        obtain ⟨q10, hq11, h⟩ := am_bnd h
        refine aq_static (a := [.int a4]) (S1 := []) (v1 := .int q10.1) (S2 := [.int q10.1]) (am_dg dkX11_voice (i := 10) rfl) ct_11_103 rfl rfl rfl (Nat.le_of_ble_eq_true rfl) (Nat.le_of_ble_eq_true rfl) (T_X11_isPlace hR (by omega) hq11) rfl ?_
        by_cases hc12 : q10.1 = (0 : Int32)
        · rw [if_pos hc12] at h
          refine aq_ifT (t := 33) (am_dg dkX11_voice (i := 11) rfl) rfl (decide_eq_true hc12) ?_
          exact T_X11_voice_0_b33 hR (by omega) _ _ _ _ _ _ _ h
        · rw [if_neg hc12] at h
          refine aq_ifF (t := 33) (am_dg dkX11_voice (i := 11) rfl) rfl (decide_eq_false hc12) ?_
          refine aq_iconst (v := (1 : Int32)) (am_dg dkX11_voice (i := 12) rfl) (by decide) ?_
          refine aq_goto (t := 34) (am_dg dkX11_voice (i := 13) rfl) rfl ?_
          exact T_X11_voice_0_b34 hR (by omega) _ _ _ _ _ _ _ _ h
set_option maxRecDepth 20000 in
theorem T_X12_in {sc : Option (Nat × (Nat → Int32))} {RF : Nat → Nat → Option Nat} {d : Nat} (hR : am_RFok RF) (hd : 0 ≤ d) {a0 : Int64} {a1 : Int64} {a2 : Int64} {s : am_S} {r : Int32 × am_S} (h : F_X12_in a0 a1 a2 s = some r) : am_Q sc d mX12_in (0, am_L0 mX12_in [.long a0, .long a1, .long a2], [], am_hp RF s) (.int r.1, am_hp RF r.2) := by
  unfold F_X12_in at h
  show am_Q _ _ _ (0, [.long a0, .null, .long a1, .null, .long a2, .null], [], _) _
  refine aq_lload_n (am_dg dkX12_in (i := 0) rfl) rfl ?_
  refine aq_lload_n (am_dg dkX12_in (i := 1) rfl) rfl ?_
  refine aq_lcmp (am_dg dkX12_in (i := 2) rfl) ?_
  by_cases hc1 : (lg_cmp a0 a1) < (0 : Int32)
  · rw [if_pos hc1] at h
    refine aq_ifT (t := 17) (am_dg dkX12_in (i := 3) rfl) rfl (decide_eq_true hc1) ?_
    refine aq_iconst (v := (0 : Int32)) (am_dg dkX12_in (i := 10) rfl) (by decide) ?_
    obtain rfl := Option.some.inj h
    exact aq_ireturn (am_dg dkX12_in (i := 11) rfl) rfl (Or.inr (Or.inl rfl)) rfl
  · rw [if_neg hc1] at h
    refine aq_ifF (t := 17) (am_dg dkX12_in (i := 3) rfl) rfl (decide_eq_false hc1) ?_
    refine aq_lload_n (am_dg dkX12_in (i := 4) rfl) rfl ?_
    refine aq_lload (am_dg dkX12_in (i := 5) rfl) rfl ?_
    refine aq_lcmp (am_dg dkX12_in (i := 6) rfl) ?_
    by_cases hc2 : (0 : Int32) < (lg_cmp a0 a2)
    · rw [if_pos hc2] at h
      refine aq_ifT (t := 17) (am_dg dkX12_in (i := 7) rfl) rfl (decide_eq_true hc2) ?_
      refine aq_iconst (v := (0 : Int32)) (am_dg dkX12_in (i := 10) rfl) (by decide) ?_
      obtain rfl := Option.some.inj h
      exact aq_ireturn (am_dg dkX12_in (i := 11) rfl) rfl (Or.inr (Or.inl rfl)) rfl
    · rw [if_neg hc2] at h
      refine aq_ifF (t := 17) (am_dg dkX12_in (i := 7) rfl) rfl (decide_eq_false hc2) ?_
      refine aq_iconst (v := (1 : Int32)) (am_dg dkX12_in (i := 8) rfl) (by decide) ?_
      refine aq_goto (t := 18) (am_dg dkX12_in (i := 9) rfl) rfl ?_
      obtain rfl := Option.some.inj h
      exact aq_ireturn (am_dg dkX12_in (i := 11) rfl) rfl (Or.inr (Or.inl rfl)) rfl
set_option maxRecDepth 20000 in
theorem T_X12_isKind {sc : Option (Nat × (Nat → Int32))} {RF : Nat → Nat → Option Nat} {d : Nat} (hR : am_RFok RF) (hd : 1 ≤ d) {a0 : Int32} {s : am_S} {r : Int32 × am_S} (h : F_X12_isKind a0 s = some r) : am_Q sc d mX12_isKind (0, am_L0 mX12_isKind [.int a0], [], am_hp RF s) (.int r.1, am_hp RF r.2) := by
  obtain ⟨e, rfl⟩ : ∃ e, d = e + 1 := ⟨d - 1, by omega⟩
  unfold F_X12_isKind at h
  show am_Q _ _ _ (0, [.int a0], [], _) _
  refine aq_iload_n (am_dg dkX12_isKind (i := 0) rfl) rfl ?_
  refine aq_i2l (am_dg dkX12_isKind (i := 1) rfl) ?_
  refine aq_lconst (v := (1 : Int64)) (am_dg dkX12_isKind (i := 2) rfl) (by decide) ?_
  refine aq_ldc2 (am_dg dkX12_isKind (i := 3) rfl) cl_12_69 ?_
  obtain ⟨q1, hq2, h⟩ := am_bnd h
  refine aq_static (a := [.long a0.toInt64, .long (1 : Int64), .long (5 : Int64)]) (S1 := []) (v1 := .int q1.1) (S2 := [.int q1.1]) (am_dg dkX12_isKind (i := 4) rfl) ct_12_61 rfl rfl rfl (Nat.le_of_ble_eq_true rfl) (Nat.le_of_ble_eq_true rfl) (T_X12_in hR (by omega) hq2) rfl ?_
  obtain ⟨hg3, h⟩ := am_guard h
  obtain rfl := Option.some.inj h
  exact aq_ireturn (am_dg dkX12_isKind (i := 5) rfl) rfl (Or.inr (Or.inl rfl)) (am_nz hg3)
set_option maxRecDepth 20000 in
theorem T_X12_isPart {sc : Option (Nat × (Nat → Int32))} {RF : Nat → Nat → Option Nat} {d : Nat} (hR : am_RFok RF) (hd : 1 ≤ d) {a0 : Int32} {a1 : Int32} {s : am_S} {r : Int32 × am_S} (h : F_X12_isPart a0 a1 s = some r) : am_Q sc d mX12_isPart (0, am_L0 mX12_isPart [.int a0, .int a1], [], am_hp RF s) (.int r.1, am_hp RF r.2) := by
  obtain ⟨e, rfl⟩ : ∃ e, d = e + 1 := ⟨d - 1, by omega⟩
  unfold F_X12_isPart at h
  show am_Q _ _ _ (0, [.int a0, .int a1], [], _) _
  refine aq_iload_n (am_dg dkX12_isPart (i := 0) rfl) rfl ?_
  by_cases hc1 : a0 = (1 : Int32)
  · rw [if_pos hc1] at h
    refine aq_tsw (t := 28) (am_dg dkX12_isPart (i := 1) rfl) (by rw [hc1]; rfl) ?_
    refine aq_iload_n (am_dg dkX12_isPart (i := 2) rfl) rfl ?_
    refine aq_i2l (am_dg dkX12_isPart (i := 3) rfl) ?_
    refine aq_lconst (v := (0 : Int64)) (am_dg dkX12_isPart (i := 4) rfl) (by decide) ?_
    refine aq_ldc2 (am_dg dkX12_isPart (i := 5) rfl) cl_12_71 ?_
    obtain ⟨q2, hq3, h⟩ := am_bnd h
    refine aq_static (a := [.long a1.toInt64, .long (0 : Int64), .long (9 : Int64)]) (S1 := []) (v1 := .int q2.1) (S2 := [.int q2.1]) (am_dg dkX12_isPart (i := 6) rfl) ct_12_61 rfl rfl rfl (Nat.le_of_ble_eq_true rfl) (Nat.le_of_ble_eq_true rfl) (T_X12_in hR (by omega) hq3) rfl ?_
    obtain ⟨hg4, h⟩ := am_guard h
    obtain rfl := Option.some.inj h
    exact aq_ireturn (am_dg dkX12_isPart (i := 7) rfl) rfl (Or.inr (Or.inl rfl)) (am_nz hg4)
  rw [if_neg hc1] at h
  by_cases hc5 : a0 = (2 : Int32)
  · rw [if_pos hc5] at h
    refine aq_tsw (t := 38) (am_dg dkX12_isPart (i := 1) rfl) (by rw [hc5]; rfl) ?_
    refine aq_iload_n (am_dg dkX12_isPart (i := 8) rfl) rfl ?_
    refine aq_i2l (am_dg dkX12_isPart (i := 9) rfl) ?_
    refine aq_lconst (v := (1 : Int64)) (am_dg dkX12_isPart (i := 10) rfl) (by decide) ?_
    refine aq_ldc2 (am_dg dkX12_isPart (i := 11) rfl) cl_12_71 ?_
    obtain ⟨q6, hq7, h⟩ := am_bnd h
    refine aq_static (a := [.long a1.toInt64, .long (1 : Int64), .long (9 : Int64)]) (S1 := []) (v1 := .int q6.1) (S2 := [.int q6.1]) (am_dg dkX12_isPart (i := 12) rfl) ct_12_61 rfl rfl rfl (Nat.le_of_ble_eq_true rfl) (Nat.le_of_ble_eq_true rfl) (T_X12_in hR (by omega) hq7) rfl ?_
    obtain ⟨hg8, h⟩ := am_guard h
    obtain rfl := Option.some.inj h
    exact aq_ireturn (am_dg dkX12_isPart (i := 13) rfl) rfl (Or.inr (Or.inl rfl)) (am_nz hg8)
  rw [if_neg hc5] at h
  by_cases hc9 : a0 = (3 : Int32)
  · rw [if_pos hc9] at h
    refine aq_tsw (t := 48) (am_dg dkX12_isPart (i := 1) rfl) (by rw [hc9]; rfl) ?_
    refine aq_iload_n (am_dg dkX12_isPart (i := 14) rfl) rfl ?_
    refine aq_i2l (am_dg dkX12_isPart (i := 15) rfl) ?_
    refine aq_lconst (v := (0 : Int64)) (am_dg dkX12_isPart (i := 16) rfl) (by decide) ?_
    refine aq_ldc2 (am_dg dkX12_isPart (i := 17) rfl) cl_12_73 ?_
    obtain ⟨q10, hq11, h⟩ := am_bnd h
    refine aq_static (a := [.long a1.toInt64, .long (0 : Int64), .long (15 : Int64)]) (S1 := []) (v1 := .int q10.1) (S2 := [.int q10.1]) (am_dg dkX12_isPart (i := 18) rfl) ct_12_61 rfl rfl rfl (Nat.le_of_ble_eq_true rfl) (Nat.le_of_ble_eq_true rfl) (T_X12_in hR (by omega) hq11) rfl ?_
    obtain ⟨hg12, h⟩ := am_guard h
    obtain rfl := Option.some.inj h
    exact aq_ireturn (am_dg dkX12_isPart (i := 19) rfl) rfl (Or.inr (Or.inl rfl)) (am_nz hg12)
  rw [if_neg hc9] at h
  refine aq_tsw (t := 58) (am_dg dkX12_isPart (i := 1) rfl) (am_tsw_d (by have := lv_neT hc1 (show ((1 : Int32)).toInt = 1 by decide); have := lv_neT hc5 (show ((2 : Int32)).toInt = 2 by decide); have := lv_neT hc9 (show ((3 : Int32)).toInt = 3 by decide); omega) rfl) ?_
  refine aq_iload_n (am_dg dkX12_isPart (i := 20) rfl) rfl ?_
  refine aq_iconst (v := (4 : Int32)) (am_dg dkX12_isPart (i := 21) rfl) (by decide) ?_
  by_cases hc13 : a0 = (4 : Int32)
  · rw [if_pos hc13] at h
    refine aq_icF (t := 77) (am_dg dkX12_isPart (i := 22) rfl) rfl (decide_eq_false (not_not_intro hc13)) ?_
    refine aq_iload_n (am_dg dkX12_isPart (i := 23) rfl) rfl ?_
    refine aq_i2l (am_dg dkX12_isPart (i := 24) rfl) ?_
    refine aq_lconst (v := (0 : Int64)) (am_dg dkX12_isPart (i := 25) rfl) (by decide) ?_
    refine aq_lconst (v := (1 : Int64)) (am_dg dkX12_isPart (i := 26) rfl) (by decide) ?_
    obtain ⟨q14, hq15, h⟩ := am_bnd h
    refine aq_static (a := [.long a1.toInt64, .long (0 : Int64), .long (1 : Int64)]) (S1 := []) (v1 := .int q14.1) (S2 := [.int q14.1]) (am_dg dkX12_isPart (i := 27) rfl) ct_12_61 rfl rfl rfl (Nat.le_of_ble_eq_true rfl) (Nat.le_of_ble_eq_true rfl) (T_X12_in hR (by omega) hq15) rfl ?_
    by_cases hc16 : q14.1 = (0 : Int32)
    · rw [if_pos hc16] at h
      refine aq_ifT (t := 77) (am_dg dkX12_isPart (i := 28) rfl) rfl (decide_eq_true hc16) ?_
      refine aq_iconst (v := (0 : Int32)) (am_dg dkX12_isPart (i := 31) rfl) (by decide) ?_
      obtain rfl := Option.some.inj h
      exact aq_ireturn (am_dg dkX12_isPart (i := 32) rfl) rfl (Or.inr (Or.inl rfl)) rfl
    · rw [if_neg hc16] at h
      refine aq_ifF (t := 77) (am_dg dkX12_isPart (i := 28) rfl) rfl (decide_eq_false hc16) ?_
      refine aq_iconst (v := (1 : Int32)) (am_dg dkX12_isPart (i := 29) rfl) (by decide) ?_
      refine aq_goto (t := 78) (am_dg dkX12_isPart (i := 30) rfl) rfl ?_
      obtain rfl := Option.some.inj h
      exact aq_ireturn (am_dg dkX12_isPart (i := 32) rfl) rfl (Or.inr (Or.inl rfl)) rfl
  · rw [if_neg hc13] at h
    refine aq_icT (t := 77) (am_dg dkX12_isPart (i := 22) rfl) rfl (decide_eq_true hc13) ?_
    refine aq_iconst (v := (0 : Int32)) (am_dg dkX12_isPart (i := 31) rfl) (by decide) ?_
    obtain rfl := Option.some.inj h
    exact aq_ireturn (am_dg dkX12_isPart (i := 32) rfl) rfl (Or.inr (Or.inl rfl)) rfl
set_option maxRecDepth 20000 in
theorem T_X12_at {sc : Option (Nat × (Nat → Int32))} {RF : Nat → Nat → Option Nat} {d : Nat} (hR : am_RFok RF) (hd : 0 ≤ d) {a0 : Int32} {a1 : Int32} {s : am_S} {r : Int32 × am_S} (h : F_X12_at a0 a1 s = some r) : am_Q sc d mX12_at (0, am_L0 mX12_at [.int a0, .int a1], [], am_hp RF s) (.int r.1, am_hp RF r.2) := by
  unfold F_X12_at at h
  show am_Q _ _ _ (0, [.int a0, .int a1], [], _) _
  refine aq_bipush (v := (24 : Int32)) (am_dg dkX12_at (i := 0) rfl) (by decide) ?_
  refine aq_iconst (v := (5 : Int32)) (am_dg dkX12_at (i := 1) rfl) (by decide) ?_
  refine aq_iload_n (am_dg dkX12_at (i := 2) rfl) rfl ?_
  refine aq_imul (am_dg dkX12_at (i := 3) rfl) ?_
  refine aq_iadd (am_dg dkX12_at (i := 4) rfl) ?_
  refine aq_iload_n (am_dg dkX12_at (i := 5) rfl) rfl ?_
  refine aq_iadd (am_dg dkX12_at (i := 6) rfl) ?_
  obtain rfl := Option.some.inj h
  exact aq_ireturn (am_dg dkX12_at (i := 7) rfl) rfl (Or.inl rfl) rfl
set_option maxRecDepth 20000 in
theorem T_X12_voice_82 {sc : Option (Nat × (Nat → Int32))} {RF : Nat → Nat → Option Nat} {d : Nat} (hR : am_RFok RF) (hd : 2 ≤ d) {a1 : Int32} {a2 : Int32} {a3 : Int32} {a4 : Int32} {s : am_S} {r : Int32 × am_S} (h : F_X12_voice_82 a1 a2 a3 a4 s = some r) : am_Q sc d mX12_voice (0, am_L0 mX12_voice [.ref 82, .int a1, .int a2, .int a3, .int a4], [], am_hp RF s) (.int r.1, am_hp RF r.2) := by
  obtain ⟨e, rfl⟩ : ∃ e, d = e + 1 := ⟨d - 1, by omega⟩
  unfold F_X12_voice_82 at h
  show am_Q _ _ _ (0, [.ref 82, .int a1, .int a2, .int a3, .int a4, .null], [], _) _
  refine aq_iload_n (am_dg dkX12_voice (i := 0) rfl) rfl ?_
  obtain ⟨q1, hq2, h⟩ := am_bnd h
  refine aq_static (a := [.int a1]) (S1 := []) (v1 := .int q1.1) (S2 := [.int q1.1]) (am_dg dkX12_voice (i := 1) rfl) ct_12_75 rfl rfl rfl (Nat.le_of_ble_eq_true rfl) (Nat.le_of_ble_eq_true rfl) (T_X12_isKind hR (by omega) hq2) rfl ?_
  by_cases hc3 : q1.1 = (0 : Int32)
  · rw [if_pos hc3] at h
    refine aq_ifT (t := 32) (am_dg dkX12_voice (i := 2) rfl) rfl (decide_eq_true hc3) ?_
    refine aq_iconst (v := (-1 : Int32)) (am_dg dkX12_voice (i := 15) rfl) (by decide) ?_
    obtain rfl := Option.some.inj h
    exact aq_ireturn (am_dg dkX12_voice (i := 16) rfl) rfl (Or.inl rfl) rfl
  · rw [if_neg hc3] at h
    refine aq_ifF (t := 32) (am_dg dkX12_voice (i := 2) rfl) rfl (decide_eq_false hc3) ?_
    refine aq_iconst (v := (1 : Int32)) (am_dg dkX12_voice (i := 3) rfl) (by decide) ?_
    refine aq_iload_n (am_dg dkX12_voice (i := 4) rfl) rfl ?_
    obtain ⟨q4, hq5, h⟩ := am_bnd h
    refine aq_static (a := [.int (1 : Int32), .int a2]) (S1 := []) (v1 := .int q4.1) (S2 := [.int q4.1]) (am_dg dkX12_voice (i := 5) rfl) ct_12_79 rfl rfl rfl (Nat.le_of_ble_eq_true rfl) (Nat.le_of_ble_eq_true rfl) (T_X12_isPart hR (by omega) hq5) rfl ?_
    by_cases hc6 : q4.1 = (0 : Int32)
    · rw [if_pos hc6] at h
      refine aq_ifT (t := 32) (am_dg dkX12_voice (i := 6) rfl) rfl (decide_eq_true hc6) ?_
      refine aq_iconst (v := (-1 : Int32)) (am_dg dkX12_voice (i := 15) rfl) (by decide) ?_
      obtain rfl := Option.some.inj h
      exact aq_ireturn (am_dg dkX12_voice (i := 16) rfl) rfl (Or.inl rfl) rfl
    · rw [if_neg hc6] at h
      refine aq_ifF (t := 32) (am_dg dkX12_voice (i := 6) rfl) rfl (decide_eq_false hc6) ?_
      refine aq_iconst (v := (2 : Int32)) (am_dg dkX12_voice (i := 7) rfl) (by decide) ?_
      refine aq_iload_n (am_dg dkX12_voice (i := 8) rfl) rfl ?_
      obtain ⟨q7, hq8, h⟩ := am_bnd h
      refine aq_static (a := [.int (2 : Int32), .int a3]) (S1 := []) (v1 := .int q7.1) (S2 := [.int q7.1]) (am_dg dkX12_voice (i := 9) rfl) ct_12_79 rfl rfl rfl (Nat.le_of_ble_eq_true rfl) (Nat.le_of_ble_eq_true rfl) (T_X12_isPart hR (by omega) hq8) rfl ?_
      by_cases hc9 : q7.1 = (0 : Int32)
      · rw [if_pos hc9] at h
        refine aq_ifT (t := 32) (am_dg dkX12_voice (i := 10) rfl) rfl (decide_eq_true hc9) ?_
        refine aq_iconst (v := (-1 : Int32)) (am_dg dkX12_voice (i := 15) rfl) (by decide) ?_
        obtain rfl := Option.some.inj h
        exact aq_ireturn (am_dg dkX12_voice (i := 16) rfl) rfl (Or.inl rfl) rfl
      · rw [if_neg hc9] at h
        refine aq_ifF (t := 32) (am_dg dkX12_voice (i := 10) rfl) rfl (decide_eq_false hc9) ?_
        refine aq_iconst (v := (3 : Int32)) (am_dg dkX12_voice (i := 11) rfl) (by decide) ?_
        refine aq_iload (am_dg dkX12_voice (i := 12) rfl) rfl ?_
        obtain ⟨q10, hq11, h⟩ := am_bnd h
        refine aq_static (a := [.int (3 : Int32), .int a4]) (S1 := []) (v1 := .int q10.1) (S2 := [.int q10.1]) (am_dg dkX12_voice (i := 13) rfl) ct_12_79 rfl rfl rfl (Nat.le_of_ble_eq_true rfl) (Nat.le_of_ble_eq_true rfl) (T_X12_isPart hR (by omega) hq11) rfl ?_
        by_cases hc12 : q10.1 = (0 : Int32)
        · rw [if_pos hc12] at h
          refine aq_ifF (t := 34) (am_dg dkX12_voice (i := 14) rfl) rfl (decide_eq_false (not_not_intro hc12)) ?_
          refine aq_iconst (v := (-1 : Int32)) (am_dg dkX12_voice (i := 15) rfl) (by decide) ?_
          obtain rfl := Option.some.inj h
          exact aq_ireturn (am_dg dkX12_voice (i := 16) rfl) rfl (Or.inl rfl) rfl
        · rw [if_neg hc12] at h
          refine aq_ifT (t := 34) (am_dg dkX12_voice (i := 14) rfl) rfl (decide_eq_true hc12) ?_
          refine aq_aload_n (am_dg dkX12_voice (i := 17) rfl) rfl ?_
          refine aq_getR (am_dg dkX12_voice (i := 18) rfl) gk_12_7_82 (rf_82_0 hR) ?_
          refine aq_iconst (v := (0 : Int32)) (am_dg dkX12_voice (i := 19) rfl) (by decide) ?_
          obtain ⟨hg13, h⟩ := am_guard h
          refine aq_iald (am_dg dkX12_voice (i := 20) rfl) sh_83 hg13 ?_
          refine aq_bipush (v := (6 : Int32)) (am_dg dkX12_voice (i := 21) rfl) (by decide) ?_
          by_cases hc14 : (q10.2.1 83 (0 : Int32).toNatClampNeg) = (6 : Int32)
          · rw [if_pos hc14] at h
            refine aq_icF (t := 48) (am_dg dkX12_voice (i := 22) rfl) rfl (decide_eq_false (not_not_intro hc14)) ?_
            refine aq_bipush (v := (-2 : Int32)) (am_dg dkX12_voice (i := 23) rfl) (by decide) ?_
            obtain rfl := Option.some.inj h
            exact aq_ireturn (am_dg dkX12_voice (i := 24) rfl) rfl (Or.inl rfl) rfl
          · rw [if_neg hc14] at h
            refine aq_icT (t := 48) (am_dg dkX12_voice (i := 22) rfl) rfl (decide_eq_true hc14) ?_
            refine aq_aload_n (am_dg dkX12_voice (i := 25) rfl) rfl ?_
            refine aq_getR (am_dg dkX12_voice (i := 26) rfl) gk_12_7_82 (rf_82_0 hR) ?_
            refine aq_iconst (v := (0 : Int32)) (am_dg dkX12_voice (i := 27) rfl) (by decide) ?_
            obtain ⟨hg15, h⟩ := am_guard h
            refine aq_iald (am_dg dkX12_voice (i := 28) rfl) sh_83 hg15 ?_
            refine aq_istore (L1 := [.ref 82, .int a1, .int a2, .int a3, .int a4, .int (q10.2.1 83 (0 : Int32).toNatClampNeg)]) (am_dg dkX12_voice (i := 29) rfl) rfl ?_
            refine aq_aload_n (am_dg dkX12_voice (i := 30) rfl) rfl ?_
            refine aq_getR (am_dg dkX12_voice (i := 31) rfl) gk_12_7_82 (rf_82_0 hR) ?_
            refine aq_iload (am_dg dkX12_voice (i := 32) rfl) rfl ?_
            refine aq_iconst (v := (0 : Int32)) (am_dg dkX12_voice (i := 33) rfl) (by decide) ?_
            obtain ⟨q16, hq17, h⟩ := am_bnd h
            refine aq_static (a := [.int (q10.2.1 83 (0 : Int32).toNatClampNeg), .int (0 : Int32)]) (S1 := [.ref 83]) (v1 := .int q16.1) (S2 := [.int q16.1, .ref 83]) (am_dg dkX12_voice (i := 34) rfl) ct_12_65 rfl rfl rfl (Nat.le_of_ble_eq_true rfl) (Nat.le_of_ble_eq_true rfl) (T_X12_at hR (by omega) hq17) rfl ?_
            refine aq_iload_n (am_dg dkX12_voice (i := 35) rfl) rfl ?_
            obtain ⟨hg18, h⟩ := am_guard h
            refine aq_iast (am_dg dkX12_voice (i := 36) rfl) sh_83 hg18 ?_
            obtain ⟨s19, hs20, h⟩ := am_bnd h
            rw [Option.some.inj hs20]
            refine aq_aload_n (am_dg dkX12_voice (i := 37) rfl) rfl ?_
            refine aq_getR (am_dg dkX12_voice (i := 38) rfl) gk_12_7_82 (rf_82_0 hR) ?_
            refine aq_iload (am_dg dkX12_voice (i := 39) rfl) rfl ?_
            refine aq_iconst (v := (1 : Int32)) (am_dg dkX12_voice (i := 40) rfl) (by decide) ?_
            obtain ⟨q21, hq22, h⟩ := am_bnd h
            refine aq_static (a := [.int (q10.2.1 83 (0 : Int32).toNatClampNeg), .int (1 : Int32)]) (S1 := [.ref 83]) (v1 := .int q21.1) (S2 := [.int q21.1, .ref 83]) (am_dg dkX12_voice (i := 41) rfl) ct_12_65 rfl rfl rfl (Nat.le_of_ble_eq_true rfl) (Nat.le_of_ble_eq_true rfl) (T_X12_at hR (by omega) hq22) rfl ?_
            refine aq_iload_n (am_dg dkX12_voice (i := 42) rfl) rfl ?_
            obtain ⟨hg23, h⟩ := am_guard h
            refine aq_iast (am_dg dkX12_voice (i := 43) rfl) sh_83 hg23 ?_
            obtain ⟨s24, hs25, h⟩ := am_bnd h
            rw [Option.some.inj hs25]
            refine aq_aload_n (am_dg dkX12_voice (i := 44) rfl) rfl ?_
            refine aq_getR (am_dg dkX12_voice (i := 45) rfl) gk_12_7_82 (rf_82_0 hR) ?_
            refine aq_iload (am_dg dkX12_voice (i := 46) rfl) rfl ?_
            refine aq_iconst (v := (2 : Int32)) (am_dg dkX12_voice (i := 47) rfl) (by decide) ?_
            obtain ⟨q26, hq27, h⟩ := am_bnd h
            refine aq_static (a := [.int (q10.2.1 83 (0 : Int32).toNatClampNeg), .int (2 : Int32)]) (S1 := [.ref 83]) (v1 := .int q26.1) (S2 := [.int q26.1, .ref 83]) (am_dg dkX12_voice (i := 48) rfl) ct_12_65 rfl rfl rfl (Nat.le_of_ble_eq_true rfl) (Nat.le_of_ble_eq_true rfl) (T_X12_at hR (by omega) hq27) rfl ?_
            refine aq_iload_n (am_dg dkX12_voice (i := 49) rfl) rfl ?_
            obtain ⟨hg28, h⟩ := am_guard h
            refine aq_iast (am_dg dkX12_voice (i := 50) rfl) sh_83 hg28 ?_
            obtain ⟨s29, hs30, h⟩ := am_bnd h
            rw [Option.some.inj hs30]
            refine aq_aload_n (am_dg dkX12_voice (i := 51) rfl) rfl ?_
            refine aq_getR (am_dg dkX12_voice (i := 52) rfl) gk_12_7_82 (rf_82_0 hR) ?_
            refine aq_iload (am_dg dkX12_voice (i := 53) rfl) rfl ?_
            refine aq_iconst (v := (3 : Int32)) (am_dg dkX12_voice (i := 54) rfl) (by decide) ?_
            obtain ⟨q31, hq32, h⟩ := am_bnd h
            refine aq_static (a := [.int (q10.2.1 83 (0 : Int32).toNatClampNeg), .int (3 : Int32)]) (S1 := [.ref 83]) (v1 := .int q31.1) (S2 := [.int q31.1, .ref 83]) (am_dg dkX12_voice (i := 55) rfl) ct_12_65 rfl rfl rfl (Nat.le_of_ble_eq_true rfl) (Nat.le_of_ble_eq_true rfl) (T_X12_at hR (by omega) hq32) rfl ?_
            refine aq_iload (am_dg dkX12_voice (i := 56) rfl) rfl ?_
            obtain ⟨hg33, h⟩ := am_guard h
            refine aq_iast (am_dg dkX12_voice (i := 57) rfl) sh_83 hg33 ?_
            obtain ⟨s34, hs35, h⟩ := am_bnd h
            rw [Option.some.inj hs35]
            refine aq_aload_n (am_dg dkX12_voice (i := 58) rfl) rfl ?_
            refine aq_getR (am_dg dkX12_voice (i := 59) rfl) gk_12_7_82 (rf_82_0 hR) ?_
            refine aq_iload (am_dg dkX12_voice (i := 60) rfl) rfl ?_
            refine aq_iconst (v := (4 : Int32)) (am_dg dkX12_voice (i := 61) rfl) (by decide) ?_
            obtain ⟨q36, hq37, h⟩ := am_bnd h
            refine aq_static (a := [.int (q10.2.1 83 (0 : Int32).toNatClampNeg), .int (4 : Int32)]) (S1 := [.ref 83]) (v1 := .int q36.1) (S2 := [.int q36.1, .ref 83]) (am_dg dkX12_voice (i := 62) rfl) ct_12_65 rfl rfl rfl (Nat.le_of_ble_eq_true rfl) (Nat.le_of_ble_eq_true rfl) (T_X12_at hR (by omega) hq37) rfl ?_
            refine aq_iconst (v := (0 : Int32)) (am_dg dkX12_voice (i := 63) rfl) (by decide) ?_
            obtain ⟨hg38, h⟩ := am_guard h
            refine aq_iast (am_dg dkX12_voice (i := 64) rfl) sh_83 hg38 ?_
            obtain ⟨s39, hs40, h⟩ := am_bnd h
            rw [Option.some.inj hs40]
            refine aq_aload_n (am_dg dkX12_voice (i := 65) rfl) rfl ?_
            refine aq_getR (am_dg dkX12_voice (i := 66) rfl) gk_12_7_82 (rf_82_0 hR) ?_
            refine aq_iconst (v := (0 : Int32)) (am_dg dkX12_voice (i := 67) rfl) (by decide) ?_
            refine aq_dup2 (am_dg dkX12_voice (i := 68) rfl) rfl rfl ?_
            obtain ⟨hg41, h⟩ := am_guard h
            refine aq_iald (am_dg dkX12_voice (i := 69) rfl) sh_83 hg41 ?_
            refine aq_iconst (v := (1 : Int32)) (am_dg dkX12_voice (i := 70) rfl) (by decide) ?_
            refine aq_iadd (am_dg dkX12_voice (i := 71) rfl) ?_
            obtain ⟨hg42, h⟩ := am_guard h
            refine aq_iast (am_dg dkX12_voice (i := 72) rfl) sh_83 hg42 ?_
            obtain ⟨s43, hs44, h⟩ := am_bnd h
            rw [Option.some.inj hs44]
            refine aq_iload (am_dg dkX12_voice (i := 73) rfl) rfl ?_
            obtain rfl := Option.some.inj h
            exact aq_ireturn (am_dg dkX12_voice (i := 74) rfl) rfl (Or.inl rfl) rfl
set_option maxRecDepth 20000 in
theorem T_X8_has_8 {sc : Option (Nat × (Nat → Int32))} {RF : Nat → Nat → Option Nat} {d : Nat} (hR : am_RFok RF) (hd : 0 ≤ d) {a1 : Int32} {s : am_S} {r : Int32 × am_S} (h : F_X8_has_8 a1 s = some r) : am_Q sc d mX8_has (0, am_L0 mX8_has [.ref 8, .int a1], [], am_hp RF s) (.int r.1, am_hp RF r.2) := by
  unfold F_X8_has_8 at h
  show am_Q _ _ _ (0, [.ref 8, .int a1], [], _) _
  refine aq_iload_n (am_dg dkX8_has (i := 0) rfl) rfl ?_
  by_cases hc1 : a1 < (0 : Int32)
  · rw [if_pos hc1] at h
    refine aq_ifT (t := 16) (am_dg dkX8_has (i := 1) rfl) rfl (decide_eq_true hc1) ?_
    refine aq_iconst (v := (0 : Int32)) (am_dg dkX8_has (i := 8) rfl) (by decide) ?_
    obtain rfl := Option.some.inj h
    exact aq_ireturn (am_dg dkX8_has (i := 9) rfl) rfl (Or.inr (Or.inl rfl)) rfl
  · rw [if_neg hc1] at h
    refine aq_ifF (t := 16) (am_dg dkX8_has (i := 1) rfl) rfl (decide_eq_false hc1) ?_
    refine aq_iload_n (am_dg dkX8_has (i := 2) rfl) rfl ?_
    refine aq_aload_n (am_dg dkX8_has (i := 3) rfl) rfl ?_
    refine aq_getI (am_dg dkX8_has (i := 4) rfl) gk_8_72_8 (by decide) ?_
    by_cases hc2 : (s.1 8 5) ≤ a1
    · rw [if_pos hc2] at h
      refine aq_icT (t := 16) (am_dg dkX8_has (i := 5) rfl) rfl (decide_eq_true hc2) ?_
      refine aq_iconst (v := (0 : Int32)) (am_dg dkX8_has (i := 8) rfl) (by decide) ?_
      obtain rfl := Option.some.inj h
      exact aq_ireturn (am_dg dkX8_has (i := 9) rfl) rfl (Or.inr (Or.inl rfl)) rfl
    · rw [if_neg hc2] at h
      refine aq_icF (t := 16) (am_dg dkX8_has (i := 5) rfl) rfl (decide_eq_false hc2) ?_
      refine aq_iconst (v := (1 : Int32)) (am_dg dkX8_has (i := 6) rfl) (by decide) ?_
      refine aq_goto (t := 17) (am_dg dkX8_has (i := 7) rfl) rfl ?_
      obtain rfl := Option.some.inj h
      exact aq_ireturn (am_dg dkX8_has (i := 9) rfl) rfl (Or.inr (Or.inl rfl)) rfl
set_option maxRecDepth 20000 in
theorem T_X8_isCaught_8 {sc : Option (Nat × (Nat → Int32))} {RF : Nat → Nat → Option Nat} {d : Nat} (hR : am_RFok RF) (hd : 0 ≤ d) {a1 : Int32} {s : am_S} {r : Int32 × am_S} (h : F_X8_isCaught_8 a1 s = some r) : am_Q sc d mX8_isCaught (0, am_L0 mX8_isCaught [.ref 8, .int a1], [], am_hp RF s) (.int r.1, am_hp RF r.2) := by
  unfold F_X8_isCaught_8 at h
  show am_Q _ _ _ (0, [.ref 8, .int a1], [], _) _
  refine aq_aload_n (am_dg dkX8_isCaught (i := 0) rfl) rfl ?_
  refine aq_getI (am_dg dkX8_isCaught (i := 1) rfl) gk_8_75_8 (by decide) ?_
  refine aq_iload_n (am_dg dkX8_isCaught (i := 2) rfl) rfl ?_
  refine aq_ishr (am_dg dkX8_isCaught (i := 3) rfl) ?_
  refine aq_iconst (v := (1 : Int32)) (am_dg dkX8_isCaught (i := 4) rfl) (by decide) ?_
  refine aq_iand (am_dg dkX8_isCaught (i := 5) rfl) ?_
  refine aq_iconst (v := (1 : Int32)) (am_dg dkX8_isCaught (i := 6) rfl) (by decide) ?_
  by_cases hc1 : (((s.1 8 6) >>> (a1 &&& 31)) &&& (1 : Int32)) = (1 : Int32)
  · rw [if_pos hc1] at h
    refine aq_icF (t := 16) (am_dg dkX8_isCaught (i := 7) rfl) rfl (decide_eq_false (not_not_intro hc1)) ?_
    refine aq_iconst (v := (1 : Int32)) (am_dg dkX8_isCaught (i := 8) rfl) (by decide) ?_
    refine aq_goto (t := 17) (am_dg dkX8_isCaught (i := 9) rfl) rfl ?_
    obtain rfl := Option.some.inj h
    exact aq_ireturn (am_dg dkX8_isCaught (i := 11) rfl) rfl (Or.inr (Or.inl rfl)) rfl
  · rw [if_neg hc1] at h
    refine aq_icT (t := 16) (am_dg dkX8_isCaught (i := 7) rfl) rfl (decide_eq_true hc1) ?_
    refine aq_iconst (v := (0 : Int32)) (am_dg dkX8_isCaught (i := 10) rfl) (by decide) ?_
    obtain rfl := Option.some.inj h
    exact aq_ireturn (am_dg dkX8_isCaught (i := 11) rfl) rfl (Or.inr (Or.inl rfl)) rfl
set_option maxRecDepth 20000 in
theorem T_X8_thing_8 {sc : Option (Nat × (Nat → Int32))} {RF : Nat → Nat → Option Nat} {d : Nat} (hR : am_RFok RF) (hd : 0 ≤ d) {a1 : Int32} {s : am_S} {r : Nat × am_S} (h : F_X8_thing_8 a1 s = some r) : am_Q sc d mX8_thing (0, am_L0 mX8_thing [.ref 8, .int a1], [], am_hp RF s) (.ref (2 + r.1), am_hp RF r.2) := by
  unfold F_X8_thing_8 at h
  show am_Q _ _ _ (0, [.ref 8, .int a1], [], _) _
  refine aq_aload_n (am_dg dkX8_thing (i := 0) rfl) rfl ?_
  refine aq_getR (am_dg dkX8_thing (i := 1) rfl) gk_8_46_8 (rf_8_17 hR) ?_
  refine aq_aload_n (am_dg dkX8_thing (i := 2) rfl) rfl ?_
  refine aq_getR (am_dg dkX8_thing (i := 3) rfl) gk_8_15_8 (rf_8_9 hR) ?_
  refine aq_iload_n (am_dg dkX8_thing (i := 4) rfl) rfl ?_
  obtain ⟨hg1, h⟩ := am_guard h
  refine aq_iald (am_dg dkX8_thing (i := 5) rfl) sh_10 hg1 ?_
  obtain ⟨hg2, h⟩ := am_guard h
  refine aq_aald (am_dg dkX8_thing (i := 6) rfl) sh_1 (by decide) hg2 (fm_1 hR _ (am_in_lt hg2)) ?_
  obtain rfl := Option.some.inj h
  exact aq_areturn (am_dg dkX8_thing (i := 7) rfl) rfl
set_option maxRecDepth 20000 in
theorem T_X8_thing_8_b {a1 : Int32} {s : am_S} {r : Nat × am_S} (h : F_X8_thing_8 a1 s = some r) : r.1 < 6 := by
  unfold F_X8_thing_8 at h
  obtain ⟨_, h⟩ := am_guard h
  obtain ⟨hg, h⟩ := am_guard h
  cases h
  exact am_in_lt hg
set_option maxRecDepth 20000 in
theorem T_X10_drifts_2 {sc : Option (Nat × (Nat → Int32))} {RF : Nat → Nat → Option Nat} {d : Nat} (hR : am_RFok RF) (hd : 0 ≤ d) {a1 : Int32} {a2 : Int32} {s : am_S} {r : Int32 × am_S} (h : F_X10_drifts_2 a1 a2 s = some r) : am_Q sc d mX10_drifts (0, am_L0 mX10_drifts [.ref 2, .int a1, .int a2], [], am_hp RF s) (.int r.1, am_hp RF r.2) := by
  unfold F_X10_drifts_2 at h
  show am_Q _ _ _ (0, [.ref 2, .int a1, .int a2], [], _) _
  refine aq_iconst (v := (1 : Int32)) (am_dg dkX10_drifts (i := 0) rfl) (by decide) ?_
  obtain rfl := Option.some.inj h
  exact aq_ireturn (am_dg dkX10_drifts (i := 1) rfl) rfl (Or.inl rfl) rfl
set_option maxRecDepth 20000 in
theorem T_X10_drifts_3 {sc : Option (Nat × (Nat → Int32))} {RF : Nat → Nat → Option Nat} {d : Nat} (hR : am_RFok RF) (hd : 0 ≤ d) {a1 : Int32} {a2 : Int32} {s : am_S} {r : Int32 × am_S} (h : F_X10_drifts_3 a1 a2 s = some r) : am_Q sc d mX10_drifts (0, am_L0 mX10_drifts [.ref 3, .int a1, .int a2], [], am_hp RF s) (.int r.1, am_hp RF r.2) := by
  unfold F_X10_drifts_3 at h
  show am_Q _ _ _ (0, [.ref 3, .int a1, .int a2], [], _) _
  refine aq_iconst (v := (1 : Int32)) (am_dg dkX10_drifts (i := 0) rfl) (by decide) ?_
  obtain rfl := Option.some.inj h
  exact aq_ireturn (am_dg dkX10_drifts (i := 1) rfl) rfl (Or.inl rfl) rfl
set_option maxRecDepth 20000 in
theorem T_X0_drifts_3 {sc : Option (Nat × (Nat → Int32))} {RF : Nat → Nat → Option Nat} {d : Nat} (hR : am_RFok RF) (hd : 1 ≤ d) {a1 : Int32} {a2 : Int32} {s : am_S} {r : Int32 × am_S} (h : F_X0_drifts_3 a1 a2 s = some r) : am_Q sc d mX0_drifts (0, am_L0 mX0_drifts [.ref 3, .int a1, .int a2], [], am_hp RF s) (.int r.1, am_hp RF r.2) := by
  obtain ⟨e, rfl⟩ : ∃ e, d = e + 1 := ⟨d - 1, by omega⟩
  unfold F_X0_drifts_3 at h
  show am_Q _ _ _ (0, [.ref 3, .int a1, .int a2], [], _) _
  refine aq_iconst (v := (2 : Int32)) (am_dg dkX0_drifts (i := 0) rfl) (by decide) ?_
  refine aq_aload_n (am_dg dkX0_drifts (i := 1) rfl) rfl ?_
  refine aq_iload_n (am_dg dkX0_drifts (i := 2) rfl) rfl ?_
  refine aq_iload_n (am_dg dkX0_drifts (i := 3) rfl) rfl ?_
  obtain ⟨q1, hq2, h⟩ := am_bnd h
  refine aq_spec (a := [.ref 3, .int a1, .int a2]) (S1 := [.int (2 : Int32)]) (v1 := .int q1.1) (S2 := [.int q1.1, .int (2 : Int32)]) (am_dg dkX0_drifts (i := 4) rfl) cp_0_7 sh_3 (by decide) rfl rfl rfl (Nat.le_of_ble_eq_true rfl) (Nat.le_of_ble_eq_true rfl) (T_X10_drifts_3 hR (by omega) hq2) rfl ?_
  refine aq_imul (am_dg dkX0_drifts (i := 5) rfl) ?_
  obtain rfl := Option.some.inj h
  exact aq_ireturn (am_dg dkX0_drifts (i := 6) rfl) rfl (Or.inl rfl) rfl
set_option maxRecDepth 20000 in
theorem T_X10_drifts_4 {sc : Option (Nat × (Nat → Int32))} {RF : Nat → Nat → Option Nat} {d : Nat} (hR : am_RFok RF) (hd : 0 ≤ d) {a1 : Int32} {a2 : Int32} {s : am_S} {r : Int32 × am_S} (h : F_X10_drifts_4 a1 a2 s = some r) : am_Q sc d mX10_drifts (0, am_L0 mX10_drifts [.ref 4, .int a1, .int a2], [], am_hp RF s) (.int r.1, am_hp RF r.2) := by
  unfold F_X10_drifts_4 at h
  show am_Q _ _ _ (0, [.ref 4, .int a1, .int a2], [], _) _
  refine aq_iconst (v := (1 : Int32)) (am_dg dkX10_drifts (i := 0) rfl) (by decide) ?_
  obtain rfl := Option.some.inj h
  exact aq_ireturn (am_dg dkX10_drifts (i := 1) rfl) rfl (Or.inl rfl) rfl
set_option maxRecDepth 20000 in
theorem T_X5_drifts_4 {sc : Option (Nat × (Nat → Int32))} {RF : Nat → Nat → Option Nat} {d : Nat} (hR : am_RFok RF) (hd : 1 ≤ d) {a1 : Int32} {a2 : Int32} {s : am_S} {r : Int32 × am_S} (h : F_X5_drifts_4 a1 a2 s = some r) : am_Q sc d mX5_drifts (0, am_L0 mX5_drifts [.ref 4, .int a1, .int a2], [], am_hp RF s) (.int r.1, am_hp RF r.2) := by
  obtain ⟨e, rfl⟩ : ∃ e, d = e + 1 := ⟨d - 1, by omega⟩
  unfold F_X5_drifts_4 at h
  show am_Q _ _ _ (0, [.ref 4, .int a1, .int a2], [], _) _
  refine aq_aload_n (am_dg dkX5_drifts (i := 0) rfl) rfl ?_
  refine aq_iload_n (am_dg dkX5_drifts (i := 1) rfl) rfl ?_
  refine aq_iload_n (am_dg dkX5_drifts (i := 2) rfl) rfl ?_
  obtain ⟨q1, hq2, h⟩ := am_bnd h
  refine aq_spec (a := [.ref 4, .int a1, .int a2]) (S1 := []) (v1 := .int q1.1) (S2 := [.int q1.1]) (am_dg dkX5_drifts (i := 3) rfl) cp_5_7 sh_4 (by decide) rfl rfl rfl (Nat.le_of_ble_eq_true rfl) (Nat.le_of_ble_eq_true rfl) (T_X10_drifts_4 hR (by omega) hq2) rfl ?_
  refine aq_iload_n (am_dg dkX5_drifts (i := 4) rfl) rfl ?_
  refine aq_iconst (v := (5 : Int32)) (am_dg dkX5_drifts (i := 5) rfl) (by decide) ?_
  by_cases hc3 : a1 ≤ (5 : Int32)
  · rw [if_pos hc3] at h
    refine aq_icT (t := 15) (am_dg dkX5_drifts (i := 6) rfl) rfl (decide_eq_true hc3) ?_
    refine aq_iconst (v := (0 : Int32)) (am_dg dkX5_drifts (i := 9) rfl) (by decide) ?_
    refine aq_iadd (am_dg dkX5_drifts (i := 10) rfl) ?_
    obtain rfl := Option.some.inj h
    exact aq_ireturn (am_dg dkX5_drifts (i := 11) rfl) rfl (Or.inl rfl) rfl
  · rw [if_neg hc3] at h
    refine aq_icF (t := 15) (am_dg dkX5_drifts (i := 6) rfl) rfl (decide_eq_false hc3) ?_
    refine aq_iconst (v := (1 : Int32)) (am_dg dkX5_drifts (i := 7) rfl) (by decide) ?_
    refine aq_goto (t := 16) (am_dg dkX5_drifts (i := 8) rfl) rfl ?_
    refine aq_iadd (am_dg dkX5_drifts (i := 10) rfl) ?_
    obtain rfl := Option.some.inj h
    exact aq_ireturn (am_dg dkX5_drifts (i := 11) rfl) rfl (Or.inl rfl) rfl
set_option maxRecDepth 20000 in
theorem T_X10_drifts_5 {sc : Option (Nat × (Nat → Int32))} {RF : Nat → Nat → Option Nat} {d : Nat} (hR : am_RFok RF) (hd : 0 ≤ d) {a1 : Int32} {a2 : Int32} {s : am_S} {r : Int32 × am_S} (h : F_X10_drifts_5 a1 a2 s = some r) : am_Q sc d mX10_drifts (0, am_L0 mX10_drifts [.ref 5, .int a1, .int a2], [], am_hp RF s) (.int r.1, am_hp RF r.2) := by
  unfold F_X10_drifts_5 at h
  show am_Q _ _ _ (0, [.ref 5, .int a1, .int a2], [], _) _
  refine aq_iconst (v := (1 : Int32)) (am_dg dkX10_drifts (i := 0) rfl) (by decide) ?_
  obtain rfl := Option.some.inj h
  exact aq_ireturn (am_dg dkX10_drifts (i := 1) rfl) rfl (Or.inl rfl) rfl
set_option maxRecDepth 20000 in
theorem T_X5_drifts_5 {sc : Option (Nat × (Nat → Int32))} {RF : Nat → Nat → Option Nat} {d : Nat} (hR : am_RFok RF) (hd : 1 ≤ d) {a1 : Int32} {a2 : Int32} {s : am_S} {r : Int32 × am_S} (h : F_X5_drifts_5 a1 a2 s = some r) : am_Q sc d mX5_drifts (0, am_L0 mX5_drifts [.ref 5, .int a1, .int a2], [], am_hp RF s) (.int r.1, am_hp RF r.2) := by
  obtain ⟨e, rfl⟩ : ∃ e, d = e + 1 := ⟨d - 1, by omega⟩
  unfold F_X5_drifts_5 at h
  show am_Q _ _ _ (0, [.ref 5, .int a1, .int a2], [], _) _
  refine aq_aload_n (am_dg dkX5_drifts (i := 0) rfl) rfl ?_
  refine aq_iload_n (am_dg dkX5_drifts (i := 1) rfl) rfl ?_
  refine aq_iload_n (am_dg dkX5_drifts (i := 2) rfl) rfl ?_
  obtain ⟨q1, hq2, h⟩ := am_bnd h
  refine aq_spec (a := [.ref 5, .int a1, .int a2]) (S1 := []) (v1 := .int q1.1) (S2 := [.int q1.1]) (am_dg dkX5_drifts (i := 3) rfl) cp_5_7 sh_5 (by decide) rfl rfl rfl (Nat.le_of_ble_eq_true rfl) (Nat.le_of_ble_eq_true rfl) (T_X10_drifts_5 hR (by omega) hq2) rfl ?_
  refine aq_iload_n (am_dg dkX5_drifts (i := 4) rfl) rfl ?_
  refine aq_iconst (v := (5 : Int32)) (am_dg dkX5_drifts (i := 5) rfl) (by decide) ?_
  by_cases hc3 : a1 ≤ (5 : Int32)
  · rw [if_pos hc3] at h
    refine aq_icT (t := 15) (am_dg dkX5_drifts (i := 6) rfl) rfl (decide_eq_true hc3) ?_
    refine aq_iconst (v := (0 : Int32)) (am_dg dkX5_drifts (i := 9) rfl) (by decide) ?_
    refine aq_iadd (am_dg dkX5_drifts (i := 10) rfl) ?_
    obtain rfl := Option.some.inj h
    exact aq_ireturn (am_dg dkX5_drifts (i := 11) rfl) rfl (Or.inl rfl) rfl
  · rw [if_neg hc3] at h
    refine aq_icF (t := 15) (am_dg dkX5_drifts (i := 6) rfl) rfl (decide_eq_false hc3) ?_
    refine aq_iconst (v := (1 : Int32)) (am_dg dkX5_drifts (i := 7) rfl) (by decide) ?_
    refine aq_goto (t := 16) (am_dg dkX5_drifts (i := 8) rfl) rfl ?_
    refine aq_iadd (am_dg dkX5_drifts (i := 10) rfl) ?_
    obtain rfl := Option.some.inj h
    exact aq_ireturn (am_dg dkX5_drifts (i := 11) rfl) rfl (Or.inl rfl) rfl
set_option maxRecDepth 20000 in
theorem T_X4_drifts_5 {sc : Option (Nat × (Nat → Int32))} {RF : Nat → Nat → Option Nat} {d : Nat} (hR : am_RFok RF) (hd : 2 ≤ d) {a1 : Int32} {a2 : Int32} {s : am_S} {r : Int32 × am_S} (h : F_X4_drifts_5 a1 a2 s = some r) : am_Q sc d mX4_drifts (0, am_L0 mX4_drifts [.ref 5, .int a1, .int a2], [], am_hp RF s) (.int r.1, am_hp RF r.2) := by
  obtain ⟨e, rfl⟩ : ∃ e, d = e + 1 := ⟨d - 1, by omega⟩
  unfold F_X4_drifts_5 at h
  show am_Q _ _ _ (0, [.ref 5, .int a1, .int a2], [], _) _
  refine aq_iload_n (am_dg dkX4_drifts (i := 0) rfl) rfl ?_
  refine aq_iconst (v := (1 : Int32)) (am_dg dkX4_drifts (i := 1) rfl) (by decide) ?_
  refine aq_iand (am_dg dkX4_drifts (i := 2) rfl) ?_
  refine aq_iconst (v := (1 : Int32)) (am_dg dkX4_drifts (i := 3) rfl) (by decide) ?_
  by_cases hc1 : (a2 &&& (1 : Int32)) = (1 : Int32)
  · rw [if_pos hc1] at h
    refine aq_icF (t := 11) (am_dg dkX4_drifts (i := 4) rfl) rfl (decide_eq_false (not_not_intro hc1)) ?_
    refine aq_iconst (v := (0 : Int32)) (am_dg dkX4_drifts (i := 5) rfl) (by decide) ?_
    refine aq_goto (t := 17) (am_dg dkX4_drifts (i := 6) rfl) rfl ?_
    obtain rfl := Option.some.inj h
    exact aq_ireturn (am_dg dkX4_drifts (i := 11) rfl) rfl (Or.inl rfl) rfl
  · rw [if_neg hc1] at h
    refine aq_icT (t := 11) (am_dg dkX4_drifts (i := 4) rfl) rfl (decide_eq_true hc1) ?_
    refine aq_aload_n (am_dg dkX4_drifts (i := 7) rfl) rfl ?_
    refine aq_iload_n (am_dg dkX4_drifts (i := 8) rfl) rfl ?_
    refine aq_iload_n (am_dg dkX4_drifts (i := 9) rfl) rfl ?_
    obtain ⟨q2, hq3, h⟩ := am_bnd h
    refine aq_spec (a := [.ref 5, .int a1, .int a2]) (S1 := []) (v1 := .int q2.1) (S2 := [.int q2.1]) (am_dg dkX4_drifts (i := 10) rfl) cp_4_7 sh_5 (by decide) rfl rfl rfl (Nat.le_of_ble_eq_true rfl) (Nat.le_of_ble_eq_true rfl) (T_X5_drifts_5 hR (by omega) hq3) rfl ?_
    obtain rfl := Option.some.inj h
    exact aq_ireturn (am_dg dkX4_drifts (i := 11) rfl) rfl (Or.inl rfl) rfl
set_option maxRecDepth 20000 in
theorem T_X1_drifts_6 {sc : Option (Nat × (Nat → Int32))} {RF : Nat → Nat → Option Nat} {d : Nat} (hR : am_RFok RF) (hd : 0 ≤ d) {a1 : Int32} {a2 : Int32} {s : am_S} {r : Int32 × am_S} (h : F_X1_drifts_6 a1 a2 s = some r) : am_Q sc d mX1_drifts (0, am_L0 mX1_drifts [.ref 6, .int a1, .int a2], [], am_hp RF s) (.int r.1, am_hp RF r.2) := by
  unfold F_X1_drifts_6 at h
  show am_Q _ _ _ (0, [.ref 6, .int a1, .int a2], [], _) _
  refine aq_iconst (v := (0 : Int32)) (am_dg dkX1_drifts (i := 0) rfl) (by decide) ?_
  obtain rfl := Option.some.inj h
  exact aq_ireturn (am_dg dkX1_drifts (i := 1) rfl) rfl (Or.inl rfl) rfl
set_option maxRecDepth 20000 in
theorem T_X1_drifts_7 {sc : Option (Nat × (Nat → Int32))} {RF : Nat → Nat → Option Nat} {d : Nat} (hR : am_RFok RF) (hd : 0 ≤ d) {a1 : Int32} {a2 : Int32} {s : am_S} {r : Int32 × am_S} (h : F_X1_drifts_7 a1 a2 s = some r) : am_Q sc d mX1_drifts (0, am_L0 mX1_drifts [.ref 7, .int a1, .int a2], [], am_hp RF s) (.int r.1, am_hp RF r.2) := by
  unfold F_X1_drifts_7 at h
  show am_Q _ _ _ (0, [.ref 7, .int a1, .int a2], [], _) _
  refine aq_iconst (v := (0 : Int32)) (am_dg dkX1_drifts (i := 0) rfl) (by decide) ?_
  obtain rfl := Option.some.inj h
  exact aq_ireturn (am_dg dkX1_drifts (i := 1) rfl) rfl (Or.inl rfl) rfl
set_option maxRecDepth 20000 in
theorem T_X2_drifts_7 {sc : Option (Nat × (Nat → Int32))} {RF : Nat → Nat → Option Nat} {d : Nat} (hR : am_RFok RF) (hd : 1 ≤ d) {a1 : Int32} {a2 : Int32} {s : am_S} {r : Int32 × am_S} (h : F_X2_drifts_7 a1 a2 s = some r) : am_Q sc d mX2_drifts (0, am_L0 mX2_drifts [.ref 7, .int a1, .int a2], [], am_hp RF s) (.int r.1, am_hp RF r.2) := by
  obtain ⟨e, rfl⟩ : ∃ e, d = e + 1 := ⟨d - 1, by omega⟩
  unfold F_X2_drifts_7 at h
  show am_Q _ _ _ (0, [.ref 7, .int a1, .int a2], [], _) _
  refine aq_aload_n (am_dg dkX2_drifts (i := 0) rfl) rfl ?_
  refine aq_iload_n (am_dg dkX2_drifts (i := 1) rfl) rfl ?_
  refine aq_iload_n (am_dg dkX2_drifts (i := 2) rfl) rfl ?_
  obtain ⟨q1, hq2, h⟩ := am_bnd h
  refine aq_spec (a := [.ref 7, .int a1, .int a2]) (S1 := []) (v1 := .int q1.1) (S2 := [.int q1.1]) (am_dg dkX2_drifts (i := 3) rfl) cp_2_7 sh_7 (by decide) rfl rfl rfl (Nat.le_of_ble_eq_true rfl) (Nat.le_of_ble_eq_true rfl) (T_X1_drifts_7 hR (by omega) hq2) rfl ?_
  refine aq_iconst (v := (2 : Int32)) (am_dg dkX2_drifts (i := 4) rfl) (by decide) ?_
  refine aq_iadd (am_dg dkX2_drifts (i := 5) rfl) ?_
  obtain rfl := Option.some.inj h
  exact aq_ireturn (am_dg dkX2_drifts (i := 6) rfl) rfl (Or.inl rfl) rfl
set_option maxRecDepth 20000 in
theorem T_X8_driftOf_8 {sc : Option (Nat × (Nat → Int32))} {RF : Nat → Nat → Option Nat} {d : Nat} (hR : am_RFok RF) (hd : 3 ≤ d) {a1 : Int32} {s : am_S} {r : Int32 × am_S} (h : F_X8_driftOf_8 a1 s = some r) : am_Q sc d mX8_driftOf (0, am_L0 mX8_driftOf [.ref 8, .int a1], [], am_hp RF s) (.int r.1, am_hp RF r.2) := by
  obtain ⟨e, rfl⟩ : ∃ e, d = e + 1 := ⟨d - 1, by omega⟩
  unfold F_X8_driftOf_8 at h
  show am_Q _ _ _ (0, [.ref 8, .int a1], [], _) _
  refine aq_aload_n (am_dg dkX8_driftOf (i := 0) rfl) rfl ?_
  refine aq_iload_n (am_dg dkX8_driftOf (i := 1) rfl) rfl ?_
  obtain ⟨q1, hq2, h⟩ := am_bnd h
  refine aq_virt (a := [.ref 8, .int a1]) (S1 := []) (v1 := .ref (2 + q1.1)) (S2 := [.ref (2 + q1.1)]) (am_dg dkX8_driftOf (i := 2) rfl) cv_8_91_8 (am_cls_c sh_8 (by decide)) rfl rfl rfl (Nat.le_of_ble_eq_true rfl) (Nat.le_of_ble_eq_true rfl) (T_X8_thing_8 hR (by omega) hq2) rfl ?_
  refine aq_aload_n (am_dg dkX8_driftOf (i := 3) rfl) rfl ?_
  refine aq_getR (am_dg dkX8_driftOf (i := 4) rfl) gk_8_21_8 (rf_8_11 hR) ?_
  refine aq_iload_n (am_dg dkX8_driftOf (i := 5) rfl) rfl ?_
  obtain ⟨hg3, h⟩ := am_guard h
  refine aq_iald (am_dg dkX8_driftOf (i := 6) rfl) sh_12 hg3 ?_
  refine aq_aload_n (am_dg dkX8_driftOf (i := 7) rfl) rfl ?_
  refine aq_getI (am_dg dkX8_driftOf (i := 8) rfl) gk_8_66_8 (by decide) ?_
  by_cases hc4 : q1.1 = 0
  · rw [if_pos hc4] at h
    obtain ⟨q5, hq6, h⟩ := am_bnd h
    refine aq_virt (a := [.ref 2, .int (q1.2.1 12 a1.toNatClampNeg), .int (q1.2.1 8 0)]) (S1 := []) (v1 := .int q5.1) (S2 := [.int q5.1]) (am_dg dkX8_driftOf (i := 9) rfl) cv_8_95_10 (by rw [(show 2 + q1.1 = 2 by rw [hc4])]; exact am_cls_c sh_2 (by decide)) rfl (congrArg (fun z => Value.ref z :: _) (show 2 + q1.1 = 2 by rw [hc4])) rfl (Nat.le_of_ble_eq_true rfl) (Nat.le_of_ble_eq_true rfl) (T_X10_drifts_2 hR (by omega) hq6) rfl ?_
    obtain rfl := Option.some.inj h
    exact aq_ireturn (am_dg dkX8_driftOf (i := 10) rfl) rfl (Or.inl rfl) rfl
  rw [if_neg hc4] at h
  by_cases hc7 : q1.1 = 1
  · rw [if_pos hc7] at h
    obtain ⟨q8, hq9, h⟩ := am_bnd h
    refine aq_virt (a := [.ref 3, .int (q1.2.1 12 a1.toNatClampNeg), .int (q1.2.1 8 0)]) (S1 := []) (v1 := .int q8.1) (S2 := [.int q8.1]) (am_dg dkX8_driftOf (i := 9) rfl) cv_8_95_0 (by rw [(show 2 + q1.1 = 3 by rw [hc7])]; exact am_cls_c sh_3 (by decide)) rfl (congrArg (fun z => Value.ref z :: _) (show 2 + q1.1 = 3 by rw [hc7])) rfl (Nat.le_of_ble_eq_true rfl) (Nat.le_of_ble_eq_true rfl) (T_X0_drifts_3 hR (by omega) hq9) rfl ?_
    obtain rfl := Option.some.inj h
    exact aq_ireturn (am_dg dkX8_driftOf (i := 10) rfl) rfl (Or.inl rfl) rfl
  rw [if_neg hc7] at h
  by_cases hc10 : q1.1 = 2
  · rw [if_pos hc10] at h
    obtain ⟨q11, hq12, h⟩ := am_bnd h
    refine aq_virt (a := [.ref 4, .int (q1.2.1 12 a1.toNatClampNeg), .int (q1.2.1 8 0)]) (S1 := []) (v1 := .int q11.1) (S2 := [.int q11.1]) (am_dg dkX8_driftOf (i := 9) rfl) cv_8_95_5 (by rw [(show 2 + q1.1 = 4 by rw [hc10])]; exact am_cls_c sh_4 (by decide)) rfl (congrArg (fun z => Value.ref z :: _) (show 2 + q1.1 = 4 by rw [hc10])) rfl (Nat.le_of_ble_eq_true rfl) (Nat.le_of_ble_eq_true rfl) (T_X5_drifts_4 hR (by omega) hq12) rfl ?_
    obtain rfl := Option.some.inj h
    exact aq_ireturn (am_dg dkX8_driftOf (i := 10) rfl) rfl (Or.inl rfl) rfl
  rw [if_neg hc10] at h
  by_cases hc13 : q1.1 = 3
  · rw [if_pos hc13] at h
    obtain ⟨q14, hq15, h⟩ := am_bnd h
    refine aq_virt (a := [.ref 5, .int (q1.2.1 12 a1.toNatClampNeg), .int (q1.2.1 8 0)]) (S1 := []) (v1 := .int q14.1) (S2 := [.int q14.1]) (am_dg dkX8_driftOf (i := 9) rfl) cv_8_95_4 (by rw [(show 2 + q1.1 = 5 by rw [hc13])]; exact am_cls_c sh_5 (by decide)) rfl (congrArg (fun z => Value.ref z :: _) (show 2 + q1.1 = 5 by rw [hc13])) rfl (Nat.le_of_ble_eq_true rfl) (Nat.le_of_ble_eq_true rfl) (T_X4_drifts_5 hR (by omega) hq15) rfl ?_
    obtain rfl := Option.some.inj h
    exact aq_ireturn (am_dg dkX8_driftOf (i := 10) rfl) rfl (Or.inl rfl) rfl
  rw [if_neg hc13] at h
  by_cases hc16 : q1.1 = 4
  · rw [if_pos hc16] at h
    obtain ⟨q17, hq18, h⟩ := am_bnd h
    refine aq_virt (a := [.ref 6, .int (q1.2.1 12 a1.toNatClampNeg), .int (q1.2.1 8 0)]) (S1 := []) (v1 := .int q17.1) (S2 := [.int q17.1]) (am_dg dkX8_driftOf (i := 9) rfl) cv_8_95_1 (by rw [(show 2 + q1.1 = 6 by rw [hc16])]; exact am_cls_c sh_6 (by decide)) rfl (congrArg (fun z => Value.ref z :: _) (show 2 + q1.1 = 6 by rw [hc16])) rfl (Nat.le_of_ble_eq_true rfl) (Nat.le_of_ble_eq_true rfl) (T_X1_drifts_6 hR (by omega) hq18) rfl ?_
    obtain rfl := Option.some.inj h
    exact aq_ireturn (am_dg dkX8_driftOf (i := 10) rfl) rfl (Or.inl rfl) rfl
  rw [if_neg hc16] at h
  have hc19 : q1.1 = 5 := by have := (T_X8_thing_8_b hq2); omega
  obtain ⟨q20, hq21, h⟩ := am_bnd h
  refine aq_virt (a := [.ref 7, .int (q1.2.1 12 a1.toNatClampNeg), .int (q1.2.1 8 0)]) (S1 := []) (v1 := .int q20.1) (S2 := [.int q20.1]) (am_dg dkX8_driftOf (i := 9) rfl) cv_8_95_2 (by rw [(show 2 + q1.1 = 7 by rw [hc19])]; exact am_cls_c sh_7 (by decide)) rfl (congrArg (fun z => Value.ref z :: _) (show 2 + q1.1 = 7 by rw [hc19])) rfl (Nat.le_of_ble_eq_true rfl) (Nat.le_of_ble_eq_true rfl) (T_X2_drifts_7 hR (by omega) hq21) rfl ?_
  obtain rfl := Option.some.inj h
  exact aq_ireturn (am_dg dkX8_driftOf (i := 10) rfl) rfl (Or.inl rfl) rfl
set_option maxRecDepth 20000 in
theorem T_X10_price_2 {sc : Option (Nat × (Nat → Int32))} {RF : Nat → Nat → Option Nat} {d : Nat} (hR : am_RFok RF) (hd : 0 ≤ d) {a1 : Int32} {s : am_S} {r : Int32 × am_S} (h : F_X10_price_2 a1 s = some r) : am_Q sc d mX10_price (0, am_L0 mX10_price [.ref 2, .int a1], [], am_hp RF s) (.int r.1, am_hp RF r.2) := by
  unfold F_X10_price_2 at h
  show am_Q _ _ _ (0, [.ref 2, .int a1], [], _) _
  refine aq_iload_n (am_dg dkX10_price (i := 0) rfl) rfl ?_
  obtain rfl := Option.some.inj h
  exact aq_ireturn (am_dg dkX10_price (i := 1) rfl) rfl (Or.inl rfl) rfl
set_option maxRecDepth 20000 in
theorem T_X10_price_3 {sc : Option (Nat × (Nat → Int32))} {RF : Nat → Nat → Option Nat} {d : Nat} (hR : am_RFok RF) (hd : 0 ≤ d) {a1 : Int32} {s : am_S} {r : Int32 × am_S} (h : F_X10_price_3 a1 s = some r) : am_Q sc d mX10_price (0, am_L0 mX10_price [.ref 3, .int a1], [], am_hp RF s) (.int r.1, am_hp RF r.2) := by
  unfold F_X10_price_3 at h
  show am_Q _ _ _ (0, [.ref 3, .int a1], [], _) _
  refine aq_iload_n (am_dg dkX10_price (i := 0) rfl) rfl ?_
  obtain rfl := Option.some.inj h
  exact aq_ireturn (am_dg dkX10_price (i := 1) rfl) rfl (Or.inl rfl) rfl
set_option maxRecDepth 20000 in
theorem T_X0_price_3 {sc : Option (Nat × (Nat → Int32))} {RF : Nat → Nat → Option Nat} {d : Nat} (hR : am_RFok RF) (hd : 1 ≤ d) {a1 : Int32} {s : am_S} {r : Int32 × am_S} (h : F_X0_price_3 a1 s = some r) : am_Q sc d mX0_price (0, am_L0 mX0_price [.ref 3, .int a1], [], am_hp RF s) (.int r.1, am_hp RF r.2) := by
  obtain ⟨e, rfl⟩ : ∃ e, d = e + 1 := ⟨d - 1, by omega⟩
  unfold F_X0_price_3 at h
  show am_Q _ _ _ (0, [.ref 3, .int a1], [], _) _
  refine aq_iconst (v := (2 : Int32)) (am_dg dkX0_price (i := 0) rfl) (by decide) ?_
  refine aq_aload_n (am_dg dkX0_price (i := 1) rfl) rfl ?_
  refine aq_iload_n (am_dg dkX0_price (i := 2) rfl) rfl ?_
  obtain ⟨q1, hq2, h⟩ := am_bnd h
  refine aq_spec (a := [.ref 3, .int a1]) (S1 := [.int (2 : Int32)]) (v1 := .int q1.1) (S2 := [.int q1.1, .int (2 : Int32)]) (am_dg dkX0_price (i := 3) rfl) cp_0_11 sh_3 (by decide) rfl rfl rfl (Nat.le_of_ble_eq_true rfl) (Nat.le_of_ble_eq_true rfl) (T_X10_price_3 hR (by omega) hq2) rfl ?_
  refine aq_imul (am_dg dkX0_price (i := 4) rfl) ?_
  obtain rfl := Option.some.inj h
  exact aq_ireturn (am_dg dkX0_price (i := 5) rfl) rfl (Or.inl rfl) rfl
set_option maxRecDepth 20000 in
theorem T_X10_price_4 {sc : Option (Nat × (Nat → Int32))} {RF : Nat → Nat → Option Nat} {d : Nat} (hR : am_RFok RF) (hd : 0 ≤ d) {a1 : Int32} {s : am_S} {r : Int32 × am_S} (h : F_X10_price_4 a1 s = some r) : am_Q sc d mX10_price (0, am_L0 mX10_price [.ref 4, .int a1], [], am_hp RF s) (.int r.1, am_hp RF r.2) := by
  unfold F_X10_price_4 at h
  show am_Q _ _ _ (0, [.ref 4, .int a1], [], _) _
  refine aq_iload_n (am_dg dkX10_price (i := 0) rfl) rfl ?_
  obtain rfl := Option.some.inj h
  exact aq_ireturn (am_dg dkX10_price (i := 1) rfl) rfl (Or.inl rfl) rfl
set_option maxRecDepth 20000 in
theorem T_X5_price_4 {sc : Option (Nat × (Nat → Int32))} {RF : Nat → Nat → Option Nat} {d : Nat} (hR : am_RFok RF) (hd : 1 ≤ d) {a1 : Int32} {s : am_S} {r : Int32 × am_S} (h : F_X5_price_4 a1 s = some r) : am_Q sc d mX5_price (0, am_L0 mX5_price [.ref 4, .int a1], [], am_hp RF s) (.int r.1, am_hp RF r.2) := by
  obtain ⟨e, rfl⟩ : ∃ e, d = e + 1 := ⟨d - 1, by omega⟩
  unfold F_X5_price_4 at h
  show am_Q _ _ _ (0, [.ref 4, .int a1], [], _) _
  refine aq_iconst (v := (0 : Int32)) (am_dg dkX5_price (i := 0) rfl) (by decide) ?_
  refine aq_aload_n (am_dg dkX5_price (i := 1) rfl) rfl ?_
  refine aq_iload_n (am_dg dkX5_price (i := 2) rfl) rfl ?_
  obtain ⟨q1, hq2, h⟩ := am_bnd h
  refine aq_spec (a := [.ref 4, .int a1]) (S1 := [.int (0 : Int32)]) (v1 := .int q1.1) (S2 := [.int q1.1, .int (0 : Int32)]) (am_dg dkX5_price (i := 3) rfl) cp_5_11 sh_4 (by decide) rfl rfl rfl (Nat.le_of_ble_eq_true rfl) (Nat.le_of_ble_eq_true rfl) (T_X10_price_4 hR (by omega) hq2) rfl ?_
  refine aq_iconst (v := (2 : Int32)) (am_dg dkX5_price (i := 4) rfl) (by decide) ?_
  refine aq_isub (am_dg dkX5_price (i := 5) rfl) ?_
  refine aq_max (am_dg dkX5_price (i := 6) rfl) mk_5_15 (Nat.le_of_ble_eq_true rfl) ?_
  obtain rfl := Option.some.inj h
  exact aq_ireturn (am_dg dkX5_price (i := 7) rfl) rfl (Or.inl rfl) rfl
set_option maxRecDepth 20000 in
theorem T_X10_price_5 {sc : Option (Nat × (Nat → Int32))} {RF : Nat → Nat → Option Nat} {d : Nat} (hR : am_RFok RF) (hd : 0 ≤ d) {a1 : Int32} {s : am_S} {r : Int32 × am_S} (h : F_X10_price_5 a1 s = some r) : am_Q sc d mX10_price (0, am_L0 mX10_price [.ref 5, .int a1], [], am_hp RF s) (.int r.1, am_hp RF r.2) := by
  unfold F_X10_price_5 at h
  show am_Q _ _ _ (0, [.ref 5, .int a1], [], _) _
  refine aq_iload_n (am_dg dkX10_price (i := 0) rfl) rfl ?_
  obtain rfl := Option.some.inj h
  exact aq_ireturn (am_dg dkX10_price (i := 1) rfl) rfl (Or.inl rfl) rfl
set_option maxRecDepth 20000 in
theorem T_X5_price_5 {sc : Option (Nat × (Nat → Int32))} {RF : Nat → Nat → Option Nat} {d : Nat} (hR : am_RFok RF) (hd : 1 ≤ d) {a1 : Int32} {s : am_S} {r : Int32 × am_S} (h : F_X5_price_5 a1 s = some r) : am_Q sc d mX5_price (0, am_L0 mX5_price [.ref 5, .int a1], [], am_hp RF s) (.int r.1, am_hp RF r.2) := by
  obtain ⟨e, rfl⟩ : ∃ e, d = e + 1 := ⟨d - 1, by omega⟩
  unfold F_X5_price_5 at h
  show am_Q _ _ _ (0, [.ref 5, .int a1], [], _) _
  refine aq_iconst (v := (0 : Int32)) (am_dg dkX5_price (i := 0) rfl) (by decide) ?_
  refine aq_aload_n (am_dg dkX5_price (i := 1) rfl) rfl ?_
  refine aq_iload_n (am_dg dkX5_price (i := 2) rfl) rfl ?_
  obtain ⟨q1, hq2, h⟩ := am_bnd h
  refine aq_spec (a := [.ref 5, .int a1]) (S1 := [.int (0 : Int32)]) (v1 := .int q1.1) (S2 := [.int q1.1, .int (0 : Int32)]) (am_dg dkX5_price (i := 3) rfl) cp_5_11 sh_5 (by decide) rfl rfl rfl (Nat.le_of_ble_eq_true rfl) (Nat.le_of_ble_eq_true rfl) (T_X10_price_5 hR (by omega) hq2) rfl ?_
  refine aq_iconst (v := (2 : Int32)) (am_dg dkX5_price (i := 4) rfl) (by decide) ?_
  refine aq_isub (am_dg dkX5_price (i := 5) rfl) ?_
  refine aq_max (am_dg dkX5_price (i := 6) rfl) mk_5_15 (Nat.le_of_ble_eq_true rfl) ?_
  obtain rfl := Option.some.inj h
  exact aq_ireturn (am_dg dkX5_price (i := 7) rfl) rfl (Or.inl rfl) rfl
set_option maxRecDepth 20000 in
theorem T_X4_price_5 {sc : Option (Nat × (Nat → Int32))} {RF : Nat → Nat → Option Nat} {d : Nat} (hR : am_RFok RF) (hd : 2 ≤ d) {a1 : Int32} {s : am_S} {r : Int32 × am_S} (h : F_X4_price_5 a1 s = some r) : am_Q sc d mX4_price (0, am_L0 mX4_price [.ref 5, .int a1], [], am_hp RF s) (.int r.1, am_hp RF r.2) := by
  obtain ⟨e, rfl⟩ : ∃ e, d = e + 1 := ⟨d - 1, by omega⟩
  unfold F_X4_price_5 at h
  show am_Q _ _ _ (0, [.ref 5, .int a1], [], _) _
  refine aq_aload_n (am_dg dkX4_price (i := 0) rfl) rfl ?_
  refine aq_iload_n (am_dg dkX4_price (i := 1) rfl) rfl ?_
  obtain ⟨q1, hq2, h⟩ := am_bnd h
  refine aq_spec (a := [.ref 5, .int a1]) (S1 := []) (v1 := .int q1.1) (S2 := [.int q1.1]) (am_dg dkX4_price (i := 2) rfl) cp_4_11 sh_5 (by decide) rfl rfl rfl (Nat.le_of_ble_eq_true rfl) (Nat.le_of_ble_eq_true rfl) (T_X5_price_5 hR (by omega) hq2) rfl ?_
  refine aq_iconst (v := (5 : Int32)) (am_dg dkX4_price (i := 3) rfl) (by decide) ?_
  refine aq_iadd (am_dg dkX4_price (i := 4) rfl) ?_
  obtain rfl := Option.some.inj h
  exact aq_ireturn (am_dg dkX4_price (i := 5) rfl) rfl (Or.inl rfl) rfl
set_option maxRecDepth 20000 in
theorem T_X1_price_6 {sc : Option (Nat × (Nat → Int32))} {RF : Nat → Nat → Option Nat} {d : Nat} (hR : am_RFok RF) (hd : 0 ≤ d) {a1 : Int32} {s : am_S} {r : Int32 × am_S} (h : F_X1_price_6 a1 s = some r) : am_Q sc d mX1_price (0, am_L0 mX1_price [.ref 6, .int a1], [], am_hp RF s) (.int r.1, am_hp RF r.2) := by
  unfold F_X1_price_6 at h
  show am_Q _ _ _ (0, [.ref 6, .int a1], [], _) _
  refine aq_iconst (v := (1 : Int32)) (am_dg dkX1_price (i := 0) rfl) (by decide) ?_
  obtain rfl := Option.some.inj h
  exact aq_ireturn (am_dg dkX1_price (i := 1) rfl) rfl (Or.inl rfl) rfl
set_option maxRecDepth 20000 in
theorem T_X1_price_7 {sc : Option (Nat × (Nat → Int32))} {RF : Nat → Nat → Option Nat} {d : Nat} (hR : am_RFok RF) (hd : 0 ≤ d) {a1 : Int32} {s : am_S} {r : Int32 × am_S} (h : F_X1_price_7 a1 s = some r) : am_Q sc d mX1_price (0, am_L0 mX1_price [.ref 7, .int a1], [], am_hp RF s) (.int r.1, am_hp RF r.2) := by
  unfold F_X1_price_7 at h
  show am_Q _ _ _ (0, [.ref 7, .int a1], [], _) _
  refine aq_iconst (v := (1 : Int32)) (am_dg dkX1_price (i := 0) rfl) (by decide) ?_
  obtain rfl := Option.some.inj h
  exact aq_ireturn (am_dg dkX1_price (i := 1) rfl) rfl (Or.inl rfl) rfl
set_option maxRecDepth 20000 in
theorem T_X2_price_7 {sc : Option (Nat × (Nat → Int32))} {RF : Nat → Nat → Option Nat} {d : Nat} (hR : am_RFok RF) (hd : 1 ≤ d) {a1 : Int32} {s : am_S} {r : Int32 × am_S} (h : F_X2_price_7 a1 s = some r) : am_Q sc d mX2_price (0, am_L0 mX2_price [.ref 7, .int a1], [], am_hp RF s) (.int r.1, am_hp RF r.2) := by
  obtain ⟨e, rfl⟩ : ∃ e, d = e + 1 := ⟨d - 1, by omega⟩
  unfold F_X2_price_7 at h
  show am_Q _ _ _ (0, [.ref 7, .int a1], [], _) _
  refine aq_aload_n (am_dg dkX2_price (i := 0) rfl) rfl ?_
  refine aq_iload_n (am_dg dkX2_price (i := 1) rfl) rfl ?_
  obtain ⟨q1, hq2, h⟩ := am_bnd h
  refine aq_spec (a := [.ref 7, .int a1]) (S1 := []) (v1 := .int q1.1) (S2 := [.int q1.1]) (am_dg dkX2_price (i := 2) rfl) cp_2_11 sh_7 (by decide) rfl rfl rfl (Nat.le_of_ble_eq_true rfl) (Nat.le_of_ble_eq_true rfl) (T_X1_price_7 hR (by omega) hq2) rfl ?_
  refine aq_iconst (v := (1 : Int32)) (am_dg dkX2_price (i := 3) rfl) (by decide) ?_
  refine aq_isub (am_dg dkX2_price (i := 4) rfl) ?_
  obtain rfl := Option.some.inj h
  exact aq_ireturn (am_dg dkX2_price (i := 5) rfl) rfl (Or.inl rfl) rfl
set_option maxRecDepth 20000 in
theorem T_X10_bursts_2 {sc : Option (Nat × (Nat → Int32))} {RF : Nat → Nat → Option Nat} {d : Nat} (hR : am_RFok RF) (hd : 0 ≤ d) {a1 : Int32} {s : am_S} {r : Int32 × am_S} (h : F_X10_bursts_2 a1 s = some r) : am_Q sc d mX10_bursts (0, am_L0 mX10_bursts [.ref 2, .int a1], [], am_hp RF s) (.int r.1, am_hp RF r.2) := by
  unfold F_X10_bursts_2 at h
  show am_Q _ _ _ (0, [.ref 2, .int a1], [], _) _
  refine aq_iconst (v := (0 : Int32)) (am_dg dkX10_bursts (i := 0) rfl) (by decide) ?_
  obtain rfl := Option.some.inj h
  exact aq_ireturn (am_dg dkX10_bursts (i := 1) rfl) rfl (Or.inr (Or.inl rfl)) rfl
set_option maxRecDepth 20000 in
theorem T_X10_bursts_3 {sc : Option (Nat × (Nat → Int32))} {RF : Nat → Nat → Option Nat} {d : Nat} (hR : am_RFok RF) (hd : 0 ≤ d) {a1 : Int32} {s : am_S} {r : Int32 × am_S} (h : F_X10_bursts_3 a1 s = some r) : am_Q sc d mX10_bursts (0, am_L0 mX10_bursts [.ref 3, .int a1], [], am_hp RF s) (.int r.1, am_hp RF r.2) := by
  unfold F_X10_bursts_3 at h
  show am_Q _ _ _ (0, [.ref 3, .int a1], [], _) _
  refine aq_iconst (v := (0 : Int32)) (am_dg dkX10_bursts (i := 0) rfl) (by decide) ?_
  obtain rfl := Option.some.inj h
  exact aq_ireturn (am_dg dkX10_bursts (i := 1) rfl) rfl (Or.inr (Or.inl rfl)) rfl
set_option maxRecDepth 20000 in
theorem T_X10_bursts_4 {sc : Option (Nat × (Nat → Int32))} {RF : Nat → Nat → Option Nat} {d : Nat} (hR : am_RFok RF) (hd : 0 ≤ d) {a1 : Int32} {s : am_S} {r : Int32 × am_S} (h : F_X10_bursts_4 a1 s = some r) : am_Q sc d mX10_bursts (0, am_L0 mX10_bursts [.ref 4, .int a1], [], am_hp RF s) (.int r.1, am_hp RF r.2) := by
  unfold F_X10_bursts_4 at h
  show am_Q _ _ _ (0, [.ref 4, .int a1], [], _) _
  refine aq_iconst (v := (0 : Int32)) (am_dg dkX10_bursts (i := 0) rfl) (by decide) ?_
  obtain rfl := Option.some.inj h
  exact aq_ireturn (am_dg dkX10_bursts (i := 1) rfl) rfl (Or.inr (Or.inl rfl)) rfl
set_option maxRecDepth 20000 in
theorem T_X10_bursts_5 {sc : Option (Nat × (Nat → Int32))} {RF : Nat → Nat → Option Nat} {d : Nat} (hR : am_RFok RF) (hd : 0 ≤ d) {a1 : Int32} {s : am_S} {r : Int32 × am_S} (h : F_X10_bursts_5 a1 s = some r) : am_Q sc d mX10_bursts (0, am_L0 mX10_bursts [.ref 5, .int a1], [], am_hp RF s) (.int r.1, am_hp RF r.2) := by
  unfold F_X10_bursts_5 at h
  show am_Q _ _ _ (0, [.ref 5, .int a1], [], _) _
  refine aq_iconst (v := (0 : Int32)) (am_dg dkX10_bursts (i := 0) rfl) (by decide) ?_
  obtain rfl := Option.some.inj h
  exact aq_ireturn (am_dg dkX10_bursts (i := 1) rfl) rfl (Or.inr (Or.inl rfl)) rfl
set_option maxRecDepth 20000 in
theorem T_X1_bursts_6 {sc : Option (Nat × (Nat → Int32))} {RF : Nat → Nat → Option Nat} {d : Nat} (hR : am_RFok RF) (hd : 0 ≤ d) {a1 : Int32} {s : am_S} {r : Int32 × am_S} (h : F_X1_bursts_6 a1 s = some r) : am_Q sc d mX1_bursts (0, am_L0 mX1_bursts [.ref 6, .int a1], [], am_hp RF s) (.int r.1, am_hp RF r.2) := by
  unfold F_X1_bursts_6 at h
  show am_Q _ _ _ (0, [.ref 6, .int a1], [], _) _
  refine aq_iload_n (am_dg dkX1_bursts (i := 0) rfl) rfl ?_
  refine aq_bipush (v := (8 : Int32)) (am_dg dkX1_bursts (i := 1) rfl) (by decide) ?_
  by_cases hc1 : a1 < (8 : Int32)
  · rw [if_pos hc1] at h
    refine aq_icT (t := 10) (am_dg dkX1_bursts (i := 2) rfl) rfl (decide_eq_true hc1) ?_
    refine aq_iconst (v := (0 : Int32)) (am_dg dkX1_bursts (i := 5) rfl) (by decide) ?_
    obtain rfl := Option.some.inj h
    exact aq_ireturn (am_dg dkX1_bursts (i := 6) rfl) rfl (Or.inr (Or.inl rfl)) rfl
  · rw [if_neg hc1] at h
    refine aq_icF (t := 10) (am_dg dkX1_bursts (i := 2) rfl) rfl (decide_eq_false hc1) ?_
    refine aq_iconst (v := (1 : Int32)) (am_dg dkX1_bursts (i := 3) rfl) (by decide) ?_
    refine aq_goto (t := 11) (am_dg dkX1_bursts (i := 4) rfl) rfl ?_
    obtain rfl := Option.some.inj h
    exact aq_ireturn (am_dg dkX1_bursts (i := 6) rfl) rfl (Or.inr (Or.inl rfl)) rfl
set_option maxRecDepth 20000 in
theorem T_X2_bursts_7 {sc : Option (Nat × (Nat → Int32))} {RF : Nat → Nat → Option Nat} {d : Nat} (hR : am_RFok RF) (hd : 0 ≤ d) {a1 : Int32} {s : am_S} {r : Int32 × am_S} (h : F_X2_bursts_7 a1 s = some r) : am_Q sc d mX2_bursts (0, am_L0 mX2_bursts [.ref 7, .int a1], [], am_hp RF s) (.int r.1, am_hp RF r.2) := by
  unfold F_X2_bursts_7 at h
  show am_Q _ _ _ (0, [.ref 7, .int a1], [], _) _
  refine aq_iconst (v := (0 : Int32)) (am_dg dkX2_bursts (i := 0) rfl) (by decide) ?_
  obtain rfl := Option.some.inj h
  exact aq_ireturn (am_dg dkX2_bursts (i := 1) rfl) rfl (Or.inr (Or.inl rfl)) rfl
set_option maxRecDepth 20000 in
theorem T_X8_isBursting_8 {sc : Option (Nat × (Nat → Int32))} {RF : Nat → Nat → Option Nat} {d : Nat} (hR : am_RFok RF) (hd : 1 ≤ d) {a1 : Int32} {s : am_S} {r : Int32 × am_S} (h : F_X8_isBursting_8 a1 s = some r) : am_Q sc d mX8_isBursting (0, am_L0 mX8_isBursting [.ref 8, .int a1], [], am_hp RF s) (.int r.1, am_hp RF r.2) := by
  obtain ⟨e, rfl⟩ : ∃ e, d = e + 1 := ⟨d - 1, by omega⟩
  unfold F_X8_isBursting_8 at h
  show am_Q _ _ _ (0, [.ref 8, .int a1], [], _) _
  refine aq_aload_n (am_dg dkX8_isBursting (i := 0) rfl) rfl ?_
  refine aq_iload_n (am_dg dkX8_isBursting (i := 1) rfl) rfl ?_
  obtain ⟨q1, hq2, h⟩ := am_bnd h
  refine aq_virt (a := [.ref 8, .int a1]) (S1 := []) (v1 := .ref (2 + q1.1)) (S2 := [.ref (2 + q1.1)]) (am_dg dkX8_isBursting (i := 2) rfl) cv_8_91_8 (am_cls_c sh_8 (by decide)) rfl rfl rfl (Nat.le_of_ble_eq_true rfl) (Nat.le_of_ble_eq_true rfl) (T_X8_thing_8 hR (by omega) hq2) rfl ?_
  refine aq_aload_n (am_dg dkX8_isBursting (i := 3) rfl) rfl ?_
  refine aq_getR (am_dg dkX8_isBursting (i := 4) rfl) gk_8_21_8 (rf_8_11 hR) ?_
  refine aq_iload_n (am_dg dkX8_isBursting (i := 5) rfl) rfl ?_
  obtain ⟨hg3, h⟩ := am_guard h
  refine aq_iald (am_dg dkX8_isBursting (i := 6) rfl) sh_12 hg3 ?_
  by_cases hc4 : q1.1 = 0
  · rw [if_pos hc4] at h
    obtain ⟨q5, hq6, h⟩ := am_bnd h
    refine aq_virt (a := [.ref 2, .int (q1.2.1 12 a1.toNatClampNeg)]) (S1 := []) (v1 := .int q5.1) (S2 := [.int q5.1]) (am_dg dkX8_isBursting (i := 7) rfl) cv_8_101_10 (by rw [(show 2 + q1.1 = 2 by rw [hc4])]; exact am_cls_c sh_2 (by decide)) rfl (congrArg (fun z => Value.ref z :: _) (show 2 + q1.1 = 2 by rw [hc4])) rfl (Nat.le_of_ble_eq_true rfl) (Nat.le_of_ble_eq_true rfl) (T_X10_bursts_2 hR (by omega) hq6) rfl ?_
    obtain ⟨hg7, h⟩ := am_guard h
    obtain rfl := Option.some.inj h
    exact aq_ireturn (am_dg dkX8_isBursting (i := 8) rfl) rfl (Or.inr (Or.inl rfl)) (am_nz hg7)
  rw [if_neg hc4] at h
  by_cases hc8 : q1.1 = 1
  · rw [if_pos hc8] at h
    obtain ⟨q9, hq10, h⟩ := am_bnd h
    refine aq_virt (a := [.ref 3, .int (q1.2.1 12 a1.toNatClampNeg)]) (S1 := []) (v1 := .int q9.1) (S2 := [.int q9.1]) (am_dg dkX8_isBursting (i := 7) rfl) cv_8_101_0 (by rw [(show 2 + q1.1 = 3 by rw [hc8])]; exact am_cls_c sh_3 (by decide)) rfl (congrArg (fun z => Value.ref z :: _) (show 2 + q1.1 = 3 by rw [hc8])) rfl (Nat.le_of_ble_eq_true rfl) (Nat.le_of_ble_eq_true rfl) (T_X10_bursts_3 hR (by omega) hq10) rfl ?_
    obtain ⟨hg11, h⟩ := am_guard h
    obtain rfl := Option.some.inj h
    exact aq_ireturn (am_dg dkX8_isBursting (i := 8) rfl) rfl (Or.inr (Or.inl rfl)) (am_nz hg11)
  rw [if_neg hc8] at h
  by_cases hc12 : q1.1 = 2
  · rw [if_pos hc12] at h
    obtain ⟨q13, hq14, h⟩ := am_bnd h
    refine aq_virt (a := [.ref 4, .int (q1.2.1 12 a1.toNatClampNeg)]) (S1 := []) (v1 := .int q13.1) (S2 := [.int q13.1]) (am_dg dkX8_isBursting (i := 7) rfl) cv_8_101_5 (by rw [(show 2 + q1.1 = 4 by rw [hc12])]; exact am_cls_c sh_4 (by decide)) rfl (congrArg (fun z => Value.ref z :: _) (show 2 + q1.1 = 4 by rw [hc12])) rfl (Nat.le_of_ble_eq_true rfl) (Nat.le_of_ble_eq_true rfl) (T_X10_bursts_4 hR (by omega) hq14) rfl ?_
    obtain ⟨hg15, h⟩ := am_guard h
    obtain rfl := Option.some.inj h
    exact aq_ireturn (am_dg dkX8_isBursting (i := 8) rfl) rfl (Or.inr (Or.inl rfl)) (am_nz hg15)
  rw [if_neg hc12] at h
  by_cases hc16 : q1.1 = 3
  · rw [if_pos hc16] at h
    obtain ⟨q17, hq18, h⟩ := am_bnd h
    refine aq_virt (a := [.ref 5, .int (q1.2.1 12 a1.toNatClampNeg)]) (S1 := []) (v1 := .int q17.1) (S2 := [.int q17.1]) (am_dg dkX8_isBursting (i := 7) rfl) cv_8_101_4 (by rw [(show 2 + q1.1 = 5 by rw [hc16])]; exact am_cls_c sh_5 (by decide)) rfl (congrArg (fun z => Value.ref z :: _) (show 2 + q1.1 = 5 by rw [hc16])) rfl (Nat.le_of_ble_eq_true rfl) (Nat.le_of_ble_eq_true rfl) (T_X10_bursts_5 hR (by omega) hq18) rfl ?_
    obtain ⟨hg19, h⟩ := am_guard h
    obtain rfl := Option.some.inj h
    exact aq_ireturn (am_dg dkX8_isBursting (i := 8) rfl) rfl (Or.inr (Or.inl rfl)) (am_nz hg19)
  rw [if_neg hc16] at h
  by_cases hc20 : q1.1 = 4
  · rw [if_pos hc20] at h
    obtain ⟨q21, hq22, h⟩ := am_bnd h
    refine aq_virt (a := [.ref 6, .int (q1.2.1 12 a1.toNatClampNeg)]) (S1 := []) (v1 := .int q21.1) (S2 := [.int q21.1]) (am_dg dkX8_isBursting (i := 7) rfl) cv_8_101_1 (by rw [(show 2 + q1.1 = 6 by rw [hc20])]; exact am_cls_c sh_6 (by decide)) rfl (congrArg (fun z => Value.ref z :: _) (show 2 + q1.1 = 6 by rw [hc20])) rfl (Nat.le_of_ble_eq_true rfl) (Nat.le_of_ble_eq_true rfl) (T_X1_bursts_6 hR (by omega) hq22) rfl ?_
    obtain ⟨hg23, h⟩ := am_guard h
    obtain rfl := Option.some.inj h
    exact aq_ireturn (am_dg dkX8_isBursting (i := 8) rfl) rfl (Or.inr (Or.inl rfl)) (am_nz hg23)
  rw [if_neg hc20] at h
  have hc24 : q1.1 = 5 := by have := (T_X8_thing_8_b hq2); omega
  obtain ⟨q25, hq26, h⟩ := am_bnd h
  refine aq_virt (a := [.ref 7, .int (q1.2.1 12 a1.toNatClampNeg)]) (S1 := []) (v1 := .int q25.1) (S2 := [.int q25.1]) (am_dg dkX8_isBursting (i := 7) rfl) cv_8_101_2 (by rw [(show 2 + q1.1 = 7 by rw [hc24])]; exact am_cls_c sh_7 (by decide)) rfl (congrArg (fun z => Value.ref z :: _) (show 2 + q1.1 = 7 by rw [hc24])) rfl (Nat.le_of_ble_eq_true rfl) (Nat.le_of_ble_eq_true rfl) (T_X2_bursts_7 hR (by omega) hq26) rfl ?_
  obtain ⟨hg27, h⟩ := am_guard h
  obtain rfl := Option.some.inj h
  exact aq_ireturn (am_dg dkX8_isBursting (i := 8) rfl) rfl (Or.inr (Or.inl rfl)) (am_nz hg27)
set_option maxRecDepth 20000 in
theorem T_X11_isUnder {sc : Option (Nat × (Nat → Int32))} {RF : Nat → Nat → Option Nat} {d : Nat} (hR : am_RFok RF) (hd : 0 ≤ d) {a0 : Int32} {a1 : Int32} {s : am_S} {r : Int32 × am_S} (h : F_X11_isUnder a0 a1 s = some r) : am_Q sc d mX11_isUnder (0, am_L0 mX11_isUnder [.int a0, .int a1], [], am_hp RF s) (.int r.1, am_hp RF r.2) := by
  unfold F_X11_isUnder at h
  show am_Q _ _ _ (0, [.int a0, .int a1], [], _) _
  refine aq_iload_n (am_dg dkX11_isUnder (i := 0) rfl) rfl ?_
  refine aq_iload_n (am_dg dkX11_isUnder (i := 1) rfl) rfl ?_
  by_cases hc1 : a0 = a1
  · rw [if_pos hc1] at h
    refine aq_icT (t := 9) (am_dg dkX11_isUnder (i := 2) rfl) rfl (decide_eq_true hc1) ?_
    refine aq_iconst (v := (1 : Int32)) (am_dg dkX11_isUnder (i := 5) rfl) (by decide) ?_
    obtain rfl := Option.some.inj h
    exact aq_ireturn (am_dg dkX11_isUnder (i := 6) rfl) rfl (Or.inr (Or.inl rfl)) rfl
  · rw [if_neg hc1] at h
    refine aq_icF (t := 9) (am_dg dkX11_isUnder (i := 2) rfl) rfl (decide_eq_false hc1) ?_
    refine aq_iload_n (am_dg dkX11_isUnder (i := 3) rfl) rfl ?_
    by_cases hc2 : a1 = (0 : Int32)
    · rw [if_pos hc2] at h
      refine aq_ifF (t := 11) (am_dg dkX11_isUnder (i := 4) rfl) rfl (decide_eq_false (not_not_intro hc2)) ?_
      refine aq_iconst (v := (1 : Int32)) (am_dg dkX11_isUnder (i := 5) rfl) (by decide) ?_
      obtain rfl := Option.some.inj h
      exact aq_ireturn (am_dg dkX11_isUnder (i := 6) rfl) rfl (Or.inr (Or.inl rfl)) rfl
    · rw [if_neg hc2] at h
      refine aq_ifT (t := 11) (am_dg dkX11_isUnder (i := 4) rfl) rfl (decide_eq_true hc2) ?_
      refine aq_iload_n (am_dg dkX11_isUnder (i := 7) rfl) rfl ?_
      by_cases hc3 : a0 < (0 : Int32)
      · rw [if_pos hc3] at h
        refine aq_ifT (t := 36) (am_dg dkX11_isUnder (i := 8) rfl) rfl (decide_eq_true hc3) ?_
        refine aq_iconst (v := (0 : Int32)) (am_dg dkX11_isUnder (i := 20) rfl) (by decide) ?_
        obtain rfl := Option.some.inj h
        exact aq_ireturn (am_dg dkX11_isUnder (i := 21) rfl) rfl (Or.inr (Or.inl rfl)) rfl
      · rw [if_neg hc3] at h
        refine aq_ifF (t := 36) (am_dg dkX11_isUnder (i := 8) rfl) rfl (decide_eq_false hc3) ?_
        refine aq_iload_n (am_dg dkX11_isUnder (i := 9) rfl) rfl ?_
        refine aq_gets (am_dg dkX11_isUnder (i := 10) rfl) gs_11_419 ?_
        refine aq_alenK (v := (6 : Int32)) (am_dg dkX11_isUnder (i := 11) rfl) rfl ?_
        by_cases hc4 : (6 : Int32) ≤ a0
        · rw [if_pos hc4] at h
          refine aq_icT (t := 36) (am_dg dkX11_isUnder (i := 12) rfl) rfl (decide_eq_true hc4) ?_
          refine aq_iconst (v := (0 : Int32)) (am_dg dkX11_isUnder (i := 20) rfl) (by decide) ?_
          obtain rfl := Option.some.inj h
          exact aq_ireturn (am_dg dkX11_isUnder (i := 21) rfl) rfl (Or.inr (Or.inl rfl)) rfl
        · rw [if_neg hc4] at h
          refine aq_icF (t := 36) (am_dg dkX11_isUnder (i := 12) rfl) rfl (decide_eq_false hc4) ?_
          refine aq_gets (am_dg dkX11_isUnder (i := 13) rfl) gs_11_419 ?_
          refine aq_iload_n (am_dg dkX11_isUnder (i := 14) rfl) rfl ?_
          obtain ⟨hg5, h⟩ := am_guard h
          refine aq_ialdK (am_dg dkX11_isUnder (i := 15) rfl) hg5 ?_
          refine aq_iload_n (am_dg dkX11_isUnder (i := 16) rfl) rfl ?_
          by_cases hc6 : (am_KA a0.toNatClampNeg) = a1
          · rw [if_pos hc6] at h
            refine aq_icF (t := 36) (am_dg dkX11_isUnder (i := 17) rfl) rfl (decide_eq_false (not_not_intro hc6)) ?_
            refine aq_iconst (v := (1 : Int32)) (am_dg dkX11_isUnder (i := 18) rfl) (by decide) ?_
            refine aq_goto (t := 37) (am_dg dkX11_isUnder (i := 19) rfl) rfl ?_
            obtain rfl := Option.some.inj h
            exact aq_ireturn (am_dg dkX11_isUnder (i := 21) rfl) rfl (Or.inr (Or.inl rfl)) rfl
          · rw [if_neg hc6] at h
            refine aq_icT (t := 36) (am_dg dkX11_isUnder (i := 17) rfl) rfl (decide_eq_true hc6) ?_
            refine aq_iconst (v := (0 : Int32)) (am_dg dkX11_isUnder (i := 20) rfl) (by decide) ?_
            obtain rfl := Option.some.inj h
            exact aq_ireturn (am_dg dkX11_isUnder (i := 21) rfl) rfl (Or.inr (Or.inl rfl)) rfl
set_option maxRecDepth 20000 in
theorem T_X7_holds_17_23_b229 {sc : Option (Nat × (Nat → Int32))} {RF : Nat → Nat → Option Nat} {d : Nat} (hR : am_RFok RF) (hd : 0 ≤ d) {k16 : Int32 → Int32 → Int32 → Int32 → Int32 → am_S → Option (Int32 × am_S)} (hk16 : ∀ (x1 : Int32) (x3 : Int32) (x4 : Int32) (x5 : Int32) (x6 : Int32) (w7 : Value) (w8 : Value) (s2 : am_S) (r2 : Int32 × am_S), k16 x1 x3 x4 x5 x6 s2 = some r2 → am_Q sc d mX7_holds (16, [.ref 17, .int x1, .ref 23, .int x3, .int x4, .int x5, .int x6, w7, w8], [], am_hp RF s2) (.int r2.1, am_hp RF r2.2)) : ∀ (x1 : Int32) (x3 : Int32) (x4 : Int32) (x5 : Int32) (x6 : Int32) (w7 : Value) (w8 : Value) (s : am_S) (r : Int32 × am_S), F_X7_holds_17_23_b229 k16 x1 x3 x4 x5 x6 s = some r → am_Q sc d mX7_holds (229, [.ref 17, .int x1, .ref 23, .int x3, .int x4, .int x5, .int x6, w7, w8], [], am_hp RF s) (.int r.1, am_hp RF r.2) := by
  intro x1 x3 x4 x5 x6 w7 w8 s r h
  unfold F_X7_holds_17_23_b229 at h
  refine aq_iinc (v := (1 : Int32)) (L1 := [.ref 17, .int x1, .ref 23, .int x3, .int x4, .int x5, .int (x6 + (1 : Int32)), w7, w8]) (am_dg dkX7_holds (i := 101) rfl) rfl (by decide) rfl ?_
  refine aq_goto (t := 16) (am_dg dkX7_holds (i := 102) rfl) rfl ?_
  exact hk16 _ _ _ _ _ _ _ _ _ h
set_option maxRecDepth 20000 in
theorem T_X7_holds_17_23_b119 {sc : Option (Nat × (Nat → Int32))} {RF : Nat → Nat → Option Nat} {d : Nat} (hR : am_RFok RF) (hd : 0 ≤ d) {k16 : Int32 → Int32 → Int32 → Int32 → Int32 → am_S → Option (Int32 × am_S)} (hk16 : ∀ (x1 : Int32) (x3 : Int32) (x4 : Int32) (x5 : Int32) (x6 : Int32) (w7 : Value) (w8 : Value) (s2 : am_S) (r2 : Int32 × am_S), k16 x1 x3 x4 x5 x6 s2 = some r2 → am_Q sc d mX7_holds (16, [.ref 17, .int x1, .ref 23, .int x3, .int x4, .int x5, .int x6, w7, w8], [], am_hp RF s2) (.int r2.1, am_hp RF r2.2)) : ∀ (x1 : Int32) (x4 : Int32) (x5 : Int32) (x6 : Int32) (y0 : Int32) (y1 : Int32) (w3 : Value) (w7 : Value) (w8 : Value) (s : am_S) (r : Int32 × am_S), F_X7_holds_17_23_b119 k16 x1 x4 x5 x6 y0 y1 s = some r → am_Q sc d mX7_holds (119, [.ref 17, .int x1, .ref 23, w3, .int x4, .int x5, .int x6, w7, w8], [.int y0, .int y1], am_hp RF s) (.int r.1, am_hp RF r.2) := by
  intro x1 x4 x5 x6 y0 y1 w3 w7 w8 s r h
  unfold F_X7_holds_17_23_b119 at h
  refine aq_ior (am_dg dkX7_holds (i := 33) rfl) ?_
  refine aq_istore_n (L1 := [.ref 17, .int x1, .ref 23, .int (y1 ||| y0), .int x4, .int x5, .int x6, w7, w8]) (am_dg dkX7_holds (i := 34) rfl) rfl ?_
  refine aq_goto (t := 229) (am_dg dkX7_holds (i := 35) rfl) rfl ?_
  exact T_X7_holds_17_23_b229 hR (by omega) hk16 _ _ _ _ _ _ _ _ _ h
set_option maxRecDepth 20000 in
theorem T_X7_holds_17_23_b139 {sc : Option (Nat × (Nat → Int32))} {RF : Nat → Nat → Option Nat} {d : Nat} (hR : am_RFok RF) (hd : 0 ≤ d) {k16 : Int32 → Int32 → Int32 → Int32 → Int32 → am_S → Option (Int32 × am_S)} (hk16 : ∀ (x1 : Int32) (x3 : Int32) (x4 : Int32) (x5 : Int32) (x6 : Int32) (w7 : Value) (w8 : Value) (s2 : am_S) (r2 : Int32 × am_S), k16 x1 x3 x4 x5 x6 s2 = some r2 → am_Q sc d mX7_holds (16, [.ref 17, .int x1, .ref 23, .int x3, .int x4, .int x5, .int x6, w7, w8], [], am_hp RF s2) (.int r2.1, am_hp RF r2.2)) : ∀ (x1 : Int32) (x4 : Int32) (x5 : Int32) (x6 : Int32) (y0 : Int32) (y1 : Int32) (w3 : Value) (w7 : Value) (w8 : Value) (s : am_S) (r : Int32 × am_S), F_X7_holds_17_23_b139 k16 x1 x4 x5 x6 y0 y1 s = some r → am_Q sc d mX7_holds (139, [.ref 17, .int x1, .ref 23, w3, .int x4, .int x5, .int x6, w7, w8], [.int y0, .int y1], am_hp RF s) (.int r.1, am_hp RF r.2) := by
  intro x1 x4 x5 x6 y0 y1 w3 w7 w8 s r h
  unfold F_X7_holds_17_23_b139 at h
  refine aq_ior (am_dg dkX7_holds (i := 45) rfl) ?_
  refine aq_istore_n (L1 := [.ref 17, .int x1, .ref 23, .int (y1 ||| y0), .int x4, .int x5, .int x6, w7, w8]) (am_dg dkX7_holds (i := 46) rfl) rfl ?_
  refine aq_goto (t := 229) (am_dg dkX7_holds (i := 47) rfl) rfl ?_
  exact T_X7_holds_17_23_b229 hR (by omega) hk16 _ _ _ _ _ _ _ _ _ h
set_option maxRecDepth 20000 in
theorem T_X7_holds_17_23_b159 {sc : Option (Nat × (Nat → Int32))} {RF : Nat → Nat → Option Nat} {d : Nat} (hR : am_RFok RF) (hd : 0 ≤ d) {k16 : Int32 → Int32 → Int32 → Int32 → Int32 → am_S → Option (Int32 × am_S)} (hk16 : ∀ (x1 : Int32) (x3 : Int32) (x4 : Int32) (x5 : Int32) (x6 : Int32) (w7 : Value) (w8 : Value) (s2 : am_S) (r2 : Int32 × am_S), k16 x1 x3 x4 x5 x6 s2 = some r2 → am_Q sc d mX7_holds (16, [.ref 17, .int x1, .ref 23, .int x3, .int x4, .int x5, .int x6, w7, w8], [], am_hp RF s2) (.int r2.1, am_hp RF r2.2)) : ∀ (x1 : Int32) (x4 : Int32) (x5 : Int32) (x6 : Int32) (y0 : Int32) (y1 : Int32) (w3 : Value) (w7 : Value) (w8 : Value) (s : am_S) (r : Int32 × am_S), F_X7_holds_17_23_b159 k16 x1 x4 x5 x6 y0 y1 s = some r → am_Q sc d mX7_holds (159, [.ref 17, .int x1, .ref 23, w3, .int x4, .int x5, .int x6, w7, w8], [.int y0, .int y1], am_hp RF s) (.int r.1, am_hp RF r.2) := by
  intro x1 x4 x5 x6 y0 y1 w3 w7 w8 s r h
  unfold F_X7_holds_17_23_b159 at h
  refine aq_ior (am_dg dkX7_holds (i := 57) rfl) ?_
  refine aq_istore_n (L1 := [.ref 17, .int x1, .ref 23, .int (y1 ||| y0), .int x4, .int x5, .int x6, w7, w8]) (am_dg dkX7_holds (i := 58) rfl) rfl ?_
  refine aq_goto (t := 229) (am_dg dkX7_holds (i := 59) rfl) rfl ?_
  exact T_X7_holds_17_23_b229 hR (by omega) hk16 _ _ _ _ _ _ _ _ _ h
set_option maxRecDepth 20000 in
theorem T_X7_holds_17_23_b227 {sc : Option (Nat × (Nat → Int32))} {RF : Nat → Nat → Option Nat} {d : Nat} (hR : am_RFok RF) (hd : 0 ≤ d) {k16 : Int32 → Int32 → Int32 → Int32 → Int32 → am_S → Option (Int32 × am_S)} (hk16 : ∀ (x1 : Int32) (x3 : Int32) (x4 : Int32) (x5 : Int32) (x6 : Int32) (w7 : Value) (w8 : Value) (s2 : am_S) (r2 : Int32 × am_S), k16 x1 x3 x4 x5 x6 s2 = some r2 → am_Q sc d mX7_holds (16, [.ref 17, .int x1, .ref 23, .int x3, .int x4, .int x5, .int x6, w7, w8], [], am_hp RF s2) (.int r2.1, am_hp RF r2.2)) : ∀ (x1 : Int32) (x3 : Int32) (x4 : Int32) (x6 : Int32) (y0 : Int32) (w5 : Value) (w7 : Value) (w8 : Value) (s : am_S) (r : Int32 × am_S), F_X7_holds_17_23_b227 k16 x1 x3 x4 x6 y0 s = some r → am_Q sc d mX7_holds (227, [.ref 17, .int x1, .ref 23, .int x3, .int x4, w5, .int x6, w7, w8], [.int y0], am_hp RF s) (.int r.1, am_hp RF r.2) := by
  intro x1 x3 x4 x6 y0 w5 w7 w8 s r h
  unfold F_X7_holds_17_23_b227 at h
  refine aq_istore (L1 := [.ref 17, .int x1, .ref 23, .int x3, .int x4, .int y0, .int x6, w7, w8]) (am_dg dkX7_holds (i := 100) rfl) rfl ?_
  exact T_X7_holds_17_23_b229 hR (by omega) hk16 _ _ _ _ _ _ _ _ _ h
set_option maxRecDepth 20000 in
theorem T_X7_holds_17_23_b225 {sc : Option (Nat × (Nat → Int32))} {RF : Nat → Nat → Option Nat} {d : Nat} (hR : am_RFok RF) (hd : 0 ≤ d) {k16 : Int32 → Int32 → Int32 → Int32 → Int32 → am_S → Option (Int32 × am_S)} (hk16 : ∀ (x1 : Int32) (x3 : Int32) (x4 : Int32) (x5 : Int32) (x6 : Int32) (w7 : Value) (w8 : Value) (s2 : am_S) (r2 : Int32 × am_S), k16 x1 x3 x4 x5 x6 s2 = some r2 → am_Q sc d mX7_holds (16, [.ref 17, .int x1, .ref 23, .int x3, .int x4, .int x5, .int x6, w7, w8], [], am_hp RF s2) (.int r2.1, am_hp RF r2.2)) : ∀ (x1 : Int32) (x3 : Int32) (x4 : Int32) (x6 : Int32) (x7 : Int32) (w5 : Value) (w8 : Value) (s : am_S) (r : Int32 × am_S), F_X7_holds_17_23_b225 k16 x1 x3 x4 x6 x7 s = some r → am_Q sc d mX7_holds (225, [.ref 17, .int x1, .ref 23, .int x3, .int x4, w5, .int x6, .int x7, w8], [], am_hp RF s) (.int r.1, am_hp RF r.2) := by
  intro x1 x3 x4 x6 x7 w5 w8 s r h
  unfold F_X7_holds_17_23_b225 at h
  refine aq_iload (am_dg dkX7_holds (i := 99) rfl) rfl ?_
  exact T_X7_holds_17_23_b227 hR (by omega) hk16 _ _ _ _ _ _ _ _ _ _ h
set_option maxRecDepth 20000 in
theorem T_X7_holds_17_23_b16 {sc : Option (Nat × (Nat → Int32))} {RF : Nat → Nat → Option Nat} {d : Nat} (hR : am_RFok RF) (hd : 0 ≤ d) : ∀ (n : Nat) (x1 : Int32) (x3 : Int32) (x4 : Int32) (x5 : Int32) (x6 : Int32) (w7 : Value) (w8 : Value) (s : am_S) (r : Int32 × am_S), F_X7_holds_17_23_b16 n x1 x3 x4 x5 x6 s = some r → am_Q sc d mX7_holds (16, [.ref 17, .int x1, .ref 23, .int x3, .int x4, .int x5, .int x6, w7, w8], [], am_hp RF s) (.int r.1, am_hp RF r.2) := by
  intro n
  induction n with
  | zero => intro x1 x3 x4 x5 x6 w7 w8 s r h; rw [F_X7_holds_17_23_b16] at h; cases h
  | succ n ih =>
  intro x1 x3 x4 x5 x6 w7 w8 s r h
  rw [F_X7_holds_17_23_b16] at h
  refine aq_iload (am_dg dkX7_holds (i := 11) rfl) rfl ?_
  refine aq_aload_n (am_dg dkX7_holds (i := 12) rfl) rfl ?_
  refine aq_getR (am_dg dkX7_holds (i := 13) rfl) gk_7_21_17 (rf_17_5 hR) ?_
  refine aq_iload_n (am_dg dkX7_holds (i := 14) rfl) rfl ?_
  obtain ⟨hg1, h⟩ := am_guard h
  refine aq_iald (am_dg dkX7_holds (i := 15) rfl) sh_21 hg1 ?_
  by_cases hc2 : (s.1 21 x1.toNatClampNeg) ≤ x6
  · rw [if_pos hc2] at h
    refine aq_icT (t := 235) (am_dg dkX7_holds (i := 16) rfl) rfl (decide_eq_true hc2) ?_
    refine aq_iload_n (am_dg dkX7_holds (i := 103) rfl) rfl ?_
    refine aq_iconst (v := (1 : Int32)) (am_dg dkX7_holds (i := 104) rfl) (by decide) ?_
    refine aq_iand (am_dg dkX7_holds (i := 105) rfl) ?_
    refine aq_iconst (v := (1 : Int32)) (am_dg dkX7_holds (i := 106) rfl) (by decide) ?_
    by_cases hc3 : (x3 &&& (1 : Int32)) = (1 : Int32)
    · rw [if_pos hc3] at h
      refine aq_icF (t := 246) (am_dg dkX7_holds (i := 107) rfl) rfl (decide_eq_false (not_not_intro hc3)) ?_
      refine aq_iconst (v := (1 : Int32)) (am_dg dkX7_holds (i := 108) rfl) (by decide) ?_
      refine aq_goto (t := 247) (am_dg dkX7_holds (i := 109) rfl) rfl ?_
      obtain rfl := Option.some.inj h
      exact aq_ireturn (am_dg dkX7_holds (i := 111) rfl) rfl (Or.inr (Or.inl rfl)) rfl
    · rw [if_neg hc3] at h
      refine aq_icT (t := 246) (am_dg dkX7_holds (i := 107) rfl) rfl (decide_eq_true hc3) ?_
      refine aq_iconst (v := (0 : Int32)) (am_dg dkX7_holds (i := 110) rfl) (by decide) ?_
      obtain rfl := Option.some.inj h
      exact aq_ireturn (am_dg dkX7_holds (i := 111) rfl) rfl (Or.inr (Or.inl rfl)) rfl
  · rw [if_neg hc2] at h
    refine aq_icF (t := 235) (am_dg dkX7_holds (i := 16) rfl) rfl (decide_eq_false hc2) ?_
    refine aq_aload_n (am_dg dkX7_holds (i := 17) rfl) rfl ?_
    refine aq_getR (am_dg dkX7_holds (i := 18) rfl) gk_7_26_17 (rf_17_6 hR) ?_
    refine aq_iload (am_dg dkX7_holds (i := 19) rfl) rfl ?_
    obtain ⟨hg4, h⟩ := am_guard h
    refine aq_iald (am_dg dkX7_holds (i := 20) rfl) sh_22 hg4 ?_
    refine aq_istore (L1 := [.ref 17, .int x1, .ref 23, .int x3, .int x4, .int x5, .int x6, .int (s.1 22 x6.toNatClampNeg), w8]) (am_dg dkX7_holds (i := 21) rfl) rfl ?_
    refine aq_iload (am_dg dkX7_holds (i := 22) rfl) rfl ?_
    by_cases hc5 : (s.1 22 x6.toNatClampNeg) = (10010 : Int32)
    · rw [if_pos hc5] at h
      refine aq_tsw (t := 104) (am_dg dkX7_holds (i := 23) rfl) (by rw [hc5]; rfl) ?_
      refine aq_iload_n (am_dg dkX7_holds (i := 24) rfl) rfl ?_
      refine aq_iconst (v := (1 : Int32)) (am_dg dkX7_holds (i := 25) rfl) (by decide) ?_
      refine aq_ishl (am_dg dkX7_holds (i := 26) rfl) ?_
      refine aq_iload (am_dg dkX7_holds (i := 27) rfl) rfl ?_
      refine aq_iload (am_dg dkX7_holds (i := 28) rfl) rfl ?_
      by_cases hc6 : x5 ≤ x4
      · rw [if_pos hc6] at h
        refine aq_icT (t := 118) (am_dg dkX7_holds (i := 29) rfl) rfl (decide_eq_true hc6) ?_
        refine aq_iconst (v := (0 : Int32)) (am_dg dkX7_holds (i := 32) rfl) (by decide) ?_
        exact T_X7_holds_17_23_b119 hR (by omega) ih _ _ _ _ _ _ _ _ _ _ _ h
      · rw [if_neg hc6] at h
        refine aq_icF (t := 118) (am_dg dkX7_holds (i := 29) rfl) rfl (decide_eq_false hc6) ?_
        refine aq_iconst (v := (1 : Int32)) (am_dg dkX7_holds (i := 30) rfl) (by decide) ?_
        refine aq_goto (t := 119) (am_dg dkX7_holds (i := 31) rfl) rfl ?_
        exact T_X7_holds_17_23_b119 hR (by omega) ih _ _ _ _ _ _ _ _ _ _ _ h
    rw [if_neg hc5] at h
    by_cases hc7 : (s.1 22 x6.toNatClampNeg) = (10011 : Int32)
    · rw [if_pos hc7] at h
      refine aq_tsw (t := 124) (am_dg dkX7_holds (i := 23) rfl) (by rw [hc7]; rfl) ?_
      refine aq_iload_n (am_dg dkX7_holds (i := 36) rfl) rfl ?_
      refine aq_iconst (v := (1 : Int32)) (am_dg dkX7_holds (i := 37) rfl) (by decide) ?_
      refine aq_ishl (am_dg dkX7_holds (i := 38) rfl) ?_
      refine aq_iload (am_dg dkX7_holds (i := 39) rfl) rfl ?_
      refine aq_iload (am_dg dkX7_holds (i := 40) rfl) rfl ?_
      by_cases hc8 : x4 = x5
      · rw [if_pos hc8] at h
        refine aq_icF (t := 138) (am_dg dkX7_holds (i := 41) rfl) rfl (decide_eq_false (not_not_intro hc8)) ?_
        refine aq_iconst (v := (1 : Int32)) (am_dg dkX7_holds (i := 42) rfl) (by decide) ?_
        refine aq_goto (t := 139) (am_dg dkX7_holds (i := 43) rfl) rfl ?_
        exact T_X7_holds_17_23_b139 hR (by omega) ih _ _ _ _ _ _ _ _ _ _ _ h
      · rw [if_neg hc8] at h
        refine aq_icT (t := 138) (am_dg dkX7_holds (i := 41) rfl) rfl (decide_eq_true hc8) ?_
        refine aq_iconst (v := (0 : Int32)) (am_dg dkX7_holds (i := 44) rfl) (by decide) ?_
        exact T_X7_holds_17_23_b139 hR (by omega) ih _ _ _ _ _ _ _ _ _ _ _ h
    rw [if_neg hc7] at h
    by_cases hc9 : (s.1 22 x6.toNatClampNeg) = (10012 : Int32)
    · rw [if_pos hc9] at h
      refine aq_tsw (t := 144) (am_dg dkX7_holds (i := 23) rfl) (by rw [hc9]; rfl) ?_
      refine aq_iload_n (am_dg dkX7_holds (i := 48) rfl) rfl ?_
      refine aq_iconst (v := (1 : Int32)) (am_dg dkX7_holds (i := 49) rfl) (by decide) ?_
      refine aq_ishl (am_dg dkX7_holds (i := 50) rfl) ?_
      refine aq_iload (am_dg dkX7_holds (i := 51) rfl) rfl ?_
      refine aq_iload (am_dg dkX7_holds (i := 52) rfl) rfl ?_
      by_cases hc10 : x4 ≤ x5
      · rw [if_pos hc10] at h
        refine aq_icT (t := 158) (am_dg dkX7_holds (i := 53) rfl) rfl (decide_eq_true hc10) ?_
        refine aq_iconst (v := (0 : Int32)) (am_dg dkX7_holds (i := 56) rfl) (by decide) ?_
        exact T_X7_holds_17_23_b159 hR (by omega) ih _ _ _ _ _ _ _ _ _ _ _ h
      · rw [if_neg hc10] at h
        refine aq_icF (t := 158) (am_dg dkX7_holds (i := 53) rfl) rfl (decide_eq_false hc10) ?_
        refine aq_iconst (v := (1 : Int32)) (am_dg dkX7_holds (i := 54) rfl) (by decide) ?_
        refine aq_goto (t := 159) (am_dg dkX7_holds (i := 55) rfl) rfl ?_
        exact T_X7_holds_17_23_b159 hR (by omega) ih _ _ _ _ _ _ _ _ _ _ _ h
    rw [if_neg hc9] at h
    by_cases hc11 : (s.1 22 x6.toNatClampNeg) = (10013 : Int32)
    · rw [if_pos hc11] at h
      refine aq_tsw (t := 194) (am_dg dkX7_holds (i := 23) rfl) (by rw [hc11]; rfl) ?_
      refine aq_iload (am_dg dkX7_holds (i := 83) rfl) rfl ?_
      refine aq_sipush (v := (10000 : Int32)) (am_dg dkX7_holds (i := 84) rfl) (by decide) ?_
      refine aq_isub (am_dg dkX7_holds (i := 85) rfl) ?_
      obtain ⟨v12, hv13, h⟩ := am_bnd h
      rw [Option.some.inj hv13]
      refine aq_istore (L1 := [.ref 17, .int x1, .ref 23, .int x3, .int x4, .int x5, .int x6, .int (s.1 22 x6.toNatClampNeg), .int v12]) (am_dg dkX7_holds (i := 86) rfl) rfl ?_
      refine aq_iload (am_dg dkX7_holds (i := 87) rfl) rfl ?_
      refine aq_istore (L1 := [.ref 17, .int x1, .ref 23, .int x3, .int x5, .int x5, .int x6, .int (s.1 22 x6.toNatClampNeg), .int v12]) (am_dg dkX7_holds (i := 88) rfl) rfl ?_
      refine aq_iload (am_dg dkX7_holds (i := 89) rfl) rfl ?_
      by_cases hc14 : v12 < (0 : Int32)
      · rw [if_pos hc14] at h
        refine aq_ifT (t := 225) (am_dg dkX7_holds (i := 90) rfl) rfl (decide_eq_true hc14) ?_
        exact T_X7_holds_17_23_b225 hR (by omega) ih _ _ _ _ _ _ _ _ _ h
      · rw [if_neg hc14] at h
        refine aq_ifF (t := 225) (am_dg dkX7_holds (i := 90) rfl) rfl (decide_eq_false hc14) ?_
        refine aq_iload (am_dg dkX7_holds (i := 91) rfl) rfl ?_
        refine aq_aload_n (am_dg dkX7_holds (i := 92) rfl) rfl ?_
        refine aq_alen (v := (5 : Int32)) (am_dg dkX7_holds (i := 93) rfl) sh_23 (by decide) (by decide) ?_
        by_cases hc15 : (5 : Int32) ≤ v12
        · rw [if_pos hc15] at h
          refine aq_icT (t := 225) (am_dg dkX7_holds (i := 94) rfl) rfl (decide_eq_true hc15) ?_
          exact T_X7_holds_17_23_b225 hR (by omega) ih _ _ _ _ _ _ _ _ _ h
        · rw [if_neg hc15] at h
          refine aq_icF (t := 225) (am_dg dkX7_holds (i := 94) rfl) rfl (decide_eq_false hc15) ?_
          refine aq_aload_n (am_dg dkX7_holds (i := 95) rfl) rfl ?_
          refine aq_iload (am_dg dkX7_holds (i := 96) rfl) rfl ?_
          obtain ⟨hg16, h⟩ := am_guard h
          refine aq_iald (am_dg dkX7_holds (i := 97) rfl) sh_23 hg16 ?_
          refine aq_goto (t := 227) (am_dg dkX7_holds (i := 98) rfl) rfl ?_
          exact T_X7_holds_17_23_b227 hR (by omega) ih _ _ _ _ _ _ _ _ _ _ h
    rw [if_neg hc11] at h
    by_cases hc17 : (s.1 22 x6.toNatClampNeg) = (10014 : Int32)
    · rw [if_pos hc17] at h
      refine aq_tsw (t := 194) (am_dg dkX7_holds (i := 23) rfl) (by rw [hc17]; rfl) ?_
      refine aq_iload (am_dg dkX7_holds (i := 83) rfl) rfl ?_
      refine aq_sipush (v := (10000 : Int32)) (am_dg dkX7_holds (i := 84) rfl) (by decide) ?_
      refine aq_isub (am_dg dkX7_holds (i := 85) rfl) ?_
      obtain ⟨v18, hv19, h⟩ := am_bnd h
      rw [Option.some.inj hv19]
      refine aq_istore (L1 := [.ref 17, .int x1, .ref 23, .int x3, .int x4, .int x5, .int x6, .int (s.1 22 x6.toNatClampNeg), .int v18]) (am_dg dkX7_holds (i := 86) rfl) rfl ?_
      refine aq_iload (am_dg dkX7_holds (i := 87) rfl) rfl ?_
      refine aq_istore (L1 := [.ref 17, .int x1, .ref 23, .int x3, .int x5, .int x5, .int x6, .int (s.1 22 x6.toNatClampNeg), .int v18]) (am_dg dkX7_holds (i := 88) rfl) rfl ?_
      refine aq_iload (am_dg dkX7_holds (i := 89) rfl) rfl ?_
      by_cases hc20 : v18 < (0 : Int32)
      · rw [if_pos hc20] at h
        refine aq_ifT (t := 225) (am_dg dkX7_holds (i := 90) rfl) rfl (decide_eq_true hc20) ?_
        exact T_X7_holds_17_23_b225 hR (by omega) ih _ _ _ _ _ _ _ _ _ h
      · rw [if_neg hc20] at h
        refine aq_ifF (t := 225) (am_dg dkX7_holds (i := 90) rfl) rfl (decide_eq_false hc20) ?_
        refine aq_iload (am_dg dkX7_holds (i := 91) rfl) rfl ?_
        refine aq_aload_n (am_dg dkX7_holds (i := 92) rfl) rfl ?_
        refine aq_alen (v := (5 : Int32)) (am_dg dkX7_holds (i := 93) rfl) sh_23 (by decide) (by decide) ?_
        by_cases hc21 : (5 : Int32) ≤ v18
        · rw [if_pos hc21] at h
          refine aq_icT (t := 225) (am_dg dkX7_holds (i := 94) rfl) rfl (decide_eq_true hc21) ?_
          exact T_X7_holds_17_23_b225 hR (by omega) ih _ _ _ _ _ _ _ _ _ h
        · rw [if_neg hc21] at h
          refine aq_icF (t := 225) (am_dg dkX7_holds (i := 94) rfl) rfl (decide_eq_false hc21) ?_
          refine aq_aload_n (am_dg dkX7_holds (i := 95) rfl) rfl ?_
          refine aq_iload (am_dg dkX7_holds (i := 96) rfl) rfl ?_
          obtain ⟨hg22, h⟩ := am_guard h
          refine aq_iald (am_dg dkX7_holds (i := 97) rfl) sh_23 hg22 ?_
          refine aq_goto (t := 227) (am_dg dkX7_holds (i := 98) rfl) rfl ?_
          exact T_X7_holds_17_23_b227 hR (by omega) ih _ _ _ _ _ _ _ _ _ _ h
    rw [if_neg hc17] at h
    by_cases hc23 : (s.1 22 x6.toNatClampNeg) = (10015 : Int32)
    · rw [if_pos hc23] at h
      refine aq_tsw (t := 194) (am_dg dkX7_holds (i := 23) rfl) (by rw [hc23]; rfl) ?_
      refine aq_iload (am_dg dkX7_holds (i := 83) rfl) rfl ?_
      refine aq_sipush (v := (10000 : Int32)) (am_dg dkX7_holds (i := 84) rfl) (by decide) ?_
      refine aq_isub (am_dg dkX7_holds (i := 85) rfl) ?_
      obtain ⟨v24, hv25, h⟩ := am_bnd h
      rw [Option.some.inj hv25]
      refine aq_istore (L1 := [.ref 17, .int x1, .ref 23, .int x3, .int x4, .int x5, .int x6, .int (s.1 22 x6.toNatClampNeg), .int v24]) (am_dg dkX7_holds (i := 86) rfl) rfl ?_
      refine aq_iload (am_dg dkX7_holds (i := 87) rfl) rfl ?_
      refine aq_istore (L1 := [.ref 17, .int x1, .ref 23, .int x3, .int x5, .int x5, .int x6, .int (s.1 22 x6.toNatClampNeg), .int v24]) (am_dg dkX7_holds (i := 88) rfl) rfl ?_
      refine aq_iload (am_dg dkX7_holds (i := 89) rfl) rfl ?_
      by_cases hc26 : v24 < (0 : Int32)
      · rw [if_pos hc26] at h
        refine aq_ifT (t := 225) (am_dg dkX7_holds (i := 90) rfl) rfl (decide_eq_true hc26) ?_
        exact T_X7_holds_17_23_b225 hR (by omega) ih _ _ _ _ _ _ _ _ _ h
      · rw [if_neg hc26] at h
        refine aq_ifF (t := 225) (am_dg dkX7_holds (i := 90) rfl) rfl (decide_eq_false hc26) ?_
        refine aq_iload (am_dg dkX7_holds (i := 91) rfl) rfl ?_
        refine aq_aload_n (am_dg dkX7_holds (i := 92) rfl) rfl ?_
        refine aq_alen (v := (5 : Int32)) (am_dg dkX7_holds (i := 93) rfl) sh_23 (by decide) (by decide) ?_
        by_cases hc27 : (5 : Int32) ≤ v24
        · rw [if_pos hc27] at h
          refine aq_icT (t := 225) (am_dg dkX7_holds (i := 94) rfl) rfl (decide_eq_true hc27) ?_
          exact T_X7_holds_17_23_b225 hR (by omega) ih _ _ _ _ _ _ _ _ _ h
        · rw [if_neg hc27] at h
          refine aq_icF (t := 225) (am_dg dkX7_holds (i := 94) rfl) rfl (decide_eq_false hc27) ?_
          refine aq_aload_n (am_dg dkX7_holds (i := 95) rfl) rfl ?_
          refine aq_iload (am_dg dkX7_holds (i := 96) rfl) rfl ?_
          obtain ⟨hg28, h⟩ := am_guard h
          refine aq_iald (am_dg dkX7_holds (i := 97) rfl) sh_23 hg28 ?_
          refine aq_goto (t := 227) (am_dg dkX7_holds (i := 98) rfl) rfl ?_
          exact T_X7_holds_17_23_b227 hR (by omega) ih _ _ _ _ _ _ _ _ _ _ h
    rw [if_neg hc23] at h
    by_cases hc29 : (s.1 22 x6.toNatClampNeg) = (10016 : Int32)
    · rw [if_pos hc29] at h
      refine aq_tsw (t := 194) (am_dg dkX7_holds (i := 23) rfl) (by rw [hc29]; rfl) ?_
      refine aq_iload (am_dg dkX7_holds (i := 83) rfl) rfl ?_
      refine aq_sipush (v := (10000 : Int32)) (am_dg dkX7_holds (i := 84) rfl) (by decide) ?_
      refine aq_isub (am_dg dkX7_holds (i := 85) rfl) ?_
      obtain ⟨v30, hv31, h⟩ := am_bnd h
      rw [Option.some.inj hv31]
      refine aq_istore (L1 := [.ref 17, .int x1, .ref 23, .int x3, .int x4, .int x5, .int x6, .int (s.1 22 x6.toNatClampNeg), .int v30]) (am_dg dkX7_holds (i := 86) rfl) rfl ?_
      refine aq_iload (am_dg dkX7_holds (i := 87) rfl) rfl ?_
      refine aq_istore (L1 := [.ref 17, .int x1, .ref 23, .int x3, .int x5, .int x5, .int x6, .int (s.1 22 x6.toNatClampNeg), .int v30]) (am_dg dkX7_holds (i := 88) rfl) rfl ?_
      refine aq_iload (am_dg dkX7_holds (i := 89) rfl) rfl ?_
      by_cases hc32 : v30 < (0 : Int32)
      · rw [if_pos hc32] at h
        refine aq_ifT (t := 225) (am_dg dkX7_holds (i := 90) rfl) rfl (decide_eq_true hc32) ?_
        exact T_X7_holds_17_23_b225 hR (by omega) ih _ _ _ _ _ _ _ _ _ h
      · rw [if_neg hc32] at h
        refine aq_ifF (t := 225) (am_dg dkX7_holds (i := 90) rfl) rfl (decide_eq_false hc32) ?_
        refine aq_iload (am_dg dkX7_holds (i := 91) rfl) rfl ?_
        refine aq_aload_n (am_dg dkX7_holds (i := 92) rfl) rfl ?_
        refine aq_alen (v := (5 : Int32)) (am_dg dkX7_holds (i := 93) rfl) sh_23 (by decide) (by decide) ?_
        by_cases hc33 : (5 : Int32) ≤ v30
        · rw [if_pos hc33] at h
          refine aq_icT (t := 225) (am_dg dkX7_holds (i := 94) rfl) rfl (decide_eq_true hc33) ?_
          exact T_X7_holds_17_23_b225 hR (by omega) ih _ _ _ _ _ _ _ _ _ h
        · rw [if_neg hc33] at h
          refine aq_icF (t := 225) (am_dg dkX7_holds (i := 94) rfl) rfl (decide_eq_false hc33) ?_
          refine aq_aload_n (am_dg dkX7_holds (i := 95) rfl) rfl ?_
          refine aq_iload (am_dg dkX7_holds (i := 96) rfl) rfl ?_
          obtain ⟨hg34, h⟩ := am_guard h
          refine aq_iald (am_dg dkX7_holds (i := 97) rfl) sh_23 hg34 ?_
          refine aq_goto (t := 227) (am_dg dkX7_holds (i := 98) rfl) rfl ?_
          exact T_X7_holds_17_23_b227 hR (by omega) ih _ _ _ _ _ _ _ _ _ _ h
    rw [if_neg hc29] at h
    by_cases hc35 : (s.1 22 x6.toNatClampNeg) = (10017 : Int32)
    · rw [if_pos hc35] at h
      refine aq_tsw (t := 194) (am_dg dkX7_holds (i := 23) rfl) (by rw [hc35]; rfl) ?_
      refine aq_iload (am_dg dkX7_holds (i := 83) rfl) rfl ?_
      refine aq_sipush (v := (10000 : Int32)) (am_dg dkX7_holds (i := 84) rfl) (by decide) ?_
      refine aq_isub (am_dg dkX7_holds (i := 85) rfl) ?_
      obtain ⟨v36, hv37, h⟩ := am_bnd h
      rw [Option.some.inj hv37]
      refine aq_istore (L1 := [.ref 17, .int x1, .ref 23, .int x3, .int x4, .int x5, .int x6, .int (s.1 22 x6.toNatClampNeg), .int v36]) (am_dg dkX7_holds (i := 86) rfl) rfl ?_
      refine aq_iload (am_dg dkX7_holds (i := 87) rfl) rfl ?_
      refine aq_istore (L1 := [.ref 17, .int x1, .ref 23, .int x3, .int x5, .int x5, .int x6, .int (s.1 22 x6.toNatClampNeg), .int v36]) (am_dg dkX7_holds (i := 88) rfl) rfl ?_
      refine aq_iload (am_dg dkX7_holds (i := 89) rfl) rfl ?_
      by_cases hc38 : v36 < (0 : Int32)
      · rw [if_pos hc38] at h
        refine aq_ifT (t := 225) (am_dg dkX7_holds (i := 90) rfl) rfl (decide_eq_true hc38) ?_
        exact T_X7_holds_17_23_b225 hR (by omega) ih _ _ _ _ _ _ _ _ _ h
      · rw [if_neg hc38] at h
        refine aq_ifF (t := 225) (am_dg dkX7_holds (i := 90) rfl) rfl (decide_eq_false hc38) ?_
        refine aq_iload (am_dg dkX7_holds (i := 91) rfl) rfl ?_
        refine aq_aload_n (am_dg dkX7_holds (i := 92) rfl) rfl ?_
        refine aq_alen (v := (5 : Int32)) (am_dg dkX7_holds (i := 93) rfl) sh_23 (by decide) (by decide) ?_
        by_cases hc39 : (5 : Int32) ≤ v36
        · rw [if_pos hc39] at h
          refine aq_icT (t := 225) (am_dg dkX7_holds (i := 94) rfl) rfl (decide_eq_true hc39) ?_
          exact T_X7_holds_17_23_b225 hR (by omega) ih _ _ _ _ _ _ _ _ _ h
        · rw [if_neg hc39] at h
          refine aq_icF (t := 225) (am_dg dkX7_holds (i := 94) rfl) rfl (decide_eq_false hc39) ?_
          refine aq_aload_n (am_dg dkX7_holds (i := 95) rfl) rfl ?_
          refine aq_iload (am_dg dkX7_holds (i := 96) rfl) rfl ?_
          obtain ⟨hg40, h⟩ := am_guard h
          refine aq_iald (am_dg dkX7_holds (i := 97) rfl) sh_23 hg40 ?_
          refine aq_goto (t := 227) (am_dg dkX7_holds (i := 98) rfl) rfl ?_
          exact T_X7_holds_17_23_b227 hR (by omega) ih _ _ _ _ _ _ _ _ _ _ h
    rw [if_neg hc35] at h
    by_cases hc41 : (s.1 22 x6.toNatClampNeg) = (10018 : Int32)
    · rw [if_pos hc41] at h
      refine aq_tsw (t := 194) (am_dg dkX7_holds (i := 23) rfl) (by rw [hc41]; rfl) ?_
      refine aq_iload (am_dg dkX7_holds (i := 83) rfl) rfl ?_
      refine aq_sipush (v := (10000 : Int32)) (am_dg dkX7_holds (i := 84) rfl) (by decide) ?_
      refine aq_isub (am_dg dkX7_holds (i := 85) rfl) ?_
      obtain ⟨v42, hv43, h⟩ := am_bnd h
      rw [Option.some.inj hv43]
      refine aq_istore (L1 := [.ref 17, .int x1, .ref 23, .int x3, .int x4, .int x5, .int x6, .int (s.1 22 x6.toNatClampNeg), .int v42]) (am_dg dkX7_holds (i := 86) rfl) rfl ?_
      refine aq_iload (am_dg dkX7_holds (i := 87) rfl) rfl ?_
      refine aq_istore (L1 := [.ref 17, .int x1, .ref 23, .int x3, .int x5, .int x5, .int x6, .int (s.1 22 x6.toNatClampNeg), .int v42]) (am_dg dkX7_holds (i := 88) rfl) rfl ?_
      refine aq_iload (am_dg dkX7_holds (i := 89) rfl) rfl ?_
      by_cases hc44 : v42 < (0 : Int32)
      · rw [if_pos hc44] at h
        refine aq_ifT (t := 225) (am_dg dkX7_holds (i := 90) rfl) rfl (decide_eq_true hc44) ?_
        exact T_X7_holds_17_23_b225 hR (by omega) ih _ _ _ _ _ _ _ _ _ h
      · rw [if_neg hc44] at h
        refine aq_ifF (t := 225) (am_dg dkX7_holds (i := 90) rfl) rfl (decide_eq_false hc44) ?_
        refine aq_iload (am_dg dkX7_holds (i := 91) rfl) rfl ?_
        refine aq_aload_n (am_dg dkX7_holds (i := 92) rfl) rfl ?_
        refine aq_alen (v := (5 : Int32)) (am_dg dkX7_holds (i := 93) rfl) sh_23 (by decide) (by decide) ?_
        by_cases hc45 : (5 : Int32) ≤ v42
        · rw [if_pos hc45] at h
          refine aq_icT (t := 225) (am_dg dkX7_holds (i := 94) rfl) rfl (decide_eq_true hc45) ?_
          exact T_X7_holds_17_23_b225 hR (by omega) ih _ _ _ _ _ _ _ _ _ h
        · rw [if_neg hc45] at h
          refine aq_icF (t := 225) (am_dg dkX7_holds (i := 94) rfl) rfl (decide_eq_false hc45) ?_
          refine aq_aload_n (am_dg dkX7_holds (i := 95) rfl) rfl ?_
          refine aq_iload (am_dg dkX7_holds (i := 96) rfl) rfl ?_
          obtain ⟨hg46, h⟩ := am_guard h
          refine aq_iald (am_dg dkX7_holds (i := 97) rfl) sh_23 hg46 ?_
          refine aq_goto (t := 227) (am_dg dkX7_holds (i := 98) rfl) rfl ?_
          exact T_X7_holds_17_23_b227 hR (by omega) ih _ _ _ _ _ _ _ _ _ _ h
    rw [if_neg hc41] at h
    by_cases hc47 : (s.1 22 x6.toNatClampNeg) = (10019 : Int32)
    · rw [if_pos hc47] at h
      refine aq_tsw (t := 194) (am_dg dkX7_holds (i := 23) rfl) (by rw [hc47]; rfl) ?_
      refine aq_iload (am_dg dkX7_holds (i := 83) rfl) rfl ?_
      refine aq_sipush (v := (10000 : Int32)) (am_dg dkX7_holds (i := 84) rfl) (by decide) ?_
      refine aq_isub (am_dg dkX7_holds (i := 85) rfl) ?_
      obtain ⟨v48, hv49, h⟩ := am_bnd h
      rw [Option.some.inj hv49]
      refine aq_istore (L1 := [.ref 17, .int x1, .ref 23, .int x3, .int x4, .int x5, .int x6, .int (s.1 22 x6.toNatClampNeg), .int v48]) (am_dg dkX7_holds (i := 86) rfl) rfl ?_
      refine aq_iload (am_dg dkX7_holds (i := 87) rfl) rfl ?_
      refine aq_istore (L1 := [.ref 17, .int x1, .ref 23, .int x3, .int x5, .int x5, .int x6, .int (s.1 22 x6.toNatClampNeg), .int v48]) (am_dg dkX7_holds (i := 88) rfl) rfl ?_
      refine aq_iload (am_dg dkX7_holds (i := 89) rfl) rfl ?_
      by_cases hc50 : v48 < (0 : Int32)
      · rw [if_pos hc50] at h
        refine aq_ifT (t := 225) (am_dg dkX7_holds (i := 90) rfl) rfl (decide_eq_true hc50) ?_
        exact T_X7_holds_17_23_b225 hR (by omega) ih _ _ _ _ _ _ _ _ _ h
      · rw [if_neg hc50] at h
        refine aq_ifF (t := 225) (am_dg dkX7_holds (i := 90) rfl) rfl (decide_eq_false hc50) ?_
        refine aq_iload (am_dg dkX7_holds (i := 91) rfl) rfl ?_
        refine aq_aload_n (am_dg dkX7_holds (i := 92) rfl) rfl ?_
        refine aq_alen (v := (5 : Int32)) (am_dg dkX7_holds (i := 93) rfl) sh_23 (by decide) (by decide) ?_
        by_cases hc51 : (5 : Int32) ≤ v48
        · rw [if_pos hc51] at h
          refine aq_icT (t := 225) (am_dg dkX7_holds (i := 94) rfl) rfl (decide_eq_true hc51) ?_
          exact T_X7_holds_17_23_b225 hR (by omega) ih _ _ _ _ _ _ _ _ _ h
        · rw [if_neg hc51] at h
          refine aq_icF (t := 225) (am_dg dkX7_holds (i := 94) rfl) rfl (decide_eq_false hc51) ?_
          refine aq_aload_n (am_dg dkX7_holds (i := 95) rfl) rfl ?_
          refine aq_iload (am_dg dkX7_holds (i := 96) rfl) rfl ?_
          obtain ⟨hg52, h⟩ := am_guard h
          refine aq_iald (am_dg dkX7_holds (i := 97) rfl) sh_23 hg52 ?_
          refine aq_goto (t := 227) (am_dg dkX7_holds (i := 98) rfl) rfl ?_
          exact T_X7_holds_17_23_b227 hR (by omega) ih _ _ _ _ _ _ _ _ _ _ h
    rw [if_neg hc47] at h
    by_cases hc53 : (s.1 22 x6.toNatClampNeg) = (10020 : Int32)
    · rw [if_pos hc53] at h
      refine aq_tsw (t := 164) (am_dg dkX7_holds (i := 23) rfl) (by rw [hc53]; rfl) ?_
      refine aq_iload_n (am_dg dkX7_holds (i := 60) rfl) rfl ?_
      refine aq_iconst (v := (1 : Int32)) (am_dg dkX7_holds (i := 61) rfl) (by decide) ?_
      refine aq_ixor (am_dg dkX7_holds (i := 62) rfl) ?_
      refine aq_istore_n (L1 := [.ref 17, .int x1, .ref 23, .int (x3 ^^^ (1 : Int32)), .int x4, .int x5, .int x6, .int (s.1 22 x6.toNatClampNeg), w8]) (am_dg dkX7_holds (i := 63) rfl) rfl ?_
      refine aq_goto (t := 229) (am_dg dkX7_holds (i := 64) rfl) rfl ?_
      exact T_X7_holds_17_23_b229 hR (by omega) ih _ _ _ _ _ _ _ _ _ h
    rw [if_neg hc53] at h
    by_cases hc54 : (s.1 22 x6.toNatClampNeg) = (10021 : Int32)
    · rw [if_pos hc54] at h
      refine aq_tsw (t := 171) (am_dg dkX7_holds (i := 23) rfl) (by rw [hc54]; rfl) ?_
      refine aq_iload_n (am_dg dkX7_holds (i := 65) rfl) rfl ?_
      refine aq_iconst (v := (1 : Int32)) (am_dg dkX7_holds (i := 66) rfl) (by decide) ?_
      refine aq_ishr (am_dg dkX7_holds (i := 67) rfl) ?_
      refine aq_iload_n (am_dg dkX7_holds (i := 68) rfl) rfl ?_
      refine aq_bipush (v := (-2 : Int32)) (am_dg dkX7_holds (i := 69) rfl) (by decide) ?_
      refine aq_ior (am_dg dkX7_holds (i := 70) rfl) ?_
      refine aq_iand (am_dg dkX7_holds (i := 71) rfl) ?_
      obtain ⟨v55, hv56, h⟩ := am_bnd h
      rw [Option.some.inj hv56]
      refine aq_istore_n (L1 := [.ref 17, .int x1, .ref 23, .int v55, .int x4, .int x5, .int x6, .int (s.1 22 x6.toNatClampNeg), w8]) (am_dg dkX7_holds (i := 72) rfl) rfl ?_
      refine aq_goto (t := 229) (am_dg dkX7_holds (i := 73) rfl) rfl ?_
      exact T_X7_holds_17_23_b229 hR (by omega) ih _ _ _ _ _ _ _ _ _ h
    rw [if_neg hc54] at h
    by_cases hc57 : (s.1 22 x6.toNatClampNeg) = (10022 : Int32)
    · rw [if_pos hc57] at h
      refine aq_tsw (t := 183) (am_dg dkX7_holds (i := 23) rfl) (by rw [hc57]; rfl) ?_
      refine aq_iload_n (am_dg dkX7_holds (i := 74) rfl) rfl ?_
      refine aq_iconst (v := (1 : Int32)) (am_dg dkX7_holds (i := 75) rfl) (by decide) ?_
      refine aq_ishr (am_dg dkX7_holds (i := 76) rfl) ?_
      refine aq_iload_n (am_dg dkX7_holds (i := 77) rfl) rfl ?_
      refine aq_iconst (v := (1 : Int32)) (am_dg dkX7_holds (i := 78) rfl) (by decide) ?_
      refine aq_iand (am_dg dkX7_holds (i := 79) rfl) ?_
      refine aq_ior (am_dg dkX7_holds (i := 80) rfl) ?_
      obtain ⟨v58, hv59, h⟩ := am_bnd h
      rw [Option.some.inj hv59]
      refine aq_istore_n (L1 := [.ref 17, .int x1, .ref 23, .int v58, .int x4, .int x5, .int x6, .int (s.1 22 x6.toNatClampNeg), w8]) (am_dg dkX7_holds (i := 81) rfl) rfl ?_
      refine aq_goto (t := 229) (am_dg dkX7_holds (i := 82) rfl) rfl ?_
      exact T_X7_holds_17_23_b229 hR (by omega) ih _ _ _ _ _ _ _ _ _ h
    rw [if_neg hc57] at h
    refine aq_tsw (t := 194) (am_dg dkX7_holds (i := 23) rfl) (am_tsw_d (by have := lv_neT hc5 (show ((10010 : Int32)).toInt = 10010 by decide); have := lv_neT hc7 (show ((10011 : Int32)).toInt = 10011 by decide); have := lv_neT hc9 (show ((10012 : Int32)).toInt = 10012 by decide); have := lv_neT hc11 (show ((10013 : Int32)).toInt = 10013 by decide); have := lv_neT hc17 (show ((10014 : Int32)).toInt = 10014 by decide); have := lv_neT hc23 (show ((10015 : Int32)).toInt = 10015 by decide); have := lv_neT hc29 (show ((10016 : Int32)).toInt = 10016 by decide); have := lv_neT hc35 (show ((10017 : Int32)).toInt = 10017 by decide); have := lv_neT hc41 (show ((10018 : Int32)).toInt = 10018 by decide); have := lv_neT hc47 (show ((10019 : Int32)).toInt = 10019 by decide); have := lv_neT hc53 (show ((10020 : Int32)).toInt = 10020 by decide); have := lv_neT hc54 (show ((10021 : Int32)).toInt = 10021 by decide); have := lv_neT hc57 (show ((10022 : Int32)).toInt = 10022 by decide); omega) rfl) ?_
    refine aq_iload (am_dg dkX7_holds (i := 83) rfl) rfl ?_
    refine aq_sipush (v := (10000 : Int32)) (am_dg dkX7_holds (i := 84) rfl) (by decide) ?_
    refine aq_isub (am_dg dkX7_holds (i := 85) rfl) ?_
    obtain ⟨v60, hv61, h⟩ := am_bnd h
    rw [Option.some.inj hv61]
    refine aq_istore (L1 := [.ref 17, .int x1, .ref 23, .int x3, .int x4, .int x5, .int x6, .int (s.1 22 x6.toNatClampNeg), .int v60]) (am_dg dkX7_holds (i := 86) rfl) rfl ?_
    refine aq_iload (am_dg dkX7_holds (i := 87) rfl) rfl ?_
    refine aq_istore (L1 := [.ref 17, .int x1, .ref 23, .int x3, .int x5, .int x5, .int x6, .int (s.1 22 x6.toNatClampNeg), .int v60]) (am_dg dkX7_holds (i := 88) rfl) rfl ?_
    refine aq_iload (am_dg dkX7_holds (i := 89) rfl) rfl ?_
    by_cases hc62 : v60 < (0 : Int32)
    · rw [if_pos hc62] at h
      refine aq_ifT (t := 225) (am_dg dkX7_holds (i := 90) rfl) rfl (decide_eq_true hc62) ?_
      exact T_X7_holds_17_23_b225 hR (by omega) ih _ _ _ _ _ _ _ _ _ h
    · rw [if_neg hc62] at h
      refine aq_ifF (t := 225) (am_dg dkX7_holds (i := 90) rfl) rfl (decide_eq_false hc62) ?_
      refine aq_iload (am_dg dkX7_holds (i := 91) rfl) rfl ?_
      refine aq_aload_n (am_dg dkX7_holds (i := 92) rfl) rfl ?_
      refine aq_alen (v := (5 : Int32)) (am_dg dkX7_holds (i := 93) rfl) sh_23 (by decide) (by decide) ?_
      by_cases hc63 : (5 : Int32) ≤ v60
      · rw [if_pos hc63] at h
        refine aq_icT (t := 225) (am_dg dkX7_holds (i := 94) rfl) rfl (decide_eq_true hc63) ?_
        exact T_X7_holds_17_23_b225 hR (by omega) ih _ _ _ _ _ _ _ _ _ h
      · rw [if_neg hc63] at h
        refine aq_icF (t := 225) (am_dg dkX7_holds (i := 94) rfl) rfl (decide_eq_false hc63) ?_
        refine aq_aload_n (am_dg dkX7_holds (i := 95) rfl) rfl ?_
        refine aq_iload (am_dg dkX7_holds (i := 96) rfl) rfl ?_
        obtain ⟨hg64, h⟩ := am_guard h
        refine aq_iald (am_dg dkX7_holds (i := 97) rfl) sh_23 hg64 ?_
        refine aq_goto (t := 227) (am_dg dkX7_holds (i := 98) rfl) rfl ?_
        exact T_X7_holds_17_23_b227 hR (by omega) ih _ _ _ _ _ _ _ _ _ _ h
set_option maxRecDepth 20000 in
theorem T_X7_holds_17_23 {sc : Option (Nat × (Nat → Int32))} {RF : Nat → Nat → Option Nat} {d : Nat} (hR : am_RFok RF) (hd : 0 ≤ d) {a1 : Int32} {s : am_S} {r : Int32 × am_S} (h : F_X7_holds_17_23 a1 s = some r) : am_Q sc d mX7_holds (0, am_L0 mX7_holds [.ref 17, .int a1, .ref 23], [], am_hp RF s) (.int r.1, am_hp RF r.2) := by
  unfold F_X7_holds_17_23 at h
  show am_Q _ _ _ (0, [.ref 17, .int a1, .ref 23, .null, .null, .null, .null, .null, .null], [], _) _
  refine aq_iconst (v := (1 : Int32)) (am_dg dkX7_holds (i := 0) rfl) (by decide) ?_
  refine aq_istore_n (L1 := [.ref 17, .int a1, .ref 23, .int (1 : Int32), .null, .null, .null, .null, .null]) (am_dg dkX7_holds (i := 1) rfl) rfl ?_
  refine aq_iconst (v := (0 : Int32)) (am_dg dkX7_holds (i := 2) rfl) (by decide) ?_
  refine aq_istore (L1 := [.ref 17, .int a1, .ref 23, .int (1 : Int32), .int (0 : Int32), .null, .null, .null, .null]) (am_dg dkX7_holds (i := 3) rfl) rfl ?_
  refine aq_iconst (v := (0 : Int32)) (am_dg dkX7_holds (i := 4) rfl) (by decide) ?_
  refine aq_istore (L1 := [.ref 17, .int a1, .ref 23, .int (1 : Int32), .int (0 : Int32), .int (0 : Int32), .null, .null, .null]) (am_dg dkX7_holds (i := 5) rfl) rfl ?_
  refine aq_aload_n (am_dg dkX7_holds (i := 6) rfl) rfl ?_
  refine aq_getR (am_dg dkX7_holds (i := 7) rfl) gk_7_18_17 (rf_17_4 hR) ?_
  refine aq_iload_n (am_dg dkX7_holds (i := 8) rfl) rfl ?_
  obtain ⟨hg1, h⟩ := am_guard h
  refine aq_iald (am_dg dkX7_holds (i := 9) rfl) sh_20 hg1 ?_
  refine aq_istore (L1 := [.ref 17, .int a1, .ref 23, .int (1 : Int32), .int (0 : Int32), .int (0 : Int32), .int (s.1 20 a1.toNatClampNeg), .null, .null]) (am_dg dkX7_holds (i := 10) rfl) rfl ?_
  exact T_X7_holds_17_23_b16 hR (by omega) _ _ _ _ _ _ _ _ _ _ h
set_option maxRecDepth 20000 in
theorem T_X7_deedFor_17_23_b39 {sc : Option (Nat × (Nat → Int32))} {RF : Nat → Nat → Option Nat} {d : Nat} (hR : am_RFok RF) (hd : 1 ≤ d) {k2 : Int32 → Int32 → am_S → Option (Int32 × am_S)} (hk2 : ∀ (x1 : Int32) (x3 : Int32) (s2 : am_S) (r2 : Int32 × am_S), k2 x1 x3 s2 = some r2 → am_Q sc d mX7_deedFor (2, [.ref 17, .int x1, .ref 23, .int x3], [], am_hp RF s2) (.int r2.1, am_hp RF r2.2)) : ∀ (x1 : Int32) (x3 : Int32) (s : am_S) (r : Int32 × am_S), F_X7_deedFor_17_23_b39 k2 x1 x3 s = some r → am_Q sc d mX7_deedFor (39, [.ref 17, .int x1, .ref 23, .int x3], [], am_hp RF s) (.int r.1, am_hp RF r.2) := by
  obtain ⟨e, rfl⟩ : ∃ e, d = e + 1 := ⟨d - 1, by omega⟩
  intro x1 x3 s r h
  unfold F_X7_deedFor_17_23_b39 at h
  refine aq_iinc (v := (1 : Int32)) (L1 := [.ref 17, .int x1, .ref 23, .int (x3 + (1 : Int32))]) (am_dg dkX7_deedFor (i := 23) rfl) rfl (by decide) rfl ?_
  refine aq_goto (t := 2) (am_dg dkX7_deedFor (i := 24) rfl) rfl ?_
  exact hk2 _ _ _ _ h
set_option maxRecDepth 20000 in
theorem T_X7_deedFor_17_23_b2 {sc : Option (Nat × (Nat → Int32))} {RF : Nat → Nat → Option Nat} {d : Nat} (hR : am_RFok RF) (hd : 1 ≤ d) : ∀ (n : Nat) (x1 : Int32) (x3 : Int32) (s : am_S) (r : Int32 × am_S), F_X7_deedFor_17_23_b2 n x1 x3 s = some r → am_Q sc d mX7_deedFor (2, [.ref 17, .int x1, .ref 23, .int x3], [], am_hp RF s) (.int r.1, am_hp RF r.2) := by
  obtain ⟨e, rfl⟩ : ∃ e, d = e + 1 := ⟨d - 1, by omega⟩
  intro n
  induction n with
  | zero => intro x1 x3 s r h; rw [F_X7_deedFor_17_23_b2] at h; cases h
  | succ n ih =>
  intro x1 x3 s r h
  rw [F_X7_deedFor_17_23_b2] at h
  refine aq_iload_n (am_dg dkX7_deedFor (i := 2) rfl) rfl ?_
  refine aq_aload_n (am_dg dkX7_deedFor (i := 3) rfl) rfl ?_
  refine aq_getI (am_dg dkX7_deedFor (i := 4) rfl) gk_7_29_17 (by decide) ?_
  by_cases hc1 : (s.1 17 0) ≤ x3
  · rw [if_pos hc1] at h
    refine aq_icT (t := 45) (am_dg dkX7_deedFor (i := 5) rfl) rfl (decide_eq_true hc1) ?_
    refine aq_iconst (v := (0 : Int32)) (am_dg dkX7_deedFor (i := 25) rfl) (by decide) ?_
    obtain rfl := Option.some.inj h
    exact aq_ireturn (am_dg dkX7_deedFor (i := 26) rfl) rfl (Or.inl rfl) rfl
  · rw [if_neg hc1] at h
    refine aq_icF (t := 45) (am_dg dkX7_deedFor (i := 5) rfl) rfl (decide_eq_false hc1) ?_
    refine aq_iload_n (am_dg dkX7_deedFor (i := 6) rfl) rfl ?_
    refine aq_aload_n (am_dg dkX7_deedFor (i := 7) rfl) rfl ?_
    refine aq_getR (am_dg dkX7_deedFor (i := 8) rfl) gk_7_11_17 (rf_17_2 hR) ?_
    refine aq_iload_n (am_dg dkX7_deedFor (i := 9) rfl) rfl ?_
    obtain ⟨hg2, h⟩ := am_guard h
    refine aq_iald (am_dg dkX7_deedFor (i := 10) rfl) sh_18 hg2 ?_
    obtain ⟨q3, hq4, h⟩ := am_bnd h
    refine aq_static (a := [.int x1, .int (s.1 18 x3.toNatClampNeg)]) (S1 := []) (v1 := .int q3.1) (S2 := [.int q3.1]) (am_dg dkX7_deedFor (i := 11) rfl) ct_7_42 rfl rfl rfl (Nat.le_of_ble_eq_true rfl) (Nat.le_of_ble_eq_true rfl) (T_X11_isUnder hR (by omega) hq4) rfl ?_
    by_cases hc5 : q3.1 = (0 : Int32)
    · rw [if_pos hc5] at h
      refine aq_ifT (t := 39) (am_dg dkX7_deedFor (i := 12) rfl) rfl (decide_eq_true hc5) ?_
      exact T_X7_deedFor_17_23_b39 hR (by omega) ih _ _ _ _ h
    · rw [if_neg hc5] at h
      refine aq_ifF (t := 39) (am_dg dkX7_deedFor (i := 12) rfl) rfl (decide_eq_false hc5) ?_
      refine aq_aload_n (am_dg dkX7_deedFor (i := 13) rfl) rfl ?_
      refine aq_iload_n (am_dg dkX7_deedFor (i := 14) rfl) rfl ?_
      refine aq_aload_n (am_dg dkX7_deedFor (i := 15) rfl) rfl ?_
      obtain ⟨q6, hq7, h⟩ := am_bnd h
      refine aq_virt (a := [.ref 17, .int x3, .ref 23]) (S1 := []) (v1 := .int q6.1) (S2 := [.int q6.1]) (am_dg dkX7_deedFor (i := 16) rfl) cv_7_46_7 (am_cls_c sh_17 (by decide)) rfl rfl rfl (Nat.le_of_ble_eq_true rfl) (Nat.le_of_ble_eq_true rfl) (T_X7_holds_17_23 hR (by omega) hq7) rfl ?_
      by_cases hc8 : q6.1 = (0 : Int32)
      · rw [if_pos hc8] at h
        refine aq_ifT (t := 39) (am_dg dkX7_deedFor (i := 17) rfl) rfl (decide_eq_true hc8) ?_
        exact T_X7_deedFor_17_23_b39 hR (by omega) ih _ _ _ _ h
      · rw [if_neg hc8] at h
        refine aq_ifF (t := 39) (am_dg dkX7_deedFor (i := 17) rfl) rfl (decide_eq_false hc8) ?_
        refine aq_aload_n (am_dg dkX7_deedFor (i := 18) rfl) rfl ?_
        refine aq_getR (am_dg dkX7_deedFor (i := 19) rfl) gk_7_15_17 (rf_17_3 hR) ?_
        refine aq_iload_n (am_dg dkX7_deedFor (i := 20) rfl) rfl ?_
        obtain ⟨hg9, h⟩ := am_guard h
        refine aq_iald (am_dg dkX7_deedFor (i := 21) rfl) sh_19 hg9 ?_
        obtain rfl := Option.some.inj h
        exact aq_ireturn (am_dg dkX7_deedFor (i := 22) rfl) rfl (Or.inl rfl) rfl
set_option maxRecDepth 20000 in
theorem T_X7_deedFor_17_23 {sc : Option (Nat × (Nat → Int32))} {RF : Nat → Nat → Option Nat} {d : Nat} (hR : am_RFok RF) (hd : 1 ≤ d) {a1 : Int32} {s : am_S} {r : Int32 × am_S} (h : F_X7_deedFor_17_23 a1 s = some r) : am_Q sc d mX7_deedFor (0, am_L0 mX7_deedFor [.ref 17, .int a1, .ref 23], [], am_hp RF s) (.int r.1, am_hp RF r.2) := by
  obtain ⟨e, rfl⟩ : ∃ e, d = e + 1 := ⟨d - 1, by omega⟩
  unfold F_X7_deedFor_17_23 at h
  show am_Q _ _ _ (0, [.ref 17, .int a1, .ref 23, .null], [], _) _
  refine aq_iconst (v := (0 : Int32)) (am_dg dkX7_deedFor (i := 0) rfl) (by decide) ?_
  refine aq_istore_n (L1 := [.ref 17, .int a1, .ref 23, .int (0 : Int32)]) (am_dg dkX7_deedFor (i := 1) rfl) rfl ?_
  exact T_X7_deedFor_17_23_b2 hR (by omega) _ _ _ _ _ h
set_option maxRecDepth 20000 in
theorem T_X8_willOf_8 {sc : Option (Nat × (Nat → Int32))} {RF : Nat → Nat → Option Nat} {d : Nat} (hR : am_RFok RF) (hd : 2 ≤ d) {a1 : Int32} {s : am_S} {r : Int32 × am_S} (h : F_X8_willOf_8 a1 s = some r) : am_Q sc d mX8_willOf (0, am_L0 mX8_willOf [.ref 8, .int a1], [], am_hp RF s) (.int r.1, am_hp RF r.2) := by
  obtain ⟨e, rfl⟩ : ∃ e, d = e + 1 := ⟨d - 1, by omega⟩
  unfold F_X8_willOf_8 at h
  show am_Q _ _ _ (0, [.ref 8, .int a1], [], _) _
  refine aq_aload_n (am_dg dkX8_willOf (i := 0) rfl) rfl ?_
  refine aq_getR (am_dg dkX8_willOf (i := 1) rfl) gk_8_43_8 (rf_8_18 hR) ?_
  refine aq_iconst (v := (0 : Int32)) (am_dg dkX8_willOf (i := 2) rfl) (by decide) ?_
  refine aq_aload_n (am_dg dkX8_willOf (i := 3) rfl) rfl ?_
  refine aq_getI (am_dg dkX8_willOf (i := 4) rfl) gk_8_66_8 (by decide) ?_
  obtain ⟨hg1, h⟩ := am_guard h
  refine aq_iast (am_dg dkX8_willOf (i := 5) rfl) sh_23 hg1 ?_
  obtain ⟨s2, hs3, h⟩ := am_bnd h
  rw [Option.some.inj hs3]
  refine aq_aload_n (am_dg dkX8_willOf (i := 6) rfl) rfl ?_
  refine aq_getR (am_dg dkX8_willOf (i := 7) rfl) gk_8_43_8 (rf_8_18 hR) ?_
  refine aq_iconst (v := (1 : Int32)) (am_dg dkX8_willOf (i := 8) rfl) (by decide) ?_
  refine aq_aload_n (am_dg dkX8_willOf (i := 9) rfl) rfl ?_
  refine aq_getR (am_dg dkX8_willOf (i := 10) rfl) gk_8_18_8 (rf_8_10 hR) ?_
  refine aq_iload_n (am_dg dkX8_willOf (i := 11) rfl) rfl ?_
  obtain ⟨hg4, h⟩ := am_guard h
  refine aq_iald (am_dg dkX8_willOf (i := 12) rfl) sh_11 hg4 ?_
  obtain ⟨hg5, h⟩ := am_guard h
  refine aq_iast (am_dg dkX8_willOf (i := 13) rfl) sh_23 hg5 ?_
  obtain ⟨s6, hs7, h⟩ := am_bnd h
  rw [Option.some.inj hs7]
  refine aq_aload_n (am_dg dkX8_willOf (i := 14) rfl) rfl ?_
  refine aq_getR (am_dg dkX8_willOf (i := 15) rfl) gk_8_43_8 (rf_8_18 hR) ?_
  refine aq_iconst (v := (2 : Int32)) (am_dg dkX8_willOf (i := 16) rfl) (by decide) ?_
  refine aq_aload_n (am_dg dkX8_willOf (i := 17) rfl) rfl ?_
  refine aq_getR (am_dg dkX8_willOf (i := 18) rfl) gk_8_21_8 (rf_8_11 hR) ?_
  refine aq_iload_n (am_dg dkX8_willOf (i := 19) rfl) rfl ?_
  obtain ⟨hg8, h⟩ := am_guard h
  refine aq_iald (am_dg dkX8_willOf (i := 20) rfl) sh_12 hg8 ?_
  obtain ⟨hg9, h⟩ := am_guard h
  refine aq_iast (am_dg dkX8_willOf (i := 21) rfl) sh_23 hg9 ?_
  obtain ⟨s10, hs11, h⟩ := am_bnd h
  rw [Option.some.inj hs11]
  refine aq_aload_n (am_dg dkX8_willOf (i := 22) rfl) rfl ?_
  refine aq_getR (am_dg dkX8_willOf (i := 23) rfl) gk_8_43_8 (rf_8_18 hR) ?_
  refine aq_iconst (v := (3 : Int32)) (am_dg dkX8_willOf (i := 24) rfl) (by decide) ?_
  refine aq_aload_n (am_dg dkX8_willOf (i := 25) rfl) rfl ?_
  refine aq_getR (am_dg dkX8_willOf (i := 26) rfl) gk_8_24_8 (rf_8_12 hR) ?_
  refine aq_iload_n (am_dg dkX8_willOf (i := 27) rfl) rfl ?_
  obtain ⟨hg12, h⟩ := am_guard h
  refine aq_iald (am_dg dkX8_willOf (i := 28) rfl) sh_13 hg12 ?_
  obtain ⟨hg13, h⟩ := am_guard h
  refine aq_iast (am_dg dkX8_willOf (i := 29) rfl) sh_23 hg13 ?_
  obtain ⟨s14, hs15, h⟩ := am_bnd h
  rw [Option.some.inj hs15]
  refine aq_aload_n (am_dg dkX8_willOf (i := 30) rfl) rfl ?_
  refine aq_getR (am_dg dkX8_willOf (i := 31) rfl) gk_8_43_8 (rf_8_18 hR) ?_
  refine aq_iconst (v := (4 : Int32)) (am_dg dkX8_willOf (i := 32) rfl) (by decide) ?_
  refine aq_iload_n (am_dg dkX8_willOf (i := 33) rfl) rfl ?_
  obtain ⟨hg16, h⟩ := am_guard h
  refine aq_iast (am_dg dkX8_willOf (i := 34) rfl) sh_23 hg16 ?_
  obtain ⟨s17, hs18, h⟩ := am_bnd h
  rw [Option.some.inj hs18]
  refine aq_aload_n (am_dg dkX8_willOf (i := 35) rfl) rfl ?_
  refine aq_getR (am_dg dkX8_willOf (i := 36) rfl) gk_8_39_8 (rf_8_16 hR) ?_
  refine aq_aload_n (am_dg dkX8_willOf (i := 37) rfl) rfl ?_
  refine aq_getR (am_dg dkX8_willOf (i := 38) rfl) gk_8_15_8 (rf_8_9 hR) ?_
  refine aq_iload_n (am_dg dkX8_willOf (i := 39) rfl) rfl ?_
  obtain ⟨hg19, h⟩ := am_guard h
  refine aq_iald (am_dg dkX8_willOf (i := 40) rfl) sh_10 hg19 ?_
  refine aq_aload_n (am_dg dkX8_willOf (i := 41) rfl) rfl ?_
  refine aq_getR (am_dg dkX8_willOf (i := 42) rfl) gk_8_43_8 (rf_8_18 hR) ?_
  obtain ⟨q20, hq21, h⟩ := am_bnd h
  refine aq_virt (a := [.ref 17, .int (s17.1 10 a1.toNatClampNeg), .ref 23]) (S1 := []) (v1 := .int q20.1) (S2 := [.int q20.1]) (am_dg dkX8_willOf (i := 43) rfl) cv_8_105_7 (am_cls_c sh_17 (by decide)) rfl rfl rfl (Nat.le_of_ble_eq_true rfl) (Nat.le_of_ble_eq_true rfl) (T_X7_deedFor_17_23 hR (by omega) hq21) rfl ?_
  obtain rfl := Option.some.inj h
  exact aq_ireturn (am_dg dkX8_willOf (i := 44) rfl) rfl (Or.inl rfl) rfl
set_option maxRecDepth 20000 in
theorem T_X11_voiceOf_0 {sc : Option (Nat × (Nat → Int32))} {RF : Nat → Nat → Option Nat} {d : Nat} (hR : am_RFok RF) (hd : 4 ≤ d) {a1 : Int32} {a2 : Int32} {s : am_S} {r : Int32 × am_S} (h : F_X11_voiceOf_0 a1 a2 s = some r) : am_Q sc d mX11_voiceOf (0, am_L0 mX11_voiceOf [.ref 0, .int a1, .int a2], [], am_hp RF s) (.int r.1, am_hp RF r.2) := by
  obtain ⟨e, rfl⟩ : ∃ e, d = e + 1 := ⟨d - 1, by omega⟩
  unfold F_X11_voiceOf_0 at h
  show am_Q _ _ _ (0, [.ref 0, .int a1, .int a2], [], _) _
  refine aq_aload_n (am_dg dkX11_voiceOf (i := 0) rfl) rfl ?_
  refine aq_getR (am_dg dkX11_voiceOf (i := 1) rfl) gk_11_30_0 (rf_0_0 hR) ?_
  refine aq_iload_n (am_dg dkX11_voiceOf (i := 2) rfl) rfl ?_
  obtain ⟨q1, hq2, h⟩ := am_bnd h
  refine aq_virt (a := [.ref 8, .int a1]) (S1 := []) (v1 := .int q1.1) (S2 := [.int q1.1]) (am_dg dkX11_voiceOf (i := 3) rfl) cv_11_110_8 (am_cls_c sh_8 (by decide)) rfl rfl rfl (Nat.le_of_ble_eq_true rfl) (Nat.le_of_ble_eq_true rfl) (T_X8_has_8 hR (by omega) hq2) rfl ?_
  by_cases hc3 : q1.1 = (0 : Int32)
  · rw [if_pos hc3] at h
    refine aq_ifF (t := 13) (am_dg dkX11_voiceOf (i := 4) rfl) rfl (decide_eq_false (not_not_intro hc3)) ?_
    refine aq_iconst (v := (-1 : Int32)) (am_dg dkX11_voiceOf (i := 5) rfl) (by decide) ?_
    obtain rfl := Option.some.inj h
    exact aq_ireturn (am_dg dkX11_voiceOf (i := 6) rfl) rfl (Or.inl rfl) rfl
  · rw [if_neg hc3] at h
    refine aq_ifT (t := 13) (am_dg dkX11_voiceOf (i := 4) rfl) rfl (decide_eq_true hc3) ?_
    refine aq_iload_n (am_dg dkX11_voiceOf (i := 7) rfl) rfl ?_
    by_cases hc4 : a2 = (0 : Int32)
    · rw [if_pos hc4] at h
      refine aq_tsw (t := 64) (am_dg dkX11_voiceOf (i := 8) rfl) (by rw [hc4]; rfl) ?_
      refine aq_aload_n (am_dg dkX11_voiceOf (i := 9) rfl) rfl ?_
      refine aq_getR (am_dg dkX11_voiceOf (i := 10) rfl) gk_11_30_0 (rf_0_0 hR) ?_
      refine aq_getR (am_dg dkX11_voiceOf (i := 11) rfl) gk_11_113_8 (rf_8_9 hR) ?_
      refine aq_iload_n (am_dg dkX11_voiceOf (i := 12) rfl) rfl ?_
      obtain ⟨hg5, h⟩ := am_guard h
      refine aq_iald (am_dg dkX11_voiceOf (i := 13) rfl) sh_10 hg5 ?_
      obtain rfl := Option.some.inj h
      exact aq_ireturn (am_dg dkX11_voiceOf (i := 14) rfl) rfl (Or.inl rfl) rfl
    rw [if_neg hc4] at h
    by_cases hc6 : a2 = (1 : Int32)
    · rw [if_pos hc6] at h
      refine aq_tsw (t := 74) (am_dg dkX11_voiceOf (i := 8) rfl) (by rw [hc6]; rfl) ?_
      refine aq_aload_n (am_dg dkX11_voiceOf (i := 15) rfl) rfl ?_
      refine aq_getR (am_dg dkX11_voiceOf (i := 16) rfl) gk_11_30_0 (rf_0_0 hR) ?_
      refine aq_getR (am_dg dkX11_voiceOf (i := 17) rfl) gk_11_116_8 (rf_8_10 hR) ?_
      refine aq_iload_n (am_dg dkX11_voiceOf (i := 18) rfl) rfl ?_
      obtain ⟨hg7, h⟩ := am_guard h
      refine aq_iald (am_dg dkX11_voiceOf (i := 19) rfl) sh_11 hg7 ?_
      obtain rfl := Option.some.inj h
      exact aq_ireturn (am_dg dkX11_voiceOf (i := 20) rfl) rfl (Or.inl rfl) rfl
    rw [if_neg hc6] at h
    by_cases hc8 : a2 = (2 : Int32)
    · rw [if_pos hc8] at h
      refine aq_tsw (t := 84) (am_dg dkX11_voiceOf (i := 8) rfl) (by rw [hc8]; rfl) ?_
      refine aq_aload_n (am_dg dkX11_voiceOf (i := 21) rfl) rfl ?_
      refine aq_getR (am_dg dkX11_voiceOf (i := 22) rfl) gk_11_30_0 (rf_0_0 hR) ?_
      refine aq_getR (am_dg dkX11_voiceOf (i := 23) rfl) gk_11_119_8 (rf_8_11 hR) ?_
      refine aq_iload_n (am_dg dkX11_voiceOf (i := 24) rfl) rfl ?_
      obtain ⟨hg9, h⟩ := am_guard h
      refine aq_iald (am_dg dkX11_voiceOf (i := 25) rfl) sh_12 hg9 ?_
      obtain rfl := Option.some.inj h
      exact aq_ireturn (am_dg dkX11_voiceOf (i := 26) rfl) rfl (Or.inl rfl) rfl
    rw [if_neg hc8] at h
    by_cases hc10 : a2 = (3 : Int32)
    · rw [if_pos hc10] at h
      refine aq_tsw (t := 94) (am_dg dkX11_voiceOf (i := 8) rfl) (by rw [hc10]; rfl) ?_
      refine aq_aload_n (am_dg dkX11_voiceOf (i := 27) rfl) rfl ?_
      refine aq_getR (am_dg dkX11_voiceOf (i := 28) rfl) gk_11_30_0 (rf_0_0 hR) ?_
      refine aq_getR (am_dg dkX11_voiceOf (i := 29) rfl) gk_11_122_8 (rf_8_12 hR) ?_
      refine aq_iload_n (am_dg dkX11_voiceOf (i := 30) rfl) rfl ?_
      obtain ⟨hg11, h⟩ := am_guard h
      refine aq_iald (am_dg dkX11_voiceOf (i := 31) rfl) sh_13 hg11 ?_
      obtain rfl := Option.some.inj h
      exact aq_ireturn (am_dg dkX11_voiceOf (i := 32) rfl) rfl (Or.inl rfl) rfl
    rw [if_neg hc10] at h
    by_cases hc12 : a2 = (4 : Int32)
    · rw [if_pos hc12] at h
      refine aq_tsw (t := 104) (am_dg dkX11_voiceOf (i := 8) rfl) (by rw [hc12]; rfl) ?_
      refine aq_aload_n (am_dg dkX11_voiceOf (i := 33) rfl) rfl ?_
      refine aq_getR (am_dg dkX11_voiceOf (i := 34) rfl) gk_11_30_0 (rf_0_0 hR) ?_
      refine aq_iload_n (am_dg dkX11_voiceOf (i := 35) rfl) rfl ?_
      obtain ⟨q13, hq14, h⟩ := am_bnd h
      refine aq_virt (a := [.ref 8, .int a1]) (S1 := []) (v1 := .int q13.1) (S2 := [.int q13.1]) (am_dg dkX11_voiceOf (i := 36) rfl) cv_11_125_8 (am_cls_c sh_8 (by decide)) rfl rfl rfl (Nat.le_of_ble_eq_true rfl) (Nat.le_of_ble_eq_true rfl) (T_X8_isCaught_8 hR (by omega) hq14) rfl ?_
      by_cases hc15 : q13.1 = (0 : Int32)
      · rw [if_pos hc15] at h
        refine aq_ifT (t := 119) (am_dg dkX11_voiceOf (i := 37) rfl) rfl (decide_eq_true hc15) ?_
        refine aq_iconst (v := (0 : Int32)) (am_dg dkX11_voiceOf (i := 40) rfl) (by decide) ?_
        obtain rfl := Option.some.inj h
        exact aq_ireturn (am_dg dkX11_voiceOf (i := 41) rfl) rfl (Or.inl rfl) rfl
      · rw [if_neg hc15] at h
        refine aq_ifF (t := 119) (am_dg dkX11_voiceOf (i := 37) rfl) rfl (decide_eq_false hc15) ?_
        refine aq_iconst (v := (1 : Int32)) (am_dg dkX11_voiceOf (i := 38) rfl) (by decide) ?_
        refine aq_goto (t := 120) (am_dg dkX11_voiceOf (i := 39) rfl) rfl ?_
        obtain rfl := Option.some.inj h
        exact aq_ireturn (am_dg dkX11_voiceOf (i := 41) rfl) rfl (Or.inl rfl) rfl
    rw [if_neg hc12] at h
    by_cases hc16 : a2 = (5 : Int32)
    · rw [if_pos hc16] at h
      refine aq_tsw (t := 121) (am_dg dkX11_voiceOf (i := 8) rfl) (by rw [hc16]; rfl) ?_
      refine aq_aload_n (am_dg dkX11_voiceOf (i := 42) rfl) rfl ?_
      refine aq_getR (am_dg dkX11_voiceOf (i := 43) rfl) gk_11_30_0 (rf_0_0 hR) ?_
      refine aq_iload_n (am_dg dkX11_voiceOf (i := 44) rfl) rfl ?_
      obtain ⟨q17, hq18, h⟩ := am_bnd h
      refine aq_virt (a := [.ref 8, .int a1]) (S1 := []) (v1 := .int q17.1) (S2 := [.int q17.1]) (am_dg dkX11_voiceOf (i := 45) rfl) cv_11_128_8 (am_cls_c sh_8 (by decide)) rfl rfl rfl (Nat.le_of_ble_eq_true rfl) (Nat.le_of_ble_eq_true rfl) (T_X8_driftOf_8 hR (by omega) hq18) rfl ?_
      obtain rfl := Option.some.inj h
      exact aq_ireturn (am_dg dkX11_voiceOf (i := 46) rfl) rfl (Or.inl rfl) rfl
    rw [if_neg hc16] at h
    by_cases hc19 : a2 = (6 : Int32)
    · rw [if_pos hc19] at h
      refine aq_tsw (t := 130) (am_dg dkX11_voiceOf (i := 8) rfl) (by rw [hc19]; rfl) ?_
      refine aq_aload_n (am_dg dkX11_voiceOf (i := 47) rfl) rfl ?_
      refine aq_getR (am_dg dkX11_voiceOf (i := 48) rfl) gk_11_30_0 (rf_0_0 hR) ?_
      refine aq_iload_n (am_dg dkX11_voiceOf (i := 49) rfl) rfl ?_
      obtain ⟨q20, hq21, h⟩ := am_bnd h
      refine aq_virt (a := [.ref 8, .int a1]) (S1 := []) (v1 := .ref (2 + q20.1)) (S2 := [.ref (2 + q20.1)]) (am_dg dkX11_voiceOf (i := 50) rfl) cv_11_132_8 (am_cls_c sh_8 (by decide)) rfl rfl rfl (Nat.le_of_ble_eq_true rfl) (Nat.le_of_ble_eq_true rfl) (T_X8_thing_8 hR (by omega) hq21) rfl ?_
      refine aq_aload_n (am_dg dkX11_voiceOf (i := 51) rfl) rfl ?_
      refine aq_getR (am_dg dkX11_voiceOf (i := 52) rfl) gk_11_30_0 (rf_0_0 hR) ?_
      refine aq_getR (am_dg dkX11_voiceOf (i := 53) rfl) gk_11_119_8 (rf_8_11 hR) ?_
      refine aq_iload_n (am_dg dkX11_voiceOf (i := 54) rfl) rfl ?_
      obtain ⟨hg22, h⟩ := am_guard h
      refine aq_iald (am_dg dkX11_voiceOf (i := 55) rfl) sh_12 hg22 ?_
      by_cases hc23 : q20.1 = 0
      · rw [if_pos hc23] at h
        obtain ⟨q24, hq25, h⟩ := am_bnd h
        refine aq_virt (a := [.ref 2, .int (q20.2.1 12 a1.toNatClampNeg)]) (S1 := []) (v1 := .int q24.1) (S2 := [.int q24.1]) (am_dg dkX11_voiceOf (i := 56) rfl) cv_11_136_10 (by rw [(show 2 + q20.1 = 2 by rw [hc23])]; exact am_cls_c sh_2 (by decide)) rfl (congrArg (fun z => Value.ref z :: _) (show 2 + q20.1 = 2 by rw [hc23])) rfl (Nat.le_of_ble_eq_true rfl) (Nat.le_of_ble_eq_true rfl) (T_X10_price_2 hR (by omega) hq25) rfl ?_
        obtain rfl := Option.some.inj h
        exact aq_ireturn (am_dg dkX11_voiceOf (i := 57) rfl) rfl (Or.inl rfl) rfl
      rw [if_neg hc23] at h
      by_cases hc26 : q20.1 = 1
      · rw [if_pos hc26] at h
        obtain ⟨q27, hq28, h⟩ := am_bnd h
        refine aq_virt (a := [.ref 3, .int (q20.2.1 12 a1.toNatClampNeg)]) (S1 := []) (v1 := .int q27.1) (S2 := [.int q27.1]) (am_dg dkX11_voiceOf (i := 56) rfl) cv_11_136_0 (by rw [(show 2 + q20.1 = 3 by rw [hc26])]; exact am_cls_c sh_3 (by decide)) rfl (congrArg (fun z => Value.ref z :: _) (show 2 + q20.1 = 3 by rw [hc26])) rfl (Nat.le_of_ble_eq_true rfl) (Nat.le_of_ble_eq_true rfl) (T_X0_price_3 hR (by omega) hq28) rfl ?_
        obtain rfl := Option.some.inj h
        exact aq_ireturn (am_dg dkX11_voiceOf (i := 57) rfl) rfl (Or.inl rfl) rfl
      rw [if_neg hc26] at h
      by_cases hc29 : q20.1 = 2
      · rw [if_pos hc29] at h
        obtain ⟨q30, hq31, h⟩ := am_bnd h
        refine aq_virt (a := [.ref 4, .int (q20.2.1 12 a1.toNatClampNeg)]) (S1 := []) (v1 := .int q30.1) (S2 := [.int q30.1]) (am_dg dkX11_voiceOf (i := 56) rfl) cv_11_136_5 (by rw [(show 2 + q20.1 = 4 by rw [hc29])]; exact am_cls_c sh_4 (by decide)) rfl (congrArg (fun z => Value.ref z :: _) (show 2 + q20.1 = 4 by rw [hc29])) rfl (Nat.le_of_ble_eq_true rfl) (Nat.le_of_ble_eq_true rfl) (T_X5_price_4 hR (by omega) hq31) rfl ?_
        obtain rfl := Option.some.inj h
        exact aq_ireturn (am_dg dkX11_voiceOf (i := 57) rfl) rfl (Or.inl rfl) rfl
      rw [if_neg hc29] at h
      by_cases hc32 : q20.1 = 3
      · rw [if_pos hc32] at h
        obtain ⟨q33, hq34, h⟩ := am_bnd h
        refine aq_virt (a := [.ref 5, .int (q20.2.1 12 a1.toNatClampNeg)]) (S1 := []) (v1 := .int q33.1) (S2 := [.int q33.1]) (am_dg dkX11_voiceOf (i := 56) rfl) cv_11_136_4 (by rw [(show 2 + q20.1 = 5 by rw [hc32])]; exact am_cls_c sh_5 (by decide)) rfl (congrArg (fun z => Value.ref z :: _) (show 2 + q20.1 = 5 by rw [hc32])) rfl (Nat.le_of_ble_eq_true rfl) (Nat.le_of_ble_eq_true rfl) (T_X4_price_5 hR (by omega) hq34) rfl ?_
        obtain rfl := Option.some.inj h
        exact aq_ireturn (am_dg dkX11_voiceOf (i := 57) rfl) rfl (Or.inl rfl) rfl
      rw [if_neg hc32] at h
      by_cases hc35 : q20.1 = 4
      · rw [if_pos hc35] at h
        obtain ⟨q36, hq37, h⟩ := am_bnd h
        refine aq_virt (a := [.ref 6, .int (q20.2.1 12 a1.toNatClampNeg)]) (S1 := []) (v1 := .int q36.1) (S2 := [.int q36.1]) (am_dg dkX11_voiceOf (i := 56) rfl) cv_11_136_1 (by rw [(show 2 + q20.1 = 6 by rw [hc35])]; exact am_cls_c sh_6 (by decide)) rfl (congrArg (fun z => Value.ref z :: _) (show 2 + q20.1 = 6 by rw [hc35])) rfl (Nat.le_of_ble_eq_true rfl) (Nat.le_of_ble_eq_true rfl) (T_X1_price_6 hR (by omega) hq37) rfl ?_
        obtain rfl := Option.some.inj h
        exact aq_ireturn (am_dg dkX11_voiceOf (i := 57) rfl) rfl (Or.inl rfl) rfl
      rw [if_neg hc35] at h
      have hc38 : q20.1 = 5 := by have := (T_X8_thing_8_b hq21); omega
      obtain ⟨q39, hq40, h⟩ := am_bnd h
      refine aq_virt (a := [.ref 7, .int (q20.2.1 12 a1.toNatClampNeg)]) (S1 := []) (v1 := .int q39.1) (S2 := [.int q39.1]) (am_dg dkX11_voiceOf (i := 56) rfl) cv_11_136_2 (by rw [(show 2 + q20.1 = 7 by rw [hc38])]; exact am_cls_c sh_7 (by decide)) rfl (congrArg (fun z => Value.ref z :: _) (show 2 + q20.1 = 7 by rw [hc38])) rfl (Nat.le_of_ble_eq_true rfl) (Nat.le_of_ble_eq_true rfl) (T_X2_price_7 hR (by omega) hq40) rfl ?_
      obtain rfl := Option.some.inj h
      exact aq_ireturn (am_dg dkX11_voiceOf (i := 57) rfl) rfl (Or.inl rfl) rfl
    rw [if_neg hc19] at h
    by_cases hc41 : a2 = (7 : Int32)
    · rw [if_pos hc41] at h
      refine aq_tsw (t := 151) (am_dg dkX11_voiceOf (i := 8) rfl) (by rw [hc41]; rfl) ?_
      refine aq_aload_n (am_dg dkX11_voiceOf (i := 58) rfl) rfl ?_
      refine aq_getR (am_dg dkX11_voiceOf (i := 59) rfl) gk_11_30_0 (rf_0_0 hR) ?_
      refine aq_iload_n (am_dg dkX11_voiceOf (i := 60) rfl) rfl ?_
      obtain ⟨q42, hq43, h⟩ := am_bnd h
      refine aq_virt (a := [.ref 8, .int a1]) (S1 := []) (v1 := .int q42.1) (S2 := [.int q42.1]) (am_dg dkX11_voiceOf (i := 61) rfl) cv_11_139_8 (am_cls_c sh_8 (by decide)) rfl rfl rfl (Nat.le_of_ble_eq_true rfl) (Nat.le_of_ble_eq_true rfl) (T_X8_isBursting_8 hR (by omega) hq43) rfl ?_
      by_cases hc44 : q42.1 = (0 : Int32)
      · rw [if_pos hc44] at h
        refine aq_ifT (t := 166) (am_dg dkX11_voiceOf (i := 62) rfl) rfl (decide_eq_true hc44) ?_
        refine aq_iconst (v := (0 : Int32)) (am_dg dkX11_voiceOf (i := 65) rfl) (by decide) ?_
        obtain rfl := Option.some.inj h
        exact aq_ireturn (am_dg dkX11_voiceOf (i := 66) rfl) rfl (Or.inl rfl) rfl
      · rw [if_neg hc44] at h
        refine aq_ifF (t := 166) (am_dg dkX11_voiceOf (i := 62) rfl) rfl (decide_eq_false hc44) ?_
        refine aq_iconst (v := (1 : Int32)) (am_dg dkX11_voiceOf (i := 63) rfl) (by decide) ?_
        refine aq_goto (t := 167) (am_dg dkX11_voiceOf (i := 64) rfl) rfl ?_
        obtain rfl := Option.some.inj h
        exact aq_ireturn (am_dg dkX11_voiceOf (i := 66) rfl) rfl (Or.inl rfl) rfl
    rw [if_neg hc41] at h
    by_cases hc45 : a2 = (8 : Int32)
    · rw [if_pos hc45] at h
      refine aq_tsw (t := 168) (am_dg dkX11_voiceOf (i := 8) rfl) (by rw [hc45]; rfl) ?_
      refine aq_aload_n (am_dg dkX11_voiceOf (i := 67) rfl) rfl ?_
      refine aq_getR (am_dg dkX11_voiceOf (i := 68) rfl) gk_11_30_0 (rf_0_0 hR) ?_
      refine aq_iload_n (am_dg dkX11_voiceOf (i := 69) rfl) rfl ?_
      obtain ⟨q46, hq47, h⟩ := am_bnd h
      refine aq_virt (a := [.ref 8, .int a1]) (S1 := []) (v1 := .int q46.1) (S2 := [.int q46.1]) (am_dg dkX11_voiceOf (i := 70) rfl) cv_11_142_8 (am_cls_c sh_8 (by decide)) rfl rfl rfl (Nat.le_of_ble_eq_true rfl) (Nat.le_of_ble_eq_true rfl) (T_X8_willOf_8 hR (by omega) hq47) rfl ?_
      obtain rfl := Option.some.inj h
      exact aq_ireturn (am_dg dkX11_voiceOf (i := 71) rfl) rfl (Or.inl rfl) rfl
    rw [if_neg hc45] at h
    refine aq_tsw (t := 177) (am_dg dkX11_voiceOf (i := 8) rfl) (am_tsw_d (by have := lv_neT hc4 (show ((0 : Int32)).toInt = 0 by decide); have := lv_neT hc6 (show ((1 : Int32)).toInt = 1 by decide); have := lv_neT hc8 (show ((2 : Int32)).toInt = 2 by decide); have := lv_neT hc10 (show ((3 : Int32)).toInt = 3 by decide); have := lv_neT hc12 (show ((4 : Int32)).toInt = 4 by decide); have := lv_neT hc16 (show ((5 : Int32)).toInt = 5 by decide); have := lv_neT hc19 (show ((6 : Int32)).toInt = 6 by decide); have := lv_neT hc41 (show ((7 : Int32)).toInt = 7 by decide); have := lv_neT hc45 (show ((8 : Int32)).toInt = 8 by decide); omega) rfl) ?_
    refine aq_iconst (v := (-1 : Int32)) (am_dg dkX11_voiceOf (i := 72) rfl) (by decide) ?_
    obtain rfl := Option.some.inj h
    exact aq_ireturn (am_dg dkX11_voiceOf (i := 73) rfl) rfl (Or.inl rfl) rfl
set_option maxRecDepth 20000 in
theorem T_X12_isVoice_82 {sc : Option (Nat × (Nat → Int32))} {RF : Nat → Nat → Option Nat} {d : Nat} (hR : am_RFok RF) (hd : 1 ≤ d) {a1 : Int32} {s : am_S} {r : Int32 × am_S} (h : F_X12_isVoice_82 a1 s = some r) : am_Q sc d mX12_isVoice (0, am_L0 mX12_isVoice [.ref 82, .int a1], [], am_hp RF s) (.int r.1, am_hp RF r.2) := by
  obtain ⟨e, rfl⟩ : ∃ e, d = e + 1 := ⟨d - 1, by omega⟩
  unfold F_X12_isVoice_82 at h
  show am_Q _ _ _ (0, [.ref 82, .int a1], [], _) _
  refine aq_iload_n (am_dg dkX12_isVoice (i := 0) rfl) rfl ?_
  refine aq_i2l (am_dg dkX12_isVoice (i := 1) rfl) ?_
  refine aq_lconst (v := (0 : Int64)) (am_dg dkX12_isVoice (i := 2) rfl) (by decide) ?_
  refine aq_aload_n (am_dg dkX12_isVoice (i := 3) rfl) rfl ?_
  refine aq_getR (am_dg dkX12_isVoice (i := 4) rfl) gk_12_7_82 (rf_82_0 hR) ?_
  refine aq_iconst (v := (0 : Int32)) (am_dg dkX12_isVoice (i := 5) rfl) (by decide) ?_
  obtain ⟨hg1, h⟩ := am_guard h
  refine aq_iald (am_dg dkX12_isVoice (i := 6) rfl) sh_83 hg1 ?_
  refine aq_iconst (v := (1 : Int32)) (am_dg dkX12_isVoice (i := 7) rfl) (by decide) ?_
  refine aq_isub (am_dg dkX12_isVoice (i := 8) rfl) ?_
  refine aq_i2l (am_dg dkX12_isVoice (i := 9) rfl) ?_
  obtain ⟨q2, hq3, h⟩ := am_bnd h
  refine aq_static (a := [.long a1.toInt64, .long (0 : Int64), .long ((s.1 83 (0 : Int32).toNatClampNeg) - (1 : Int32)).toInt64]) (S1 := []) (v1 := .int q2.1) (S2 := [.int q2.1]) (am_dg dkX12_isVoice (i := 10) rfl) ct_12_61 rfl rfl rfl (Nat.le_of_ble_eq_true rfl) (Nat.le_of_ble_eq_true rfl) (T_X12_in hR (by omega) hq3) rfl ?_
  obtain ⟨hg4, h⟩ := am_guard h
  obtain rfl := Option.some.inj h
  exact aq_ireturn (am_dg dkX12_isVoice (i := 11) rfl) rfl (Or.inr (Or.inl rfl)) (am_nz hg4)
set_option maxRecDepth 20000 in
theorem T_X12_its_82 {sc : Option (Nat × (Nat → Int32))} {RF : Nat → Nat → Option Nat} {d : Nat} (hR : am_RFok RF) (hd : 1 ≤ d) {a1 : Int32} {a2 : Int32} {s : am_S} {r : Int32 × am_S} (h : F_X12_its_82 a1 a2 s = some r) : am_Q sc d mX12_its (0, am_L0 mX12_its [.ref 82, .int a1, .int a2], [], am_hp RF s) (.int r.1, am_hp RF r.2) := by
  obtain ⟨e, rfl⟩ : ∃ e, d = e + 1 := ⟨d - 1, by omega⟩
  unfold F_X12_its_82 at h
  show am_Q _ _ _ (0, [.ref 82, .int a1, .int a2], [], _) _
  refine aq_aload_n (am_dg dkX12_its (i := 0) rfl) rfl ?_
  refine aq_getR (am_dg dkX12_its (i := 1) rfl) gk_12_7_82 (rf_82_0 hR) ?_
  refine aq_iload_n (am_dg dkX12_its (i := 2) rfl) rfl ?_
  refine aq_iload_n (am_dg dkX12_its (i := 3) rfl) rfl ?_
  obtain ⟨q1, hq2, h⟩ := am_bnd h
  refine aq_static (a := [.int a1, .int a2]) (S1 := [.ref 83]) (v1 := .int q1.1) (S2 := [.int q1.1, .ref 83]) (am_dg dkX12_its (i := 4) rfl) ct_12_65 rfl rfl rfl (Nat.le_of_ble_eq_true rfl) (Nat.le_of_ble_eq_true rfl) (T_X12_at hR (by omega) hq2) rfl ?_
  obtain ⟨hg3, h⟩ := am_guard h
  refine aq_iald (am_dg dkX12_its (i := 5) rfl) sh_83 hg3 ?_
  obtain rfl := Option.some.inj h
  exact aq_ireturn (am_dg dkX12_its (i := 6) rfl) rfl (Or.inl rfl) rfl
set_option maxRecDepth 20000 in
theorem T_X12_driftOf_b10 {sc : Option (Nat × (Nat → Int32))} {RF : Nat → Nat → Option Nat} {d : Nat} (hR : am_RFok RF) (hd : 0 ≤ d) : ∀ (x0 : Int32) (x2 : Int32) (y0 : Int32) (w1 : Value) (w3 : Value) (s : am_S) (r : Int32 × am_S), F_X12_driftOf_b10 x0 x2 y0 s = some r → am_Q sc d mX12_driftOf (10, [.int x0, w1, .int x2, w3], [.int y0], am_hp RF s) (.int r.1, am_hp RF r.2) := by
  intro x0 x2 y0 w1 w3 s r h
  unfold F_X12_driftOf_b10 at h
  refine aq_istore_n (L1 := [.int x0, w1, .int x2, .int y0]) (am_dg dkX12_driftOf (i := 6) rfl) rfl ?_
  refine aq_iload_n (am_dg dkX12_driftOf (i := 7) rfl) rfl ?_
  by_cases hc1 : x0 = (1 : Int32)
  · rw [if_pos hc1] at h
    refine aq_tsw (t := 48) (am_dg dkX12_driftOf (i := 8) rfl) (by rw [hc1]; rfl) ?_
    refine aq_iconst (v := (2 : Int32)) (am_dg dkX12_driftOf (i := 9) rfl) (by decide) ?_
    obtain rfl := Option.some.inj h
    exact aq_ireturn (am_dg dkX12_driftOf (i := 10) rfl) rfl (Or.inl rfl) rfl
  rw [if_neg hc1] at h
  by_cases hc2 : x0 = (2 : Int32)
  · rw [if_pos hc2] at h
    refine aq_tsw (t := 50) (am_dg dkX12_driftOf (i := 8) rfl) (by rw [hc2]; rfl) ?_
    refine aq_iload_n (am_dg dkX12_driftOf (i := 11) rfl) rfl ?_
    obtain rfl := Option.some.inj h
    exact aq_ireturn (am_dg dkX12_driftOf (i := 12) rfl) rfl (Or.inl rfl) rfl
  rw [if_neg hc2] at h
  by_cases hc3 : x0 = (3 : Int32)
  · rw [if_pos hc3] at h
    refine aq_tsw (t := 52) (am_dg dkX12_driftOf (i := 8) rfl) (by rw [hc3]; rfl) ?_
    refine aq_iload_n (am_dg dkX12_driftOf (i := 13) rfl) rfl ?_
    refine aq_iconst (v := (2 : Int32)) (am_dg dkX12_driftOf (i := 14) rfl) (by decide) ?_
    refine aq_iremN (am_dg dkX12_driftOf (i := 15) rfl) (by decide) ?_
    by_cases hc4 : (am_rem x2 (2 : Int32)) = (0 : Int32)
    · rw [if_pos hc4] at h
      refine aq_ifF (t := 62) (am_dg dkX12_driftOf (i := 16) rfl) rfl (decide_eq_false (not_not_intro hc4)) ?_
      refine aq_iload_n (am_dg dkX12_driftOf (i := 17) rfl) rfl ?_
      refine aq_goto (t := 63) (am_dg dkX12_driftOf (i := 18) rfl) rfl ?_
      obtain rfl := Option.some.inj h
      exact aq_ireturn (am_dg dkX12_driftOf (i := 20) rfl) rfl (Or.inl rfl) rfl
    · rw [if_neg hc4] at h
      refine aq_ifT (t := 62) (am_dg dkX12_driftOf (i := 16) rfl) rfl (decide_eq_true hc4) ?_
      refine aq_iconst (v := (0 : Int32)) (am_dg dkX12_driftOf (i := 19) rfl) (by decide) ?_
      obtain rfl := Option.some.inj h
      exact aq_ireturn (am_dg dkX12_driftOf (i := 20) rfl) rfl (Or.inl rfl) rfl
  rw [if_neg hc3] at h
  by_cases hc5 : x0 = (4 : Int32)
  · rw [if_pos hc5] at h
    refine aq_tsw (t := 64) (am_dg dkX12_driftOf (i := 8) rfl) (by rw [hc5]; rfl) ?_
    refine aq_iconst (v := (0 : Int32)) (am_dg dkX12_driftOf (i := 21) rfl) (by decide) ?_
    obtain rfl := Option.some.inj h
    exact aq_ireturn (am_dg dkX12_driftOf (i := 22) rfl) rfl (Or.inl rfl) rfl
  rw [if_neg hc5] at h
  by_cases hc6 : x0 = (5 : Int32)
  · rw [if_pos hc6] at h
    refine aq_tsw (t := 48) (am_dg dkX12_driftOf (i := 8) rfl) (by rw [hc6]; rfl) ?_
    refine aq_iconst (v := (2 : Int32)) (am_dg dkX12_driftOf (i := 9) rfl) (by decide) ?_
    obtain rfl := Option.some.inj h
    exact aq_ireturn (am_dg dkX12_driftOf (i := 10) rfl) rfl (Or.inl rfl) rfl
  rw [if_neg hc6] at h
  refine aq_tsw (t := 66) (am_dg dkX12_driftOf (i := 8) rfl) (am_tsw_d (by have := lv_neT hc1 (show ((1 : Int32)).toInt = 1 by decide); have := lv_neT hc2 (show ((2 : Int32)).toInt = 2 by decide); have := lv_neT hc3 (show ((3 : Int32)).toInt = 3 by decide); have := lv_neT hc5 (show ((4 : Int32)).toInt = 4 by decide); have := lv_neT hc6 (show ((5 : Int32)).toInt = 5 by decide); omega) rfl) ?_
  refine aq_iconst (v := (1 : Int32)) (am_dg dkX12_driftOf (i := 23) rfl) (by decide) ?_
  obtain rfl := Option.some.inj h
  exact aq_ireturn (am_dg dkX12_driftOf (i := 24) rfl) rfl (Or.inl rfl) rfl
