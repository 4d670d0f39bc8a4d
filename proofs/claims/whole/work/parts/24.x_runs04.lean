/-! LAYER 1: the runs (written by wip/whole/gen_f.py) -/
set_option maxRecDepth 20000 in
theorem T_X8_heldByNetAt_8_b4 {sc : Option (Nat × (Nat → Int32))} {RF : Nat → Nat → Option Nat} {d : Nat} (hR : am_RFok RF) (hd : 2 ≤ d) : ∀ (n : Nat) (x1 : Int32) (x2 : Int32) (x3 : Int32) (s : am_S) (r : Int32 × am_S), F_X8_heldByNetAt_8_b4 n x1 x2 x3 s = some r → am_Q sc d mX8_heldByNetAt (4, [.ref 8, .int x1, .int x2, .int x3], [], am_hp RF s) (.int r.1, am_hp RF r.2) := by
  obtain ⟨e, rfl⟩ : ∃ e, d = e + 1 := ⟨d - 1, by omega⟩
  intro n
  induction n with
  | zero => intro x1 x2 x3 s r h; rw [F_X8_heldByNetAt_8_b4] at h; cases h
  | succ n ih =>
  intro x1 x2 x3 s r h
  rw [F_X8_heldByNetAt_8_b4] at h
  refine aq_iload_n (am_dg dkX8_heldByNetAt (i := 4) rfl) rfl ?_
  refine aq_aload_n (am_dg dkX8_heldByNetAt (i := 5) rfl) rfl ?_
  refine aq_getI (am_dg dkX8_heldByNetAt (i := 6) rfl) gk_8_72_8 (by decide) ?_
  by_cases hc1 : (s.1 8 5) ≤ x3
  · rw [if_pos hc1] at h
    refine aq_icT (t := 74) (am_dg dkX8_heldByNetAt (i := 7) rfl) rfl (decide_eq_true hc1) ?_
    refine aq_iload_n (am_dg dkX8_heldByNetAt (i := 44) rfl) rfl ?_
    obtain rfl := Option.some.inj h
    exact aq_ireturn (am_dg dkX8_heldByNetAt (i := 45) rfl) rfl (Or.inl rfl) rfl
  · rw [if_neg hc1] at h
    refine aq_icF (t := 74) (am_dg dkX8_heldByNetAt (i := 7) rfl) rfl (decide_eq_false hc1) ?_
    refine aq_aload_n (am_dg dkX8_heldByNetAt (i := 8) rfl) rfl ?_
    refine aq_iload_n (am_dg dkX8_heldByNetAt (i := 9) rfl) rfl ?_
    obtain ⟨q2, hq3, h⟩ := am_bnd h
    refine aq_virt (a := [.ref 8, .int x3]) (S1 := []) (v1 := .int q2.1) (S2 := [.int q2.1]) (am_dg dkX8_heldByNetAt (i := 10) rfl) cv_8_120_8 (am_cls_c sh_8 (by decide)) rfl rfl rfl (Nat.le_of_ble_eq_true rfl) (Nat.le_of_ble_eq_true rfl) (T_X8_isCaught_8 hR (by omega) hq3) rfl ?_
    by_cases hc4 : q2.1 = (0 : Int32)
    · rw [if_pos hc4] at h
      refine aq_ifF (t := 68) (am_dg dkX8_heldByNetAt (i := 11) rfl) rfl (decide_eq_false (not_not_intro hc4)) ?_
      refine aq_aload_n (am_dg dkX8_heldByNetAt (i := 12) rfl) rfl ?_
      refine aq_getR (am_dg dkX8_heldByNetAt (i := 13) rfl) gk_8_24_8 (rf_8_12 hR) ?_
      refine aq_iload_n (am_dg dkX8_heldByNetAt (i := 14) rfl) rfl ?_
      obtain ⟨hg5, h⟩ := am_guard h
      refine aq_iald (am_dg dkX8_heldByNetAt (i := 15) rfl) sh_13 hg5 ?_
      refine aq_iload_n (am_dg dkX8_heldByNetAt (i := 16) rfl) rfl ?_
      refine aq_isub (am_dg dkX8_heldByNetAt (i := 17) rfl) ?_
      refine aq_abs (am_dg dkX8_heldByNetAt (i := 18) rfl) mk_8_158 (Nat.le_of_ble_eq_true rfl) ?_
      refine aq_iconst (v := (1 : Int32)) (am_dg dkX8_heldByNetAt (i := 19) rfl) (by decide) ?_
      by_cases hc6 : (1 : Int32) < (if 0 ≤ ((q2.2.1 13 x3.toNatClampNeg) - x1) then ((q2.2.1 13 x3.toNatClampNeg) - x1) else 0 - ((q2.2.1 13 x3.toNatClampNeg) - x1))
      · rw [if_pos hc6] at h
        refine aq_icT (t := 68) (am_dg dkX8_heldByNetAt (i := 20) rfl) rfl (decide_eq_true hc6) ?_
        exact T_X8_heldByNetAt_8_b68 hR (by omega) ih _ _ _ _ _ h
      · rw [if_neg hc6] at h
        refine aq_icF (t := 68) (am_dg dkX8_heldByNetAt (i := 20) rfl) rfl (decide_eq_false hc6) ?_
        refine aq_aload_n (am_dg dkX8_heldByNetAt (i := 21) rfl) rfl ?_
        refine aq_iload_n (am_dg dkX8_heldByNetAt (i := 22) rfl) rfl ?_
        obtain ⟨q7, hq8, h⟩ := am_bnd h
        refine aq_virt (a := [.ref 8, .int x3]) (S1 := []) (v1 := .int q7.1) (S2 := [.int q7.1]) (am_dg dkX8_heldByNetAt (i := 23) rfl) cv_8_161_8 (am_cls_c sh_8 (by decide)) rfl rfl rfl (Nat.le_of_ble_eq_true rfl) (Nat.le_of_ble_eq_true rfl) (T_X8_isBursting_8 hR (by omega) hq8) rfl ?_
        by_cases hc9 : q7.1 = (0 : Int32)
        · rw [if_pos hc9] at h
          refine aq_ifT (t := 45) (am_dg dkX8_heldByNetAt (i := 24) rfl) rfl (decide_eq_true hc9) ?_
          refine aq_iload_n (am_dg dkX8_heldByNetAt (i := 27) rfl) rfl ?_
          refine aq_aload_n (am_dg dkX8_heldByNetAt (i := 28) rfl) rfl ?_
          refine aq_getR (am_dg dkX8_heldByNetAt (i := 29) rfl) gk_8_21_8 (rf_8_11 hR) ?_
          refine aq_iload_n (am_dg dkX8_heldByNetAt (i := 30) rfl) rfl ?_
          obtain ⟨hg10, h⟩ := am_guard h
          refine aq_iald (am_dg dkX8_heldByNetAt (i := 31) rfl) sh_12 hg10 ?_
          refine aq_aload_n (am_dg dkX8_heldByNetAt (i := 32) rfl) rfl ?_
          refine aq_getI (am_dg dkX8_heldByNetAt (i := 33) rfl) gk_8_54_8 (by decide) ?_
          by_cases hc11 : (q7.2.1 12 x3.toNatClampNeg) ≤ (q7.2.1 8 2)
          · rw [if_pos hc11] at h
            refine aq_icT (t := 65) (am_dg dkX8_heldByNetAt (i := 34) rfl) rfl (decide_eq_true hc11) ?_
            refine aq_iconst (v := (0 : Int32)) (am_dg dkX8_heldByNetAt (i := 39) rfl) (by decide) ?_
            exact T_X8_heldByNetAt_8_b66 hR (by omega) ih _ _ _ _ _ _ _ h
          · rw [if_neg hc11] at h
            refine aq_icF (t := 65) (am_dg dkX8_heldByNetAt (i := 34) rfl) rfl (decide_eq_false hc11) ?_
            refine aq_iconst (v := (1 : Int32)) (am_dg dkX8_heldByNetAt (i := 35) rfl) (by decide) ?_
            refine aq_iload_n (am_dg dkX8_heldByNetAt (i := 36) rfl) rfl ?_
            refine aq_ishl (am_dg dkX8_heldByNetAt (i := 37) rfl) ?_
            refine aq_goto (t := 66) (am_dg dkX8_heldByNetAt (i := 38) rfl) rfl ?_
            exact T_X8_heldByNetAt_8_b66 hR (by omega) ih _ _ _ _ _ _ _ h
        · rw [if_neg hc9] at h
          refine aq_ifF (t := 45) (am_dg dkX8_heldByNetAt (i := 24) rfl) rfl (decide_eq_false hc9) ?_
          refine aq_iconst (v := (0 : Int32)) (am_dg dkX8_heldByNetAt (i := 25) rfl) (by decide) ?_
          obtain rfl := Option.some.inj h
          exact aq_ireturn (am_dg dkX8_heldByNetAt (i := 26) rfl) rfl (Or.inl rfl) rfl
    · rw [if_neg hc4] at h
      refine aq_ifT (t := 68) (am_dg dkX8_heldByNetAt (i := 11) rfl) rfl (decide_eq_true hc4) ?_
      exact T_X8_heldByNetAt_8_b68 hR (by omega) ih _ _ _ _ _ h
set_option maxRecDepth 20000 in
theorem T_X8_heldByNetAt_8 {sc : Option (Nat × (Nat → Int32))} {RF : Nat → Nat → Option Nat} {d : Nat} (hR : am_RFok RF) (hd : 2 ≤ d) {a1 : Int32} {s : am_S} {r : Int32 × am_S} (h : F_X8_heldByNetAt_8 a1 s = some r) : am_Q sc d mX8_heldByNetAt (0, am_L0 mX8_heldByNetAt [.ref 8, .int a1], [], am_hp RF s) (.int r.1, am_hp RF r.2) := by
  obtain ⟨e, rfl⟩ : ∃ e, d = e + 1 := ⟨d - 1, by omega⟩
  unfold F_X8_heldByNetAt_8 at h
  show am_Q _ _ _ (0, [.ref 8, .int a1, .null, .null], [], _) _
  refine aq_iconst (v := (0 : Int32)) (am_dg dkX8_heldByNetAt (i := 0) rfl) (by decide) ?_
  refine aq_istore_n (L1 := [.ref 8, .int a1, .int (0 : Int32), .null]) (am_dg dkX8_heldByNetAt (i := 1) rfl) rfl ?_
  refine aq_iconst (v := (0 : Int32)) (am_dg dkX8_heldByNetAt (i := 2) rfl) (by decide) ?_
  refine aq_istore_n (L1 := [.ref 8, .int a1, .int (0 : Int32), .int (0 : Int32)]) (am_dg dkX8_heldByNetAt (i := 3) rfl) rfl ?_
  exact T_X8_heldByNetAt_8_b4 hR (by omega) _ _ _ _ _ _ h
set_option maxRecDepth 20000 in
theorem T_X8_worthOf {sc : Option (Nat × (Nat → Int32))} {RF : Nat → Nat → Option Nat} {d : Nat} (hR : am_RFok RF) (hd : 0 ≤ d) {a0 : Int32} {a1 : Int32} {s : am_S} {r : Int32 × am_S} (h : F_X8_worthOf a0 a1 s = some r) : am_Q sc d mX8_worthOf (0, am_L0 mX8_worthOf [.int a0, .int a1], [], am_hp RF s) (.int r.1, am_hp RF r.2) := by
  unfold F_X8_worthOf at h
  show am_Q _ _ _ (0, [.int a0, .int a1], [], _) _
  refine aq_iload_n (am_dg dkX8_worthOf (i := 0) rfl) rfl ?_
  by_cases hc1 : a0 = (1 : Int32)
  · rw [if_pos hc1] at h
    refine aq_lsw (t := 28) (am_dg dkX8_worthOf (i := 1) rfl) (by rw [hc1]; rfl) ?_
    refine aq_iconst (v := (1 : Int32)) (am_dg dkX8_worthOf (i := 2) rfl) (by decide) ?_
    obtain rfl := Option.some.inj h
    exact aq_ireturn (am_dg dkX8_worthOf (i := 3) rfl) rfl (Or.inl rfl) rfl
  rw [if_neg hc1] at h
  by_cases hc2 : a0 = (2 : Int32)
  · rw [if_pos hc2] at h
    refine aq_lsw (t := 30) (am_dg dkX8_worthOf (i := 1) rfl) (by rw [hc2]; rfl) ?_
    refine aq_iload_n (am_dg dkX8_worthOf (i := 4) rfl) rfl ?_
    refine aq_iconst (v := (2 : Int32)) (am_dg dkX8_worthOf (i := 5) rfl) (by decide) ?_
    refine aq_idiv (am_dg dkX8_worthOf (i := 6) rfl) (by decide) ?_
    refine aq_iconst (v := (3 : Int32)) (am_dg dkX8_worthOf (i := 7) rfl) (by decide) ?_
    refine aq_iadd (am_dg dkX8_worthOf (i := 8) rfl) ?_
    obtain rfl := Option.some.inj h
    exact aq_ireturn (am_dg dkX8_worthOf (i := 9) rfl) rfl (Or.inl rfl) rfl
  rw [if_neg hc2] at h
  refine aq_lsw (t := 36) (am_dg dkX8_worthOf (i := 1) rfl) (am_lsw_d rfl (by simp only [lv_osw hc1 (show ((1 : Int32)).toInt = 1 by decide), lv_osw hc2 (show ((2 : Int32)).toInt = 2 by decide)]; rfl)) ?_
  refine aq_iload_n (am_dg dkX8_worthOf (i := 10) rfl) rfl ?_
  obtain rfl := Option.some.inj h
  exact aq_ireturn (am_dg dkX8_worthOf (i := 11) rfl) rfl (Or.inl rfl) rfl
set_option maxRecDepth 20000 in
theorem T_X8_cast_8_b110 {sc : Option (Nat × (Nat → Int32))} {RF : Nat → Nat → Option Nat} {d : Nat} (hR : am_RFok RF) (hd : 3 ≤ d) {k42 : Int32 → Int32 → Int32 → am_S → Option (Int32 × am_S)} (hk42 : ∀ (x2 : Int32) (x3 : Int32) (x4 : Int32) (w1 : Value) (w5 : Value) (s2 : am_S) (r2 : Int32 × am_S), k42 x2 x3 x4 s2 = some r2 → am_Q sc d mX8_cast (42, [.ref 8, w1, .int x2, .int x3, .int x4, w5], [], am_hp RF s2) (.int r2.1, am_hp RF r2.2)) : ∀ (x2 : Int32) (x3 : Int32) (x4 : Int32) (w1 : Value) (w5 : Value) (s : am_S) (r : Int32 × am_S), F_X8_cast_8_b110 k42 x2 x3 x4 s = some r → am_Q sc d mX8_cast (110, [.ref 8, w1, .int x2, .int x3, .int x4, w5], [], am_hp RF s) (.int r.1, am_hp RF r.2) := by
  obtain ⟨e, rfl⟩ : ∃ e, d = e + 1 := ⟨d - 1, by omega⟩
  intro x2 x3 x4 w1 w5 s r h
  unfold F_X8_cast_8_b110 at h
  refine aq_iinc (v := (1 : Int32)) (L1 := [.ref 8, w1, .int x2, .int x3, .int (x4 + (1 : Int32)), w5]) (am_dg dkX8_cast (i := 64) rfl) rfl (by decide) rfl ?_
  refine aq_goto (t := 42) (am_dg dkX8_cast (i := 65) rfl) rfl ?_
  exact hk42 _ _ _ _ _ _ _ h
set_option maxRecDepth 20000 in
theorem T_X8_cast_8_b107 {sc : Option (Nat × (Nat → Int32))} {RF : Nat → Nat → Option Nat} {d : Nat} (hR : am_RFok RF) (hd : 3 ≤ d) {k42 : Int32 → Int32 → Int32 → am_S → Option (Int32 × am_S)} (hk42 : ∀ (x2 : Int32) (x3 : Int32) (x4 : Int32) (w1 : Value) (w5 : Value) (s2 : am_S) (r2 : Int32 × am_S), k42 x2 x3 x4 s2 = some r2 → am_Q sc d mX8_cast (42, [.ref 8, w1, .int x2, .int x3, .int x4, w5], [], am_hp RF s2) (.int r2.1, am_hp RF r2.2)) : ∀ (x2 : Int32) (x3 : Int32) (x4 : Int32) (y0 : Int32) (y1 : Int32) (w1 : Value) (w5 : Value) (s : am_S) (r : Int32 × am_S), F_X8_cast_8_b107 k42 x2 x3 x4 y0 y1 s = some r → am_Q sc d mX8_cast (107, [.ref 8, w1, .int x2, .int x3, .int x4, w5], [.int y0, .int y1, .ref 8], am_hp RF s) (.int r.1, am_hp RF r.2) := by
  obtain ⟨e, rfl⟩ : ∃ e, d = e + 1 := ⟨d - 1, by omega⟩
  intro x2 x3 x4 y0 y1 w1 w5 s r h
  unfold F_X8_cast_8_b107 at h
  obtain ⟨q1, hq2, h⟩ := am_bnd h
  refine aq_virt (a := [.ref 8, .int y1, .int y0]) (S1 := []) (v1 := .null) (S2 := []) (am_dg dkX8_cast (i := 63) rfl) cv_8_154_8 (am_cls_c sh_8 (by decide)) rfl rfl rfl (Nat.le_of_ble_eq_true rfl) (Nat.le_of_ble_eq_true rfl) (T_X8_markCaught_8 hR (by omega) hq2) rfl ?_
  exact T_X8_cast_8_b110 hR (by omega) hk42 _ _ _ _ _ _ _ h
set_option maxRecDepth 20000 in
theorem T_X8_cast_8_b42 {sc : Option (Nat × (Nat → Int32))} {RF : Nat → Nat → Option Nat} {d : Nat} (hR : am_RFok RF) (hd : 3 ≤ d) : ∀ (n : Nat) (x2 : Int32) (x3 : Int32) (x4 : Int32) (w1 : Value) (w5 : Value) (s : am_S) (r : Int32 × am_S), F_X8_cast_8_b42 n x2 x3 x4 s = some r → am_Q sc d mX8_cast (42, [.ref 8, w1, .int x2, .int x3, .int x4, w5], [], am_hp RF s) (.int r.1, am_hp RF r.2) := by
  obtain ⟨e, rfl⟩ : ∃ e, d = e + 1 := ⟨d - 1, by omega⟩
  intro n
  induction n with
  | zero => intro x2 x3 x4 w1 w5 s r h; rw [F_X8_cast_8_b42] at h; cases h
  | succ n ih =>
  intro x2 x3 x4 w1 w5 s r h
  rw [F_X8_cast_8_b42] at h
  refine aq_iload (am_dg dkX8_cast (i := 27) rfl) rfl ?_
  refine aq_aload_n (am_dg dkX8_cast (i := 28) rfl) rfl ?_
  refine aq_getI (am_dg dkX8_cast (i := 29) rfl) gk_8_72_8 (by decide) ?_
  by_cases hc1 : (s.1 8 5) ≤ x4
  · rw [if_pos hc1] at h
    refine aq_icT (t := 116) (am_dg dkX8_cast (i := 30) rfl) rfl (decide_eq_true hc1) ?_
    refine aq_aload_n (am_dg dkX8_cast (i := 66) rfl) rfl ?_
    refine aq_dup (am_dg dkX8_cast (i := 67) rfl) rfl ?_
    refine aq_getI (am_dg dkX8_cast (i := 68) rfl) gk_8_69_8 (by decide) ?_
    refine aq_iload_n (am_dg dkX8_cast (i := 69) rfl) rfl ?_
    refine aq_iadd (am_dg dkX8_cast (i := 70) rfl) ?_
    refine aq_putI (am_dg dkX8_cast (i := 71) rfl) gk_8_69_8 ?_
    obtain ⟨s2, hs3, h⟩ := am_bnd h
    rw [Option.some.inj hs3]
    refine aq_aload_n (am_dg dkX8_cast (i := 72) rfl) rfl ?_
    refine aq_dup (am_dg dkX8_cast (i := 73) rfl) rfl ?_
    refine aq_getI (am_dg dkX8_cast (i := 74) rfl) gk_8_66_8 (by decide) ?_
    refine aq_iconst (v := (1 : Int32)) (am_dg dkX8_cast (i := 75) rfl) (by decide) ?_
    refine aq_iadd (am_dg dkX8_cast (i := 76) rfl) ?_
    refine aq_putI (am_dg dkX8_cast (i := 77) rfl) gk_8_66_8 ?_
    obtain ⟨s4, hs5, h⟩ := am_bnd h
    rw [Option.some.inj hs5]
    refine aq_iload_n (am_dg dkX8_cast (i := 78) rfl) rfl ?_
    obtain rfl := Option.some.inj h
    exact aq_ireturn (am_dg dkX8_cast (i := 79) rfl) rfl (Or.inl rfl) rfl
  · rw [if_neg hc1] at h
    refine aq_icF (t := 116) (am_dg dkX8_cast (i := 30) rfl) rfl (decide_eq_false hc1) ?_
    refine aq_iload_n (am_dg dkX8_cast (i := 31) rfl) rfl ?_
    refine aq_iload (am_dg dkX8_cast (i := 32) rfl) rfl ?_
    refine aq_ishr (am_dg dkX8_cast (i := 33) rfl) ?_
    refine aq_iconst (v := (1 : Int32)) (am_dg dkX8_cast (i := 34) rfl) (by decide) ?_
    refine aq_iand (am_dg dkX8_cast (i := 35) rfl) ?_
    refine aq_iconst (v := (1 : Int32)) (am_dg dkX8_cast (i := 36) rfl) (by decide) ?_
    by_cases hc6 : ((x2 >>> (x4 &&& 31)) &&& (1 : Int32)) = (1 : Int32)
    · rw [if_pos hc6] at h
      refine aq_icF (t := 110) (am_dg dkX8_cast (i := 37) rfl) rfl (decide_eq_false (not_not_intro hc6)) ?_
      refine aq_aload_n (am_dg dkX8_cast (i := 38) rfl) rfl ?_
      refine aq_iload (am_dg dkX8_cast (i := 39) rfl) rfl ?_
      obtain ⟨q7, hq8, h⟩ := am_bnd h
      refine aq_virt (a := [.ref 8, .int x4]) (S1 := []) (v1 := .int q7.1) (S2 := [.int q7.1]) (am_dg dkX8_cast (i := 40) rfl) cv_8_145_8 (am_cls_c sh_8 (by decide)) rfl rfl rfl (Nat.le_of_ble_eq_true rfl) (Nat.le_of_ble_eq_true rfl) (T_X8_willOf_8 hR (by omega) hq8) rfl ?_
      refine aq_istore (L1 := [.ref 8, w1, .int x2, .int x3, .int x4, .int q7.1]) (am_dg dkX8_cast (i := 41) rfl) rfl ?_
      refine aq_iload_n (am_dg dkX8_cast (i := 42) rfl) rfl ?_
      refine aq_iload (am_dg dkX8_cast (i := 43) rfl) rfl ?_
      refine aq_aload_n (am_dg dkX8_cast (i := 44) rfl) rfl ?_
      refine aq_iload (am_dg dkX8_cast (i := 45) rfl) rfl ?_
      obtain ⟨q9, hq10, h⟩ := am_bnd h
      refine aq_virt (a := [.ref 8, .int x4]) (S1 := [.int q7.1, .int x3]) (v1 := .ref (2 + q9.1)) (S2 := [.ref (2 + q9.1), .int q7.1, .int x3]) (am_dg dkX8_cast (i := 46) rfl) cv_8_91_8 (am_cls_c sh_8 (by decide)) rfl rfl rfl (Nat.le_of_ble_eq_true rfl) (Nat.le_of_ble_eq_true rfl) (T_X8_thing_8 hR (by omega) hq10) rfl ?_
      refine aq_aload_n (am_dg dkX8_cast (i := 47) rfl) rfl ?_
      refine aq_getR (am_dg dkX8_cast (i := 48) rfl) gk_8_21_8 (rf_8_11 hR) ?_
      refine aq_iload (am_dg dkX8_cast (i := 49) rfl) rfl ?_
      obtain ⟨hg11, h⟩ := am_guard h
      refine aq_iald (am_dg dkX8_cast (i := 50) rfl) sh_12 hg11 ?_
      by_cases hc12 : q9.1 = 0
      · rw [if_pos hc12] at h
        obtain ⟨q13, hq14, h⟩ := am_bnd h
        refine aq_virt (a := [.ref 2, .int (q9.2.1 12 x4.toNatClampNeg)]) (S1 := [.int q7.1, .int x3]) (v1 := .int q13.1) (S2 := [.int q13.1, .int q7.1, .int x3]) (am_dg dkX8_cast (i := 51) rfl) cv_8_148_10 (by rw [(show 2 + q9.1 = 2 by rw [hc12])]; exact am_cls_c sh_2 (by decide)) rfl (congrArg (fun z => Value.ref z :: _) (show 2 + q9.1 = 2 by rw [hc12])) rfl (Nat.le_of_ble_eq_true rfl) (Nat.le_of_ble_eq_true rfl) (T_X10_price_2 hR (by omega) hq14) rfl ?_
        obtain ⟨q15, hq16, h⟩ := am_bnd h
        refine aq_static (a := [.int q7.1, .int q13.1]) (S1 := [.int x3]) (v1 := .int q15.1) (S2 := [.int q15.1, .int x3]) (am_dg dkX8_cast (i := 52) rfl) ct_8_151 rfl rfl rfl (Nat.le_of_ble_eq_true rfl) (Nat.le_of_ble_eq_true rfl) (T_X8_worthOf hR (by omega) hq16) rfl ?_
        refine aq_iadd (am_dg dkX8_cast (i := 53) rfl) ?_
        refine aq_istore_n (L1 := [.ref 8, w1, .int x2, .int (x3 + q15.1), .int x4, .int q7.1]) (am_dg dkX8_cast (i := 54) rfl) rfl ?_
        refine aq_aload_n (am_dg dkX8_cast (i := 55) rfl) rfl ?_
        refine aq_iload (am_dg dkX8_cast (i := 56) rfl) rfl ?_
        refine aq_iload (am_dg dkX8_cast (i := 57) rfl) rfl ?_
        refine aq_iconst (v := (1 : Int32)) (am_dg dkX8_cast (i := 58) rfl) (by decide) ?_
        by_cases hc17 : q7.1 = (1 : Int32)
        · rw [if_pos hc17] at h
          refine aq_icT (t := 106) (am_dg dkX8_cast (i := 59) rfl) rfl (decide_eq_true hc17) ?_
          refine aq_iconst (v := (0 : Int32)) (am_dg dkX8_cast (i := 62) rfl) (by decide) ?_
          exact T_X8_cast_8_b107 hR (by omega) ih _ _ _ _ _ _ _ _ _ h
        · rw [if_neg hc17] at h
          refine aq_icF (t := 106) (am_dg dkX8_cast (i := 59) rfl) rfl (decide_eq_false hc17) ?_
          refine aq_iconst (v := (1 : Int32)) (am_dg dkX8_cast (i := 60) rfl) (by decide) ?_
          refine aq_goto (t := 107) (am_dg dkX8_cast (i := 61) rfl) rfl ?_
          exact T_X8_cast_8_b107 hR (by omega) ih _ _ _ _ _ _ _ _ _ h
      rw [if_neg hc12] at h
      by_cases hc18 : q9.1 = 1
      · rw [if_pos hc18] at h
        obtain ⟨q19, hq20, h⟩ := am_bnd h
        refine aq_virt (a := [.ref 3, .int (q9.2.1 12 x4.toNatClampNeg)]) (S1 := [.int q7.1, .int x3]) (v1 := .int q19.1) (S2 := [.int q19.1, .int q7.1, .int x3]) (am_dg dkX8_cast (i := 51) rfl) cv_8_148_0 (by rw [(show 2 + q9.1 = 3 by rw [hc18])]; exact am_cls_c sh_3 (by decide)) rfl (congrArg (fun z => Value.ref z :: _) (show 2 + q9.1 = 3 by rw [hc18])) rfl (Nat.le_of_ble_eq_true rfl) (Nat.le_of_ble_eq_true rfl) (T_X0_price_3 hR (by omega) hq20) rfl ?_
        obtain ⟨q21, hq22, h⟩ := am_bnd h
        refine aq_static (a := [.int q7.1, .int q19.1]) (S1 := [.int x3]) (v1 := .int q21.1) (S2 := [.int q21.1, .int x3]) (am_dg dkX8_cast (i := 52) rfl) ct_8_151 rfl rfl rfl (Nat.le_of_ble_eq_true rfl) (Nat.le_of_ble_eq_true rfl) (T_X8_worthOf hR (by omega) hq22) rfl ?_
        refine aq_iadd (am_dg dkX8_cast (i := 53) rfl) ?_
        refine aq_istore_n (L1 := [.ref 8, w1, .int x2, .int (x3 + q21.1), .int x4, .int q7.1]) (am_dg dkX8_cast (i := 54) rfl) rfl ?_
        refine aq_aload_n (am_dg dkX8_cast (i := 55) rfl) rfl ?_
        refine aq_iload (am_dg dkX8_cast (i := 56) rfl) rfl ?_
        refine aq_iload (am_dg dkX8_cast (i := 57) rfl) rfl ?_
        refine aq_iconst (v := (1 : Int32)) (am_dg dkX8_cast (i := 58) rfl) (by decide) ?_
        by_cases hc23 : q7.1 = (1 : Int32)
        · rw [if_pos hc23] at h
          refine aq_icT (t := 106) (am_dg dkX8_cast (i := 59) rfl) rfl (decide_eq_true hc23) ?_
          refine aq_iconst (v := (0 : Int32)) (am_dg dkX8_cast (i := 62) rfl) (by decide) ?_
          exact T_X8_cast_8_b107 hR (by omega) ih _ _ _ _ _ _ _ _ _ h
        · rw [if_neg hc23] at h
          refine aq_icF (t := 106) (am_dg dkX8_cast (i := 59) rfl) rfl (decide_eq_false hc23) ?_
          refine aq_iconst (v := (1 : Int32)) (am_dg dkX8_cast (i := 60) rfl) (by decide) ?_
          refine aq_goto (t := 107) (am_dg dkX8_cast (i := 61) rfl) rfl ?_
          exact T_X8_cast_8_b107 hR (by omega) ih _ _ _ _ _ _ _ _ _ h
      rw [if_neg hc18] at h
      by_cases hc24 : q9.1 = 2
      · rw [if_pos hc24] at h
        obtain ⟨q25, hq26, h⟩ := am_bnd h
        refine aq_virt (a := [.ref 4, .int (q9.2.1 12 x4.toNatClampNeg)]) (S1 := [.int q7.1, .int x3]) (v1 := .int q25.1) (S2 := [.int q25.1, .int q7.1, .int x3]) (am_dg dkX8_cast (i := 51) rfl) cv_8_148_5 (by rw [(show 2 + q9.1 = 4 by rw [hc24])]; exact am_cls_c sh_4 (by decide)) rfl (congrArg (fun z => Value.ref z :: _) (show 2 + q9.1 = 4 by rw [hc24])) rfl (Nat.le_of_ble_eq_true rfl) (Nat.le_of_ble_eq_true rfl) (T_X5_price_4 hR (by omega) hq26) rfl ?_
        obtain ⟨q27, hq28, h⟩ := am_bnd h
        refine aq_static (a := [.int q7.1, .int q25.1]) (S1 := [.int x3]) (v1 := .int q27.1) (S2 := [.int q27.1, .int x3]) (am_dg dkX8_cast (i := 52) rfl) ct_8_151 rfl rfl rfl (Nat.le_of_ble_eq_true rfl) (Nat.le_of_ble_eq_true rfl) (T_X8_worthOf hR (by omega) hq28) rfl ?_
        refine aq_iadd (am_dg dkX8_cast (i := 53) rfl) ?_
        refine aq_istore_n (L1 := [.ref 8, w1, .int x2, .int (x3 + q27.1), .int x4, .int q7.1]) (am_dg dkX8_cast (i := 54) rfl) rfl ?_
        refine aq_aload_n (am_dg dkX8_cast (i := 55) rfl) rfl ?_
        refine aq_iload (am_dg dkX8_cast (i := 56) rfl) rfl ?_
        refine aq_iload (am_dg dkX8_cast (i := 57) rfl) rfl ?_
        refine aq_iconst (v := (1 : Int32)) (am_dg dkX8_cast (i := 58) rfl) (by decide) ?_
        by_cases hc29 : q7.1 = (1 : Int32)
        · rw [if_pos hc29] at h
          refine aq_icT (t := 106) (am_dg dkX8_cast (i := 59) rfl) rfl (decide_eq_true hc29) ?_
          refine aq_iconst (v := (0 : Int32)) (am_dg dkX8_cast (i := 62) rfl) (by decide) ?_
          exact T_X8_cast_8_b107 hR (by omega) ih _ _ _ _ _ _ _ _ _ h
        · rw [if_neg hc29] at h
          refine aq_icF (t := 106) (am_dg dkX8_cast (i := 59) rfl) rfl (decide_eq_false hc29) ?_
          refine aq_iconst (v := (1 : Int32)) (am_dg dkX8_cast (i := 60) rfl) (by decide) ?_
          refine aq_goto (t := 107) (am_dg dkX8_cast (i := 61) rfl) rfl ?_
          exact T_X8_cast_8_b107 hR (by omega) ih _ _ _ _ _ _ _ _ _ h
      rw [if_neg hc24] at h
      by_cases hc30 : q9.1 = 3
      · rw [if_pos hc30] at h
        obtain ⟨q31, hq32, h⟩ := am_bnd h
        refine aq_virt (a := [.ref 5, .int (q9.2.1 12 x4.toNatClampNeg)]) (S1 := [.int q7.1, .int x3]) (v1 := .int q31.1) (S2 := [.int q31.1, .int q7.1, .int x3]) (am_dg dkX8_cast (i := 51) rfl) cv_8_148_4 (by rw [(show 2 + q9.1 = 5 by rw [hc30])]; exact am_cls_c sh_5 (by decide)) rfl (congrArg (fun z => Value.ref z :: _) (show 2 + q9.1 = 5 by rw [hc30])) rfl (Nat.le_of_ble_eq_true rfl) (Nat.le_of_ble_eq_true rfl) (T_X4_price_5 hR (by omega) hq32) rfl ?_
        obtain ⟨q33, hq34, h⟩ := am_bnd h
        refine aq_static (a := [.int q7.1, .int q31.1]) (S1 := [.int x3]) (v1 := .int q33.1) (S2 := [.int q33.1, .int x3]) (am_dg dkX8_cast (i := 52) rfl) ct_8_151 rfl rfl rfl (Nat.le_of_ble_eq_true rfl) (Nat.le_of_ble_eq_true rfl) (T_X8_worthOf hR (by omega) hq34) rfl ?_
        refine aq_iadd (am_dg dkX8_cast (i := 53) rfl) ?_
        refine aq_istore_n (L1 := [.ref 8, w1, .int x2, .int (x3 + q33.1), .int x4, .int q7.1]) (am_dg dkX8_cast (i := 54) rfl) rfl ?_
        refine aq_aload_n (am_dg dkX8_cast (i := 55) rfl) rfl ?_
        refine aq_iload (am_dg dkX8_cast (i := 56) rfl) rfl ?_
        refine aq_iload (am_dg dkX8_cast (i := 57) rfl) rfl ?_
        refine aq_iconst (v := (1 : Int32)) (am_dg dkX8_cast (i := 58) rfl) (by decide) ?_
        by_cases hc35 : q7.1 = (1 : Int32)
        · rw [if_pos hc35] at h
          refine aq_icT (t := 106) (am_dg dkX8_cast (i := 59) rfl) rfl (decide_eq_true hc35) ?_
          refine aq_iconst (v := (0 : Int32)) (am_dg dkX8_cast (i := 62) rfl) (by decide) ?_
          exact T_X8_cast_8_b107 hR (by omega) ih _ _ _ _ _ _ _ _ _ h
        · rw [if_neg hc35] at h
          refine aq_icF (t := 106) (am_dg dkX8_cast (i := 59) rfl) rfl (decide_eq_false hc35) ?_
          refine aq_iconst (v := (1 : Int32)) (am_dg dkX8_cast (i := 60) rfl) (by decide) ?_
          refine aq_goto (t := 107) (am_dg dkX8_cast (i := 61) rfl) rfl ?_
          exact T_X8_cast_8_b107 hR (by omega) ih _ _ _ _ _ _ _ _ _ h
      rw [if_neg hc30] at h
      by_cases hc36 : q9.1 = 4
      · rw [if_pos hc36] at h
        obtain ⟨q37, hq38, h⟩ := am_bnd h
        refine aq_virt (a := [.ref 6, .int (q9.2.1 12 x4.toNatClampNeg)]) (S1 := [.int q7.1, .int x3]) (v1 := .int q37.1) (S2 := [.int q37.1, .int q7.1, .int x3]) (am_dg dkX8_cast (i := 51) rfl) cv_8_148_1 (by rw [(show 2 + q9.1 = 6 by rw [hc36])]; exact am_cls_c sh_6 (by decide)) rfl (congrArg (fun z => Value.ref z :: _) (show 2 + q9.1 = 6 by rw [hc36])) rfl (Nat.le_of_ble_eq_true rfl) (Nat.le_of_ble_eq_true rfl) (T_X1_price_6 hR (by omega) hq38) rfl ?_
        obtain ⟨q39, hq40, h⟩ := am_bnd h
        refine aq_static (a := [.int q7.1, .int q37.1]) (S1 := [.int x3]) (v1 := .int q39.1) (S2 := [.int q39.1, .int x3]) (am_dg dkX8_cast (i := 52) rfl) ct_8_151 rfl rfl rfl (Nat.le_of_ble_eq_true rfl) (Nat.le_of_ble_eq_true rfl) (T_X8_worthOf hR (by omega) hq40) rfl ?_
        refine aq_iadd (am_dg dkX8_cast (i := 53) rfl) ?_
        refine aq_istore_n (L1 := [.ref 8, w1, .int x2, .int (x3 + q39.1), .int x4, .int q7.1]) (am_dg dkX8_cast (i := 54) rfl) rfl ?_
        refine aq_aload_n (am_dg dkX8_cast (i := 55) rfl) rfl ?_
        refine aq_iload (am_dg dkX8_cast (i := 56) rfl) rfl ?_
        refine aq_iload (am_dg dkX8_cast (i := 57) rfl) rfl ?_
        refine aq_iconst (v := (1 : Int32)) (am_dg dkX8_cast (i := 58) rfl) (by decide) ?_
        by_cases hc41 : q7.1 = (1 : Int32)
        · rw [if_pos hc41] at h
          refine aq_icT (t := 106) (am_dg dkX8_cast (i := 59) rfl) rfl (decide_eq_true hc41) ?_
          refine aq_iconst (v := (0 : Int32)) (am_dg dkX8_cast (i := 62) rfl) (by decide) ?_
          exact T_X8_cast_8_b107 hR (by omega) ih _ _ _ _ _ _ _ _ _ h
        · rw [if_neg hc41] at h
          refine aq_icF (t := 106) (am_dg dkX8_cast (i := 59) rfl) rfl (decide_eq_false hc41) ?_
          refine aq_iconst (v := (1 : Int32)) (am_dg dkX8_cast (i := 60) rfl) (by decide) ?_
          refine aq_goto (t := 107) (am_dg dkX8_cast (i := 61) rfl) rfl ?_
          exact T_X8_cast_8_b107 hR (by omega) ih _ _ _ _ _ _ _ _ _ h
      rw [if_neg hc36] at h
      have hc42 : q9.1 = 5 := by have := (T_X8_thing_8_b hq10); omega
      obtain ⟨q43, hq44, h⟩ := am_bnd h
      refine aq_virt (a := [.ref 7, .int (q9.2.1 12 x4.toNatClampNeg)]) (S1 := [.int q7.1, .int x3]) (v1 := .int q43.1) (S2 := [.int q43.1, .int q7.1, .int x3]) (am_dg dkX8_cast (i := 51) rfl) cv_8_148_2 (by rw [(show 2 + q9.1 = 7 by rw [hc42])]; exact am_cls_c sh_7 (by decide)) rfl (congrArg (fun z => Value.ref z :: _) (show 2 + q9.1 = 7 by rw [hc42])) rfl (Nat.le_of_ble_eq_true rfl) (Nat.le_of_ble_eq_true rfl) (T_X2_price_7 hR (by omega) hq44) rfl ?_
      obtain ⟨q45, hq46, h⟩ := am_bnd h
      refine aq_static (a := [.int q7.1, .int q43.1]) (S1 := [.int x3]) (v1 := .int q45.1) (S2 := [.int q45.1, .int x3]) (am_dg dkX8_cast (i := 52) rfl) ct_8_151 rfl rfl rfl (Nat.le_of_ble_eq_true rfl) (Nat.le_of_ble_eq_true rfl) (T_X8_worthOf hR (by omega) hq46) rfl ?_
      refine aq_iadd (am_dg dkX8_cast (i := 53) rfl) ?_
      refine aq_istore_n (L1 := [.ref 8, w1, .int x2, .int (x3 + q45.1), .int x4, .int q7.1]) (am_dg dkX8_cast (i := 54) rfl) rfl ?_
      refine aq_aload_n (am_dg dkX8_cast (i := 55) rfl) rfl ?_
      refine aq_iload (am_dg dkX8_cast (i := 56) rfl) rfl ?_
      refine aq_iload (am_dg dkX8_cast (i := 57) rfl) rfl ?_
      refine aq_iconst (v := (1 : Int32)) (am_dg dkX8_cast (i := 58) rfl) (by decide) ?_
      by_cases hc47 : q7.1 = (1 : Int32)
      · rw [if_pos hc47] at h
        refine aq_icT (t := 106) (am_dg dkX8_cast (i := 59) rfl) rfl (decide_eq_true hc47) ?_
        refine aq_iconst (v := (0 : Int32)) (am_dg dkX8_cast (i := 62) rfl) (by decide) ?_
        exact T_X8_cast_8_b107 hR (by omega) ih _ _ _ _ _ _ _ _ _ h
      · rw [if_neg hc47] at h
        refine aq_icF (t := 106) (am_dg dkX8_cast (i := 59) rfl) rfl (decide_eq_false hc47) ?_
        refine aq_iconst (v := (1 : Int32)) (am_dg dkX8_cast (i := 60) rfl) (by decide) ?_
        refine aq_goto (t := 107) (am_dg dkX8_cast (i := 61) rfl) rfl ?_
        exact T_X8_cast_8_b107 hR (by omega) ih _ _ _ _ _ _ _ _ _ h
    · rw [if_neg hc6] at h
      refine aq_icT (t := 110) (am_dg dkX8_cast (i := 37) rfl) rfl (decide_eq_true hc6) ?_
      exact T_X8_cast_8_b110 hR (by omega) ih _ _ _ _ _ _ _ h
set_option maxRecDepth 20000 in
theorem T_X8_cast_8_b36 {sc : Option (Nat × (Nat → Int32))} {RF : Nat → Nat → Option Nat} {d : Nat} (hR : am_RFok RF) (hd : 3 ≤ d) : ∀ (x1 : Int32) (y0 : Int32) (w2 : Value) (w3 : Value) (w4 : Value) (w5 : Value) (s : am_S) (r : Int32 × am_S), F_X8_cast_8_b36 x1 y0 s = some r → am_Q sc d mX8_cast (36, [.ref 8, .int x1, w2, w3, w4, w5], [.int y0], am_hp RF s) (.int r.1, am_hp RF r.2) := by
  obtain ⟨e, rfl⟩ : ∃ e, d = e + 1 := ⟨d - 1, by omega⟩
  intro x1 y0 w2 w3 w4 w5 s r h
  unfold F_X8_cast_8_b36 at h
  refine aq_istore_n (L1 := [.ref 8, .int x1, .int y0, w3, w4, w5]) (am_dg dkX8_cast (i := 22) rfl) rfl ?_
  refine aq_iconst (v := (0 : Int32)) (am_dg dkX8_cast (i := 23) rfl) (by decide) ?_
  refine aq_istore_n (L1 := [.ref 8, .int x1, .int y0, .int (0 : Int32), w4, w5]) (am_dg dkX8_cast (i := 24) rfl) rfl ?_
  refine aq_iconst (v := (0 : Int32)) (am_dg dkX8_cast (i := 25) rfl) (by decide) ?_
  refine aq_istore (L1 := [.ref 8, .int x1, .int y0, .int (0 : Int32), .int (0 : Int32), w5]) (am_dg dkX8_cast (i := 26) rfl) rfl ?_
  exact T_X8_cast_8_b42 hR (by omega) _ _ _ _ _ _ _ _ h
set_option maxRecDepth 20000 in
theorem T_X8_cast_8_b35 {sc : Option (Nat × (Nat → Int32))} {RF : Nat → Nat → Option Nat} {d : Nat} (hR : am_RFok RF) (hd : 3 ≤ d) : ∀ (x1 : Int32) (w2 : Value) (w3 : Value) (w4 : Value) (w5 : Value) (s : am_S) (r : Int32 × am_S), F_X8_cast_8_b35 x1 s = some r → am_Q sc d mX8_cast (35, [.ref 8, .int x1, w2, w3, w4, w5], [], am_hp RF s) (.int r.1, am_hp RF r.2) := by
  obtain ⟨e, rfl⟩ : ∃ e, d = e + 1 := ⟨d - 1, by omega⟩
  intro x1 w2 w3 w4 w5 s r h
  unfold F_X8_cast_8_b35 at h
  refine aq_iconst (v := (0 : Int32)) (am_dg dkX8_cast (i := 21) rfl) (by decide) ?_
  exact T_X8_cast_8_b36 hR (by omega) _ _ _ _ _ _ _ _ h
set_option maxRecDepth 20000 in
theorem T_X8_cast_8 {sc : Option (Nat × (Nat → Int32))} {RF : Nat → Nat → Option Nat} {d : Nat} (hR : am_RFok RF) (hd : 3 ≤ d) {a1 : Int32} {s : am_S} {r : Int32 × am_S} (h : F_X8_cast_8 a1 s = some r) : am_Q sc d mX8_cast (0, am_L0 mX8_cast [.ref 8, .int a1], [], am_hp RF s) (.int r.1, am_hp RF r.2) := by
  obtain ⟨e, rfl⟩ : ∃ e, d = e + 1 := ⟨d - 1, by omega⟩
  unfold F_X8_cast_8 at h
  show am_Q _ _ _ (0, [.ref 8, .int a1, .null, .null, .null, .null], [], _) _
  refine aq_aload_n (am_dg dkX8_cast (i := 0) rfl) rfl ?_
  refine aq_iload_n (am_dg dkX8_cast (i := 1) rfl) rfl ?_
  refine aq_iconst (v := (1 : Int32)) (am_dg dkX8_cast (i := 2) rfl) (by decide) ?_
  refine aq_isub (am_dg dkX8_cast (i := 3) rfl) ?_
  obtain ⟨q1, hq2, h⟩ := am_bnd h
  refine aq_virt (a := [.ref 8, .int (a1 - (1 : Int32))]) (S1 := []) (v1 := .int q1.1) (S2 := [.int q1.1]) (am_dg dkX8_cast (i := 4) rfl) cv_8_139_8 (am_cls_c sh_8 (by decide)) rfl rfl rfl (Nat.le_of_ble_eq_true rfl) (Nat.le_of_ble_eq_true rfl) (T_X8_has_8 hR (by omega) hq2) rfl ?_
  by_cases hc3 : q1.1 = (0 : Int32)
  · rw [if_pos hc3] at h
    refine aq_ifT (t := 35) (am_dg dkX8_cast (i := 5) rfl) rfl (decide_eq_true hc3) ?_
    exact T_X8_cast_8_b35 hR (by omega) _ _ _ _ _ _ _ h
  · rw [if_neg hc3] at h
    refine aq_ifF (t := 35) (am_dg dkX8_cast (i := 5) rfl) rfl (decide_eq_false hc3) ?_
    refine aq_aload_n (am_dg dkX8_cast (i := 6) rfl) rfl ?_
    refine aq_iload_n (am_dg dkX8_cast (i := 7) rfl) rfl ?_
    refine aq_iconst (v := (1 : Int32)) (am_dg dkX8_cast (i := 8) rfl) (by decide) ?_
    refine aq_isub (am_dg dkX8_cast (i := 9) rfl) ?_
    obtain ⟨q4, hq5, h⟩ := am_bnd h
    refine aq_virt (a := [.ref 8, .int (a1 - (1 : Int32))]) (S1 := []) (v1 := .int q4.1) (S2 := [.int q4.1]) (am_dg dkX8_cast (i := 10) rfl) cv_8_120_8 (am_cls_c sh_8 (by decide)) rfl rfl rfl (Nat.le_of_ble_eq_true rfl) (Nat.le_of_ble_eq_true rfl) (T_X8_isCaught_8 hR (by omega) hq5) rfl ?_
    by_cases hc6 : q4.1 = (0 : Int32)
    · rw [if_pos hc6] at h
      refine aq_ifF (t := 35) (am_dg dkX8_cast (i := 11) rfl) rfl (decide_eq_false (not_not_intro hc6)) ?_
      refine aq_aload_n (am_dg dkX8_cast (i := 12) rfl) rfl ?_
      refine aq_aload_n (am_dg dkX8_cast (i := 13) rfl) rfl ?_
      refine aq_getR (am_dg dkX8_cast (i := 14) rfl) gk_8_24_8 (rf_8_12 hR) ?_
      refine aq_iload_n (am_dg dkX8_cast (i := 15) rfl) rfl ?_
      refine aq_iconst (v := (1 : Int32)) (am_dg dkX8_cast (i := 16) rfl) (by decide) ?_
      refine aq_isub (am_dg dkX8_cast (i := 17) rfl) ?_
      obtain ⟨hg7, h⟩ := am_guard h
      refine aq_iald (am_dg dkX8_cast (i := 18) rfl) sh_13 hg7 ?_
      obtain ⟨q8, hq9, h⟩ := am_bnd h
      refine aq_virt (a := [.ref 8, .int (q4.2.1 13 (a1 - (1 : Int32)).toNatClampNeg)]) (S1 := []) (v1 := .int q8.1) (S2 := [.int q8.1]) (am_dg dkX8_cast (i := 19) rfl) cv_8_142_8 (am_cls_c sh_8 (by decide)) rfl rfl rfl (Nat.le_of_ble_eq_true rfl) (Nat.le_of_ble_eq_true rfl) (T_X8_heldByNetAt_8 hR (by omega) hq9) rfl ?_
      refine aq_goto (t := 36) (am_dg dkX8_cast (i := 20) rfl) rfl ?_
      exact T_X8_cast_8_b36 hR (by omega) _ _ _ _ _ _ _ _ h
    · rw [if_neg hc6] at h
      refine aq_ifT (t := 35) (am_dg dkX8_cast (i := 11) rfl) rfl (decide_eq_true hc6) ?_
      exact T_X8_cast_8_b35 hR (by omega) _ _ _ _ _ _ _ h
set_option maxRecDepth 20000 in
theorem T_X8_goBy_8 {sc : Option (Nat × (Nat → Int32))} {RF : Nat → Nat → Option Nat} {d : Nat} (hR : am_RFok RF) (hd : 4 ≤ d) {a1 : Int32} {s : am_S} {r : Int32 × am_S} (h : F_X8_goBy_8 a1 s = some r) : am_Q sc d mX8_goBy (0, am_L0 mX8_goBy [.ref 8, .int a1], [], am_hp RF s) (.int r.1, am_hp RF r.2) := by
  obtain ⟨e, rfl⟩ : ∃ e, d = e + 1 := ⟨d - 1, by omega⟩
  unfold F_X8_goBy_8 at h
  show am_Q _ _ _ (0, [.ref 8, .int a1], [], _) _
  refine aq_aload_n (am_dg dkX8_goBy (i := 0) rfl) rfl ?_
  obtain ⟨q1, hq2, h⟩ := am_bnd h
  refine aq_virt (a := [.ref 8]) (S1 := []) (v1 := .int q1.1) (S2 := [.int q1.1]) (am_dg dkX8_goBy (i := 1) rfl) cv_8_124_8 (am_cls_c sh_8 (by decide)) rfl rfl rfl (Nat.le_of_ble_eq_true rfl) (Nat.le_of_ble_eq_true rfl) (T_X8_isOver_8 hR (by omega) hq2) rfl ?_
  by_cases hc3 : q1.1 = (0 : Int32)
  · rw [if_pos hc3] at h
    refine aq_ifT (t := 9) (am_dg dkX8_goBy (i := 2) rfl) rfl (decide_eq_true hc3) ?_
    refine aq_aload_n (am_dg dkX8_goBy (i := 5) rfl) rfl ?_
    obtain ⟨q4, hq5, h⟩ := am_bnd h
    refine aq_virt (a := [.ref 8]) (S1 := []) (v1 := .null) (S2 := []) (am_dg dkX8_goBy (i := 6) rfl) cv_8_128_8 (am_cls_c sh_8 (by decide)) rfl rfl rfl (Nat.le_of_ble_eq_true rfl) (Nat.le_of_ble_eq_true rfl) (T_X8_drift_8 hR (by omega) hq5) rfl ?_
    refine aq_aload_n (am_dg dkX8_goBy (i := 7) rfl) rfl ?_
    refine aq_iload_n (am_dg dkX8_goBy (i := 8) rfl) rfl ?_
    obtain ⟨q6, hq7, h⟩ := am_bnd h
    refine aq_virt (a := [.ref 8, .int a1]) (S1 := []) (v1 := .int q6.1) (S2 := [.int q6.1]) (am_dg dkX8_goBy (i := 9) rfl) cv_8_131_8 (am_cls_c sh_8 (by decide)) rfl rfl rfl (Nat.le_of_ble_eq_true rfl) (Nat.le_of_ble_eq_true rfl) (T_X8_cast_8 hR (by omega) hq7) rfl ?_
    obtain rfl := Option.some.inj h
    exact aq_ireturn (am_dg dkX8_goBy (i := 10) rfl) rfl (Or.inl rfl) rfl
  · rw [if_neg hc3] at h
    refine aq_ifF (t := 9) (am_dg dkX8_goBy (i := 2) rfl) rfl (decide_eq_false hc3) ?_
    refine aq_iconst (v := (0 : Int32)) (am_dg dkX8_goBy (i := 3) rfl) (by decide) ?_
    obtain rfl := Option.some.inj h
    exact aq_ireturn (am_dg dkX8_goBy (i := 4) rfl) rfl (Or.inl rfl) rfl
set_option maxRecDepth 20000 in
theorem T_X11_turn_0 {sc : Option (Nat × (Nat → Int32))} {RF : Nat → Nat → Option Nat} {d : Nat} (hR : am_RFok RF) (hd : 5 ≤ d) {s : am_S} {r : Int32 × am_S} (h : F_X11_turn_0 s = some r) : am_Q sc d mX11_turn (0, am_L0 mX11_turn [.ref 0], [], am_hp RF s) (.int r.1, am_hp RF r.2) := by
  obtain ⟨e, rfl⟩ : ∃ e, d = e + 1 := ⟨d - 1, by omega⟩
  unfold F_X11_turn_0 at h
  show am_Q _ _ _ (0, [.ref 0], [], _) _
  refine aq_aload_n (am_dg dkX11_turn (i := 0) rfl) rfl ?_
  refine aq_getR (am_dg dkX11_turn (i := 1) rfl) gk_11_30_0 (rf_0_0 hR) ?_
  obtain ⟨q1, hq2, h⟩ := am_bnd h
  refine aq_virt (a := [.ref 8]) (S1 := []) (v1 := .int q1.1) (S2 := [.int q1.1]) (am_dg dkX11_turn (i := 2) rfl) cv_11_189_8 (am_cls_c sh_8 (by decide)) rfl rfl rfl (Nat.le_of_ble_eq_true rfl) (Nat.le_of_ble_eq_true rfl) (T_X8_isOver_8 hR (by omega) hq2) rfl ?_
  by_cases hc3 : q1.1 = (0 : Int32)
  · rw [if_pos hc3] at h
    refine aq_ifT (t := 15) (am_dg dkX11_turn (i := 3) rfl) rfl (decide_eq_true hc3) ?_
    refine aq_aload_n (am_dg dkX11_turn (i := 6) rfl) rfl ?_
    refine aq_getR (am_dg dkX11_turn (i := 7) rfl) gk_11_30_0 (rf_0_0 hR) ?_
    refine aq_aload_n (am_dg dkX11_turn (i := 8) rfl) rfl ?_
    refine aq_getR (am_dg dkX11_turn (i := 9) rfl) gk_11_30_0 (rf_0_0 hR) ?_
    obtain ⟨q4, hq5, h⟩ := am_bnd h
    refine aq_virt (a := [.ref 8]) (S1 := [.ref 8]) (v1 := .int q4.1) (S2 := [.int q4.1, .ref 8]) (am_dg dkX11_turn (i := 10) rfl) cv_11_208_8 (am_cls_c sh_8 (by decide)) rfl rfl rfl (Nat.le_of_ble_eq_true rfl) (Nat.le_of_ble_eq_true rfl) (T_X8_leastAct_8 hR (by omega) hq5) rfl ?_
    obtain ⟨q6, hq7, h⟩ := am_bnd h
    refine aq_virt (a := [.ref 8, .int q4.1]) (S1 := []) (v1 := .int q6.1) (S2 := [.int q6.1]) (am_dg dkX11_turn (i := 11) rfl) cv_11_212_8 (am_cls_c sh_8 (by decide)) rfl rfl rfl (Nat.le_of_ble_eq_true rfl) (Nat.le_of_ble_eq_true rfl) (T_X8_goBy_8 hR (by omega) hq7) rfl ?_
    obtain rfl := Option.some.inj h
    exact aq_ireturn (am_dg dkX11_turn (i := 12) rfl) rfl (Or.inl rfl) rfl
  · rw [if_neg hc3] at h
    refine aq_ifF (t := 15) (am_dg dkX11_turn (i := 3) rfl) rfl (decide_eq_false hc3) ?_
    refine aq_bipush (v := (-4 : Int32)) (am_dg dkX11_turn (i := 4) rfl) (by decide) ?_
    refine aq_goto (t := 29) (am_dg dkX11_turn (i := 5) rfl) rfl ?_
    obtain rfl := Option.some.inj h
    exact aq_ireturn (am_dg dkX11_turn (i := 12) rfl) rfl (Or.inl rfl) rfl
set_option maxRecDepth 20000 in
theorem T_X12_leastAct_82_b2 {sc : Option (Nat × (Nat → Int32))} {RF : Nat → Nat → Option Nat} {d : Nat} (hR : am_RFok RF) (hd : 2 ≤ d) : ∀ (n : Nat) (x1 : Int32) (s : am_S) (r : Int32 × am_S), F_X12_leastAct_82_b2 n x1 s = some r → am_Q sc d mX12_leastAct (2, [.ref 82, .int x1], [], am_hp RF s) (.int r.1, am_hp RF r.2) := by
  obtain ⟨e, rfl⟩ : ∃ e, d = e + 1 := ⟨d - 1, by omega⟩
  intro n
  induction n with
  | zero => intro x1 s r h; rw [F_X12_leastAct_82_b2] at h; cases h
  | succ n ih =>
  intro x1 s r h
  rw [F_X12_leastAct_82_b2] at h
  refine aq_iload_n (am_dg dkX12_leastAct (i := 2) rfl) rfl ?_
  refine aq_aload_n (am_dg dkX12_leastAct (i := 3) rfl) rfl ?_
  refine aq_getR (am_dg dkX12_leastAct (i := 4) rfl) gk_12_7_82 (rf_82_0 hR) ?_
  refine aq_iconst (v := (0 : Int32)) (am_dg dkX12_leastAct (i := 5) rfl) (by decide) ?_
  obtain ⟨hg1, h⟩ := am_guard h
  refine aq_iald (am_dg dkX12_leastAct (i := 6) rfl) sh_83 hg1 ?_
  by_cases hc2 : (s.1 83 (0 : Int32).toNatClampNeg) ≤ x1
  · rw [if_pos hc2] at h
    refine aq_icT (t := 31) (am_dg dkX12_leastAct (i := 7) rfl) rfl (decide_eq_true hc2) ?_
    refine aq_iconst (v := (0 : Int32)) (am_dg dkX12_leastAct (i := 19) rfl) (by decide) ?_
    obtain rfl := Option.some.inj h
    exact aq_ireturn (am_dg dkX12_leastAct (i := 20) rfl) rfl (Or.inl rfl) rfl
  · rw [if_neg hc2] at h
    refine aq_icF (t := 31) (am_dg dkX12_leastAct (i := 7) rfl) rfl (decide_eq_false hc2) ?_
    refine aq_aload_n (am_dg dkX12_leastAct (i := 8) rfl) rfl ?_
    refine aq_iload_n (am_dg dkX12_leastAct (i := 9) rfl) rfl ?_
    refine aq_iconst (v := (4 : Int32)) (am_dg dkX12_leastAct (i := 10) rfl) (by decide) ?_
    obtain ⟨q3, hq4, h⟩ := am_bnd h
    refine aq_virt (a := [.ref 82, .int x1, .int (4 : Int32)]) (S1 := []) (v1 := .int q3.1) (S2 := [.int q3.1]) (am_dg dkX12_leastAct (i := 11) rfl) cv_12_83_12 (am_cls_c sh_82 (by decide)) rfl rfl rfl (Nat.le_of_ble_eq_true rfl) (Nat.le_of_ble_eq_true rfl) (T_X12_its_82 hR (by omega) hq4) rfl ?_
    by_cases hc5 : q3.1 = (0 : Int32)
    · rw [if_pos hc5] at h
      refine aq_ifF (t := 25) (am_dg dkX12_leastAct (i := 12) rfl) rfl (decide_eq_false (not_not_intro hc5)) ?_
      refine aq_iload_n (am_dg dkX12_leastAct (i := 13) rfl) rfl ?_
      refine aq_iconst (v := (1 : Int32)) (am_dg dkX12_leastAct (i := 14) rfl) (by decide) ?_
      refine aq_iadd (am_dg dkX12_leastAct (i := 15) rfl) ?_
      obtain rfl := Option.some.inj h
      exact aq_ireturn (am_dg dkX12_leastAct (i := 16) rfl) rfl (Or.inl rfl) rfl
    · rw [if_neg hc5] at h
      refine aq_ifT (t := 25) (am_dg dkX12_leastAct (i := 12) rfl) rfl (decide_eq_true hc5) ?_
      refine aq_iinc (v := (1 : Int32)) (L1 := [.ref 82, .int (x1 + (1 : Int32))]) (am_dg dkX12_leastAct (i := 17) rfl) rfl (by decide) rfl ?_
      refine aq_goto (t := 2) (am_dg dkX12_leastAct (i := 18) rfl) rfl ?_
      exact ih _ _ _ h
set_option maxRecDepth 20000 in
theorem T_X12_leastAct_82 {sc : Option (Nat × (Nat → Int32))} {RF : Nat → Nat → Option Nat} {d : Nat} (hR : am_RFok RF) (hd : 2 ≤ d) {s : am_S} {r : Int32 × am_S} (h : F_X12_leastAct_82 s = some r) : am_Q sc d mX12_leastAct (0, am_L0 mX12_leastAct [.ref 82], [], am_hp RF s) (.int r.1, am_hp RF r.2) := by
  obtain ⟨e, rfl⟩ : ∃ e, d = e + 1 := ⟨d - 1, by omega⟩
  unfold F_X12_leastAct_82 at h
  show am_Q _ _ _ (0, [.ref 82, .null], [], _) _
  refine aq_iconst (v := (0 : Int32)) (am_dg dkX12_leastAct (i := 0) rfl) (by decide) ?_
  refine aq_istore_n (L1 := [.ref 82, .int (0 : Int32)]) (am_dg dkX12_leastAct (i := 1) rfl) rfl ?_
  exact T_X12_leastAct_82_b2 hR (by omega) _ _ _ _ h
set_option maxRecDepth 20000 in
theorem T_X12_heldPlace {sc : Option (Nat × (Nat → Int32))} {RF : Nat → Nat → Option Nat} {d : Nat} (hR : am_RFok RF) (hd : 0 ≤ d) {a0 : Int32} {s : am_S} {r : Int32 × am_S} (h : F_X12_heldPlace a0 s = some r) : am_Q sc d mX12_heldPlace (0, am_L0 mX12_heldPlace [.int a0], [], am_hp RF s) (.int r.1, am_hp RF r.2) := by
  unfold F_X12_heldPlace at h
  show am_Q _ _ _ (0, [.int a0], [], _) _
  refine aq_iload_n (am_dg dkX12_heldPlace (i := 0) rfl) rfl ?_
  by_cases hc1 : (0 : Int32) ≤ a0
  · rw [if_pos hc1] at h
    refine aq_ifT (t := 8) (am_dg dkX12_heldPlace (i := 1) rfl) rfl (decide_eq_true hc1) ?_
    refine aq_iload_n (am_dg dkX12_heldPlace (i := 4) rfl) rfl ?_
    refine aq_bipush (v := (15 : Int32)) (am_dg dkX12_heldPlace (i := 5) rfl) (by decide) ?_
    by_cases hc2 : a0 ≤ (15 : Int32)
    · rw [if_pos hc2] at h
      refine aq_icT (t := 19) (am_dg dkX12_heldPlace (i := 6) rfl) rfl (decide_eq_true hc2) ?_
      refine aq_iload_n (am_dg dkX12_heldPlace (i := 9) rfl) rfl ?_
      obtain rfl := Option.some.inj h
      exact aq_ireturn (am_dg dkX12_heldPlace (i := 10) rfl) rfl (Or.inl rfl) rfl
    · rw [if_neg hc2] at h
      refine aq_icF (t := 19) (am_dg dkX12_heldPlace (i := 6) rfl) rfl (decide_eq_false hc2) ?_
      refine aq_bipush (v := (15 : Int32)) (am_dg dkX12_heldPlace (i := 7) rfl) (by decide) ?_
      refine aq_goto (t := 20) (am_dg dkX12_heldPlace (i := 8) rfl) rfl ?_
      obtain rfl := Option.some.inj h
      exact aq_ireturn (am_dg dkX12_heldPlace (i := 10) rfl) rfl (Or.inl rfl) rfl
  · rw [if_neg hc1] at h
    refine aq_ifF (t := 8) (am_dg dkX12_heldPlace (i := 1) rfl) rfl (decide_eq_false hc1) ?_
    refine aq_iconst (v := (0 : Int32)) (am_dg dkX12_heldPlace (i := 2) rfl) (by decide) ?_
    refine aq_goto (t := 20) (am_dg dkX12_heldPlace (i := 3) rfl) rfl ?_
    obtain rfl := Option.some.inj h
    exact aq_ireturn (am_dg dkX12_heldPlace (i := 10) rfl) rfl (Or.inl rfl) rfl
set_option maxRecDepth 20000 in
theorem T_X12_driftsTo_82_b36 {sc : Option (Nat × (Nat → Int32))} {RF : Nat → Nat → Option Nat} {d : Nat} (hR : am_RFok RF) (hd : 1 ≤ d) : ∀ (y0 : Int32) (w0 : Value) (w1 : Value) (w2 : Value) (w3 : Value) (w4 : Value) (s : am_S) (r : Int32 × am_S), F_X12_driftsTo_82_b36 y0 s = some r → am_Q sc d mX12_driftsTo (36, [w0, w1, w2, w3, w4], [.int y0], am_hp RF s) (.int r.1, am_hp RF r.2) := by
  obtain ⟨e, rfl⟩ : ∃ e, d = e + 1 := ⟨d - 1, by omega⟩
  intro y0 w0 w1 w2 w3 w4 s r h
  unfold F_X12_driftsTo_82_b36 at h
  obtain ⟨q1, hq2, h⟩ := am_bnd h
  refine aq_static (a := [.int y0]) (S1 := []) (v1 := .int q1.1) (S2 := [.int q1.1]) (am_dg dkX12_driftsTo (i := 22) rfl) ct_12_139 rfl rfl rfl (Nat.le_of_ble_eq_true rfl) (Nat.le_of_ble_eq_true rfl) (T_X12_heldPlace hR (by omega) hq2) rfl ?_
  obtain rfl := Option.some.inj h
  exact aq_ireturn (am_dg dkX12_driftsTo (i := 23) rfl) rfl (Or.inl rfl) rfl
set_option maxRecDepth 20000 in
theorem T_X12_driftsTo_82 {sc : Option (Nat × (Nat → Int32))} {RF : Nat → Nat → Option Nat} {d : Nat} (hR : am_RFok RF) (hd : 1 ≤ d) {a1 : Int32} {a2 : Int32} {a3 : Int32} {s : am_S} {r : Int32 × am_S} (h : F_X12_driftsTo_82 a1 a2 a3 s = some r) : am_Q sc d mX12_driftsTo (0, am_L0 mX12_driftsTo [.ref 82, .int a1, .int a2, .int a3], [], am_hp RF s) (.int r.1, am_hp RF r.2) := by
  obtain ⟨e, rfl⟩ : ∃ e, d = e + 1 := ⟨d - 1, by omega⟩
  unfold F_X12_driftsTo_82 at h
  show am_Q _ _ _ (0, [.ref 82, .int a1, .int a2, .int a3, .null], [], _) _
  refine aq_aload_n (am_dg dkX12_driftsTo (i := 0) rfl) rfl ?_
  refine aq_getR (am_dg dkX12_driftsTo (i := 1) rfl) gk_12_7_82 (rf_82_0 hR) ?_
  refine aq_bipush (v := (8 : Int32)) (am_dg dkX12_driftsTo (i := 2) rfl) (by decide) ?_
  refine aq_iload_n (am_dg dkX12_driftsTo (i := 3) rfl) rfl ?_
  refine aq_iadd (am_dg dkX12_driftsTo (i := 4) rfl) ?_
  obtain ⟨hg1, h⟩ := am_guard h
  refine aq_iald (am_dg dkX12_driftsTo (i := 5) rfl) sh_83 hg1 ?_
  obtain ⟨v2, hv3, h⟩ := am_bnd h
  rw [Option.some.inj hv3]
  refine aq_istore (L1 := [.ref 82, .int a1, .int a2, .int a3, .int v2]) (am_dg dkX12_driftsTo (i := 6) rfl) rfl ?_
  refine aq_iload (am_dg dkX12_driftsTo (i := 7) rfl) rfl ?_
  refine aq_iconst (v := (1 : Int32)) (am_dg dkX12_driftsTo (i := 8) rfl) (by decide) ?_
  by_cases hc4 : v2 = (1 : Int32)
  · rw [if_pos hc4] at h
    refine aq_icF (t := 23) (am_dg dkX12_driftsTo (i := 9) rfl) rfl (decide_eq_false (not_not_intro hc4)) ?_
    refine aq_iload_n (am_dg dkX12_driftsTo (i := 10) rfl) rfl ?_
    refine aq_iload_n (am_dg dkX12_driftsTo (i := 11) rfl) rfl ?_
    refine aq_iadd (am_dg dkX12_driftsTo (i := 12) rfl) ?_
    refine aq_goto (t := 36) (am_dg dkX12_driftsTo (i := 13) rfl) rfl ?_
    exact T_X12_driftsTo_82_b36 hR (by omega) _ _ _ _ _ _ _ _ h
  · rw [if_neg hc4] at h
    refine aq_icT (t := 23) (am_dg dkX12_driftsTo (i := 9) rfl) rfl (decide_eq_true hc4) ?_
    refine aq_iload (am_dg dkX12_driftsTo (i := 14) rfl) rfl ?_
    refine aq_iconst (v := (2 : Int32)) (am_dg dkX12_driftsTo (i := 15) rfl) (by decide) ?_
    by_cases hc5 : v2 = (2 : Int32)
    · rw [if_pos hc5] at h
      refine aq_icF (t := 35) (am_dg dkX12_driftsTo (i := 16) rfl) rfl (decide_eq_false (not_not_intro hc5)) ?_
      refine aq_iload_n (am_dg dkX12_driftsTo (i := 17) rfl) rfl ?_
      refine aq_iload_n (am_dg dkX12_driftsTo (i := 18) rfl) rfl ?_
      refine aq_isub (am_dg dkX12_driftsTo (i := 19) rfl) ?_
      refine aq_goto (t := 36) (am_dg dkX12_driftsTo (i := 20) rfl) rfl ?_
      exact T_X12_driftsTo_82_b36 hR (by omega) _ _ _ _ _ _ _ _ h
    · rw [if_neg hc5] at h
      refine aq_icT (t := 35) (am_dg dkX12_driftsTo (i := 16) rfl) rfl (decide_eq_true hc5) ?_
      refine aq_iload_n (am_dg dkX12_driftsTo (i := 21) rfl) rfl ?_
      exact T_X12_driftsTo_82_b36 hR (by omega) _ _ _ _ _ _ _ _ h
set_option maxRecDepth 20000 in
theorem T_X12_isIn_82 {sc : Option (Nat × (Nat → Int32))} {RF : Nat → Nat → Option Nat} {d : Nat} (hR : am_RFok RF) (hd : 2 ≤ d) {a1 : Int32} {a2 : Int32} {s : am_S} {r : Int32 × am_S} (h : F_X12_isIn_82 a1 a2 s = some r) : am_Q sc d mX12_isIn (0, am_L0 mX12_isIn [.ref 82, .int a1, .int a2], [], am_hp RF s) (.int r.1, am_hp RF r.2) := by
  obtain ⟨e, rfl⟩ : ∃ e, d = e + 1 := ⟨d - 1, by omega⟩
  unfold F_X12_isIn_82 at h
  show am_Q _ _ _ (0, [.ref 82, .int a1, .int a2], [], _) _
  refine aq_aload_n (am_dg dkX12_isIn (i := 0) rfl) rfl ?_
  refine aq_iload_n (am_dg dkX12_isIn (i := 1) rfl) rfl ?_
  refine aq_iconst (v := (4 : Int32)) (am_dg dkX12_isIn (i := 2) rfl) (by decide) ?_
  obtain ⟨q1, hq2, h⟩ := am_bnd h
  refine aq_virt (a := [.ref 82, .int a1, .int (4 : Int32)]) (S1 := []) (v1 := .int q1.1) (S2 := [.int q1.1]) (am_dg dkX12_isIn (i := 3) rfl) cv_12_83_12 (am_cls_c sh_82 (by decide)) rfl rfl rfl (Nat.le_of_ble_eq_true rfl) (Nat.le_of_ble_eq_true rfl) (T_X12_its_82 hR (by omega) hq2) rfl ?_
  by_cases hc3 : q1.1 = (0 : Int32)
  · rw [if_pos hc3] at h
    refine aq_ifF (t := 32) (am_dg dkX12_isIn (i := 4) rfl) rfl (decide_eq_false (not_not_intro hc3)) ?_
    refine aq_aload_n (am_dg dkX12_isIn (i := 5) rfl) rfl ?_
    refine aq_iload_n (am_dg dkX12_isIn (i := 6) rfl) rfl ?_
    refine aq_iconst (v := (3 : Int32)) (am_dg dkX12_isIn (i := 7) rfl) (by decide) ?_
    obtain ⟨q4, hq5, h⟩ := am_bnd h
    refine aq_virt (a := [.ref 82, .int a1, .int (3 : Int32)]) (S1 := []) (v1 := .int q4.1) (S2 := [.int q4.1]) (am_dg dkX12_isIn (i := 8) rfl) cv_12_83_12 (am_cls_c sh_82 (by decide)) rfl rfl rfl (Nat.le_of_ble_eq_true rfl) (Nat.le_of_ble_eq_true rfl) (T_X12_its_82 hR (by omega) hq5) rfl ?_
    refine aq_iload_n (am_dg dkX12_isIn (i := 9) rfl) rfl ?_
    refine aq_isub (am_dg dkX12_isIn (i := 10) rfl) ?_
    refine aq_i2l (am_dg dkX12_isIn (i := 11) rfl) ?_
    refine aq_ldc2 (am_dg dkX12_isIn (i := 12) rfl) cl_12_142 ?_
    refine aq_lconst (v := (1 : Int64)) (am_dg dkX12_isIn (i := 13) rfl) (by decide) ?_
    obtain ⟨q6, hq7, h⟩ := am_bnd h
    refine aq_static (a := [.long (q4.1 - a2).toInt64, .long (-1 : Int64), .long (1 : Int64)]) (S1 := []) (v1 := .int q6.1) (S2 := [.int q6.1]) (am_dg dkX12_isIn (i := 14) rfl) ct_12_61 rfl rfl rfl (Nat.le_of_ble_eq_true rfl) (Nat.le_of_ble_eq_true rfl) (T_X12_in hR (by omega) hq7) rfl ?_
    by_cases hc8 : q6.1 = (0 : Int32)
    · rw [if_pos hc8] at h
      refine aq_ifT (t := 32) (am_dg dkX12_isIn (i := 15) rfl) rfl (decide_eq_true hc8) ?_
      refine aq_iconst (v := (0 : Int32)) (am_dg dkX12_isIn (i := 18) rfl) (by decide) ?_
      obtain rfl := Option.some.inj h
      exact aq_ireturn (am_dg dkX12_isIn (i := 19) rfl) rfl (Or.inr (Or.inl rfl)) rfl
    · rw [if_neg hc8] at h
      refine aq_ifF (t := 32) (am_dg dkX12_isIn (i := 15) rfl) rfl (decide_eq_false hc8) ?_
      refine aq_iconst (v := (1 : Int32)) (am_dg dkX12_isIn (i := 16) rfl) (by decide) ?_
      refine aq_goto (t := 33) (am_dg dkX12_isIn (i := 17) rfl) rfl ?_
      obtain rfl := Option.some.inj h
      exact aq_ireturn (am_dg dkX12_isIn (i := 19) rfl) rfl (Or.inr (Or.inl rfl)) rfl
  · rw [if_neg hc3] at h
    refine aq_ifT (t := 32) (am_dg dkX12_isIn (i := 4) rfl) rfl (decide_eq_true hc3) ?_
    refine aq_iconst (v := (0 : Int32)) (am_dg dkX12_isIn (i := 18) rfl) (by decide) ?_
    obtain rfl := Option.some.inj h
    exact aq_ireturn (am_dg dkX12_isIn (i := 19) rfl) rfl (Or.inr (Or.inl rfl)) rfl
set_option maxRecDepth 20000 in
theorem T_X12_heldAt_82_b58 {sc : Option (Nat × (Nat → Int32))} {RF : Nat → Nat → Option Nat} {d : Nat} (hR : am_RFok RF) (hd : 3 ≤ d) {k4 : Int32 → Int32 → Int32 → am_S → Option (Int32 × am_S)} (hk4 : ∀ (x1 : Int32) (x2 : Int32) (x3 : Int32) (s2 : am_S) (r2 : Int32 × am_S), k4 x1 x2 x3 s2 = some r2 → am_Q sc d mX12_heldAt (4, [.ref 82, .int x1, .int x2, .int x3], [], am_hp RF s2) (.int r2.1, am_hp RF r2.2)) : ∀ (x1 : Int32) (x2 : Int32) (x3 : Int32) (s : am_S) (r : Int32 × am_S), F_X12_heldAt_82_b58 k4 x1 x2 x3 s = some r → am_Q sc d mX12_heldAt (58, [.ref 82, .int x1, .int x2, .int x3], [], am_hp RF s) (.int r.1, am_hp RF r.2) := by
  obtain ⟨e, rfl⟩ : ∃ e, d = e + 1 := ⟨d - 1, by omega⟩
  intro x1 x2 x3 s r h
  unfold F_X12_heldAt_82_b58 at h
  refine aq_iinc (v := (1 : Int32)) (L1 := [.ref 82, .int x1, .int x2, .int (x3 + (1 : Int32))]) (am_dg dkX12_heldAt (i := 38) rfl) rfl (by decide) rfl ?_
  refine aq_goto (t := 4) (am_dg dkX12_heldAt (i := 39) rfl) rfl ?_
  exact hk4 _ _ _ _ _ h
set_option maxRecDepth 20000 in
theorem T_X12_heldAt_82_b56 {sc : Option (Nat × (Nat → Int32))} {RF : Nat → Nat → Option Nat} {d : Nat} (hR : am_RFok RF) (hd : 3 ≤ d) {k4 : Int32 → Int32 → Int32 → am_S → Option (Int32 × am_S)} (hk4 : ∀ (x1 : Int32) (x2 : Int32) (x3 : Int32) (s2 : am_S) (r2 : Int32 × am_S), k4 x1 x2 x3 s2 = some r2 → am_Q sc d mX12_heldAt (4, [.ref 82, .int x1, .int x2, .int x3], [], am_hp RF s2) (.int r2.1, am_hp RF r2.2)) : ∀ (x1 : Int32) (x3 : Int32) (y0 : Int32) (y1 : Int32) (w2 : Value) (s : am_S) (r : Int32 × am_S), F_X12_heldAt_82_b56 k4 x1 x3 y0 y1 s = some r → am_Q sc d mX12_heldAt (56, [.ref 82, .int x1, w2, .int x3], [.int y0, .int y1], am_hp RF s) (.int r.1, am_hp RF r.2) := by
  obtain ⟨e, rfl⟩ : ∃ e, d = e + 1 := ⟨d - 1, by omega⟩
  intro x1 x3 y0 y1 w2 s r h
  unfold F_X12_heldAt_82_b56 at h
  refine aq_ior (am_dg dkX12_heldAt (i := 36) rfl) ?_
  refine aq_istore_n (L1 := [.ref 82, .int x1, .int (y1 ||| y0), .int x3]) (am_dg dkX12_heldAt (i := 37) rfl) rfl ?_
  exact T_X12_heldAt_82_b58 hR (by omega) hk4 _ _ _ _ _ h
set_option maxRecDepth 20000 in
theorem T_X12_heldAt_82_b4 {sc : Option (Nat × (Nat → Int32))} {RF : Nat → Nat → Option Nat} {d : Nat} (hR : am_RFok RF) (hd : 3 ≤ d) : ∀ (n : Nat) (x1 : Int32) (x2 : Int32) (x3 : Int32) (s : am_S) (r : Int32 × am_S), F_X12_heldAt_82_b4 n x1 x2 x3 s = some r → am_Q sc d mX12_heldAt (4, [.ref 82, .int x1, .int x2, .int x3], [], am_hp RF s) (.int r.1, am_hp RF r.2) := by
  obtain ⟨e, rfl⟩ : ∃ e, d = e + 1 := ⟨d - 1, by omega⟩
  intro n
  induction n with
  | zero => intro x1 x2 x3 s r h; rw [F_X12_heldAt_82_b4] at h; cases h
  | succ n ih =>
  intro x1 x2 x3 s r h
  rw [F_X12_heldAt_82_b4] at h
  refine aq_iload_n (am_dg dkX12_heldAt (i := 4) rfl) rfl ?_
  refine aq_aload_n (am_dg dkX12_heldAt (i := 5) rfl) rfl ?_
  refine aq_getR (am_dg dkX12_heldAt (i := 6) rfl) gk_12_7_82 (rf_82_0 hR) ?_
  refine aq_iconst (v := (0 : Int32)) (am_dg dkX12_heldAt (i := 7) rfl) (by decide) ?_
  obtain ⟨hg1, h⟩ := am_guard h
  refine aq_iald (am_dg dkX12_heldAt (i := 8) rfl) sh_83 hg1 ?_
  by_cases hc2 : (s.1 83 (0 : Int32).toNatClampNeg) ≤ x3
  · rw [if_pos hc2] at h
    refine aq_icT (t := 64) (am_dg dkX12_heldAt (i := 9) rfl) rfl (decide_eq_true hc2) ?_
    refine aq_iload_n (am_dg dkX12_heldAt (i := 40) rfl) rfl ?_
    obtain rfl := Option.some.inj h
    exact aq_ireturn (am_dg dkX12_heldAt (i := 41) rfl) rfl (Or.inl rfl) rfl
  · rw [if_neg hc2] at h
    refine aq_icF (t := 64) (am_dg dkX12_heldAt (i := 9) rfl) rfl (decide_eq_false hc2) ?_
    refine aq_aload_n (am_dg dkX12_heldAt (i := 10) rfl) rfl ?_
    refine aq_iload_n (am_dg dkX12_heldAt (i := 11) rfl) rfl ?_
    refine aq_iload_n (am_dg dkX12_heldAt (i := 12) rfl) rfl ?_
    obtain ⟨q3, hq4, h⟩ := am_bnd h
    refine aq_virt (a := [.ref 82, .int x3, .int x1]) (S1 := []) (v1 := .int q3.1) (S2 := [.int q3.1]) (am_dg dkX12_heldAt (i := 13) rfl) cv_12_144_12 (am_cls_c sh_82 (by decide)) rfl rfl rfl (Nat.le_of_ble_eq_true rfl) (Nat.le_of_ble_eq_true rfl) (T_X12_isIn_82 hR (by omega) hq4) rfl ?_
    by_cases hc5 : q3.1 = (0 : Int32)
    · rw [if_pos hc5] at h
      refine aq_ifT (t := 58) (am_dg dkX12_heldAt (i := 14) rfl) rfl (decide_eq_true hc5) ?_
      exact T_X12_heldAt_82_b58 hR (by omega) ih _ _ _ _ _ h
    · rw [if_neg hc5] at h
      refine aq_ifF (t := 58) (am_dg dkX12_heldAt (i := 14) rfl) rfl (decide_eq_false hc5) ?_
      refine aq_aload_n (am_dg dkX12_heldAt (i := 15) rfl) rfl ?_
      refine aq_iload_n (am_dg dkX12_heldAt (i := 16) rfl) rfl ?_
      obtain ⟨q6, hq7, h⟩ := am_bnd h
      refine aq_virt (a := [.ref 82, .int x3]) (S1 := []) (v1 := .int q6.1) (S2 := [.int q6.1]) (am_dg dkX12_heldAt (i := 17) rfl) cv_12_102_12 (am_cls_c sh_82 (by decide)) rfl rfl rfl (Nat.le_of_ble_eq_true rfl) (Nat.le_of_ble_eq_true rfl) (T_X12_isBursting_82 hR (by omega) hq7) rfl ?_
      by_cases hc8 : q6.1 = (0 : Int32)
      · rw [if_pos hc8] at h
        refine aq_ifT (t := 33) (am_dg dkX12_heldAt (i := 18) rfl) rfl (decide_eq_true hc8) ?_
        refine aq_iload_n (am_dg dkX12_heldAt (i := 21) rfl) rfl ?_
        refine aq_aload_n (am_dg dkX12_heldAt (i := 22) rfl) rfl ?_
        refine aq_iload_n (am_dg dkX12_heldAt (i := 23) rfl) rfl ?_
        refine aq_iconst (v := (2 : Int32)) (am_dg dkX12_heldAt (i := 24) rfl) (by decide) ?_
        obtain ⟨q9, hq10, h⟩ := am_bnd h
        refine aq_virt (a := [.ref 82, .int x3, .int (2 : Int32)]) (S1 := [.int x2]) (v1 := .int q9.1) (S2 := [.int q9.1, .int x2]) (am_dg dkX12_heldAt (i := 25) rfl) cv_12_83_12 (am_cls_c sh_82 (by decide)) rfl rfl rfl (Nat.le_of_ble_eq_true rfl) (Nat.le_of_ble_eq_true rfl) (T_X12_its_82 hR (by omega) hq10) rfl ?_
        refine aq_aload_n (am_dg dkX12_heldAt (i := 26) rfl) rfl ?_
        refine aq_getR (am_dg dkX12_heldAt (i := 27) rfl) gk_12_7_82 (rf_82_0 hR) ?_
        refine aq_iconst (v := (5 : Int32)) (am_dg dkX12_heldAt (i := 28) rfl) (by decide) ?_
        obtain ⟨hg11, h⟩ := am_guard h
        refine aq_iald (am_dg dkX12_heldAt (i := 29) rfl) sh_83 hg11 ?_
        by_cases hc12 : q9.1 ≤ (q9.2.1 83 (5 : Int32).toNatClampNeg)
        · rw [if_pos hc12] at h
          refine aq_icT (t := 55) (am_dg dkX12_heldAt (i := 30) rfl) rfl (decide_eq_true hc12) ?_
          refine aq_iconst (v := (0 : Int32)) (am_dg dkX12_heldAt (i := 35) rfl) (by decide) ?_
          exact T_X12_heldAt_82_b56 hR (by omega) ih _ _ _ _ _ _ _ h
        · rw [if_neg hc12] at h
          refine aq_icF (t := 55) (am_dg dkX12_heldAt (i := 30) rfl) rfl (decide_eq_false hc12) ?_
          refine aq_iconst (v := (1 : Int32)) (am_dg dkX12_heldAt (i := 31) rfl) (by decide) ?_
          refine aq_iload_n (am_dg dkX12_heldAt (i := 32) rfl) rfl ?_
          refine aq_ishl (am_dg dkX12_heldAt (i := 33) rfl) ?_
          refine aq_goto (t := 56) (am_dg dkX12_heldAt (i := 34) rfl) rfl ?_
          exact T_X12_heldAt_82_b56 hR (by omega) ih _ _ _ _ _ _ _ h
      · rw [if_neg hc8] at h
        refine aq_ifF (t := 33) (am_dg dkX12_heldAt (i := 18) rfl) rfl (decide_eq_false hc8) ?_
        refine aq_iconst (v := (0 : Int32)) (am_dg dkX12_heldAt (i := 19) rfl) (by decide) ?_
        obtain rfl := Option.some.inj h
        exact aq_ireturn (am_dg dkX12_heldAt (i := 20) rfl) rfl (Or.inl rfl) rfl
set_option maxRecDepth 20000 in
theorem T_X12_heldAt_82 {sc : Option (Nat × (Nat → Int32))} {RF : Nat → Nat → Option Nat} {d : Nat} (hR : am_RFok RF) (hd : 3 ≤ d) {a1 : Int32} {s : am_S} {r : Int32 × am_S} (h : F_X12_heldAt_82 a1 s = some r) : am_Q sc d mX12_heldAt (0, am_L0 mX12_heldAt [.ref 82, .int a1], [], am_hp RF s) (.int r.1, am_hp RF r.2) := by
  obtain ⟨e, rfl⟩ : ∃ e, d = e + 1 := ⟨d - 1, by omega⟩
  unfold F_X12_heldAt_82 at h
  show am_Q _ _ _ (0, [.ref 82, .int a1, .null, .null], [], _) _
  refine aq_iconst (v := (0 : Int32)) (am_dg dkX12_heldAt (i := 0) rfl) (by decide) ?_
  refine aq_istore_n (L1 := [.ref 82, .int a1, .int (0 : Int32), .null]) (am_dg dkX12_heldAt (i := 1) rfl) rfl ?_
  refine aq_iconst (v := (0 : Int32)) (am_dg dkX12_heldAt (i := 2) rfl) (by decide) ?_
  refine aq_istore_n (L1 := [.ref 82, .int a1, .int (0 : Int32), .int (0 : Int32)]) (am_dg dkX12_heldAt (i := 3) rfl) rfl ?_
  exact T_X12_heldAt_82_b4 hR (by omega) _ _ _ _ _ _ h
set_option maxRecDepth 20000 in
theorem T_X12_doneWith_82_b25 {sc : Option (Nat × (Nat → Int32))} {RF : Nat → Nat → Option Nat} {d : Nat} (hR : am_RFok RF) (hd : 5 ≤ d) : ∀ (x1 : Int32) (x2 : Int32) (y0 : Int32) (y1 : Int32) (s : am_S) (r : Int32 × am_S), F_X12_doneWith_82_b25 x1 x2 y0 y1 s = some r → am_Q sc d mX12_doneWith (25, [.ref 82, .int x1, .int x2], [.int y0, .int y1, .ref 83], am_hp RF s) (.int r.1, am_hp RF r.2) := by
  obtain ⟨e, rfl⟩ : ∃ e, d = e + 1 := ⟨d - 1, by omega⟩
  intro x1 x2 y0 y1 s r h
  unfold F_X12_doneWith_82_b25 at h
  obtain ⟨hg1, h⟩ := am_guard h
  refine aq_iast (am_dg dkX12_doneWith (i := 15) rfl) sh_83 hg1 ?_
  obtain ⟨s2, hs3, h⟩ := am_bnd h
  rw [Option.some.inj hs3]
  refine aq_iload_n (am_dg dkX12_doneWith (i := 16) rfl) rfl ?_
  refine aq_iconst (v := (1 : Int32)) (am_dg dkX12_doneWith (i := 17) rfl) (by decide) ?_
  by_cases hc4 : x2 = (1 : Int32)
  · rw [if_pos hc4] at h
    refine aq_icF (t := 35) (am_dg dkX12_doneWith (i := 18) rfl) rfl (decide_eq_false (not_not_intro hc4)) ?_
    refine aq_iconst (v := (1 : Int32)) (am_dg dkX12_doneWith (i := 19) rfl) (by decide) ?_
    refine aq_goto (t := 57) (am_dg dkX12_doneWith (i := 20) rfl) rfl ?_
    obtain rfl := Option.some.inj h
    exact aq_ireturn (am_dg dkX12_doneWith (i := 35) rfl) rfl (Or.inl rfl) rfl
  · rw [if_neg hc4] at h
    refine aq_icT (t := 35) (am_dg dkX12_doneWith (i := 18) rfl) rfl (decide_eq_true hc4) ?_
    refine aq_iload_n (am_dg dkX12_doneWith (i := 21) rfl) rfl ?_
    refine aq_iconst (v := (2 : Int32)) (am_dg dkX12_doneWith (i := 22) rfl) (by decide) ?_
    by_cases hc5 : x2 = (2 : Int32)
    · rw [if_pos hc5] at h
      refine aq_icF (t := 52) (am_dg dkX12_doneWith (i := 23) rfl) rfl (decide_eq_false (not_not_intro hc5)) ?_
      refine aq_aload_n (am_dg dkX12_doneWith (i := 24) rfl) rfl ?_
      refine aq_iload_n (am_dg dkX12_doneWith (i := 25) rfl) rfl ?_
      obtain ⟨q6, hq7, h⟩ := am_bnd h
      refine aq_virt (a := [.ref 82, .int x1]) (S1 := []) (v1 := .int q6.1) (S2 := [.int q6.1]) (am_dg dkX12_doneWith (i := 26) rfl) cv_12_99_12 (am_cls_c sh_82 (by decide)) rfl rfl rfl (Nat.le_of_ble_eq_true rfl) (Nat.le_of_ble_eq_true rfl) (T_X12_price_82 hR (by omega) hq7) rfl ?_
      refine aq_iconst (v := (2 : Int32)) (am_dg dkX12_doneWith (i := 27) rfl) (by decide) ?_
      refine aq_idiv (am_dg dkX12_doneWith (i := 28) rfl) (by decide) ?_
      refine aq_iconst (v := (3 : Int32)) (am_dg dkX12_doneWith (i := 29) rfl) (by decide) ?_
      refine aq_iadd (am_dg dkX12_doneWith (i := 30) rfl) ?_
      refine aq_goto (t := 57) (am_dg dkX12_doneWith (i := 31) rfl) rfl ?_
      obtain rfl := Option.some.inj h
      exact aq_ireturn (am_dg dkX12_doneWith (i := 35) rfl) rfl (Or.inl rfl) rfl
    · rw [if_neg hc5] at h
      refine aq_icT (t := 52) (am_dg dkX12_doneWith (i := 23) rfl) rfl (decide_eq_true hc5) ?_
      refine aq_aload_n (am_dg dkX12_doneWith (i := 32) rfl) rfl ?_
      refine aq_iload_n (am_dg dkX12_doneWith (i := 33) rfl) rfl ?_
      obtain ⟨q8, hq9, h⟩ := am_bnd h
      refine aq_virt (a := [.ref 82, .int x1]) (S1 := []) (v1 := .int q8.1) (S2 := [.int q8.1]) (am_dg dkX12_doneWith (i := 34) rfl) cv_12_99_12 (am_cls_c sh_82 (by decide)) rfl rfl rfl (Nat.le_of_ble_eq_true rfl) (Nat.le_of_ble_eq_true rfl) (T_X12_price_82 hR (by omega) hq9) rfl ?_
      obtain rfl := Option.some.inj h
      exact aq_ireturn (am_dg dkX12_doneWith (i := 35) rfl) rfl (Or.inl rfl) rfl
set_option maxRecDepth 20000 in
theorem T_X12_doneWith_82 {sc : Option (Nat × (Nat → Int32))} {RF : Nat → Nat → Option Nat} {d : Nat} (hR : am_RFok RF) (hd : 5 ≤ d) {a1 : Int32} {s : am_S} {r : Int32 × am_S} (h : F_X12_doneWith_82 a1 s = some r) : am_Q sc d mX12_doneWith (0, am_L0 mX12_doneWith [.ref 82, .int a1], [], am_hp RF s) (.int r.1, am_hp RF r.2) := by
  obtain ⟨e, rfl⟩ : ∃ e, d = e + 1 := ⟨d - 1, by omega⟩
  unfold F_X12_doneWith_82 at h
  show am_Q _ _ _ (0, [.ref 82, .int a1, .null], [], _) _
  refine aq_aload_n (am_dg dkX12_doneWith (i := 0) rfl) rfl ?_
  refine aq_iload_n (am_dg dkX12_doneWith (i := 1) rfl) rfl ?_
  obtain ⟨q1, hq2, h⟩ := am_bnd h
  refine aq_virt (a := [.ref 82, .int a1]) (S1 := []) (v1 := .int q1.1) (S2 := [.int q1.1]) (am_dg dkX12_doneWith (i := 2) rfl) cv_12_105_12 (am_cls_c sh_82 (by decide)) rfl rfl rfl (Nat.le_of_ble_eq_true rfl) (Nat.le_of_ble_eq_true rfl) (T_X12_will_82 hR (by omega) hq2) rfl ?_
  refine aq_istore_n (L1 := [.ref 82, .int a1, .int q1.1]) (am_dg dkX12_doneWith (i := 3) rfl) rfl ?_
  refine aq_aload_n (am_dg dkX12_doneWith (i := 4) rfl) rfl ?_
  refine aq_getR (am_dg dkX12_doneWith (i := 5) rfl) gk_12_7_82 (rf_82_0 hR) ?_
  refine aq_iload_n (am_dg dkX12_doneWith (i := 6) rfl) rfl ?_
  refine aq_iconst (v := (4 : Int32)) (am_dg dkX12_doneWith (i := 7) rfl) (by decide) ?_
  obtain ⟨q3, hq4, h⟩ := am_bnd h
  refine aq_static (a := [.int a1, .int (4 : Int32)]) (S1 := [.ref 83]) (v1 := .int q3.1) (S2 := [.int q3.1, .ref 83]) (am_dg dkX12_doneWith (i := 8) rfl) ct_12_65 rfl rfl rfl (Nat.le_of_ble_eq_true rfl) (Nat.le_of_ble_eq_true rfl) (T_X12_at hR (by omega) hq4) rfl ?_
  refine aq_iload_n (am_dg dkX12_doneWith (i := 9) rfl) rfl ?_
  refine aq_iconst (v := (1 : Int32)) (am_dg dkX12_doneWith (i := 10) rfl) (by decide) ?_
  by_cases hc5 : q1.1 = (1 : Int32)
  · rw [if_pos hc5] at h
    refine aq_icF (t := 24) (am_dg dkX12_doneWith (i := 11) rfl) rfl (decide_eq_false (not_not_intro hc5)) ?_
    refine aq_iconst (v := (0 : Int32)) (am_dg dkX12_doneWith (i := 12) rfl) (by decide) ?_
    refine aq_goto (t := 25) (am_dg dkX12_doneWith (i := 13) rfl) rfl ?_
    exact T_X12_doneWith_82_b25 hR (by omega) _ _ _ _ _ _ h
  · rw [if_neg hc5] at h
    refine aq_icT (t := 24) (am_dg dkX12_doneWith (i := 11) rfl) rfl (decide_eq_true hc5) ?_
    refine aq_iconst (v := (1 : Int32)) (am_dg dkX12_doneWith (i := 14) rfl) (by decide) ?_
    exact T_X12_doneWith_82_b25 hR (by omega) _ _ _ _ _ _ h
set_option maxRecDepth 20000 in
theorem T_X12_goes_82_b61 {sc : Option (Nat × (Nat → Int32))} {RF : Nat → Nat → Option Nat} {d : Nat} (hR : am_RFok RF) (hd : 6 ≤ d) {k2 : Int32 → Int32 → am_S → Option (Int32 × am_S)} (hk2 : ∀ (x1 : Int32) (x2 : Int32) (w3 : Value) (w4 : Value) (w5 : Value) (s2 : am_S) (r2 : Int32 × am_S), k2 x1 x2 s2 = some r2 → am_Q sc d mX12_goes (2, [.ref 82, .int x1, .int x2, w3, w4, w5], [], am_hp RF s2) (.int r2.1, am_hp RF r2.2)) : ∀ (x1 : Int32) (x2 : Int32) (y0 : Int32) (y1 : Int32) (w3 : Value) (w4 : Value) (w5 : Value) (s : am_S) (r : Int32 × am_S), F_X12_goes_82_b61 k2 x1 x2 y0 y1 s = some r → am_Q sc d mX12_goes (61, [.ref 82, .int x1, .int x2, w3, w4, w5], [.int y0, .int y1, .ref 83], am_hp RF s) (.int r.1, am_hp RF r.2) := by
  obtain ⟨e, rfl⟩ : ∃ e, d = e + 1 := ⟨d - 1, by omega⟩
  intro x1 x2 y0 y1 w3 w4 w5 s r h
  unfold F_X12_goes_82_b61 at h
  obtain ⟨hg1, h⟩ := am_guard h
  refine aq_iast (am_dg dkX12_goes (i := 37) rfl) sh_83 hg1 ?_
  obtain ⟨s2, hs3, h⟩ := am_bnd h
  rw [Option.some.inj hs3]
  refine aq_iinc (v := (1 : Int32)) (L1 := [.ref 82, .int x1, .int (x2 + (1 : Int32)), w3, w4, w5]) (am_dg dkX12_goes (i := 38) rfl) rfl (by decide) rfl ?_
  refine aq_goto (t := 2) (am_dg dkX12_goes (i := 39) rfl) rfl ?_
  exact hk2 _ _ _ _ _ _ _ h
set_option maxRecDepth 20000 in
theorem T_X12_goes_82_b149 {sc : Option (Nat × (Nat → Int32))} {RF : Nat → Nat → Option Nat} {d : Nat} (hR : am_RFok RF) (hd : 6 ≤ d) {k116 : Int32 → Int32 → Int32 → am_S → Option (Int32 × am_S)} (hk116 : ∀ (x3 : Int32) (x4 : Int32) (x5 : Int32) (w1 : Value) (w2 : Value) (s2 : am_S) (r2 : Int32 × am_S), k116 x3 x4 x5 s2 = some r2 → am_Q sc d mX12_goes (116, [.ref 82, w1, w2, .int x3, .int x4, .int x5], [], am_hp RF s2) (.int r2.1, am_hp RF r2.2)) : ∀ (x3 : Int32) (x5 : Int32) (y0 : Int32) (y1 : Int32) (w1 : Value) (w2 : Value) (w4 : Value) (s : am_S) (r : Int32 × am_S), F_X12_goes_82_b149 k116 x3 x5 y0 y1 s = some r → am_Q sc d mX12_goes (149, [.ref 82, w1, w2, .int x3, w4, .int x5], [.int y0, .int y1], am_hp RF s) (.int r.1, am_hp RF r.2) := by
  obtain ⟨e, rfl⟩ : ∃ e, d = e + 1 := ⟨d - 1, by omega⟩
  intro x3 x5 y0 y1 w1 w2 w4 s r h
  unfold F_X12_goes_82_b149 at h
  refine aq_iadd (am_dg dkX12_goes (i := 89) rfl) ?_
  refine aq_istore (L1 := [.ref 82, w1, w2, .int x3, .int (y1 + y0), .int x5]) (am_dg dkX12_goes (i := 90) rfl) rfl ?_
  refine aq_iinc (v := (1 : Int32)) (L1 := [.ref 82, w1, w2, .int x3, .int (y1 + y0), .int (x5 + (1 : Int32))]) (am_dg dkX12_goes (i := 91) rfl) rfl (by decide) rfl ?_
  refine aq_goto (t := 116) (am_dg dkX12_goes (i := 92) rfl) rfl ?_
  exact hk116 _ _ _ _ _ _ _ h
set_option maxRecDepth 20000 in
theorem T_X12_goes_82_b116 {sc : Option (Nat × (Nat → Int32))} {RF : Nat → Nat → Option Nat} {d : Nat} (hR : am_RFok RF) (hd : 6 ≤ d) : ∀ (n : Nat) (x3 : Int32) (x4 : Int32) (x5 : Int32) (w1 : Value) (w2 : Value) (s : am_S) (r : Int32 × am_S), F_X12_goes_82_b116 n x3 x4 x5 s = some r → am_Q sc d mX12_goes (116, [.ref 82, w1, w2, .int x3, .int x4, .int x5], [], am_hp RF s) (.int r.1, am_hp RF r.2) := by
  obtain ⟨e, rfl⟩ : ∃ e, d = e + 1 := ⟨d - 1, by omega⟩
  intro n
  induction n with
  | zero => intro x3 x4 x5 w1 w2 s r h; rw [F_X12_goes_82_b116] at h; cases h
  | succ n ih =>
  intro x3 x4 x5 w1 w2 s r h
  rw [F_X12_goes_82_b116] at h
  refine aq_iload (am_dg dkX12_goes (i := 70) rfl) rfl ?_
  refine aq_aload_n (am_dg dkX12_goes (i := 71) rfl) rfl ?_
  refine aq_getR (am_dg dkX12_goes (i := 72) rfl) gk_12_7_82 (rf_82_0 hR) ?_
  refine aq_iconst (v := (0 : Int32)) (am_dg dkX12_goes (i := 73) rfl) (by decide) ?_
  obtain ⟨hg1, h⟩ := am_guard h
  refine aq_iald (am_dg dkX12_goes (i := 74) rfl) sh_83 hg1 ?_
  by_cases hc2 : (s.1 83 (0 : Int32).toNatClampNeg) ≤ x5
  · rw [if_pos hc2] at h
    refine aq_icT (t := 158) (am_dg dkX12_goes (i := 75) rfl) rfl (decide_eq_true hc2) ?_
    refine aq_aload_n (am_dg dkX12_goes (i := 93) rfl) rfl ?_
    refine aq_getR (am_dg dkX12_goes (i := 94) rfl) gk_12_7_82 (rf_82_0 hR) ?_
    refine aq_iconst (v := (4 : Int32)) (am_dg dkX12_goes (i := 95) rfl) (by decide) ?_
    refine aq_dup2 (am_dg dkX12_goes (i := 96) rfl) rfl rfl ?_
    obtain ⟨hg3, h⟩ := am_guard h
    refine aq_iald (am_dg dkX12_goes (i := 97) rfl) sh_83 hg3 ?_
    refine aq_iload (am_dg dkX12_goes (i := 98) rfl) rfl ?_
    refine aq_iadd (am_dg dkX12_goes (i := 99) rfl) ?_
    obtain ⟨hg4, h⟩ := am_guard h
    refine aq_iast (am_dg dkX12_goes (i := 100) rfl) sh_83 hg4 ?_
    obtain ⟨s5, hs6, h⟩ := am_bnd h
    rw [Option.some.inj hs6]
    refine aq_aload_n (am_dg dkX12_goes (i := 101) rfl) rfl ?_
    refine aq_getR (am_dg dkX12_goes (i := 102) rfl) gk_12_7_82 (rf_82_0 hR) ?_
    refine aq_iconst (v := (3 : Int32)) (am_dg dkX12_goes (i := 103) rfl) (by decide) ?_
    refine aq_dup2 (am_dg dkX12_goes (i := 104) rfl) rfl rfl ?_
    obtain ⟨hg7, h⟩ := am_guard h
    refine aq_iald (am_dg dkX12_goes (i := 105) rfl) sh_83 hg7 ?_
    refine aq_iconst (v := (1 : Int32)) (am_dg dkX12_goes (i := 106) rfl) (by decide) ?_
    refine aq_iadd (am_dg dkX12_goes (i := 107) rfl) ?_
    obtain ⟨hg8, h⟩ := am_guard h
    refine aq_iast (am_dg dkX12_goes (i := 108) rfl) sh_83 hg8 ?_
    obtain ⟨s9, hs10, h⟩ := am_bnd h
    rw [Option.some.inj hs10]
    refine aq_iload (am_dg dkX12_goes (i := 109) rfl) rfl ?_
    obtain rfl := Option.some.inj h
    exact aq_ireturn (am_dg dkX12_goes (i := 110) rfl) rfl (Or.inl rfl) rfl
  · rw [if_neg hc2] at h
    refine aq_icF (t := 158) (am_dg dkX12_goes (i := 75) rfl) rfl (decide_eq_false hc2) ?_
    refine aq_iload (am_dg dkX12_goes (i := 76) rfl) rfl ?_
    refine aq_iload_n (am_dg dkX12_goes (i := 77) rfl) rfl ?_
    refine aq_iload (am_dg dkX12_goes (i := 78) rfl) rfl ?_
    refine aq_ishr (am_dg dkX12_goes (i := 79) rfl) ?_
    refine aq_iconst (v := (1 : Int32)) (am_dg dkX12_goes (i := 80) rfl) (by decide) ?_
    refine aq_iand (am_dg dkX12_goes (i := 81) rfl) ?_
    refine aq_iconst (v := (1 : Int32)) (am_dg dkX12_goes (i := 82) rfl) (by decide) ?_
    by_cases hc11 : ((x3 >>> (x5 &&& 31)) &&& (1 : Int32)) = (1 : Int32)
    · rw [if_pos hc11] at h
      refine aq_icF (t := 148) (am_dg dkX12_goes (i := 83) rfl) rfl (decide_eq_false (not_not_intro hc11)) ?_
      refine aq_aload_n (am_dg dkX12_goes (i := 84) rfl) rfl ?_
      refine aq_iload (am_dg dkX12_goes (i := 85) rfl) rfl ?_
      obtain ⟨q12, hq13, h⟩ := am_bnd h
      refine aq_virt (a := [.ref 82, .int x5]) (S1 := [.int x4]) (v1 := .int q12.1) (S2 := [.int q12.1, .int x4]) (am_dg dkX12_goes (i := 86) rfl) cv_12_153_12 (am_cls_c sh_82 (by decide)) rfl rfl rfl (Nat.le_of_ble_eq_true rfl) (Nat.le_of_ble_eq_true rfl) (T_X12_doneWith_82 hR (by omega) hq13) rfl ?_
      refine aq_goto (t := 149) (am_dg dkX12_goes (i := 87) rfl) rfl ?_
      exact T_X12_goes_82_b149 hR (by omega) ih _ _ _ _ _ _ _ _ _ h
    · rw [if_neg hc11] at h
      refine aq_icT (t := 148) (am_dg dkX12_goes (i := 83) rfl) rfl (decide_eq_true hc11) ?_
      refine aq_iconst (v := (0 : Int32)) (am_dg dkX12_goes (i := 88) rfl) (by decide) ?_
      exact T_X12_goes_82_b149 hR (by omega) ih _ _ _ _ _ _ _ _ _ h
set_option maxRecDepth 20000 in
theorem T_X12_goes_82_b109 {sc : Option (Nat × (Nat → Int32))} {RF : Nat → Nat → Option Nat} {d : Nat} (hR : am_RFok RF) (hd : 6 ≤ d) : ∀ (x2 : Int32) (y0 : Int32) (w1 : Value) (w3 : Value) (w4 : Value) (w5 : Value) (s : am_S) (r : Int32 × am_S), F_X12_goes_82_b109 x2 y0 s = some r → am_Q sc d mX12_goes (109, [.ref 82, w1, .int x2, w3, w4, w5], [.int y0], am_hp RF s) (.int r.1, am_hp RF r.2) := by
  obtain ⟨e, rfl⟩ : ∃ e, d = e + 1 := ⟨d - 1, by omega⟩
  intro x2 y0 w1 w3 w4 w5 s r h
  unfold F_X12_goes_82_b109 at h
  refine aq_istore_n (L1 := [.ref 82, w1, .int x2, .int y0, w4, w5]) (am_dg dkX12_goes (i := 65) rfl) rfl ?_
  refine aq_iconst (v := (0 : Int32)) (am_dg dkX12_goes (i := 66) rfl) (by decide) ?_
  refine aq_istore (L1 := [.ref 82, w1, .int x2, .int y0, .int (0 : Int32), w5]) (am_dg dkX12_goes (i := 67) rfl) rfl ?_
  refine aq_iconst (v := (0 : Int32)) (am_dg dkX12_goes (i := 68) rfl) (by decide) ?_
  refine aq_istore (L1 := [.ref 82, w1, .int x2, .int y0, .int (0 : Int32), .int (0 : Int32)]) (am_dg dkX12_goes (i := 69) rfl) rfl ?_
  exact T_X12_goes_82_b116 hR (by omega) _ _ _ _ _ _ _ _ h
set_option maxRecDepth 20000 in
theorem T_X12_goes_82_b88 {sc : Option (Nat × (Nat → Int32))} {RF : Nat → Nat → Option Nat} {d : Nat} (hR : am_RFok RF) (hd : 6 ≤ d) : ∀ (x1 : Int32) (y0 : Int32) (w2 : Value) (w3 : Value) (w4 : Value) (w5 : Value) (s : am_S) (r : Int32 × am_S), F_X12_goes_82_b88 x1 y0 s = some r → am_Q sc d mX12_goes (88, [.ref 82, .int x1, w2, w3, w4, w5], [.int y0], am_hp RF s) (.int r.1, am_hp RF r.2) := by
  obtain ⟨e, rfl⟩ : ∃ e, d = e + 1 := ⟨d - 1, by omega⟩
  intro x1 y0 w2 w3 w4 w5 s r h
  unfold F_X12_goes_82_b88 at h
  refine aq_istore_n (L1 := [.ref 82, .int x1, .int y0, w3, w4, w5]) (am_dg dkX12_goes (i := 52) rfl) rfl ?_
  refine aq_iload_n (am_dg dkX12_goes (i := 53) rfl) rfl ?_
  by_cases hc1 : y0 = (0 : Int32)
  · rw [if_pos hc1] at h
    refine aq_ifT (t := 108) (am_dg dkX12_goes (i := 54) rfl) rfl (decide_eq_true hc1) ?_
    refine aq_iconst (v := (0 : Int32)) (am_dg dkX12_goes (i := 64) rfl) (by decide) ?_
    exact T_X12_goes_82_b109 hR (by omega) _ _ _ _ _ _ _ _ h
  · rw [if_neg hc1] at h
    refine aq_ifF (t := 108) (am_dg dkX12_goes (i := 54) rfl) rfl (decide_eq_false hc1) ?_
    refine aq_aload_n (am_dg dkX12_goes (i := 55) rfl) rfl ?_
    refine aq_aload_n (am_dg dkX12_goes (i := 56) rfl) rfl ?_
    refine aq_iload_n (am_dg dkX12_goes (i := 57) rfl) rfl ?_
    refine aq_iconst (v := (1 : Int32)) (am_dg dkX12_goes (i := 58) rfl) (by decide) ?_
    refine aq_isub (am_dg dkX12_goes (i := 59) rfl) ?_
    refine aq_iconst (v := (3 : Int32)) (am_dg dkX12_goes (i := 60) rfl) (by decide) ?_
    obtain ⟨q2, hq3, h⟩ := am_bnd h
    refine aq_virt (a := [.ref 82, .int (x1 - (1 : Int32)), .int (3 : Int32)]) (S1 := [.ref 82]) (v1 := .int q2.1) (S2 := [.int q2.1, .ref 82]) (am_dg dkX12_goes (i := 61) rfl) cv_12_83_12 (am_cls_c sh_82 (by decide)) rfl rfl rfl (Nat.le_of_ble_eq_true rfl) (Nat.le_of_ble_eq_true rfl) (T_X12_its_82 hR (by omega) hq3) rfl ?_
    obtain ⟨q4, hq5, h⟩ := am_bnd h
    refine aq_virt (a := [.ref 82, .int q2.1]) (S1 := []) (v1 := .int q4.1) (S2 := [.int q4.1]) (am_dg dkX12_goes (i := 62) rfl) cv_12_150_12 (am_cls_c sh_82 (by decide)) rfl rfl rfl (Nat.le_of_ble_eq_true rfl) (Nat.le_of_ble_eq_true rfl) (T_X12_heldAt_82 hR (by omega) hq5) rfl ?_
    refine aq_goto (t := 109) (am_dg dkX12_goes (i := 63) rfl) rfl ?_
    exact T_X12_goes_82_b109 hR (by omega) _ _ _ _ _ _ _ _ h
set_option maxRecDepth 20000 in
theorem T_X12_goes_82_b87 {sc : Option (Nat × (Nat → Int32))} {RF : Nat → Nat → Option Nat} {d : Nat} (hR : am_RFok RF) (hd : 6 ≤ d) : ∀ (x1 : Int32) (w2 : Value) (w3 : Value) (w4 : Value) (w5 : Value) (s : am_S) (r : Int32 × am_S), F_X12_goes_82_b87 x1 s = some r → am_Q sc d mX12_goes (87, [.ref 82, .int x1, w2, w3, w4, w5], [], am_hp RF s) (.int r.1, am_hp RF r.2) := by
  obtain ⟨e, rfl⟩ : ∃ e, d = e + 1 := ⟨d - 1, by omega⟩
  intro x1 w2 w3 w4 w5 s r h
  unfold F_X12_goes_82_b87 at h
  refine aq_iconst (v := (0 : Int32)) (am_dg dkX12_goes (i := 51) rfl) (by decide) ?_
  exact T_X12_goes_82_b88 hR (by omega) _ _ _ _ _ _ _ _ h
set_option maxRecDepth 20000 in
theorem T_X12_goes_82_b2 {sc : Option (Nat × (Nat → Int32))} {RF : Nat → Nat → Option Nat} {d : Nat} (hR : am_RFok RF) (hd : 6 ≤ d) : ∀ (n : Nat) (x1 : Int32) (x2 : Int32) (w3 : Value) (w4 : Value) (w5 : Value) (s : am_S) (r : Int32 × am_S), F_X12_goes_82_b2 n x1 x2 s = some r → am_Q sc d mX12_goes (2, [.ref 82, .int x1, .int x2, w3, w4, w5], [], am_hp RF s) (.int r.1, am_hp RF r.2) := by
  obtain ⟨e, rfl⟩ : ∃ e, d = e + 1 := ⟨d - 1, by omega⟩
  intro n
  induction n with
  | zero => intro x1 x2 w3 w4 w5 s r h; rw [F_X12_goes_82_b2] at h; cases h
  | succ n ih =>
  intro x1 x2 w3 w4 w5 s r h
  rw [F_X12_goes_82_b2] at h
  refine aq_iload_n (am_dg dkX12_goes (i := 2) rfl) rfl ?_
  refine aq_aload_n (am_dg dkX12_goes (i := 3) rfl) rfl ?_
  refine aq_getR (am_dg dkX12_goes (i := 4) rfl) gk_12_7_82 (rf_82_0 hR) ?_
  refine aq_iconst (v := (0 : Int32)) (am_dg dkX12_goes (i := 5) rfl) (by decide) ?_
  obtain ⟨hg1, h⟩ := am_guard h
  refine aq_iald (am_dg dkX12_goes (i := 6) rfl) sh_83 hg1 ?_
  by_cases hc2 : (s.1 83 (0 : Int32).toNatClampNeg) ≤ x2
  · rw [if_pos hc2] at h
    refine aq_icT (t := 68) (am_dg dkX12_goes (i := 7) rfl) rfl (decide_eq_true hc2) ?_
    refine aq_iload_n (am_dg dkX12_goes (i := 40) rfl) rfl ?_
    by_cases hc3 : x1 ≤ (0 : Int32)
    · rw [if_pos hc3] at h
      refine aq_ifT (t := 87) (am_dg dkX12_goes (i := 41) rfl) rfl (decide_eq_true hc3) ?_
      exact T_X12_goes_82_b87 hR (by omega) _ _ _ _ _ _ _ h
    · rw [if_neg hc3] at h
      refine aq_ifF (t := 87) (am_dg dkX12_goes (i := 41) rfl) rfl (decide_eq_false hc3) ?_
      refine aq_aload_n (am_dg dkX12_goes (i := 42) rfl) rfl ?_
      refine aq_iload_n (am_dg dkX12_goes (i := 43) rfl) rfl ?_
      refine aq_iconst (v := (1 : Int32)) (am_dg dkX12_goes (i := 44) rfl) (by decide) ?_
      refine aq_isub (am_dg dkX12_goes (i := 45) rfl) ?_
      refine aq_iconst (v := (4 : Int32)) (am_dg dkX12_goes (i := 46) rfl) (by decide) ?_
      obtain ⟨q4, hq5, h⟩ := am_bnd h
      refine aq_virt (a := [.ref 82, .int (x1 - (1 : Int32)), .int (4 : Int32)]) (S1 := []) (v1 := .int q4.1) (S2 := [.int q4.1]) (am_dg dkX12_goes (i := 47) rfl) cv_12_83_12 (am_cls_c sh_82 (by decide)) rfl rfl rfl (Nat.le_of_ble_eq_true rfl) (Nat.le_of_ble_eq_true rfl) (T_X12_its_82 hR (by omega) hq5) rfl ?_
      by_cases hc6 : q4.1 = (0 : Int32)
      · rw [if_pos hc6] at h
        refine aq_ifF (t := 87) (am_dg dkX12_goes (i := 48) rfl) rfl (decide_eq_false (not_not_intro hc6)) ?_
        refine aq_iconst (v := (1 : Int32)) (am_dg dkX12_goes (i := 49) rfl) (by decide) ?_
        refine aq_goto (t := 88) (am_dg dkX12_goes (i := 50) rfl) rfl ?_
        exact T_X12_goes_82_b88 hR (by omega) _ _ _ _ _ _ _ _ h
      · rw [if_neg hc6] at h
        refine aq_ifT (t := 87) (am_dg dkX12_goes (i := 48) rfl) rfl (decide_eq_true hc6) ?_
        exact T_X12_goes_82_b87 hR (by omega) _ _ _ _ _ _ _ h
  · rw [if_neg hc2] at h
    refine aq_icF (t := 68) (am_dg dkX12_goes (i := 7) rfl) rfl (decide_eq_false hc2) ?_
    refine aq_aload_n (am_dg dkX12_goes (i := 8) rfl) rfl ?_
    refine aq_getR (am_dg dkX12_goes (i := 9) rfl) gk_12_7_82 (rf_82_0 hR) ?_
    refine aq_iload_n (am_dg dkX12_goes (i := 10) rfl) rfl ?_
    refine aq_iconst (v := (3 : Int32)) (am_dg dkX12_goes (i := 11) rfl) (by decide) ?_
    obtain ⟨q7, hq8, h⟩ := am_bnd h
    refine aq_static (a := [.int x2, .int (3 : Int32)]) (S1 := [.ref 83]) (v1 := .int q7.1) (S2 := [.int q7.1, .ref 83]) (am_dg dkX12_goes (i := 12) rfl) ct_12_65 rfl rfl rfl (Nat.le_of_ble_eq_true rfl) (Nat.le_of_ble_eq_true rfl) (T_X12_at hR (by omega) hq8) rfl ?_
    refine aq_aload_n (am_dg dkX12_goes (i := 13) rfl) rfl ?_
    refine aq_iload_n (am_dg dkX12_goes (i := 14) rfl) rfl ?_
    refine aq_iconst (v := (4 : Int32)) (am_dg dkX12_goes (i := 15) rfl) (by decide) ?_
    obtain ⟨q9, hq10, h⟩ := am_bnd h
    refine aq_virt (a := [.ref 82, .int x2, .int (4 : Int32)]) (S1 := [.int q7.1, .ref 83]) (v1 := .int q9.1) (S2 := [.int q9.1, .int q7.1, .ref 83]) (am_dg dkX12_goes (i := 16) rfl) cv_12_83_12 (am_cls_c sh_82 (by decide)) rfl rfl rfl (Nat.le_of_ble_eq_true rfl) (Nat.le_of_ble_eq_true rfl) (T_X12_its_82 hR (by omega) hq10) rfl ?_
    refine aq_iconst (v := (1 : Int32)) (am_dg dkX12_goes (i := 17) rfl) (by decide) ?_
    by_cases hc11 : q9.1 = (1 : Int32)
    · rw [if_pos hc11] at h
      refine aq_icF (t := 40) (am_dg dkX12_goes (i := 18) rfl) rfl (decide_eq_false (not_not_intro hc11)) ?_
      refine aq_aload_n (am_dg dkX12_goes (i := 19) rfl) rfl ?_
      refine aq_iload_n (am_dg dkX12_goes (i := 20) rfl) rfl ?_
      refine aq_iconst (v := (3 : Int32)) (am_dg dkX12_goes (i := 21) rfl) (by decide) ?_
      obtain ⟨q12, hq13, h⟩ := am_bnd h
      refine aq_virt (a := [.ref 82, .int x2, .int (3 : Int32)]) (S1 := [.int q7.1, .ref 83]) (v1 := .int q12.1) (S2 := [.int q12.1, .int q7.1, .ref 83]) (am_dg dkX12_goes (i := 22) rfl) cv_12_83_12 (am_cls_c sh_82 (by decide)) rfl rfl rfl (Nat.le_of_ble_eq_true rfl) (Nat.le_of_ble_eq_true rfl) (T_X12_its_82 hR (by omega) hq13) rfl ?_
      refine aq_goto (t := 61) (am_dg dkX12_goes (i := 23) rfl) rfl ?_
      exact T_X12_goes_82_b61 hR (by omega) ih _ _ _ _ _ _ _ _ _ h
    · rw [if_neg hc11] at h
      refine aq_icT (t := 40) (am_dg dkX12_goes (i := 18) rfl) rfl (decide_eq_true hc11) ?_
      refine aq_aload_n (am_dg dkX12_goes (i := 24) rfl) rfl ?_
      refine aq_aload_n (am_dg dkX12_goes (i := 25) rfl) rfl ?_
      refine aq_iload_n (am_dg dkX12_goes (i := 26) rfl) rfl ?_
      refine aq_iconst (v := (3 : Int32)) (am_dg dkX12_goes (i := 27) rfl) (by decide) ?_
      obtain ⟨q14, hq15, h⟩ := am_bnd h
      refine aq_virt (a := [.ref 82, .int x2, .int (3 : Int32)]) (S1 := [.ref 82, .int q7.1, .ref 83]) (v1 := .int q14.1) (S2 := [.int q14.1, .ref 82, .int q7.1, .ref 83]) (am_dg dkX12_goes (i := 28) rfl) cv_12_83_12 (am_cls_c sh_82 (by decide)) rfl rfl rfl (Nat.le_of_ble_eq_true rfl) (Nat.le_of_ble_eq_true rfl) (T_X12_its_82 hR (by omega) hq15) rfl ?_
      refine aq_aload_n (am_dg dkX12_goes (i := 29) rfl) rfl ?_
      refine aq_iload_n (am_dg dkX12_goes (i := 30) rfl) rfl ?_
      obtain ⟨q16, hq17, h⟩ := am_bnd h
      refine aq_virt (a := [.ref 82, .int x2]) (S1 := [.int q14.1, .ref 82, .int q7.1, .ref 83]) (v1 := .int q16.1) (S2 := [.int q16.1, .int q14.1, .ref 82, .int q7.1, .ref 83]) (am_dg dkX12_goes (i := 31) rfl) cv_12_95_12 (am_cls_c sh_82 (by decide)) rfl rfl rfl (Nat.le_of_ble_eq_true rfl) (Nat.le_of_ble_eq_true rfl) (T_X12_drifts_82 hR (by omega) hq17) rfl ?_
      refine aq_aload_n (am_dg dkX12_goes (i := 32) rfl) rfl ?_
      refine aq_getR (am_dg dkX12_goes (i := 33) rfl) gk_12_7_82 (rf_82_0 hR) ?_
      refine aq_iconst (v := (3 : Int32)) (am_dg dkX12_goes (i := 34) rfl) (by decide) ?_
      obtain ⟨hg18, h⟩ := am_guard h
      refine aq_iald (am_dg dkX12_goes (i := 35) rfl) sh_83 hg18 ?_
      obtain ⟨q19, hq20, h⟩ := am_bnd h
      refine aq_virt (a := [.ref 82, .int q14.1, .int q16.1, .int (q16.2.1 83 (3 : Int32).toNatClampNeg)]) (S1 := [.int q7.1, .ref 83]) (v1 := .int q19.1) (S2 := [.int q19.1, .int q7.1, .ref 83]) (am_dg dkX12_goes (i := 36) rfl) cv_12_147_12 (am_cls_c sh_82 (by decide)) rfl rfl rfl (Nat.le_of_ble_eq_true rfl) (Nat.le_of_ble_eq_true rfl) (T_X12_driftsTo_82 hR (by omega) hq20) rfl ?_
      exact T_X12_goes_82_b61 hR (by omega) ih _ _ _ _ _ _ _ _ _ h
set_option maxRecDepth 20000 in
theorem T_X12_goes_82 {sc : Option (Nat × (Nat → Int32))} {RF : Nat → Nat → Option Nat} {d : Nat} (hR : am_RFok RF) (hd : 6 ≤ d) {a1 : Int32} {s : am_S} {r : Int32 × am_S} (h : F_X12_goes_82 a1 s = some r) : am_Q sc d mX12_goes (0, am_L0 mX12_goes [.ref 82, .int a1], [], am_hp RF s) (.int r.1, am_hp RF r.2) := by
  obtain ⟨e, rfl⟩ : ∃ e, d = e + 1 := ⟨d - 1, by omega⟩
  unfold F_X12_goes_82 at h
  show am_Q _ _ _ (0, [.ref 82, .int a1, .null, .null, .null, .null], [], _) _
  refine aq_iconst (v := (0 : Int32)) (am_dg dkX12_goes (i := 0) rfl) (by decide) ?_
  refine aq_istore_n (L1 := [.ref 82, .int a1, .int (0 : Int32), .null, .null, .null]) (am_dg dkX12_goes (i := 1) rfl) rfl ?_
  exact T_X12_goes_82_b2 hR (by omega) _ _ _ _ _ _ _ _ h
set_option maxRecDepth 20000 in
theorem T_X12_turn_82 {sc : Option (Nat × (Nat → Int32))} {RF : Nat → Nat → Option Nat} {d : Nat} (hR : am_RFok RF) (hd : 7 ≤ d) {s : am_S} {r : Int32 × am_S} (h : F_X12_turn_82 s = some r) : am_Q sc d mX12_turn (0, am_L0 mX12_turn [.ref 82], [], am_hp RF s) (.int r.1, am_hp RF r.2) := by
  obtain ⟨e, rfl⟩ : ∃ e, d = e + 1 := ⟨d - 1, by omega⟩
  unfold F_X12_turn_82 at h
  show am_Q _ _ _ (0, [.ref 82], [], _) _
  refine aq_aload_n (am_dg dkX12_turn (i := 0) rfl) rfl ?_
  obtain ⟨q1, hq2, h⟩ := am_bnd h
  refine aq_virt (a := [.ref 82]) (S1 := []) (v1 := .int q1.1) (S2 := [.int q1.1]) (am_dg dkX12_turn (i := 1) rfl) cv_12_118_12 (am_cls_c sh_82 (by decide)) rfl rfl rfl (Nat.le_of_ble_eq_true rfl) (Nat.le_of_ble_eq_true rfl) (T_X12_isOver_82 hR (by omega) hq2) rfl ?_
  by_cases hc3 : q1.1 = (0 : Int32)
  · rw [if_pos hc3] at h
    refine aq_ifT (t := 12) (am_dg dkX12_turn (i := 2) rfl) rfl (decide_eq_true hc3) ?_
    refine aq_aload_n (am_dg dkX12_turn (i := 5) rfl) rfl ?_
    refine aq_aload_n (am_dg dkX12_turn (i := 6) rfl) rfl ?_
    obtain ⟨q4, hq5, h⟩ := am_bnd h
    refine aq_virt (a := [.ref 82]) (S1 := [.ref 82]) (v1 := .int q4.1) (S2 := [.int q4.1, .ref 82]) (am_dg dkX12_turn (i := 7) rfl) cv_12_156_12 (am_cls_c sh_82 (by decide)) rfl rfl rfl (Nat.le_of_ble_eq_true rfl) (Nat.le_of_ble_eq_true rfl) (T_X12_leastAct_82 hR (by omega) hq5) rfl ?_
    obtain ⟨q6, hq7, h⟩ := am_bnd h
    refine aq_virt (a := [.ref 82, .int q4.1]) (S1 := []) (v1 := .int q6.1) (S2 := [.int q6.1]) (am_dg dkX12_turn (i := 8) rfl) cv_12_159_12 (am_cls_c sh_82 (by decide)) rfl rfl rfl (Nat.le_of_ble_eq_true rfl) (Nat.le_of_ble_eq_true rfl) (T_X12_goes_82 hR (by omega) hq7) rfl ?_
    obtain rfl := Option.some.inj h
    exact aq_ireturn (am_dg dkX12_turn (i := 9) rfl) rfl (Or.inl rfl) rfl
  · rw [if_neg hc3] at h
    refine aq_ifF (t := 12) (am_dg dkX12_turn (i := 2) rfl) rfl (decide_eq_false hc3) ?_
    refine aq_bipush (v := (-4 : Int32)) (am_dg dkX12_turn (i := 3) rfl) (by decide) ?_
    refine aq_goto (t := 20) (am_dg dkX12_turn (i := 4) rfl) rfl ?_
    obtain rfl := Option.some.inj h
    exact aq_ireturn (am_dg dkX12_turn (i := 9) rfl) rfl (Or.inl rfl) rfl
set_option maxRecDepth 20000 in
theorem T_X8_saveTo_8_51 {sc : Option (Nat × (Nat → Int32))} {RF : Nat → Nat → Option Nat} {d : Nat} (hR : am_RFok RF) (hd : 0 ≤ d) {s : am_S} {r : am_S} (h : F_X8_saveTo_8_51 s = some r) : am_Q sc d mX8_saveTo (0, am_L0 mX8_saveTo [.ref 8, .ref 51], [], am_hp RF s) (.null, am_hp RF r) := by
  unfold F_X8_saveTo_8_51 at h
  show am_Q _ _ _ (0, [.ref 8, .ref 51], [], _) _
  refine aq_aload_n (am_dg dkX8_saveTo (i := 0) rfl) rfl ?_
  refine aq_alen (v := (9 : Int32)) (am_dg dkX8_saveTo (i := 1) rfl) sh_51 (by decide) (by decide) ?_
  refine aq_bipush (v := (9 : Int32)) (am_dg dkX8_saveTo (i := 2) rfl) (by decide) ?_
  by_cases hc1 : (9 : Int32) ≤ (9 : Int32)
  · rw [if_pos hc1] at h
    refine aq_icT (t := 8) (am_dg dkX8_saveTo (i := 3) rfl) rfl (decide_eq_true hc1) ?_
    refine aq_aload_n (am_dg dkX8_saveTo (i := 5) rfl) rfl ?_
    refine aq_iconst (v := (0 : Int32)) (am_dg dkX8_saveTo (i := 6) rfl) (by decide) ?_
    refine aq_aload_n (am_dg dkX8_saveTo (i := 7) rfl) rfl ?_
    refine aq_getI (am_dg dkX8_saveTo (i := 8) rfl) gk_8_66_8 (by decide) ?_
    obtain ⟨hg2, h⟩ := am_guard h
    refine aq_iast (am_dg dkX8_saveTo (i := 9) rfl) sh_51 hg2 ?_
    obtain ⟨s3, hs4, h⟩ := am_bnd h
    rw [Option.some.inj hs4]
    refine aq_aload_n (am_dg dkX8_saveTo (i := 10) rfl) rfl ?_
    refine aq_iconst (v := (1 : Int32)) (am_dg dkX8_saveTo (i := 11) rfl) (by decide) ?_
    refine aq_aload_n (am_dg dkX8_saveTo (i := 12) rfl) rfl ?_
    refine aq_getI (am_dg dkX8_saveTo (i := 13) rfl) gk_8_69_8 (by decide) ?_
    obtain ⟨hg5, h⟩ := am_guard h
    refine aq_iast (am_dg dkX8_saveTo (i := 14) rfl) sh_51 hg5 ?_
    obtain ⟨s6, hs7, h⟩ := am_bnd h
    rw [Option.some.inj hs7]
    refine aq_aload_n (am_dg dkX8_saveTo (i := 15) rfl) rfl ?_
    refine aq_iconst (v := (2 : Int32)) (am_dg dkX8_saveTo (i := 16) rfl) (by decide) ?_
    refine aq_aload_n (am_dg dkX8_saveTo (i := 17) rfl) rfl ?_
    refine aq_getI (am_dg dkX8_saveTo (i := 18) rfl) gk_8_75_8 (by decide) ?_
    obtain ⟨hg8, h⟩ := am_guard h
    refine aq_iast (am_dg dkX8_saveTo (i := 19) rfl) sh_51 hg8 ?_
    obtain ⟨s9, hs10, h⟩ := am_bnd h
    rw [Option.some.inj hs10]
    refine aq_aload_n (am_dg dkX8_saveTo (i := 20) rfl) rfl ?_
    refine aq_getR (am_dg dkX8_saveTo (i := 21) rfl) gk_8_24_8 (rf_8_12 hR) ?_
    refine aq_iconst (v := (0 : Int32)) (am_dg dkX8_saveTo (i := 22) rfl) (by decide) ?_
    refine aq_aload_n (am_dg dkX8_saveTo (i := 23) rfl) rfl ?_
    refine aq_iconst (v := (3 : Int32)) (am_dg dkX8_saveTo (i := 24) rfl) (by decide) ?_
    refine aq_bipush (v := (6 : Int32)) (am_dg dkX8_saveTo (i := 25) rfl) (by decide) ?_
    obtain ⟨hg11, h⟩ := am_guard h
    refine aq_copy (am_dg dkX8_saveTo (i := 26) rfl) yk_8_81.1 yk_8_81.2 (Nat.le_of_ble_eq_true rfl) sh_13 sh_51 hg11 ?_
    obtain ⟨s12, hs13, h⟩ := am_bnd h
    rw [Option.some.inj hs13]
    obtain rfl := Option.some.inj h
    exact aq_return (am_dg dkX8_saveTo (i := 27) rfl) rfl
  · rw [if_neg hc1] at h
    refine aq_icF (t := 8) (am_dg dkX8_saveTo (i := 3) rfl) rfl (decide_eq_false hc1) ?_
    obtain rfl := Option.some.inj h
    exact aq_return (am_dg dkX8_saveTo (i := 4) rfl) rfl
set_option maxRecDepth 20000 in
theorem T_X3_remember_50 {sc : Option (Nat × (Nat → Int32))} {RF : Nat → Nat → Option Nat} {d : Nat} (hR : am_RFok RF) (hd : 1 ≤ d) {s : am_S} {r : am_S} (h : F_X3_remember_50 s = some r) : am_Q sc d mX3_remember (0, am_L0 mX3_remember [.ref 50], [], am_hp RF s) (.null, am_hp RF r) := by
  obtain ⟨e, rfl⟩ : ∃ e, d = e + 1 := ⟨d - 1, by omega⟩
  unfold F_X3_remember_50 at h
  show am_Q _ _ _ (0, [.ref 50], [], _) _
  refine aq_aload_n (am_dg dkX3_remember (i := 0) rfl) rfl ?_
  refine aq_getR (am_dg dkX3_remember (i := 1) rfl) gk_3_37_50 (rf_50_0 hR) ?_
  refine aq_aload_n (am_dg dkX3_remember (i := 2) rfl) rfl ?_
  refine aq_getR (am_dg dkX3_remember (i := 3) rfl) gk_3_13_50 (rf_50_1 hR) ?_
  obtain ⟨q1, hq2, h⟩ := am_bnd h
  refine aq_virt (a := [.ref 8, .ref 51]) (S1 := []) (v1 := .null) (S2 := []) (am_dg dkX3_remember (i := 4) rfl) cv_3_41_8 (am_cls_c sh_8 (by decide)) rfl rfl rfl (Nat.le_of_ble_eq_true rfl) (Nat.le_of_ble_eq_true rfl) (T_X8_saveTo_8_51 hR (by omega) hq2) rfl ?_
  obtain rfl := Option.some.inj h
  exact aq_return (am_dg dkX3_remember (i := 5) rfl) rfl
set_option maxRecDepth 20000 in
theorem T_X8_comeBackTo_8_51 {sc : Option (Nat × (Nat → Int32))} {RF : Nat → Nat → Option Nat} {d : Nat} (hR : am_RFok RF) (hd : 0 ≤ d) {s : am_S} {r : am_S} (h : F_X8_comeBackTo_8_51 s = some r) : am_Q sc d mX8_comeBackTo (0, am_L0 mX8_comeBackTo [.ref 8, .ref 51], [], am_hp RF s) (.null, am_hp RF r) := by
  unfold F_X8_comeBackTo_8_51 at h
  show am_Q _ _ _ (0, [.ref 8, .ref 51], [], _) _
  refine aq_aload_n (am_dg dkX8_comeBackTo (i := 0) rfl) rfl ?_
  refine aq_alen (v := (9 : Int32)) (am_dg dkX8_comeBackTo (i := 1) rfl) sh_51 (by decide) (by decide) ?_
  refine aq_bipush (v := (9 : Int32)) (am_dg dkX8_comeBackTo (i := 2) rfl) (by decide) ?_
  by_cases hc1 : (9 : Int32) ≤ (9 : Int32)
  · rw [if_pos hc1] at h
    refine aq_icT (t := 8) (am_dg dkX8_comeBackTo (i := 3) rfl) rfl (decide_eq_true hc1) ?_
    refine aq_aload_n (am_dg dkX8_comeBackTo (i := 5) rfl) rfl ?_
    refine aq_aload_n (am_dg dkX8_comeBackTo (i := 6) rfl) rfl ?_
    refine aq_iconst (v := (0 : Int32)) (am_dg dkX8_comeBackTo (i := 7) rfl) (by decide) ?_
    obtain ⟨hg2, h⟩ := am_guard h
    refine aq_iald (am_dg dkX8_comeBackTo (i := 8) rfl) sh_51 hg2 ?_
    refine aq_putI (am_dg dkX8_comeBackTo (i := 9) rfl) gk_8_66_8 ?_
    obtain ⟨s3, hs4, h⟩ := am_bnd h
    rw [Option.some.inj hs4]
    refine aq_aload_n (am_dg dkX8_comeBackTo (i := 10) rfl) rfl ?_
    refine aq_aload_n (am_dg dkX8_comeBackTo (i := 11) rfl) rfl ?_
    refine aq_iconst (v := (1 : Int32)) (am_dg dkX8_comeBackTo (i := 12) rfl) (by decide) ?_
    obtain ⟨hg5, h⟩ := am_guard h
    refine aq_iald (am_dg dkX8_comeBackTo (i := 13) rfl) sh_51 hg5 ?_
    refine aq_putI (am_dg dkX8_comeBackTo (i := 14) rfl) gk_8_69_8 ?_
    obtain ⟨s6, hs7, h⟩ := am_bnd h
    rw [Option.some.inj hs7]
    refine aq_aload_n (am_dg dkX8_comeBackTo (i := 15) rfl) rfl ?_
    refine aq_aload_n (am_dg dkX8_comeBackTo (i := 16) rfl) rfl ?_
    refine aq_iconst (v := (2 : Int32)) (am_dg dkX8_comeBackTo (i := 17) rfl) (by decide) ?_
    obtain ⟨hg8, h⟩ := am_guard h
    refine aq_iald (am_dg dkX8_comeBackTo (i := 18) rfl) sh_51 hg8 ?_
    refine aq_putI (am_dg dkX8_comeBackTo (i := 19) rfl) gk_8_75_8 ?_
    obtain ⟨s9, hs10, h⟩ := am_bnd h
    rw [Option.some.inj hs10]
    refine aq_aload_n (am_dg dkX8_comeBackTo (i := 20) rfl) rfl ?_
    refine aq_iconst (v := (3 : Int32)) (am_dg dkX8_comeBackTo (i := 21) rfl) (by decide) ?_
    refine aq_aload_n (am_dg dkX8_comeBackTo (i := 22) rfl) rfl ?_
    refine aq_getR (am_dg dkX8_comeBackTo (i := 23) rfl) gk_8_24_8 (rf_8_12 hR) ?_
    refine aq_iconst (v := (0 : Int32)) (am_dg dkX8_comeBackTo (i := 24) rfl) (by decide) ?_
    refine aq_bipush (v := (6 : Int32)) (am_dg dkX8_comeBackTo (i := 25) rfl) (by decide) ?_
    obtain ⟨hg11, h⟩ := am_guard h
    refine aq_copy (am_dg dkX8_comeBackTo (i := 26) rfl) yk_8_81.1 yk_8_81.2 (Nat.le_of_ble_eq_true rfl) sh_51 sh_13 hg11 ?_
    obtain ⟨s12, hs13, h⟩ := am_bnd h
    rw [Option.some.inj hs13]
    obtain rfl := Option.some.inj h
    exact aq_return (am_dg dkX8_comeBackTo (i := 27) rfl) rfl
  · rw [if_neg hc1] at h
    refine aq_icF (t := 8) (am_dg dkX8_comeBackTo (i := 3) rfl) rfl (decide_eq_false hc1) ?_
    obtain rfl := Option.some.inj h
    exact aq_return (am_dg dkX8_comeBackTo (i := 4) rfl) rfl
set_option maxRecDepth 20000 in
theorem T_X3_goBack_50 {sc : Option (Nat × (Nat → Int32))} {RF : Nat → Nat → Option Nat} {d : Nat} (hR : am_RFok RF) (hd : 1 ≤ d) {s : am_S} {r : am_S} (h : F_X3_goBack_50 s = some r) : am_Q sc d mX3_goBack (0, am_L0 mX3_goBack [.ref 50], [], am_hp RF s) (.null, am_hp RF r) := by
  obtain ⟨e, rfl⟩ : ∃ e, d = e + 1 := ⟨d - 1, by omega⟩
  unfold F_X3_goBack_50 at h
  show am_Q _ _ _ (0, [.ref 50], [], _) _
  refine aq_aload_n (am_dg dkX3_goBack (i := 0) rfl) rfl ?_
  refine aq_getR (am_dg dkX3_goBack (i := 1) rfl) gk_3_37_50 (rf_50_0 hR) ?_
  refine aq_aload_n (am_dg dkX3_goBack (i := 2) rfl) rfl ?_
  refine aq_getR (am_dg dkX3_goBack (i := 3) rfl) gk_3_13_50 (rf_50_1 hR) ?_
  obtain ⟨q1, hq2, h⟩ := am_bnd h
  refine aq_virt (a := [.ref 8, .ref 51]) (S1 := []) (v1 := .null) (S2 := []) (am_dg dkX3_goBack (i := 4) rfl) cv_3_45_8 (am_cls_c sh_8 (by decide)) rfl rfl rfl (Nat.le_of_ble_eq_true rfl) (Nat.le_of_ble_eq_true rfl) (T_X8_comeBackTo_8_51 hR (by omega) hq2) rfl ?_
  obtain rfl := Option.some.inj h
  exact aq_return (am_dg dkX3_goBack (i := 5) rfl) rfl
set_option maxRecDepth 20000 in
theorem T_X3_worthOfRest_50_b46 {sc : Option (Nat × (Nat → Int32))} {RF : Nat → Nat → Option Nat} {d : Nat} (hR : am_RFok RF) (hd : 5 ≤ d) : ∀ (x2 : Int32) (w1 : Value) (w3 : Value) (s : am_S) (r : Int32 × am_S), F_X3_worthOfRest_50_b46 x2 s = some r → am_Q sc d mX3_worthOfRest (46, [.ref 50, w1, .int x2, w3], [], am_hp RF s) (.int r.1, am_hp RF r.2) := by
  obtain ⟨e, rfl⟩ : ∃ e, d = e + 1 := ⟨d - 1, by omega⟩
  intro x2 w1 w3 s r h
  unfold F_X3_worthOfRest_50_b46 at h
  refine aq_aload_n (am_dg dkX3_worthOfRest (i := 24) rfl) rfl ?_
  obtain ⟨q1, hq2, h⟩ := am_bnd h
  refine aq_virt (a := [.ref 50]) (S1 := []) (v1 := .null) (S2 := []) (am_dg dkX3_worthOfRest (i := 25) rfl) cv_3_63_3 (am_cls_c sh_50 (by decide)) rfl rfl rfl (Nat.le_of_ble_eq_true rfl) (Nat.le_of_ble_eq_true rfl) (T_X3_goBack_50 hR (by omega) hq2) rfl ?_
  refine aq_iload_n (am_dg dkX3_worthOfRest (i := 26) rfl) rfl ?_
  obtain rfl := Option.some.inj h
  exact aq_ireturn (am_dg dkX3_worthOfRest (i := 27) rfl) rfl (Or.inl rfl) rfl
set_option maxRecDepth 20000 in
theorem T_X3_worthOfRest_50_b8 {sc : Option (Nat × (Nat → Int32))} {RF : Nat → Nat → Option Nat} {d : Nat} (hR : am_RFok RF) (hd : 5 ≤ d) : ∀ (n : Nat) (x1 : Int32) (x2 : Int32) (x3 : Int32) (s : am_S) (r : Int32 × am_S), F_X3_worthOfRest_50_b8 n x1 x2 x3 s = some r → am_Q sc d mX3_worthOfRest (8, [.ref 50, .int x1, .int x2, .int x3], [], am_hp RF s) (.int r.1, am_hp RF r.2) := by
  obtain ⟨e, rfl⟩ : ∃ e, d = e + 1 := ⟨d - 1, by omega⟩
  intro n
  induction n with
  | zero => intro x1 x2 x3 s r h; rw [F_X3_worthOfRest_50_b8] at h; cases h
  | succ n ih =>
  intro x1 x2 x3 s r h
  rw [F_X3_worthOfRest_50_b8] at h
  refine aq_iload_n (am_dg dkX3_worthOfRest (i := 6) rfl) rfl ?_
  refine aq_iload_n (am_dg dkX3_worthOfRest (i := 7) rfl) rfl ?_
  by_cases hc1 : x1 ≤ x3
  · rw [if_pos hc1] at h
    refine aq_icT (t := 46) (am_dg dkX3_worthOfRest (i := 8) rfl) rfl (decide_eq_true hc1) ?_
    exact T_X3_worthOfRest_50_b46 hR (by omega) _ _ _ _ _ h
  · rw [if_neg hc1] at h
    refine aq_icF (t := 46) (am_dg dkX3_worthOfRest (i := 8) rfl) rfl (decide_eq_false hc1) ?_
    refine aq_aload_n (am_dg dkX3_worthOfRest (i := 9) rfl) rfl ?_
    refine aq_getR (am_dg dkX3_worthOfRest (i := 10) rfl) gk_3_37_50 (rf_50_0 hR) ?_
    obtain ⟨q2, hq3, h⟩ := am_bnd h
    refine aq_virt (a := [.ref 8]) (S1 := []) (v1 := .int q2.1) (S2 := [.int q2.1]) (am_dg dkX3_worthOfRest (i := 11) rfl) cv_3_51_8 (am_cls_c sh_8 (by decide)) rfl rfl rfl (Nat.le_of_ble_eq_true rfl) (Nat.le_of_ble_eq_true rfl) (T_X8_isOver_8 hR (by omega) hq3) rfl ?_
    by_cases hc4 : q2.1 = (0 : Int32)
    · rw [if_pos hc4] at h
      refine aq_ifF (t := 46) (am_dg dkX3_worthOfRest (i := 12) rfl) rfl (decide_eq_false (not_not_intro hc4)) ?_
      refine aq_iload_n (am_dg dkX3_worthOfRest (i := 13) rfl) rfl ?_
      refine aq_aload_n (am_dg dkX3_worthOfRest (i := 14) rfl) rfl ?_
      refine aq_getR (am_dg dkX3_worthOfRest (i := 15) rfl) gk_3_37_50 (rf_50_0 hR) ?_
      refine aq_aload_n (am_dg dkX3_worthOfRest (i := 16) rfl) rfl ?_
      refine aq_getR (am_dg dkX3_worthOfRest (i := 17) rfl) gk_3_37_50 (rf_50_0 hR) ?_
      obtain ⟨q5, hq6, h⟩ := am_bnd h
      refine aq_virt (a := [.ref 8]) (S1 := [.ref 8, .int x2]) (v1 := .int q5.1) (S2 := [.int q5.1, .ref 8, .int x2]) (am_dg dkX3_worthOfRest (i := 18) rfl) cv_3_55_8 (am_cls_c sh_8 (by decide)) rfl rfl rfl (Nat.le_of_ble_eq_true rfl) (Nat.le_of_ble_eq_true rfl) (T_X8_leastAct_8 hR (by omega) hq6) rfl ?_
      obtain ⟨q7, hq8, h⟩ := am_bnd h
      refine aq_virt (a := [.ref 8, .int q5.1]) (S1 := [.int x2]) (v1 := .int q7.1) (S2 := [.int q7.1, .int x2]) (am_dg dkX3_worthOfRest (i := 19) rfl) cv_3_59_8 (am_cls_c sh_8 (by decide)) rfl rfl rfl (Nat.le_of_ble_eq_true rfl) (Nat.le_of_ble_eq_true rfl) (T_X8_goBy_8 hR (by omega) hq8) rfl ?_
      refine aq_iadd (am_dg dkX3_worthOfRest (i := 20) rfl) ?_
      refine aq_istore_n (L1 := [.ref 50, .int x1, .int (x2 + q7.1), .int x3]) (am_dg dkX3_worthOfRest (i := 21) rfl) rfl ?_
      refine aq_iinc (v := (1 : Int32)) (L1 := [.ref 50, .int x1, .int (x2 + q7.1), .int (x3 + (1 : Int32))]) (am_dg dkX3_worthOfRest (i := 22) rfl) rfl (by decide) rfl ?_
      refine aq_goto (t := 8) (am_dg dkX3_worthOfRest (i := 23) rfl) rfl ?_
      exact ih _ _ _ _ _ h
    · rw [if_neg hc4] at h
      refine aq_ifT (t := 46) (am_dg dkX3_worthOfRest (i := 12) rfl) rfl (decide_eq_true hc4) ?_
      exact T_X3_worthOfRest_50_b46 hR (by omega) _ _ _ _ _ h
set_option maxRecDepth 20000 in
theorem T_X3_worthOfRest_50 {sc : Option (Nat × (Nat → Int32))} {RF : Nat → Nat → Option Nat} {d : Nat} (hR : am_RFok RF) (hd : 5 ≤ d) {a1 : Int32} {s : am_S} {r : Int32 × am_S} (h : F_X3_worthOfRest_50 a1 s = some r) : am_Q sc d mX3_worthOfRest (0, am_L0 mX3_worthOfRest [.ref 50, .int a1], [], am_hp RF s) (.int r.1, am_hp RF r.2) := by
  obtain ⟨e, rfl⟩ : ∃ e, d = e + 1 := ⟨d - 1, by omega⟩
  unfold F_X3_worthOfRest_50 at h
  show am_Q _ _ _ (0, [.ref 50, .int a1, .null, .null], [], _) _
  refine aq_aload_n (am_dg dkX3_worthOfRest (i := 0) rfl) rfl ?_
  obtain ⟨q1, hq2, h⟩ := am_bnd h
  refine aq_virt (a := [.ref 50]) (S1 := []) (v1 := .null) (S2 := []) (am_dg dkX3_worthOfRest (i := 1) rfl) cv_3_48_3 (am_cls_c sh_50 (by decide)) rfl rfl rfl (Nat.le_of_ble_eq_true rfl) (Nat.le_of_ble_eq_true rfl) (T_X3_remember_50 hR (by omega) hq2) rfl ?_
  refine aq_iconst (v := (0 : Int32)) (am_dg dkX3_worthOfRest (i := 2) rfl) (by decide) ?_
  refine aq_istore_n (L1 := [.ref 50, .int a1, .int (0 : Int32), .null]) (am_dg dkX3_worthOfRest (i := 3) rfl) rfl ?_
  refine aq_iconst (v := (0 : Int32)) (am_dg dkX3_worthOfRest (i := 4) rfl) (by decide) ?_
  refine aq_istore_n (L1 := [.ref 50, .int a1, .int (0 : Int32), .int (0 : Int32)]) (am_dg dkX3_worthOfRest (i := 5) rfl) rfl ?_
  exact T_X3_worthOfRest_50_b8 hR (by omega) _ _ _ _ _ _ h
set_option maxRecDepth 20000 in
theorem T_X11_on_0 {sc : Option (Nat × (Nat → Int32))} {RF : Nat → Nat → Option Nat} {d : Nat} (hR : am_RFok RF) (hd : 6 ≤ d) {a1 : Int32} {s : am_S} {r : Int32 × am_S} (h : F_X11_on_0 a1 s = some r) : am_Q sc d mX11_on (0, am_L0 mX11_on [.ref 0, .int a1], [], am_hp RF s) (.int r.1, am_hp RF r.2) := by
  obtain ⟨e, rfl⟩ : ∃ e, d = e + 1 := ⟨d - 1, by omega⟩
  unfold F_X11_on_0 at h
  show am_Q _ _ _ (0, [.ref 0, .int a1], [], _) _
  refine aq_iload_n (am_dg dkX11_on (i := 0) rfl) rfl ?_
  refine aq_iconst (v := (0 : Int32)) (am_dg dkX11_on (i := 1) rfl) (by decide) ?_
  refine aq_bipush (v := (16 : Int32)) (am_dg dkX11_on (i := 2) rfl) (by decide) ?_
  obtain ⟨q1, hq2, h⟩ := am_bnd h
  refine aq_static (a := [.int a1, .int (0 : Int32), .int (16 : Int32)]) (S1 := []) (v1 := .int q1.1) (S2 := [.int q1.1]) (am_dg dkX11_on (i := 3) rfl) ct_11_149 rfl rfl rfl (Nat.le_of_ble_eq_true rfl) (Nat.le_of_ble_eq_true rfl) (T_X11_isWithin hR (by omega) hq2) rfl ?_
  by_cases hc3 : q1.1 = (0 : Int32)
  · rw [if_pos hc3] at h
    refine aq_ifT (t := 21) (am_dg dkX11_on (i := 4) rfl) rfl (decide_eq_true hc3) ?_
    refine aq_iconst (v := (-1 : Int32)) (am_dg dkX11_on (i := 10) rfl) (by decide) ?_
    obtain rfl := Option.some.inj h
    exact aq_ireturn (am_dg dkX11_on (i := 11) rfl) rfl (Or.inl rfl) rfl
  · rw [if_neg hc3] at h
    refine aq_ifF (t := 21) (am_dg dkX11_on (i := 4) rfl) rfl (decide_eq_false hc3) ?_
    refine aq_aload_n (am_dg dkX11_on (i := 5) rfl) rfl ?_
    refine aq_getR (am_dg dkX11_on (i := 6) rfl) gk_11_55_0 (rf_0_4 hR) ?_
    refine aq_iload_n (am_dg dkX11_on (i := 7) rfl) rfl ?_
    obtain ⟨q4, hq5, h⟩ := am_bnd h
    refine aq_virt (a := [.ref 50, .int a1]) (S1 := []) (v1 := .int q4.1) (S2 := [.int q4.1]) (am_dg dkX11_on (i := 8) rfl) cv_11_215_3 (am_cls_c sh_50 (by decide)) rfl rfl rfl (Nat.le_of_ble_eq_true rfl) (Nat.le_of_ble_eq_true rfl) (T_X3_worthOfRest_50 hR (by omega) hq5) rfl ?_
    refine aq_goto (t := 22) (am_dg dkX11_on (i := 9) rfl) rfl ?_
    obtain rfl := Option.some.inj h
    exact aq_ireturn (am_dg dkX11_on (i := 11) rfl) rfl (Or.inl rfl) rfl
set_option maxRecDepth 20000 in
theorem T_X12_rest_82_b4 {sc : Option (Nat × (Nat → Int32))} {RF : Nat → Nat → Option Nat} {d : Nat} (hR : am_RFok RF) (hd : 7 ≤ d) : ∀ (n : Nat) (x1 : Int32) (x2 : Int32) (x3 : Int32) (s : am_S) (r : Int32 × am_S), F_X12_rest_82_b4 n x1 x2 x3 s = some r → am_Q sc d mX12_rest (4, [.ref 82, .int x1, .int x2, .int x3], [], am_hp RF s) (.int r.1, am_hp RF r.2) := by
  obtain ⟨e, rfl⟩ : ∃ e, d = e + 1 := ⟨d - 1, by omega⟩
  intro n
  induction n with
  | zero => intro x1 x2 x3 s r h; rw [F_X12_rest_82_b4] at h; cases h
  | succ n ih =>
  intro x1 x2 x3 s r h
  rw [F_X12_rest_82_b4] at h
  refine aq_iload_n (am_dg dkX12_rest (i := 4) rfl) rfl ?_
  refine aq_iload_n (am_dg dkX12_rest (i := 5) rfl) rfl ?_
  by_cases hc1 : x1 ≤ x3
  · rw [if_pos hc1] at h
    refine aq_icT (t := 33) (am_dg dkX12_rest (i := 6) rfl) rfl (decide_eq_true hc1) ?_
    refine aq_iload_n (am_dg dkX12_rest (i := 19) rfl) rfl ?_
    obtain rfl := Option.some.inj h
    exact aq_ireturn (am_dg dkX12_rest (i := 20) rfl) rfl (Or.inl rfl) rfl
  · rw [if_neg hc1] at h
    refine aq_icF (t := 33) (am_dg dkX12_rest (i := 6) rfl) rfl (decide_eq_false hc1) ?_
    refine aq_aload_n (am_dg dkX12_rest (i := 7) rfl) rfl ?_
    obtain ⟨q2, hq3, h⟩ := am_bnd h
    refine aq_virt (a := [.ref 82]) (S1 := []) (v1 := .int q2.1) (S2 := [.int q2.1]) (am_dg dkX12_rest (i := 8) rfl) cv_12_118_12 (am_cls_c sh_82 (by decide)) rfl rfl rfl (Nat.le_of_ble_eq_true rfl) (Nat.le_of_ble_eq_true rfl) (T_X12_isOver_82 hR (by omega) hq3) rfl ?_
    by_cases hc4 : q2.1 = (0 : Int32)
    · rw [if_pos hc4] at h
      refine aq_ifF (t := 33) (am_dg dkX12_rest (i := 9) rfl) rfl (decide_eq_false (not_not_intro hc4)) ?_
      refine aq_iload_n (am_dg dkX12_rest (i := 10) rfl) rfl ?_
      refine aq_aload_n (am_dg dkX12_rest (i := 11) rfl) rfl ?_
      refine aq_aload_n (am_dg dkX12_rest (i := 12) rfl) rfl ?_
      obtain ⟨q5, hq6, h⟩ := am_bnd h
      refine aq_virt (a := [.ref 82]) (S1 := [.ref 82, .int x2]) (v1 := .int q5.1) (S2 := [.int q5.1, .ref 82, .int x2]) (am_dg dkX12_rest (i := 13) rfl) cv_12_156_12 (am_cls_c sh_82 (by decide)) rfl rfl rfl (Nat.le_of_ble_eq_true rfl) (Nat.le_of_ble_eq_true rfl) (T_X12_leastAct_82 hR (by omega) hq6) rfl ?_
      obtain ⟨q7, hq8, h⟩ := am_bnd h
      refine aq_virt (a := [.ref 82, .int q5.1]) (S1 := [.int x2]) (v1 := .int q7.1) (S2 := [.int q7.1, .int x2]) (am_dg dkX12_rest (i := 14) rfl) cv_12_159_12 (am_cls_c sh_82 (by decide)) rfl rfl rfl (Nat.le_of_ble_eq_true rfl) (Nat.le_of_ble_eq_true rfl) (T_X12_goes_82 hR (by omega) hq8) rfl ?_
      refine aq_iadd (am_dg dkX12_rest (i := 15) rfl) ?_
      refine aq_istore_n (L1 := [.ref 82, .int x1, .int (x2 + q7.1), .int x3]) (am_dg dkX12_rest (i := 16) rfl) rfl ?_
      refine aq_iinc (v := (1 : Int32)) (L1 := [.ref 82, .int x1, .int (x2 + q7.1), .int (x3 + (1 : Int32))]) (am_dg dkX12_rest (i := 17) rfl) rfl (by decide) rfl ?_
      refine aq_goto (t := 4) (am_dg dkX12_rest (i := 18) rfl) rfl ?_
      exact ih _ _ _ _ _ h
    · rw [if_neg hc4] at h
      refine aq_ifT (t := 33) (am_dg dkX12_rest (i := 9) rfl) rfl (decide_eq_true hc4) ?_
      refine aq_iload_n (am_dg dkX12_rest (i := 19) rfl) rfl ?_
      obtain rfl := Option.some.inj h
      exact aq_ireturn (am_dg dkX12_rest (i := 20) rfl) rfl (Or.inl rfl) rfl
set_option maxRecDepth 20000 in
theorem T_X12_rest_82 {sc : Option (Nat × (Nat → Int32))} {RF : Nat → Nat → Option Nat} {d : Nat} (hR : am_RFok RF) (hd : 7 ≤ d) {a1 : Int32} {s : am_S} {r : Int32 × am_S} (h : F_X12_rest_82 a1 s = some r) : am_Q sc d mX12_rest (0, am_L0 mX12_rest [.ref 82, .int a1], [], am_hp RF s) (.int r.1, am_hp RF r.2) := by
  obtain ⟨e, rfl⟩ : ∃ e, d = e + 1 := ⟨d - 1, by omega⟩
  unfold F_X12_rest_82 at h
  show am_Q _ _ _ (0, [.ref 82, .int a1, .null, .null], [], _) _
  refine aq_iconst (v := (0 : Int32)) (am_dg dkX12_rest (i := 0) rfl) (by decide) ?_
  refine aq_istore_n (L1 := [.ref 82, .int a1, .int (0 : Int32), .null]) (am_dg dkX12_rest (i := 1) rfl) rfl ?_
  refine aq_iconst (v := (0 : Int32)) (am_dg dkX12_rest (i := 2) rfl) (by decide) ?_
  refine aq_istore_n (L1 := [.ref 82, .int a1, .int (0 : Int32), .int (0 : Int32)]) (am_dg dkX12_rest (i := 3) rfl) rfl ?_
  exact T_X12_rest_82_b4 hR (by omega) _ _ _ _ _ _ h
set_option maxRecDepth 20000 in
theorem T_X12_restTried_82 {sc : Option (Nat × (Nat → Int32))} {RF : Nat → Nat → Option Nat} {d : Nat} (hR : am_RFok RF) (hd : 8 ≤ d) {a1 : Int32} {s : am_S} {r : Int32 × am_S} (h : F_X12_restTried_82 a1 s = some r) : am_Q sc d mX12_restTried (0, am_L0 mX12_restTried [.ref 82, .int a1], [], am_hp RF s) (.int r.1, am_hp RF r.2) := by
  obtain ⟨e, rfl⟩ : ∃ e, d = e + 1 := ⟨d - 1, by omega⟩
  unfold F_X12_restTried_82 at h
  show am_Q _ _ _ (0, [.ref 82, .int a1, .null], [], _) _
  refine aq_aload_n (am_dg dkX12_restTried (i := 0) rfl) rfl ?_
  obtain ⟨q1, hq2, h⟩ := am_bnd h
  refine aq_virt (a := [.ref 82]) (S1 := []) (v1 := .null) (S2 := []) (am_dg dkX12_restTried (i := 1) rfl) cv_12_162_12 (am_cls_c sh_82 (by decide)) rfl rfl rfl (Nat.le_of_ble_eq_true rfl) (Nat.le_of_ble_eq_true rfl) (T_X12_puts_82 hR (by omega) hq2) rfl ?_
  refine aq_aload_n (am_dg dkX12_restTried (i := 2) rfl) rfl ?_
  refine aq_iload_n (am_dg dkX12_restTried (i := 3) rfl) rfl ?_
  obtain ⟨q3, hq4, h⟩ := am_bnd h
  refine aq_virt (a := [.ref 82, .int a1]) (S1 := []) (v1 := .int q3.1) (S2 := [.int q3.1]) (am_dg dkX12_restTried (i := 4) rfl) cv_12_165_12 (am_cls_c sh_82 (by decide)) rfl rfl rfl (Nat.le_of_ble_eq_true rfl) (Nat.le_of_ble_eq_true rfl) (T_X12_rest_82 hR (by omega) hq4) rfl ?_
  refine aq_istore_n (L1 := [.ref 82, .int a1, .int q3.1]) (am_dg dkX12_restTried (i := 5) rfl) rfl ?_
  refine aq_aload_n (am_dg dkX12_restTried (i := 6) rfl) rfl ?_
  obtain ⟨q5, hq6, h⟩ := am_bnd h
  refine aq_virt (a := [.ref 82]) (S1 := []) (v1 := .null) (S2 := []) (am_dg dkX12_restTried (i := 7) rfl) cv_12_168_12 (am_cls_c sh_82 (by decide)) rfl rfl rfl (Nat.le_of_ble_eq_true rfl) (Nat.le_of_ble_eq_true rfl) (T_X12_putsBack_82 hR (by omega) hq6) rfl ?_
  refine aq_iload_n (am_dg dkX12_restTried (i := 8) rfl) rfl ?_
  obtain rfl := Option.some.inj h
  exact aq_ireturn (am_dg dkX12_restTried (i := 9) rfl) rfl (Or.inl rfl) rfl
set_option maxRecDepth 20000 in
theorem T_X12_on_82 {sc : Option (Nat × (Nat → Int32))} {RF : Nat → Nat → Option Nat} {d : Nat} (hR : am_RFok RF) (hd : 9 ≤ d) {a1 : Int32} {s : am_S} {r : Int32 × am_S} (h : F_X12_on_82 a1 s = some r) : am_Q sc d mX12_on (0, am_L0 mX12_on [.ref 82, .int a1], [], am_hp RF s) (.int r.1, am_hp RF r.2) := by
  obtain ⟨e, rfl⟩ : ∃ e, d = e + 1 := ⟨d - 1, by omega⟩
  unfold F_X12_on_82 at h
  show am_Q _ _ _ (0, [.ref 82, .int a1], [], _) _
  refine aq_iload_n (am_dg dkX12_on (i := 0) rfl) rfl ?_
  refine aq_i2l (am_dg dkX12_on (i := 1) rfl) ?_
  refine aq_lconst (v := (0 : Int64)) (am_dg dkX12_on (i := 2) rfl) (by decide) ?_
  refine aq_ldc2 (am_dg dkX12_on (i := 3) rfl) cl_12_116 ?_
  obtain ⟨q1, hq2, h⟩ := am_bnd h
  refine aq_static (a := [.long a1.toInt64, .long (0 : Int64), .long (16 : Int64)]) (S1 := []) (v1 := .int q1.1) (S2 := [.int q1.1]) (am_dg dkX12_on (i := 4) rfl) ct_12_61 rfl rfl rfl (Nat.le_of_ble_eq_true rfl) (Nat.le_of_ble_eq_true rfl) (T_X12_in hR (by omega) hq2) rfl ?_
  by_cases hc3 : q1.1 = (0 : Int32)
  · rw [if_pos hc3] at h
    refine aq_ifT (t := 20) (am_dg dkX12_on (i := 5) rfl) rfl (decide_eq_true hc3) ?_
    refine aq_iconst (v := (-1 : Int32)) (am_dg dkX12_on (i := 10) rfl) (by decide) ?_
    obtain rfl := Option.some.inj h
    exact aq_ireturn (am_dg dkX12_on (i := 11) rfl) rfl (Or.inl rfl) rfl
  · rw [if_neg hc3] at h
    refine aq_ifF (t := 20) (am_dg dkX12_on (i := 5) rfl) rfl (decide_eq_false hc3) ?_
    refine aq_aload_n (am_dg dkX12_on (i := 6) rfl) rfl ?_
    refine aq_iload_n (am_dg dkX12_on (i := 7) rfl) rfl ?_
    obtain ⟨q4, hq5, h⟩ := am_bnd h
    refine aq_virt (a := [.ref 82, .int a1]) (S1 := []) (v1 := .int q4.1) (S2 := [.int q4.1]) (am_dg dkX12_on (i := 8) rfl) cv_12_171_12 (am_cls_c sh_82 (by decide)) rfl rfl rfl (Nat.le_of_ble_eq_true rfl) (Nat.le_of_ble_eq_true rfl) (T_X12_restTried_82 hR (by omega) hq5) rfl ?_
    refine aq_goto (t := 21) (am_dg dkX12_on (i := 9) rfl) rfl ?_
    obtain rfl := Option.some.inj h
    exact aq_ireturn (am_dg dkX12_on (i := 11) rfl) rfl (Or.inl rfl) rfl
set_option maxRecDepth 20000 in
theorem T_X3_turnOfCatch_50_b93 {sc : Option (Nat × (Nat → Int32))} {RF : Nat → Nat → Option Nat} {d : Nat} (hR : am_RFok RF) (hd : 5 ≤ d) : ∀ (x1 : Int32) (y0 : Int32) (w2 : Value) (s : am_S) (r : Int32 × am_S), F_X3_turnOfCatch_50_b93 x1 y0 s = some r → am_Q sc d mX3_turnOfCatch (93, [.ref 50, .int x1, w2], [.int y0], am_hp RF s) (.int r.1, am_hp RF r.2) := by
  obtain ⟨e, rfl⟩ : ∃ e, d = e + 1 := ⟨d - 1, by omega⟩
  intro x1 y0 w2 s r h
  unfold F_X3_turnOfCatch_50_b93 at h
  refine aq_istore_n (L1 := [.ref 50, .int x1, .int y0]) (am_dg dkX3_turnOfCatch (i := 44) rfl) rfl ?_
  refine aq_aload_n (am_dg dkX3_turnOfCatch (i := 45) rfl) rfl ?_
  obtain ⟨q1, hq2, h⟩ := am_bnd h
  refine aq_virt (a := [.ref 50]) (S1 := []) (v1 := .null) (S2 := []) (am_dg dkX3_turnOfCatch (i := 46) rfl) cv_3_63_3 (am_cls_c sh_50 (by decide)) rfl rfl rfl (Nat.le_of_ble_eq_true rfl) (Nat.le_of_ble_eq_true rfl) (T_X3_goBack_50 hR (by omega) hq2) rfl ?_
  refine aq_iload_n (am_dg dkX3_turnOfCatch (i := 47) rfl) rfl ?_
  obtain rfl := Option.some.inj h
  exact aq_ireturn (am_dg dkX3_turnOfCatch (i := 48) rfl) rfl (Or.inl rfl) rfl
set_option maxRecDepth 20000 in
theorem T_X3_turnOfCatch_50_b68 {sc : Option (Nat × (Nat → Int32))} {RF : Nat → Nat → Option Nat} {d : Nat} (hR : am_RFok RF) (hd : 5 ≤ d) : ∀ (x1 : Int32) (w2 : Value) (s : am_S) (r : Int32 × am_S), F_X3_turnOfCatch_50_b68 x1 s = some r → am_Q sc d mX3_turnOfCatch (68, [.ref 50, .int x1, w2], [], am_hp RF s) (.int r.1, am_hp RF r.2) := by
  obtain ⟨e, rfl⟩ : ∃ e, d = e + 1 := ⟨d - 1, by omega⟩
  intro x1 w2 s r h
  unfold F_X3_turnOfCatch_50_b68 at h
  refine aq_aload_n (am_dg dkX3_turnOfCatch (i := 32) rfl) rfl ?_
  refine aq_getR (am_dg dkX3_turnOfCatch (i := 33) rfl) gk_3_37_50 (rf_50_0 hR) ?_
  refine aq_iload_n (am_dg dkX3_turnOfCatch (i := 34) rfl) rfl ?_
  obtain ⟨q1, hq2, h⟩ := am_bnd h
  refine aq_virt (a := [.ref 8, .int x1]) (S1 := []) (v1 := .int q1.1) (S2 := [.int q1.1]) (am_dg dkX3_turnOfCatch (i := 35) rfl) cv_3_66_8 (am_cls_c sh_8 (by decide)) rfl rfl rfl (Nat.le_of_ble_eq_true rfl) (Nat.le_of_ble_eq_true rfl) (T_X8_isCaught_8 hR (by omega) hq2) rfl ?_
  by_cases hc3 : q1.1 = (0 : Int32)
  · rw [if_pos hc3] at h
    refine aq_ifT (t := 91) (am_dg dkX3_turnOfCatch (i := 36) rfl) rfl (decide_eq_true hc3) ?_
    refine aq_bipush (v := (-3 : Int32)) (am_dg dkX3_turnOfCatch (i := 43) rfl) (by decide) ?_
    exact T_X3_turnOfCatch_50_b93 hR (by omega) _ _ _ _ _ h
  · rw [if_neg hc3] at h
    refine aq_ifF (t := 91) (am_dg dkX3_turnOfCatch (i := 36) rfl) rfl (decide_eq_false hc3) ?_
    refine aq_aload_n (am_dg dkX3_turnOfCatch (i := 37) rfl) rfl ?_
    refine aq_getR (am_dg dkX3_turnOfCatch (i := 38) rfl) gk_3_37_50 (rf_50_0 hR) ?_
    refine aq_getI (am_dg dkX3_turnOfCatch (i := 39) rfl) gk_3_70_8 (by decide) ?_
    refine aq_iconst (v := (1 : Int32)) (am_dg dkX3_turnOfCatch (i := 40) rfl) (by decide) ?_
    refine aq_isub (am_dg dkX3_turnOfCatch (i := 41) rfl) ?_
    refine aq_goto (t := 93) (am_dg dkX3_turnOfCatch (i := 42) rfl) rfl ?_
    exact T_X3_turnOfCatch_50_b93 hR (by omega) _ _ _ _ _ h
set_option maxRecDepth 20000 in
theorem T_X3_turnOfCatch_50_b20 {sc : Option (Nat × (Nat → Int32))} {RF : Nat → Nat → Option Nat} {d : Nat} (hR : am_RFok RF) (hd : 5 ≤ d) : ∀ (n : Nat) (x1 : Int32) (x2 : Int32) (s : am_S) (r : Int32 × am_S), F_X3_turnOfCatch_50_b20 n x1 x2 s = some r → am_Q sc d mX3_turnOfCatch (20, [.ref 50, .int x1, .int x2], [], am_hp RF s) (.int r.1, am_hp RF r.2) := by
  obtain ⟨e, rfl⟩ : ∃ e, d = e + 1 := ⟨d - 1, by omega⟩
  intro n
  induction n with
  | zero => intro x1 x2 s r h; rw [F_X3_turnOfCatch_50_b20] at h; cases h
  | succ n ih =>
  intro x1 x2 s r h
  rw [F_X3_turnOfCatch_50_b20] at h
  refine aq_iload_n (am_dg dkX3_turnOfCatch (i := 11) rfl) rfl ?_
  refine aq_bipush (v := (16 : Int32)) (am_dg dkX3_turnOfCatch (i := 12) rfl) (by decide) ?_
  by_cases hc1 : (16 : Int32) ≤ x2
  · rw [if_pos hc1] at h
    refine aq_icT (t := 68) (am_dg dkX3_turnOfCatch (i := 13) rfl) rfl (decide_eq_true hc1) ?_
    exact T_X3_turnOfCatch_50_b68 hR (by omega) _ _ _ _ h
  · rw [if_neg hc1] at h
    refine aq_icF (t := 68) (am_dg dkX3_turnOfCatch (i := 13) rfl) rfl (decide_eq_false hc1) ?_
    refine aq_aload_n (am_dg dkX3_turnOfCatch (i := 14) rfl) rfl ?_
    refine aq_getR (am_dg dkX3_turnOfCatch (i := 15) rfl) gk_3_37_50 (rf_50_0 hR) ?_
    obtain ⟨q2, hq3, h⟩ := am_bnd h
    refine aq_virt (a := [.ref 8]) (S1 := []) (v1 := .int q2.1) (S2 := [.int q2.1]) (am_dg dkX3_turnOfCatch (i := 16) rfl) cv_3_51_8 (am_cls_c sh_8 (by decide)) rfl rfl rfl (Nat.le_of_ble_eq_true rfl) (Nat.le_of_ble_eq_true rfl) (T_X8_isOver_8 hR (by omega) hq3) rfl ?_
    by_cases hc4 : q2.1 = (0 : Int32)
    · rw [if_pos hc4] at h
      refine aq_ifF (t := 68) (am_dg dkX3_turnOfCatch (i := 17) rfl) rfl (decide_eq_false (not_not_intro hc4)) ?_
      refine aq_aload_n (am_dg dkX3_turnOfCatch (i := 18) rfl) rfl ?_
      refine aq_getR (am_dg dkX3_turnOfCatch (i := 19) rfl) gk_3_37_50 (rf_50_0 hR) ?_
      refine aq_iload_n (am_dg dkX3_turnOfCatch (i := 20) rfl) rfl ?_
      obtain ⟨q5, hq6, h⟩ := am_bnd h
      refine aq_virt (a := [.ref 8, .int x1]) (S1 := []) (v1 := .int q5.1) (S2 := [.int q5.1]) (am_dg dkX3_turnOfCatch (i := 21) rfl) cv_3_66_8 (am_cls_c sh_8 (by decide)) rfl rfl rfl (Nat.le_of_ble_eq_true rfl) (Nat.le_of_ble_eq_true rfl) (T_X8_isCaught_8 hR (by omega) hq6) rfl ?_
      by_cases hc7 : q5.1 = (0 : Int32)
      · rw [if_pos hc7] at h
        refine aq_ifF (t := 68) (am_dg dkX3_turnOfCatch (i := 22) rfl) rfl (decide_eq_false (not_not_intro hc7)) ?_
        refine aq_aload_n (am_dg dkX3_turnOfCatch (i := 23) rfl) rfl ?_
        refine aq_getR (am_dg dkX3_turnOfCatch (i := 24) rfl) gk_3_37_50 (rf_50_0 hR) ?_
        refine aq_aload_n (am_dg dkX3_turnOfCatch (i := 25) rfl) rfl ?_
        refine aq_getR (am_dg dkX3_turnOfCatch (i := 26) rfl) gk_3_37_50 (rf_50_0 hR) ?_
        obtain ⟨q8, hq9, h⟩ := am_bnd h
        refine aq_virt (a := [.ref 8]) (S1 := [.ref 8]) (v1 := .int q8.1) (S2 := [.int q8.1, .ref 8]) (am_dg dkX3_turnOfCatch (i := 27) rfl) cv_3_55_8 (am_cls_c sh_8 (by decide)) rfl rfl rfl (Nat.le_of_ble_eq_true rfl) (Nat.le_of_ble_eq_true rfl) (T_X8_leastAct_8 hR (by omega) hq9) rfl ?_
        obtain ⟨q10, hq11, h⟩ := am_bnd h
        refine aq_virt (a := [.ref 8, .int q8.1]) (S1 := []) (v1 := .int q10.1) (S2 := [.int q10.1]) (am_dg dkX3_turnOfCatch (i := 28) rfl) cv_3_59_8 (am_cls_c sh_8 (by decide)) rfl rfl rfl (Nat.le_of_ble_eq_true rfl) (Nat.le_of_ble_eq_true rfl) (T_X8_goBy_8 hR (by omega) hq11) rfl ?_
        refine aq_pop (am_dg dkX3_turnOfCatch (i := 29) rfl) rfl ?_
        refine aq_iinc (v := (1 : Int32)) (L1 := [.ref 50, .int x1, .int (x2 + (1 : Int32))]) (am_dg dkX3_turnOfCatch (i := 30) rfl) rfl (by decide) rfl ?_
        refine aq_goto (t := 20) (am_dg dkX3_turnOfCatch (i := 31) rfl) rfl ?_
        exact ih _ _ _ _ h
      · rw [if_neg hc7] at h
        refine aq_ifT (t := 68) (am_dg dkX3_turnOfCatch (i := 22) rfl) rfl (decide_eq_true hc7) ?_
        exact T_X3_turnOfCatch_50_b68 hR (by omega) _ _ _ _ h
    · rw [if_neg hc4] at h
      refine aq_ifT (t := 68) (am_dg dkX3_turnOfCatch (i := 17) rfl) rfl (decide_eq_true hc4) ?_
      exact T_X3_turnOfCatch_50_b68 hR (by omega) _ _ _ _ h
set_option maxRecDepth 20000 in
theorem T_X3_turnOfCatch_50 {sc : Option (Nat × (Nat → Int32))} {RF : Nat → Nat → Option Nat} {d : Nat} (hR : am_RFok RF) (hd : 5 ≤ d) {a1 : Int32} {s : am_S} {r : Int32 × am_S} (h : F_X3_turnOfCatch_50 a1 s = some r) : am_Q sc d mX3_turnOfCatch (0, am_L0 mX3_turnOfCatch [.ref 50, .int a1], [], am_hp RF s) (.int r.1, am_hp RF r.2) := by
  obtain ⟨e, rfl⟩ : ∃ e, d = e + 1 := ⟨d - 1, by omega⟩
  unfold F_X3_turnOfCatch_50 at h
  show am_Q _ _ _ (0, [.ref 50, .int a1, .null], [], _) _
  refine aq_aload_n (am_dg dkX3_turnOfCatch (i := 0) rfl) rfl ?_
  refine aq_getR (am_dg dkX3_turnOfCatch (i := 1) rfl) gk_3_37_50 (rf_50_0 hR) ?_
  refine aq_iload_n (am_dg dkX3_turnOfCatch (i := 2) rfl) rfl ?_
  obtain ⟨q1, hq2, h⟩ := am_bnd h
  refine aq_virt (a := [.ref 8, .int a1]) (S1 := []) (v1 := .int q1.1) (S2 := [.int q1.1]) (am_dg dkX3_turnOfCatch (i := 3) rfl) cv_3_66_8 (am_cls_c sh_8 (by decide)) rfl rfl rfl (Nat.le_of_ble_eq_true rfl) (Nat.le_of_ble_eq_true rfl) (T_X8_isCaught_8 hR (by omega) hq2) rfl ?_
  by_cases hc3 : q1.1 = (0 : Int32)
  · rw [if_pos hc3] at h
    refine aq_ifT (t := 14) (am_dg dkX3_turnOfCatch (i := 4) rfl) rfl (decide_eq_true hc3) ?_
    refine aq_aload_n (am_dg dkX3_turnOfCatch (i := 7) rfl) rfl ?_
    obtain ⟨q4, hq5, h⟩ := am_bnd h
    refine aq_virt (a := [.ref 50]) (S1 := []) (v1 := .null) (S2 := []) (am_dg dkX3_turnOfCatch (i := 8) rfl) cv_3_48_3 (am_cls_c sh_50 (by decide)) rfl rfl rfl (Nat.le_of_ble_eq_true rfl) (Nat.le_of_ble_eq_true rfl) (T_X3_remember_50 hR (by omega) hq5) rfl ?_
    refine aq_iconst (v := (0 : Int32)) (am_dg dkX3_turnOfCatch (i := 9) rfl) (by decide) ?_
    refine aq_istore_n (L1 := [.ref 50, .int a1, .int (0 : Int32)]) (am_dg dkX3_turnOfCatch (i := 10) rfl) rfl ?_
    exact T_X3_turnOfCatch_50_b20 hR (by omega) _ _ _ _ _ h
  · rw [if_neg hc3] at h
    refine aq_ifF (t := 14) (am_dg dkX3_turnOfCatch (i := 4) rfl) rfl (decide_eq_false hc3) ?_
    refine aq_bipush (v := (-3 : Int32)) (am_dg dkX3_turnOfCatch (i := 5) rfl) (by decide) ?_
    obtain rfl := Option.some.inj h
    exact aq_ireturn (am_dg dkX3_turnOfCatch (i := 6) rfl) rfl (Or.inl rfl) rfl
set_option maxRecDepth 20000 in
theorem T_X11_when_0 {sc : Option (Nat × (Nat → Int32))} {RF : Nat → Nat → Option Nat} {d : Nat} (hR : am_RFok RF) (hd : 6 ≤ d) {a1 : Int32} {s : am_S} {r : Int32 × am_S} (h : F_X11_when_0 a1 s = some r) : am_Q sc d mX11_when (0, am_L0 mX11_when [.ref 0, .int a1], [], am_hp RF s) (.int r.1, am_hp RF r.2) := by
  obtain ⟨e, rfl⟩ : ∃ e, d = e + 1 := ⟨d - 1, by omega⟩
  unfold F_X11_when_0 at h
  show am_Q _ _ _ (0, [.ref 0, .int a1], [], _) _
  refine aq_aload_n (am_dg dkX11_when (i := 0) rfl) rfl ?_
  refine aq_getR (am_dg dkX11_when (i := 1) rfl) gk_11_30_0 (rf_0_0 hR) ?_
  refine aq_iload_n (am_dg dkX11_when (i := 2) rfl) rfl ?_
  obtain ⟨q1, hq2, h⟩ := am_bnd h
  refine aq_virt (a := [.ref 8, .int a1]) (S1 := []) (v1 := .int q1.1) (S2 := [.int q1.1]) (am_dg dkX11_when (i := 3) rfl) cv_11_110_8 (am_cls_c sh_8 (by decide)) rfl rfl rfl (Nat.le_of_ble_eq_true rfl) (Nat.le_of_ble_eq_true rfl) (T_X8_has_8 hR (by omega) hq2) rfl ?_
  by_cases hc3 : q1.1 = (0 : Int32)
  · rw [if_pos hc3] at h
    refine aq_ifT (t := 22) (am_dg dkX11_when (i := 4) rfl) rfl (decide_eq_true hc3) ?_
    refine aq_iconst (v := (-1 : Int32)) (am_dg dkX11_when (i := 10) rfl) (by decide) ?_
    obtain rfl := Option.some.inj h
    exact aq_ireturn (am_dg dkX11_when (i := 11) rfl) rfl (Or.inl rfl) rfl
  · rw [if_neg hc3] at h
    refine aq_ifF (t := 22) (am_dg dkX11_when (i := 4) rfl) rfl (decide_eq_false hc3) ?_
    refine aq_aload_n (am_dg dkX11_when (i := 5) rfl) rfl ?_
    refine aq_getR (am_dg dkX11_when (i := 6) rfl) gk_11_55_0 (rf_0_4 hR) ?_
    refine aq_iload_n (am_dg dkX11_when (i := 7) rfl) rfl ?_
    obtain ⟨q4, hq5, h⟩ := am_bnd h
    refine aq_virt (a := [.ref 50, .int a1]) (S1 := []) (v1 := .int q4.1) (S2 := [.int q4.1]) (am_dg dkX11_when (i := 8) rfl) cv_11_218_3 (am_cls_c sh_50 (by decide)) rfl rfl rfl (Nat.le_of_ble_eq_true rfl) (Nat.le_of_ble_eq_true rfl) (T_X3_turnOfCatch_50 hR (by omega) hq5) rfl ?_
    refine aq_goto (t := 23) (am_dg dkX11_when (i := 9) rfl) rfl ?_
    obtain rfl := Option.some.inj h
    exact aq_ireturn (am_dg dkX11_when (i := 11) rfl) rfl (Or.inl rfl) rfl
set_option maxRecDepth 20000 in
theorem T_X12_when_82_b78 {sc : Option (Nat × (Nat → Int32))} {RF : Nat → Nat → Option Nat} {d : Nat} (hR : am_RFok RF) (hd : 7 ≤ d) : ∀ (x1 : Int32) (y0 : Int32) (w2 : Value) (s : am_S) (r : Int32 × am_S), F_X12_when_82_b78 x1 y0 s = some r → am_Q sc d mX12_when (78, [.ref 82, .int x1, w2], [.int y0], am_hp RF s) (.int r.1, am_hp RF r.2) := by
  obtain ⟨e, rfl⟩ : ∃ e, d = e + 1 := ⟨d - 1, by omega⟩
  intro x1 y0 w2 s r h
  unfold F_X12_when_82_b78 at h
  refine aq_istore_n (L1 := [.ref 82, .int x1, .int y0]) (am_dg dkX12_when (i := 44) rfl) rfl ?_
  refine aq_aload_n (am_dg dkX12_when (i := 45) rfl) rfl ?_
  obtain ⟨q1, hq2, h⟩ := am_bnd h
  refine aq_virt (a := [.ref 82]) (S1 := []) (v1 := .null) (S2 := []) (am_dg dkX12_when (i := 46) rfl) cv_12_168_12 (am_cls_c sh_82 (by decide)) rfl rfl rfl (Nat.le_of_ble_eq_true rfl) (Nat.le_of_ble_eq_true rfl) (T_X12_putsBack_82 hR (by omega) hq2) rfl ?_
  refine aq_iload_n (am_dg dkX12_when (i := 47) rfl) rfl ?_
  obtain rfl := Option.some.inj h
  exact aq_ireturn (am_dg dkX12_when (i := 48) rfl) rfl (Or.inl rfl) rfl
set_option maxRecDepth 20000 in
theorem T_X12_when_82_b55 {sc : Option (Nat × (Nat → Int32))} {RF : Nat → Nat → Option Nat} {d : Nat} (hR : am_RFok RF) (hd : 7 ≤ d) : ∀ (x1 : Int32) (w2 : Value) (s : am_S) (r : Int32 × am_S), F_X12_when_82_b55 x1 s = some r → am_Q sc d mX12_when (55, [.ref 82, .int x1, w2], [], am_hp RF s) (.int r.1, am_hp RF r.2) := by
  obtain ⟨e, rfl⟩ : ∃ e, d = e + 1 := ⟨d - 1, by omega⟩
  intro x1 w2 s r h
  unfold F_X12_when_82_b55 at h
  refine aq_aload_n (am_dg dkX12_when (i := 30) rfl) rfl ?_
  refine aq_iload_n (am_dg dkX12_when (i := 31) rfl) rfl ?_
  refine aq_iconst (v := (4 : Int32)) (am_dg dkX12_when (i := 32) rfl) (by decide) ?_
  obtain ⟨q1, hq2, h⟩ := am_bnd h
  refine aq_virt (a := [.ref 82, .int x1, .int (4 : Int32)]) (S1 := []) (v1 := .int q1.1) (S2 := [.int q1.1]) (am_dg dkX12_when (i := 33) rfl) cv_12_83_12 (am_cls_c sh_82 (by decide)) rfl rfl rfl (Nat.le_of_ble_eq_true rfl) (Nat.le_of_ble_eq_true rfl) (T_X12_its_82 hR (by omega) hq2) rfl ?_
  refine aq_iconst (v := (1 : Int32)) (am_dg dkX12_when (i := 34) rfl) (by decide) ?_
  by_cases hc3 : q1.1 = (1 : Int32)
  · rw [if_pos hc3] at h
    refine aq_icF (t := 76) (am_dg dkX12_when (i := 35) rfl) rfl (decide_eq_false (not_not_intro hc3)) ?_
    refine aq_aload_n (am_dg dkX12_when (i := 36) rfl) rfl ?_
    refine aq_getR (am_dg dkX12_when (i := 37) rfl) gk_12_7_82 (rf_82_0 hR) ?_
    refine aq_iconst (v := (3 : Int32)) (am_dg dkX12_when (i := 38) rfl) (by decide) ?_
    obtain ⟨hg4, h⟩ := am_guard h
    refine aq_iald (am_dg dkX12_when (i := 39) rfl) sh_83 hg4 ?_
    refine aq_iconst (v := (1 : Int32)) (am_dg dkX12_when (i := 40) rfl) (by decide) ?_
    refine aq_isub (am_dg dkX12_when (i := 41) rfl) ?_
    refine aq_goto (t := 78) (am_dg dkX12_when (i := 42) rfl) rfl ?_
    exact T_X12_when_82_b78 hR (by omega) _ _ _ _ _ h
  · rw [if_neg hc3] at h
    refine aq_icT (t := 76) (am_dg dkX12_when (i := 35) rfl) rfl (decide_eq_true hc3) ?_
    refine aq_bipush (v := (-3 : Int32)) (am_dg dkX12_when (i := 43) rfl) (by decide) ?_
    exact T_X12_when_82_b78 hR (by omega) _ _ _ _ _ h
set_option maxRecDepth 20000 in
theorem T_X12_when_82_b27 {sc : Option (Nat × (Nat → Int32))} {RF : Nat → Nat → Option Nat} {d : Nat} (hR : am_RFok RF) (hd : 7 ≤ d) : ∀ (n : Nat) (x1 : Int32) (w2 : Value) (s : am_S) (r : Int32 × am_S), F_X12_when_82_b27 n x1 s = some r → am_Q sc d mX12_when (27, [.ref 82, .int x1, w2], [], am_hp RF s) (.int r.1, am_hp RF r.2) := by
  obtain ⟨e, rfl⟩ : ∃ e, d = e + 1 := ⟨d - 1, by omega⟩
  intro n
  induction n with
  | zero => intro x1 w2 s r h; rw [F_X12_when_82_b27] at h; cases h
  | succ n ih =>
  intro x1 w2 s r h
  rw [F_X12_when_82_b27] at h
  refine aq_aload_n (am_dg dkX12_when (i := 16) rfl) rfl ?_
  obtain ⟨q1, hq2, h⟩ := am_bnd h
  refine aq_virt (a := [.ref 82]) (S1 := []) (v1 := .int q1.1) (S2 := [.int q1.1]) (am_dg dkX12_when (i := 17) rfl) cv_12_118_12 (am_cls_c sh_82 (by decide)) rfl rfl rfl (Nat.le_of_ble_eq_true rfl) (Nat.le_of_ble_eq_true rfl) (T_X12_isOver_82 hR (by omega) hq2) rfl ?_
  by_cases hc3 : q1.1 = (0 : Int32)
  · rw [if_pos hc3] at h
    refine aq_ifF (t := 55) (am_dg dkX12_when (i := 18) rfl) rfl (decide_eq_false (not_not_intro hc3)) ?_
    refine aq_aload_n (am_dg dkX12_when (i := 19) rfl) rfl ?_
    refine aq_iload_n (am_dg dkX12_when (i := 20) rfl) rfl ?_
    refine aq_iconst (v := (4 : Int32)) (am_dg dkX12_when (i := 21) rfl) (by decide) ?_
    obtain ⟨q4, hq5, h⟩ := am_bnd h
    refine aq_virt (a := [.ref 82, .int x1, .int (4 : Int32)]) (S1 := []) (v1 := .int q4.1) (S2 := [.int q4.1]) (am_dg dkX12_when (i := 22) rfl) cv_12_83_12 (am_cls_c sh_82 (by decide)) rfl rfl rfl (Nat.le_of_ble_eq_true rfl) (Nat.le_of_ble_eq_true rfl) (T_X12_its_82 hR (by omega) hq5) rfl ?_
    by_cases hc6 : q4.1 = (0 : Int32)
    · rw [if_pos hc6] at h
      refine aq_ifF (t := 55) (am_dg dkX12_when (i := 23) rfl) rfl (decide_eq_false (not_not_intro hc6)) ?_
      refine aq_aload_n (am_dg dkX12_when (i := 24) rfl) rfl ?_
      refine aq_aload_n (am_dg dkX12_when (i := 25) rfl) rfl ?_
      obtain ⟨q7, hq8, h⟩ := am_bnd h
      refine aq_virt (a := [.ref 82]) (S1 := [.ref 82]) (v1 := .int q7.1) (S2 := [.int q7.1, .ref 82]) (am_dg dkX12_when (i := 26) rfl) cv_12_156_12 (am_cls_c sh_82 (by decide)) rfl rfl rfl (Nat.le_of_ble_eq_true rfl) (Nat.le_of_ble_eq_true rfl) (T_X12_leastAct_82 hR (by omega) hq8) rfl ?_
      obtain ⟨q9, hq10, h⟩ := am_bnd h
      refine aq_virt (a := [.ref 82, .int q7.1]) (S1 := []) (v1 := .int q9.1) (S2 := [.int q9.1]) (am_dg dkX12_when (i := 27) rfl) cv_12_159_12 (am_cls_c sh_82 (by decide)) rfl rfl rfl (Nat.le_of_ble_eq_true rfl) (Nat.le_of_ble_eq_true rfl) (T_X12_goes_82 hR (by omega) hq10) rfl ?_
      refine aq_istore_n (L1 := [.ref 82, .int x1, .int q9.1]) (am_dg dkX12_when (i := 28) rfl) rfl ?_
      refine aq_goto (t := 27) (am_dg dkX12_when (i := 29) rfl) rfl ?_
      exact ih _ _ _ _ h
    · rw [if_neg hc6] at h
      refine aq_ifT (t := 55) (am_dg dkX12_when (i := 23) rfl) rfl (decide_eq_true hc6) ?_
      exact T_X12_when_82_b55 hR (by omega) _ _ _ _ h
  · rw [if_neg hc3] at h
    refine aq_ifT (t := 55) (am_dg dkX12_when (i := 18) rfl) rfl (decide_eq_true hc3) ?_
    exact T_X12_when_82_b55 hR (by omega) _ _ _ _ h
set_option maxRecDepth 20000 in
theorem T_X12_when_82 {sc : Option (Nat × (Nat → Int32))} {RF : Nat → Nat → Option Nat} {d : Nat} (hR : am_RFok RF) (hd : 7 ≤ d) {a1 : Int32} {s : am_S} {r : Int32 × am_S} (h : F_X12_when_82 a1 s = some r) : am_Q sc d mX12_when (0, am_L0 mX12_when [.ref 82, .int a1], [], am_hp RF s) (.int r.1, am_hp RF r.2) := by
  obtain ⟨e, rfl⟩ : ∃ e, d = e + 1 := ⟨d - 1, by omega⟩
  unfold F_X12_when_82 at h
  show am_Q _ _ _ (0, [.ref 82, .int a1, .null], [], _) _
  refine aq_aload_n (am_dg dkX12_when (i := 0) rfl) rfl ?_
  refine aq_iload_n (am_dg dkX12_when (i := 1) rfl) rfl ?_
  obtain ⟨q1, hq2, h⟩ := am_bnd h
  refine aq_virt (a := [.ref 82, .int a1]) (S1 := []) (v1 := .int q1.1) (S2 := [.int q1.1]) (am_dg dkX12_when (i := 2) rfl) cv_12_90_12 (am_cls_c sh_82 (by decide)) rfl rfl rfl (Nat.le_of_ble_eq_true rfl) (Nat.le_of_ble_eq_true rfl) (T_X12_isVoice_82 hR (by omega) hq2) rfl ?_
  by_cases hc3 : q1.1 = (0 : Int32)
  · rw [if_pos hc3] at h
    refine aq_ifF (t := 10) (am_dg dkX12_when (i := 3) rfl) rfl (decide_eq_false (not_not_intro hc3)) ?_
    refine aq_iconst (v := (-1 : Int32)) (am_dg dkX12_when (i := 4) rfl) (by decide) ?_
    obtain rfl := Option.some.inj h
    exact aq_ireturn (am_dg dkX12_when (i := 5) rfl) rfl (Or.inl rfl) rfl
  · rw [if_neg hc3] at h
    refine aq_ifT (t := 10) (am_dg dkX12_when (i := 3) rfl) rfl (decide_eq_true hc3) ?_
    refine aq_aload_n (am_dg dkX12_when (i := 6) rfl) rfl ?_
    refine aq_iload_n (am_dg dkX12_when (i := 7) rfl) rfl ?_
    refine aq_iconst (v := (4 : Int32)) (am_dg dkX12_when (i := 8) rfl) (by decide) ?_
    obtain ⟨q4, hq5, h⟩ := am_bnd h
    refine aq_virt (a := [.ref 82, .int a1, .int (4 : Int32)]) (S1 := []) (v1 := .int q4.1) (S2 := [.int q4.1]) (am_dg dkX12_when (i := 9) rfl) cv_12_83_12 (am_cls_c sh_82 (by decide)) rfl rfl rfl (Nat.le_of_ble_eq_true rfl) (Nat.le_of_ble_eq_true rfl) (T_X12_its_82 hR (by omega) hq5) rfl ?_
    refine aq_iconst (v := (1 : Int32)) (am_dg dkX12_when (i := 10) rfl) (by decide) ?_
    by_cases hc6 : q4.1 = (1 : Int32)
    · rw [if_pos hc6] at h
      refine aq_icF (t := 23) (am_dg dkX12_when (i := 11) rfl) rfl (decide_eq_false (not_not_intro hc6)) ?_
      refine aq_bipush (v := (-3 : Int32)) (am_dg dkX12_when (i := 12) rfl) (by decide) ?_
      obtain rfl := Option.some.inj h
      exact aq_ireturn (am_dg dkX12_when (i := 13) rfl) rfl (Or.inl rfl) rfl
    · rw [if_neg hc6] at h
      refine aq_icT (t := 23) (am_dg dkX12_when (i := 11) rfl) rfl (decide_eq_true hc6) ?_
      refine aq_aload_n (am_dg dkX12_when (i := 14) rfl) rfl ?_
      obtain ⟨q7, hq8, h⟩ := am_bnd h
      refine aq_virt (a := [.ref 82]) (S1 := []) (v1 := .null) (S2 := []) (am_dg dkX12_when (i := 15) rfl) cv_12_162_12 (am_cls_c sh_82 (by decide)) rfl rfl rfl (Nat.le_of_ble_eq_true rfl) (Nat.le_of_ble_eq_true rfl) (T_X12_puts_82 hR (by omega) hq8) rfl ?_
      exact T_X12_when_82_b27 hR (by omega) _ _ _ _ _ h
set_option maxRecDepth 20000 in
theorem T_X3_bestMesh_50_b51 {sc : Option (Nat × (Nat → Int32))} {RF : Nat → Nat → Option Nat} {d : Nat} (hR : am_RFok RF) (hd : 6 ≤ d) {k15 : Int32 → Int32 → Int32 → Int32 → am_S → Option (Int32 × am_S)} (hk15 : ∀ (x1 : Int32) (x2 : Int32) (x3 : Int32) (x4 : Int32) (w5 : Value) (s2 : am_S) (r2 : Int32 × am_S), k15 x1 x2 x3 x4 s2 = some r2 → am_Q sc d mX3_bestMesh (15, [.ref 50, .int x1, .int x2, .int x3, .int x4, w5], [], am_hp RF s2) (.int r2.1, am_hp RF r2.2)) : ∀ (x1 : Int32) (x2 : Int32) (x3 : Int32) (x4 : Int32) (w5 : Value) (s : am_S) (r : Int32 × am_S), F_X3_bestMesh_50_b51 k15 x1 x2 x3 x4 s = some r → am_Q sc d mX3_bestMesh (51, [.ref 50, .int x1, .int x2, .int x3, .int x4, w5], [], am_hp RF s) (.int r.1, am_hp RF r.2) := by
  obtain ⟨e, rfl⟩ : ∃ e, d = e + 1 := ⟨d - 1, by omega⟩
  intro x1 x2 x3 x4 w5 s r h
  unfold F_X3_bestMesh_50_b51 at h
  refine aq_iinc (v := (1 : Int32)) (L1 := [.ref 50, .int x1, .int x2, .int x3, .int (x4 + (1 : Int32)), w5]) (am_dg dkX3_bestMesh (i := 28) rfl) rfl (by decide) rfl ?_
  refine aq_goto (t := 15) (am_dg dkX3_bestMesh (i := 29) rfl) rfl ?_
  exact hk15 _ _ _ _ _ _ _ h
set_option maxRecDepth 20000 in
theorem T_X3_bestMesh_50_b15 {sc : Option (Nat × (Nat → Int32))} {RF : Nat → Nat → Option Nat} {d : Nat} (hR : am_RFok RF) (hd : 6 ≤ d) : ∀ (n : Nat) (x1 : Int32) (x2 : Int32) (x3 : Int32) (x4 : Int32) (w5 : Value) (s : am_S) (r : Int32 × am_S), F_X3_bestMesh_50_b15 n x1 x2 x3 x4 s = some r → am_Q sc d mX3_bestMesh (15, [.ref 50, .int x1, .int x2, .int x3, .int x4, w5], [], am_hp RF s) (.int r.1, am_hp RF r.2) := by
  obtain ⟨e, rfl⟩ : ∃ e, d = e + 1 := ⟨d - 1, by omega⟩
  intro n
  induction n with
  | zero => intro x1 x2 x3 x4 w5 s r h; rw [F_X3_bestMesh_50_b15] at h; cases h
  | succ n ih =>
  intro x1 x2 x3 x4 w5 s r h
  rw [F_X3_bestMesh_50_b15] at h
  refine aq_iload (am_dg dkX3_bestMesh (i := 10) rfl) rfl ?_
  refine aq_bipush (v := (9 : Int32)) (am_dg dkX3_bestMesh (i := 11) rfl) (by decide) ?_
  by_cases hc1 : (9 : Int32) < x4
  · rw [if_pos hc1] at h
    refine aq_icT (t := 57) (am_dg dkX3_bestMesh (i := 12) rfl) rfl (decide_eq_true hc1) ?_
    refine aq_aload_n (am_dg dkX3_bestMesh (i := 30) rfl) rfl ?_
    refine aq_getR (am_dg dkX3_bestMesh (i := 31) rfl) gk_3_37_50 (rf_50_0 hR) ?_
    refine aq_iload_n (am_dg dkX3_bestMesh (i := 32) rfl) rfl ?_
    refine aq_putI (am_dg dkX3_bestMesh (i := 33) rfl) gk_3_74_8 ?_
    obtain ⟨s2, hs3, h⟩ := am_bnd h
    rw [Option.some.inj hs3]
    refine aq_iload_n (am_dg dkX3_bestMesh (i := 34) rfl) rfl ?_
    obtain rfl := Option.some.inj h
    exact aq_ireturn (am_dg dkX3_bestMesh (i := 35) rfl) rfl (Or.inl rfl) rfl
  · rw [if_neg hc1] at h
    refine aq_icF (t := 57) (am_dg dkX3_bestMesh (i := 12) rfl) rfl (decide_eq_false hc1) ?_
    refine aq_aload_n (am_dg dkX3_bestMesh (i := 13) rfl) rfl ?_
    refine aq_getR (am_dg dkX3_bestMesh (i := 14) rfl) gk_3_37_50 (rf_50_0 hR) ?_
    refine aq_iload (am_dg dkX3_bestMesh (i := 15) rfl) rfl ?_
    refine aq_putI (am_dg dkX3_bestMesh (i := 16) rfl) gk_3_74_8 ?_
    obtain ⟨s4, hs5, h⟩ := am_bnd h
    rw [Option.some.inj hs5]
    refine aq_aload_n (am_dg dkX3_bestMesh (i := 17) rfl) rfl ?_
    refine aq_bipush (v := (16 : Int32)) (am_dg dkX3_bestMesh (i := 18) rfl) (by decide) ?_
    obtain ⟨q6, hq7, h⟩ := am_bnd h
    refine aq_virt (a := [.ref 50, .int (16 : Int32)]) (S1 := []) (v1 := .int q6.1) (S2 := [.int q6.1]) (am_dg dkX3_bestMesh (i := 19) rfl) cv_3_77_3 (am_cls_c sh_50 (by decide)) rfl rfl rfl (Nat.le_of_ble_eq_true rfl) (Nat.le_of_ble_eq_true rfl) (T_X3_worthOfRest_50 hR (by omega) hq7) rfl ?_
    refine aq_istore (L1 := [.ref 50, .int x1, .int x2, .int x3, .int x4, .int q6.1]) (am_dg dkX3_bestMesh (i := 20) rfl) rfl ?_
    refine aq_iload (am_dg dkX3_bestMesh (i := 21) rfl) rfl ?_
    refine aq_iload_n (am_dg dkX3_bestMesh (i := 22) rfl) rfl ?_
    by_cases hc8 : q6.1 ≤ x3
    · rw [if_pos hc8] at h
      refine aq_icT (t := 51) (am_dg dkX3_bestMesh (i := 23) rfl) rfl (decide_eq_true hc8) ?_
      exact T_X3_bestMesh_50_b51 hR (by omega) ih _ _ _ _ _ _ _ h
    · rw [if_neg hc8] at h
      refine aq_icF (t := 51) (am_dg dkX3_bestMesh (i := 23) rfl) rfl (decide_eq_false hc8) ?_
      refine aq_iload (am_dg dkX3_bestMesh (i := 24) rfl) rfl ?_
      refine aq_istore_n (L1 := [.ref 50, .int x1, .int x4, .int x3, .int x4, .int q6.1]) (am_dg dkX3_bestMesh (i := 25) rfl) rfl ?_
      refine aq_iload (am_dg dkX3_bestMesh (i := 26) rfl) rfl ?_
      refine aq_istore_n (L1 := [.ref 50, .int x1, .int x4, .int q6.1, .int x4, .int q6.1]) (am_dg dkX3_bestMesh (i := 27) rfl) rfl ?_
      exact T_X3_bestMesh_50_b51 hR (by omega) ih _ _ _ _ _ _ _ h
set_option maxRecDepth 20000 in
theorem T_X3_bestMesh_50 {sc : Option (Nat × (Nat → Int32))} {RF : Nat → Nat → Option Nat} {d : Nat} (hR : am_RFok RF) (hd : 6 ≤ d) {s : am_S} {r : Int32 × am_S} (h : F_X3_bestMesh_50 s = some r) : am_Q sc d mX3_bestMesh (0, am_L0 mX3_bestMesh [.ref 50], [], am_hp RF s) (.int r.1, am_hp RF r.2) := by
  obtain ⟨e, rfl⟩ : ∃ e, d = e + 1 := ⟨d - 1, by omega⟩
  unfold F_X3_bestMesh_50 at h
  show am_Q _ _ _ (0, [.ref 50, .null, .null, .null, .null, .null], [], _) _
  refine aq_aload_n (am_dg dkX3_bestMesh (i := 0) rfl) rfl ?_
  refine aq_getR (am_dg dkX3_bestMesh (i := 1) rfl) gk_3_37_50 (rf_50_0 hR) ?_
  refine aq_getI (am_dg dkX3_bestMesh (i := 2) rfl) gk_3_74_8 (by decide) ?_
  refine aq_istore_n (L1 := [.ref 50, .int (s.1 8 2), .null, .null, .null, .null]) (am_dg dkX3_bestMesh (i := 3) rfl) rfl ?_
  refine aq_iconst (v := (0 : Int32)) (am_dg dkX3_bestMesh (i := 4) rfl) (by decide) ?_
  refine aq_istore_n (L1 := [.ref 50, .int (s.1 8 2), .int (0 : Int32), .null, .null, .null]) (am_dg dkX3_bestMesh (i := 5) rfl) rfl ?_
  refine aq_iconst (v := (-1 : Int32)) (am_dg dkX3_bestMesh (i := 6) rfl) (by decide) ?_
  refine aq_istore_n (L1 := [.ref 50, .int (s.1 8 2), .int (0 : Int32), .int (-1 : Int32), .null, .null]) (am_dg dkX3_bestMesh (i := 7) rfl) rfl ?_
  refine aq_iconst (v := (0 : Int32)) (am_dg dkX3_bestMesh (i := 8) rfl) (by decide) ?_
  refine aq_istore (L1 := [.ref 50, .int (s.1 8 2), .int (0 : Int32), .int (-1 : Int32), .int (0 : Int32), .null]) (am_dg dkX3_bestMesh (i := 9) rfl) rfl ?_
  exact T_X3_bestMesh_50_b15 hR (by omega) _ _ _ _ _ _ _ _ h
set_option maxRecDepth 20000 in
theorem T_X11_meshFor_0 {sc : Option (Nat × (Nat → Int32))} {RF : Nat → Nat → Option Nat} {d : Nat} (hR : am_RFok RF) (hd : 7 ≤ d) {s : am_S} {r : Int32 × am_S} (h : F_X11_meshFor_0 s = some r) : am_Q sc d mX11_meshFor (0, am_L0 mX11_meshFor [.ref 0], [], am_hp RF s) (.int r.1, am_hp RF r.2) := by
  obtain ⟨e, rfl⟩ : ∃ e, d = e + 1 := ⟨d - 1, by omega⟩
  unfold F_X11_meshFor_0 at h
  show am_Q _ _ _ (0, [.ref 0], [], _) _
  refine aq_aload_n (am_dg dkX11_meshFor (i := 0) rfl) rfl ?_
  refine aq_getR (am_dg dkX11_meshFor (i := 1) rfl) gk_11_55_0 (rf_0_4 hR) ?_
  obtain ⟨q1, hq2, h⟩ := am_bnd h
  refine aq_virt (a := [.ref 50]) (S1 := []) (v1 := .int q1.1) (S2 := [.int q1.1]) (am_dg dkX11_meshFor (i := 2) rfl) cv_11_221_3 (am_cls_c sh_50 (by decide)) rfl rfl rfl (Nat.le_of_ble_eq_true rfl) (Nat.le_of_ble_eq_true rfl) (T_X3_bestMesh_50 hR (by omega) hq2) rfl ?_
  obtain rfl := Option.some.inj h
  exact aq_ireturn (am_dg dkX11_meshFor (i := 3) rfl) rfl (Or.inl rfl) rfl
set_option maxRecDepth 20000 in
theorem T_X12_mostFor_82_b68 {sc : Option (Nat × (Nat → Int32))} {RF : Nat → Nat → Option Nat} {d : Nat} (hR : am_RFok RF) (hd : 9 ≤ d) {k16 : Int32 → Int32 → Int32 → Int32 → Int32 → Int32 → am_S → Option (Int32 × am_S)} (hk16 : ∀ (x1 : Int32) (x2 : Int32) (x3 : Int32) (x4 : Int32) (x5 : Int32) (x6 : Int32) (w7 : Value) (s2 : am_S) (r2 : Int32 × am_S), k16 x1 x2 x3 x4 x5 x6 s2 = some r2 → am_Q sc d mX12_mostFor (16, [.ref 82, .int x1, .int x2, .int x3, .int x4, .int x5, .int x6, w7], [], am_hp RF s2) (.int r2.1, am_hp RF r2.2)) : ∀ (x1 : Int32) (x2 : Int32) (x3 : Int32) (x4 : Int32) (x6 : Int32) (y0 : Int32) (w5 : Value) (w7 : Value) (s : am_S) (r : Int32 × am_S), F_X12_mostFor_82_b68 k16 x1 x2 x3 x4 x6 y0 s = some r → am_Q sc d mX12_mostFor (68, [.ref 82, .int x1, .int x2, .int x3, .int x4, w5, .int x6, w7], [.int y0], am_hp RF s) (.int r.1, am_hp RF r.2) := by
  obtain ⟨e, rfl⟩ : ∃ e, d = e + 1 := ⟨d - 1, by omega⟩
  intro x1 x2 x3 x4 x6 y0 w5 w7 s r h
  unfold F_X12_mostFor_82_b68 at h
  refine aq_istore (L1 := [.ref 82, .int x1, .int x2, .int x3, .int x4, .int y0, .int x6, w7]) (am_dg dkX12_mostFor (i := 36) rfl) rfl ?_
  refine aq_iinc (v := (1 : Int32)) (L1 := [.ref 82, .int x1, .int x2, .int x3, .int x4, .int y0, .int (x6 + (1 : Int32)), w7]) (am_dg dkX12_mostFor (i := 37) rfl) rfl (by decide) rfl ?_
  refine aq_goto (t := 16) (am_dg dkX12_mostFor (i := 38) rfl) rfl ?_
  exact hk16 _ _ _ _ _ _ _ _ _ h
set_option maxRecDepth 20000 in
theorem T_X12_mostFor_82_b52 {sc : Option (Nat × (Nat → Int32))} {RF : Nat → Nat → Option Nat} {d : Nat} (hR : am_RFok RF) (hd : 9 ≤ d) {k16 : Int32 → Int32 → Int32 → Int32 → Int32 → Int32 → am_S → Option (Int32 × am_S)} (hk16 : ∀ (x1 : Int32) (x2 : Int32) (x3 : Int32) (x4 : Int32) (x5 : Int32) (x6 : Int32) (w7 : Value) (s2 : am_S) (r2 : Int32 × am_S), k16 x1 x2 x3 x4 x5 x6 s2 = some r2 → am_Q sc d mX12_mostFor (16, [.ref 82, .int x1, .int x2, .int x3, .int x4, .int x5, .int x6, w7], [], am_hp RF s2) (.int r2.1, am_hp RF r2.2)) : ∀ (x1 : Int32) (x2 : Int32) (x3 : Int32) (x5 : Int32) (x6 : Int32) (x7 : Int32) (y0 : Int32) (w4 : Value) (s : am_S) (r : Int32 × am_S), F_X12_mostFor_82_b52 k16 x1 x2 x3 x5 x6 x7 y0 s = some r → am_Q sc d mX12_mostFor (52, [.ref 82, .int x1, .int x2, .int x3, w4, .int x5, .int x6, .int x7], [.int y0], am_hp RF s) (.int r.1, am_hp RF r.2) := by
  obtain ⟨e, rfl⟩ : ∃ e, d = e + 1 := ⟨d - 1, by omega⟩
  intro x1 x2 x3 x5 x6 x7 y0 w4 s r h
  unfold F_X12_mostFor_82_b52 at h
  refine aq_istore (L1 := [.ref 82, .int x1, .int x2, .int x3, .int y0, .int x5, .int x6, .int x7]) (am_dg dkX12_mostFor (i := 29) rfl) rfl ?_
  refine aq_iload (am_dg dkX12_mostFor (i := 30) rfl) rfl ?_
  refine aq_iload (am_dg dkX12_mostFor (i := 31) rfl) rfl ?_
  by_cases hc1 : x7 ≤ x5
  · rw [if_pos hc1] at h
    refine aq_icT (t := 66) (am_dg dkX12_mostFor (i := 32) rfl) rfl (decide_eq_true hc1) ?_
    refine aq_iload (am_dg dkX12_mostFor (i := 35) rfl) rfl ?_
    exact T_X12_mostFor_82_b68 hR (by omega) hk16 _ _ _ _ _ _ _ _ _ _ h
  · rw [if_neg hc1] at h
    refine aq_icF (t := 66) (am_dg dkX12_mostFor (i := 32) rfl) rfl (decide_eq_false hc1) ?_
    refine aq_iload (am_dg dkX12_mostFor (i := 33) rfl) rfl ?_
    refine aq_goto (t := 68) (am_dg dkX12_mostFor (i := 34) rfl) rfl ?_
    exact T_X12_mostFor_82_b68 hR (by omega) hk16 _ _ _ _ _ _ _ _ _ _ h
set_option maxRecDepth 20000 in
theorem T_X12_mostFor_82_b16 {sc : Option (Nat × (Nat → Int32))} {RF : Nat → Nat → Option Nat} {d : Nat} (hR : am_RFok RF) (hd : 9 ≤ d) : ∀ (n : Nat) (x1 : Int32) (x2 : Int32) (x3 : Int32) (x4 : Int32) (x5 : Int32) (x6 : Int32) (w7 : Value) (s : am_S) (r : Int32 × am_S), F_X12_mostFor_82_b16 n x1 x2 x3 x4 x5 x6 s = some r → am_Q sc d mX12_mostFor (16, [.ref 82, .int x1, .int x2, .int x3, .int x4, .int x5, .int x6, w7], [], am_hp RF s) (.int r.1, am_hp RF r.2) := by
  obtain ⟨e, rfl⟩ : ∃ e, d = e + 1 := ⟨d - 1, by omega⟩
  intro n
  induction n with
  | zero => intro x1 x2 x3 x4 x5 x6 w7 s r h; rw [F_X12_mostFor_82_b16] at h; cases h
  | succ n ih =>
  intro x1 x2 x3 x4 x5 x6 w7 s r h
  rw [F_X12_mostFor_82_b16] at h
  refine aq_iload (am_dg dkX12_mostFor (i := 11) rfl) rfl ?_
  refine aq_iload_n (am_dg dkX12_mostFor (i := 12) rfl) rfl ?_
  by_cases hc1 : x2 < x6
  · rw [if_pos hc1] at h
    refine aq_icT (t := 76) (am_dg dkX12_mostFor (i := 13) rfl) rfl (decide_eq_true hc1) ?_
    refine aq_aload_n (am_dg dkX12_mostFor (i := 39) rfl) rfl ?_
    refine aq_getR (am_dg dkX12_mostFor (i := 40) rfl) gk_12_7_82 (rf_82_0 hR) ?_
    refine aq_iload_n (am_dg dkX12_mostFor (i := 41) rfl) rfl ?_
    refine aq_iload_n (am_dg dkX12_mostFor (i := 42) rfl) rfl ?_
    obtain ⟨hg2, h⟩ := am_guard h
    refine aq_iast (am_dg dkX12_mostFor (i := 43) rfl) sh_83 hg2 ?_
    obtain ⟨s3, hs4, h⟩ := am_bnd h
    rw [Option.some.inj hs4]
    refine aq_iload (am_dg dkX12_mostFor (i := 44) rfl) rfl ?_
    obtain rfl := Option.some.inj h
    exact aq_ireturn (am_dg dkX12_mostFor (i := 45) rfl) rfl (Or.inl rfl) rfl
  · rw [if_neg hc1] at h
    refine aq_icF (t := 76) (am_dg dkX12_mostFor (i := 13) rfl) rfl (decide_eq_false hc1) ?_
    refine aq_aload_n (am_dg dkX12_mostFor (i := 14) rfl) rfl ?_
    refine aq_getR (am_dg dkX12_mostFor (i := 15) rfl) gk_12_7_82 (rf_82_0 hR) ?_
    refine aq_iload_n (am_dg dkX12_mostFor (i := 16) rfl) rfl ?_
    refine aq_iload (am_dg dkX12_mostFor (i := 17) rfl) rfl ?_
    obtain ⟨hg5, h⟩ := am_guard h
    refine aq_iast (am_dg dkX12_mostFor (i := 18) rfl) sh_83 hg5 ?_
    obtain ⟨s6, hs7, h⟩ := am_bnd h
    rw [Option.some.inj hs7]
    refine aq_aload_n (am_dg dkX12_mostFor (i := 19) rfl) rfl ?_
    refine aq_bipush (v := (16 : Int32)) (am_dg dkX12_mostFor (i := 20) rfl) (by decide) ?_
    obtain ⟨q8, hq9, h⟩ := am_bnd h
    refine aq_virt (a := [.ref 82, .int (16 : Int32)]) (S1 := []) (v1 := .int q8.1) (S2 := [.int q8.1]) (am_dg dkX12_mostFor (i := 21) rfl) cv_12_171_12 (am_cls_c sh_82 (by decide)) rfl rfl rfl (Nat.le_of_ble_eq_true rfl) (Nat.le_of_ble_eq_true rfl) (T_X12_restTried_82 hR (by omega) hq9) rfl ?_
    refine aq_istore (L1 := [.ref 82, .int x1, .int x2, .int x3, .int x4, .int x5, .int x6, .int q8.1]) (am_dg dkX12_mostFor (i := 22) rfl) rfl ?_
    refine aq_iload (am_dg dkX12_mostFor (i := 23) rfl) rfl ?_
    refine aq_iload (am_dg dkX12_mostFor (i := 24) rfl) rfl ?_
    by_cases hc10 : q8.1 ≤ x5
    · rw [if_pos hc10] at h
      refine aq_icT (t := 50) (am_dg dkX12_mostFor (i := 25) rfl) rfl (decide_eq_true hc10) ?_
      refine aq_iload (am_dg dkX12_mostFor (i := 28) rfl) rfl ?_
      exact T_X12_mostFor_82_b52 hR (by omega) ih _ _ _ _ _ _ _ _ _ _ h
    · rw [if_neg hc10] at h
      refine aq_icF (t := 50) (am_dg dkX12_mostFor (i := 25) rfl) rfl (decide_eq_false hc10) ?_
      refine aq_iload (am_dg dkX12_mostFor (i := 26) rfl) rfl ?_
      refine aq_goto (t := 52) (am_dg dkX12_mostFor (i := 27) rfl) rfl ?_
      exact T_X12_mostFor_82_b52 hR (by omega) ih _ _ _ _ _ _ _ _ _ _ h
set_option maxRecDepth 20000 in
theorem T_X12_mostFor_82 {sc : Option (Nat × (Nat → Int32))} {RF : Nat → Nat → Option Nat} {d : Nat} (hR : am_RFok RF) (hd : 9 ≤ d) {a1 : Int32} {a2 : Int32} {s : am_S} {r : Int32 × am_S} (h : F_X12_mostFor_82 a1 a2 s = some r) : am_Q sc d mX12_mostFor (0, am_L0 mX12_mostFor [.ref 82, .int a1, .int a2], [], am_hp RF s) (.int r.1, am_hp RF r.2) := by
  obtain ⟨e, rfl⟩ : ∃ e, d = e + 1 := ⟨d - 1, by omega⟩
  unfold F_X12_mostFor_82 at h
  show am_Q _ _ _ (0, [.ref 82, .int a1, .int a2, .null, .null, .null, .null, .null], [], _) _
  refine aq_aload_n (am_dg dkX12_mostFor (i := 0) rfl) rfl ?_
  refine aq_getR (am_dg dkX12_mostFor (i := 1) rfl) gk_12_7_82 (rf_82_0 hR) ?_
  refine aq_iload_n (am_dg dkX12_mostFor (i := 2) rfl) rfl ?_
  obtain ⟨hg1, h⟩ := am_guard h
  refine aq_iald (am_dg dkX12_mostFor (i := 3) rfl) sh_83 hg1 ?_
  refine aq_istore_n (L1 := [.ref 82, .int a1, .int a2, .int (s.1 83 a1.toNatClampNeg), .null, .null, .null, .null]) (am_dg dkX12_mostFor (i := 4) rfl) rfl ?_
  refine aq_iconst (v := (0 : Int32)) (am_dg dkX12_mostFor (i := 5) rfl) (by decide) ?_
  refine aq_istore (L1 := [.ref 82, .int a1, .int a2, .int (s.1 83 a1.toNatClampNeg), .int (0 : Int32), .null, .null, .null]) (am_dg dkX12_mostFor (i := 6) rfl) rfl ?_
  refine aq_iconst (v := (-1 : Int32)) (am_dg dkX12_mostFor (i := 7) rfl) (by decide) ?_
  refine aq_istore (L1 := [.ref 82, .int a1, .int a2, .int (s.1 83 a1.toNatClampNeg), .int (0 : Int32), .int (-1 : Int32), .null, .null]) (am_dg dkX12_mostFor (i := 8) rfl) rfl ?_
  refine aq_iconst (v := (0 : Int32)) (am_dg dkX12_mostFor (i := 9) rfl) (by decide) ?_
  refine aq_istore (L1 := [.ref 82, .int a1, .int a2, .int (s.1 83 a1.toNatClampNeg), .int (0 : Int32), .int (-1 : Int32), .int (0 : Int32), .null]) (am_dg dkX12_mostFor (i := 10) rfl) rfl ?_
  exact T_X12_mostFor_82_b16 hR (by omega) _ _ _ _ _ _ _ _ _ _ h
set_option maxRecDepth 20000 in
theorem T_X12_meshFor_82 {sc : Option (Nat × (Nat → Int32))} {RF : Nat → Nat → Option Nat} {d : Nat} (hR : am_RFok RF) (hd : 10 ≤ d) {s : am_S} {r : Int32 × am_S} (h : F_X12_meshFor_82 s = some r) : am_Q sc d mX12_meshFor (0, am_L0 mX12_meshFor [.ref 82], [], am_hp RF s) (.int r.1, am_hp RF r.2) := by
  obtain ⟨e, rfl⟩ : ∃ e, d = e + 1 := ⟨d - 1, by omega⟩
  unfold F_X12_meshFor_82 at h
  show am_Q _ _ _ (0, [.ref 82], [], _) _
  refine aq_aload_n (am_dg dkX12_meshFor (i := 0) rfl) rfl ?_
  refine aq_iconst (v := (5 : Int32)) (am_dg dkX12_meshFor (i := 1) rfl) (by decide) ?_
  refine aq_bipush (v := (9 : Int32)) (am_dg dkX12_meshFor (i := 2) rfl) (by decide) ?_
  obtain ⟨q1, hq2, h⟩ := am_bnd h
  refine aq_virt (a := [.ref 82, .int (5 : Int32), .int (9 : Int32)]) (S1 := []) (v1 := .int q1.1) (S2 := [.int q1.1]) (am_dg dkX12_meshFor (i := 3) rfl) cv_12_174_12 (am_cls_c sh_82 (by decide)) rfl rfl rfl (Nat.le_of_ble_eq_true rfl) (Nat.le_of_ble_eq_true rfl) (T_X12_mostFor_82 hR (by omega) hq2) rfl ?_
  obtain rfl := Option.some.inj h
  exact aq_ireturn (am_dg dkX12_meshFor (i := 4) rfl) rfl (Or.inl rfl) rfl
set_option maxRecDepth 20000 in
theorem T_X3_bestPlace_50_b58 {sc : Option (Nat × (Nat → Int32))} {RF : Nat → Nat → Option Nat} {d : Nat} (hR : am_RFok RF) (hd : 6 ≤ d) {k18 : Int32 → Int32 → Int32 → Int32 → Int32 → am_S → Option (Int32 × am_S)} (hk18 : ∀ (x1 : Int32) (x2 : Int32) (x3 : Int32) (x4 : Int32) (x5 : Int32) (w6 : Value) (s2 : am_S) (r2 : Int32 × am_S), k18 x1 x2 x3 x4 x5 s2 = some r2 → am_Q sc d mX3_bestPlace (18, [.ref 50, .int x1, .int x2, .int x3, .int x4, .int x5, w6], [], am_hp RF s2) (.int r2.1, am_hp RF r2.2)) : ∀ (x1 : Int32) (x2 : Int32) (x3 : Int32) (x4 : Int32) (x5 : Int32) (w6 : Value) (s : am_S) (r : Int32 × am_S), F_X3_bestPlace_50_b58 k18 x1 x2 x3 x4 x5 s = some r → am_Q sc d mX3_bestPlace (58, [.ref 50, .int x1, .int x2, .int x3, .int x4, .int x5, w6], [], am_hp RF s) (.int r.1, am_hp RF r.2) := by
  obtain ⟨e, rfl⟩ : ∃ e, d = e + 1 := ⟨d - 1, by omega⟩
  intro x1 x2 x3 x4 x5 w6 s r h
  unfold F_X3_bestPlace_50_b58 at h
  refine aq_iinc (v := (1 : Int32)) (L1 := [.ref 50, .int x1, .int x2, .int x3, .int x4, .int (x5 + (1 : Int32)), w6]) (am_dg dkX3_bestPlace (i := 32) rfl) rfl (by decide) rfl ?_
  refine aq_goto (t := 18) (am_dg dkX3_bestPlace (i := 33) rfl) rfl ?_
  exact hk18 _ _ _ _ _ _ _ _ h
set_option maxRecDepth 20000 in
theorem T_X3_bestPlace_50_b18 {sc : Option (Nat × (Nat → Int32))} {RF : Nat → Nat → Option Nat} {d : Nat} (hR : am_RFok RF) (hd : 6 ≤ d) : ∀ (n : Nat) (x1 : Int32) (x2 : Int32) (x3 : Int32) (x4 : Int32) (x5 : Int32) (w6 : Value) (s : am_S) (r : Int32 × am_S), F_X3_bestPlace_50_b18 n x1 x2 x3 x4 x5 s = some r → am_Q sc d mX3_bestPlace (18, [.ref 50, .int x1, .int x2, .int x3, .int x4, .int x5, w6], [], am_hp RF s) (.int r.1, am_hp RF r.2) := by
  obtain ⟨e, rfl⟩ : ∃ e, d = e + 1 := ⟨d - 1, by omega⟩
  intro n
  induction n with
  | zero => intro x1 x2 x3 x4 x5 w6 s r h; rw [F_X3_bestPlace_50_b18] at h; cases h
  | succ n ih =>
  intro x1 x2 x3 x4 x5 w6 s r h
  rw [F_X3_bestPlace_50_b18] at h
  refine aq_iload (am_dg dkX3_bestPlace (i := 12) rfl) rfl ?_
  refine aq_bipush (v := (15 : Int32)) (am_dg dkX3_bestPlace (i := 13) rfl) (by decide) ?_
  by_cases hc1 : (15 : Int32) < x5
  · rw [if_pos hc1] at h
    refine aq_icT (t := 64) (am_dg dkX3_bestPlace (i := 14) rfl) rfl (decide_eq_true hc1) ?_
    refine aq_aload_n (am_dg dkX3_bestPlace (i := 34) rfl) rfl ?_
    refine aq_getR (am_dg dkX3_bestPlace (i := 35) rfl) gk_3_37_50 (rf_50_0 hR) ?_
    refine aq_getR (am_dg dkX3_bestPlace (i := 36) rfl) gk_3_80_8 (rf_8_12 hR) ?_
    refine aq_iload_n (am_dg dkX3_bestPlace (i := 37) rfl) rfl ?_
    refine aq_iload_n (am_dg dkX3_bestPlace (i := 38) rfl) rfl ?_
    obtain ⟨hg2, h⟩ := am_guard h
    refine aq_iast (am_dg dkX3_bestPlace (i := 39) rfl) sh_13 hg2 ?_
    obtain ⟨s3, hs4, h⟩ := am_bnd h
    rw [Option.some.inj hs4]
    refine aq_iload_n (am_dg dkX3_bestPlace (i := 40) rfl) rfl ?_
    obtain rfl := Option.some.inj h
    exact aq_ireturn (am_dg dkX3_bestPlace (i := 41) rfl) rfl (Or.inl rfl) rfl
  · rw [if_neg hc1] at h
    refine aq_icF (t := 64) (am_dg dkX3_bestPlace (i := 14) rfl) rfl (decide_eq_false hc1) ?_
    refine aq_aload_n (am_dg dkX3_bestPlace (i := 15) rfl) rfl ?_
    refine aq_getR (am_dg dkX3_bestPlace (i := 16) rfl) gk_3_37_50 (rf_50_0 hR) ?_
    refine aq_getR (am_dg dkX3_bestPlace (i := 17) rfl) gk_3_80_8 (rf_8_12 hR) ?_
    refine aq_iload_n (am_dg dkX3_bestPlace (i := 18) rfl) rfl ?_
    refine aq_iload (am_dg dkX3_bestPlace (i := 19) rfl) rfl ?_
    obtain ⟨hg5, h⟩ := am_guard h
    refine aq_iast (am_dg dkX3_bestPlace (i := 20) rfl) sh_13 hg5 ?_
    obtain ⟨s6, hs7, h⟩ := am_bnd h
    rw [Option.some.inj hs7]
    refine aq_aload_n (am_dg dkX3_bestPlace (i := 21) rfl) rfl ?_
    refine aq_bipush (v := (16 : Int32)) (am_dg dkX3_bestPlace (i := 22) rfl) (by decide) ?_
    obtain ⟨q8, hq9, h⟩ := am_bnd h
    refine aq_virt (a := [.ref 50, .int (16 : Int32)]) (S1 := []) (v1 := .int q8.1) (S2 := [.int q8.1]) (am_dg dkX3_bestPlace (i := 23) rfl) cv_3_77_3 (am_cls_c sh_50 (by decide)) rfl rfl rfl (Nat.le_of_ble_eq_true rfl) (Nat.le_of_ble_eq_true rfl) (T_X3_worthOfRest_50 hR (by omega) hq9) rfl ?_
    refine aq_istore (L1 := [.ref 50, .int x1, .int x2, .int x3, .int x4, .int x5, .int q8.1]) (am_dg dkX3_bestPlace (i := 24) rfl) rfl ?_
    refine aq_iload (am_dg dkX3_bestPlace (i := 25) rfl) rfl ?_
    refine aq_iload (am_dg dkX3_bestPlace (i := 26) rfl) rfl ?_
    by_cases hc10 : q8.1 ≤ x4
    · rw [if_pos hc10] at h
      refine aq_icT (t := 58) (am_dg dkX3_bestPlace (i := 27) rfl) rfl (decide_eq_true hc10) ?_
      exact T_X3_bestPlace_50_b58 hR (by omega) ih _ _ _ _ _ _ _ _ h
    · rw [if_neg hc10] at h
      refine aq_icF (t := 58) (am_dg dkX3_bestPlace (i := 27) rfl) rfl (decide_eq_false hc10) ?_
      refine aq_iload (am_dg dkX3_bestPlace (i := 28) rfl) rfl ?_
      refine aq_istore_n (L1 := [.ref 50, .int x1, .int x2, .int x5, .int x4, .int x5, .int q8.1]) (am_dg dkX3_bestPlace (i := 29) rfl) rfl ?_
      refine aq_iload (am_dg dkX3_bestPlace (i := 30) rfl) rfl ?_
      refine aq_istore (L1 := [.ref 50, .int x1, .int x2, .int x5, .int q8.1, .int x5, .int q8.1]) (am_dg dkX3_bestPlace (i := 31) rfl) rfl ?_
      exact T_X3_bestPlace_50_b58 hR (by omega) ih _ _ _ _ _ _ _ _ h
