/-! LAYER 1: the runs (written by wip/whole/gen_f.py) -/
set_option maxRecDepth 20000 in
theorem T_X12_hums_82_b49 {sc : Option (Nat × (Nat → Int32))} {RF : Nat → Nat → Option Nat} {d : Nat} (hR : am_RFok RF) (hd : 1 ≤ d) : ∀ (x1 : Int32) (y0 : Int32) (w2 : Value) (s : am_S) (r : Int32 × am_S), F_X12_hums_82_b49 x1 y0 s = some r → am_Q sc d mX12_hums (49, [.ref 82, .int x1, w2], [.int y0], am_hp RF s) (.int r.1, am_hp RF r.2) := by
  obtain ⟨e, rfl⟩ : ∃ e, d = e + 1 := ⟨d - 1, by omega⟩
  intro x1 y0 w2 s r h
  unfold F_X12_hums_82_b49 at h
  refine aq_iconst (v := (3 : Int32)) (am_dg dkX12_hums (i := 26) rfl) (by decide) ?_
  refine aq_imul (am_dg dkX12_hums (i := 27) rfl) ?_
  refine aq_aload_n (am_dg dkX12_hums (i := 28) rfl) rfl ?_
  refine aq_getI (am_dg dkX12_hums (i := 29) rfl) gk_12_440_82 (by decide) ?_
  refine aq_isub (am_dg dkX12_hums (i := 30) rfl) ?_
  refine aq_istore_n (L1 := [.ref 82, .int x1, .int ((y0 * (3 : Int32)) - (s.1 82 37))]) (am_dg dkX12_hums (i := 31) rfl) rfl ?_
  refine aq_aload_n (am_dg dkX12_hums (i := 32) rfl) rfl ?_
  refine aq_getI (am_dg dkX12_hums (i := 33) rfl) gk_12_434_82 (by decide) ?_
  refine aq_iconst (v := (1 : Int32)) (am_dg dkX12_hums (i := 34) rfl) (by decide) ?_
  by_cases hc1 : (s.1 82 39) = (1 : Int32)
  · rw [if_pos hc1] at h
    refine aq_icF (t := 72) (am_dg dkX12_hums (i := 35) rfl) rfl (decide_eq_false (not_not_intro hc1)) ?_
    refine aq_iload_n (am_dg dkX12_hums (i := 36) rfl) rfl ?_
    refine aq_bipush (v := (7 : Int32)) (am_dg dkX12_hums (i := 37) rfl) (by decide) ?_
    refine aq_iadd (am_dg dkX12_hums (i := 38) rfl) ?_
    refine aq_goto (t := 73) (am_dg dkX12_hums (i := 39) rfl) rfl ?_
    obtain rfl := Option.some.inj h
    exact aq_ireturn (am_dg dkX12_hums (i := 41) rfl) rfl (Or.inl rfl) rfl
  · rw [if_neg hc1] at h
    refine aq_icT (t := 72) (am_dg dkX12_hums (i := 35) rfl) rfl (decide_eq_true hc1) ?_
    refine aq_iload_n (am_dg dkX12_hums (i := 40) rfl) rfl ?_
    obtain rfl := Option.some.inj h
    exact aq_ireturn (am_dg dkX12_hums (i := 41) rfl) rfl (Or.inl rfl) rfl
set_option maxRecDepth 20000 in
theorem T_X12_hums_82_b28 {sc : Option (Nat × (Nat → Int32))} {RF : Nat → Nat → Option Nat} {d : Nat} (hR : am_RFok RF) (hd : 1 ≤ d) : ∀ (x1 : Int32) (w2 : Value) (s : am_S) (r : Int32 × am_S), F_X12_hums_82_b28 x1 s = some r → am_Q sc d mX12_hums (28, [.ref 82, .int x1, w2], [], am_hp RF s) (.int r.1, am_hp RF r.2) := by
  obtain ⟨e, rfl⟩ : ∃ e, d = e + 1 := ⟨d - 1, by omega⟩
  intro x1 w2 s r h
  unfold F_X12_hums_82_b28 at h
  refine aq_aload_n (am_dg dkX12_hums (i := 14) rfl) rfl ?_
  refine aq_bipush (v := (10 : Int32)) (am_dg dkX12_hums (i := 15) rfl) (by decide) ?_
  obtain ⟨q1, hq2, h⟩ := am_bnd h
  refine aq_virt (a := [.ref 82, .int (10 : Int32)]) (S1 := []) (v1 := .null) (S2 := []) (am_dg dkX12_hums (i := 16) rfl) cv_12_437_12 (am_cls_c sh_82 (by decide)) rfl rfl rfl (Nat.le_of_ble_eq_true rfl) (Nat.le_of_ble_eq_true rfl) (T_X12_runs_82 hR (by omega) hq2) rfl ?_
  refine aq_aload_n (am_dg dkX12_hums (i := 17) rfl) rfl ?_
  refine aq_getI (am_dg dkX12_hums (i := 18) rfl) gk_12_434_82 (by decide) ?_
  refine aq_iconst (v := (3 : Int32)) (am_dg dkX12_hums (i := 19) rfl) (by decide) ?_
  by_cases hc3 : (q1.1 82 39) = (3 : Int32)
  · rw [if_pos hc3] at h
    refine aq_icF (t := 48) (am_dg dkX12_hums (i := 20) rfl) rfl (decide_eq_false (not_not_intro hc3)) ?_
    refine aq_iload_n (am_dg dkX12_hums (i := 21) rfl) rfl ?_
    refine aq_iconst (v := (1 : Int32)) (am_dg dkX12_hums (i := 22) rfl) (by decide) ?_
    refine aq_isub (am_dg dkX12_hums (i := 23) rfl) ?_
    refine aq_goto (t := 49) (am_dg dkX12_hums (i := 24) rfl) rfl ?_
    exact T_X12_hums_82_b49 hR (by omega) _ _ _ _ _ h
  · rw [if_neg hc3] at h
    refine aq_icT (t := 48) (am_dg dkX12_hums (i := 20) rfl) rfl (decide_eq_true hc3) ?_
    refine aq_iload_n (am_dg dkX12_hums (i := 25) rfl) rfl ?_
    exact T_X12_hums_82_b49 hR (by omega) _ _ _ _ _ h
set_option maxRecDepth 20000 in
theorem T_X12_hums_82_b14 {sc : Option (Nat × (Nat → Int32))} {RF : Nat → Nat → Option Nat} {d : Nat} (hR : am_RFok RF) (hd : 1 ≤ d) : ∀ (x1 : Int32) (w2 : Value) (s : am_S) (r : Int32 × am_S), F_X12_hums_82_b14 x1 s = some r → am_Q sc d mX12_hums (14, [.ref 82, .int x1, w2], [], am_hp RF s) (.int r.1, am_hp RF r.2) := by
  obtain ⟨e, rfl⟩ : ∃ e, d = e + 1 := ⟨d - 1, by omega⟩
  intro x1 w2 s r h
  unfold F_X12_hums_82_b14 at h
  refine aq_aload_n (am_dg dkX12_hums (i := 7) rfl) rfl ?_
  refine aq_getI (am_dg dkX12_hums (i := 8) rfl) gk_12_434_82 (by decide) ?_
  refine aq_iconst (v := (3 : Int32)) (am_dg dkX12_hums (i := 9) rfl) (by decide) ?_
  by_cases hc1 : (s.1 82 39) = (3 : Int32)
  · rw [if_pos hc1] at h
    refine aq_icF (t := 28) (am_dg dkX12_hums (i := 10) rfl) rfl (decide_eq_false (not_not_intro hc1)) ?_
    refine aq_aload_n (am_dg dkX12_hums (i := 11) rfl) rfl ?_
    refine aq_bipush (v := (50 : Int32)) (am_dg dkX12_hums (i := 12) rfl) (by decide) ?_
    obtain ⟨q2, hq3, h⟩ := am_bnd h
    refine aq_virt (a := [.ref 82, .int (50 : Int32)]) (S1 := []) (v1 := .null) (S2 := []) (am_dg dkX12_hums (i := 13) rfl) cv_12_437_12 (am_cls_c sh_82 (by decide)) rfl rfl rfl (Nat.le_of_ble_eq_true rfl) (Nat.le_of_ble_eq_true rfl) (T_X12_runs_82 hR (by omega) hq3) rfl ?_
    exact T_X12_hums_82_b28 hR (by omega) _ _ _ _ h
  · rw [if_neg hc1] at h
    refine aq_icT (t := 28) (am_dg dkX12_hums (i := 10) rfl) rfl (decide_eq_true hc1) ?_
    exact T_X12_hums_82_b28 hR (by omega) _ _ _ _ h
set_option maxRecDepth 20000 in
theorem T_X12_hums_82 {sc : Option (Nat × (Nat → Int32))} {RF : Nat → Nat → Option Nat} {d : Nat} (hR : am_RFok RF) (hd : 1 ≤ d) {a1 : Int32} {s : am_S} {r : Int32 × am_S} (h : F_X12_hums_82 a1 s = some r) : am_Q sc d mX12_hums (0, am_L0 mX12_hums [.ref 82, .int a1], [], am_hp RF s) (.int r.1, am_hp RF r.2) := by
  obtain ⟨e, rfl⟩ : ∃ e, d = e + 1 := ⟨d - 1, by omega⟩
  unfold F_X12_hums_82 at h
  show am_Q _ _ _ (0, [.ref 82, .int a1, .null], [], _) _
  refine aq_aload_n (am_dg dkX12_hums (i := 0) rfl) rfl ?_
  refine aq_getI (am_dg dkX12_hums (i := 1) rfl) gk_12_434_82 (by decide) ?_
  refine aq_iconst (v := (1 : Int32)) (am_dg dkX12_hums (i := 2) rfl) (by decide) ?_
  by_cases hc1 : (s.1 82 39) = (1 : Int32)
  · rw [if_pos hc1] at h
    refine aq_icF (t := 14) (am_dg dkX12_hums (i := 3) rfl) rfl (decide_eq_false (not_not_intro hc1)) ?_
    refine aq_aload_n (am_dg dkX12_hums (i := 4) rfl) rfl ?_
    refine aq_bipush (v := (20 : Int32)) (am_dg dkX12_hums (i := 5) rfl) (by decide) ?_
    obtain ⟨q2, hq3, h⟩ := am_bnd h
    refine aq_virt (a := [.ref 82, .int (20 : Int32)]) (S1 := []) (v1 := .null) (S2 := []) (am_dg dkX12_hums (i := 6) rfl) cv_12_437_12 (am_cls_c sh_82 (by decide)) rfl rfl rfl (Nat.le_of_ble_eq_true rfl) (Nat.le_of_ble_eq_true rfl) (T_X12_runs_82 hR (by omega) hq3) rfl ?_
    exact T_X12_hums_82_b14 hR (by omega) _ _ _ _ h
  · rw [if_neg hc1] at h
    refine aq_icT (t := 14) (am_dg dkX12_hums (i := 3) rfl) rfl (decide_eq_true hc1) ?_
    exact T_X12_hums_82_b14 hR (by omega) _ _ _ _ h
set_option maxRecDepth 20000 in
theorem T_X12_calls_82_b46 {sc : Option (Nat × (Nat → Int32))} {RF : Nat → Nat → Option Nat} {d : Nat} (hR : am_RFok RF) (hd : 2 ≤ d) : ∀ (x1 : Int32) (x2 : Int32) (w3 : Value) (s : am_S) (r : Int32 × am_S), F_X12_calls_82_b46 x1 x2 s = some r → am_Q sc d mX12_calls (46, [.ref 82, .int x1, .int x2, w3], [], am_hp RF s) (.int r.1, am_hp RF r.2) := by
  obtain ⟨e, rfl⟩ : ∃ e, d = e + 1 := ⟨d - 1, by omega⟩
  intro x1 x2 w3 s r h
  unfold F_X12_calls_82_b46 at h
  refine aq_aload_n (am_dg dkX12_calls (i := 24) rfl) rfl ?_
  refine aq_bipush (v := (11 : Int32)) (am_dg dkX12_calls (i := 25) rfl) (by decide) ?_
  obtain ⟨q1, hq2, h⟩ := am_bnd h
  refine aq_virt (a := [.ref 82, .int (11 : Int32)]) (S1 := []) (v1 := .null) (S2 := []) (am_dg dkX12_calls (i := 26) rfl) cv_12_437_12 (am_cls_c sh_82 (by decide)) rfl rfl rfl (Nat.le_of_ble_eq_true rfl) (Nat.le_of_ble_eq_true rfl) (T_X12_runs_82 hR (by omega) hq2) rfl ?_
  refine aq_aload_n (am_dg dkX12_calls (i := 27) rfl) rfl ?_
  refine aq_iload_n (am_dg dkX12_calls (i := 28) rfl) rfl ?_
  obtain ⟨q3, hq4, h⟩ := am_bnd h
  refine aq_virt (a := [.ref 82, .int x1]) (S1 := []) (v1 := .int q3.1) (S2 := [.int q3.1]) (am_dg dkX12_calls (i := 29) rfl) cv_12_443_12 (am_cls_c sh_82 (by decide)) rfl rfl rfl (Nat.le_of_ble_eq_true rfl) (Nat.le_of_ble_eq_true rfl) (T_X12_hums_82 hR (by omega) hq4) rfl ?_
  refine aq_aload_n (am_dg dkX12_calls (i := 30) rfl) rfl ?_
  refine aq_getI (am_dg dkX12_calls (i := 31) rfl) gk_12_446_82 (by decide) ?_
  refine aq_iadd (am_dg dkX12_calls (i := 32) rfl) ?_
  refine aq_istore_n (L1 := [.ref 82, .int x1, .int x2, .int (q3.1 + (q3.2.1 82 38))]) (am_dg dkX12_calls (i := 33) rfl) rfl ?_
  refine aq_iload_n (am_dg dkX12_calls (i := 34) rfl) rfl ?_
  by_cases hc5 : x2 = (0 : Int32)
  · rw [if_pos hc5] at h
    refine aq_ifT (t := 73) (am_dg dkX12_calls (i := 35) rfl) rfl (decide_eq_true hc5) ?_
    refine aq_aload_n (am_dg dkX12_calls (i := 40) rfl) rfl ?_
    refine aq_getI (am_dg dkX12_calls (i := 41) rfl) gk_12_434_82 (by decide) ?_
    refine aq_iconst (v := (5 : Int32)) (am_dg dkX12_calls (i := 42) rfl) (by decide) ?_
    by_cases hc6 : (q3.2.1 82 39) = (5 : Int32)
    · rw [if_pos hc6] at h
      refine aq_icF (t := 88) (am_dg dkX12_calls (i := 43) rfl) rfl (decide_eq_false (not_not_intro hc6)) ?_
      refine aq_iload_n (am_dg dkX12_calls (i := 44) rfl) rfl ?_
      refine aq_bipush (v := (9 : Int32)) (am_dg dkX12_calls (i := 45) rfl) (by decide) ?_
      refine aq_ixor (am_dg dkX12_calls (i := 46) rfl) ?_
      refine aq_goto (t := 89) (am_dg dkX12_calls (i := 47) rfl) rfl ?_
      obtain rfl := Option.some.inj h
      exact aq_ireturn (am_dg dkX12_calls (i := 49) rfl) rfl (Or.inl rfl) rfl
    · rw [if_neg hc6] at h
      refine aq_icT (t := 88) (am_dg dkX12_calls (i := 43) rfl) rfl (decide_eq_true hc6) ?_
      refine aq_iload_n (am_dg dkX12_calls (i := 48) rfl) rfl ?_
      obtain rfl := Option.some.inj h
      exact aq_ireturn (am_dg dkX12_calls (i := 49) rfl) rfl (Or.inl rfl) rfl
  · rw [if_neg hc5] at h
    refine aq_ifF (t := 73) (am_dg dkX12_calls (i := 35) rfl) rfl (decide_eq_false hc5) ?_
    refine aq_iconst (v := (0 : Int32)) (am_dg dkX12_calls (i := 36) rfl) (by decide) ?_
    refine aq_iload_n (am_dg dkX12_calls (i := 37) rfl) rfl ?_
    refine aq_isub (am_dg dkX12_calls (i := 38) rfl) ?_
    refine aq_goto (t := 89) (am_dg dkX12_calls (i := 39) rfl) rfl ?_
    obtain rfl := Option.some.inj h
    exact aq_ireturn (am_dg dkX12_calls (i := 49) rfl) rfl (Or.inl rfl) rfl
set_option maxRecDepth 20000 in
theorem T_X12_calls_82_b32 {sc : Option (Nat × (Nat → Int32))} {RF : Nat → Nat → Option Nat} {d : Nat} (hR : am_RFok RF) (hd : 2 ≤ d) : ∀ (x1 : Int32) (x2 : Int32) (w3 : Value) (s : am_S) (r : Int32 × am_S), F_X12_calls_82_b32 x1 x2 s = some r → am_Q sc d mX12_calls (32, [.ref 82, .int x1, .int x2, w3], [], am_hp RF s) (.int r.1, am_hp RF r.2) := by
  obtain ⟨e, rfl⟩ : ∃ e, d = e + 1 := ⟨d - 1, by omega⟩
  intro x1 x2 w3 s r h
  unfold F_X12_calls_82_b32 at h
  refine aq_aload_n (am_dg dkX12_calls (i := 17) rfl) rfl ?_
  refine aq_getI (am_dg dkX12_calls (i := 18) rfl) gk_12_434_82 (by decide) ?_
  refine aq_iconst (v := (5 : Int32)) (am_dg dkX12_calls (i := 19) rfl) (by decide) ?_
  by_cases hc1 : (s.1 82 39) = (5 : Int32)
  · rw [if_pos hc1] at h
    refine aq_icF (t := 46) (am_dg dkX12_calls (i := 20) rfl) rfl (decide_eq_false (not_not_intro hc1)) ?_
    refine aq_aload_n (am_dg dkX12_calls (i := 21) rfl) rfl ?_
    refine aq_bipush (v := (60 : Int32)) (am_dg dkX12_calls (i := 22) rfl) (by decide) ?_
    obtain ⟨q2, hq3, h⟩ := am_bnd h
    refine aq_virt (a := [.ref 82, .int (60 : Int32)]) (S1 := []) (v1 := .null) (S2 := []) (am_dg dkX12_calls (i := 23) rfl) cv_12_437_12 (am_cls_c sh_82 (by decide)) rfl rfl rfl (Nat.le_of_ble_eq_true rfl) (Nat.le_of_ble_eq_true rfl) (T_X12_runs_82 hR (by omega) hq3) rfl ?_
    exact T_X12_calls_82_b46 hR (by omega) _ _ _ _ _ h
  · rw [if_neg hc1] at h
    refine aq_icT (t := 46) (am_dg dkX12_calls (i := 20) rfl) rfl (decide_eq_true hc1) ?_
    exact T_X12_calls_82_b46 hR (by omega) _ _ _ _ _ h
set_option maxRecDepth 20000 in
theorem T_X12_calls_82_b21 {sc : Option (Nat × (Nat → Int32))} {RF : Nat → Nat → Option Nat} {d : Nat} (hR : am_RFok RF) (hd : 2 ≤ d) : ∀ (x1 : Int32) (y0 : Int32) (w2 : Value) (w3 : Value) (s : am_S) (r : Int32 × am_S), F_X12_calls_82_b21 x1 y0 s = some r → am_Q sc d mX12_calls (21, [.ref 82, .int x1, w2, w3], [.int y0], am_hp RF s) (.int r.1, am_hp RF r.2) := by
  obtain ⟨e, rfl⟩ : ∃ e, d = e + 1 := ⟨d - 1, by omega⟩
  intro x1 y0 w2 w3 s r h
  unfold F_X12_calls_82_b21 at h
  refine aq_istore_n (L1 := [.ref 82, .int x1, .int y0, w3]) (am_dg dkX12_calls (i := 11) rfl) rfl ?_
  refine aq_iload_n (am_dg dkX12_calls (i := 12) rfl) rfl ?_
  by_cases hc1 : y0 = (0 : Int32)
  · rw [if_pos hc1] at h
    refine aq_ifT (t := 32) (am_dg dkX12_calls (i := 13) rfl) rfl (decide_eq_true hc1) ?_
    exact T_X12_calls_82_b32 hR (by omega) _ _ _ _ _ h
  · rw [if_neg hc1] at h
    refine aq_ifF (t := 32) (am_dg dkX12_calls (i := 13) rfl) rfl (decide_eq_false hc1) ?_
    refine aq_aload_n (am_dg dkX12_calls (i := 14) rfl) rfl ?_
    refine aq_bipush (v := (30 : Int32)) (am_dg dkX12_calls (i := 15) rfl) (by decide) ?_
    obtain ⟨q2, hq3, h⟩ := am_bnd h
    refine aq_virt (a := [.ref 82, .int (30 : Int32)]) (S1 := []) (v1 := .null) (S2 := []) (am_dg dkX12_calls (i := 16) rfl) cv_12_437_12 (am_cls_c sh_82 (by decide)) rfl rfl rfl (Nat.le_of_ble_eq_true rfl) (Nat.le_of_ble_eq_true rfl) (T_X12_runs_82 hR (by omega) hq3) rfl ?_
    exact T_X12_calls_82_b32 hR (by omega) _ _ _ _ _ h
set_option maxRecDepth 20000 in
theorem T_X12_calls_82_b16 {sc : Option (Nat × (Nat → Int32))} {RF : Nat → Nat → Option Nat} {d : Nat} (hR : am_RFok RF) (hd : 2 ≤ d) : ∀ (x1 : Int32) (w2 : Value) (w3 : Value) (s : am_S) (r : Int32 × am_S), F_X12_calls_82_b16 x1 s = some r → am_Q sc d mX12_calls (16, [.ref 82, .int x1, w2, w3], [], am_hp RF s) (.int r.1, am_hp RF r.2) := by
  obtain ⟨e, rfl⟩ : ∃ e, d = e + 1 := ⟨d - 1, by omega⟩
  intro x1 w2 w3 s r h
  unfold F_X12_calls_82_b16 at h
  refine aq_iconst (v := (1 : Int32)) (am_dg dkX12_calls (i := 8) rfl) (by decide) ?_
  refine aq_goto (t := 21) (am_dg dkX12_calls (i := 9) rfl) rfl ?_
  exact T_X12_calls_82_b21 hR (by omega) _ _ _ _ _ _ h
set_option maxRecDepth 20000 in
theorem T_X12_calls_82 {sc : Option (Nat × (Nat → Int32))} {RF : Nat → Nat → Option Nat} {d : Nat} (hR : am_RFok RF) (hd : 2 ≤ d) {a1 : Int32} {s : am_S} {r : Int32 × am_S} (h : F_X12_calls_82 a1 s = some r) : am_Q sc d mX12_calls (0, am_L0 mX12_calls [.ref 82, .int a1], [], am_hp RF s) (.int r.1, am_hp RF r.2) := by
  obtain ⟨e, rfl⟩ : ∃ e, d = e + 1 := ⟨d - 1, by omega⟩
  unfold F_X12_calls_82 at h
  show am_Q _ _ _ (0, [.ref 82, .int a1, .null, .null], [], _) _
  refine aq_aload_n (am_dg dkX12_calls (i := 0) rfl) rfl ?_
  refine aq_getI (am_dg dkX12_calls (i := 1) rfl) gk_12_434_82 (by decide) ?_
  refine aq_iconst (v := (2 : Int32)) (am_dg dkX12_calls (i := 2) rfl) (by decide) ?_
  by_cases hc1 : (s.1 82 39) = (2 : Int32)
  · rw [if_pos hc1] at h
    refine aq_icT (t := 16) (am_dg dkX12_calls (i := 3) rfl) rfl (decide_eq_true hc1) ?_
    exact T_X12_calls_82_b16 hR (by omega) _ _ _ _ _ h
  · rw [if_neg hc1] at h
    refine aq_icF (t := 16) (am_dg dkX12_calls (i := 3) rfl) rfl (decide_eq_false hc1) ?_
    refine aq_aload_n (am_dg dkX12_calls (i := 4) rfl) rfl ?_
    refine aq_getI (am_dg dkX12_calls (i := 5) rfl) gk_12_434_82 (by decide) ?_
    refine aq_iconst (v := (3 : Int32)) (am_dg dkX12_calls (i := 6) rfl) (by decide) ?_
    by_cases hc2 : (s.1 82 39) = (3 : Int32)
    · rw [if_pos hc2] at h
      refine aq_icF (t := 20) (am_dg dkX12_calls (i := 7) rfl) rfl (decide_eq_false (not_not_intro hc2)) ?_
      exact T_X12_calls_82_b16 hR (by omega) _ _ _ _ _ h
    · rw [if_neg hc2] at h
      refine aq_icT (t := 20) (am_dg dkX12_calls (i := 7) rfl) rfl (decide_eq_true hc2) ?_
      refine aq_iconst (v := (0 : Int32)) (am_dg dkX12_calls (i := 10) rfl) (by decide) ?_
      exact T_X12_calls_82_b21 hR (by omega) _ _ _ _ _ _ h
set_option maxRecDepth 20000 in
theorem T_X12_plainParts_82 {sc : Option (Nat × (Nat → Int32))} {RF : Nat → Nat → Option Nat} {d : Nat} (hR : am_RFok RF) (hd : 1 ≤ d) {a1 : Int32} {s : am_S} {r : Int32 × am_S} (h : F_X12_plainParts_82 a1 s = some r) : am_Q sc d mX12_plainParts (0, am_L0 mX12_plainParts [.ref 82, .int a1], [], am_hp RF s) (.int r.1, am_hp RF r.2) := by
  obtain ⟨e, rfl⟩ : ∃ e, d = e + 1 := ⟨d - 1, by omega⟩
  unfold F_X12_plainParts_82 at h
  show am_Q _ _ _ (0, [.ref 82, .int a1], [], _) _
  refine aq_aload_n (am_dg dkX12_plainParts (i := 0) rfl) rfl ?_
  refine aq_bipush (v := (12 : Int32)) (am_dg dkX12_plainParts (i := 1) rfl) (by decide) ?_
  obtain ⟨q1, hq2, h⟩ := am_bnd h
  refine aq_virt (a := [.ref 82, .int (12 : Int32)]) (S1 := []) (v1 := .null) (S2 := []) (am_dg dkX12_plainParts (i := 2) rfl) cv_12_437_12 (am_cls_c sh_82 (by decide)) rfl rfl rfl (Nat.le_of_ble_eq_true rfl) (Nat.le_of_ble_eq_true rfl) (T_X12_runs_82 hR (by omega) hq2) rfl ?_
  refine aq_aload_n (am_dg dkX12_plainParts (i := 3) rfl) rfl ?_
  refine aq_getI (am_dg dkX12_plainParts (i := 4) rfl) gk_12_440_82 (by decide) ?_
  refine aq_aload_n (am_dg dkX12_plainParts (i := 5) rfl) rfl ?_
  refine aq_getI (am_dg dkX12_plainParts (i := 6) rfl) gk_12_446_82 (by decide) ?_
  by_cases hc3 : (q1.1 82 37) = (q1.1 82 38)
  · rw [if_pos hc3] at h
    refine aq_icF (t := 24) (am_dg dkX12_plainParts (i := 7) rfl) rfl (decide_eq_false (not_not_intro hc3)) ?_
    refine aq_aload_n (am_dg dkX12_plainParts (i := 8) rfl) rfl ?_
    refine aq_iconst (v := (1 : Int32)) (am_dg dkX12_plainParts (i := 9) rfl) (by decide) ?_
    refine aq_putZ (am_dg dkX12_plainParts (i := 10) rfl) gk_12_428_82 (by decide) ?_
    obtain ⟨s4, hs5, h⟩ := am_bnd h
    rw [Option.some.inj hs5]
    refine aq_iconst (v := (0 : Int32)) (am_dg dkX12_plainParts (i := 11) rfl) (by decide) ?_
    obtain rfl := Option.some.inj h
    exact aq_ireturn (am_dg dkX12_plainParts (i := 12) rfl) rfl (Or.inl rfl) rfl
  · rw [if_neg hc3] at h
    refine aq_icT (t := 24) (am_dg dkX12_plainParts (i := 7) rfl) rfl (decide_eq_true hc3) ?_
    refine aq_iload_n (am_dg dkX12_plainParts (i := 13) rfl) rfl ?_
    refine aq_aload_n (am_dg dkX12_plainParts (i := 14) rfl) rfl ?_
    refine aq_getI (am_dg dkX12_plainParts (i := 15) rfl) gk_12_440_82 (by decide) ?_
    refine aq_aload_n (am_dg dkX12_plainParts (i := 16) rfl) rfl ?_
    refine aq_getI (am_dg dkX12_plainParts (i := 17) rfl) gk_12_446_82 (by decide) ?_
    refine aq_isub (am_dg dkX12_plainParts (i := 18) rfl) ?_
    obtain ⟨hg6, h⟩ := am_guard h
    refine aq_idiv (am_dg dkX12_plainParts (i := 19) rfl) hg6 ?_
    obtain rfl := Option.some.inj h
    exact aq_ireturn (am_dg dkX12_plainParts (i := 20) rfl) rfl (Or.inl rfl) rfl
set_option maxRecDepth 20000 in
theorem T_X12_parts_82 {sc : Option (Nat × (Nat → Int32))} {RF : Nat → Nat → Option Nat} {d : Nat} (hR : am_RFok RF) (hd : 2 ≤ d) {a1 : Int32} {s : am_S} {r : Int32 × am_S} (h : F_X12_parts_82 a1 s = some r) : am_Q sc d mX12_parts (0, am_L0 mX12_parts [.ref 82, .int a1], [], am_hp RF s) (.int r.1, am_hp RF r.2) := by
  obtain ⟨e, rfl⟩ : ∃ e, d = e + 1 := ⟨d - 1, by omega⟩
  unfold F_X12_parts_82 at h
  show am_Q _ _ _ (0, [.ref 82, .int a1, .null], [], _) _
  refine aq_aload_n (am_dg dkX12_parts (i := 0) rfl) rfl ?_
  refine aq_getI (am_dg dkX12_parts (i := 1) rfl) gk_12_434_82 (by decide) ?_
  refine aq_iconst (v := (4 : Int32)) (am_dg dkX12_parts (i := 2) rfl) (by decide) ?_
  by_cases hc1 : (s.1 82 39) = (4 : Int32)
  · rw [if_pos hc1] at h
    refine aq_icF (t := 25) (am_dg dkX12_parts (i := 3) rfl) rfl (decide_eq_false (not_not_intro hc1)) ?_
    refine aq_aload_n (am_dg dkX12_parts (i := 4) rfl) rfl ?_
    refine aq_bipush (v := (40 : Int32)) (am_dg dkX12_parts (i := 5) rfl) (by decide) ?_
    obtain ⟨q2, hq3, h⟩ := am_bnd h
    refine aq_virt (a := [.ref 82, .int (40 : Int32)]) (S1 := []) (v1 := .null) (S2 := []) (am_dg dkX12_parts (i := 6) rfl) cv_12_437_12 (am_cls_c sh_82 (by decide)) rfl rfl rfl (Nat.le_of_ble_eq_true rfl) (Nat.le_of_ble_eq_true rfl) (T_X12_runs_82 hR (by omega) hq3) rfl ?_
    refine aq_aload_n (am_dg dkX12_parts (i := 7) rfl) rfl ?_
    refine aq_iload_n (am_dg dkX12_parts (i := 8) rfl) rfl ?_
    obtain ⟨q4, hq5, h⟩ := am_bnd h
    refine aq_virt (a := [.ref 82, .int a1]) (S1 := []) (v1 := .int q4.1) (S2 := [.int q4.1]) (am_dg dkX12_parts (i := 9) rfl) cv_12_449_12 (am_cls_c sh_82 (by decide)) rfl rfl rfl (Nat.le_of_ble_eq_true rfl) (Nat.le_of_ble_eq_true rfl) (T_X12_plainParts_82 hR (by omega) hq5) rfl ?_
    refine aq_aload_n (am_dg dkX12_parts (i := 10) rfl) rfl ?_
    refine aq_getI (am_dg dkX12_parts (i := 11) rfl) gk_12_446_82 (by decide) ?_
    refine aq_imul (am_dg dkX12_parts (i := 12) rfl) ?_
    obtain rfl := Option.some.inj h
    exact aq_ireturn (am_dg dkX12_parts (i := 13) rfl) rfl (Or.inl rfl) rfl
  · rw [if_neg hc1] at h
    refine aq_icT (t := 25) (am_dg dkX12_parts (i := 3) rfl) rfl (decide_eq_true hc1) ?_
    refine aq_aload_n (am_dg dkX12_parts (i := 14) rfl) rfl ?_
    refine aq_getI (am_dg dkX12_parts (i := 15) rfl) gk_12_434_82 (by decide) ?_
    refine aq_iconst (v := (5 : Int32)) (am_dg dkX12_parts (i := 16) rfl) (by decide) ?_
    by_cases hc6 : (s.1 82 39) = (5 : Int32)
    · rw [if_pos hc6] at h
      refine aq_icF (t := 78) (am_dg dkX12_parts (i := 17) rfl) rfl (decide_eq_false (not_not_intro hc6)) ?_
      refine aq_aload_n (am_dg dkX12_parts (i := 18) rfl) rfl ?_
      refine aq_bipush (v := (61 : Int32)) (am_dg dkX12_parts (i := 19) rfl) (by decide) ?_
      obtain ⟨q7, hq8, h⟩ := am_bnd h
      refine aq_virt (a := [.ref 82, .int (61 : Int32)]) (S1 := []) (v1 := .null) (S2 := []) (am_dg dkX12_parts (i := 20) rfl) cv_12_437_12 (am_cls_c sh_82 (by decide)) rfl rfl rfl (Nat.le_of_ble_eq_true rfl) (Nat.le_of_ble_eq_true rfl) (T_X12_runs_82 hR (by omega) hq8) rfl ?_
      refine aq_aload_n (am_dg dkX12_parts (i := 21) rfl) rfl ?_
      refine aq_bipush (v := (40 : Int32)) (am_dg dkX12_parts (i := 22) rfl) (by decide) ?_
      obtain ⟨q9, hq10, h⟩ := am_bnd h
      refine aq_virt (a := [.ref 82, .int (40 : Int32)]) (S1 := []) (v1 := .null) (S2 := []) (am_dg dkX12_parts (i := 23) rfl) cv_12_437_12 (am_cls_c sh_82 (by decide)) rfl rfl rfl (Nat.le_of_ble_eq_true rfl) (Nat.le_of_ble_eq_true rfl) (T_X12_runs_82 hR (by omega) hq10) rfl ?_
      refine aq_aload_n (am_dg dkX12_parts (i := 24) rfl) rfl ?_
      refine aq_iload_n (am_dg dkX12_parts (i := 25) rfl) rfl ?_
      obtain ⟨q11, hq12, h⟩ := am_bnd h
      refine aq_virt (a := [.ref 82, .int a1]) (S1 := []) (v1 := .int q11.1) (S2 := [.int q11.1]) (am_dg dkX12_parts (i := 26) rfl) cv_12_449_12 (am_cls_c sh_82 (by decide)) rfl rfl rfl (Nat.le_of_ble_eq_true rfl) (Nat.le_of_ble_eq_true rfl) (T_X12_plainParts_82 hR (by omega) hq12) rfl ?_
      refine aq_aload_n (am_dg dkX12_parts (i := 27) rfl) rfl ?_
      refine aq_getI (am_dg dkX12_parts (i := 28) rfl) gk_12_446_82 (by decide) ?_
      refine aq_imul (am_dg dkX12_parts (i := 29) rfl) ?_
      refine aq_istore_n (L1 := [.ref 82, .int a1, .int (q11.1 * (q11.2.1 82 38))]) (am_dg dkX12_parts (i := 30) rfl) rfl ?_
      refine aq_aload_n (am_dg dkX12_parts (i := 31) rfl) rfl ?_
      refine aq_getI (am_dg dkX12_parts (i := 32) rfl) gk_12_428_82 (by decide) ?_
      by_cases hc13 : (q11.2.1 82 40) = (0 : Int32)
      · rw [if_pos hc13] at h
        refine aq_ifT (t := 67) (am_dg dkX12_parts (i := 33) rfl) rfl (decide_eq_true hc13) ?_
        refine aq_iload_n (am_dg dkX12_parts (i := 36) rfl) rfl ?_
        refine aq_aload_n (am_dg dkX12_parts (i := 37) rfl) rfl ?_
        refine aq_aload_n (am_dg dkX12_parts (i := 38) rfl) rfl ?_
        refine aq_getI (am_dg dkX12_parts (i := 39) rfl) gk_12_446_82 (by decide) ?_
        obtain ⟨q14, hq15, h⟩ := am_bnd h
        refine aq_virt (a := [.ref 82, .int (q11.2.1 82 38)]) (S1 := [.int (q11.1 * (q11.2.1 82 38))]) (v1 := .int q14.1) (S2 := [.int q14.1, .int (q11.1 * (q11.2.1 82 38))]) (am_dg dkX12_parts (i := 40) rfl) cv_12_443_12 (am_cls_c sh_82 (by decide)) rfl rfl rfl (Nat.le_of_ble_eq_true rfl) (Nat.le_of_ble_eq_true rfl) (T_X12_hums_82 hR (by omega) hq15) rfl ?_
        refine aq_iadd (am_dg dkX12_parts (i := 41) rfl) ?_
        obtain rfl := Option.some.inj h
        exact aq_ireturn (am_dg dkX12_parts (i := 42) rfl) rfl (Or.inl rfl) rfl
      · rw [if_neg hc13] at h
        refine aq_ifF (t := 67) (am_dg dkX12_parts (i := 33) rfl) rfl (decide_eq_false hc13) ?_
        refine aq_iconst (v := (0 : Int32)) (am_dg dkX12_parts (i := 34) rfl) (by decide) ?_
        refine aq_goto (t := 77) (am_dg dkX12_parts (i := 35) rfl) rfl ?_
        obtain rfl := Option.some.inj h
        exact aq_ireturn (am_dg dkX12_parts (i := 42) rfl) rfl (Or.inl rfl) rfl
    · rw [if_neg hc6] at h
      refine aq_icT (t := 78) (am_dg dkX12_parts (i := 17) rfl) rfl (decide_eq_true hc6) ?_
      refine aq_aload_n (am_dg dkX12_parts (i := 43) rfl) rfl ?_
      refine aq_iload_n (am_dg dkX12_parts (i := 44) rfl) rfl ?_
      obtain ⟨q16, hq17, h⟩ := am_bnd h
      refine aq_virt (a := [.ref 82, .int a1]) (S1 := []) (v1 := .int q16.1) (S2 := [.int q16.1]) (am_dg dkX12_parts (i := 45) rfl) cv_12_449_12 (am_cls_c sh_82 (by decide)) rfl rfl rfl (Nat.le_of_ble_eq_true rfl) (Nat.le_of_ble_eq_true rfl) (T_X12_plainParts_82 hR (by omega) hq17) rfl ?_
      obtain rfl := Option.some.inj h
      exact aq_ireturn (am_dg dkX12_parts (i := 46) rfl) rfl (Or.inl rfl) rfl
set_option maxRecDepth 20000 in
theorem T_X12_rings_82_b14 {sc : Option (Nat × (Nat → Int32))} {RF : Nat → Nat → Option Nat} {d : Nat} (hR : am_RFok RF) (hd : 3 ≤ d) : ∀ (x1 : Int32) (w2 : Value) (s : am_S) (r : Int32 × am_S), F_X12_rings_82_b14 x1 s = some r → am_Q sc d mX12_rings (14, [.ref 82, .int x1, w2], [], am_hp RF s) (.int r.1, am_hp RF r.2) := by
  obtain ⟨e, rfl⟩ : ∃ e, d = e + 1 := ⟨d - 1, by omega⟩
  intro x1 w2 s r h
  unfold F_X12_rings_82_b14 at h
  refine aq_aload_n (am_dg dkX12_rings (i := 7) rfl) rfl ?_
  refine aq_bipush (v := (13 : Int32)) (am_dg dkX12_rings (i := 8) rfl) (by decide) ?_
  obtain ⟨q1, hq2, h⟩ := am_bnd h
  refine aq_virt (a := [.ref 82, .int (13 : Int32)]) (S1 := []) (v1 := .null) (S2 := []) (am_dg dkX12_rings (i := 9) rfl) cv_12_437_12 (am_cls_c sh_82 (by decide)) rfl rfl rfl (Nat.le_of_ble_eq_true rfl) (Nat.le_of_ble_eq_true rfl) (T_X12_runs_82 hR (by omega) hq2) rfl ?_
  refine aq_aload_n (am_dg dkX12_rings (i := 10) rfl) rfl ?_
  refine aq_iload_n (am_dg dkX12_rings (i := 11) rfl) rfl ?_
  obtain ⟨q3, hq4, h⟩ := am_bnd h
  refine aq_virt (a := [.ref 82, .int x1]) (S1 := []) (v1 := .int q3.1) (S2 := [.int q3.1]) (am_dg dkX12_rings (i := 12) rfl) cv_12_452_12 (am_cls_c sh_82 (by decide)) rfl rfl rfl (Nat.le_of_ble_eq_true rfl) (Nat.le_of_ble_eq_true rfl) (T_X12_calls_82 hR (by omega) hq4) rfl ?_
  refine aq_istore_n (L1 := [.ref 82, .int x1, .int q3.1]) (am_dg dkX12_rings (i := 13) rfl) rfl ?_
  refine aq_iload_n (am_dg dkX12_rings (i := 14) rfl) rfl ?_
  refine aq_aload_n (am_dg dkX12_rings (i := 15) rfl) rfl ?_
  refine aq_iload_n (am_dg dkX12_rings (i := 16) rfl) rfl ?_
  obtain ⟨q5, hq6, h⟩ := am_bnd h
  refine aq_virt (a := [.ref 82, .int x1]) (S1 := [.int q3.1]) (v1 := .int q5.1) (S2 := [.int q5.1, .int q3.1]) (am_dg dkX12_rings (i := 17) rfl) cv_12_455_12 (am_cls_c sh_82 (by decide)) rfl rfl rfl (Nat.le_of_ble_eq_true rfl) (Nat.le_of_ble_eq_true rfl) (T_X12_parts_82 hR (by omega) hq6) rfl ?_
  refine aq_ixor (am_dg dkX12_rings (i := 18) rfl) ?_
  refine aq_istore_n (L1 := [.ref 82, .int x1, .int (q3.1 ^^^ q5.1)]) (am_dg dkX12_rings (i := 19) rfl) rfl ?_
  refine aq_aload_n (am_dg dkX12_rings (i := 20) rfl) rfl ?_
  refine aq_getI (am_dg dkX12_rings (i := 21) rfl) gk_12_434_82 (by decide) ?_
  refine aq_iconst (v := (3 : Int32)) (am_dg dkX12_rings (i := 22) rfl) (by decide) ?_
  by_cases hc7 : (q5.2.1 82 39) = (3 : Int32)
  · rw [if_pos hc7] at h
    refine aq_icF (t := 62) (am_dg dkX12_rings (i := 23) rfl) rfl (decide_eq_false (not_not_intro hc7)) ?_
    refine aq_aload_n (am_dg dkX12_rings (i := 24) rfl) rfl ?_
    refine aq_getI (am_dg dkX12_rings (i := 25) rfl) gk_12_428_82 (by decide) ?_
    by_cases hc8 : (q5.2.1 82 40) = (0 : Int32)
    · rw [if_pos hc8] at h
      refine aq_ifF (t := 62) (am_dg dkX12_rings (i := 26) rfl) rfl (decide_eq_false (not_not_intro hc8)) ?_
      refine aq_iload_n (am_dg dkX12_rings (i := 27) rfl) rfl ?_
      refine aq_aload_n (am_dg dkX12_rings (i := 28) rfl) rfl ?_
      refine aq_aload_n (am_dg dkX12_rings (i := 29) rfl) rfl ?_
      refine aq_getI (am_dg dkX12_rings (i := 30) rfl) gk_12_440_82 (by decide) ?_
      obtain ⟨q9, hq10, h⟩ := am_bnd h
      refine aq_virt (a := [.ref 82, .int (q5.2.1 82 37)]) (S1 := [.int (q3.1 ^^^ q5.1)]) (v1 := .int q9.1) (S2 := [.int q9.1, .int (q3.1 ^^^ q5.1)]) (am_dg dkX12_rings (i := 31) rfl) cv_12_452_12 (am_cls_c sh_82 (by decide)) rfl rfl rfl (Nat.le_of_ble_eq_true rfl) (Nat.le_of_ble_eq_true rfl) (T_X12_calls_82 hR (by omega) hq10) rfl ?_
      refine aq_iadd (am_dg dkX12_rings (i := 32) rfl) ?_
      refine aq_goto (t := 63) (am_dg dkX12_rings (i := 33) rfl) rfl ?_
      obtain rfl := Option.some.inj h
      exact aq_ireturn (am_dg dkX12_rings (i := 35) rfl) rfl (Or.inl rfl) rfl
    · rw [if_neg hc8] at h
      refine aq_ifT (t := 62) (am_dg dkX12_rings (i := 26) rfl) rfl (decide_eq_true hc8) ?_
      refine aq_iload_n (am_dg dkX12_rings (i := 34) rfl) rfl ?_
      obtain rfl := Option.some.inj h
      exact aq_ireturn (am_dg dkX12_rings (i := 35) rfl) rfl (Or.inl rfl) rfl
  · rw [if_neg hc7] at h
    refine aq_icT (t := 62) (am_dg dkX12_rings (i := 23) rfl) rfl (decide_eq_true hc7) ?_
    refine aq_iload_n (am_dg dkX12_rings (i := 34) rfl) rfl ?_
    obtain rfl := Option.some.inj h
    exact aq_ireturn (am_dg dkX12_rings (i := 35) rfl) rfl (Or.inl rfl) rfl
set_option maxRecDepth 20000 in
theorem T_X12_rings_82 {sc : Option (Nat × (Nat → Int32))} {RF : Nat → Nat → Option Nat} {d : Nat} (hR : am_RFok RF) (hd : 3 ≤ d) {a1 : Int32} {s : am_S} {r : Int32 × am_S} (h : F_X12_rings_82 a1 s = some r) : am_Q sc d mX12_rings (0, am_L0 mX12_rings [.ref 82, .int a1], [], am_hp RF s) (.int r.1, am_hp RF r.2) := by
  obtain ⟨e, rfl⟩ : ∃ e, d = e + 1 := ⟨d - 1, by omega⟩
  unfold F_X12_rings_82 at h
  show am_Q _ _ _ (0, [.ref 82, .int a1, .null], [], _) _
  refine aq_aload_n (am_dg dkX12_rings (i := 0) rfl) rfl ?_
  refine aq_getI (am_dg dkX12_rings (i := 1) rfl) gk_12_434_82 (by decide) ?_
  refine aq_iconst (v := (3 : Int32)) (am_dg dkX12_rings (i := 2) rfl) (by decide) ?_
  by_cases hc1 : (s.1 82 39) = (3 : Int32)
  · rw [if_pos hc1] at h
    refine aq_icF (t := 14) (am_dg dkX12_rings (i := 3) rfl) rfl (decide_eq_false (not_not_intro hc1)) ?_
    refine aq_aload_n (am_dg dkX12_rings (i := 4) rfl) rfl ?_
    refine aq_bipush (v := (51 : Int32)) (am_dg dkX12_rings (i := 5) rfl) (by decide) ?_
    obtain ⟨q2, hq3, h⟩ := am_bnd h
    refine aq_virt (a := [.ref 82, .int (51 : Int32)]) (S1 := []) (v1 := .null) (S2 := []) (am_dg dkX12_rings (i := 6) rfl) cv_12_437_12 (am_cls_c sh_82 (by decide)) rfl rfl rfl (Nat.le_of_ble_eq_true rfl) (Nat.le_of_ble_eq_true rfl) (T_X12_runs_82 hR (by omega) hq3) rfl ?_
    exact T_X12_rings_82_b14 hR (by omega) _ _ _ _ h
  · rw [if_neg hc1] at h
    refine aq_icT (t := 14) (am_dg dkX12_rings (i := 3) rfl) rfl (decide_eq_true hc1) ?_
    exact T_X12_rings_82_b14 hR (by omega) _ _ _ _ h
set_option maxRecDepth 20000 in
theorem T_X12_act_82_b109 {sc : Option (Nat × (Nat → Int32))} {RF : Nat → Nat → Option Nat} {d : Nat} (hR : am_RFok RF) (hd : 4 ≤ d) : ∀ (x3 : Int32) (y0 : Int32) (w1 : Value) (w2 : Value) (w4 : Value) (s : am_S) (r : Int32 × am_S), F_X12_act_82_b109 x3 y0 s = some r → am_Q sc d mX12_act (109, [.ref 82, w1, w2, .int x3, w4], [.int y0], am_hp RF s) (.int r.1, am_hp RF r.2) := by
  obtain ⟨e, rfl⟩ : ∃ e, d = e + 1 := ⟨d - 1, by omega⟩
  intro x3 y0 w1 w2 w4 s r h
  unfold F_X12_act_82_b109 at h
  refine aq_istore (L1 := [.ref 82, w1, w2, .int x3, .int y0]) (am_dg dkX12_act (i := 59) rfl) rfl ?_
  refine aq_aload_n (am_dg dkX12_act (i := 60) rfl) rfl ?_
  refine aq_getI (am_dg dkX12_act (i := 61) rfl) gk_12_428_82 (by decide) ?_
  by_cases hc1 : (s.1 82 40) = (0 : Int32)
  · rw [if_pos hc1] at h
    refine aq_ifT (t := 123) (am_dg dkX12_act (i := 62) rfl) rfl (decide_eq_true hc1) ?_
    refine aq_iload (am_dg dkX12_act (i := 65) rfl) rfl ?_
    obtain rfl := Option.some.inj h
    exact aq_ireturn (am_dg dkX12_act (i := 66) rfl) rfl (Or.inl rfl) rfl
  · rw [if_neg hc1] at h
    refine aq_ifF (t := 123) (am_dg dkX12_act (i := 62) rfl) rfl (decide_eq_false hc1) ?_
    refine aq_bipush (v := (-15 : Int32)) (am_dg dkX12_act (i := 63) rfl) (by decide) ?_
    refine aq_goto (t := 125) (am_dg dkX12_act (i := 64) rfl) rfl ?_
    obtain rfl := Option.some.inj h
    exact aq_ireturn (am_dg dkX12_act (i := 66) rfl) rfl (Or.inl rfl) rfl
set_option maxRecDepth 20000 in
theorem T_X12_act_82 {sc : Option (Nat × (Nat → Int32))} {RF : Nat → Nat → Option Nat} {d : Nat} (hR : am_RFok RF) (hd : 4 ≤ d) {a1 : Int32} {a2 : Int32} {a3 : Int32} {s : am_S} {r : Int32 × am_S} (h : F_X12_act_82 a1 a2 a3 s = some r) : am_Q sc d mX12_act (0, am_L0 mX12_act [.ref 82, .int a1, .int a2, .int a3], [], am_hp RF s) (.int r.1, am_hp RF r.2) := by
  obtain ⟨e, rfl⟩ : ∃ e, d = e + 1 := ⟨d - 1, by omega⟩
  unfold F_X12_act_82 at h
  show am_Q _ _ _ (0, [.ref 82, .int a1, .int a2, .int a3, .null], [], _) _
  refine aq_aload_n (am_dg dkX12_act (i := 0) rfl) rfl ?_
  refine aq_iconst (v := (0 : Int32)) (am_dg dkX12_act (i := 1) rfl) (by decide) ?_
  refine aq_putI (am_dg dkX12_act (i := 2) rfl) gk_12_431_82 ?_
  obtain ⟨s1, hs2, h⟩ := am_bnd h
  rw [Option.some.inj hs2]
  refine aq_aload_n (am_dg dkX12_act (i := 3) rfl) rfl ?_
  refine aq_iconst (v := (0 : Int32)) (am_dg dkX12_act (i := 4) rfl) (by decide) ?_
  refine aq_putZ (am_dg dkX12_act (i := 5) rfl) gk_12_428_82 (by decide) ?_
  obtain ⟨s3, hs4, h⟩ := am_bnd h
  rw [Option.some.inj hs4]
  refine aq_aload_n (am_dg dkX12_act (i := 6) rfl) rfl ?_
  refine aq_aload_n (am_dg dkX12_act (i := 7) rfl) rfl ?_
  refine aq_iload_n (am_dg dkX12_act (i := 8) rfl) rfl ?_
  obtain ⟨q5, hq6, h⟩ := am_bnd h
  refine aq_virt (a := [.ref 82, .int a1]) (S1 := [.ref 82]) (v1 := .int q5.1) (S2 := [.int q5.1, .ref 82]) (am_dg dkX12_act (i := 9) rfl) cv_12_425_12 (am_cls_c sh_82 (by decide)) rfl rfl rfl (Nat.le_of_ble_eq_true rfl) (Nat.le_of_ble_eq_true rfl) (T_X12_onShelf_82 hR (by omega) hq6) rfl ?_
  refine aq_putI (am_dg dkX12_act (i := 10) rfl) gk_12_440_82 ?_
  obtain ⟨s7, hs8, h⟩ := am_bnd h
  rw [Option.some.inj hs8]
  refine aq_aload_n (am_dg dkX12_act (i := 11) rfl) rfl ?_
  refine aq_getI (am_dg dkX12_act (i := 12) rfl) gk_12_440_82 (by decide) ?_
  by_cases hc9 : (s7.1 82 37) < (0 : Int32)
  · rw [if_pos hc9] at h
    refine aq_ifT (t := 38) (am_dg dkX12_act (i := 13) rfl) rfl (decide_eq_true hc9) ?_
    refine aq_iconst (v := (0 : Int32)) (am_dg dkX12_act (i := 20) rfl) (by decide) ?_
    obtain rfl := Option.some.inj h
    exact aq_ireturn (am_dg dkX12_act (i := 21) rfl) rfl (Or.inl rfl) rfl
  · rw [if_neg hc9] at h
    refine aq_ifF (t := 38) (am_dg dkX12_act (i := 13) rfl) rfl (decide_eq_false hc9) ?_
    refine aq_iload_n (am_dg dkX12_act (i := 14) rfl) rfl ?_
    refine aq_i2l (am_dg dkX12_act (i := 15) rfl) ?_
    refine aq_lconst (v := (0 : Int64)) (am_dg dkX12_act (i := 16) rfl) (by decide) ?_
    refine aq_ldc2 (am_dg dkX12_act (i := 17) rfl) cl_12_234 ?_
    obtain ⟨q10, hq11, h⟩ := am_bnd h
    refine aq_static (a := [.long a2.toInt64, .long (0 : Int64), .long (3 : Int64)]) (S1 := []) (v1 := .int q10.1) (S2 := [.int q10.1]) (am_dg dkX12_act (i := 18) rfl) ct_12_61 rfl rfl rfl (Nat.le_of_ble_eq_true rfl) (Nat.le_of_ble_eq_true rfl) (T_X12_in hR (by omega) hq11) rfl ?_
    by_cases hc12 : q10.1 = (0 : Int32)
    · rw [if_pos hc12] at h
      refine aq_ifF (t := 40) (am_dg dkX12_act (i := 19) rfl) rfl (decide_eq_false (not_not_intro hc12)) ?_
      refine aq_iconst (v := (0 : Int32)) (am_dg dkX12_act (i := 20) rfl) (by decide) ?_
      obtain rfl := Option.some.inj h
      exact aq_ireturn (am_dg dkX12_act (i := 21) rfl) rfl (Or.inl rfl) rfl
    · rw [if_neg hc12] at h
      refine aq_ifT (t := 40) (am_dg dkX12_act (i := 19) rfl) rfl (decide_eq_true hc12) ?_
      refine aq_aload_n (am_dg dkX12_act (i := 22) rfl) rfl ?_
      refine aq_aload_n (am_dg dkX12_act (i := 23) rfl) rfl ?_
      refine aq_aload_n (am_dg dkX12_act (i := 24) rfl) rfl ?_
      refine aq_getI (am_dg dkX12_act (i := 25) rfl) gk_12_440_82 (by decide) ?_
      refine aq_iconst (v := (2 : Int32)) (am_dg dkX12_act (i := 26) rfl) (by decide) ?_
      obtain ⟨q13, hq14, h⟩ := am_bnd h
      refine aq_virt (a := [.ref 82, .int (q10.2.1 82 37), .int (2 : Int32)]) (S1 := [.ref 82]) (v1 := .int q13.1) (S2 := [.int q13.1, .ref 82]) (am_dg dkX12_act (i := 27) rfl) cv_12_83_12 (am_cls_c sh_82 (by decide)) rfl rfl rfl (Nat.le_of_ble_eq_true rfl) (Nat.le_of_ble_eq_true rfl) (T_X12_its_82 hR (by omega) hq14) rfl ?_
      refine aq_putI (am_dg dkX12_act (i := 28) rfl) gk_12_446_82 ?_
      obtain ⟨s15, hs16, h⟩ := am_bnd h
      rw [Option.some.inj hs16]
      refine aq_aload_n (am_dg dkX12_act (i := 29) rfl) rfl ?_
      refine aq_aload_n (am_dg dkX12_act (i := 30) rfl) rfl ?_
      refine aq_aload_n (am_dg dkX12_act (i := 31) rfl) rfl ?_
      refine aq_getI (am_dg dkX12_act (i := 32) rfl) gk_12_440_82 (by decide) ?_
      refine aq_iconst (v := (0 : Int32)) (am_dg dkX12_act (i := 33) rfl) (by decide) ?_
      obtain ⟨q17, hq18, h⟩ := am_bnd h
      refine aq_virt (a := [.ref 82, .int (s15.1 82 37), .int (0 : Int32)]) (S1 := [.ref 82]) (v1 := .int q17.1) (S2 := [.int q17.1, .ref 82]) (am_dg dkX12_act (i := 34) rfl) cv_12_83_12 (am_cls_c sh_82 (by decide)) rfl rfl rfl (Nat.le_of_ble_eq_true rfl) (Nat.le_of_ble_eq_true rfl) (T_X12_its_82 hR (by omega) hq18) rfl ?_
      refine aq_putI (am_dg dkX12_act (i := 35) rfl) gk_12_434_82 ?_
      obtain ⟨s19, hs20, h⟩ := am_bnd h
      rw [Option.some.inj hs20]
      refine aq_iload_n (am_dg dkX12_act (i := 36) rfl) rfl ?_
      by_cases hc21 : a2 = (0 : Int32)
      · rw [if_pos hc21] at h
        refine aq_ifF (t := 78) (am_dg dkX12_act (i := 37) rfl) rfl (decide_eq_false (not_not_intro hc21)) ?_
        refine aq_aload_n (am_dg dkX12_act (i := 38) rfl) rfl ?_
        refine aq_iload_n (am_dg dkX12_act (i := 39) rfl) rfl ?_
        obtain ⟨q22, hq23, h⟩ := am_bnd h
        refine aq_virt (a := [.ref 82, .int a3]) (S1 := []) (v1 := .int q22.1) (S2 := [.int q22.1]) (am_dg dkX12_act (i := 40) rfl) cv_12_443_12 (am_cls_c sh_82 (by decide)) rfl rfl rfl (Nat.le_of_ble_eq_true rfl) (Nat.le_of_ble_eq_true rfl) (T_X12_hums_82 hR (by omega) hq23) rfl ?_
        refine aq_goto (t := 109) (am_dg dkX12_act (i := 41) rfl) rfl ?_
        exact T_X12_act_82_b109 hR (by omega) _ _ _ _ _ _ _ h
      · rw [if_neg hc21] at h
        refine aq_ifT (t := 78) (am_dg dkX12_act (i := 37) rfl) rfl (decide_eq_true hc21) ?_
        refine aq_iload_n (am_dg dkX12_act (i := 42) rfl) rfl ?_
        refine aq_iconst (v := (1 : Int32)) (am_dg dkX12_act (i := 43) rfl) (by decide) ?_
        by_cases hc24 : a2 = (1 : Int32)
        · rw [if_pos hc24] at h
          refine aq_icF (t := 91) (am_dg dkX12_act (i := 44) rfl) rfl (decide_eq_false (not_not_intro hc24)) ?_
          refine aq_aload_n (am_dg dkX12_act (i := 45) rfl) rfl ?_
          refine aq_iload_n (am_dg dkX12_act (i := 46) rfl) rfl ?_
          obtain ⟨q25, hq26, h⟩ := am_bnd h
          refine aq_virt (a := [.ref 82, .int a3]) (S1 := []) (v1 := .int q25.1) (S2 := [.int q25.1]) (am_dg dkX12_act (i := 47) rfl) cv_12_452_12 (am_cls_c sh_82 (by decide)) rfl rfl rfl (Nat.le_of_ble_eq_true rfl) (Nat.le_of_ble_eq_true rfl) (T_X12_calls_82 hR (by omega) hq26) rfl ?_
          refine aq_goto (t := 109) (am_dg dkX12_act (i := 48) rfl) rfl ?_
          exact T_X12_act_82_b109 hR (by omega) _ _ _ _ _ _ _ h
        · rw [if_neg hc24] at h
          refine aq_icT (t := 91) (am_dg dkX12_act (i := 44) rfl) rfl (decide_eq_true hc24) ?_
          refine aq_iload_n (am_dg dkX12_act (i := 49) rfl) rfl ?_
          refine aq_iconst (v := (2 : Int32)) (am_dg dkX12_act (i := 50) rfl) (by decide) ?_
          by_cases hc27 : a2 = (2 : Int32)
          · rw [if_pos hc27] at h
            refine aq_icF (t := 104) (am_dg dkX12_act (i := 51) rfl) rfl (decide_eq_false (not_not_intro hc27)) ?_
            refine aq_aload_n (am_dg dkX12_act (i := 52) rfl) rfl ?_
            refine aq_iload_n (am_dg dkX12_act (i := 53) rfl) rfl ?_
            obtain ⟨q28, hq29, h⟩ := am_bnd h
            refine aq_virt (a := [.ref 82, .int a3]) (S1 := []) (v1 := .int q28.1) (S2 := [.int q28.1]) (am_dg dkX12_act (i := 54) rfl) cv_12_455_12 (am_cls_c sh_82 (by decide)) rfl rfl rfl (Nat.le_of_ble_eq_true rfl) (Nat.le_of_ble_eq_true rfl) (T_X12_parts_82 hR (by omega) hq29) rfl ?_
            refine aq_goto (t := 109) (am_dg dkX12_act (i := 55) rfl) rfl ?_
            exact T_X12_act_82_b109 hR (by omega) _ _ _ _ _ _ _ h
          · rw [if_neg hc27] at h
            refine aq_icT (t := 104) (am_dg dkX12_act (i := 51) rfl) rfl (decide_eq_true hc27) ?_
            refine aq_aload_n (am_dg dkX12_act (i := 56) rfl) rfl ?_
            refine aq_iload_n (am_dg dkX12_act (i := 57) rfl) rfl ?_
            obtain ⟨q30, hq31, h⟩ := am_bnd h
            refine aq_virt (a := [.ref 82, .int a3]) (S1 := []) (v1 := .int q30.1) (S2 := [.int q30.1]) (am_dg dkX12_act (i := 58) rfl) cv_12_458_12 (am_cls_c sh_82 (by decide)) rfl rfl rfl (Nat.le_of_ble_eq_true rfl) (Nat.le_of_ble_eq_true rfl) (T_X12_rings_82 hR (by omega) hq31) rfl ?_
            exact T_X12_act_82_b109 hR (by omega) _ _ _ _ _ _ _ h
set_option maxRecDepth 20000 in
theorem T_X11_trace_0 {sc : Option (Nat × (Nat → Int32))} {RF : Nat → Nat → Option Nat} {d : Nat} (hR : am_RFok RF) (hd : 1 ≤ d) {a1 : Int32} {s : am_S} {r : Int32 × am_S} (h : F_X11_trace_0 a1 s = some r) : am_Q sc d mX11_trace (0, am_L0 mX11_trace [.ref 0, .int a1], [], am_hp RF s) (.int r.1, am_hp RF r.2) := by
  obtain ⟨e, rfl⟩ : ∃ e, d = e + 1 := ⟨d - 1, by omega⟩
  unfold F_X11_trace_0 at h
  show am_Q _ _ _ (0, [.ref 0, .int a1], [], _) _
  refine aq_iload_n (am_dg dkX11_trace (i := 0) rfl) rfl ?_
  refine aq_iconst (v := (0 : Int32)) (am_dg dkX11_trace (i := 1) rfl) (by decide) ?_
  refine aq_aload_n (am_dg dkX11_trace (i := 2) rfl) rfl ?_
  refine aq_getR (am_dg dkX11_trace (i := 3) rfl) gk_11_62_0 (rf_0_5 hR) ?_
  refine aq_getI (am_dg dkX11_trace (i := 4) rfl) gk_11_395_70 (by decide) ?_
  refine aq_iconst (v := (1 : Int32)) (am_dg dkX11_trace (i := 5) rfl) (by decide) ?_
  refine aq_isub (am_dg dkX11_trace (i := 6) rfl) ?_
  obtain ⟨q1, hq2, h⟩ := am_bnd h
  refine aq_static (a := [.int a1, .int (0 : Int32), .int ((s.1 70 3) - (1 : Int32))]) (S1 := []) (v1 := .int q1.1) (S2 := [.int q1.1]) (am_dg dkX11_trace (i := 7) rfl) ct_11_149 rfl rfl rfl (Nat.le_of_ble_eq_true rfl) (Nat.le_of_ble_eq_true rfl) (T_X11_isWithin hR (by omega) hq2) rfl ?_
  by_cases hc3 : q1.1 = (0 : Int32)
  · rw [if_pos hc3] at h
    refine aq_ifT (t := 29) (am_dg dkX11_trace (i := 8) rfl) rfl (decide_eq_true hc3) ?_
    refine aq_bipush (v := (-3 : Int32)) (am_dg dkX11_trace (i := 15) rfl) (by decide) ?_
    obtain rfl := Option.some.inj h
    exact aq_ireturn (am_dg dkX11_trace (i := 16) rfl) rfl (Or.inl rfl) rfl
  · rw [if_neg hc3] at h
    refine aq_ifF (t := 29) (am_dg dkX11_trace (i := 8) rfl) rfl (decide_eq_false hc3) ?_
    refine aq_aload_n (am_dg dkX11_trace (i := 9) rfl) rfl ?_
    refine aq_getR (am_dg dkX11_trace (i := 10) rfl) gk_11_62_0 (rf_0_5 hR) ?_
    refine aq_getR (am_dg dkX11_trace (i := 11) rfl) gk_11_398_70 (rf_70_4 hR) ?_
    refine aq_iload_n (am_dg dkX11_trace (i := 12) rfl) rfl ?_
    obtain ⟨hg4, h⟩ := am_guard h
    refine aq_iald (am_dg dkX11_trace (i := 13) rfl) sh_71 hg4 ?_
    refine aq_goto (t := 31) (am_dg dkX11_trace (i := 14) rfl) rfl ?_
    obtain rfl := Option.some.inj h
    exact aq_ireturn (am_dg dkX11_trace (i := 16) rfl) rfl (Or.inl rfl) rfl
set_option maxRecDepth 20000 in
theorem T_X12_traced_82 {sc : Option (Nat × (Nat → Int32))} {RF : Nat → Nat → Option Nat} {d : Nat} (hR : am_RFok RF) (hd : 0 ≤ d) {s : am_S} {r : Int32 × am_S} (h : F_X12_traced_82 s = some r) : am_Q sc d mX12_traced (0, am_L0 mX12_traced [.ref 82], [], am_hp RF s) (.int r.1, am_hp RF r.2) := by
  unfold F_X12_traced_82 at h
  show am_Q _ _ _ (0, [.ref 82], [], _) _
  refine aq_aload_n (am_dg dkX12_traced (i := 0) rfl) rfl ?_
  refine aq_getI (am_dg dkX12_traced (i := 1) rfl) gk_12_431_82 (by decide) ?_
  refine aq_bipush (v := (30 : Int32)) (am_dg dkX12_traced (i := 2) rfl) (by decide) ?_
  by_cases hc1 : (30 : Int32) ≤ (s.1 82 36)
  · rw [if_pos hc1] at h
    refine aq_icT (t := 16) (am_dg dkX12_traced (i := 3) rfl) rfl (decide_eq_true hc1) ?_
    refine aq_bipush (v := (30 : Int32)) (am_dg dkX12_traced (i := 7) rfl) (by decide) ?_
    obtain rfl := Option.some.inj h
    exact aq_ireturn (am_dg dkX12_traced (i := 8) rfl) rfl (Or.inl rfl) rfl
  · rw [if_neg hc1] at h
    refine aq_icF (t := 16) (am_dg dkX12_traced (i := 3) rfl) rfl (decide_eq_false hc1) ?_
    refine aq_aload_n (am_dg dkX12_traced (i := 4) rfl) rfl ?_
    refine aq_getI (am_dg dkX12_traced (i := 5) rfl) gk_12_431_82 (by decide) ?_
    refine aq_goto (t := 18) (am_dg dkX12_traced (i := 6) rfl) rfl ?_
    obtain rfl := Option.some.inj h
    exact aq_ireturn (am_dg dkX12_traced (i := 8) rfl) rfl (Or.inl rfl) rfl
set_option maxRecDepth 20000 in
theorem T_X12_trace_82 {sc : Option (Nat × (Nat → Int32))} {RF : Nat → Nat → Option Nat} {d : Nat} (hR : am_RFok RF) (hd : 1 ≤ d) {a1 : Int32} {s : am_S} {r : Int32 × am_S} (h : F_X12_trace_82 a1 s = some r) : am_Q sc d mX12_trace (0, am_L0 mX12_trace [.ref 82, .int a1], [], am_hp RF s) (.int r.1, am_hp RF r.2) := by
  obtain ⟨e, rfl⟩ : ∃ e, d = e + 1 := ⟨d - 1, by omega⟩
  unfold F_X12_trace_82 at h
  show am_Q _ _ _ (0, [.ref 82, .int a1], [], _) _
  refine aq_iload_n (am_dg dkX12_trace (i := 0) rfl) rfl ?_
  refine aq_i2l (am_dg dkX12_trace (i := 1) rfl) ?_
  refine aq_lconst (v := (0 : Int64)) (am_dg dkX12_trace (i := 2) rfl) (by decide) ?_
  refine aq_aload_n (am_dg dkX12_trace (i := 3) rfl) rfl ?_
  obtain ⟨q1, hq2, h⟩ := am_bnd h
  refine aq_virt (a := [.ref 82]) (S1 := [.long (0 : Int64), .long a1.toInt64]) (v1 := .int q1.1) (S2 := [.int q1.1, .long (0 : Int64), .long a1.toInt64]) (am_dg dkX12_trace (i := 4) rfl) cv_12_461_12 (am_cls_c sh_82 (by decide)) rfl rfl rfl (Nat.le_of_ble_eq_true rfl) (Nat.le_of_ble_eq_true rfl) (T_X12_traced_82 hR (by omega) hq2) rfl ?_
  refine aq_iconst (v := (1 : Int32)) (am_dg dkX12_trace (i := 5) rfl) (by decide) ?_
  refine aq_isub (am_dg dkX12_trace (i := 6) rfl) ?_
  refine aq_i2l (am_dg dkX12_trace (i := 7) rfl) ?_
  obtain ⟨q3, hq4, h⟩ := am_bnd h
  refine aq_static (a := [.long a1.toInt64, .long (0 : Int64), .long (q1.1 - (1 : Int32)).toInt64]) (S1 := []) (v1 := .int q3.1) (S2 := [.int q3.1]) (am_dg dkX12_trace (i := 8) rfl) ct_12_61 rfl rfl rfl (Nat.le_of_ble_eq_true rfl) (Nat.le_of_ble_eq_true rfl) (T_X12_in hR (by omega) hq4) rfl ?_
  by_cases hc5 : q3.1 = (0 : Int32)
  · rw [if_pos hc5] at h
    refine aq_ifT (t := 25) (am_dg dkX12_trace (i := 9) rfl) rfl (decide_eq_true hc5) ?_
    refine aq_bipush (v := (-3 : Int32)) (am_dg dkX12_trace (i := 15) rfl) (by decide) ?_
    obtain rfl := Option.some.inj h
    exact aq_ireturn (am_dg dkX12_trace (i := 16) rfl) rfl (Or.inl rfl) rfl
  · rw [if_neg hc5] at h
    refine aq_ifF (t := 25) (am_dg dkX12_trace (i := 9) rfl) rfl (decide_eq_false hc5) ?_
    refine aq_aload_n (am_dg dkX12_trace (i := 10) rfl) rfl ?_
    refine aq_getR (am_dg dkX12_trace (i := 11) rfl) gk_12_58_82 (rf_82_35 hR) ?_
    refine aq_iload_n (am_dg dkX12_trace (i := 12) rfl) rfl ?_
    obtain ⟨hg6, h⟩ := am_guard h
    refine aq_iald (am_dg dkX12_trace (i := 13) rfl) sh_99 hg6 ?_
    refine aq_goto (t := 27) (am_dg dkX12_trace (i := 14) rfl) rfl ?_
    obtain rfl := Option.some.inj h
    exact aq_ireturn (am_dg dkX12_trace (i := 16) rfl) rfl (Or.inl rfl) rfl
set_option maxRecDepth 20000 in
theorem T_X11_many_0 {sc : Option (Nat × (Nat → Int32))} {RF : Nat → Nat → Option Nat} {d : Nat} (hR : am_RFok RF) (hd : 1 ≤ d) {a1 : Int32} {s : am_S} {r : Int32 × am_S} (h : F_X11_many_0 a1 s = some r) : am_Q sc d mX11_many (0, am_L0 mX11_many [.ref 0, .int a1], [], am_hp RF s) (.int r.1, am_hp RF r.2) := by
  obtain ⟨e, rfl⟩ : ∃ e, d = e + 1 := ⟨d - 1, by omega⟩
  unfold F_X11_many_0 at h
  show am_Q _ _ _ (0, [.ref 0, .int a1], [], _) _
  refine aq_iload_n (am_dg dkX11_many (i := 0) rfl) rfl ?_
  by_cases hc1 : a1 = (0 : Int32)
  · rw [if_pos hc1] at h
    refine aq_tsw (t := 44) (am_dg dkX11_many (i := 1) rfl) (by rw [hc1]; rfl) ?_
    refine aq_aload_n (am_dg dkX11_many (i := 2) rfl) rfl ?_
    refine aq_getR (am_dg dkX11_many (i := 3) rfl) gk_11_30_0 (rf_0_0 hR) ?_
    refine aq_getI (am_dg dkX11_many (i := 4) rfl) gk_11_401_8 (by decide) ?_
    obtain rfl := Option.some.inj h
    exact aq_ireturn (am_dg dkX11_many (i := 5) rfl) rfl (Or.inl rfl) rfl
  rw [if_neg hc1] at h
  by_cases hc2 : a1 = (1 : Int32)
  · rw [if_pos hc2] at h
    refine aq_tsw (t := 52) (am_dg dkX11_many (i := 1) rfl) (by rw [hc2]; rfl) ?_
    refine aq_aload_n (am_dg dkX11_many (i := 6) rfl) rfl ?_
    refine aq_getR (am_dg dkX11_many (i := 7) rfl) gk_11_30_0 (rf_0_0 hR) ?_
    refine aq_getR (am_dg dkX11_many (i := 8) rfl) gk_11_197_8 (rf_8_16 hR) ?_
    refine aq_getI (am_dg dkX11_many (i := 9) rfl) gk_11_402_17 (by decide) ?_
    obtain rfl := Option.some.inj h
    exact aq_ireturn (am_dg dkX11_many (i := 10) rfl) rfl (Or.inl rfl) rfl
  rw [if_neg hc2] at h
  by_cases hc3 : a1 = (2 : Int32)
  · rw [if_pos hc3] at h
    refine aq_tsw (t := 63) (am_dg dkX11_many (i := 1) rfl) (by rw [hc3]; rfl) ?_
    refine aq_aload_n (am_dg dkX11_many (i := 11) rfl) rfl ?_
    refine aq_getR (am_dg dkX11_many (i := 12) rfl) gk_11_30_0 (rf_0_0 hR) ?_
    refine aq_getI (am_dg dkX11_many (i := 13) rfl) gk_11_186_8 (by decide) ?_
    obtain ⟨q4, hq5, h⟩ := am_bnd h
    refine aq_static (a := [.int (s.1 8 6)]) (S1 := []) (v1 := .int q4.1) (S2 := [.int q4.1]) (am_dg dkX11_many (i := 14) rfl) ct_11_405 rfl rfl rfl (Nat.le_of_ble_eq_true rfl) (Nat.le_of_ble_eq_true rfl) (T_J6_bitCount_0f7a4 hR (by omega) hq5) rfl ?_
    obtain rfl := Option.some.inj h
    exact aq_ireturn (am_dg dkX11_many (i := 15) rfl) rfl (Or.inl rfl) rfl
  rw [if_neg hc3] at h
  by_cases hc6 : a1 = (3 : Int32)
  · rw [if_pos hc6] at h
    refine aq_tsw (t := 74) (am_dg dkX11_many (i := 1) rfl) (by rw [hc6]; rfl) ?_
    refine aq_aload_n (am_dg dkX11_many (i := 16) rfl) rfl ?_
    refine aq_getR (am_dg dkX11_many (i := 17) rfl) gk_11_30_0 (rf_0_0 hR) ?_
    refine aq_getI (am_dg dkX11_many (i := 18) rfl) gk_11_286_8 (by decide) ?_
    obtain rfl := Option.some.inj h
    exact aq_ireturn (am_dg dkX11_many (i := 19) rfl) rfl (Or.inl rfl) rfl
  rw [if_neg hc6] at h
  by_cases hc7 : a1 = (4 : Int32)
  · rw [if_pos hc7] at h
    refine aq_tsw (t := 82) (am_dg dkX11_many (i := 1) rfl) (by rw [hc7]; rfl) ?_
    refine aq_aload_n (am_dg dkX11_many (i := 20) rfl) rfl ?_
    refine aq_getR (am_dg dkX11_many (i := 21) rfl) gk_11_55_0 (rf_0_4 hR) ?_
    refine aq_getI (am_dg dkX11_many (i := 22) rfl) gk_11_410_50 (by decide) ?_
    obtain rfl := Option.some.inj h
    exact aq_ireturn (am_dg dkX11_many (i := 23) rfl) rfl (Or.inl rfl) rfl
  rw [if_neg hc7] at h
  by_cases hc8 : a1 = (5 : Int32)
  · rw [if_pos hc8] at h
    refine aq_tsw (t := 90) (am_dg dkX11_many (i := 1) rfl) (by rw [hc8]; rfl) ?_
    refine aq_aload_n (am_dg dkX11_many (i := 24) rfl) rfl ?_
    refine aq_getR (am_dg dkX11_many (i := 25) rfl) gk_11_46_0 (rf_0_3 hR) ?_
    refine aq_getI (am_dg dkX11_many (i := 26) rfl) gk_11_413_40 (by decide) ?_
    obtain rfl := Option.some.inj h
    exact aq_ireturn (am_dg dkX11_many (i := 27) rfl) rfl (Or.inl rfl) rfl
  rw [if_neg hc8] at h
  by_cases hc9 : a1 = (6 : Int32)
  · rw [if_pos hc9] at h
    refine aq_tsw (t := 98) (am_dg dkX11_many (i := 1) rfl) (by rw [hc9]; rfl) ?_
    refine aq_aload_n (am_dg dkX11_many (i := 28) rfl) rfl ?_
    refine aq_getR (am_dg dkX11_many (i := 29) rfl) gk_11_62_0 (rf_0_5 hR) ?_
    refine aq_getI (am_dg dkX11_many (i := 30) rfl) gk_11_395_70 (by decide) ?_
    obtain rfl := Option.some.inj h
    exact aq_ireturn (am_dg dkX11_many (i := 31) rfl) rfl (Or.inl rfl) rfl
  rw [if_neg hc9] at h
  refine aq_tsw (t := 106) (am_dg dkX11_many (i := 1) rfl) (am_tsw_d (by have := lv_neT hc1 (show ((0 : Int32)).toInt = 0 by decide); have := lv_neT hc2 (show ((1 : Int32)).toInt = 1 by decide); have := lv_neT hc3 (show ((2 : Int32)).toInt = 2 by decide); have := lv_neT hc6 (show ((3 : Int32)).toInt = 3 by decide); have := lv_neT hc7 (show ((4 : Int32)).toInt = 4 by decide); have := lv_neT hc8 (show ((5 : Int32)).toInt = 5 by decide); have := lv_neT hc9 (show ((6 : Int32)).toInt = 6 by decide); omega) rfl) ?_
  refine aq_iconst (v := (-1 : Int32)) (am_dg dkX11_many (i := 32) rfl) (by decide) ?_
  obtain rfl := Option.some.inj h
  exact aq_ireturn (am_dg dkX11_many (i := 33) rfl) rfl (Or.inl rfl) rfl
set_option maxRecDepth 20000 in
theorem T_X12_ones_b4 {sc : Option (Nat × (Nat → Int32))} {RF : Nat → Nat → Option Nat} {d : Nat} (hR : am_RFok RF) (hd : 0 ≤ d) : ∀ (n : Nat) (x0 : Int32) (x1 : Int32) (x2 : Int32) (s : am_S) (r : Int32 × am_S), F_X12_ones_b4 n x0 x1 x2 s = some r → am_Q sc d mX12_ones (4, [.int x0, .int x1, .int x2], [], am_hp RF s) (.int r.1, am_hp RF r.2) := by
  intro n
  induction n with
  | zero => intro x0 x1 x2 s r h; rw [F_X12_ones_b4] at h; cases h
  | succ n ih =>
  intro x0 x1 x2 s r h
  rw [F_X12_ones_b4] at h
  refine aq_iload_n (am_dg dkX12_ones (i := 4) rfl) rfl ?_
  by_cases hc1 : x2 = (0 : Int32)
  · rw [if_pos hc1] at h
    refine aq_ifT (t := 20) (am_dg dkX12_ones (i := 5) rfl) rfl (decide_eq_true hc1) ?_
    refine aq_iload_n (am_dg dkX12_ones (i := 14) rfl) rfl ?_
    obtain rfl := Option.some.inj h
    exact aq_ireturn (am_dg dkX12_ones (i := 15) rfl) rfl (Or.inl rfl) rfl
  · rw [if_neg hc1] at h
    refine aq_ifF (t := 20) (am_dg dkX12_ones (i := 5) rfl) rfl (decide_eq_false hc1) ?_
    refine aq_iinc (v := (1 : Int32)) (L1 := [.int x0, .int (x1 + (1 : Int32)), .int x2]) (am_dg dkX12_ones (i := 6) rfl) rfl (by decide) rfl ?_
    refine aq_iload_n (am_dg dkX12_ones (i := 7) rfl) rfl ?_
    refine aq_iload_n (am_dg dkX12_ones (i := 8) rfl) rfl ?_
    refine aq_iconst (v := (1 : Int32)) (am_dg dkX12_ones (i := 9) rfl) (by decide) ?_
    refine aq_isub (am_dg dkX12_ones (i := 10) rfl) ?_
    refine aq_iand (am_dg dkX12_ones (i := 11) rfl) ?_
    refine aq_istore_n (L1 := [.int x0, .int (x1 + (1 : Int32)), .int (x2 &&& (x2 - (1 : Int32)))]) (am_dg dkX12_ones (i := 12) rfl) rfl ?_
    refine aq_goto (t := 4) (am_dg dkX12_ones (i := 13) rfl) rfl ?_
    exact ih _ _ _ _ _ h
set_option maxRecDepth 20000 in
theorem T_X12_ones {sc : Option (Nat × (Nat → Int32))} {RF : Nat → Nat → Option Nat} {d : Nat} (hR : am_RFok RF) (hd : 0 ≤ d) {a0 : Int32} {s : am_S} {r : Int32 × am_S} (h : F_X12_ones a0 s = some r) : am_Q sc d mX12_ones (0, am_L0 mX12_ones [.int a0], [], am_hp RF s) (.int r.1, am_hp RF r.2) := by
  unfold F_X12_ones at h
  show am_Q _ _ _ (0, [.int a0, .null, .null], [], _) _
  refine aq_iconst (v := (0 : Int32)) (am_dg dkX12_ones (i := 0) rfl) (by decide) ?_
  refine aq_istore_n (L1 := [.int a0, .int (0 : Int32), .null]) (am_dg dkX12_ones (i := 1) rfl) rfl ?_
  refine aq_iload_n (am_dg dkX12_ones (i := 2) rfl) rfl ?_
  refine aq_istore_n (L1 := [.int a0, .int (0 : Int32), .int a0]) (am_dg dkX12_ones (i := 3) rfl) rfl ?_
  exact T_X12_ones_b4 hR (by omega) _ _ _ _ _ _ h
set_option maxRecDepth 20000 in
theorem T_X12_many_82 {sc : Option (Nat × (Nat → Int32))} {RF : Nat → Nat → Option Nat} {d : Nat} (hR : am_RFok RF) (hd : 3 ≤ d) {a1 : Int32} {s : am_S} {r : Int32 × am_S} (h : F_X12_many_82 a1 s = some r) : am_Q sc d mX12_many (0, am_L0 mX12_many [.ref 82, .int a1], [], am_hp RF s) (.int r.1, am_hp RF r.2) := by
  obtain ⟨e, rfl⟩ : ∃ e, d = e + 1 := ⟨d - 1, by omega⟩
  unfold F_X12_many_82 at h
  show am_Q _ _ _ (0, [.ref 82, .int a1], [], _) _
  refine aq_iload_n (am_dg dkX12_many (i := 0) rfl) rfl ?_
  by_cases hc1 : a1 = (0 : Int32)
  · rw [if_pos hc1] at h
    refine aq_tsw (t := 44) (am_dg dkX12_many (i := 1) rfl) (by rw [hc1]; rfl) ?_
    refine aq_aload_n (am_dg dkX12_many (i := 2) rfl) rfl ?_
    refine aq_getR (am_dg dkX12_many (i := 3) rfl) gk_12_7_82 (rf_82_0 hR) ?_
    refine aq_iconst (v := (0 : Int32)) (am_dg dkX12_many (i := 4) rfl) (by decide) ?_
    obtain ⟨hg2, h⟩ := am_guard h
    refine aq_iald (am_dg dkX12_many (i := 5) rfl) sh_83 hg2 ?_
    obtain rfl := Option.some.inj h
    exact aq_ireturn (am_dg dkX12_many (i := 6) rfl) rfl (Or.inl rfl) rfl
  rw [if_neg hc1] at h
  by_cases hc3 : a1 = (1 : Int32)
  · rw [if_pos hc3] at h
    refine aq_tsw (t := 51) (am_dg dkX12_many (i := 1) rfl) (by rw [hc3]; rfl) ?_
    refine aq_aload_n (am_dg dkX12_many (i := 7) rfl) rfl ?_
    refine aq_getR (am_dg dkX12_many (i := 8) rfl) gk_12_7_82 (rf_82_0 hR) ?_
    refine aq_iconst (v := (1 : Int32)) (am_dg dkX12_many (i := 9) rfl) (by decide) ?_
    obtain ⟨hg4, h⟩ := am_guard h
    refine aq_iald (am_dg dkX12_many (i := 10) rfl) sh_83 hg4 ?_
    obtain rfl := Option.some.inj h
    exact aq_ireturn (am_dg dkX12_many (i := 11) rfl) rfl (Or.inl rfl) rfl
  rw [if_neg hc3] at h
  by_cases hc5 : a1 = (2 : Int32)
  · rw [if_pos hc5] at h
    refine aq_tsw (t := 58) (am_dg dkX12_many (i := 1) rfl) (by rw [hc5]; rfl) ?_
    refine aq_aload_n (am_dg dkX12_many (i := 12) rfl) rfl ?_
    obtain ⟨q6, hq7, h⟩ := am_bnd h
    refine aq_virt (a := [.ref 82]) (S1 := []) (v1 := .int q6.1) (S2 := [.int q6.1]) (am_dg dkX12_many (i := 13) rfl) cv_12_122_12 (am_cls_c sh_82 (by decide)) rfl rfl rfl (Nat.le_of_ble_eq_true rfl) (Nat.le_of_ble_eq_true rfl) (T_X12_caught_82 hR (by omega) hq7) rfl ?_
    obtain ⟨q8, hq9, h⟩ := am_bnd h
    refine aq_static (a := [.int q6.1]) (S1 := []) (v1 := .int q8.1) (S2 := [.int q8.1]) (am_dg dkX12_many (i := 14) rfl) ct_12_464 rfl rfl rfl (Nat.le_of_ble_eq_true rfl) (Nat.le_of_ble_eq_true rfl) (T_X12_ones hR (by omega) hq9) rfl ?_
    obtain rfl := Option.some.inj h
    exact aq_ireturn (am_dg dkX12_many (i := 15) rfl) rfl (Or.inl rfl) rfl
  rw [if_neg hc5] at h
  by_cases hc10 : a1 = (3 : Int32)
  · rw [if_pos hc10] at h
    refine aq_tsw (t := 66) (am_dg dkX12_many (i := 1) rfl) (by rw [hc10]; rfl) ?_
    refine aq_aload_n (am_dg dkX12_many (i := 16) rfl) rfl ?_
    refine aq_getR (am_dg dkX12_many (i := 17) rfl) gk_12_7_82 (rf_82_0 hR) ?_
    refine aq_bipush (v := (6 : Int32)) (am_dg dkX12_many (i := 18) rfl) (by decide) ?_
    obtain ⟨hg11, h⟩ := am_guard h
    refine aq_iald (am_dg dkX12_many (i := 19) rfl) sh_83 hg11 ?_
    obtain rfl := Option.some.inj h
    exact aq_ireturn (am_dg dkX12_many (i := 20) rfl) rfl (Or.inl rfl) rfl
  rw [if_neg hc10] at h
  by_cases hc12 : a1 = (4 : Int32)
  · rw [if_pos hc12] at h
    refine aq_tsw (t := 74) (am_dg dkX12_many (i := 1) rfl) (by rw [hc12]; rfl) ?_
    refine aq_aload_n (am_dg dkX12_many (i := 21) rfl) rfl ?_
    refine aq_getI (am_dg dkX12_many (i := 22) rfl) gk_12_272_82 (by decide) ?_
    obtain rfl := Option.some.inj h
    exact aq_ireturn (am_dg dkX12_many (i := 23) rfl) rfl (Or.inl rfl) rfl
  rw [if_neg hc12] at h
  by_cases hc13 : a1 = (5 : Int32)
  · rw [if_pos hc13] at h
    refine aq_tsw (t := 79) (am_dg dkX12_many (i := 1) rfl) (by rw [hc13]; rfl) ?_
    refine aq_aload_n (am_dg dkX12_many (i := 24) rfl) rfl ?_
    refine aq_getI (am_dg dkX12_many (i := 25) rfl) gk_12_281_82 (by decide) ?_
    obtain rfl := Option.some.inj h
    exact aq_ireturn (am_dg dkX12_many (i := 26) rfl) rfl (Or.inl rfl) rfl
  rw [if_neg hc13] at h
  by_cases hc14 : a1 = (6 : Int32)
  · rw [if_pos hc14] at h
    refine aq_tsw (t := 84) (am_dg dkX12_many (i := 1) rfl) (by rw [hc14]; rfl) ?_
    refine aq_aload_n (am_dg dkX12_many (i := 27) rfl) rfl ?_
    obtain ⟨q15, hq16, h⟩ := am_bnd h
    refine aq_virt (a := [.ref 82]) (S1 := []) (v1 := .int q15.1) (S2 := [.int q15.1]) (am_dg dkX12_many (i := 28) rfl) cv_12_461_12 (am_cls_c sh_82 (by decide)) rfl rfl rfl (Nat.le_of_ble_eq_true rfl) (Nat.le_of_ble_eq_true rfl) (T_X12_traced_82 hR (by omega) hq16) rfl ?_
    obtain rfl := Option.some.inj h
    exact aq_ireturn (am_dg dkX12_many (i := 29) rfl) rfl (Or.inl rfl) rfl
  rw [if_neg hc14] at h
  refine aq_tsw (t := 89) (am_dg dkX12_many (i := 1) rfl) (am_tsw_d (by have := lv_neT hc1 (show ((0 : Int32)).toInt = 0 by decide); have := lv_neT hc3 (show ((1 : Int32)).toInt = 1 by decide); have := lv_neT hc5 (show ((2 : Int32)).toInt = 2 by decide); have := lv_neT hc10 (show ((3 : Int32)).toInt = 3 by decide); have := lv_neT hc12 (show ((4 : Int32)).toInt = 4 by decide); have := lv_neT hc13 (show ((5 : Int32)).toInt = 5 by decide); have := lv_neT hc14 (show ((6 : Int32)).toInt = 6 by decide); omega) rfl) ?_
  refine aq_iconst (v := (-1 : Int32)) (am_dg dkX12_many (i := 30) rfl) (by decide) ?_
  obtain rfl := Option.some.inj h
  exact aq_ireturn (am_dg dkX12_many (i := 31) rfl) rfl (Or.inl rfl) rfl
set_option maxRecDepth 20000 in
theorem T_X7_becomeLike_33_17 {sc : Option (Nat × (Nat → Int32))} {RF : Nat → Nat → Option Nat} {d : Nat} (hR : am_RFok RF) (hd : 0 ≤ d) {s : am_S} {r : am_S} (h : F_X7_becomeLike_33_17 s = some r) : am_Q sc d mX7_becomeLike (0, am_L0 mX7_becomeLike [.ref 33, .ref 17], [], am_hp RF s) (.null, am_hp RF r) := by
  unfold F_X7_becomeLike_33_17 at h
  show am_Q _ _ _ (0, [.ref 33, .ref 17], [], _) _
  refine aq_aload_n (am_dg dkX7_becomeLike (i := 0) rfl) rfl ?_
  refine aq_aload_n (am_dg dkX7_becomeLike (i := 1) rfl) rfl ?_
  refine aq_getI (am_dg dkX7_becomeLike (i := 2) rfl) gk_7_29_17 (by decide) ?_
  refine aq_putI (am_dg dkX7_becomeLike (i := 3) rfl) gk_7_29_33 ?_
  obtain ⟨s1, hs2, h⟩ := am_bnd h
  rw [Option.some.inj hs2]
  refine aq_aload_n (am_dg dkX7_becomeLike (i := 4) rfl) rfl ?_
  refine aq_aload_n (am_dg dkX7_becomeLike (i := 5) rfl) rfl ?_
  refine aq_getI (am_dg dkX7_becomeLike (i := 6) rfl) gk_7_33_17 (by decide) ?_
  refine aq_putI (am_dg dkX7_becomeLike (i := 7) rfl) gk_7_33_33 ?_
  obtain ⟨s3, hs4, h⟩ := am_bnd h
  rw [Option.some.inj hs4]
  refine aq_aload_n (am_dg dkX7_becomeLike (i := 8) rfl) rfl ?_
  refine aq_getR (am_dg dkX7_becomeLike (i := 9) rfl) gk_7_11_17 (rf_17_2 hR) ?_
  refine aq_iconst (v := (0 : Int32)) (am_dg dkX7_becomeLike (i := 10) rfl) (by decide) ?_
  refine aq_aload_n (am_dg dkX7_becomeLike (i := 11) rfl) rfl ?_
  refine aq_getR (am_dg dkX7_becomeLike (i := 12) rfl) gk_7_11_33 (rf_33_2 hR) ?_
  refine aq_iconst (v := (0 : Int32)) (am_dg dkX7_becomeLike (i := 13) rfl) (by decide) ?_
  refine aq_bipush (v := (8 : Int32)) (am_dg dkX7_becomeLike (i := 14) rfl) (by decide) ?_
  obtain ⟨hg5, h⟩ := am_guard h
  refine aq_copy (am_dg dkX7_becomeLike (i := 15) rfl) yk_7_36.1 yk_7_36.2 (Nat.le_of_ble_eq_true rfl) sh_18 sh_34 hg5 ?_
  obtain ⟨s6, hs7, h⟩ := am_bnd h
  rw [Option.some.inj hs7]
  refine aq_aload_n (am_dg dkX7_becomeLike (i := 16) rfl) rfl ?_
  refine aq_getR (am_dg dkX7_becomeLike (i := 17) rfl) gk_7_15_17 (rf_17_3 hR) ?_
  refine aq_iconst (v := (0 : Int32)) (am_dg dkX7_becomeLike (i := 18) rfl) (by decide) ?_
  refine aq_aload_n (am_dg dkX7_becomeLike (i := 19) rfl) rfl ?_
  refine aq_getR (am_dg dkX7_becomeLike (i := 20) rfl) gk_7_15_33 (rf_33_3 hR) ?_
  refine aq_iconst (v := (0 : Int32)) (am_dg dkX7_becomeLike (i := 21) rfl) (by decide) ?_
  refine aq_bipush (v := (8 : Int32)) (am_dg dkX7_becomeLike (i := 22) rfl) (by decide) ?_
  obtain ⟨hg8, h⟩ := am_guard h
  refine aq_copy (am_dg dkX7_becomeLike (i := 23) rfl) yk_7_36.1 yk_7_36.2 (Nat.le_of_ble_eq_true rfl) sh_19 sh_35 hg8 ?_
  obtain ⟨s9, hs10, h⟩ := am_bnd h
  rw [Option.some.inj hs10]
  refine aq_aload_n (am_dg dkX7_becomeLike (i := 24) rfl) rfl ?_
  refine aq_getR (am_dg dkX7_becomeLike (i := 25) rfl) gk_7_18_17 (rf_17_4 hR) ?_
  refine aq_iconst (v := (0 : Int32)) (am_dg dkX7_becomeLike (i := 26) rfl) (by decide) ?_
  refine aq_aload_n (am_dg dkX7_becomeLike (i := 27) rfl) rfl ?_
  refine aq_getR (am_dg dkX7_becomeLike (i := 28) rfl) gk_7_18_33 (rf_33_4 hR) ?_
  refine aq_iconst (v := (0 : Int32)) (am_dg dkX7_becomeLike (i := 29) rfl) (by decide) ?_
  refine aq_bipush (v := (8 : Int32)) (am_dg dkX7_becomeLike (i := 30) rfl) (by decide) ?_
  obtain ⟨hg11, h⟩ := am_guard h
  refine aq_copy (am_dg dkX7_becomeLike (i := 31) rfl) yk_7_36.1 yk_7_36.2 (Nat.le_of_ble_eq_true rfl) sh_20 sh_36 hg11 ?_
  obtain ⟨s12, hs13, h⟩ := am_bnd h
  rw [Option.some.inj hs13]
  refine aq_aload_n (am_dg dkX7_becomeLike (i := 32) rfl) rfl ?_
  refine aq_getR (am_dg dkX7_becomeLike (i := 33) rfl) gk_7_21_17 (rf_17_5 hR) ?_
  refine aq_iconst (v := (0 : Int32)) (am_dg dkX7_becomeLike (i := 34) rfl) (by decide) ?_
  refine aq_aload_n (am_dg dkX7_becomeLike (i := 35) rfl) rfl ?_
  refine aq_getR (am_dg dkX7_becomeLike (i := 36) rfl) gk_7_21_33 (rf_33_5 hR) ?_
  refine aq_iconst (v := (0 : Int32)) (am_dg dkX7_becomeLike (i := 37) rfl) (by decide) ?_
  refine aq_bipush (v := (8 : Int32)) (am_dg dkX7_becomeLike (i := 38) rfl) (by decide) ?_
  obtain ⟨hg14, h⟩ := am_guard h
  refine aq_copy (am_dg dkX7_becomeLike (i := 39) rfl) yk_7_36.1 yk_7_36.2 (Nat.le_of_ble_eq_true rfl) sh_21 sh_37 hg14 ?_
  obtain ⟨s15, hs16, h⟩ := am_bnd h
  rw [Option.some.inj hs16]
  refine aq_aload_n (am_dg dkX7_becomeLike (i := 40) rfl) rfl ?_
  refine aq_getR (am_dg dkX7_becomeLike (i := 41) rfl) gk_7_26_17 (rf_17_6 hR) ?_
  refine aq_iconst (v := (0 : Int32)) (am_dg dkX7_becomeLike (i := 42) rfl) (by decide) ?_
  refine aq_aload_n (am_dg dkX7_becomeLike (i := 43) rfl) rfl ?_
  refine aq_getR (am_dg dkX7_becomeLike (i := 44) rfl) gk_7_26_33 (rf_33_6 hR) ?_
  refine aq_iconst (v := (0 : Int32)) (am_dg dkX7_becomeLike (i := 45) rfl) (by decide) ?_
  refine aq_aload_n (am_dg dkX7_becomeLike (i := 46) rfl) rfl ?_
  refine aq_getI (am_dg dkX7_becomeLike (i := 47) rfl) gk_7_33_17 (by decide) ?_
  obtain ⟨hg17, h⟩ := am_guard h
  refine aq_copy (am_dg dkX7_becomeLike (i := 48) rfl) yk_7_36.1 yk_7_36.2 (Nat.le_of_ble_eq_true rfl) sh_22 sh_38 hg17 ?_
  obtain ⟨s18, hs19, h⟩ := am_bnd h
  rw [Option.some.inj hs19]
  obtain rfl := Option.some.inj h
  exact aq_return (am_dg dkX7_becomeLike (i := 49) rfl) rfl
set_option maxRecDepth 20000 in
theorem T_X8_becomeLike_24_8 {sc : Option (Nat × (Nat → Int32))} {RF : Nat → Nat → Option Nat} {d : Nat} (hR : am_RFok RF) (hd : 1 ≤ d) {s : am_S} {r : am_S} (h : F_X8_becomeLike_24_8 s = some r) : am_Q sc d mX8_becomeLike (0, am_L0 mX8_becomeLike [.ref 24, .ref 8], [], am_hp RF s) (.null, am_hp RF r) := by
  obtain ⟨e, rfl⟩ : ∃ e, d = e + 1 := ⟨d - 1, by omega⟩
  unfold F_X8_becomeLike_24_8 at h
  show am_Q _ _ _ (0, [.ref 24, .ref 8], [], _) _
  refine aq_aload_n (am_dg dkX8_becomeLike (i := 0) rfl) rfl ?_
  refine aq_aload_n (am_dg dkX8_becomeLike (i := 1) rfl) rfl ?_
  refine aq_getI (am_dg dkX8_becomeLike (i := 2) rfl) gk_8_66_8 (by decide) ?_
  refine aq_putI (am_dg dkX8_becomeLike (i := 3) rfl) gk_8_66_24 ?_
  obtain ⟨s1, hs2, h⟩ := am_bnd h
  rw [Option.some.inj hs2]
  refine aq_aload_n (am_dg dkX8_becomeLike (i := 4) rfl) rfl ?_
  refine aq_aload_n (am_dg dkX8_becomeLike (i := 5) rfl) rfl ?_
  refine aq_getI (am_dg dkX8_becomeLike (i := 6) rfl) gk_8_50_8 (by decide) ?_
  refine aq_putI (am_dg dkX8_becomeLike (i := 7) rfl) gk_8_50_24 ?_
  obtain ⟨s3, hs4, h⟩ := am_bnd h
  rw [Option.some.inj hs4]
  refine aq_aload_n (am_dg dkX8_becomeLike (i := 8) rfl) rfl ?_
  refine aq_aload_n (am_dg dkX8_becomeLike (i := 9) rfl) rfl ?_
  refine aq_getI (am_dg dkX8_becomeLike (i := 10) rfl) gk_8_54_8 (by decide) ?_
  refine aq_putI (am_dg dkX8_becomeLike (i := 11) rfl) gk_8_54_24 ?_
  obtain ⟨s5, hs6, h⟩ := am_bnd h
  rw [Option.some.inj hs6]
  refine aq_aload_n (am_dg dkX8_becomeLike (i := 12) rfl) rfl ?_
  refine aq_aload_n (am_dg dkX8_becomeLike (i := 13) rfl) rfl ?_
  refine aq_getI (am_dg dkX8_becomeLike (i := 14) rfl) gk_8_69_8 (by decide) ?_
  refine aq_putI (am_dg dkX8_becomeLike (i := 15) rfl) gk_8_69_24 ?_
  obtain ⟨s7, hs8, h⟩ := am_bnd h
  rw [Option.some.inj hs8]
  refine aq_aload_n (am_dg dkX8_becomeLike (i := 16) rfl) rfl ?_
  refine aq_aload_n (am_dg dkX8_becomeLike (i := 17) rfl) rfl ?_
  refine aq_getI (am_dg dkX8_becomeLike (i := 18) rfl) gk_8_57_8 (by decide) ?_
  refine aq_putI (am_dg dkX8_becomeLike (i := 19) rfl) gk_8_57_24 ?_
  obtain ⟨s9, hs10, h⟩ := am_bnd h
  rw [Option.some.inj hs10]
  refine aq_aload_n (am_dg dkX8_becomeLike (i := 20) rfl) rfl ?_
  refine aq_aload_n (am_dg dkX8_becomeLike (i := 21) rfl) rfl ?_
  refine aq_getI (am_dg dkX8_becomeLike (i := 22) rfl) gk_8_72_8 (by decide) ?_
  refine aq_putI (am_dg dkX8_becomeLike (i := 23) rfl) gk_8_72_24 ?_
  obtain ⟨s11, hs12, h⟩ := am_bnd h
  rw [Option.some.inj hs12]
  refine aq_aload_n (am_dg dkX8_becomeLike (i := 24) rfl) rfl ?_
  refine aq_aload_n (am_dg dkX8_becomeLike (i := 25) rfl) rfl ?_
  refine aq_getI (am_dg dkX8_becomeLike (i := 26) rfl) gk_8_75_8 (by decide) ?_
  refine aq_putI (am_dg dkX8_becomeLike (i := 27) rfl) gk_8_75_24 ?_
  obtain ⟨s13, hs14, h⟩ := am_bnd h
  rw [Option.some.inj hs14]
  refine aq_aload_n (am_dg dkX8_becomeLike (i := 28) rfl) rfl ?_
  refine aq_aload_n (am_dg dkX8_becomeLike (i := 29) rfl) rfl ?_
  refine aq_getI (am_dg dkX8_becomeLike (i := 30) rfl) gk_8_78_8 (by decide) ?_
  refine aq_putI (am_dg dkX8_becomeLike (i := 31) rfl) gk_8_78_24 ?_
  obtain ⟨s15, hs16, h⟩ := am_bnd h
  rw [Option.some.inj hs16]
  refine aq_aload_n (am_dg dkX8_becomeLike (i := 32) rfl) rfl ?_
  refine aq_getR (am_dg dkX8_becomeLike (i := 33) rfl) gk_8_9_8 (rf_8_8 hR) ?_
  refine aq_iconst (v := (0 : Int32)) (am_dg dkX8_becomeLike (i := 34) rfl) (by decide) ?_
  refine aq_aload_n (am_dg dkX8_becomeLike (i := 35) rfl) rfl ?_
  refine aq_getR (am_dg dkX8_becomeLike (i := 36) rfl) gk_8_9_24 (rf_24_8 hR) ?_
  refine aq_iconst (v := (0 : Int32)) (am_dg dkX8_becomeLike (i := 37) rfl) (by decide) ?_
  refine aq_bipush (v := (16 : Int32)) (am_dg dkX8_becomeLike (i := 38) rfl) (by decide) ?_
  obtain ⟨hg17, h⟩ := am_guard h
  refine aq_copy (am_dg dkX8_becomeLike (i := 39) rfl) yk_8_81.1 yk_8_81.2 (Nat.le_of_ble_eq_true rfl) sh_9 sh_25 hg17 ?_
  obtain ⟨s18, hs19, h⟩ := am_bnd h
  rw [Option.some.inj hs19]
  refine aq_aload_n (am_dg dkX8_becomeLike (i := 40) rfl) rfl ?_
  refine aq_getR (am_dg dkX8_becomeLike (i := 41) rfl) gk_8_15_8 (rf_8_9 hR) ?_
  refine aq_iconst (v := (0 : Int32)) (am_dg dkX8_becomeLike (i := 42) rfl) (by decide) ?_
  refine aq_aload_n (am_dg dkX8_becomeLike (i := 43) rfl) rfl ?_
  refine aq_getR (am_dg dkX8_becomeLike (i := 44) rfl) gk_8_15_24 (rf_24_9 hR) ?_
  refine aq_iconst (v := (0 : Int32)) (am_dg dkX8_becomeLike (i := 45) rfl) (by decide) ?_
  refine aq_bipush (v := (6 : Int32)) (am_dg dkX8_becomeLike (i := 46) rfl) (by decide) ?_
  obtain ⟨hg20, h⟩ := am_guard h
  refine aq_copy (am_dg dkX8_becomeLike (i := 47) rfl) yk_8_81.1 yk_8_81.2 (Nat.le_of_ble_eq_true rfl) sh_10 sh_26 hg20 ?_
  obtain ⟨s21, hs22, h⟩ := am_bnd h
  rw [Option.some.inj hs22]
  refine aq_aload_n (am_dg dkX8_becomeLike (i := 48) rfl) rfl ?_
  refine aq_getR (am_dg dkX8_becomeLike (i := 49) rfl) gk_8_18_8 (rf_8_10 hR) ?_
  refine aq_iconst (v := (0 : Int32)) (am_dg dkX8_becomeLike (i := 50) rfl) (by decide) ?_
  refine aq_aload_n (am_dg dkX8_becomeLike (i := 51) rfl) rfl ?_
  refine aq_getR (am_dg dkX8_becomeLike (i := 52) rfl) gk_8_18_24 (rf_24_10 hR) ?_
  refine aq_iconst (v := (0 : Int32)) (am_dg dkX8_becomeLike (i := 53) rfl) (by decide) ?_
  refine aq_bipush (v := (6 : Int32)) (am_dg dkX8_becomeLike (i := 54) rfl) (by decide) ?_
  obtain ⟨hg23, h⟩ := am_guard h
  refine aq_copy (am_dg dkX8_becomeLike (i := 55) rfl) yk_8_81.1 yk_8_81.2 (Nat.le_of_ble_eq_true rfl) sh_11 sh_27 hg23 ?_
  obtain ⟨s24, hs25, h⟩ := am_bnd h
  rw [Option.some.inj hs25]
  refine aq_aload_n (am_dg dkX8_becomeLike (i := 56) rfl) rfl ?_
  refine aq_getR (am_dg dkX8_becomeLike (i := 57) rfl) gk_8_21_8 (rf_8_11 hR) ?_
  refine aq_iconst (v := (0 : Int32)) (am_dg dkX8_becomeLike (i := 58) rfl) (by decide) ?_
  refine aq_aload_n (am_dg dkX8_becomeLike (i := 59) rfl) rfl ?_
  refine aq_getR (am_dg dkX8_becomeLike (i := 60) rfl) gk_8_21_24 (rf_24_11 hR) ?_
  refine aq_iconst (v := (0 : Int32)) (am_dg dkX8_becomeLike (i := 61) rfl) (by decide) ?_
  refine aq_bipush (v := (6 : Int32)) (am_dg dkX8_becomeLike (i := 62) rfl) (by decide) ?_
  obtain ⟨hg26, h⟩ := am_guard h
  refine aq_copy (am_dg dkX8_becomeLike (i := 63) rfl) yk_8_81.1 yk_8_81.2 (Nat.le_of_ble_eq_true rfl) sh_12 sh_28 hg26 ?_
  obtain ⟨s27, hs28, h⟩ := am_bnd h
  rw [Option.some.inj hs28]
  refine aq_aload_n (am_dg dkX8_becomeLike (i := 64) rfl) rfl ?_
  refine aq_getR (am_dg dkX8_becomeLike (i := 65) rfl) gk_8_24_8 (rf_8_12 hR) ?_
  refine aq_iconst (v := (0 : Int32)) (am_dg dkX8_becomeLike (i := 66) rfl) (by decide) ?_
  refine aq_aload_n (am_dg dkX8_becomeLike (i := 67) rfl) rfl ?_
  refine aq_getR (am_dg dkX8_becomeLike (i := 68) rfl) gk_8_24_24 (rf_24_12 hR) ?_
  refine aq_iconst (v := (0 : Int32)) (am_dg dkX8_becomeLike (i := 69) rfl) (by decide) ?_
  refine aq_bipush (v := (6 : Int32)) (am_dg dkX8_becomeLike (i := 70) rfl) (by decide) ?_
  obtain ⟨hg29, h⟩ := am_guard h
  refine aq_copy (am_dg dkX8_becomeLike (i := 71) rfl) yk_8_81.1 yk_8_81.2 (Nat.le_of_ble_eq_true rfl) sh_13 sh_29 hg29 ?_
  obtain ⟨s30, hs31, h⟩ := am_bnd h
  rw [Option.some.inj hs31]
  refine aq_aload_n (am_dg dkX8_becomeLike (i := 72) rfl) rfl ?_
  refine aq_getR (am_dg dkX8_becomeLike (i := 73) rfl) gk_8_27_8 (rf_8_13 hR) ?_
  refine aq_iconst (v := (0 : Int32)) (am_dg dkX8_becomeLike (i := 74) rfl) (by decide) ?_
  refine aq_aload_n (am_dg dkX8_becomeLike (i := 75) rfl) rfl ?_
  refine aq_getR (am_dg dkX8_becomeLike (i := 76) rfl) gk_8_27_24 (rf_24_13 hR) ?_
  refine aq_iconst (v := (0 : Int32)) (am_dg dkX8_becomeLike (i := 77) rfl) (by decide) ?_
  refine aq_bipush (v := (6 : Int32)) (am_dg dkX8_becomeLike (i := 78) rfl) (by decide) ?_
  obtain ⟨hg32, h⟩ := am_guard h
  refine aq_copy (am_dg dkX8_becomeLike (i := 79) rfl) yk_8_81.1 yk_8_81.2 (Nat.le_of_ble_eq_true rfl) sh_14 sh_30 hg32 ?_
  obtain ⟨s33, hs34, h⟩ := am_bnd h
  rw [Option.some.inj hs34]
  refine aq_aload_n (am_dg dkX8_becomeLike (i := 80) rfl) rfl ?_
  refine aq_getR (am_dg dkX8_becomeLike (i := 81) rfl) gk_8_30_8 (rf_8_14 hR) ?_
  refine aq_iconst (v := (0 : Int32)) (am_dg dkX8_becomeLike (i := 82) rfl) (by decide) ?_
  refine aq_aload_n (am_dg dkX8_becomeLike (i := 83) rfl) rfl ?_
  refine aq_getR (am_dg dkX8_becomeLike (i := 84) rfl) gk_8_30_24 (rf_24_14 hR) ?_
  refine aq_iconst (v := (0 : Int32)) (am_dg dkX8_becomeLike (i := 85) rfl) (by decide) ?_
  refine aq_bipush (v := (6 : Int32)) (am_dg dkX8_becomeLike (i := 86) rfl) (by decide) ?_
  obtain ⟨hg35, h⟩ := am_guard h
  refine aq_copy (am_dg dkX8_becomeLike (i := 87) rfl) yk_8_81.1 yk_8_81.2 (Nat.le_of_ble_eq_true rfl) sh_15 sh_31 hg35 ?_
  obtain ⟨s36, hs37, h⟩ := am_bnd h
  rw [Option.some.inj hs37]
  refine aq_aload_n (am_dg dkX8_becomeLike (i := 88) rfl) rfl ?_
  refine aq_getR (am_dg dkX8_becomeLike (i := 89) rfl) gk_8_33_8 (rf_8_15 hR) ?_
  refine aq_iconst (v := (0 : Int32)) (am_dg dkX8_becomeLike (i := 90) rfl) (by decide) ?_
  refine aq_aload_n (am_dg dkX8_becomeLike (i := 91) rfl) rfl ?_
  refine aq_getR (am_dg dkX8_becomeLike (i := 92) rfl) gk_8_33_24 (rf_24_15 hR) ?_
  refine aq_iconst (v := (0 : Int32)) (am_dg dkX8_becomeLike (i := 93) rfl) (by decide) ?_
  refine aq_bipush (v := (6 : Int32)) (am_dg dkX8_becomeLike (i := 94) rfl) (by decide) ?_
  obtain ⟨hg38, h⟩ := am_guard h
  refine aq_copy (am_dg dkX8_becomeLike (i := 95) rfl) yk_8_81.1 yk_8_81.2 (Nat.le_of_ble_eq_true rfl) sh_16 sh_32 hg38 ?_
  obtain ⟨s39, hs40, h⟩ := am_bnd h
  rw [Option.some.inj hs40]
  refine aq_aload_n (am_dg dkX8_becomeLike (i := 96) rfl) rfl ?_
  refine aq_getR (am_dg dkX8_becomeLike (i := 97) rfl) gk_8_39_24 (rf_24_16 hR) ?_
  refine aq_aload_n (am_dg dkX8_becomeLike (i := 98) rfl) rfl ?_
  refine aq_getR (am_dg dkX8_becomeLike (i := 99) rfl) gk_8_39_8 (rf_8_16 hR) ?_
  obtain ⟨q41, hq42, h⟩ := am_bnd h
  refine aq_virt (a := [.ref 33, .ref 17]) (S1 := []) (v1 := .null) (S2 := []) (am_dg dkX8_becomeLike (i := 100) rfl) cv_8_87_7 (am_cls_c sh_33 (by decide)) rfl rfl rfl (Nat.le_of_ble_eq_true rfl) (Nat.le_of_ble_eq_true rfl) (T_X7_becomeLike_33_17 hR (by omega) hq42) rfl ?_
  obtain rfl := Option.some.inj h
  exact aq_return (am_dg dkX8_becomeLike (i := 101) rfl) rfl
set_option maxRecDepth 20000 in
theorem T_X11_keep_0 {sc : Option (Nat × (Nat → Int32))} {RF : Nat → Nat → Option Nat} {d : Nat} (hR : am_RFok RF) (hd : 2 ≤ d) {s : am_S} {r : Int32 × am_S} (h : F_X11_keep_0 s = some r) : am_Q sc d mX11_keep (0, am_L0 mX11_keep [.ref 0], [], am_hp RF s) (.int r.1, am_hp RF r.2) := by
  obtain ⟨e, rfl⟩ : ∃ e, d = e + 1 := ⟨d - 1, by omega⟩
  unfold F_X11_keep_0 at h
  show am_Q _ _ _ (0, [.ref 0], [], _) _
  refine aq_aload_n (am_dg dkX11_keep (i := 0) rfl) rfl ?_
  refine aq_getR (am_dg dkX11_keep (i := 1) rfl) gk_11_36_0 (rf_0_1 hR) ?_
  refine aq_aload_n (am_dg dkX11_keep (i := 2) rfl) rfl ?_
  refine aq_getR (am_dg dkX11_keep (i := 3) rfl) gk_11_30_0 (rf_0_0 hR) ?_
  obtain ⟨q1, hq2, h⟩ := am_bnd h
  refine aq_virt (a := [.ref 24, .ref 8]) (S1 := []) (v1 := .null) (S2 := []) (am_dg dkX11_keep (i := 4) rfl) cv_11_416_8 (am_cls_c sh_24 (by decide)) rfl rfl rfl (Nat.le_of_ble_eq_true rfl) (Nat.le_of_ble_eq_true rfl) (T_X8_becomeLike_24_8 hR (by omega) hq2) rfl ?_
  refine aq_aload_n (am_dg dkX11_keep (i := 5) rfl) rfl ?_
  refine aq_iconst (v := (1 : Int32)) (am_dg dkX11_keep (i := 6) rfl) (by decide) ?_
  refine aq_putZ (am_dg dkX11_keep (i := 7) rfl) gk_11_39_0 (by decide) ?_
  obtain ⟨s3, hs4, h⟩ := am_bnd h
  rw [Option.some.inj hs4]
  refine aq_iconst (v := (1 : Int32)) (am_dg dkX11_keep (i := 8) rfl) (by decide) ?_
  obtain rfl := Option.some.inj h
  exact aq_ireturn (am_dg dkX11_keep (i := 9) rfl) rfl (Or.inl rfl) rfl
set_option maxRecDepth 20000 in
theorem T_X12_keep_82_b2 {sc : Option (Nat × (Nat → Int32))} {RF : Nat → Nat → Option Nat} {d : Nat} (hR : am_RFok RF) (hd : 0 ≤ d) : ∀ (n : Nat) (x1 : Int32) (s : am_S) (r : Int32 × am_S), F_X12_keep_82_b2 n x1 s = some r → am_Q sc d mX12_keep (2, [.ref 82, .int x1], [], am_hp RF s) (.int r.1, am_hp RF r.2) := by
  intro n
  induction n with
  | zero => intro x1 s r h; rw [F_X12_keep_82_b2] at h; cases h
  | succ n ih =>
  intro x1 s r h
  rw [F_X12_keep_82_b2] at h
  refine aq_iload_n (am_dg dkX12_keep (i := 2) rfl) rfl ?_
  refine aq_sipush (v := (296 : Int32)) (am_dg dkX12_keep (i := 3) rfl) (by decide) ?_
  by_cases hc1 : (296 : Int32) ≤ x1
  · rw [if_pos hc1] at h
    refine aq_icT (t := 27) (am_dg dkX12_keep (i := 4) rfl) rfl (decide_eq_true hc1) ?_
    refine aq_aload_n (am_dg dkX12_keep (i := 15) rfl) rfl ?_
    refine aq_iconst (v := (1 : Int32)) (am_dg dkX12_keep (i := 16) rfl) (by decide) ?_
    refine aq_putZ (am_dg dkX12_keep (i := 17) rfl) gk_12_467_82 (by decide) ?_
    obtain ⟨s2, hs3, h⟩ := am_bnd h
    rw [Option.some.inj hs3]
    refine aq_iconst (v := (1 : Int32)) (am_dg dkX12_keep (i := 18) rfl) (by decide) ?_
    obtain rfl := Option.some.inj h
    exact aq_ireturn (am_dg dkX12_keep (i := 19) rfl) rfl (Or.inl rfl) rfl
  · rw [if_neg hc1] at h
    refine aq_icF (t := 27) (am_dg dkX12_keep (i := 4) rfl) rfl (decide_eq_false hc1) ?_
    refine aq_aload_n (am_dg dkX12_keep (i := 5) rfl) rfl ?_
    refine aq_getR (am_dg dkX12_keep (i := 6) rfl) gk_12_13_82 (rf_82_1 hR) ?_
    refine aq_iload_n (am_dg dkX12_keep (i := 7) rfl) rfl ?_
    refine aq_aload_n (am_dg dkX12_keep (i := 8) rfl) rfl ?_
    refine aq_getR (am_dg dkX12_keep (i := 9) rfl) gk_12_7_82 (rf_82_0 hR) ?_
    refine aq_iload_n (am_dg dkX12_keep (i := 10) rfl) rfl ?_
    obtain ⟨hg4, h⟩ := am_guard h
    refine aq_iald (am_dg dkX12_keep (i := 11) rfl) sh_83 hg4 ?_
    obtain ⟨hg5, h⟩ := am_guard h
    refine aq_iast (am_dg dkX12_keep (i := 12) rfl) sh_84 hg5 ?_
    obtain ⟨s6, hs7, h⟩ := am_bnd h
    rw [Option.some.inj hs7]
    refine aq_iinc (v := (1 : Int32)) (L1 := [.ref 82, .int (x1 + (1 : Int32))]) (am_dg dkX12_keep (i := 13) rfl) rfl (by decide) rfl ?_
    refine aq_goto (t := 2) (am_dg dkX12_keep (i := 14) rfl) rfl ?_
    exact ih _ _ _ h
set_option maxRecDepth 20000 in
theorem T_X12_keep_82 {sc : Option (Nat × (Nat → Int32))} {RF : Nat → Nat → Option Nat} {d : Nat} (hR : am_RFok RF) (hd : 0 ≤ d) {s : am_S} {r : Int32 × am_S} (h : F_X12_keep_82 s = some r) : am_Q sc d mX12_keep (0, am_L0 mX12_keep [.ref 82], [], am_hp RF s) (.int r.1, am_hp RF r.2) := by
  unfold F_X12_keep_82 at h
  show am_Q _ _ _ (0, [.ref 82, .null], [], _) _
  refine aq_iconst (v := (0 : Int32)) (am_dg dkX12_keep (i := 0) rfl) (by decide) ?_
  refine aq_istore_n (L1 := [.ref 82, .int (0 : Int32)]) (am_dg dkX12_keep (i := 1) rfl) rfl ?_
  exact T_X12_keep_82_b2 hR (by omega) _ _ _ _ h
set_option maxRecDepth 20000 in
theorem T_X7_becomeLike_17_33 {sc : Option (Nat × (Nat → Int32))} {RF : Nat → Nat → Option Nat} {d : Nat} (hR : am_RFok RF) (hd : 0 ≤ d) {s : am_S} {r : am_S} (h : F_X7_becomeLike_17_33 s = some r) : am_Q sc d mX7_becomeLike (0, am_L0 mX7_becomeLike [.ref 17, .ref 33], [], am_hp RF s) (.null, am_hp RF r) := by
  unfold F_X7_becomeLike_17_33 at h
  show am_Q _ _ _ (0, [.ref 17, .ref 33], [], _) _
  refine aq_aload_n (am_dg dkX7_becomeLike (i := 0) rfl) rfl ?_
  refine aq_aload_n (am_dg dkX7_becomeLike (i := 1) rfl) rfl ?_
  refine aq_getI (am_dg dkX7_becomeLike (i := 2) rfl) gk_7_29_33 (by decide) ?_
  refine aq_putI (am_dg dkX7_becomeLike (i := 3) rfl) gk_7_29_17 ?_
  obtain ⟨s1, hs2, h⟩ := am_bnd h
  rw [Option.some.inj hs2]
  refine aq_aload_n (am_dg dkX7_becomeLike (i := 4) rfl) rfl ?_
  refine aq_aload_n (am_dg dkX7_becomeLike (i := 5) rfl) rfl ?_
  refine aq_getI (am_dg dkX7_becomeLike (i := 6) rfl) gk_7_33_33 (by decide) ?_
  refine aq_putI (am_dg dkX7_becomeLike (i := 7) rfl) gk_7_33_17 ?_
  obtain ⟨s3, hs4, h⟩ := am_bnd h
  rw [Option.some.inj hs4]
  refine aq_aload_n (am_dg dkX7_becomeLike (i := 8) rfl) rfl ?_
  refine aq_getR (am_dg dkX7_becomeLike (i := 9) rfl) gk_7_11_33 (rf_33_2 hR) ?_
  refine aq_iconst (v := (0 : Int32)) (am_dg dkX7_becomeLike (i := 10) rfl) (by decide) ?_
  refine aq_aload_n (am_dg dkX7_becomeLike (i := 11) rfl) rfl ?_
  refine aq_getR (am_dg dkX7_becomeLike (i := 12) rfl) gk_7_11_17 (rf_17_2 hR) ?_
  refine aq_iconst (v := (0 : Int32)) (am_dg dkX7_becomeLike (i := 13) rfl) (by decide) ?_
  refine aq_bipush (v := (8 : Int32)) (am_dg dkX7_becomeLike (i := 14) rfl) (by decide) ?_
  obtain ⟨hg5, h⟩ := am_guard h
  refine aq_copy (am_dg dkX7_becomeLike (i := 15) rfl) yk_7_36.1 yk_7_36.2 (Nat.le_of_ble_eq_true rfl) sh_34 sh_18 hg5 ?_
  obtain ⟨s6, hs7, h⟩ := am_bnd h
  rw [Option.some.inj hs7]
  refine aq_aload_n (am_dg dkX7_becomeLike (i := 16) rfl) rfl ?_
  refine aq_getR (am_dg dkX7_becomeLike (i := 17) rfl) gk_7_15_33 (rf_33_3 hR) ?_
  refine aq_iconst (v := (0 : Int32)) (am_dg dkX7_becomeLike (i := 18) rfl) (by decide) ?_
  refine aq_aload_n (am_dg dkX7_becomeLike (i := 19) rfl) rfl ?_
  refine aq_getR (am_dg dkX7_becomeLike (i := 20) rfl) gk_7_15_17 (rf_17_3 hR) ?_
  refine aq_iconst (v := (0 : Int32)) (am_dg dkX7_becomeLike (i := 21) rfl) (by decide) ?_
  refine aq_bipush (v := (8 : Int32)) (am_dg dkX7_becomeLike (i := 22) rfl) (by decide) ?_
  obtain ⟨hg8, h⟩ := am_guard h
  refine aq_copy (am_dg dkX7_becomeLike (i := 23) rfl) yk_7_36.1 yk_7_36.2 (Nat.le_of_ble_eq_true rfl) sh_35 sh_19 hg8 ?_
  obtain ⟨s9, hs10, h⟩ := am_bnd h
  rw [Option.some.inj hs10]
  refine aq_aload_n (am_dg dkX7_becomeLike (i := 24) rfl) rfl ?_
  refine aq_getR (am_dg dkX7_becomeLike (i := 25) rfl) gk_7_18_33 (rf_33_4 hR) ?_
  refine aq_iconst (v := (0 : Int32)) (am_dg dkX7_becomeLike (i := 26) rfl) (by decide) ?_
  refine aq_aload_n (am_dg dkX7_becomeLike (i := 27) rfl) rfl ?_
  refine aq_getR (am_dg dkX7_becomeLike (i := 28) rfl) gk_7_18_17 (rf_17_4 hR) ?_
  refine aq_iconst (v := (0 : Int32)) (am_dg dkX7_becomeLike (i := 29) rfl) (by decide) ?_
  refine aq_bipush (v := (8 : Int32)) (am_dg dkX7_becomeLike (i := 30) rfl) (by decide) ?_
  obtain ⟨hg11, h⟩ := am_guard h
  refine aq_copy (am_dg dkX7_becomeLike (i := 31) rfl) yk_7_36.1 yk_7_36.2 (Nat.le_of_ble_eq_true rfl) sh_36 sh_20 hg11 ?_
  obtain ⟨s12, hs13, h⟩ := am_bnd h
  rw [Option.some.inj hs13]
  refine aq_aload_n (am_dg dkX7_becomeLike (i := 32) rfl) rfl ?_
  refine aq_getR (am_dg dkX7_becomeLike (i := 33) rfl) gk_7_21_33 (rf_33_5 hR) ?_
  refine aq_iconst (v := (0 : Int32)) (am_dg dkX7_becomeLike (i := 34) rfl) (by decide) ?_
  refine aq_aload_n (am_dg dkX7_becomeLike (i := 35) rfl) rfl ?_
  refine aq_getR (am_dg dkX7_becomeLike (i := 36) rfl) gk_7_21_17 (rf_17_5 hR) ?_
  refine aq_iconst (v := (0 : Int32)) (am_dg dkX7_becomeLike (i := 37) rfl) (by decide) ?_
  refine aq_bipush (v := (8 : Int32)) (am_dg dkX7_becomeLike (i := 38) rfl) (by decide) ?_
  obtain ⟨hg14, h⟩ := am_guard h
  refine aq_copy (am_dg dkX7_becomeLike (i := 39) rfl) yk_7_36.1 yk_7_36.2 (Nat.le_of_ble_eq_true rfl) sh_37 sh_21 hg14 ?_
  obtain ⟨s15, hs16, h⟩ := am_bnd h
  rw [Option.some.inj hs16]
  refine aq_aload_n (am_dg dkX7_becomeLike (i := 40) rfl) rfl ?_
  refine aq_getR (am_dg dkX7_becomeLike (i := 41) rfl) gk_7_26_33 (rf_33_6 hR) ?_
  refine aq_iconst (v := (0 : Int32)) (am_dg dkX7_becomeLike (i := 42) rfl) (by decide) ?_
  refine aq_aload_n (am_dg dkX7_becomeLike (i := 43) rfl) rfl ?_
  refine aq_getR (am_dg dkX7_becomeLike (i := 44) rfl) gk_7_26_17 (rf_17_6 hR) ?_
  refine aq_iconst (v := (0 : Int32)) (am_dg dkX7_becomeLike (i := 45) rfl) (by decide) ?_
  refine aq_aload_n (am_dg dkX7_becomeLike (i := 46) rfl) rfl ?_
  refine aq_getI (am_dg dkX7_becomeLike (i := 47) rfl) gk_7_33_33 (by decide) ?_
  obtain ⟨hg17, h⟩ := am_guard h
  refine aq_copy (am_dg dkX7_becomeLike (i := 48) rfl) yk_7_36.1 yk_7_36.2 (Nat.le_of_ble_eq_true rfl) sh_38 sh_22 hg17 ?_
  obtain ⟨s18, hs19, h⟩ := am_bnd h
  rw [Option.some.inj hs19]
  obtain rfl := Option.some.inj h
  exact aq_return (am_dg dkX7_becomeLike (i := 49) rfl) rfl
set_option maxRecDepth 20000 in
theorem T_X8_becomeLike_8_24 {sc : Option (Nat × (Nat → Int32))} {RF : Nat → Nat → Option Nat} {d : Nat} (hR : am_RFok RF) (hd : 1 ≤ d) {s : am_S} {r : am_S} (h : F_X8_becomeLike_8_24 s = some r) : am_Q sc d mX8_becomeLike (0, am_L0 mX8_becomeLike [.ref 8, .ref 24], [], am_hp RF s) (.null, am_hp RF r) := by
  obtain ⟨e, rfl⟩ : ∃ e, d = e + 1 := ⟨d - 1, by omega⟩
  unfold F_X8_becomeLike_8_24 at h
  show am_Q _ _ _ (0, [.ref 8, .ref 24], [], _) _
  refine aq_aload_n (am_dg dkX8_becomeLike (i := 0) rfl) rfl ?_
  refine aq_aload_n (am_dg dkX8_becomeLike (i := 1) rfl) rfl ?_
  refine aq_getI (am_dg dkX8_becomeLike (i := 2) rfl) gk_8_66_24 (by decide) ?_
  refine aq_putI (am_dg dkX8_becomeLike (i := 3) rfl) gk_8_66_8 ?_
  obtain ⟨s1, hs2, h⟩ := am_bnd h
  rw [Option.some.inj hs2]
  refine aq_aload_n (am_dg dkX8_becomeLike (i := 4) rfl) rfl ?_
  refine aq_aload_n (am_dg dkX8_becomeLike (i := 5) rfl) rfl ?_
  refine aq_getI (am_dg dkX8_becomeLike (i := 6) rfl) gk_8_50_24 (by decide) ?_
  refine aq_putI (am_dg dkX8_becomeLike (i := 7) rfl) gk_8_50_8 ?_
  obtain ⟨s3, hs4, h⟩ := am_bnd h
  rw [Option.some.inj hs4]
  refine aq_aload_n (am_dg dkX8_becomeLike (i := 8) rfl) rfl ?_
  refine aq_aload_n (am_dg dkX8_becomeLike (i := 9) rfl) rfl ?_
  refine aq_getI (am_dg dkX8_becomeLike (i := 10) rfl) gk_8_54_24 (by decide) ?_
  refine aq_putI (am_dg dkX8_becomeLike (i := 11) rfl) gk_8_54_8 ?_
  obtain ⟨s5, hs6, h⟩ := am_bnd h
  rw [Option.some.inj hs6]
  refine aq_aload_n (am_dg dkX8_becomeLike (i := 12) rfl) rfl ?_
  refine aq_aload_n (am_dg dkX8_becomeLike (i := 13) rfl) rfl ?_
  refine aq_getI (am_dg dkX8_becomeLike (i := 14) rfl) gk_8_69_24 (by decide) ?_
  refine aq_putI (am_dg dkX8_becomeLike (i := 15) rfl) gk_8_69_8 ?_
  obtain ⟨s7, hs8, h⟩ := am_bnd h
  rw [Option.some.inj hs8]
  refine aq_aload_n (am_dg dkX8_becomeLike (i := 16) rfl) rfl ?_
  refine aq_aload_n (am_dg dkX8_becomeLike (i := 17) rfl) rfl ?_
  refine aq_getI (am_dg dkX8_becomeLike (i := 18) rfl) gk_8_57_24 (by decide) ?_
  refine aq_putI (am_dg dkX8_becomeLike (i := 19) rfl) gk_8_57_8 ?_
  obtain ⟨s9, hs10, h⟩ := am_bnd h
  rw [Option.some.inj hs10]
  refine aq_aload_n (am_dg dkX8_becomeLike (i := 20) rfl) rfl ?_
  refine aq_aload_n (am_dg dkX8_becomeLike (i := 21) rfl) rfl ?_
  refine aq_getI (am_dg dkX8_becomeLike (i := 22) rfl) gk_8_72_24 (by decide) ?_
  refine aq_putI (am_dg dkX8_becomeLike (i := 23) rfl) gk_8_72_8 ?_
  obtain ⟨s11, hs12, h⟩ := am_bnd h
  rw [Option.some.inj hs12]
  refine aq_aload_n (am_dg dkX8_becomeLike (i := 24) rfl) rfl ?_
  refine aq_aload_n (am_dg dkX8_becomeLike (i := 25) rfl) rfl ?_
  refine aq_getI (am_dg dkX8_becomeLike (i := 26) rfl) gk_8_75_24 (by decide) ?_
  refine aq_putI (am_dg dkX8_becomeLike (i := 27) rfl) gk_8_75_8 ?_
  obtain ⟨s13, hs14, h⟩ := am_bnd h
  rw [Option.some.inj hs14]
  refine aq_aload_n (am_dg dkX8_becomeLike (i := 28) rfl) rfl ?_
  refine aq_aload_n (am_dg dkX8_becomeLike (i := 29) rfl) rfl ?_
  refine aq_getI (am_dg dkX8_becomeLike (i := 30) rfl) gk_8_78_24 (by decide) ?_
  refine aq_putI (am_dg dkX8_becomeLike (i := 31) rfl) gk_8_78_8 ?_
  obtain ⟨s15, hs16, h⟩ := am_bnd h
  rw [Option.some.inj hs16]
  refine aq_aload_n (am_dg dkX8_becomeLike (i := 32) rfl) rfl ?_
  refine aq_getR (am_dg dkX8_becomeLike (i := 33) rfl) gk_8_9_24 (rf_24_8 hR) ?_
  refine aq_iconst (v := (0 : Int32)) (am_dg dkX8_becomeLike (i := 34) rfl) (by decide) ?_
  refine aq_aload_n (am_dg dkX8_becomeLike (i := 35) rfl) rfl ?_
  refine aq_getR (am_dg dkX8_becomeLike (i := 36) rfl) gk_8_9_8 (rf_8_8 hR) ?_
  refine aq_iconst (v := (0 : Int32)) (am_dg dkX8_becomeLike (i := 37) rfl) (by decide) ?_
  refine aq_bipush (v := (16 : Int32)) (am_dg dkX8_becomeLike (i := 38) rfl) (by decide) ?_
  obtain ⟨hg17, h⟩ := am_guard h
  refine aq_copy (am_dg dkX8_becomeLike (i := 39) rfl) yk_8_81.1 yk_8_81.2 (Nat.le_of_ble_eq_true rfl) sh_25 sh_9 hg17 ?_
  obtain ⟨s18, hs19, h⟩ := am_bnd h
  rw [Option.some.inj hs19]
  refine aq_aload_n (am_dg dkX8_becomeLike (i := 40) rfl) rfl ?_
  refine aq_getR (am_dg dkX8_becomeLike (i := 41) rfl) gk_8_15_24 (rf_24_9 hR) ?_
  refine aq_iconst (v := (0 : Int32)) (am_dg dkX8_becomeLike (i := 42) rfl) (by decide) ?_
  refine aq_aload_n (am_dg dkX8_becomeLike (i := 43) rfl) rfl ?_
  refine aq_getR (am_dg dkX8_becomeLike (i := 44) rfl) gk_8_15_8 (rf_8_9 hR) ?_
  refine aq_iconst (v := (0 : Int32)) (am_dg dkX8_becomeLike (i := 45) rfl) (by decide) ?_
  refine aq_bipush (v := (6 : Int32)) (am_dg dkX8_becomeLike (i := 46) rfl) (by decide) ?_
  obtain ⟨hg20, h⟩ := am_guard h
  refine aq_copy (am_dg dkX8_becomeLike (i := 47) rfl) yk_8_81.1 yk_8_81.2 (Nat.le_of_ble_eq_true rfl) sh_26 sh_10 hg20 ?_
  obtain ⟨s21, hs22, h⟩ := am_bnd h
  rw [Option.some.inj hs22]
  refine aq_aload_n (am_dg dkX8_becomeLike (i := 48) rfl) rfl ?_
  refine aq_getR (am_dg dkX8_becomeLike (i := 49) rfl) gk_8_18_24 (rf_24_10 hR) ?_
  refine aq_iconst (v := (0 : Int32)) (am_dg dkX8_becomeLike (i := 50) rfl) (by decide) ?_
  refine aq_aload_n (am_dg dkX8_becomeLike (i := 51) rfl) rfl ?_
  refine aq_getR (am_dg dkX8_becomeLike (i := 52) rfl) gk_8_18_8 (rf_8_10 hR) ?_
  refine aq_iconst (v := (0 : Int32)) (am_dg dkX8_becomeLike (i := 53) rfl) (by decide) ?_
  refine aq_bipush (v := (6 : Int32)) (am_dg dkX8_becomeLike (i := 54) rfl) (by decide) ?_
  obtain ⟨hg23, h⟩ := am_guard h
  refine aq_copy (am_dg dkX8_becomeLike (i := 55) rfl) yk_8_81.1 yk_8_81.2 (Nat.le_of_ble_eq_true rfl) sh_27 sh_11 hg23 ?_
  obtain ⟨s24, hs25, h⟩ := am_bnd h
  rw [Option.some.inj hs25]
  refine aq_aload_n (am_dg dkX8_becomeLike (i := 56) rfl) rfl ?_
  refine aq_getR (am_dg dkX8_becomeLike (i := 57) rfl) gk_8_21_24 (rf_24_11 hR) ?_
  refine aq_iconst (v := (0 : Int32)) (am_dg dkX8_becomeLike (i := 58) rfl) (by decide) ?_
  refine aq_aload_n (am_dg dkX8_becomeLike (i := 59) rfl) rfl ?_
  refine aq_getR (am_dg dkX8_becomeLike (i := 60) rfl) gk_8_21_8 (rf_8_11 hR) ?_
  refine aq_iconst (v := (0 : Int32)) (am_dg dkX8_becomeLike (i := 61) rfl) (by decide) ?_
  refine aq_bipush (v := (6 : Int32)) (am_dg dkX8_becomeLike (i := 62) rfl) (by decide) ?_
  obtain ⟨hg26, h⟩ := am_guard h
  refine aq_copy (am_dg dkX8_becomeLike (i := 63) rfl) yk_8_81.1 yk_8_81.2 (Nat.le_of_ble_eq_true rfl) sh_28 sh_12 hg26 ?_
  obtain ⟨s27, hs28, h⟩ := am_bnd h
  rw [Option.some.inj hs28]
  refine aq_aload_n (am_dg dkX8_becomeLike (i := 64) rfl) rfl ?_
  refine aq_getR (am_dg dkX8_becomeLike (i := 65) rfl) gk_8_24_24 (rf_24_12 hR) ?_
  refine aq_iconst (v := (0 : Int32)) (am_dg dkX8_becomeLike (i := 66) rfl) (by decide) ?_
  refine aq_aload_n (am_dg dkX8_becomeLike (i := 67) rfl) rfl ?_
  refine aq_getR (am_dg dkX8_becomeLike (i := 68) rfl) gk_8_24_8 (rf_8_12 hR) ?_
  refine aq_iconst (v := (0 : Int32)) (am_dg dkX8_becomeLike (i := 69) rfl) (by decide) ?_
  refine aq_bipush (v := (6 : Int32)) (am_dg dkX8_becomeLike (i := 70) rfl) (by decide) ?_
  obtain ⟨hg29, h⟩ := am_guard h
  refine aq_copy (am_dg dkX8_becomeLike (i := 71) rfl) yk_8_81.1 yk_8_81.2 (Nat.le_of_ble_eq_true rfl) sh_29 sh_13 hg29 ?_
  obtain ⟨s30, hs31, h⟩ := am_bnd h
  rw [Option.some.inj hs31]
  refine aq_aload_n (am_dg dkX8_becomeLike (i := 72) rfl) rfl ?_
  refine aq_getR (am_dg dkX8_becomeLike (i := 73) rfl) gk_8_27_24 (rf_24_13 hR) ?_
  refine aq_iconst (v := (0 : Int32)) (am_dg dkX8_becomeLike (i := 74) rfl) (by decide) ?_
  refine aq_aload_n (am_dg dkX8_becomeLike (i := 75) rfl) rfl ?_
  refine aq_getR (am_dg dkX8_becomeLike (i := 76) rfl) gk_8_27_8 (rf_8_13 hR) ?_
  refine aq_iconst (v := (0 : Int32)) (am_dg dkX8_becomeLike (i := 77) rfl) (by decide) ?_
  refine aq_bipush (v := (6 : Int32)) (am_dg dkX8_becomeLike (i := 78) rfl) (by decide) ?_
  obtain ⟨hg32, h⟩ := am_guard h
  refine aq_copy (am_dg dkX8_becomeLike (i := 79) rfl) yk_8_81.1 yk_8_81.2 (Nat.le_of_ble_eq_true rfl) sh_30 sh_14 hg32 ?_
  obtain ⟨s33, hs34, h⟩ := am_bnd h
  rw [Option.some.inj hs34]
  refine aq_aload_n (am_dg dkX8_becomeLike (i := 80) rfl) rfl ?_
  refine aq_getR (am_dg dkX8_becomeLike (i := 81) rfl) gk_8_30_24 (rf_24_14 hR) ?_
  refine aq_iconst (v := (0 : Int32)) (am_dg dkX8_becomeLike (i := 82) rfl) (by decide) ?_
  refine aq_aload_n (am_dg dkX8_becomeLike (i := 83) rfl) rfl ?_
  refine aq_getR (am_dg dkX8_becomeLike (i := 84) rfl) gk_8_30_8 (rf_8_14 hR) ?_
  refine aq_iconst (v := (0 : Int32)) (am_dg dkX8_becomeLike (i := 85) rfl) (by decide) ?_
  refine aq_bipush (v := (6 : Int32)) (am_dg dkX8_becomeLike (i := 86) rfl) (by decide) ?_
  obtain ⟨hg35, h⟩ := am_guard h
  refine aq_copy (am_dg dkX8_becomeLike (i := 87) rfl) yk_8_81.1 yk_8_81.2 (Nat.le_of_ble_eq_true rfl) sh_31 sh_15 hg35 ?_
  obtain ⟨s36, hs37, h⟩ := am_bnd h
  rw [Option.some.inj hs37]
  refine aq_aload_n (am_dg dkX8_becomeLike (i := 88) rfl) rfl ?_
  refine aq_getR (am_dg dkX8_becomeLike (i := 89) rfl) gk_8_33_24 (rf_24_15 hR) ?_
  refine aq_iconst (v := (0 : Int32)) (am_dg dkX8_becomeLike (i := 90) rfl) (by decide) ?_
  refine aq_aload_n (am_dg dkX8_becomeLike (i := 91) rfl) rfl ?_
  refine aq_getR (am_dg dkX8_becomeLike (i := 92) rfl) gk_8_33_8 (rf_8_15 hR) ?_
  refine aq_iconst (v := (0 : Int32)) (am_dg dkX8_becomeLike (i := 93) rfl) (by decide) ?_
  refine aq_bipush (v := (6 : Int32)) (am_dg dkX8_becomeLike (i := 94) rfl) (by decide) ?_
  obtain ⟨hg38, h⟩ := am_guard h
  refine aq_copy (am_dg dkX8_becomeLike (i := 95) rfl) yk_8_81.1 yk_8_81.2 (Nat.le_of_ble_eq_true rfl) sh_32 sh_16 hg38 ?_
  obtain ⟨s39, hs40, h⟩ := am_bnd h
  rw [Option.some.inj hs40]
  refine aq_aload_n (am_dg dkX8_becomeLike (i := 96) rfl) rfl ?_
  refine aq_getR (am_dg dkX8_becomeLike (i := 97) rfl) gk_8_39_8 (rf_8_16 hR) ?_
  refine aq_aload_n (am_dg dkX8_becomeLike (i := 98) rfl) rfl ?_
  refine aq_getR (am_dg dkX8_becomeLike (i := 99) rfl) gk_8_39_24 (rf_24_16 hR) ?_
  obtain ⟨q41, hq42, h⟩ := am_bnd h
  refine aq_virt (a := [.ref 17, .ref 33]) (S1 := []) (v1 := .null) (S2 := []) (am_dg dkX8_becomeLike (i := 100) rfl) cv_8_87_7 (am_cls_c sh_17 (by decide)) rfl rfl rfl (Nat.le_of_ble_eq_true rfl) (Nat.le_of_ble_eq_true rfl) (T_X7_becomeLike_17_33 hR (by omega) hq42) rfl ?_
  obtain rfl := Option.some.inj h
  exact aq_return (am_dg dkX8_becomeLike (i := 101) rfl) rfl
set_option maxRecDepth 20000 in
theorem T_X11_again_0 {sc : Option (Nat × (Nat → Int32))} {RF : Nat → Nat → Option Nat} {d : Nat} (hR : am_RFok RF) (hd : 2 ≤ d) {s : am_S} {r : Int32 × am_S} (h : F_X11_again_0 s = some r) : am_Q sc d mX11_again (0, am_L0 mX11_again [.ref 0], [], am_hp RF s) (.int r.1, am_hp RF r.2) := by
  obtain ⟨e, rfl⟩ : ∃ e, d = e + 1 := ⟨d - 1, by omega⟩
  unfold F_X11_again_0 at h
  show am_Q _ _ _ (0, [.ref 0], [], _) _
  refine aq_aload_n (am_dg dkX11_again (i := 0) rfl) rfl ?_
  refine aq_getI (am_dg dkX11_again (i := 1) rfl) gk_11_39_0 (by decide) ?_
  by_cases hc1 : (s.1 0 2) = (0 : Int32)
  · rw [if_pos hc1] at h
    refine aq_ifF (t := 10) (am_dg dkX11_again (i := 2) rfl) rfl (decide_eq_false (not_not_intro hc1)) ?_
    refine aq_bipush (v := (-3 : Int32)) (am_dg dkX11_again (i := 3) rfl) (by decide) ?_
    obtain rfl := Option.some.inj h
    exact aq_ireturn (am_dg dkX11_again (i := 4) rfl) rfl (Or.inl rfl) rfl
  · rw [if_neg hc1] at h
    refine aq_ifT (t := 10) (am_dg dkX11_again (i := 2) rfl) rfl (decide_eq_true hc1) ?_
    refine aq_aload_n (am_dg dkX11_again (i := 5) rfl) rfl ?_
    refine aq_getR (am_dg dkX11_again (i := 6) rfl) gk_11_30_0 (rf_0_0 hR) ?_
    refine aq_aload_n (am_dg dkX11_again (i := 7) rfl) rfl ?_
    refine aq_getR (am_dg dkX11_again (i := 8) rfl) gk_11_36_0 (rf_0_1 hR) ?_
    obtain ⟨q2, hq3, h⟩ := am_bnd h
    refine aq_virt (a := [.ref 8, .ref 24]) (S1 := []) (v1 := .null) (S2 := []) (am_dg dkX11_again (i := 9) rfl) cv_11_416_8 (am_cls_c sh_8 (by decide)) rfl rfl rfl (Nat.le_of_ble_eq_true rfl) (Nat.le_of_ble_eq_true rfl) (T_X8_becomeLike_8_24 hR (by omega) hq3) rfl ?_
    refine aq_aload_n (am_dg dkX11_again (i := 10) rfl) rfl ?_
    refine aq_getR (am_dg dkX11_again (i := 11) rfl) gk_11_30_0 (rf_0_0 hR) ?_
    refine aq_getI (am_dg dkX11_again (i := 12) rfl) gk_11_401_8 (by decide) ?_
    obtain rfl := Option.some.inj h
    exact aq_ireturn (am_dg dkX11_again (i := 13) rfl) rfl (Or.inl rfl) rfl
set_option maxRecDepth 20000 in
theorem T_X12_again_82_b12 {sc : Option (Nat × (Nat → Int32))} {RF : Nat → Nat → Option Nat} {d : Nat} (hR : am_RFok RF) (hd : 0 ≤ d) : ∀ (n : Nat) (x1 : Int32) (s : am_S) (r : Int32 × am_S), F_X12_again_82_b12 n x1 s = some r → am_Q sc d mX12_again (12, [.ref 82, .int x1], [], am_hp RF s) (.int r.1, am_hp RF r.2) := by
  intro n
  induction n with
  | zero => intro x1 s r h; rw [F_X12_again_82_b12] at h; cases h
  | succ n ih =>
  intro x1 s r h
  rw [F_X12_again_82_b12] at h
  refine aq_iload_n (am_dg dkX12_again (i := 7) rfl) rfl ?_
  refine aq_sipush (v := (296 : Int32)) (am_dg dkX12_again (i := 8) rfl) (by decide) ?_
  by_cases hc1 : (296 : Int32) ≤ x1
  · rw [if_pos hc1] at h
    refine aq_icT (t := 37) (am_dg dkX12_again (i := 9) rfl) rfl (decide_eq_true hc1) ?_
    refine aq_aload_n (am_dg dkX12_again (i := 20) rfl) rfl ?_
    refine aq_getR (am_dg dkX12_again (i := 21) rfl) gk_12_7_82 (rf_82_0 hR) ?_
    refine aq_iconst (v := (0 : Int32)) (am_dg dkX12_again (i := 22) rfl) (by decide) ?_
    obtain ⟨hg2, h⟩ := am_guard h
    refine aq_iald (am_dg dkX12_again (i := 23) rfl) sh_83 hg2 ?_
    obtain rfl := Option.some.inj h
    exact aq_ireturn (am_dg dkX12_again (i := 24) rfl) rfl (Or.inl rfl) rfl
  · rw [if_neg hc1] at h
    refine aq_icF (t := 37) (am_dg dkX12_again (i := 9) rfl) rfl (decide_eq_false hc1) ?_
    refine aq_aload_n (am_dg dkX12_again (i := 10) rfl) rfl ?_
    refine aq_getR (am_dg dkX12_again (i := 11) rfl) gk_12_7_82 (rf_82_0 hR) ?_
    refine aq_iload_n (am_dg dkX12_again (i := 12) rfl) rfl ?_
    refine aq_aload_n (am_dg dkX12_again (i := 13) rfl) rfl ?_
    refine aq_getR (am_dg dkX12_again (i := 14) rfl) gk_12_13_82 (rf_82_1 hR) ?_
    refine aq_iload_n (am_dg dkX12_again (i := 15) rfl) rfl ?_
    obtain ⟨hg3, h⟩ := am_guard h
    refine aq_iald (am_dg dkX12_again (i := 16) rfl) sh_84 hg3 ?_
    obtain ⟨hg4, h⟩ := am_guard h
    refine aq_iast (am_dg dkX12_again (i := 17) rfl) sh_83 hg4 ?_
    obtain ⟨s5, hs6, h⟩ := am_bnd h
    rw [Option.some.inj hs6]
    refine aq_iinc (v := (1 : Int32)) (L1 := [.ref 82, .int (x1 + (1 : Int32))]) (am_dg dkX12_again (i := 18) rfl) rfl (by decide) rfl ?_
    refine aq_goto (t := 12) (am_dg dkX12_again (i := 19) rfl) rfl ?_
    exact ih _ _ _ h
set_option maxRecDepth 20000 in
theorem T_X12_again_82 {sc : Option (Nat × (Nat → Int32))} {RF : Nat → Nat → Option Nat} {d : Nat} (hR : am_RFok RF) (hd : 0 ≤ d) {s : am_S} {r : Int32 × am_S} (h : F_X12_again_82 s = some r) : am_Q sc d mX12_again (0, am_L0 mX12_again [.ref 82], [], am_hp RF s) (.int r.1, am_hp RF r.2) := by
  unfold F_X12_again_82 at h
  show am_Q _ _ _ (0, [.ref 82, .null], [], _) _
  refine aq_aload_n (am_dg dkX12_again (i := 0) rfl) rfl ?_
  refine aq_getI (am_dg dkX12_again (i := 1) rfl) gk_12_467_82 (by decide) ?_
  by_cases hc1 : (s.1 82 3) = (0 : Int32)
  · rw [if_pos hc1] at h
    refine aq_ifF (t := 10) (am_dg dkX12_again (i := 2) rfl) rfl (decide_eq_false (not_not_intro hc1)) ?_
    refine aq_bipush (v := (-3 : Int32)) (am_dg dkX12_again (i := 3) rfl) (by decide) ?_
    obtain rfl := Option.some.inj h
    exact aq_ireturn (am_dg dkX12_again (i := 4) rfl) rfl (Or.inl rfl) rfl
  · rw [if_neg hc1] at h
    refine aq_ifT (t := 10) (am_dg dkX12_again (i := 2) rfl) rfl (decide_eq_true hc1) ?_
    refine aq_iconst (v := (0 : Int32)) (am_dg dkX12_again (i := 5) rfl) (by decide) ?_
    refine aq_istore_n (L1 := [.ref 82, .int (0 : Int32)]) (am_dg dkX12_again (i := 6) rfl) rfl ?_
    exact T_X12_again_82_b12 hR (by omega) _ _ _ _ h
