/-! LAYER 1: the class's and the model's methods as functions (written by wip/whole/gen_f.py) -/
def am_ushr (x y : Int32) : Int32 := (x.toUInt32 >>> (y.toUInt32 &&& Int32.toUInt32 31)).toInt32
def am_lushr (x : Int64) (y : Int32) : Int64 := (x.toUInt64 >>> (y.toInt64.toUInt64 &&& Int64.toUInt64 63)).toInt64
def am_rem (x y : Int32) : Int32 := x - x / y * y
def am_i2c (x : Int32) : Int32 := (x.toUInt32 % 65536).toInt32
theorem am_nz {v : Int32} (h : v = 0 ∨ v = 1) : narrow .boolean (.int v) = .int v := by
  rcases h with rfl | rfl <;> rfl
theorem am_tsw_d {pc : Nat} {dflt lo hi : Int} {offs : Array Int} {x : Int32} {t : Nat} (h : x.toInt < lo ∨ hi < x.toInt) (ht : (pc : Int) + dflt = (t : Int)) : am_tsw pc dflt lo hi offs x = some t := by
  unfold am_tsw
  rw [if_pos h, if_pos (by omega)]
  simp only [am_tg, ht, Int.toNat_natCast]
theorem am_lsw_d {pc : Nat} {dflt : Int} {ps : Array (Int × Int)} {x : Int32} {t : Nat} (hp : (ps.toList.zip (ps.toList.drop 1)).all (fun (a, next) => a.1 < next.1) = true) (ht : (pc : Int) + Op.lookupswitch.offset ps.toList dflt x.toInt = (t : Int)) : am_lsw pc dflt ps x = some t := by
  unfold am_lsw
  rw [if_pos ⟨hp, by omega⟩]
  simp only [am_tg, ht, Int.toNat_natCast]
def am_B0 : List Int32 := am_sB.getD 0 []
theorem am_B0_h : am_sB[0]? = some am_B0 := by decide +kernel
def am_B1 : List Int32 := am_sB.getD 1 []
theorem am_B1_h : am_sB[1]? = some am_B1 := by decide +kernel
def am_B2 : List Int32 := am_sB.getD 2 []
theorem am_B2_h : am_sB[2]? = some am_B2 := by decide +kernel
def am_B3 : List Int32 := am_sB.getD 3 []
theorem am_B3_h : am_sB[3]? = some am_B3 := by decide +kernel
def am_B4 : List Int32 := am_sB.getD 4 []
theorem am_B4_h : am_sB[4]? = some am_B4 := by decide +kernel
def am_B5 : List Int32 := am_sB.getD 5 []
theorem am_B5_h : am_sB[5]? = some am_B5 := by decide +kernel
def am_B6 : List Int32 := am_sB.getD 6 []
theorem am_B6_h : am_sB[6]? = some am_B6 := by decide +kernel
def am_B7 : List Int32 := am_sB.getD 7 []
theorem am_B7_h : am_sB[7]? = some am_B7 := by decide +kernel
def am_B8 : List Int32 := am_sB.getD 8 []
theorem am_B8_h : am_sB[8]? = some am_B8 := by decide +kernel
def am_B9 : List Int32 := am_sB.getD 9 []
theorem am_B9_h : am_sB[9]? = some am_B9 := by decide +kernel
def am_B10 : List Int32 := am_sB.getD 10 []
theorem am_B10_h : am_sB[10]? = some am_B10 := by decide +kernel
def am_B11 : List Int32 := am_sB.getD 11 []
theorem am_B11_h : am_sB[11]? = some am_B11 := by decide +kernel
def am_B12 : List Int32 := am_sB.getD 12 []
theorem am_B12_h : am_sB[12]? = some am_B12 := by decide +kernel
def am_B13 : List Int32 := am_sB.getD 13 []
theorem am_B13_h : am_sB[13]? = some am_B13 := by decide +kernel
def am_B14 : List Int32 := am_sB.getD 14 []
theorem am_B14_h : am_sB[14]? = some am_B14 := by decide +kernel
def am_B15 : List Int32 := am_sB.getD 15 []
theorem am_B15_h : am_sB[15]? = some am_B15 := by decide +kernel
def am_B16 : List Int32 := am_sB.getD 16 []
theorem am_B16_h : am_sB[16]? = some am_B16 := by decide +kernel
def am_B17 : List Int32 := am_sB.getD 17 []
theorem am_B17_h : am_sB[17]? = some am_B17 := by decide +kernel
theorem gk_8_66_8 : am_gfK 8 66 8 = some (0, 0) := by decide +kernel
theorem gk_8_50_8 : am_gfK 8 50 8 = some (1, 0) := by decide +kernel
theorem gk_8_72_8 : am_gfK 8 72 8 = some (5, 0) := by decide +kernel
theorem ct_11_93 : am_ct 11 93 = some (1, mX11_isKind) ∧ am_mk 11 93 = none ∧ am_ac 11 93 = false := ⟨rfl, by decide +kernel, by decide +kernel⟩
theorem ct_11_149 : am_ct 11 149 = some (3, mX11_isWithin) ∧ am_mk 11 149 = none ∧ am_ac 11 149 = false := ⟨rfl, by decide +kernel, by decide +kernel⟩
theorem ct_11_97 : am_ct 11 97 = some (1, mX11_isPitch) ∧ am_mk 11 97 = none ∧ am_ac 11 97 = false := ⟨rfl, by decide +kernel, by decide +kernel⟩
theorem ct_11_100 : am_ct 11 100 = some (1, mX11_isStrength) ∧ am_mk 11 100 = none ∧ am_ac 11 100 = false := ⟨rfl, by decide +kernel, by decide +kernel⟩
theorem ct_11_103 : am_ct 11 103 = some (1, mX11_isPlace) ∧ am_mk 11 103 = none ∧ am_ac 11 103 = false := ⟨rfl, by decide +kernel, by decide +kernel⟩
theorem gk_11_30_0 : am_gfK 11 30 0 = some (0, 2) := by decide +kernel
theorem rf_0_0 {RF : Nat → Nat → Option Nat} (h : am_RFok RF) : RF 0 0 = some 8 := h (0, 0, 8) (by decide +kernel)
theorem cv_11_106_8 : am_nv 11 106 = some 4 ∧ am_cv 11 106 8 = some mX8_addVoice := ⟨by decide +kernel, rfl⟩
theorem gk_8_15_8 : am_gfK 8 15 8 = some (9, 2) := by decide +kernel
theorem rf_8_9 {RF : Nat → Nat → Option Nat} (h : am_RFok RF) : RF 8 9 = some 10 := h (8, 9, 10) (by decide +kernel)
theorem sh_10 : am_SH[10]? = some (20, 6) := by decide +kernel
theorem gk_8_18_8 : am_gfK 8 18 8 = some (10, 2) := by decide +kernel
theorem rf_8_10 {RF : Nat → Nat → Option Nat} (h : am_RFok RF) : RF 8 10 = some 11 := h (8, 10, 11) (by decide +kernel)
theorem sh_11 : am_SH[11]? = some (20, 6) := by decide +kernel
theorem gk_8_21_8 : am_gfK 8 21 8 = some (11, 2) := by decide +kernel
theorem rf_8_11 {RF : Nat → Nat → Option Nat} (h : am_RFok RF) : RF 8 11 = some 12 := h (8, 11, 12) (by decide +kernel)
theorem sh_12 : am_SH[12]? = some (20, 6) := by decide +kernel
theorem gk_8_24_8 : am_gfK 8 24 8 = some (12, 2) := by decide +kernel
theorem rf_8_12 {RF : Nat → Nat → Option Nat} (h : am_RFok RF) : RF 8 12 = some 13 := h (8, 12, 13) (by decide +kernel)
theorem sh_13 : am_SH[13]? = some (20, 6) := by decide +kernel
theorem sh_8 : am_SH[8]? = some (8, 19) := by decide +kernel
def F_X11_isWithin (a0 : Int32) (a1 : Int32) (a2 : Int32) (s : am_S) : Option (Int32 × am_S) := (if a0 < a1 then (some ((0 : Int32), s)) else (if a2 < a0 then (some ((0 : Int32), s)) else (some ((1 : Int32), s))))
def F_X8_isOver_8 (s : am_S) : Option (Int32 × am_S) := (if (s.1 8 1) ≤ (s.1 8 0) then (some ((1 : Int32), s)) else (if (s.1 8 0) < (16 : Int32) then (some ((0 : Int32), s)) else (some ((1 : Int32), s))))
def F_X8_has_8 (a1 : Int32) (s : am_S) : Option (Int32 × am_S) := (if a1 < (0 : Int32) then (some ((0 : Int32), s)) else (if (s.1 8 5) ≤ a1 then (some ((0 : Int32), s)) else (some ((1 : Int32), s))))
def F_X11_isKind (a0 : Int32) (s : am_S) : Option (Int32 × am_S) := ((F_X11_isWithin a0 (1 : Int32) (5 : Int32) s).bind fun q1 => (if q1.1 = 0 ∨ q1.1 = 1 then some (q1.1, q1.2) else none))
def F_X11_isPitch (a0 : Int32) (s : am_S) : Option (Int32 × am_S) := ((F_X11_isWithin a0 (0 : Int32) (9 : Int32) s).bind fun q1 => (if q1.1 = 0 ∨ q1.1 = 1 then some (q1.1, q1.2) else none))
def F_X11_isStrength (a0 : Int32) (s : am_S) : Option (Int32 × am_S) := ((F_X11_isWithin a0 (1 : Int32) (9 : Int32) s).bind fun q1 => (if q1.1 = 0 ∨ q1.1 = 1 then some (q1.1, q1.2) else none))
def F_X11_isPlace (a0 : Int32) (s : am_S) : Option (Int32 × am_S) := ((F_X11_isWithin a0 (0 : Int32) (15 : Int32) s).bind fun q1 => (if q1.1 = 0 ∨ q1.1 = 1 then some (q1.1, q1.2) else none))
def F_X8_addVoice_8 (a1 : Int32) (a2 : Int32) (a3 : Int32) (a4 : Int32) (s : am_S) : Option (Int32 × am_S) := (if (s.1 8 5) < (6 : Int32) then (if am_in (s.1 8 5) 6 then ((some (am_sI s 10 (s.1 8 5).toNatClampNeg a1)).bind fun s3 => (if am_in (s3.1 8 5) 6 then ((some (am_sI s3 11 (s3.1 8 5).toNatClampNeg a2)).bind fun s6 => (if am_in (s6.1 8 5) 6 then ((some (am_sI s6 12 (s6.1 8 5).toNatClampNeg a3)).bind fun s9 => (if am_in (s9.1 8 5) 6 then ((some (am_sI s9 13 (s9.1 8 5).toNatClampNeg a4)).bind fun s12 => ((some (am_sI s12 8 5 ((s12.1 8 5) + (1 : Int32)))).bind fun s14 => (some (((s14.1 8 5) - (1 : Int32)), s14)))) else none)) else none)) else none)) else none) else (some ((-2 : Int32), s)))
def F_X11_voice_0_b34 (x1 : Int32) (x2 : Int32) (x3 : Int32) (x4 : Int32) (y0 : Int32) (s : am_S) : Option (Int32 × am_S) := (if y0 = (0 : Int32) then (some ((-1 : Int32), s)) else ((F_X8_addVoice_8 x1 x2 x3 x4 s).bind fun q2 => (some (q2.1, q2.2))))
def F_X11_voice_0_b33 (x1 : Int32) (x2 : Int32) (x3 : Int32) (x4 : Int32) (s : am_S) : Option (Int32 × am_S) := (F_X11_voice_0_b34 x1 x2 x3 x4 (0 : Int32) s)
def F_X11_voice_0 (a1 : Int32) (a2 : Int32) (a3 : Int32) (a4 : Int32) (s : am_S) : Option (Int32 × am_S) := ((F_X11_isKind a1 s).bind fun q1 => (if q1.1 = (0 : Int32) then (F_X11_voice_0_b33 a1 a2 a3 a4 q1.2) else ((F_X11_isPitch a2 q1.2).bind fun q4 => (if q4.1 = (0 : Int32) then (F_X11_voice_0_b33 a1 a2 a3 a4 q4.2) else ((F_X11_isStrength a3 q4.2).bind fun q7 => (if q7.1 = (0 : Int32) then (F_X11_voice_0_b33 a1 a2 a3 a4 q7.2) else ((F_X11_isPlace a4 q7.2).bind fun q10 => (if q10.1 = (0 : Int32) then (F_X11_voice_0_b33 a1 a2 a3 a4 q10.2) else (F_X11_voice_0_b34 a1 a2 a3 a4 (1 : Int32) q10.2)))))))))
set_option maxRecDepth 20000 in
theorem T_X11_isWithin {sc : Option (Nat × (Nat → Int32))} {RF : Nat → Nat → Option Nat} {d : Nat} (hR : am_RFok RF) (hd : 0 ≤ d) {a0 : Int32} {a1 : Int32} {a2 : Int32} {s : am_S} {r : Int32 × am_S} (h : F_X11_isWithin a0 a1 a2 s = some r) : am_Q sc d mX11_isWithin (0, am_L0 mX11_isWithin [.int a0, .int a1, .int a2], [], am_hp RF s) (.int r.1, am_hp RF r.2) := by
  unfold F_X11_isWithin at h
  show am_Q _ _ _ (0, [.int a0, .int a1, .int a2], [], _) _
  refine aq_iload_n (am_dg dkX11_isWithin (i := 0) rfl) rfl ?_
  refine aq_iload_n (am_dg dkX11_isWithin (i := 1) rfl) rfl ?_
  by_cases hc1 : a0 < a1
  · rw [if_pos hc1] at h
    refine aq_icT (t := 14) (am_dg dkX11_isWithin (i := 2) rfl) rfl (decide_eq_true hc1) ?_
    refine aq_iconst (v := (0 : Int32)) (am_dg dkX11_isWithin (i := 8) rfl) (by decide) ?_
    cases h
    exact aq_ireturn (am_dg dkX11_isWithin (i := 9) rfl) rfl (Or.inr (Or.inl rfl)) rfl
  · rw [if_neg hc1] at h
    refine aq_icF (t := 14) (am_dg dkX11_isWithin (i := 2) rfl) rfl (decide_eq_false hc1) ?_
    refine aq_iload_n (am_dg dkX11_isWithin (i := 3) rfl) rfl ?_
    refine aq_iload_n (am_dg dkX11_isWithin (i := 4) rfl) rfl ?_
    by_cases hc2 : a2 < a0
    · rw [if_pos hc2] at h
      refine aq_icT (t := 14) (am_dg dkX11_isWithin (i := 5) rfl) rfl (decide_eq_true hc2) ?_
      refine aq_iconst (v := (0 : Int32)) (am_dg dkX11_isWithin (i := 8) rfl) (by decide) ?_
      cases h
      exact aq_ireturn (am_dg dkX11_isWithin (i := 9) rfl) rfl (Or.inr (Or.inl rfl)) rfl
    · rw [if_neg hc2] at h
      refine aq_icF (t := 14) (am_dg dkX11_isWithin (i := 5) rfl) rfl (decide_eq_false hc2) ?_
      refine aq_iconst (v := (1 : Int32)) (am_dg dkX11_isWithin (i := 6) rfl) (by decide) ?_
      refine aq_goto (t := 15) (am_dg dkX11_isWithin (i := 7) rfl) rfl ?_
      cases h
      exact aq_ireturn (am_dg dkX11_isWithin (i := 9) rfl) rfl (Or.inr (Or.inl rfl)) rfl
set_option maxRecDepth 20000 in
theorem T_X8_isOver_8 {sc : Option (Nat × (Nat → Int32))} {RF : Nat → Nat → Option Nat} {d : Nat} (hR : am_RFok RF) (hd : 0 ≤ d) {s : am_S} {r : Int32 × am_S} (h : F_X8_isOver_8 s = some r) : am_Q sc d mX8_isOver (0, am_L0 mX8_isOver [.ref 8], [], am_hp RF s) (.int r.1, am_hp RF r.2) := by
  unfold F_X8_isOver_8 at h
  show am_Q _ _ _ (0, [.ref 8], [], _) _
  refine aq_aload_n (am_dg dkX8_isOver (i := 0) rfl) rfl ?_
  refine aq_getI (am_dg dkX8_isOver (i := 1) rfl) gk_8_66_8 (by decide) ?_
  refine aq_aload_n (am_dg dkX8_isOver (i := 2) rfl) rfl ?_
  refine aq_getI (am_dg dkX8_isOver (i := 3) rfl) gk_8_50_8 (by decide) ?_
  by_cases hc1 : (s.1 8 1) ≤ (s.1 8 0)
  · rw [if_pos hc1] at h
    refine aq_icT (t := 20) (am_dg dkX8_isOver (i := 4) rfl) rfl (decide_eq_true hc1) ?_
    refine aq_iconst (v := (1 : Int32)) (am_dg dkX8_isOver (i := 9) rfl) (by decide) ?_
    refine aq_goto (t := 25) (am_dg dkX8_isOver (i := 10) rfl) rfl ?_
    cases h
    exact aq_ireturn (am_dg dkX8_isOver (i := 12) rfl) rfl (Or.inr (Or.inl rfl)) rfl
  · rw [if_neg hc1] at h
    refine aq_icF (t := 20) (am_dg dkX8_isOver (i := 4) rfl) rfl (decide_eq_false hc1) ?_
    refine aq_aload_n (am_dg dkX8_isOver (i := 5) rfl) rfl ?_
    refine aq_getI (am_dg dkX8_isOver (i := 6) rfl) gk_8_66_8 (by decide) ?_
    refine aq_bipush (v := (16 : Int32)) (am_dg dkX8_isOver (i := 7) rfl) (by decide) ?_
    by_cases hc2 : (s.1 8 0) < (16 : Int32)
    · rw [if_pos hc2] at h
      refine aq_icT (t := 24) (am_dg dkX8_isOver (i := 8) rfl) rfl (decide_eq_true hc2) ?_
      refine aq_iconst (v := (0 : Int32)) (am_dg dkX8_isOver (i := 11) rfl) (by decide) ?_
      cases h
      exact aq_ireturn (am_dg dkX8_isOver (i := 12) rfl) rfl (Or.inr (Or.inl rfl)) rfl
    · rw [if_neg hc2] at h
      refine aq_icF (t := 24) (am_dg dkX8_isOver (i := 8) rfl) rfl (decide_eq_false hc2) ?_
      refine aq_iconst (v := (1 : Int32)) (am_dg dkX8_isOver (i := 9) rfl) (by decide) ?_
      refine aq_goto (t := 25) (am_dg dkX8_isOver (i := 10) rfl) rfl ?_
      cases h
      exact aq_ireturn (am_dg dkX8_isOver (i := 12) rfl) rfl (Or.inr (Or.inl rfl)) rfl
set_option maxRecDepth 20000 in
theorem T_X8_has_8 {sc : Option (Nat × (Nat → Int32))} {RF : Nat → Nat → Option Nat} {d : Nat} (hR : am_RFok RF) (hd : 0 ≤ d) {a1 : Int32} {s : am_S} {r : Int32 × am_S} (h : F_X8_has_8 a1 s = some r) : am_Q sc d mX8_has (0, am_L0 mX8_has [.ref 8, .int a1], [], am_hp RF s) (.int r.1, am_hp RF r.2) := by
  unfold F_X8_has_8 at h
  show am_Q _ _ _ (0, [.ref 8, .int a1], [], _) _
  refine aq_iload_n (am_dg dkX8_has (i := 0) rfl) rfl ?_
  by_cases hc1 : a1 < (0 : Int32)
  · rw [if_pos hc1] at h
    refine aq_ifT (t := 16) (am_dg dkX8_has (i := 1) rfl) rfl (decide_eq_true hc1) ?_
    refine aq_iconst (v := (0 : Int32)) (am_dg dkX8_has (i := 8) rfl) (by decide) ?_
    cases h
    exact aq_ireturn (am_dg dkX8_has (i := 9) rfl) rfl (Or.inr (Or.inl rfl)) rfl
  · rw [if_neg hc1] at h
    refine aq_ifF (t := 16) (am_dg dkX8_has (i := 1) rfl) rfl (decide_eq_false hc1) ?_
    refine aq_iload_n (am_dg dkX8_has (i := 2) rfl) rfl ?_
    refine aq_aload_n (am_dg dkX8_has (i := 3) rfl) rfl ?_
    refine aq_getI (am_dg dkX8_has (i := 4) rfl) gk_8_72_8 (by decide) ?_
    by_cases hc2 : (s.1 8 5) ≤ a1
    · rw [if_pos hc2] at h
      refine aq_icT (t := 16) (am_dg dkX8_has (i := 5) rfl) rfl (decide_eq_true hc2) ?_
      refine aq_iconst (v := (0 : Int32)) (am_dg dkX8_has (i := 8) rfl) (by decide) ?_
      cases h
      exact aq_ireturn (am_dg dkX8_has (i := 9) rfl) rfl (Or.inr (Or.inl rfl)) rfl
    · rw [if_neg hc2] at h
      refine aq_icF (t := 16) (am_dg dkX8_has (i := 5) rfl) rfl (decide_eq_false hc2) ?_
      refine aq_iconst (v := (1 : Int32)) (am_dg dkX8_has (i := 6) rfl) (by decide) ?_
      refine aq_goto (t := 17) (am_dg dkX8_has (i := 7) rfl) rfl ?_
      cases h
      exact aq_ireturn (am_dg dkX8_has (i := 9) rfl) rfl (Or.inr (Or.inl rfl)) rfl
set_option maxRecDepth 20000 in
theorem T_X11_isKind {sc : Option (Nat × (Nat → Int32))} {RF : Nat → Nat → Option Nat} {d : Nat} (hR : am_RFok RF) (hd : 1 ≤ d) {a0 : Int32} {s : am_S} {r : Int32 × am_S} (h : F_X11_isKind a0 s = some r) : am_Q sc d mX11_isKind (0, am_L0 mX11_isKind [.int a0], [], am_hp RF s) (.int r.1, am_hp RF r.2) := by
  obtain ⟨e, rfl⟩ : ∃ e, d = e + 1 := ⟨d - 1, by omega⟩
  unfold F_X11_isKind at h
  show am_Q _ _ _ (0, [.int a0], [], _) _
  refine aq_iload_n (am_dg dkX11_isKind (i := 0) rfl) rfl ?_
  refine aq_iconst (v := (1 : Int32)) (am_dg dkX11_isKind (i := 1) rfl) (by decide) ?_
  refine aq_iconst (v := (5 : Int32)) (am_dg dkX11_isKind (i := 2) rfl) (by decide) ?_
  obtain ⟨q1, hq2, h⟩ := am_bnd h
  refine aq_static (a := [.int a0, .int (1 : Int32), .int (5 : Int32)]) (S1 := []) (v1 := .int q1.1) (S2 := [.int q1.1]) (am_dg dkX11_isKind (i := 3) rfl) ct_11_149 rfl rfl rfl (Nat.le_of_ble_eq_true rfl) (Nat.le_of_ble_eq_true rfl) (T_X11_isWithin hR (by omega) hq2) rfl ?_
  obtain ⟨hg3, h⟩ := am_guard h
  cases h
  exact aq_ireturn (am_dg dkX11_isKind (i := 4) rfl) rfl (Or.inr (Or.inl rfl)) (am_nz hg3)
set_option maxRecDepth 20000 in
theorem T_X11_isPitch {sc : Option (Nat × (Nat → Int32))} {RF : Nat → Nat → Option Nat} {d : Nat} (hR : am_RFok RF) (hd : 1 ≤ d) {a0 : Int32} {s : am_S} {r : Int32 × am_S} (h : F_X11_isPitch a0 s = some r) : am_Q sc d mX11_isPitch (0, am_L0 mX11_isPitch [.int a0], [], am_hp RF s) (.int r.1, am_hp RF r.2) := by
  obtain ⟨e, rfl⟩ : ∃ e, d = e + 1 := ⟨d - 1, by omega⟩
  unfold F_X11_isPitch at h
  show am_Q _ _ _ (0, [.int a0], [], _) _
  refine aq_iload_n (am_dg dkX11_isPitch (i := 0) rfl) rfl ?_
  refine aq_iconst (v := (0 : Int32)) (am_dg dkX11_isPitch (i := 1) rfl) (by decide) ?_
  refine aq_bipush (v := (9 : Int32)) (am_dg dkX11_isPitch (i := 2) rfl) (by decide) ?_
  obtain ⟨q1, hq2, h⟩ := am_bnd h
  refine aq_static (a := [.int a0, .int (0 : Int32), .int (9 : Int32)]) (S1 := []) (v1 := .int q1.1) (S2 := [.int q1.1]) (am_dg dkX11_isPitch (i := 3) rfl) ct_11_149 rfl rfl rfl (Nat.le_of_ble_eq_true rfl) (Nat.le_of_ble_eq_true rfl) (T_X11_isWithin hR (by omega) hq2) rfl ?_
  obtain ⟨hg3, h⟩ := am_guard h
  cases h
  exact aq_ireturn (am_dg dkX11_isPitch (i := 4) rfl) rfl (Or.inr (Or.inl rfl)) (am_nz hg3)
set_option maxRecDepth 20000 in
theorem T_X11_isStrength {sc : Option (Nat × (Nat → Int32))} {RF : Nat → Nat → Option Nat} {d : Nat} (hR : am_RFok RF) (hd : 1 ≤ d) {a0 : Int32} {s : am_S} {r : Int32 × am_S} (h : F_X11_isStrength a0 s = some r) : am_Q sc d mX11_isStrength (0, am_L0 mX11_isStrength [.int a0], [], am_hp RF s) (.int r.1, am_hp RF r.2) := by
  obtain ⟨e, rfl⟩ : ∃ e, d = e + 1 := ⟨d - 1, by omega⟩
  unfold F_X11_isStrength at h
  show am_Q _ _ _ (0, [.int a0], [], _) _
  refine aq_iload_n (am_dg dkX11_isStrength (i := 0) rfl) rfl ?_
  refine aq_iconst (v := (1 : Int32)) (am_dg dkX11_isStrength (i := 1) rfl) (by decide) ?_
  refine aq_bipush (v := (9 : Int32)) (am_dg dkX11_isStrength (i := 2) rfl) (by decide) ?_
  obtain ⟨q1, hq2, h⟩ := am_bnd h
  refine aq_static (a := [.int a0, .int (1 : Int32), .int (9 : Int32)]) (S1 := []) (v1 := .int q1.1) (S2 := [.int q1.1]) (am_dg dkX11_isStrength (i := 3) rfl) ct_11_149 rfl rfl rfl (Nat.le_of_ble_eq_true rfl) (Nat.le_of_ble_eq_true rfl) (T_X11_isWithin hR (by omega) hq2) rfl ?_
  obtain ⟨hg3, h⟩ := am_guard h
  cases h
  exact aq_ireturn (am_dg dkX11_isStrength (i := 4) rfl) rfl (Or.inr (Or.inl rfl)) (am_nz hg3)
set_option maxRecDepth 20000 in
theorem T_X11_isPlace {sc : Option (Nat × (Nat → Int32))} {RF : Nat → Nat → Option Nat} {d : Nat} (hR : am_RFok RF) (hd : 1 ≤ d) {a0 : Int32} {s : am_S} {r : Int32 × am_S} (h : F_X11_isPlace a0 s = some r) : am_Q sc d mX11_isPlace (0, am_L0 mX11_isPlace [.int a0], [], am_hp RF s) (.int r.1, am_hp RF r.2) := by
  obtain ⟨e, rfl⟩ : ∃ e, d = e + 1 := ⟨d - 1, by omega⟩
  unfold F_X11_isPlace at h
  show am_Q _ _ _ (0, [.int a0], [], _) _
  refine aq_iload_n (am_dg dkX11_isPlace (i := 0) rfl) rfl ?_
  refine aq_iconst (v := (0 : Int32)) (am_dg dkX11_isPlace (i := 1) rfl) (by decide) ?_
  refine aq_bipush (v := (15 : Int32)) (am_dg dkX11_isPlace (i := 2) rfl) (by decide) ?_
  obtain ⟨q1, hq2, h⟩ := am_bnd h
  refine aq_static (a := [.int a0, .int (0 : Int32), .int (15 : Int32)]) (S1 := []) (v1 := .int q1.1) (S2 := [.int q1.1]) (am_dg dkX11_isPlace (i := 3) rfl) ct_11_149 rfl rfl rfl (Nat.le_of_ble_eq_true rfl) (Nat.le_of_ble_eq_true rfl) (T_X11_isWithin hR (by omega) hq2) rfl ?_
  obtain ⟨hg3, h⟩ := am_guard h
  cases h
  exact aq_ireturn (am_dg dkX11_isPlace (i := 4) rfl) rfl (Or.inr (Or.inl rfl)) (am_nz hg3)
set_option maxRecDepth 20000 in
theorem T_X8_addVoice_8 {sc : Option (Nat × (Nat → Int32))} {RF : Nat → Nat → Option Nat} {d : Nat} (hR : am_RFok RF) (hd : 0 ≤ d) {a1 : Int32} {a2 : Int32} {a3 : Int32} {a4 : Int32} {s : am_S} {r : Int32 × am_S} (h : F_X8_addVoice_8 a1 a2 a3 a4 s = some r) : am_Q sc d mX8_addVoice (0, am_L0 mX8_addVoice [.ref 8, .int a1, .int a2, .int a3, .int a4], [], am_hp RF s) (.int r.1, am_hp RF r.2) := by
  unfold F_X8_addVoice_8 at h
  show am_Q _ _ _ (0, [.ref 8, .int a1, .int a2, .int a3, .int a4], [], _) _
  refine aq_aload_n (am_dg dkX8_addVoice (i := 0) rfl) rfl ?_
  refine aq_getI (am_dg dkX8_addVoice (i := 1) rfl) gk_8_72_8 (by decide) ?_
  refine aq_bipush (v := (6 : Int32)) (am_dg dkX8_addVoice (i := 2) rfl) (by decide) ?_
  by_cases hc1 : (s.1 8 5) < (6 : Int32)
  · rw [if_pos hc1] at h
    refine aq_icT (t := 12) (am_dg dkX8_addVoice (i := 3) rfl) rfl (decide_eq_true hc1) ?_
    refine aq_aload_n (am_dg dkX8_addVoice (i := 6) rfl) rfl ?_
    refine aq_getR (am_dg dkX8_addVoice (i := 7) rfl) gk_8_15_8 (rf_8_9 hR) ?_
    refine aq_aload_n (am_dg dkX8_addVoice (i := 8) rfl) rfl ?_
    refine aq_getI (am_dg dkX8_addVoice (i := 9) rfl) gk_8_72_8 (by decide) ?_
    refine aq_iload_n (am_dg dkX8_addVoice (i := 10) rfl) rfl ?_
    obtain ⟨hg2, h⟩ := am_guard h
    refine aq_iast (am_dg dkX8_addVoice (i := 11) rfl) sh_10 hg2 ?_
    obtain ⟨s3, hs4, h⟩ := am_bnd h
    rw [Option.some.inj hs4]
    refine aq_aload_n (am_dg dkX8_addVoice (i := 12) rfl) rfl ?_
    refine aq_getR (am_dg dkX8_addVoice (i := 13) rfl) gk_8_18_8 (rf_8_10 hR) ?_
    refine aq_aload_n (am_dg dkX8_addVoice (i := 14) rfl) rfl ?_
    refine aq_getI (am_dg dkX8_addVoice (i := 15) rfl) gk_8_72_8 (by decide) ?_
    refine aq_iload_n (am_dg dkX8_addVoice (i := 16) rfl) rfl ?_
    obtain ⟨hg5, h⟩ := am_guard h
    refine aq_iast (am_dg dkX8_addVoice (i := 17) rfl) sh_11 hg5 ?_
    obtain ⟨s6, hs7, h⟩ := am_bnd h
    rw [Option.some.inj hs7]
    refine aq_aload_n (am_dg dkX8_addVoice (i := 18) rfl) rfl ?_
    refine aq_getR (am_dg dkX8_addVoice (i := 19) rfl) gk_8_21_8 (rf_8_11 hR) ?_
    refine aq_aload_n (am_dg dkX8_addVoice (i := 20) rfl) rfl ?_
    refine aq_getI (am_dg dkX8_addVoice (i := 21) rfl) gk_8_72_8 (by decide) ?_
    refine aq_iload_n (am_dg dkX8_addVoice (i := 22) rfl) rfl ?_
    obtain ⟨hg8, h⟩ := am_guard h
    refine aq_iast (am_dg dkX8_addVoice (i := 23) rfl) sh_12 hg8 ?_
    obtain ⟨s9, hs10, h⟩ := am_bnd h
    rw [Option.some.inj hs10]
    refine aq_aload_n (am_dg dkX8_addVoice (i := 24) rfl) rfl ?_
    refine aq_getR (am_dg dkX8_addVoice (i := 25) rfl) gk_8_24_8 (rf_8_12 hR) ?_
    refine aq_aload_n (am_dg dkX8_addVoice (i := 26) rfl) rfl ?_
    refine aq_getI (am_dg dkX8_addVoice (i := 27) rfl) gk_8_72_8 (by decide) ?_
    refine aq_iload (am_dg dkX8_addVoice (i := 28) rfl) rfl ?_
    obtain ⟨hg11, h⟩ := am_guard h
    refine aq_iast (am_dg dkX8_addVoice (i := 29) rfl) sh_13 hg11 ?_
    obtain ⟨s12, hs13, h⟩ := am_bnd h
    rw [Option.some.inj hs13]
    refine aq_aload_n (am_dg dkX8_addVoice (i := 30) rfl) rfl ?_
    refine aq_dup (am_dg dkX8_addVoice (i := 31) rfl) rfl ?_
    refine aq_getI (am_dg dkX8_addVoice (i := 32) rfl) gk_8_72_8 (by decide) ?_
    refine aq_iconst (v := (1 : Int32)) (am_dg dkX8_addVoice (i := 33) rfl) (by decide) ?_
    refine aq_iadd (am_dg dkX8_addVoice (i := 34) rfl) ?_
    refine aq_putI (am_dg dkX8_addVoice (i := 35) rfl) gk_8_72_8 ?_
    obtain ⟨s14, hs15, h⟩ := am_bnd h
    rw [Option.some.inj hs15]
    refine aq_aload_n (am_dg dkX8_addVoice (i := 36) rfl) rfl ?_
    refine aq_getI (am_dg dkX8_addVoice (i := 37) rfl) gk_8_72_8 (by decide) ?_
    refine aq_iconst (v := (1 : Int32)) (am_dg dkX8_addVoice (i := 38) rfl) (by decide) ?_
    refine aq_isub (am_dg dkX8_addVoice (i := 39) rfl) ?_
    cases h
    exact aq_ireturn (am_dg dkX8_addVoice (i := 40) rfl) rfl (Or.inl rfl) rfl
  · rw [if_neg hc1] at h
    refine aq_icF (t := 12) (am_dg dkX8_addVoice (i := 3) rfl) rfl (decide_eq_false hc1) ?_
    refine aq_bipush (v := (-2 : Int32)) (am_dg dkX8_addVoice (i := 4) rfl) (by decide) ?_
    cases h
    exact aq_ireturn (am_dg dkX8_addVoice (i := 5) rfl) rfl (Or.inl rfl) rfl
set_option maxRecDepth 20000 in
theorem T_X11_voice_0_b34 {sc : Option (Nat × (Nat → Int32))} {RF : Nat → Nat → Option Nat} {d : Nat} (hR : am_RFok RF) (hd : 2 ≤ d) : ∀ (x1 : Int32) (x2 : Int32) (x3 : Int32) (x4 : Int32) (y0 : Int32) (w5 : Value) (s : am_S) (r : Int32 × am_S), F_X11_voice_0_b34 x1 x2 x3 x4 y0 s = some r → am_Q sc d mX11_voice (34, [.ref 0, .int x1, .int x2, .int x3, .int x4, w5], [.int y0], am_hp RF s) (.int r.1, am_hp RF r.2) := by
  obtain ⟨e, rfl⟩ : ∃ e, d = e + 1 := ⟨d - 1, by omega⟩
  intro x1 x2 x3 x4 y0 w5 s r h
  unfold F_X11_voice_0_b34 at h
  refine aq_istore (L1 := [.ref 0, .int x1, .int x2, .int x3, .int x4, .int y0]) (am_dg dkX11_voice (i := 15) rfl) rfl ?_
  refine aq_iload (am_dg dkX11_voice (i := 16) rfl) rfl ?_
  by_cases hc1 : y0 = (0 : Int32)
  · rw [if_pos hc1] at h
    refine aq_ifT (t := 56) (am_dg dkX11_voice (i := 17) rfl) rfl (decide_eq_true hc1) ?_
    refine aq_iconst (v := (-1 : Int32)) (am_dg dkX11_voice (i := 26) rfl) (by decide) ?_
    cases h
    exact aq_ireturn (am_dg dkX11_voice (i := 27) rfl) rfl (Or.inl rfl) rfl
  · rw [if_neg hc1] at h
    refine aq_ifF (t := 56) (am_dg dkX11_voice (i := 17) rfl) rfl (decide_eq_false hc1) ?_
    refine aq_aload_n (am_dg dkX11_voice (i := 18) rfl) rfl ?_
    refine aq_getR (am_dg dkX11_voice (i := 19) rfl) gk_11_30_0 (rf_0_0 hR) ?_
    refine aq_iload_n (am_dg dkX11_voice (i := 20) rfl) rfl ?_
    refine aq_iload_n (am_dg dkX11_voice (i := 21) rfl) rfl ?_
    refine aq_iload_n (am_dg dkX11_voice (i := 22) rfl) rfl ?_
    refine aq_iload (am_dg dkX11_voice (i := 23) rfl) rfl ?_
    obtain ⟨q2, hq3, h⟩ := am_bnd h
    refine aq_virt (a := [.ref 8, .int x1, .int x2, .int x3, .int x4]) (S1 := []) (v1 := .int q2.1) (S2 := [.int q2.1]) (am_dg dkX11_voice (i := 24) rfl) cv_11_106_8 (am_cls_c sh_8 (by decide)) rfl rfl rfl (Nat.le_of_ble_eq_true rfl) (Nat.le_of_ble_eq_true rfl) (T_X8_addVoice_8 hR (by omega) hq3) rfl ?_
    refine aq_goto (t := 57) (am_dg dkX11_voice (i := 25) rfl) rfl ?_
    cases h
    exact aq_ireturn (am_dg dkX11_voice (i := 27) rfl) rfl (Or.inl rfl) rfl
set_option maxRecDepth 20000 in
theorem T_X11_voice_0_b33 {sc : Option (Nat × (Nat → Int32))} {RF : Nat → Nat → Option Nat} {d : Nat} (hR : am_RFok RF) (hd : 2 ≤ d) : ∀ (x1 : Int32) (x2 : Int32) (x3 : Int32) (x4 : Int32) (w5 : Value) (s : am_S) (r : Int32 × am_S), F_X11_voice_0_b33 x1 x2 x3 x4 s = some r → am_Q sc d mX11_voice (33, [.ref 0, .int x1, .int x2, .int x3, .int x4, w5], [], am_hp RF s) (.int r.1, am_hp RF r.2) := by
  obtain ⟨e, rfl⟩ : ∃ e, d = e + 1 := ⟨d - 1, by omega⟩
  intro x1 x2 x3 x4 w5 s r h
  unfold F_X11_voice_0_b33 at h
  refine aq_iconst (v := (0 : Int32)) (am_dg dkX11_voice (i := 14) rfl) (by decide) ?_
  exact T_X11_voice_0_b34 hR (by omega) _ _ _ _ _ _ _ _ h
set_option maxRecDepth 20000 in
theorem T_X11_voice_0 {sc : Option (Nat × (Nat → Int32))} {RF : Nat → Nat → Option Nat} {d : Nat} (hR : am_RFok RF) (hd : 2 ≤ d) {a1 : Int32} {a2 : Int32} {a3 : Int32} {a4 : Int32} {s : am_S} {r : Int32 × am_S} (h : F_X11_voice_0 a1 a2 a3 a4 s = some r) : am_Q sc d mX11_voice (0, am_L0 mX11_voice [.ref 0, .int a1, .int a2, .int a3, .int a4], [], am_hp RF s) (.int r.1, am_hp RF r.2) := by
  obtain ⟨e, rfl⟩ : ∃ e, d = e + 1 := ⟨d - 1, by omega⟩
  unfold F_X11_voice_0 at h
  show am_Q _ _ _ (0, [.ref 0, .int a1, .int a2, .int a3, .int a4, .null], [], _) _
  refine aq_iload_n (am_dg dkX11_voice (i := 0) rfl) rfl ?_
  obtain ⟨q1, hq2, h⟩ := am_bnd h
  refine aq_static (a := [.int a1]) (S1 := []) (v1 := .int q1.1) (S2 := [.int q1.1]) (am_dg dkX11_voice (i := 1) rfl) ct_11_93 rfl rfl rfl (Nat.le_of_ble_eq_true rfl) (Nat.le_of_ble_eq_true rfl) (T_X11_isKind hR (by omega) hq2) rfl ?_
  by_cases hc3 : q1.1 = (0 : Int32)
  · rw [if_pos hc3] at h
    refine aq_ifT (t := 33) (am_dg dkX11_voice (i := 2) rfl) rfl (decide_eq_true hc3) ?_
    exact T_X11_voice_0_b33 hR (by omega) _ _ _ _ _ _ _ h
  · rw [if_neg hc3] at h
    refine aq_ifF (t := 33) (am_dg dkX11_voice (i := 2) rfl) rfl (decide_eq_false hc3) ?_
    refine aq_iload_n (am_dg dkX11_voice (i := 3) rfl) rfl ?_
    obtain ⟨q4, hq5, h⟩ := am_bnd h
    refine aq_static (a := [.int a2]) (S1 := []) (v1 := .int q4.1) (S2 := [.int q4.1]) (am_dg dkX11_voice (i := 4) rfl) ct_11_97 rfl rfl rfl (Nat.le_of_ble_eq_true rfl) (Nat.le_of_ble_eq_true rfl) (T_X11_isPitch hR (by omega) hq5) rfl ?_
    by_cases hc6 : q4.1 = (0 : Int32)
    · rw [if_pos hc6] at h
      refine aq_ifT (t := 33) (am_dg dkX11_voice (i := 5) rfl) rfl (decide_eq_true hc6) ?_
      exact T_X11_voice_0_b33 hR (by omega) _ _ _ _ _ _ _ h
    · rw [if_neg hc6] at h
      refine aq_ifF (t := 33) (am_dg dkX11_voice (i := 5) rfl) rfl (decide_eq_false hc6) ?_
      refine aq_iload_n (am_dg dkX11_voice (i := 6) rfl) rfl ?_
      obtain ⟨q7, hq8, h⟩ := am_bnd h
      refine aq_static (a := [.int a3]) (S1 := []) (v1 := .int q7.1) (S2 := [.int q7.1]) (am_dg dkX11_voice (i := 7) rfl) ct_11_100 rfl rfl rfl (Nat.le_of_ble_eq_true rfl) (Nat.le_of_ble_eq_true rfl) (T_X11_isStrength hR (by omega) hq8) rfl ?_
      by_cases hc9 : q7.1 = (0 : Int32)
      · rw [if_pos hc9] at h
        refine aq_ifT (t := 33) (am_dg dkX11_voice (i := 8) rfl) rfl (decide_eq_true hc9) ?_
        exact T_X11_voice_0_b33 hR (by omega) _ _ _ _ _ _ _ h
      · rw [if_neg hc9] at h
        refine aq_ifF (t := 33) (am_dg dkX11_voice (i := 8) rfl) rfl (decide_eq_false hc9) ?_
        refine aq_iload (am_dg dkX11_voice (i := 9) rfl) rfl ?_
        obtain ⟨q10, hq11, h⟩ := am_bnd h
        refine aq_static (a := [.int a4]) (S1 := []) (v1 := .int q10.1) (S2 := [.int q10.1]) (am_dg dkX11_voice (i := 10) rfl) ct_11_103 rfl rfl rfl (Nat.le_of_ble_eq_true rfl) (Nat.le_of_ble_eq_true rfl) (T_X11_isPlace hR (by omega) hq11) rfl ?_
        by_cases hc12 : q10.1 = (0 : Int32)
        · rw [if_pos hc12] at h
          refine aq_ifT (t := 33) (am_dg dkX11_voice (i := 11) rfl) rfl (decide_eq_true hc12) ?_
          exact T_X11_voice_0_b33 hR (by omega) _ _ _ _ _ _ _ h
        · rw [if_neg hc12] at h
          refine aq_ifF (t := 33) (am_dg dkX11_voice (i := 11) rfl) rfl (decide_eq_false hc12) ?_
          refine aq_iconst (v := (1 : Int32)) (am_dg dkX11_voice (i := 12) rfl) (by decide) ?_
          refine aq_goto (t := 34) (am_dg dkX11_voice (i := 13) rfl) rfl ?_
          exact T_X11_voice_0_b34 hR (by omega) _ _ _ _ _ _ _ _ h
