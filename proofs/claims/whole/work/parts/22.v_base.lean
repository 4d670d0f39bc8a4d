/-! LAYER 1: the class's and the model's methods as functions (written by wip/whole/gen_f.py) -/
def am_ushr (x y : Int32) : Int32 := (x.toUInt32 >>> (y.toUInt32 &&& Int32.toUInt32 31)).toInt32
def am_lushr (x : Int64) (y : Int32) : Int64 := (x.toUInt64 >>> (y.toInt64.toUInt64 &&& Int64.toUInt64 63)).toInt64
def am_rem (x y : Int32) : Int32 := x - x / y * y
def am_i2c (x : Int32) : Int32 := (x.toUInt32 % 65536).toInt32
section AQ4
variable {sc : Option (Nat × (Nat → Int32))} {d pc : Nat} {M : am_Me} {L S : List Value} {r : am_R1} {h : am_H}
theorem aq_iushrN {x y : Int32} (hd : decode M.2.2.1 pc = .ok (.iushr, 1)) (k : am_Q sc d M (pc + 1, L, .int (am_ushr x y) :: S, h) r) : am_Q sc d M (pc, L, .int y :: .int x :: S, h) r := aq_iushr hd k
theorem aq_lushrN {x : Int64} {y : Int32} (hd : decode M.2.2.1 pc = .ok (.lushr, 1)) (k : am_Q sc d M (pc + 1, L, .long (am_lushr x y) :: S, h) r) : am_Q sc d M (pc, L, .int y :: .long x :: S, h) r := aq_lushr hd k
theorem aq_iremN {x y : Int32} (hd : decode M.2.2.1 pc = .ok (.irem, 1)) (hy : ¬ y = 0) (k : am_Q sc d M (pc + 1, L, .int (am_rem x y) :: S, h) r) : am_Q sc d M (pc, L, .int y :: .int x :: S, h) r := aq_irem hd hy k
theorem aq_i2cN {x : Int32} (hd : decode M.2.2.1 pc = .ok (.i2c, 1)) (k : am_Q sc d M (pc + 1, L, .int (am_i2c x) :: S, h) r) : am_Q sc d M (pc, L, .int x :: S, h) r := aq_i2c hd k
end AQ4
theorem am_nz {v : Int32} (h : v = 0 ∨ v = 1) : narrow .boolean (.int v) = .int v := by
  rcases h with rfl | rfl <;> rfl
theorem am_tsw_d {pc : Nat} {dflt lo hi : Int} {offs : Array Int} {x : Int32} {t : Nat} (h : x.toInt < lo ∨ hi < x.toInt) (ht : (pc : Int) + dflt = (t : Int)) : am_tsw pc dflt lo hi offs x = some t := by
  unfold am_tsw
  rw [if_pos h, if_pos (by omega)]
  simp only [am_tg, ht, Int.toNat_natCast]
theorem am_lsw_d {pc : Nat} {dflt : Int} {ps : Array (Int × Int)} {x : Int32} {t : Nat} (hp : (ps.toList.zip (ps.toList.drop 1)).all (fun (a, next) => a.1 < next.1) = true) (ht : (pc : Int) + Op.lookupswitch.offset ps.toList dflt x.toInt = (t : Int)) : am_lsw pc dflt ps x = some t := by
  unfold am_lsw
  rw [if_pos ⟨hp, by omega⟩]
  simp only [am_tg, ht, Int.toNat_natCast]
def am_B0 : List Int32 := am_sB.getD 0 []
theorem am_B0_h : am_sB[0]? = some am_B0 := by decide +kernel
def am_B1 : List Int32 := am_sB.getD 1 []
theorem am_B1_h : am_sB[1]? = some am_B1 := by decide +kernel
def am_B2 : List Int32 := am_sB.getD 2 []
theorem am_B2_h : am_sB[2]? = some am_B2 := by decide +kernel
def am_B3 : List Int32 := am_sB.getD 3 []
theorem am_B3_h : am_sB[3]? = some am_B3 := by decide +kernel
def am_B4 : List Int32 := am_sB.getD 4 []
theorem am_B4_h : am_sB[4]? = some am_B4 := by decide +kernel
def am_B5 : List Int32 := am_sB.getD 5 []
theorem am_B5_h : am_sB[5]? = some am_B5 := by decide +kernel
def am_B6 : List Int32 := am_sB.getD 6 []
theorem am_B6_h : am_sB[6]? = some am_B6 := by decide +kernel
def am_B7 : List Int32 := am_sB.getD 7 []
theorem am_B7_h : am_sB[7]? = some am_B7 := by decide +kernel
def am_B8 : List Int32 := am_sB.getD 8 []
theorem am_B8_h : am_sB[8]? = some am_B8 := by decide +kernel
def am_B9 : List Int32 := am_sB.getD 9 []
theorem am_B9_h : am_sB[9]? = some am_B9 := by decide +kernel
def am_B10 : List Int32 := am_sB.getD 10 []
theorem am_B10_h : am_sB[10]? = some am_B10 := by decide +kernel
def am_B11 : List Int32 := am_sB.getD 11 []
theorem am_B11_h : am_sB[11]? = some am_B11 := by decide +kernel
def am_B12 : List Int32 := am_sB.getD 12 []
theorem am_B12_h : am_sB[12]? = some am_B12 := by decide +kernel
def am_B13 : List Int32 := am_sB.getD 13 []
theorem am_B13_h : am_sB[13]? = some am_B13 := by decide +kernel
def am_B14 : List Int32 := am_sB.getD 14 []
theorem am_B14_h : am_sB[14]? = some am_B14 := by decide +kernel
def am_B15 : List Int32 := am_sB.getD 15 []
theorem am_B15_h : am_sB[15]? = some am_B15 := by decide +kernel
def am_B16 : List Int32 := am_sB.getD 16 []
theorem am_B16_h : am_sB[16]? = some am_B16 := by decide +kernel
def am_B17 : List Int32 := am_sB.getD 17 []
theorem am_B17_h : am_sB[17]? = some am_B17 := by decide +kernel
theorem ct_11_93 : am_ct 11 93 = some (1, mX11_isKind) ∧ am_mk 11 93 = none ∧ am_ac 11 93 = false := ⟨rfl, by decide +kernel, by decide +kernel⟩
theorem ct_11_149 : am_ct 11 149 = some (3, mX11_isWithin) ∧ am_mk 11 149 = none ∧ am_ac 11 149 = false := ⟨rfl, by decide +kernel, by decide +kernel⟩
theorem ct_11_97 : am_ct 11 97 = some (1, mX11_isPitch) ∧ am_mk 11 97 = none ∧ am_ac 11 97 = false := ⟨rfl, by decide +kernel, by decide +kernel⟩
theorem ct_11_100 : am_ct 11 100 = some (1, mX11_isStrength) ∧ am_mk 11 100 = none ∧ am_ac 11 100 = false := ⟨rfl, by decide +kernel, by decide +kernel⟩
theorem ct_11_103 : am_ct 11 103 = some (1, mX11_isPlace) ∧ am_mk 11 103 = none ∧ am_ac 11 103 = false := ⟨rfl, by decide +kernel, by decide +kernel⟩
theorem gk_11_30_0 : am_gfK 11 30 0 = some (0, 2) := by decide +kernel
theorem rf_0_0 {RF : Nat → Nat → Option Nat} (h : am_RFok RF) : RF 0 0 = some 8 := h (0, 0, 8) (by decide +kernel)
theorem cv_11_106_8 : am_nv 11 106 = some 4 ∧ am_cv 11 106 8 = some mX8_addVoice := ⟨by decide +kernel, rfl⟩
theorem gk_8_72_8 : am_gfK 8 72 8 = some (5, 0) := by decide +kernel
theorem gk_8_15_8 : am_gfK 8 15 8 = some (9, 2) := by decide +kernel
theorem rf_8_9 {RF : Nat → Nat → Option Nat} (h : am_RFok RF) : RF 8 9 = some 10 := h (8, 9, 10) (by decide +kernel)
theorem sh_10 : am_SH[10]? = some (20, 6) := by decide +kernel
theorem gk_8_18_8 : am_gfK 8 18 8 = some (10, 2) := by decide +kernel
theorem rf_8_10 {RF : Nat → Nat → Option Nat} (h : am_RFok RF) : RF 8 10 = some 11 := h (8, 10, 11) (by decide +kernel)
theorem sh_11 : am_SH[11]? = some (20, 6) := by decide +kernel
theorem gk_8_21_8 : am_gfK 8 21 8 = some (11, 2) := by decide +kernel
theorem rf_8_11 {RF : Nat → Nat → Option Nat} (h : am_RFok RF) : RF 8 11 = some 12 := h (8, 11, 12) (by decide +kernel)
theorem sh_12 : am_SH[12]? = some (20, 6) := by decide +kernel
theorem gk_8_24_8 : am_gfK 8 24 8 = some (12, 2) := by decide +kernel
theorem rf_8_12 {RF : Nat → Nat → Option Nat} (h : am_RFok RF) : RF 8 12 = some 13 := h (8, 12, 13) (by decide +kernel)
theorem sh_13 : am_SH[13]? = some (20, 6) := by decide +kernel
theorem sh_8 : am_SH[8]? = some (8, 19) := by decide +kernel
theorem ct_12_75 : am_ct 12 75 = some (1, mX12_isKind) ∧ am_mk 12 75 = none ∧ am_ac 12 75 = false := ⟨rfl, by decide +kernel, by decide +kernel⟩
theorem cl_12_69 : am_cl 12 69 = some (5 : Int64) := by decide +kernel
theorem ct_12_61 : am_ct 12 61 = some (3, mX12_in) ∧ am_mk 12 61 = none ∧ am_ac 12 61 = false := ⟨rfl, by decide +kernel, by decide +kernel⟩
theorem ct_12_79 : am_ct 12 79 = some (2, mX12_isPart) ∧ am_mk 12 79 = none ∧ am_ac 12 79 = false := ⟨rfl, by decide +kernel, by decide +kernel⟩
theorem cl_12_71 : am_cl 12 71 = some (9 : Int64) := by decide +kernel
theorem cl_12_73 : am_cl 12 73 = some (15 : Int64) := by decide +kernel
theorem gk_12_7_82 : am_gfK 12 7 82 = some (0, 2) := by decide +kernel
theorem rf_82_0 {RF : Nat → Nat → Option Nat} (h : am_RFok RF) : RF 82 0 = some 83 := h (82, 0, 83) (by decide +kernel)
theorem sh_83 : am_SH[83]? = some (20, 296) := by decide +kernel
theorem ct_12_65 : am_ct 12 65 = some (2, mX12_at) ∧ am_mk 12 65 = none ∧ am_ac 12 65 = false := ⟨rfl, by decide +kernel, by decide +kernel⟩
theorem cv_11_110_8 : am_nv 11 110 = some 1 ∧ am_cv 11 110 8 = some mX8_has := ⟨by decide +kernel, rfl⟩
theorem gk_11_113_8 : am_gfK 11 113 8 = some (9, 2) := by decide +kernel
theorem gk_11_116_8 : am_gfK 11 116 8 = some (10, 2) := by decide +kernel
theorem gk_11_119_8 : am_gfK 11 119 8 = some (11, 2) := by decide +kernel
theorem gk_11_122_8 : am_gfK 11 122 8 = some (12, 2) := by decide +kernel
theorem cv_11_125_8 : am_nv 11 125 = some 1 ∧ am_cv 11 125 8 = some mX8_isCaught := ⟨by decide +kernel, rfl⟩
theorem gk_8_75_8 : am_gfK 8 75 8 = some (6, 0) := by decide +kernel
theorem cv_11_128_8 : am_nv 11 128 = some 1 ∧ am_cv 11 128 8 = some mX8_driftOf := ⟨by decide +kernel, rfl⟩
theorem cv_8_91_8 : am_nv 8 91 = some 1 ∧ am_cv 8 91 8 = some mX8_thing := ⟨by decide +kernel, rfl⟩
theorem gk_8_46_8 : am_gfK 8 46 8 = some (17, 2) := by decide +kernel
theorem rf_8_17 {RF : Nat → Nat → Option Nat} (h : am_RFok RF) : RF 8 17 = some 1 := h (8, 17, 1) (by decide +kernel)
theorem sh_1 : am_SH[1]? = some (22, 6) := by decide +kernel
theorem fm_1 {RF : Nat → Nat → Option Nat} (h : am_RFok RF) : ∀ j, j < 6 → RF 1 j = some (2 + j) := by
  intro j hj
  have h1 : ∀ j, j < 6 → (1, j, 2 + j) ∈ am_RFL := by decide +kernel
  exact h _ (h1 j hj)
theorem gk_8_66_8 : am_gfK 8 66 8 = some (0, 0) := by decide +kernel
theorem cv_8_95_10 : am_nv 8 95 = some 2 ∧ am_cv 8 95 10 = some mX10_drifts := ⟨by decide +kernel, rfl⟩
theorem cv_8_95_0 : am_nv 8 95 = some 2 ∧ am_cv 8 95 0 = some mX0_drifts := ⟨by decide +kernel, rfl⟩
theorem cv_8_95_5 : am_nv 8 95 = some 2 ∧ am_cv 8 95 5 = some mX5_drifts := ⟨by decide +kernel, rfl⟩
theorem cv_8_95_4 : am_nv 8 95 = some 2 ∧ am_cv 8 95 4 = some mX4_drifts := ⟨by decide +kernel, rfl⟩
theorem cv_8_95_1 : am_nv 8 95 = some 2 ∧ am_cv 8 95 1 = some mX1_drifts := ⟨by decide +kernel, rfl⟩
theorem cv_8_95_2 : am_nv 8 95 = some 2 ∧ am_cv 8 95 2 = some mX2_drifts := ⟨by decide +kernel, rfl⟩
theorem cp_0_7 : am_cp 0 7 = some (2, mX10_drifts) ∧ am_oi 0 7 = false := ⟨rfl, by decide +kernel⟩
theorem sh_3 : am_SH[3]? = some (0, 0) := by decide +kernel
theorem cp_5_7 : am_cp 5 7 = some (2, mX10_drifts) ∧ am_oi 5 7 = false := ⟨rfl, by decide +kernel⟩
theorem sh_4 : am_SH[4]? = some (5, 0) := by decide +kernel
theorem cp_4_7 : am_cp 4 7 = some (2, mX5_drifts) ∧ am_oi 4 7 = false := ⟨rfl, by decide +kernel⟩
theorem sh_5 : am_SH[5]? = some (4, 0) := by decide +kernel
theorem cp_2_7 : am_cp 2 7 = some (2, mX1_drifts) ∧ am_oi 2 7 = false := ⟨rfl, by decide +kernel⟩
theorem sh_7 : am_SH[7]? = some (2, 0) := by decide +kernel
theorem sh_2 : am_SH[2]? = some (10, 0) := by decide +kernel
theorem sh_6 : am_SH[6]? = some (1, 0) := by decide +kernel
theorem cv_11_132_8 : am_nv 11 132 = some 1 ∧ am_cv 11 132 8 = some mX8_thing := ⟨by decide +kernel, rfl⟩
theorem cv_11_136_10 : am_nv 11 136 = some 1 ∧ am_cv 11 136 10 = some mX10_price := ⟨by decide +kernel, rfl⟩
theorem cv_11_136_0 : am_nv 11 136 = some 1 ∧ am_cv 11 136 0 = some mX0_price := ⟨by decide +kernel, rfl⟩
theorem cv_11_136_5 : am_nv 11 136 = some 1 ∧ am_cv 11 136 5 = some mX5_price := ⟨by decide +kernel, rfl⟩
theorem cv_11_136_4 : am_nv 11 136 = some 1 ∧ am_cv 11 136 4 = some mX4_price := ⟨by decide +kernel, rfl⟩
theorem cv_11_136_1 : am_nv 11 136 = some 1 ∧ am_cv 11 136 1 = some mX1_price := ⟨by decide +kernel, rfl⟩
theorem cv_11_136_2 : am_nv 11 136 = some 1 ∧ am_cv 11 136 2 = some mX2_price := ⟨by decide +kernel, rfl⟩
theorem cp_0_11 : am_cp 0 11 = some (1, mX10_price) ∧ am_oi 0 11 = false := ⟨rfl, by decide +kernel⟩
theorem cp_5_11 : am_cp 5 11 = some (1, mX10_price) ∧ am_oi 5 11 = false := ⟨rfl, by decide +kernel⟩
theorem mk_5_15 : am_mk 5 15 = some 0 := by decide +kernel
theorem cp_4_11 : am_cp 4 11 = some (1, mX5_price) ∧ am_oi 4 11 = false := ⟨rfl, by decide +kernel⟩
theorem cp_2_11 : am_cp 2 11 = some (1, mX1_price) ∧ am_oi 2 11 = false := ⟨rfl, by decide +kernel⟩
theorem cv_11_139_8 : am_nv 11 139 = some 1 ∧ am_cv 11 139 8 = some mX8_isBursting := ⟨by decide +kernel, rfl⟩
theorem cv_8_101_10 : am_nv 8 101 = some 1 ∧ am_cv 8 101 10 = some mX10_bursts := ⟨by decide +kernel, rfl⟩
theorem cv_8_101_0 : am_nv 8 101 = some 1 ∧ am_cv 8 101 0 = some mX10_bursts := ⟨by decide +kernel, rfl⟩
theorem cv_8_101_5 : am_nv 8 101 = some 1 ∧ am_cv 8 101 5 = some mX10_bursts := ⟨by decide +kernel, rfl⟩
theorem cv_8_101_4 : am_nv 8 101 = some 1 ∧ am_cv 8 101 4 = some mX10_bursts := ⟨by decide +kernel, rfl⟩
theorem cv_8_101_1 : am_nv 8 101 = some 1 ∧ am_cv 8 101 1 = some mX1_bursts := ⟨by decide +kernel, rfl⟩
theorem cv_8_101_2 : am_nv 8 101 = some 1 ∧ am_cv 8 101 2 = some mX2_bursts := ⟨by decide +kernel, rfl⟩
theorem cv_11_142_8 : am_nv 11 142 = some 1 ∧ am_cv 11 142 8 = some mX8_willOf := ⟨by decide +kernel, rfl⟩
theorem gk_8_43_8 : am_gfK 8 43 8 = some (18, 2) := by decide +kernel
theorem rf_8_18 {RF : Nat → Nat → Option Nat} (h : am_RFok RF) : RF 8 18 = some 23 := h (8, 18, 23) (by decide +kernel)
theorem sh_23 : am_SH[23]? = some (20, 5) := by decide +kernel
theorem gk_8_39_8 : am_gfK 8 39 8 = some (16, 2) := by decide +kernel
theorem rf_8_16 {RF : Nat → Nat → Option Nat} (h : am_RFok RF) : RF 8 16 = some 17 := h (8, 16, 17) (by decide +kernel)
theorem cv_8_105_7 : am_nv 8 105 = some 2 ∧ am_cv 8 105 7 = some mX7_deedFor := ⟨by decide +kernel, rfl⟩
theorem gk_7_29_17 : am_gfK 7 29 17 = some (0, 0) := by decide +kernel
theorem gk_7_11_17 : am_gfK 7 11 17 = some (2, 2) := by decide +kernel
theorem rf_17_2 {RF : Nat → Nat → Option Nat} (h : am_RFok RF) : RF 17 2 = some 18 := h (17, 2, 18) (by decide +kernel)
theorem sh_18 : am_SH[18]? = some (20, 8) := by decide +kernel
theorem ct_7_42 : am_ct 7 42 = some (2, mX11_isUnder) ∧ am_mk 7 42 = none ∧ am_ac 7 42 = false := ⟨rfl, by decide +kernel, by decide +kernel⟩
theorem gs_11_419 : am_gs 11 419 = some (.ref 1000001) := by decide +kernel
theorem cv_7_46_7 : am_nv 7 46 = some 2 ∧ am_cv 7 46 7 = some mX7_holds := ⟨by decide +kernel, rfl⟩
theorem gk_7_18_17 : am_gfK 7 18 17 = some (4, 2) := by decide +kernel
theorem rf_17_4 {RF : Nat → Nat → Option Nat} (h : am_RFok RF) : RF 17 4 = some 20 := h (17, 4, 20) (by decide +kernel)
theorem sh_20 : am_SH[20]? = some (20, 8) := by decide +kernel
theorem gk_7_21_17 : am_gfK 7 21 17 = some (5, 2) := by decide +kernel
theorem rf_17_5 {RF : Nat → Nat → Option Nat} (h : am_RFok RF) : RF 17 5 = some 21 := h (17, 5, 21) (by decide +kernel)
theorem sh_21 : am_SH[21]? = some (20, 8) := by decide +kernel
theorem gk_7_26_17 : am_gfK 7 26 17 = some (6, 2) := by decide +kernel
theorem rf_17_6 {RF : Nat → Nat → Option Nat} (h : am_RFok RF) : RF 17 6 = some 22 := h (17, 6, 22) (by decide +kernel)
theorem sh_22 : am_SH[22]? = some (20, 200) := by decide +kernel
theorem gk_7_15_17 : am_gfK 7 15 17 = some (3, 2) := by decide +kernel
theorem rf_17_3 {RF : Nat → Nat → Option Nat} (h : am_RFok RF) : RF 17 3 = some 19 := h (17, 3, 19) (by decide +kernel)
theorem sh_19 : am_SH[19]? = some (20, 8) := by decide +kernel
theorem sh_17 : am_SH[17]? = some (7, 7) := by decide +kernel
theorem cv_12_90_12 : am_nv 12 90 = some 1 ∧ am_cv 12 90 12 = some mX12_isVoice := ⟨by decide +kernel, rfl⟩
theorem cl_12_93 : am_cl 12 93 = some (8 : Int64) := by decide +kernel
theorem cv_12_95_12 : am_nv 12 95 = some 1 ∧ am_cv 12 95 12 = some mX12_drifts := ⟨by decide +kernel, rfl⟩
theorem cv_12_83_12 : am_nv 12 83 = some 2 ∧ am_cv 12 83 12 = some mX12_its := ⟨by decide +kernel, rfl⟩
theorem ct_12_86 : am_ct 12 86 = some (3, mX12_driftOf) ∧ am_mk 12 86 = none ∧ am_ac 12 86 = false := ⟨rfl, by decide +kernel, by decide +kernel⟩
theorem sh_82 : am_SH[82]? = some (12, 41) := by decide +kernel
theorem cv_12_99_12 : am_nv 12 99 = some 1 ∧ am_cv 12 99 12 = some mX12_price := ⟨by decide +kernel, rfl⟩
theorem cv_12_102_12 : am_nv 12 102 = some 1 ∧ am_cv 12 102 12 = some mX12_isBursting := ⟨by decide +kernel, rfl⟩
theorem cv_12_105_12 : am_nv 12 105 = some 1 ∧ am_cv 12 105 12 = some mX12_will := ⟨by decide +kernel, rfl⟩
theorem ct_12_133 : am_ct 12 133 = some (2, mX12_isUnder) ∧ am_mk 12 133 = none ∧ am_ac 12 133 = false := ⟨rfl, by decide +kernel, by decide +kernel⟩
theorem cv_12_136_12 : am_nv 12 136 = some 3 ∧ am_cv 12 136 12 = some mX12_isSo := ⟨by decide +kernel, rfl⟩
theorem gk_12_19_82 : am_gfK 12 19 82 = some (4, 2) := by decide +kernel
theorem rf_82_4 {RF : Nat → Nat → Option Nat} (h : am_RFok RF) : RF 82 4 = some 86 := h (82, 4, 86) (by decide +kernel)
theorem sh_86 : am_SH[86]? = some (20, 200) := by decide +kernel
theorem ct_12_129 : am_ct 12 129 = some (3, mX12_isHolding) ∧ am_mk 12 129 = none ∧ am_ac 12 129 = false := ⟨rfl, by decide +kernel, by decide +kernel⟩
theorem cv_12_126_12 : am_nv 12 126 = some 2 ∧ am_cv 12 126 12 = some mX12_fact := ⟨by decide +kernel, rfl⟩
theorem ct_11_145 : am_ct 11 145 = some (3, mX11_exchange) ∧ am_mk 11 145 = none ∧ am_ac 11 145 = false := ⟨rfl, by decide +kernel, by decide +kernel⟩
theorem cv_11_153_11 : am_nv 11 153 = some 2 ∧ am_cv 11 153 11 = some mX11_changeCaught := ⟨by decide +kernel, rfl⟩
theorem cv_11_157_8 : am_nv 11 157 = some 2 ∧ am_cv 11 157 8 = some mX8_markCaught := ⟨by decide +kernel, rfl⟩
theorem sh_0 : am_SH[0]? = some (11, 12) := by decide +kernel
theorem cv_12_108_12 : am_nv 12 108 = some 2 ∧ am_cv 12 108 12 = some mX12_becomes := ⟨by decide +kernel, rfl⟩
theorem ct_11_161 : am_ct 11 161 = some (1, mX11_isTideTurn) ∧ am_mk 11 161 = none ∧ am_ac 11 161 = false := ⟨rfl, by decide +kernel, by decide +kernel⟩
theorem gk_11_164_8 : am_gfK 11 164 8 = some (8, 2) := by decide +kernel
theorem rf_8_8 {RF : Nat → Nat → Option Nat} (h : am_RFok RF) : RF 8 8 = some 9 := h (8, 8, 9) (by decide +kernel)
theorem sh_9 : am_SH[9]? = some (20, 16) := by decide +kernel
theorem ct_12_111 : am_ct 12 111 = some (1, mX12_isTurn) ∧ am_mk 12 111 = none ∧ am_ac 12 111 = false := ⟨rfl, by decide +kernel, by decide +kernel⟩
theorem cl_12_114 : am_cl 12 114 = some (2 : Int64) := by decide +kernel
theorem cv_11_167_11 : am_nv 11 167 = some 1 ∧ am_cv 11 167 11 = some mX11_changeEnd := ⟨by decide +kernel, rfl⟩
theorem gk_11_173_8 : am_gfK 11 173 8 = some (0, 0) := by decide +kernel
theorem gk_11_177_8 : am_gfK 11 177 8 = some (1, 0) := by decide +kernel
theorem cv_11_170_11 : am_nv 11 170 = some 1 ∧ am_cv 11 170 11 = some mX11_changeMesh := ⟨by decide +kernel, rfl⟩
theorem gk_11_180_8 : am_gfK 11 180 8 = some (2, 0) := by decide +kernel
theorem cl_12_116 : am_cl 12 116 = some (16 : Int64) := by decide +kernel
theorem gk_11_183_8 : am_gfK 11 183 8 = some (3, 0) := by decide +kernel
theorem gk_11_186_8 : am_gfK 11 186 8 = some (6, 0) := by decide +kernel
theorem cv_11_189_8 : am_nv 11 189 = some 0 ∧ am_cv 11 189 8 = some mX8_isOver := ⟨by decide +kernel, rfl⟩
theorem gk_8_50_8 : am_gfK 8 50 8 = some (1, 0) := by decide +kernel
theorem cv_12_118_12 : am_nv 12 118 = some 0 ∧ am_cv 12 118 12 = some mX12_isOver := ⟨by decide +kernel, rfl⟩
theorem cv_12_122_12 : am_nv 12 122 = some 0 ∧ am_cv 12 122 12 = some mX12_caught := ⟨by decide +kernel, rfl⟩
theorem gk_11_46_0 : am_gfK 11 46 0 = some (3, 2) := by decide +kernel
theorem rf_0_3 {RF : Nat → Nat → Option Nat} (h : am_RFok RF) : RF 0 3 = some 40 := h (0, 3, 40) (by decide +kernel)
theorem cv_11_193_6 : am_nv 11 193 = some 2 ∧ am_cv 11 193 6 = some mX6_take := ⟨by decide +kernel, rfl⟩
theorem gk_6_28_40 : am_gfK 6 28 40 = some (0, 0) := by decide +kernel
theorem gk_6_11_40 : am_gfK 6 11 40 = some (1, 2) := by decide +kernel
theorem rf_40_1 {RF : Nat → Nat → Option Nat} (h : am_RFok RF) : RF 40 1 = some 41 := h (40, 1, 41) (by decide +kernel)
theorem sh_41 : am_SH[41]? = some (20, 200) := by decide +kernel
theorem sh_40 : am_SH[40]? = some (6, 7) := by decide +kernel
theorem gk_12_281_82 : am_gfK 12 281 82 = some (22, 0) := by decide +kernel
theorem gk_12_37_82 : am_gfK 12 37 82 = some (21, 2) := by decide +kernel
theorem rf_82_21 {RF : Nat → Nat → Option Nat} (h : am_RFok RF) : RF 82 21 = some 92 := h (82, 21, 92) (by decide +kernel)
theorem cl_12_284 : am_cl 12 284 = some (255 : Int64) := by decide +kernel
theorem sh_92 : am_SH[92]? = some (20, 200) := by decide +kernel
theorem gk_11_197_8 : am_gfK 11 197 8 = some (16, 2) := by decide +kernel
theorem cv_11_201_6 : am_nv 11 201 = some 1 ∧ am_cv 11 201 6 = some mX6_readInto := ⟨by decide +kernel, rfl⟩
theorem cv_6_32_6 : am_nv 6 32 = some 0 ∧ am_cv 6 32 6 = some mX6_splitUp := ⟨by decide +kernel, rfl⟩
theorem gk_6_49_40 : am_gfK 6 49 40 = some (2, 0) := by decide +kernel
theorem cv_6_67_6 : am_nv 6 67 = some 2 ∧ am_cv 6 67 6 = some mX6_addToken := ⟨by decide +kernel, rfl⟩
theorem gk_6_15_40 : am_gfK 6 15 40 = some (3, 2) := by decide +kernel
theorem rf_40_3 {RF : Nat → Nat → Option Nat} (h : am_RFok RF) : RF 40 3 = some 42 := h (40, 3, 42) (by decide +kernel)
theorem sh_42 : am_SH[42]? = some (20, 201) := by decide +kernel
theorem gk_6_18_40 : am_gfK 6 18 40 = some (4, 2) := by decide +kernel
theorem rf_40_4 {RF : Nat → Nat → Option Nat} (h : am_RFok RF) : RF 40 4 = some 43 := h (40, 4, 43) (by decide +kernel)
theorem sh_43 : am_SH[43]? = some (20, 201) := by decide +kernel
theorem ct_6_59 : am_ct 6 59 = some (1, mX6_sortOf) ∧ am_mk 6 59 = none ∧ am_ac 6 59 = false := ⟨rfl, by decide +kernel, by decide +kernel⟩
theorem cv_6_63_6 : am_nv 6 63 = some 2 ∧ am_cv 6 63 6 = some mX6_tokenFrom := ⟨by decide +kernel, rfl⟩
theorem cv_6_71_6 : am_nv 6 71 = some 2 ∧ am_cv 6 71 6 = some mX6_wordOf := ⟨by decide +kernel, rfl⟩
theorem cv_6_80_6 : am_nv 6 80 = some 2 ∧ am_cv 6 80 6 = some mX6_kindOf := ⟨by decide +kernel, rfl⟩
theorem cs_6_104 : am_ci 6 104 = none ∧ am_cs 6 104 = some 0 := by decide +kernel
theorem cv_6_88_6 : am_nv 6 88 = some 3 ∧ am_cv 6 88 6 = some mX6_reads := ⟨by decide +kernel, rfl⟩
theorem cv_6_126_13 : am_nv 6 126 = some 0 ∧ am_cv 6 126 13 = some mJ0_length_8abf5 := ⟨by decide +kernel, rfl⟩
theorem fl_13_9 : am_fld 13 9 = some (13, 0) := by decide +kernel
theorem cv_13_335_13 : am_nv 13 335 = some 0 ∧ am_cv 13 335 13 = some mJ0_coder_7d493 := ⟨by decide +kernel, rfl⟩
theorem gs_13_38 : am_gs 13 38 = some (.int 1) := by decide +kernel
theorem fl_13_15 : am_fld 13 15 = some (13, 1) := by decide +kernel
theorem cv_6_131_13 : am_nv 6 131 = some 1 ∧ am_cv 6 131 13 = some mJ0_charAt_5068e := ⟨by decide +kernel, rfl⟩
theorem cv_13_492_13 : am_nv 13 492 = some 0 ∧ am_cv 13 492 13 = some mJ0_isLatin1_aae02 := ⟨by decide +kernel, rfl⟩
theorem ct_13_495 : am_ct 13 495 = some (2, mJ1_charAt_3b067) ∧ am_mk 13 495 = none ∧ am_ac 13 495 = false := ⟨rfl, by decide +kernel, by decide +kernel⟩
theorem ct_14_9 : am_ct 14 9 = some (2, mJ0_checkIndex_df160) ∧ am_mk 14 9 = none ∧ am_ac 14 9 = false := ⟨rfl, by decide +kernel, by decide +kernel⟩
theorem gs_13_1053 : am_gs 13 1053 = some (.retAddr 0) := by decide +kernel
theorem ct_13_1059 : am_ct 13 1059 = some (3, mJ3_checkIndex_8e157) ∧ am_mk 13 1059 = none ∧ am_ac 13 1059 = false := ⟨rfl, by decide +kernel, by decide +kernel⟩
theorem cs_6_106 : am_ci 6 106 = none ∧ am_cs 6 106 = some 1 := by decide +kernel
theorem cs_6_108 : am_ci 6 108 = none ∧ am_cs 6 108 = some 2 := by decide +kernel
theorem cs_6_110 : am_ci 6 110 = none ∧ am_cs 6 110 = some 3 := by decide +kernel
theorem cs_6_112 : am_ci 6 112 = none ∧ am_cs 6 112 = some 4 := by decide +kernel
theorem cs_6_114 : am_ci 6 114 = none ∧ am_cs 6 114 = some 5 := by decide +kernel
theorem cv_6_83_6 : am_nv 6 83 = some 2 ∧ am_cv 6 83 6 = some mX6_factOf := ⟨by decide +kernel, rfl⟩
theorem cs_6_116 : am_ci 6 116 = none ∧ am_cs 6 116 = some 6 := by decide +kernel
theorem cs_6_118 : am_ci 6 118 = none ∧ am_cs 6 118 = some 7 := by decide +kernel
theorem cs_6_120 : am_ci 6 120 = none ∧ am_cs 6 120 = some 8 := by decide +kernel
theorem cs_6_122 : am_ci 6 122 = none ∧ am_cs 6 122 = some 9 := by decide +kernel
theorem cs_6_124 : am_ci 6 124 = none ∧ am_cs 6 124 = some 10 := by decide +kernel
theorem cs_6_86 : am_ci 6 86 = none ∧ am_cs 6 86 = some 11 := by decide +kernel
theorem cs_6_92 : am_ci 6 92 = none ∧ am_cs 6 92 = some 12 := by decide +kernel
theorem cs_6_94 : am_ci 6 94 = none ∧ am_cs 6 94 = some 13 := by decide +kernel
theorem cs_6_96 : am_ci 6 96 = none ∧ am_cs 6 96 = some 14 := by decide +kernel
theorem cs_6_98 : am_ci 6 98 = none ∧ am_cs 6 98 = some 15 := by decide +kernel
theorem cs_6_100 : am_ci 6 100 = none ∧ am_cs 6 100 = some 16 := by decide +kernel
theorem cs_6_102 : am_ci 6 102 = none ∧ am_cs 6 102 = some 17 := by decide +kernel
theorem cv_6_74_6 : am_nv 6 74 = some 2 ∧ am_cv 6 74 6 = some mX6_numberOf := ⟨by decide +kernel, rfl⟩
theorem ct_6_77 : am_ct 6 77 = some (1, mX6_signOf) ∧ am_mk 6 77 = none ∧ am_ac 6 77 = false := ⟨rfl, by decide +kernel, by decide +kernel⟩
theorem gk_6_35_40 : am_gfK 6 35 40 = some (5, 0) := by decide +kernel
theorem gk_6_24_40 : am_gfK 6 24 40 = some (6, 2) := by decide +kernel
theorem rf_40_6 {RF : Nat → Nat → Option Nat} (h : am_RFok RF) : RF 40 6 = some 44 := h (40, 6, 44) (by decide +kernel)
theorem cv_6_38_7 : am_nv 6 38 = some 0 ∧ am_cv 6 38 7 = some mX7_clear := ⟨by decide +kernel, rfl⟩
theorem gk_7_29_44 : am_gfK 7 29 44 = some (0, 0) := by decide +kernel
theorem gk_7_33_44 : am_gfK 7 33 44 = some (1, 0) := by decide +kernel
theorem cv_6_41_6 : am_nv 6 41 = some 0 ∧ am_cv 6 41 6 = some mX6_current := ⟨by decide +kernel, rfl⟩
theorem cv_6_45_6 : am_nv 6 45 = some 0 ∧ am_cv 6 45 6 = some mX6_readRule := ⟨by decide +kernel, rfl⟩
theorem gk_6_56_44 : am_gfK 6 56 44 = some (0, 0) := by decide +kernel
theorem ct_6_135 : am_ct 6 135 = some (3, mX11_isWithin) ∧ am_mk 6 135 = none ∧ am_ac 6 135 = false := ⟨rfl, by decide +kernel, by decide +kernel⟩
theorem gk_6_139_44 : am_gfK 6 139 44 = some (1, 0) := by decide +kernel
theorem cv_6_142_6 : am_nv 6 142 = some 1 ∧ am_cv 6 142 6 = some mX6_goPast := ⟨by decide +kernel, rfl⟩
theorem cv_6_146_6 : am_nv 6 146 = some 1 ∧ am_cv 6 146 6 = some mX6_readCondition := ⟨by decide +kernel, rfl⟩
theorem cv_6_153_6 : am_nv 6 153 = some 1 ∧ am_cv 6 153 6 = some mX6_readAll := ⟨by decide +kernel, rfl⟩
theorem cv_6_160_6 : am_nv 6 160 = some 1 ∧ am_cv 6 160 6 = some mX6_readOne := ⟨by decide +kernel, rfl⟩
theorem cv_6_163_6 : am_nv 6 163 = some 0 ∧ am_cv 6 163 6 = some mX6_readComparison := ⟨by decide +kernel, rfl⟩
theorem ct_6_166 : am_ct 6 166 = some (1, mX6_isValue) ∧ am_mk 6 166 = none ∧ am_ac 6 166 = false := ⟨rfl, by decide +kernel, by decide +kernel⟩
theorem cv_6_156_7 : am_nv 6 156 = some 1 ∧ am_cv 6 156 7 = some mX7_addCode := ⟨by decide +kernel, rfl⟩
theorem gk_7_26_44 : am_gfK 7 26 44 = some (6, 2) := by decide +kernel
theorem rf_44_6 {RF : Nat → Nat → Option Nat} (h : am_RFok RF) : RF 44 6 = some 49 := h (44, 6, 49) (by decide +kernel)
theorem sh_49 : am_SH[49]? = some (20, 200) := by decide +kernel
theorem sh_44 : am_SH[44]? = some (7, 7) := by decide +kernel
theorem cv_6_149_7 : am_nv 6 149 = some 3 ∧ am_cv 6 149 7 = some mX7_addRule := ⟨by decide +kernel, rfl⟩
theorem gk_7_11_44 : am_gfK 7 11 44 = some (2, 2) := by decide +kernel
theorem rf_44_2 {RF : Nat → Nat → Option Nat} (h : am_RFok RF) : RF 44 2 = some 45 := h (44, 2, 45) (by decide +kernel)
theorem sh_45 : am_SH[45]? = some (20, 8) := by decide +kernel
theorem gk_7_15_44 : am_gfK 7 15 44 = some (3, 2) := by decide +kernel
theorem rf_44_3 {RF : Nat → Nat → Option Nat} (h : am_RFok RF) : RF 44 3 = some 46 := h (44, 3, 46) (by decide +kernel)
theorem sh_46 : am_SH[46]? = some (20, 8) := by decide +kernel
theorem gk_7_18_44 : am_gfK 7 18 44 = some (4, 2) := by decide +kernel
theorem rf_44_4 {RF : Nat → Nat → Option Nat} (h : am_RFok RF) : RF 44 4 = some 47 := h (44, 4, 47) (by decide +kernel)
theorem sh_47 : am_SH[47]? = some (20, 8) := by decide +kernel
theorem gk_7_21_44 : am_gfK 7 21 44 = some (5, 2) := by decide +kernel
theorem rf_44_5 {RF : Nat → Nat → Option Nat} (h : am_RFok RF) : RF 44 5 = some 48 := h (44, 5, 48) (by decide +kernel)
theorem sh_48 : am_SH[48]? = some (20, 8) := by decide +kernel
theorem cv_6_52_7 : am_nv 6 52 = some 1 ∧ am_cv 6 52 7 = some mX7_becomeLike := ⟨by decide +kernel, rfl⟩
theorem gk_7_33_17 : am_gfK 7 33 17 = some (1, 0) := by decide +kernel
theorem yk_7_36 : am_mk 7 36 = none ∧ am_ac 7 36 = true := by decide +kernel
theorem gk_6_56_17 : am_gfK 6 56 17 = some (0, 0) := by decide +kernel
theorem cv_11_205_6 : am_nv 11 205 = some 0 ∧ am_cv 11 205 6 = some mX6_useUp := ⟨by decide +kernel, rfl⟩
theorem cv_12_162_12 : am_nv 12 162 = some 0 ∧ am_cv 12 162 12 = some mX12_puts := ⟨by decide +kernel, rfl⟩
theorem gk_12_16_82 : am_gfK 12 16 82 = some (2, 2) := by decide +kernel
theorem rf_82_2 {RF : Nat → Nat → Option Nat} (h : am_RFok RF) : RF 82 2 = some 85 := h (82, 2, 85) (by decide +kernel)
theorem sh_85 : am_SH[85]? = some (20, 296) := by decide +kernel
theorem gk_12_353_82 : am_gfK 12 353 82 = some (27, 0) := by decide +kernel
theorem gk_12_370_82 : am_gfK 12 370 82 = some (26, 0) := by decide +kernel
theorem gk_12_294_82 : am_gfK 12 294 82 = some (24, 0) := by decide +kernel
theorem gk_12_309_82 : am_gfK 12 309 82 = some (28, 1) := by decide +kernel
theorem cv_12_313_12 : am_nv 12 313 = some 0 ∧ am_cv 12 313 12 = some mX12_token := ⟨by decide +kernel, rfl⟩
theorem gk_12_297_82 : am_gfK 12 297 82 = some (23, 0) := by decide +kernel
theorem cv_12_300_12 : am_nv 12 300 = some 1 ∧ am_cv 12 300 12 = some mX12_byteAt := ⟨by decide +kernel, rfl⟩
theorem ct_12_303 : am_ct 12 303 = some (1, mX12_isLetter) ∧ am_mk 12 303 = none ∧ am_ac 12 303 = false := ⟨rfl, by decide +kernel, by decide +kernel⟩
theorem cl_12_286 : am_cl 12 286 = some (97 : Int64) := by decide +kernel
theorem cl_12_288 : am_cl 12 288 = some (122 : Int64) := by decide +kernel
theorem ct_12_306 : am_ct 12 306 = some (1, mX12_isDigit) ∧ am_mk 12 306 = none ∧ am_ac 12 306 = false := ⟨rfl, by decide +kernel, by decide +kernel⟩
theorem cl_12_290 : am_cl 12 290 = some (48 : Int64) := by decide +kernel
theorem cl_12_292 : am_cl 12 292 = some (57 : Int64) := by decide +kernel
theorem cv_12_400_12 : am_nv 12 400 = some 0 ∧ am_cv 12 400 12 = some mX12_rule := ⟨by decide +kernel, rfl⟩
theorem cv_12_389_12 : am_nv 12 389 = some 0 ∧ am_cv 12 389 12 = some mX12_kindHere := ⟨by decide +kernel, rfl⟩
theorem cv_12_327_12 : am_nv 12 327 = some 0 ∧ am_cv 12 327 12 = some mX12_word := ⟨by decide +kernel, rfl⟩
theorem cl_12_316 : am_cl 12 316 = some (36028797018963967 : Int64) := by decide +kernel
theorem cl_12_318 : am_cl 12 318 = some (32 : Int64) := by decide +kernel
theorem cl_12_331 : am_cl 12 331 = some (23569509 : Int64) := by decide +kernel
theorem cl_12_333 : am_cl 12 333 = some (3417476 : Int64) := by decide +kernel
theorem cl_12_335 : am_cl 12 335 = some (18959911084 : Int64) := by decide +kernel
theorem cl_12_337 : am_cl 12 337 = some (555803826 : Int64) := by decide +kernel
theorem cl_12_339 : am_cl 12 339 = some (6953385550 : Int64) := by decide +kernel
theorem cl_12_341 : am_cl 12 341 = some (251276 : Int64) := by decide +kernel
theorem cv_12_323_12 : am_nv 12 323 = some 1 ∧ am_cv 12 323 12 = some mX12_wants := ⟨by decide +kernel, rfl⟩
theorem cl_12_392 : am_cl 12 392 = some (294 : Int64) := by decide +kernel
theorem cv_12_373_12 : am_nv 12 373 = some 0 ∧ am_cv 12 373 12 = some mX12_condition := ⟨by decide +kernel, rfl⟩
theorem cv_12_384_12 : am_nv 12 384 = some 0 ∧ am_cv 12 384 12 = some mX12_all := ⟨by decide +kernel, rfl⟩
theorem cv_12_379_12 : am_nv 12 379 = some 0 ∧ am_cv 12 379 12 = some mX12_one := ⟨by decide +kernel, rfl⟩
theorem cl_12_368 : am_cl 12 368 = some (14836 : Int64) := by decide +kernel
theorem cv_12_359_12 : am_nv 12 359 = some 1 ∧ am_cv 12 359 12 = some mX12_writes := ⟨by decide +kernel, rfl⟩
theorem cv_12_376_12 : am_nv 12 376 = some 0 ∧ am_cv 12 376 12 = some mX12_comparison := ⟨by decide +kernel, rfl⟩
theorem cv_12_365_12 : am_nv 12 365 = some 0 ∧ am_cv 12 365 12 = some mX12_valueHere := ⟨by decide +kernel, rfl⟩
theorem cv_12_356_12 : am_nv 12 356 = some 0 ∧ am_cv 12 356 12 = some mX12_factHere := ⟨by decide +kernel, rfl⟩
theorem cl_12_343 : am_cl 12 343 = some (677454 : Int64) := by decide +kernel
theorem cl_12_345 : am_cl 12 345 = some (17092712 : Int64) := by decide +kernel
theorem cl_12_347 : am_cl 12 347 = some (674919554696 : Int64) := by decide +kernel
theorem cl_12_349 : am_cl 12 349 = some (17171557 : Int64) := by decide +kernel
theorem cl_12_351 : am_cl 12 351 = some (492210354 : Int64) := by decide +kernel
theorem cv_12_362_12 : am_nv 12 362 = some 1 ∧ am_cv 12 362 12 = some mX12_number := ⟨by decide +kernel, rfl⟩
theorem gk_12_320_82 : am_gfK 12 320 82 = some (25, 0) := by decide +kernel
theorem cl_12_382 : am_cl 12 382 = some (1476 : Int64) := by decide +kernel
theorem cl_12_387 : am_cl 12 387 = some (498 : Int64) := by decide +kernel
theorem cl_12_394 : am_cl 12 394 = some (365744 : Int64) := by decide +kernel
theorem cl_12_396 : am_cl 12 396 = some (215205 : Int64) := by decide +kernel
theorem cl_12_398 : am_cl 12 398 = some (624020 : Int64) := by decide +kernel
theorem cv_12_168_12 : am_nv 12 168 = some 0 ∧ am_cv 12 168 12 = some mX12_putsBack := ⟨by decide +kernel, rfl⟩
theorem cv_11_208_8 : am_nv 11 208 = some 0 ∧ am_cv 11 208 8 = some mX8_leastAct := ⟨by decide +kernel, rfl⟩
theorem cv_8_120_8 : am_nv 8 120 = some 1 ∧ am_cv 8 120 8 = some mX8_isCaught := ⟨by decide +kernel, rfl⟩
theorem cv_11_212_8 : am_nv 11 212 = some 1 ∧ am_cv 11 212 8 = some mX8_goBy := ⟨by decide +kernel, rfl⟩
theorem cv_8_124_8 : am_nv 8 124 = some 0 ∧ am_cv 8 124 8 = some mX8_isOver := ⟨by decide +kernel, rfl⟩
theorem cv_8_128_8 : am_nv 8 128 = some 0 ∧ am_cv 8 128 8 = some mX8_drift := ⟨by decide +kernel, rfl⟩
theorem cv_8_135_8 : am_nv 8 135 = some 3 ∧ am_cv 8 135 8 = some mX8_drifted := ⟨by decide +kernel, rfl⟩
theorem ct_8_109 : am_ct 8 109 = some (1, mX11_isTideTurn) ∧ am_mk 8 109 = none ∧ am_ac 8 109 = false := ⟨rfl, by decide +kernel, by decide +kernel⟩
theorem gk_8_9_8 : am_gfK 8 9 8 = some (8, 2) := by decide +kernel
theorem mk_8_112 : am_mk 8 112 = some 1 := by decide +kernel
theorem mk_8_117 : am_mk 8 117 = some 0 := by decide +kernel
theorem cv_8_131_8 : am_nv 8 131 = some 1 ∧ am_cv 8 131 8 = some mX8_cast := ⟨by decide +kernel, rfl⟩
theorem cv_8_139_8 : am_nv 8 139 = some 1 ∧ am_cv 8 139 8 = some mX8_has := ⟨by decide +kernel, rfl⟩
theorem cv_8_142_8 : am_nv 8 142 = some 1 ∧ am_cv 8 142 8 = some mX8_heldByNetAt := ⟨by decide +kernel, rfl⟩
theorem mk_8_158 : am_mk 8 158 = some 2 := by decide +kernel
theorem cv_8_161_8 : am_nv 8 161 = some 1 ∧ am_cv 8 161 8 = some mX8_isBursting := ⟨by decide +kernel, rfl⟩
theorem gk_8_54_8 : am_gfK 8 54 8 = some (2, 0) := by decide +kernel
theorem gk_8_69_8 : am_gfK 8 69 8 = some (3, 0) := by decide +kernel
theorem cv_8_145_8 : am_nv 8 145 = some 1 ∧ am_cv 8 145 8 = some mX8_willOf := ⟨by decide +kernel, rfl⟩
theorem cv_8_148_10 : am_nv 8 148 = some 1 ∧ am_cv 8 148 10 = some mX10_price := ⟨by decide +kernel, rfl⟩
theorem cv_8_148_0 : am_nv 8 148 = some 1 ∧ am_cv 8 148 0 = some mX0_price := ⟨by decide +kernel, rfl⟩
theorem cv_8_148_5 : am_nv 8 148 = some 1 ∧ am_cv 8 148 5 = some mX5_price := ⟨by decide +kernel, rfl⟩
theorem cv_8_148_4 : am_nv 8 148 = some 1 ∧ am_cv 8 148 4 = some mX4_price := ⟨by decide +kernel, rfl⟩
theorem cv_8_148_1 : am_nv 8 148 = some 1 ∧ am_cv 8 148 1 = some mX1_price := ⟨by decide +kernel, rfl⟩
theorem cv_8_148_2 : am_nv 8 148 = some 1 ∧ am_cv 8 148 2 = some mX2_price := ⟨by decide +kernel, rfl⟩
theorem ct_8_151 : am_ct 8 151 = some (2, mX8_worthOf) ∧ am_mk 8 151 = none ∧ am_ac 8 151 = false := ⟨rfl, by decide +kernel, by decide +kernel⟩
theorem cv_8_154_8 : am_nv 8 154 = some 2 ∧ am_cv 8 154 8 = some mX8_markCaught := ⟨by decide +kernel, rfl⟩
theorem cv_12_156_12 : am_nv 12 156 = some 0 ∧ am_cv 12 156 12 = some mX12_leastAct := ⟨by decide +kernel, rfl⟩
theorem cv_12_159_12 : am_nv 12 159 = some 1 ∧ am_cv 12 159 12 = some mX12_goes := ⟨by decide +kernel, rfl⟩
theorem cv_12_147_12 : am_nv 12 147 = some 3 ∧ am_cv 12 147 12 = some mX12_driftsTo := ⟨by decide +kernel, rfl⟩
theorem ct_12_139 : am_ct 12 139 = some (1, mX12_heldPlace) ∧ am_mk 12 139 = none ∧ am_ac 12 139 = false := ⟨rfl, by decide +kernel, by decide +kernel⟩
theorem cv_12_150_12 : am_nv 12 150 = some 1 ∧ am_cv 12 150 12 = some mX12_heldAt := ⟨by decide +kernel, rfl⟩
theorem cv_12_144_12 : am_nv 12 144 = some 2 ∧ am_cv 12 144 12 = some mX12_isIn := ⟨by decide +kernel, rfl⟩
theorem cl_12_142 : am_cl 12 142 = some (-1 : Int64) := by decide +kernel
theorem cv_12_153_12 : am_nv 12 153 = some 1 ∧ am_cv 12 153 12 = some mX12_doneWith := ⟨by decide +kernel, rfl⟩
theorem gk_11_55_0 : am_gfK 11 55 0 = some (4, 2) := by decide +kernel
theorem rf_0_4 {RF : Nat → Nat → Option Nat} (h : am_RFok RF) : RF 0 4 = some 50 := h (0, 4, 50) (by decide +kernel)
theorem cv_11_215_3 : am_nv 11 215 = some 1 ∧ am_cv 11 215 3 = some mX3_worthOfRest := ⟨by decide +kernel, rfl⟩
theorem cv_3_48_3 : am_nv 3 48 = some 0 ∧ am_cv 3 48 3 = some mX3_remember := ⟨by decide +kernel, rfl⟩
theorem gk_3_37_50 : am_gfK 3 37 50 = some (0, 2) := by decide +kernel
theorem rf_50_0 {RF : Nat → Nat → Option Nat} (h : am_RFok RF) : RF 50 0 = some 8 := h (50, 0, 8) (by decide +kernel)
theorem gk_3_13_50 : am_gfK 3 13 50 = some (1, 2) := by decide +kernel
theorem rf_50_1 {RF : Nat → Nat → Option Nat} (h : am_RFok RF) : RF 50 1 = some 51 := h (50, 1, 51) (by decide +kernel)
theorem cv_3_41_8 : am_nv 3 41 = some 1 ∧ am_cv 3 41 8 = some mX8_saveTo := ⟨by decide +kernel, rfl⟩
theorem sh_51 : am_SH[51]? = some (20, 9) := by decide +kernel
theorem yk_8_81 : am_mk 8 81 = none ∧ am_ac 8 81 = true := by decide +kernel
theorem cv_3_51_8 : am_nv 3 51 = some 0 ∧ am_cv 3 51 8 = some mX8_isOver := ⟨by decide +kernel, rfl⟩
theorem cv_3_55_8 : am_nv 3 55 = some 0 ∧ am_cv 3 55 8 = some mX8_leastAct := ⟨by decide +kernel, rfl⟩
theorem cv_3_59_8 : am_nv 3 59 = some 1 ∧ am_cv 3 59 8 = some mX8_goBy := ⟨by decide +kernel, rfl⟩
theorem cv_3_63_3 : am_nv 3 63 = some 0 ∧ am_cv 3 63 3 = some mX3_goBack := ⟨by decide +kernel, rfl⟩
theorem cv_3_45_8 : am_nv 3 45 = some 1 ∧ am_cv 3 45 8 = some mX8_comeBackTo := ⟨by decide +kernel, rfl⟩
theorem sh_50 : am_SH[50]? = some (3, 16) := by decide +kernel
theorem cv_12_171_12 : am_nv 12 171 = some 1 ∧ am_cv 12 171 12 = some mX12_restTried := ⟨by decide +kernel, rfl⟩
theorem cv_12_165_12 : am_nv 12 165 = some 1 ∧ am_cv 12 165 12 = some mX12_rest := ⟨by decide +kernel, rfl⟩
theorem cv_11_218_3 : am_nv 11 218 = some 1 ∧ am_cv 11 218 3 = some mX3_turnOfCatch := ⟨by decide +kernel, rfl⟩
theorem cv_3_66_8 : am_nv 3 66 = some 1 ∧ am_cv 3 66 8 = some mX8_isCaught := ⟨by decide +kernel, rfl⟩
theorem gk_3_70_8 : am_gfK 3 70 8 = some (0, 0) := by decide +kernel
theorem cv_11_221_3 : am_nv 11 221 = some 0 ∧ am_cv 11 221 3 = some mX3_bestMesh := ⟨by decide +kernel, rfl⟩
theorem gk_3_74_8 : am_gfK 3 74 8 = some (2, 0) := by decide +kernel
theorem cv_3_77_3 : am_nv 3 77 = some 1 ∧ am_cv 3 77 3 = some mX3_worthOfRest := ⟨by decide +kernel, rfl⟩
theorem cv_12_174_12 : am_nv 12 174 = some 2 ∧ am_cv 12 174 12 = some mX12_mostFor := ⟨by decide +kernel, rfl⟩
theorem cv_11_224_3 : am_nv 11 224 = some 1 ∧ am_cv 11 224 3 = some mX3_bestPlace := ⟨by decide +kernel, rfl⟩
theorem gk_3_80_8 : am_gfK 3 80 8 = some (12, 2) := by decide +kernel
theorem cv_11_227_3 : am_nv 11 227 = some 0 ∧ am_cv 11 227 3 = some mX3_quarrellingPairs := ⟨by decide +kernel, rfl⟩
theorem gk_3_91_8 : am_gfK 3 91 8 = some (5, 0) := by decide +kernel
theorem cv_3_94_3 : am_nv 3 94 = some 2 ∧ am_cv 3 94 3 = some mX3_isQuarrel := ⟨by decide +kernel, rfl⟩
theorem gk_3_83_8 : am_gfK 3 83 8 = some (10, 2) := by decide +kernel
theorem mk_3_86 : am_mk 3 86 = some 2 := by decide +kernel
theorem cv_12_177_12 : am_nv 12 177 = some 2 ∧ am_cv 12 177 12 = some mX12_areAtOdds := ⟨by decide +kernel, rfl⟩
theorem cv_11_230_3 : am_nv 11 230 = some 0 ∧ am_cv 11 230 3 = some mX3_putApart := ⟨by decide +kernel, rfl⟩
theorem cv_3_98_3 : am_nv 3 98 = some 2 ∧ am_cv 3 98 3 = some mX3_canPutFrom := ⟨by decide +kernel, rfl⟩
theorem gk_3_31_50 : am_gfK 3 31 50 = some (13, 2) := by decide +kernel
theorem rf_50_13 {RF : Nat → Nat → Option Nat} (h : am_RFok RF) : RF 50 13 = some 64 := h (50, 13, 64) (by decide +kernel)
theorem sh_64 : am_SH[64]? = some (20, 6) := by decide +kernel
theorem cv_3_101_3 : am_nv 3 101 = some 1 ∧ am_cv 3 101 3 = some mX3_isAtPeace := ⟨by decide +kernel, rfl⟩
theorem gk_11_233_50 : am_gfK 11 233 50 = some (13, 2) := by decide +kernel
theorem cv_12_183_12 : am_nv 12 183 = some 2 ∧ am_cv 12 183 12 = some mX12_areIn := ⟨by decide +kernel, rfl⟩
theorem gk_12_22_82 : am_gfK 12 22 82 = some (5, 2) := by decide +kernel
theorem rf_82_5 {RF : Nat → Nat → Option Nat} (h : am_RFok RF) : RF 82 5 = some 87 := h (82, 5, 87) (by decide +kernel)
theorem sh_87 : am_SH[87]? = some (20, 6) := by decide +kernel
theorem cv_12_180_12 : am_nv 12 180 = some 1 ∧ am_cv 12 180 12 = some mX12_isApart := ⟨by decide +kernel, rfl⟩
theorem cv_11_236_3 : am_nv 11 236 = some 0 ∧ am_cv 11 236 3 = some mX3_loudestChoir := ⟨by decide +kernel, rfl⟩
theorem cv_3_104_3 : am_nv 3 104 = some 1 ∧ am_cv 3 104 3 = some mX3_strengthOf := ⟨by decide +kernel, rfl⟩
theorem gk_3_110_8 : am_gfK 3 110 8 = some (11, 2) := by decide +kernel
theorem cv_3_107_3 : am_nv 3 107 = some 1 ∧ am_cv 3 107 3 = some mX3_isChoir := ⟨by decide +kernel, rfl⟩
theorem cv_11_239_3 : am_nv 11 239 = some 1 ∧ am_cv 11 239 3 = some mX3_strengthOf := ⟨by decide +kernel, rfl⟩
theorem cv_12_189_12 : am_nv 12 189 = some 1 ∧ am_cv 12 189 12 = some mX12_strengthOf := ⟨by decide +kernel, rfl⟩
theorem cv_12_186_12 : am_nv 12 186 = some 1 ∧ am_cv 12 186 12 = some mX12_isPeace := ⟨by decide +kernel, rfl⟩
theorem ct_11_242 : am_ct 11 242 = some (1, mX11_isPlan) ∧ am_mk 11 242 = none ∧ am_ac 11 242 = false := ⟨rfl, by decide +kernel, by decide +kernel⟩
theorem cv_11_245_3 : am_nv 11 245 = some 2 ∧ am_cv 11 245 3 = some mX3_search := ⟨by decide +kernel, rfl⟩
theorem cv_3_123_3 : am_nv 3 123 = some 1 ∧ am_cv 3 123 3 = some mX3_planLength := ⟨by decide +kernel, rfl⟩
theorem mk_3_113 : am_mk 3 113 = some 1 := by decide +kernel
theorem gk_3_117_8 : am_gfK 3 117 8 = some (1, 0) := by decide +kernel
theorem mk_3_120 : am_mk 3 120 = some 0 := by decide +kernel
theorem gk_3_126_50 : am_gfK 3 126 50 = some (5, 0) := by decide +kernel
theorem gk_3_129_50 : am_gfK 3 129 50 = some (6, 0) := by decide +kernel
theorem gk_3_132_50 : am_gfK 3 132 50 = some (8, 0) := by decide +kernel
theorem gk_3_135_50 : am_gfK 3 135 50 = some (9, 0) := by decide +kernel
theorem gk_3_138_50 : am_gfK 3 138 50 = some (10, 0) := by decide +kernel
theorem gk_3_141_50 : am_gfK 3 141 50 = some (11, 0) := by decide +kernel
theorem cv_3_144_3 : am_nv 3 144 = some 3 ∧ am_cv 3 144 3 = some mX3_walk := ⟨by decide +kernel, rfl⟩
theorem gk_3_19_50 : am_gfK 3 19 50 = some (2, 2) := by decide +kernel
theorem rf_50_2 {RF : Nat → Nat → Option Nat} (h : am_RFok RF) : RF 50 2 = some 52 := h (50, 2, 52) (by decide +kernel)
theorem sh_52 : am_SH[52]? = some (23, 4) := by decide +kernel
theorem fm_52 {RF : Nat → Nat → Option Nat} (h : am_RFok RF) : ∀ j, j < 4 → RF 52 j = some (53 + j) := by
  intro j hj
  have h1 : ∀ j, j < 4 → (52, j, 53 + j) ∈ am_RFL := by decide +kernel
  exact h _ (h1 j hj)
theorem fs_52 : ∀ j, j < 4 → am_SH[53 + j]? = some (20, 9) := by decide +kernel
theorem cv_3_152_8 : am_nv 3 152 = some 0 ∧ am_cv 3 152 8 = some mX8_drift := ⟨by decide +kernel, rfl⟩
theorem gk_3_22_50 : am_gfK 3 22 50 = some (3, 2) := by decide +kernel
theorem rf_50_3 {RF : Nat → Nat → Option Nat} (h : am_RFok RF) : RF 50 3 = some 57 := h (50, 3, 57) (by decide +kernel)
theorem sh_57 : am_SH[57]? = some (23, 4) := by decide +kernel
theorem fm_57 {RF : Nat → Nat → Option Nat} (h : am_RFok RF) : ∀ j, j < 4 → RF 57 j = some (58 + j) := by
  intro j hj
  have h1 : ∀ j, j < 4 → (57, j, 58 + j) ∈ am_RFL := by decide +kernel
  exact h _ (h1 j hj)
theorem fs_57 : ∀ j, j < 4 → am_SH[58 + j]? = some (20, 9) := by decide +kernel
theorem cv_3_148_3 : am_nv 3 148 = some 2 ∧ am_cv 3 148 3 = some mX3_weigh := ⟨by decide +kernel, rfl⟩
theorem gk_3_25_50 : am_gfK 3 25 50 = some (4, 2) := by decide +kernel
theorem rf_50_4 {RF : Nat → Nat → Option Nat} (h : am_RFok RF) : RF 50 4 = some 62 := h (50, 4, 62) (by decide +kernel)
theorem gk_3_28_50 : am_gfK 3 28 50 = some (7, 2) := by decide +kernel
theorem rf_50_7 {RF : Nat → Nat → Option Nat} (h : am_RFok RF) : RF 50 7 = some 63 := h (50, 7, 63) (by decide +kernel)
theorem yk_3_158 : am_mk 3 158 = none ∧ am_ac 3 158 = true := by decide +kernel
theorem sh_62 : am_SH[62]? = some (20, 4) := by decide +kernel
theorem sh_63 : am_SH[63]? = some (20, 4) := by decide +kernel
theorem gk_3_164_8 : am_gfK 3 164 8 = some (6, 0) := by decide +kernel
theorem cv_3_155_8 : am_nv 3 155 = some 1 ∧ am_cv 3 155 8 = some mX8_cast := ⟨by decide +kernel, rfl⟩
theorem gk_11_249_50 : am_gfK 11 249 50 = some (8, 0) := by decide +kernel
theorem ct_12_228 : am_ct 12 228 = some (1, mX12_isLong) ∧ am_mk 12 228 = none ∧ am_ac 12 228 = false := ⟨rfl, by decide +kernel, by decide +kernel⟩
theorem cl_12_226 : am_cl 12 226 = some (4 : Int64) := by decide +kernel
theorem cv_12_231_12 : am_nv 12 231 = some 2 ∧ am_cv 12 231 12 = some mX12_plansOf := ⟨by decide +kernel, rfl⟩
theorem gk_12_192_82 : am_gfK 12 192 82 = some (9, 0) := by decide +kernel
theorem gk_12_196_82 : am_gfK 12 196 82 = some (10, 0) := by decide +kernel
theorem gk_12_208_82 : am_gfK 12 208 82 = some (11, 0) := by decide +kernel
theorem gk_12_202_82 : am_gfK 12 202 82 = some (12, 0) := by decide +kernel
theorem gk_12_205_82 : am_gfK 12 205 82 = some (13, 0) := by decide +kernel
theorem cv_12_219_12 : am_nv 12 219 = some 3 ∧ am_cv 12 219 12 = some mX12_plans := ⟨by decide +kernel, rfl⟩
theorem cv_12_215_12 : am_nv 12 215 = some 1 ∧ am_cv 12 215 12 = some mX12_saves := ⟨by decide +kernel, rfl⟩
theorem gk_12_25_82 : am_gfK 12 25 82 = some (6, 2) := by decide +kernel
theorem rf_82_6 {RF : Nat → Nat → Option Nat} (h : am_RFok RF) : RF 82 6 = some 88 := h (82, 6, 88) (by decide +kernel)
theorem sh_88 : am_SH[88]? = some (20, 70) := by decide +kernel
theorem gk_12_28_82 : am_gfK 12 28 82 = some (7, 2) := by decide +kernel
theorem rf_82_7 {RF : Nat → Nat → Option Nat} (h : am_RFok RF) : RF 82 7 = some 89 := h (82, 7, 89) (by decide +kernel)
theorem sh_89 : am_SH[89]? = some (20, 4) := by decide +kernel
theorem cv_12_223_12 : am_nv 12 223 = some 1 ∧ am_cv 12 223 12 = some mX12_takesBack := ⟨by decide +kernel, rfl⟩
theorem cv_12_211_12 : am_nv 12 211 = some 2 ∧ am_cv 12 211 12 = some mX12_ended := ⟨by decide +kernel, rfl⟩
theorem gk_12_199_82 : am_gfK 12 199 82 = some (14, 0) := by decide +kernel
theorem gk_12_31_82 : am_gfK 12 31 82 = some (8, 2) := by decide +kernel
theorem rf_82_8 {RF : Nat → Nat → Option Nat} (h : am_RFok RF) : RF 82 8 = some 90 := h (82, 8, 90) (by decide +kernel)
theorem sh_90 : am_SH[90]? = some (20, 4) := by decide +kernel
theorem cv_11_252_3 : am_nv 11 252 = some 1 ∧ am_cv 11 252 3 = some mX3_planLength := ⟨by decide +kernel, rfl⟩
theorem gk_11_255_50 : am_gfK 11 255 50 = some (7, 2) := by decide +kernel
theorem cl_12_234 : am_cl 12 234 = some (3 : Int64) := by decide +kernel
theorem gk_11_258_50 : am_gfK 11 258 50 = some (9, 0) := by decide +kernel
theorem cv_11_261_8 : am_nv 11 261 = some 1 ∧ am_cv 11 261 8 = some mX8_hasAll := ⟨by decide +kernel, rfl⟩
theorem gk_11_264_50 : am_gfK 11 264 50 = some (10, 0) := by decide +kernel
theorem cv_12_236_12 : am_nv 12 236 = some 1 ∧ am_cv 12 236 12 = some mX12_areVoices := ⟨by decide +kernel, rfl⟩
theorem gk_11_267_50 : am_gfK 11 267 50 = some (11, 0) := by decide +kernel
theorem ct_11_270 : am_ct 11 270 = some (1, mX11_leastOf) ∧ am_mk 11 270 = none ∧ am_ac 11 270 = false := ⟨rfl, by decide +kernel, by decide +kernel⟩
theorem ct_11_273 : am_ct 11 273 = some (1, mX11_isGame) ∧ am_mk 11 273 = none ∧ am_ac 11 273 = false := ⟨rfl, by decide +kernel, by decide +kernel⟩
theorem cv_11_276_3 : am_nv 11 276 = some 1 ∧ am_cv 11 276 3 = some mX3_valueOfGame := ⟨by decide +kernel, rfl⟩
theorem gk_3_167_50 : am_gfK 3 167 50 = some (12, 0) := by decide +kernel
theorem cv_3_170_3 : am_nv 3 170 = some 1 ∧ am_cv 3 170 3 = some mX3_valueFrom := ⟨by decide +kernel, rfl⟩
theorem cv_12_239_12 : am_nv 12 239 = some 3 ∧ am_cv 12 239 12 = some mX12_played := ⟨by decide +kernel, rfl⟩
theorem gk_12_243_82 : am_gfK 12 243 82 = some (15, 0) := by decide +kernel
theorem gk_11_279_50 : am_gfK 11 279 50 = some (12, 0) := by decide +kernel
theorem cv_11_282_8 : am_nv 11 282 = some 3 ∧ am_cv 11 282 8 = some mX8_addReport := ⟨by decide +kernel, rfl⟩
theorem gk_8_78_8 : am_gfK 8 78 8 = some (7, 0) := by decide +kernel
theorem gk_8_27_8 : am_gfK 8 27 8 = some (13, 2) := by decide +kernel
theorem rf_8_13 {RF : Nat → Nat → Option Nat} (h : am_RFok RF) : RF 8 13 = some 14 := h (8, 13, 14) (by decide +kernel)
theorem sh_14 : am_SH[14]? = some (20, 6) := by decide +kernel
theorem gk_8_30_8 : am_gfK 8 30 8 = some (14, 2) := by decide +kernel
theorem rf_8_14 {RF : Nat → Nat → Option Nat} (h : am_RFok RF) : RF 8 14 = some 15 := h (8, 14, 15) (by decide +kernel)
theorem sh_15 : am_SH[15]? = some (20, 6) := by decide +kernel
theorem gk_8_33_8 : am_gfK 8 33 8 = some (15, 2) := by decide +kernel
theorem rf_8_15 {RF : Nat → Nat → Option Nat} (h : am_RFok RF) : RF 8 15 = some 16 := h (8, 15, 16) (by decide +kernel)
theorem sh_16 : am_SH[16]? = some (20, 6) := by decide +kernel
theorem gk_11_286_8 : am_gfK 11 286 8 = some (7, 0) := by decide +kernel
theorem cv_11_292_3 : am_nv 11 292 = some 0 ∧ am_cv 11 292 3 = some mX3_leastThatFits := ⟨by decide +kernel, rfl⟩
theorem cv_3_173_3 : am_nv 3 173 = some 1 ∧ am_cv 3 173 3 = some mX3_brokenBy := ⟨by decide +kernel, rfl⟩
theorem gk_3_184_8 : am_gfK 3 184 8 = some (17, 2) := by decide +kernel
theorem ct_3_188 : am_ct 3 188 = some (1, mX3_kindOfStranger) ∧ am_mk 3 188 = none ∧ am_ac 3 188 = false := ⟨rfl, by decide +kernel, by decide +kernel⟩
theorem ct_3_191 : am_ct 3 191 = some (1, mX3_placeOfStranger) ∧ am_mk 3 191 = none ∧ am_ac 3 191 = false := ⟨rfl, by decide +kernel, by decide +kernel⟩
theorem cv_3_194_3 : am_nv 3 194 = some 2 ∧ am_cv 3 194 3 = some mX3_brokenAt := ⟨by decide +kernel, rfl⟩
theorem gk_3_205_8 : am_gfK 3 205 8 = some (7, 0) := by decide +kernel
theorem gk_3_208_8 : am_gfK 3 208 8 = some (13, 2) := by decide +kernel
theorem gk_3_211_8 : am_gfK 3 211 8 = some (14, 2) := by decide +kernel
theorem gk_3_214_8 : am_gfK 3 214 8 = some (15, 2) := by decide +kernel
theorem ct_3_217 : am_ct 3 217 = some (3, mX11_isWithin) ∧ am_mk 3 217 = none ∧ am_ac 3 217 = false := ⟨rfl, by decide +kernel, by decide +kernel⟩
theorem cv_3_197_10 : am_nv 3 197 = some 2 ∧ am_cv 3 197 10 = some mX10_drifts := ⟨by decide +kernel, rfl⟩
theorem cv_3_197_0 : am_nv 3 197 = some 2 ∧ am_cv 3 197 0 = some mX0_drifts := ⟨by decide +kernel, rfl⟩
theorem cv_3_197_5 : am_nv 3 197 = some 2 ∧ am_cv 3 197 5 = some mX5_drifts := ⟨by decide +kernel, rfl⟩
theorem cv_3_197_4 : am_nv 3 197 = some 2 ∧ am_cv 3 197 4 = some mX4_drifts := ⟨by decide +kernel, rfl⟩
theorem cv_3_197_1 : am_nv 3 197 = some 2 ∧ am_cv 3 197 1 = some mX1_drifts := ⟨by decide +kernel, rfl⟩
theorem cv_3_197_2 : am_nv 3 197 = some 2 ∧ am_cv 3 197 2 = some mX2_drifts := ⟨by decide +kernel, rfl⟩
theorem cv_3_202_8 : am_nv 3 202 = some 3 ∧ am_cv 3 202 8 = some mX8_drifted := ⟨by decide +kernel, rfl⟩
theorem ct_11_298 : am_ct 11 298 = some (1, mX3_placeOfStranger) ∧ am_mk 11 298 = none ∧ am_ac 11 298 = false := ⟨rfl, by decide +kernel, by decide +kernel⟩
theorem ct_11_295 : am_ct 11 295 = some (1, mX3_kindOfStranger) ∧ am_mk 11 295 = none ∧ am_ac 11 295 = false := ⟨rfl, by decide +kernel, by decide +kernel⟩
theorem cv_11_289_3 : am_nv 11 289 = some 0 ∧ am_cv 11 289 3 = some mX3_howManyFit := ⟨by decide +kernel, rfl⟩
theorem cv_12_261_12 : am_nv 12 261 = some 1 ∧ am_cv 12 261 12 = some mX12_findFits := ⟨by decide +kernel, rfl⟩
theorem gk_12_249_82 : am_gfK 12 249 82 = some (16, 0) := by decide +kernel
theorem cv_12_252_12 : am_nv 12 252 = some 3 ∧ am_cv 12 252 12 = some mX12_isFit := ⟨by decide +kernel, rfl⟩
theorem cv_12_246_12 : am_nv 12 246 = some 3 ∧ am_cv 12 246 12 = some mX12_isSoBy := ⟨by decide +kernel, rfl⟩
theorem gk_12_255_82 : am_gfK 12 255 82 = some (17, 0) := by decide +kernel
theorem gk_12_258_82 : am_gfK 12 258 82 = some (18, 0) := by decide +kernel
theorem cv_11_301_3 : am_nv 11 301 = some 0 ∧ am_cv 11 301 3 = some mX3_leastLiar := ⟨by decide +kernel, rfl⟩
theorem ct_3_181 : am_ct 3 181 = some (1, mX11_leastOf) ∧ am_mk 3 181 = none ∧ am_ac 3 181 = false := ⟨rfl, by decide +kernel, by decide +kernel⟩
theorem ct_3_176 : am_ct 3 176 = some (1, mJ6_bitCount_0f7a4) ∧ am_mk 3 176 = none ∧ am_ac 3 176 = false := ⟨rfl, by decide +kernel, by decide +kernel⟩
theorem ci_16_265 : am_ci 16 265 = some (1431655765 : Int32) := by decide +kernel
theorem ci_16_266 : am_ci 16 266 = some (858993459 : Int32) := by decide +kernel
theorem ci_16_267 : am_ci 16 267 = some (252645135 : Int32) := by decide +kernel
theorem gk_11_304_8 : am_gfK 11 304 8 = some (4, 0) := by decide +kernel
theorem cv_11_307_8 : am_nv 11 307 = some 0 ∧ am_cv 11 307 8 = some mX8_drawLot := ⟨by decide +kernel, rfl⟩
theorem gk_8_57_8 : am_gfK 8 57 8 = some (4, 0) := by decide +kernel
theorem ci_8_123 : am_ci 8 123 = some (1103515245 : Int32) := by decide +kernel
theorem cv_12_265_12 : am_nv 12 265 = some 0 ∧ am_cv 12 265 12 = some mX12_byLot := ⟨by decide +kernel, rfl⟩
theorem ci_12_264 : am_ci 12 264 = some (1103515245 : Int32) := by decide +kernel
theorem cv_11_310_3 : am_nv 11 310 = some 2 ∧ am_cv 11 310 3 = some mX3_timesWorth := ⟨by decide +kernel, rfl⟩
theorem gk_3_221_8 : am_gfK 3 221 8 = some (4, 0) := by decide +kernel
theorem cv_3_224_3 : am_nv 3 224 = some 0 ∧ am_cv 3 224 3 = some mX3_worthByLot := ⟨by decide +kernel, rfl⟩
theorem cv_3_227_8 : am_nv 3 227 = some 0 ∧ am_cv 3 227 8 = some mX8_drawLot := ⟨by decide +kernel, rfl⟩
theorem cl_12_268 : am_cl 12 268 = some (40 : Int64) := by decide +kernel
theorem cl_12_270 : am_cl 12 270 = some (999 : Int64) := by decide +kernel
theorem cv_11_313_3 : am_nv 11 313 = some 0 ∧ am_cv 11 313 3 = some mX3_writeRows := ⟨by decide +kernel, rfl⟩
theorem gk_3_230_50 : am_gfK 3 230 50 = some (14, 0) := by decide +kernel
theorem gk_3_34_50 : am_gfK 3 34 50 = some (15, 2) := by decide +kernel
theorem rf_50_15 {RF : Nat → Nat → Option Nat} (h : am_RFok RF) : RF 50 15 = some 65 := h (50, 15, 65) (by decide +kernel)
theorem sh_65 : am_SH[65]? = some (23, 4) := by decide +kernel
theorem fm_65 {RF : Nat → Nat → Option Nat} (h : am_RFok RF) : ∀ j, j < 4 → RF 65 j = some (66 + j) := by
  intro j hj
  have h1 : ∀ j, j < 4 → (65, j, 66 + j) ∈ am_RFL := by decide +kernel
  exact h _ (h1 j hj)
theorem fs_65 : ∀ j, j < 4 → am_SH[66 + j]? = some (20, 3) := by decide +kernel
theorem gk_12_272_82 : am_gfK 12 272 82 = some (20, 0) := by decide +kernel
theorem gk_12_34_82 : am_gfK 12 34 82 = some (19, 2) := by decide +kernel
theorem rf_82_19 {RF : Nat → Nat → Option Nat} (h : am_RFok RF) : RF 82 19 = some 91 := h (82, 19, 91) (by decide +kernel)
theorem sh_91 : am_SH[91]? = some (20, 12) := by decide +kernel
theorem cv_11_316_3 : am_nv 11 316 = some 1 ∧ am_cv 11 316 3 = some mX3_hasRow := ⟨by decide +kernel, rfl⟩
theorem gk_11_319_50 : am_gfK 11 319 50 = some (15, 2) := by decide +kernel
theorem cv_12_275_12 : am_nv 12 275 = some 2 ∧ am_cv 12 275 12 = some mX12_isRow := ⟨by decide +kernel, rfl⟩
theorem cv_11_323_3 : am_nv 11 323 = some 0 ∧ am_cv 11 323 3 = some mX3_firstWrongRow := ⟨by decide +kernel, rfl⟩
theorem cv_3_233_3 : am_nv 3 233 = some 1 ∧ am_cv 3 233 3 = some mX3_isRight := ⟨by decide +kernel, rfl⟩
theorem cv_3_237_8 : am_nv 3 237 = some 1 ∧ am_cv 3 237 8 = some mX8_isAct := ⟨by decide +kernel, rfl⟩
theorem cv_12_278_12 : am_nv 12 278 = some 1 ∧ am_cv 12 278 12 = some mX12_isAct := ⟨by decide +kernel, rfl⟩
theorem ct_11_326 : am_ct 11 326 = some (1, mX11_isSheet) ∧ am_mk 11 326 = none ∧ am_ac 11 326 = false := ⟨rfl, by decide +kernel, by decide +kernel⟩
theorem gk_11_66_0 : am_gfK 11 66 0 = some (6, 2) := by decide +kernel
theorem rf_0_6 {RF : Nat → Nat → Option Nat} (h : am_RFok RF) : RF 0 6 = some 72 := h (0, 6, 72) (by decide +kernel)
theorem sh_72 : am_SH[72]? = some (20, 4) := by decide +kernel
theorem gk_11_76_0 : am_gfK 11 76 0 = some (7, 2) := by decide +kernel
theorem rf_0_7 {RF : Nat → Nat → Option Nat} (h : am_RFok RF) : RF 0 7 = some 73 := h (0, 7, 73) (by decide +kernel)
theorem sh_73 : am_SH[73]? = some (20, 4) := by decide +kernel
theorem gk_11_81_0 : am_gfK 11 81 0 = some (8, 2) := by decide +kernel
theorem rf_0_8 {RF : Nat → Nat → Option Nat} (h : am_RFok RF) : RF 0 8 = some 74 := h (0, 8, 74) (by decide +kernel)
theorem sh_74 : am_SH[74]? = some (24, 4) := by decide +kernel
theorem fm_74 {RF : Nat → Nat → Option Nat} (h : am_RFok RF) : ∀ j, j < 4 → RF 74 j = some (75 + j) := by
  intro j hj
  have h1 : ∀ j, j < 4 → (74, j, 75 + j) ∈ am_RFL := by decide +kernel
  exact h _ (h1 j hj)
theorem ct_11_329 : am_ct 11 329 = some (2, mJ7_fill_d0a16) ∧ am_mk 11 329 = none ∧ am_ac 11 329 = false := ⟨rfl, by decide +kernel, by decide +kernel⟩
theorem fs_74 : ∀ j, j < 4 → am_SH[75 + j]? = some (21, 40) := by decide +kernel
theorem ct_12_403 : am_ct 12 403 = some (1, mX12_isOne) ∧ am_mk 12 403 = none ∧ am_ac 12 403 = false := ⟨rfl, by decide +kernel, by decide +kernel⟩
theorem gk_12_40_82 : am_gfK 12 40 82 = some (29, 2) := by decide +kernel
theorem rf_82_29 {RF : Nat → Nat → Option Nat} (h : am_RFok RF) : RF 82 29 = some 93 := h (82, 29, 93) (by decide +kernel)
theorem sh_93 : am_SH[93]? = some (20, 4) := by decide +kernel
theorem gk_12_43_82 : am_gfK 12 43 82 = some (30, 2) := by decide +kernel
theorem rf_82_30 {RF : Nat → Nat → Option Nat} (h : am_RFok RF) : RF 82 30 = some 94 := h (82, 30, 94) (by decide +kernel)
theorem sh_94 : am_SH[94]? = some (20, 4) := by decide +kernel
theorem gk_12_46_82 : am_gfK 12 46 82 = some (31, 2) := by decide +kernel
theorem rf_82_31 {RF : Nat → Nat → Option Nat} (h : am_RFok RF) : RF 82 31 = some 95 := h (82, 31, 95) (by decide +kernel)
theorem sh_95 : am_SH[95]? = some (20, 160) := by decide +kernel
theorem cv_11_332_11 : am_nv 11 332 = some 2 ∧ am_cv 11 332 11 = some mX11_hasItem := ⟨by decide +kernel, rfl⟩
theorem ct_11_336 : am_ct 11 336 = some (2, mX11_narrowed) ∧ am_mk 11 336 = none ∧ am_ac 11 336 = false := ⟨rfl, by decide +kernel, by decide +kernel⟩
theorem ct_12_406 : am_ct 12 406 = some (2, mX12_narrowed) ∧ am_mk 12 406 = none ∧ am_ac 12 406 = false := ⟨rfl, by decide +kernel, by decide +kernel⟩
theorem ct_11_340 : am_ct 11 340 = some (1, mX11_isSort) ∧ am_mk 11 340 = none ∧ am_ac 11 340 = false := ⟨rfl, by decide +kernel, by decide +kernel⟩
theorem cv_11_343_11 : am_nv 11 343 = some 2 ∧ am_cv 11 343 11 = some mX11_refusalAs := ⟨by decide +kernel, rfl⟩
theorem cv_12_409_12 : am_nv 12 409 = some 2 ∧ am_cv 12 409 12 = some mX12_whyNot := ⟨by decide +kernel, rfl⟩
theorem cv_11_346_11 : am_nv 11 346 = some 2 ∧ am_cv 11 346 11 = some mX11_refusalOfActs := ⟨by decide +kernel, rfl⟩
theorem cv_11_349_8 : am_nv 11 349 = some 1 ∧ am_cv 11 349 8 = some mX8_isAct := ⟨by decide +kernel, rfl⟩
theorem cv_12_414_12 : am_nv 12 414 = some 2 ∧ am_cv 12 414 12 = some mX12_isSpan := ⟨by decide +kernel, rfl⟩
theorem cl_12_412 : am_cl 12 412 = some (20 : Int64) := by decide +kernel
theorem cv_12_417_12 : am_nv 12 417 = some 2 ∧ am_cv 12 417 12 = some mX12_isItem := ⟨by decide +kernel, rfl⟩
theorem cv_11_352_3 : am_nv 11 352 = some 0 ∧ am_cv 11 352 3 = some mX3_remember := ⟨by decide +kernel, rfl⟩
theorem cv_11_355_11 : am_nv 11 355 = some 3 ∧ am_cv 11 355 11 = some mX11_worthOfItems := ⟨by decide +kernel, rfl⟩
theorem cv_11_358_3 : am_nv 11 358 = some 0 ∧ am_cv 11 358 3 = some mX3_goBack := ⟨by decide +kernel, rfl⟩
theorem ct_11_361 : am_ct 11 361 = some (1, mX11_isShelf) ∧ am_mk 11 361 = none ∧ am_ac 11 361 = false := ⟨rfl, by decide +kernel, by decide +kernel⟩
theorem cv_11_364_11 : am_nv 11 364 = some 4 ∧ am_cv 11 364 11 = some mX11_putOn := ⟨by decide +kernel, rfl⟩
theorem gk_11_84_0 : am_gfK 11 84 0 = some (9, 2) := by decide +kernel
theorem rf_0_9 {RF : Nat → Nat → Option Nat} (h : am_RFok RF) : RF 0 9 = some 79 := h (0, 9, 79) (by decide +kernel)
theorem sh_79 : am_SH[79]? = some (20, 4) := by decide +kernel
theorem gk_11_87_0 : am_gfK 11 87 0 = some (10, 2) := by decide +kernel
theorem rf_0_10 {RF : Nat → Nat → Option Nat} (h : am_RFok RF) : RF 0 10 = some 80 := h (0, 10, 80) (by decide +kernel)
theorem sh_80 : am_SH[80]? = some (20, 4) := by decide +kernel
theorem gk_11_90_0 : am_gfK 11 90 0 = some (11, 2) := by decide +kernel
theorem rf_0_11 {RF : Nat → Nat → Option Nat} (h : am_RFok RF) : RF 0 11 = some 81 := h (0, 11, 81) (by decide +kernel)
theorem sh_81 : am_SH[81]? = some (20, 4) := by decide +kernel
theorem cv_11_367_11 : am_nv 11 367 = some 2 ∧ am_cv 11 367 11 = some mX11_putRowOn := ⟨by decide +kernel, rfl⟩
theorem gk_12_49_82 : am_gfK 12 49 82 = some (32, 2) := by decide +kernel
theorem rf_82_32 {RF : Nat → Nat → Option Nat} (h : am_RFok RF) : RF 82 32 = some 96 := h (82, 32, 96) (by decide +kernel)
theorem sh_96 : am_SH[96]? = some (20, 4) := by decide +kernel
theorem gk_12_52_82 : am_gfK 12 52 82 = some (33, 2) := by decide +kernel
theorem rf_82_33 {RF : Nat → Nat → Option Nat} (h : am_RFok RF) : RF 82 33 = some 97 := h (82, 33, 97) (by decide +kernel)
theorem sh_97 : am_SH[97]? = some (20, 4) := by decide +kernel
theorem gk_12_55_82 : am_gfK 12 55 82 = some (34, 2) := by decide +kernel
theorem rf_82_34 {RF : Nat → Nat → Option Nat} (h : am_RFok RF) : RF 82 34 = some 98 := h (82, 34, 98) (by decide +kernel)
theorem sh_98 : am_SH[98]? = some (20, 4) := by decide +kernel
theorem cv_11_370_11 : am_nv 11 370 = some 1 ∧ am_cv 11 370 11 = some mX11_holdsVoice := ⟨by decide +kernel, rfl⟩
theorem ct_11_373 : am_ct 11 373 = some (2, mX11_isUnder) ∧ am_mk 11 373 = none ∧ am_ac 11 373 = false := ⟨rfl, by decide +kernel, by decide +kernel⟩
theorem cl_12_421 : am_cl 12 421 = some (10 : Int64) := by decide +kernel
theorem cl_12_423 : am_cl 12 423 = some (14 : Int64) := by decide +kernel
theorem cv_12_425_12 : am_nv 12 425 = some 1 ∧ am_cv 12 425 12 = some mX12_onShelf := ⟨by decide +kernel, rfl⟩
theorem gk_11_62_0 : am_gfK 11 62 0 = some (5, 2) := by decide +kernel
theorem rf_0_5 {RF : Nat → Nat → Option Nat} (h : am_RFok RF) : RF 0 5 = some 70 := h (0, 5, 70) (by decide +kernel)
theorem cv_11_376_9 : am_nv 11 376 = some 2 ∧ am_cv 11 376 9 = some mX9_begin := ⟨by decide +kernel, rfl⟩
theorem gk_9_13_70 : am_gfK 9 13 70 = some (0, 0) := by decide +kernel
theorem gk_9_17_70 : am_gfK 9 17 70 = some (1, 0) := by decide +kernel
theorem gk_9_20_70 : am_gfK 9 20 70 = some (2, 1) := by decide +kernel
theorem gk_9_24_70 : am_gfK 9 24 70 = some (3, 0) := by decide +kernel
theorem cv_11_379_10 : am_nv 11 379 = some 2 ∧ am_cv 11 379 10 = some mX10_hums := ⟨by decide +kernel, rfl⟩
theorem cv_11_379_0 : am_nv 11 379 = some 2 ∧ am_cv 11 379 0 = some mX0_hums := ⟨by decide +kernel, rfl⟩
theorem cv_11_379_5 : am_nv 11 379 = some 2 ∧ am_cv 11 379 5 = some mX10_hums := ⟨by decide +kernel, rfl⟩
theorem cv_11_379_4 : am_nv 11 379 = some 2 ∧ am_cv 11 379 4 = some mX4_hums := ⟨by decide +kernel, rfl⟩
theorem cv_11_379_1 : am_nv 11 379 = some 2 ∧ am_cv 11 379 1 = some mX10_hums := ⟨by decide +kernel, rfl⟩
theorem cv_11_379_2 : am_nv 11 379 = some 2 ∧ am_cv 11 379 2 = some mX10_hums := ⟨by decide +kernel, rfl⟩
theorem cv_10_7_9 : am_nv 10 7 = some 1 ∧ am_cv 10 7 9 = some mX9_began := ⟨by decide +kernel, rfl⟩
theorem gk_9_7_70 : am_gfK 9 7 70 = some (4, 2) := by decide +kernel
theorem rf_70_4 {RF : Nat → Nat → Option Nat} (h : am_RFok RF) : RF 70 4 = some 71 := h (70, 4, 71) (by decide +kernel)
theorem sh_71 : am_SH[71]? = some (20, 30) := by decide +kernel
theorem gk_10_13_70 : am_gfK 10 13 70 = some (0, 0) := by decide +kernel
theorem sh_70 : am_SH[70]? = some (9, 5) := by decide +kernel
theorem cv_0_15_9 : am_nv 0 15 = some 1 ∧ am_cv 0 15 9 = some mX9_began := ⟨by decide +kernel, rfl⟩
theorem cp_0_21 : am_cp 0 21 = some (2, mX10_hums) ∧ am_oi 0 21 = false := ⟨rfl, by decide +kernel⟩
theorem cv_4_15_9 : am_nv 4 15 = some 1 ∧ am_cv 4 15 9 = some mX9_began := ⟨by decide +kernel, rfl⟩
theorem cp_4_21 : am_cp 4 21 = some (2, mX10_hums) ∧ am_oi 4 21 = false := ⟨rfl, by decide +kernel⟩
theorem cv_11_383_10 : am_nv 11 383 = some 2 ∧ am_cv 11 383 10 = some mX10_calls := ⟨by decide +kernel, rfl⟩
theorem cv_11_383_0 : am_nv 11 383 = some 2 ∧ am_cv 11 383 0 = some mX10_calls := ⟨by decide +kernel, rfl⟩
theorem cv_11_383_5 : am_nv 11 383 = some 2 ∧ am_cv 11 383 5 = some mX5_calls := ⟨by decide +kernel, rfl⟩
theorem cv_11_383_4 : am_nv 11 383 = some 2 ∧ am_cv 11 383 4 = some mX5_calls := ⟨by decide +kernel, rfl⟩
theorem cv_11_383_1 : am_nv 11 383 = some 2 ∧ am_cv 11 383 1 = some mX10_calls := ⟨by decide +kernel, rfl⟩
theorem cv_11_383_2 : am_nv 11 383 = some 2 ∧ am_cv 11 383 2 = some mX2_calls := ⟨by decide +kernel, rfl⟩
theorem cv_10_17_10 : am_nv 10 17 = some 2 ∧ am_cv 10 17 10 = some mX10_hums := ⟨by decide +kernel, rfl⟩
theorem gk_10_23_70 : am_gfK 10 23 70 = some (1, 0) := by decide +kernel
theorem cv_10_17_0 : am_nv 10 17 = some 2 ∧ am_cv 10 17 0 = some mX0_hums := ⟨by decide +kernel, rfl⟩
theorem cv_5_20_9 : am_nv 5 20 = some 1 ∧ am_cv 5 20 9 = some mX9_began := ⟨by decide +kernel, rfl⟩
theorem cp_5_26 : am_cp 5 26 = some (2, mX10_calls) ∧ am_oi 5 26 = false := ⟨rfl, by decide +kernel⟩
theorem cv_10_17_5 : am_nv 10 17 = some 2 ∧ am_cv 10 17 5 = some mX10_hums := ⟨by decide +kernel, rfl⟩
theorem cv_10_17_4 : am_nv 10 17 = some 2 ∧ am_cv 10 17 4 = some mX4_hums := ⟨by decide +kernel, rfl⟩
theorem cv_10_17_1 : am_nv 10 17 = some 2 ∧ am_cv 10 17 1 = some mX10_hums := ⟨by decide +kernel, rfl⟩
theorem cv_2_15_9 : am_nv 2 15 = some 1 ∧ am_cv 2 15 9 = some mX9_began := ⟨by decide +kernel, rfl⟩
theorem cp_2_21 : am_cp 2 21 = some (2, mX10_calls) ∧ am_oi 2 21 = false := ⟨rfl, by decide +kernel⟩
theorem cv_10_17_2 : am_nv 10 17 = some 2 ∧ am_cv 10 17 2 = some mX10_hums := ⟨by decide +kernel, rfl⟩
theorem cv_11_386_10 : am_nv 11 386 = some 2 ∧ am_cv 11 386 10 = some mX10_parts := ⟨by decide +kernel, rfl⟩
theorem cv_11_386_0 : am_nv 11 386 = some 2 ∧ am_cv 11 386 0 = some mX10_parts := ⟨by decide +kernel, rfl⟩
theorem cv_11_386_5 : am_nv 11 386 = some 2 ∧ am_cv 11 386 5 = some mX10_parts := ⟨by decide +kernel, rfl⟩
theorem cv_11_386_4 : am_nv 11 386 = some 2 ∧ am_cv 11 386 4 = some mX10_parts := ⟨by decide +kernel, rfl⟩
theorem cv_11_386_1 : am_nv 11 386 = some 2 ∧ am_cv 11 386 1 = some mX1_parts := ⟨by decide +kernel, rfl⟩
theorem cv_11_386_2 : am_nv 11 386 = some 2 ∧ am_cv 11 386 2 = some mX2_parts := ⟨by decide +kernel, rfl⟩
theorem gk_10_26_70 : am_gfK 10 26 70 = some (2, 1) := by decide +kernel
theorem cv_1_7_9 : am_nv 1 7 = some 1 ∧ am_cv 1 7 9 = some mX9_began := ⟨by decide +kernel, rfl⟩
theorem cp_1_13 : am_cp 1 13 = some (2, mX10_parts) ∧ am_oi 1 13 = false := ⟨rfl, by decide +kernel⟩
theorem gk_1_17_70 : am_gfK 1 17 70 = some (1, 0) := by decide +kernel
theorem cp_2_25 : am_cp 2 25 = some (2, mX1_parts) ∧ am_oi 2 25 = false := ⟨rfl, by decide +kernel⟩
theorem gk_2_28_70 : am_gfK 2 28 70 = some (1, 0) := by decide +kernel
theorem cv_2_32_2 : am_nv 2 32 = some 2 ∧ am_cv 2 32 2 = some mX10_hums := ⟨by decide +kernel, rfl⟩
theorem cv_11_389_10 : am_nv 11 389 = some 2 ∧ am_cv 11 389 10 = some mX10_rings := ⟨by decide +kernel, rfl⟩
theorem cv_11_389_0 : am_nv 11 389 = some 2 ∧ am_cv 11 389 0 = some mX10_rings := ⟨by decide +kernel, rfl⟩
theorem cv_11_389_5 : am_nv 11 389 = some 2 ∧ am_cv 11 389 5 = some mX10_rings := ⟨by decide +kernel, rfl⟩
theorem cv_11_389_4 : am_nv 11 389 = some 2 ∧ am_cv 11 389 4 = some mX4_rings := ⟨by decide +kernel, rfl⟩
theorem cv_11_389_1 : am_nv 11 389 = some 2 ∧ am_cv 11 389 1 = some mX10_rings := ⟨by decide +kernel, rfl⟩
theorem cv_11_389_2 : am_nv 11 389 = some 2 ∧ am_cv 11 389 2 = some mX10_rings := ⟨by decide +kernel, rfl⟩
theorem cv_10_30_10 : am_nv 10 30 = some 2 ∧ am_cv 10 30 10 = some mX10_calls := ⟨by decide +kernel, rfl⟩
theorem cv_10_33_10 : am_nv 10 33 = some 2 ∧ am_cv 10 33 10 = some mX10_parts := ⟨by decide +kernel, rfl⟩
theorem cv_10_30_0 : am_nv 10 30 = some 2 ∧ am_cv 10 30 0 = some mX10_calls := ⟨by decide +kernel, rfl⟩
theorem cv_10_33_0 : am_nv 10 33 = some 2 ∧ am_cv 10 33 0 = some mX10_parts := ⟨by decide +kernel, rfl⟩
theorem cv_10_30_5 : am_nv 10 30 = some 2 ∧ am_cv 10 30 5 = some mX5_calls := ⟨by decide +kernel, rfl⟩
theorem cv_10_33_5 : am_nv 10 33 = some 2 ∧ am_cv 10 33 5 = some mX10_parts := ⟨by decide +kernel, rfl⟩
theorem cp_4_25 : am_cp 4 25 = some (2, mX10_rings) ∧ am_oi 4 25 = false := ⟨rfl, by decide +kernel⟩
theorem cv_10_30_4 : am_nv 10 30 = some 2 ∧ am_cv 10 30 4 = some mX5_calls := ⟨by decide +kernel, rfl⟩
theorem cv_10_33_4 : am_nv 10 33 = some 2 ∧ am_cv 10 33 4 = some mX10_parts := ⟨by decide +kernel, rfl⟩
theorem gk_4_28_70 : am_gfK 4 28 70 = some (0, 0) := by decide +kernel
theorem cv_4_32_4 : am_nv 4 32 = some 2 ∧ am_cv 4 32 4 = some mX5_calls := ⟨by decide +kernel, rfl⟩
theorem cv_10_30_1 : am_nv 10 30 = some 2 ∧ am_cv 10 30 1 = some mX10_calls := ⟨by decide +kernel, rfl⟩
theorem cv_10_33_1 : am_nv 10 33 = some 2 ∧ am_cv 10 33 1 = some mX1_parts := ⟨by decide +kernel, rfl⟩
theorem cv_10_30_2 : am_nv 10 30 = some 2 ∧ am_cv 10 30 2 = some mX2_calls := ⟨by decide +kernel, rfl⟩
theorem cv_10_33_2 : am_nv 10 33 = some 2 ∧ am_cv 10 33 2 = some mX2_parts := ⟨by decide +kernel, rfl⟩
theorem gk_11_392_70 : am_gfK 11 392 70 = some (2, 1) := by decide +kernel
theorem gk_12_431_82 : am_gfK 12 431 82 = some (36, 0) := by decide +kernel
theorem gk_12_428_82 : am_gfK 12 428 82 = some (40, 1) := by decide +kernel
theorem gk_12_440_82 : am_gfK 12 440 82 = some (37, 0) := by decide +kernel
theorem gk_12_446_82 : am_gfK 12 446 82 = some (38, 0) := by decide +kernel
theorem gk_12_434_82 : am_gfK 12 434 82 = some (39, 0) := by decide +kernel
theorem cv_12_458_12 : am_nv 12 458 = some 1 ∧ am_cv 12 458 12 = some mX12_rings := ⟨by decide +kernel, rfl⟩
theorem cv_12_437_12 : am_nv 12 437 = some 1 ∧ am_cv 12 437 12 = some mX12_runs := ⟨by decide +kernel, rfl⟩
theorem gk_12_58_82 : am_gfK 12 58 82 = some (35, 2) := by decide +kernel
theorem rf_82_35 {RF : Nat → Nat → Option Nat} (h : am_RFok RF) : RF 82 35 = some 99 := h (82, 35, 99) (by decide +kernel)
theorem sh_99 : am_SH[99]? = some (20, 30) := by decide +kernel
theorem cv_12_452_12 : am_nv 12 452 = some 1 ∧ am_cv 12 452 12 = some mX12_calls := ⟨by decide +kernel, rfl⟩
theorem cv_12_443_12 : am_nv 12 443 = some 1 ∧ am_cv 12 443 12 = some mX12_hums := ⟨by decide +kernel, rfl⟩
theorem cv_12_455_12 : am_nv 12 455 = some 1 ∧ am_cv 12 455 12 = some mX12_parts := ⟨by decide +kernel, rfl⟩
theorem cv_12_449_12 : am_nv 12 449 = some 1 ∧ am_cv 12 449 12 = some mX12_plainParts := ⟨by decide +kernel, rfl⟩
theorem gk_11_395_70 : am_gfK 11 395 70 = some (3, 0) := by decide +kernel
theorem gk_11_398_70 : am_gfK 11 398 70 = some (4, 2) := by decide +kernel
theorem cv_12_461_12 : am_nv 12 461 = some 0 ∧ am_cv 12 461 12 = some mX12_traced := ⟨by decide +kernel, rfl⟩
theorem gk_11_401_8 : am_gfK 11 401 8 = some (5, 0) := by decide +kernel
theorem gk_11_402_17 : am_gfK 11 402 17 = some (0, 0) := by decide +kernel
theorem ct_11_405 : am_ct 11 405 = some (1, mJ6_bitCount_0f7a4) ∧ am_mk 11 405 = none ∧ am_ac 11 405 = false := ⟨rfl, by decide +kernel, by decide +kernel⟩
theorem gk_11_410_50 : am_gfK 11 410 50 = some (14, 0) := by decide +kernel
theorem gk_11_413_40 : am_gfK 11 413 40 = some (0, 0) := by decide +kernel
theorem ct_12_464 : am_ct 12 464 = some (1, mX12_ones) ∧ am_mk 12 464 = none ∧ am_ac 12 464 = false := ⟨rfl, by decide +kernel, by decide +kernel⟩
theorem gk_11_36_0 : am_gfK 11 36 0 = some (1, 2) := by decide +kernel
theorem rf_0_1 {RF : Nat → Nat → Option Nat} (h : am_RFok RF) : RF 0 1 = some 24 := h (0, 1, 24) (by decide +kernel)
theorem cv_11_416_8 : am_nv 11 416 = some 1 ∧ am_cv 11 416 8 = some mX8_becomeLike := ⟨by decide +kernel, rfl⟩
theorem gk_8_66_24 : am_gfK 8 66 24 = some (0, 0) := by decide +kernel
theorem gk_8_50_24 : am_gfK 8 50 24 = some (1, 0) := by decide +kernel
theorem gk_8_54_24 : am_gfK 8 54 24 = some (2, 0) := by decide +kernel
theorem gk_8_69_24 : am_gfK 8 69 24 = some (3, 0) := by decide +kernel
theorem gk_8_57_24 : am_gfK 8 57 24 = some (4, 0) := by decide +kernel
theorem gk_8_72_24 : am_gfK 8 72 24 = some (5, 0) := by decide +kernel
theorem gk_8_75_24 : am_gfK 8 75 24 = some (6, 0) := by decide +kernel
theorem gk_8_78_24 : am_gfK 8 78 24 = some (7, 0) := by decide +kernel
theorem gk_8_9_24 : am_gfK 8 9 24 = some (8, 2) := by decide +kernel
theorem rf_24_8 {RF : Nat → Nat → Option Nat} (h : am_RFok RF) : RF 24 8 = some 25 := h (24, 8, 25) (by decide +kernel)
theorem sh_25 : am_SH[25]? = some (20, 16) := by decide +kernel
theorem gk_8_15_24 : am_gfK 8 15 24 = some (9, 2) := by decide +kernel
theorem rf_24_9 {RF : Nat → Nat → Option Nat} (h : am_RFok RF) : RF 24 9 = some 26 := h (24, 9, 26) (by decide +kernel)
theorem sh_26 : am_SH[26]? = some (20, 6) := by decide +kernel
theorem gk_8_18_24 : am_gfK 8 18 24 = some (10, 2) := by decide +kernel
theorem rf_24_10 {RF : Nat → Nat → Option Nat} (h : am_RFok RF) : RF 24 10 = some 27 := h (24, 10, 27) (by decide +kernel)
theorem sh_27 : am_SH[27]? = some (20, 6) := by decide +kernel
theorem gk_8_21_24 : am_gfK 8 21 24 = some (11, 2) := by decide +kernel
theorem rf_24_11 {RF : Nat → Nat → Option Nat} (h : am_RFok RF) : RF 24 11 = some 28 := h (24, 11, 28) (by decide +kernel)
theorem sh_28 : am_SH[28]? = some (20, 6) := by decide +kernel
theorem gk_8_24_24 : am_gfK 8 24 24 = some (12, 2) := by decide +kernel
theorem rf_24_12 {RF : Nat → Nat → Option Nat} (h : am_RFok RF) : RF 24 12 = some 29 := h (24, 12, 29) (by decide +kernel)
theorem sh_29 : am_SH[29]? = some (20, 6) := by decide +kernel
theorem gk_8_27_24 : am_gfK 8 27 24 = some (13, 2) := by decide +kernel
theorem rf_24_13 {RF : Nat → Nat → Option Nat} (h : am_RFok RF) : RF 24 13 = some 30 := h (24, 13, 30) (by decide +kernel)
theorem sh_30 : am_SH[30]? = some (20, 6) := by decide +kernel
theorem gk_8_30_24 : am_gfK 8 30 24 = some (14, 2) := by decide +kernel
theorem rf_24_14 {RF : Nat → Nat → Option Nat} (h : am_RFok RF) : RF 24 14 = some 31 := h (24, 14, 31) (by decide +kernel)
theorem sh_31 : am_SH[31]? = some (20, 6) := by decide +kernel
theorem gk_8_33_24 : am_gfK 8 33 24 = some (15, 2) := by decide +kernel
theorem rf_24_15 {RF : Nat → Nat → Option Nat} (h : am_RFok RF) : RF 24 15 = some 32 := h (24, 15, 32) (by decide +kernel)
theorem sh_32 : am_SH[32]? = some (20, 6) := by decide +kernel
theorem gk_8_39_24 : am_gfK 8 39 24 = some (16, 2) := by decide +kernel
theorem rf_24_16 {RF : Nat → Nat → Option Nat} (h : am_RFok RF) : RF 24 16 = some 33 := h (24, 16, 33) (by decide +kernel)
theorem cv_8_87_7 : am_nv 8 87 = some 1 ∧ am_cv 8 87 7 = some mX7_becomeLike := ⟨by decide +kernel, rfl⟩
theorem gk_7_29_33 : am_gfK 7 29 33 = some (0, 0) := by decide +kernel
theorem gk_7_33_33 : am_gfK 7 33 33 = some (1, 0) := by decide +kernel
theorem gk_7_11_33 : am_gfK 7 11 33 = some (2, 2) := by decide +kernel
theorem rf_33_2 {RF : Nat → Nat → Option Nat} (h : am_RFok RF) : RF 33 2 = some 34 := h (33, 2, 34) (by decide +kernel)
theorem sh_34 : am_SH[34]? = some (20, 8) := by decide +kernel
theorem gk_7_15_33 : am_gfK 7 15 33 = some (3, 2) := by decide +kernel
theorem rf_33_3 {RF : Nat → Nat → Option Nat} (h : am_RFok RF) : RF 33 3 = some 35 := h (33, 3, 35) (by decide +kernel)
theorem sh_35 : am_SH[35]? = some (20, 8) := by decide +kernel
theorem gk_7_18_33 : am_gfK 7 18 33 = some (4, 2) := by decide +kernel
theorem rf_33_4 {RF : Nat → Nat → Option Nat} (h : am_RFok RF) : RF 33 4 = some 36 := h (33, 4, 36) (by decide +kernel)
theorem sh_36 : am_SH[36]? = some (20, 8) := by decide +kernel
theorem gk_7_21_33 : am_gfK 7 21 33 = some (5, 2) := by decide +kernel
theorem rf_33_5 {RF : Nat → Nat → Option Nat} (h : am_RFok RF) : RF 33 5 = some 37 := h (33, 5, 37) (by decide +kernel)
theorem sh_37 : am_SH[37]? = some (20, 8) := by decide +kernel
theorem gk_7_26_33 : am_gfK 7 26 33 = some (6, 2) := by decide +kernel
theorem rf_33_6 {RF : Nat → Nat → Option Nat} (h : am_RFok RF) : RF 33 6 = some 38 := h (33, 6, 38) (by decide +kernel)
theorem sh_38 : am_SH[38]? = some (20, 200) := by decide +kernel
theorem sh_33 : am_SH[33]? = some (7, 7) := by decide +kernel
theorem gk_11_39_0 : am_gfK 11 39 0 = some (2, 1) := by decide +kernel
theorem sh_24 : am_SH[24]? = some (8, 19) := by decide +kernel
theorem gk_12_467_82 : am_gfK 12 467 82 = some (3, 1) := by decide +kernel
theorem gk_12_13_82 : am_gfK 12 13 82 = some (1, 2) := by decide +kernel
theorem rf_82_1 {RF : Nat → Nat → Option Nat} (h : am_RFok RF) : RF 82 1 = some 84 := h (82, 1, 84) (by decide +kernel)
theorem sh_84 : am_SH[84]? = some (20, 296) := by decide +kernel
