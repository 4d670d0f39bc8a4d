/-! LAYER 1: the law (written by wip/whole/gen_law.py) -/
theorem cv_19_213_11 : am_nv 19 213 = some 0 ∧ am_cv 19 213 11 = some mX11_again := ⟨by decide +kernel, rfl⟩
theorem cv_19_216_12 : am_nv 19 216 = some 0 ∧ am_cv 19 216 12 = some mX12_again := ⟨by decide +kernel, rfl⟩
theorem cv_19_209_11 : am_nv 19 209 = some 0 ∧ am_cv 19 209 11 = some mX11_keep := ⟨by decide +kernel, rfl⟩
theorem cv_19_212_12 : am_nv 19 212 = some 0 ∧ am_cv 19 212 12 = some mX12_keep := ⟨by decide +kernel, rfl⟩
theorem cv_19_205_11 : am_nv 19 205 = some 1 ∧ am_cv 19 205 11 = some mX11_many := ⟨by decide +kernel, rfl⟩
theorem cv_19_208_12 : am_nv 19 208 = some 1 ∧ am_cv 19 208 12 = some mX12_many := ⟨by decide +kernel, rfl⟩
theorem cv_19_201_11 : am_nv 19 201 = some 1 ∧ am_cv 19 201 11 = some mX11_trace := ⟨by decide +kernel, rfl⟩
theorem cv_19_204_12 : am_nv 19 204 = some 1 ∧ am_cv 19 204 12 = some mX12_trace := ⟨by decide +kernel, rfl⟩
theorem cv_19_197_11 : am_nv 19 197 = some 3 ∧ am_cv 19 197 11 = some mX11_act := ⟨by decide +kernel, rfl⟩
theorem cv_19_200_12 : am_nv 19 200 = some 3 ∧ am_cv 19 200 12 = some mX12_act := ⟨by decide +kernel, rfl⟩
theorem cv_19_193_11 : am_nv 19 193 = some 2 ∧ am_cv 19 193 11 = some mX11_taken := ⟨by decide +kernel, rfl⟩
theorem cv_19_196_12 : am_nv 19 196 = some 2 ∧ am_cv 19 196 12 = some mX12_taken := ⟨by decide +kernel, rfl⟩
theorem cv_19_189_11 : am_nv 19 189 = some 3 ∧ am_cv 19 189 11 = some mX11_shelf := ⟨by decide +kernel, rfl⟩
theorem cv_19_192_12 : am_nv 19 192 = some 3 ∧ am_cv 19 192 12 = some mX12_shelf := ⟨by decide +kernel, rfl⟩
theorem cv_19_185_11 : am_nv 19 185 = some 3 ∧ am_cv 19 185 11 = some mX11_wouldBe := ⟨by decide +kernel, rfl⟩
theorem cv_19_188_12 : am_nv 19 188 = some 3 ∧ am_cv 19 188 12 = some mX12_wouldBe := ⟨by decide +kernel, rfl⟩
theorem cv_19_181_11 : am_nv 19 181 = some 3 ∧ am_cv 19 181 11 = some mX11_goAll := ⟨by decide +kernel, rfl⟩
theorem cv_19_184_12 : am_nv 19 184 = some 3 ∧ am_cv 19 184 12 = some mX12_goAll := ⟨by decide +kernel, rfl⟩
theorem cv_19_177_11 : am_nv 19 177 = some 3 ∧ am_cv 19 177 11 = some mX11_item := ⟨by decide +kernel, rfl⟩
theorem cv_19_180_12 : am_nv 19 180 = some 3 ∧ am_cv 19 180 12 = some mX12_item := ⟨by decide +kernel, rfl⟩
theorem cv_19_173_11 : am_nv 19 173 = some 3 ∧ am_cv 19 173 11 = some mX11_write := ⟨by decide +kernel, rfl⟩
theorem cv_19_176_12 : am_nv 19 176 = some 3 ∧ am_cv 19 176 12 = some mX12_write := ⟨by decide +kernel, rfl⟩
theorem cv_19_169_11 : am_nv 19 169 = some 3 ∧ am_cv 19 169 11 = some mX11_sheet := ⟨by decide +kernel, rfl⟩
theorem cv_19_172_12 : am_nv 19 172 = some 3 ∧ am_cv 19 172 12 = some mX12_sheet := ⟨by decide +kernel, rfl⟩
theorem cv_19_165_11 : am_nv 19 165 = some 0 ∧ am_cv 19 165 11 = some mX11_judge := ⟨by decide +kernel, rfl⟩
theorem cv_19_168_12 : am_nv 19 168 = some 0 ∧ am_cv 19 168 12 = some mX12_judge := ⟨by decide +kernel, rfl⟩
theorem cv_19_161_11 : am_nv 19 161 = some 3 ∧ am_cv 19 161 11 = some mX11_alterRow := ⟨by decide +kernel, rfl⟩
theorem cv_19_164_12 : am_nv 19 164 = some 3 ∧ am_cv 19 164 12 = some mX12_alterRow := ⟨by decide +kernel, rfl⟩
theorem cv_19_157_11 : am_nv 19 157 = some 2 ∧ am_cv 19 157 11 = some mX11_row := ⟨by decide +kernel, rfl⟩
theorem cv_19_160_12 : am_nv 19 160 = some 2 ∧ am_cv 19 160 12 = some mX12_row := ⟨by decide +kernel, rfl⟩
theorem cv_19_153_11 : am_nv 19 153 = some 1 ∧ am_cv 19 153 11 = some mX11_prove := ⟨by decide +kernel, rfl⟩
theorem cv_19_156_12 : am_nv 19 156 = some 1 ∧ am_cv 19 156 12 = some mX12_prove := ⟨by decide +kernel, rfl⟩
theorem cv_19_149_11 : am_nv 19 149 = some 2 ∧ am_cv 19 149 11 = some mX11_times := ⟨by decide +kernel, rfl⟩
theorem cv_19_152_12 : am_nv 19 152 = some 2 ∧ am_cv 19 152 12 = some mX12_times := ⟨by decide +kernel, rfl⟩
theorem cv_19_145_11 : am_nv 19 145 = some 0 ∧ am_cv 19 145 11 = some mX11_lot := ⟨by decide +kernel, rfl⟩
theorem cv_19_148_12 : am_nv 19 148 = some 0 ∧ am_cv 19 148 12 = some mX12_lot := ⟨by decide +kernel, rfl⟩
theorem cv_19_141_11 : am_nv 19 141 = some 1 ∧ am_cv 19 141 11 = some mX11_seed := ⟨by decide +kernel, rfl⟩
theorem cv_19_144_12 : am_nv 19 144 = some 1 ∧ am_cv 19 144 12 = some mX12_seed := ⟨by decide +kernel, rfl⟩
theorem cv_19_137_11 : am_nv 19 137 = some 0 ∧ am_cv 19 137 11 = some mX11_liar := ⟨by decide +kernel, rfl⟩
theorem cv_19_140_12 : am_nv 19 140 = some 0 ∧ am_cv 19 140 12 = some mX12_liar := ⟨by decide +kernel, rfl⟩
theorem cv_19_133_11 : am_nv 19 133 = some 1 ∧ am_cv 19 133 11 = some mX11_span := ⟨by decide +kernel, rfl⟩
theorem cv_19_136_12 : am_nv 19 136 = some 1 ∧ am_cv 19 136 12 = some mX12_span := ⟨by decide +kernel, rfl⟩
theorem cv_19_129_11 : am_nv 19 129 = some 0 ∧ am_cv 19 129 11 = some mX11_forget := ⟨by decide +kernel, rfl⟩
theorem cv_19_132_12 : am_nv 19 132 = some 0 ∧ am_cv 19 132 12 = some mX12_forget := ⟨by decide +kernel, rfl⟩
theorem cv_19_125_11 : am_nv 19 125 = some 3 ∧ am_cv 19 125 11 = some mX11_report := ⟨by decide +kernel, rfl⟩
theorem cv_19_128_12 : am_nv 19 128 = some 3 ∧ am_cv 19 128 12 = some mX12_report := ⟨by decide +kernel, rfl⟩
theorem cv_19_121_11 : am_nv 19 121 = some 1 ∧ am_cv 19 121 11 = some mX11_play := ⟨by decide +kernel, rfl⟩
theorem cv_19_124_12 : am_nv 19 124 = some 1 ∧ am_cv 19 124 12 = some mX12_play := ⟨by decide +kernel, rfl⟩
theorem cv_19_117_11 : am_nv 19 117 = some 1 ∧ am_cv 19 117 11 = some mX11_game := ⟨by decide +kernel, rfl⟩
theorem cv_19_120_12 : am_nv 19 120 = some 1 ∧ am_cv 19 120 12 = some mX12_game := ⟨by decide +kernel, rfl⟩
theorem cv_19_113_11 : am_nv 19 113 = some 2 ∧ am_cv 19 113 11 = some mX11_bars := ⟨by decide +kernel, rfl⟩
theorem cv_19_116_12 : am_nv 19 116 = some 2 ∧ am_cv 19 116 12 = some mX12_bars := ⟨by decide +kernel, rfl⟩
theorem cv_19_109_11 : am_nv 19 109 = some 2 ∧ am_cv 19 109 11 = some mX11_haul := ⟨by decide +kernel, rfl⟩
theorem cv_19_112_12 : am_nv 19 112 = some 2 ∧ am_cv 19 112 12 = some mX12_haul := ⟨by decide +kernel, rfl⟩
theorem cv_19_105_11 : am_nv 19 105 = some 1 ∧ am_cv 19 105 11 = some mX11_ways := ⟨by decide +kernel, rfl⟩
theorem cv_19_108_12 : am_nv 19 108 = some 1 ∧ am_cv 19 108 12 = some mX12_ways := ⟨by decide +kernel, rfl⟩
theorem cv_19_101_11 : am_nv 19 101 = some 2 ∧ am_cv 19 101 11 = some mX11_ith := ⟨by decide +kernel, rfl⟩
theorem cv_19_104_12 : am_nv 19 104 = some 2 ∧ am_cv 19 104 12 = some mX12_ith := ⟨by decide +kernel, rfl⟩
theorem cv_19_97_11 : am_nv 19 97 = some 1 ∧ am_cv 19 97 11 = some mX11_best := ⟨by decide +kernel, rfl⟩
theorem cv_19_100_12 : am_nv 19 100 = some 1 ∧ am_cv 19 100 12 = some mX12_best := ⟨by decide +kernel, rfl⟩
theorem cv_19_93_11 : am_nv 19 93 = some 1 ∧ am_cv 19 93 11 = some mX11_choir := ⟨by decide +kernel, rfl⟩
theorem cv_19_96_12 : am_nv 19 96 = some 1 ∧ am_cv 19 96 12 = some mX12_choir := ⟨by decide +kernel, rfl⟩
theorem cv_19_89_11 : am_nv 19 89 = some 1 ∧ am_cv 19 89 11 = some mX11_apart := ⟨by decide +kernel, rfl⟩
theorem cv_19_92_12 : am_nv 19 92 = some 1 ∧ am_cv 19 92 12 = some mX12_apart := ⟨by decide +kernel, rfl⟩
theorem cv_19_85_11 : am_nv 19 85 = some 0 ∧ am_cv 19 85 11 = some mX11_quarrels := ⟨by decide +kernel, rfl⟩
theorem cv_19_88_12 : am_nv 19 88 = some 0 ∧ am_cv 19 88 12 = some mX12_quarrels := ⟨by decide +kernel, rfl⟩
theorem cv_19_81_11 : am_nv 19 81 = some 1 ∧ am_cv 19 81 11 = some mX11_placeFor := ⟨by decide +kernel, rfl⟩
theorem cv_19_84_12 : am_nv 19 84 = some 1 ∧ am_cv 19 84 12 = some mX12_placeFor := ⟨by decide +kernel, rfl⟩
theorem cv_19_77_11 : am_nv 19 77 = some 0 ∧ am_cv 19 77 11 = some mX11_meshFor := ⟨by decide +kernel, rfl⟩
theorem cv_19_80_12 : am_nv 19 80 = some 0 ∧ am_cv 19 80 12 = some mX12_meshFor := ⟨by decide +kernel, rfl⟩
theorem cv_19_73_11 : am_nv 19 73 = some 1 ∧ am_cv 19 73 11 = some mX11_when := ⟨by decide +kernel, rfl⟩
theorem cv_19_76_12 : am_nv 19 76 = some 1 ∧ am_cv 19 76 12 = some mX12_when := ⟨by decide +kernel, rfl⟩
theorem cv_19_69_11 : am_nv 19 69 = some 1 ∧ am_cv 19 69 11 = some mX11_on := ⟨by decide +kernel, rfl⟩
theorem cv_19_72_12 : am_nv 19 72 = some 1 ∧ am_cv 19 72 12 = some mX12_on := ⟨by decide +kernel, rfl⟩
theorem cv_19_65_11 : am_nv 19 65 = some 0 ∧ am_cv 19 65 11 = some mX11_turn := ⟨by decide +kernel, rfl⟩
theorem cv_19_68_12 : am_nv 19 68 = some 0 ∧ am_cv 19 68 12 = some mX12_turn := ⟨by decide +kernel, rfl⟩
theorem cv_19_61_11 : am_nv 19 61 = some 0 ∧ am_cv 19 61 11 = some mX11_rules := ⟨by decide +kernel, rfl⟩
theorem cv_19_64_12 : am_nv 19 64 = some 0 ∧ am_cv 19 64 12 = some mX12_rules := ⟨by decide +kernel, rfl⟩
theorem cl_19_54 : am_cl 19 54 = some (4294967295 : Int64) := by decide +kernel
theorem cv_19_56_11 : am_nv 19 56 = some 2 ∧ am_cv 19 56 11 = some mX11_feed := ⟨by decide +kernel, rfl⟩
theorem cv_19_60_12 : am_nv 19 60 = some 2 ∧ am_cv 19 60 12 = some mX12_feed := ⟨by decide +kernel, rfl⟩
theorem cv_19_50_11 : am_nv 19 50 = some 1 ∧ am_cv 19 50 11 = some mX11_state := ⟨by decide +kernel, rfl⟩
theorem cv_19_53_12 : am_nv 19 53 = some 1 ∧ am_cv 19 53 12 = some mX12_state := ⟨by decide +kernel, rfl⟩
theorem cv_19_45_11 : am_nv 19 45 = some 0 ∧ am_cv 19 45 11 = some mX11_anew := ⟨by decide +kernel, rfl⟩
theorem cv_19_49_12 : am_nv 19 49 = some 0 ∧ am_cv 19 49 12 = some mX12_anew := ⟨by decide +kernel, rfl⟩
theorem cv_19_41_11 : am_nv 19 41 = some 2 ∧ am_cv 19 41 11 = some mX11_set := ⟨by decide +kernel, rfl⟩
theorem cv_19_44_12 : am_nv 19 44 = some 2 ∧ am_cv 19 44 12 = some mX12_set := ⟨by decide +kernel, rfl⟩
theorem cv_19_36_11 : am_nv 19 36 = some 1 ∧ am_cv 19 36 11 = some mX11_tideOf := ⟨by decide +kernel, rfl⟩
theorem cv_19_40_12 : am_nv 19 40 = some 1 ∧ am_cv 19 40 12 = some mX12_tideOf := ⟨by decide +kernel, rfl⟩
theorem cv_19_32_11 : am_nv 19 32 = some 2 ∧ am_cv 19 32 11 = some mX11_tide := ⟨by decide +kernel, rfl⟩
theorem cv_19_35_12 : am_nv 19 35 = some 2 ∧ am_cv 19 35 12 = some mX12_tide := ⟨by decide +kernel, rfl⟩
theorem cv_19_28_11 : am_nv 19 28 = some 2 ∧ am_cv 19 28 11 = some mX11_remake := ⟨by decide +kernel, rfl⟩
theorem cv_19_31_12 : am_nv 19 31 = some 2 ∧ am_cv 19 31 12 = some mX12_remake := ⟨by decide +kernel, rfl⟩
theorem cv_19_23_11 : am_nv 19 23 = some 3 ∧ am_cv 19 23 11 = some mX11_change := ⟨by decide +kernel, rfl⟩
theorem cv_19_27_12 : am_nv 19 27 = some 3 ∧ am_cv 19 27 12 = some mX12_change := ⟨by decide +kernel, rfl⟩
theorem cv_19_18_11 : am_nv 19 18 = some 2 ∧ am_cv 19 18 11 = some mX11_voiceOf := ⟨by decide +kernel, rfl⟩
theorem cv_19_22_12 : am_nv 19 22 = some 2 ∧ am_cv 19 22 12 = some mX12_voiceOf := ⟨by decide +kernel, rfl⟩
theorem cv_19_13_11 : am_nv 19 13 = some 4 ∧ am_cv 19 13 11 = some mX11_voice := ⟨by decide +kernel, rfl⟩
theorem cv_19_17_12 : am_nv 19 17 = some 4 ∧ am_cv 19 17 12 = some mX12_voice := ⟨by decide +kernel, rfl⟩
def F_L_law_b1631 (L : Nat) (xs : Nat → Int32) (k18 : Int32 → am_S → Option (Int32 × am_S)) (x3 : Int32) (s : am_S) : Option (Int32 × am_S) := (k18 (x3 + (5 : Int32)) s)
def F_L_law_b244 (L : Nat) (xs : Nat → Int32) (k18 : Int32 → am_S → Option (Int32 × am_S)) (x3 : Int32) (s : am_S) : Option (Int32 × am_S) := (if am_in (x3 + (1 : Int32)) L then (if am_in (x3 + (2 : Int32)) L then (if am_in (x3 + (3 : Int32)) L then (if am_in (x3 + (4 : Int32)) L then ((F_X11_voice_0 (xs (x3 + (1 : Int32)).toNatClampNeg) (xs (x3 + (2 : Int32)).toNatClampNeg) (xs (x3 + (3 : Int32)).toNatClampNeg) (xs (x3 + (4 : Int32)).toNatClampNeg) s).bind fun q5 => (if am_in (x3 + (1 : Int32)) L then (if am_in (x3 + (2 : Int32)) L then (if am_in (x3 + (3 : Int32)) L then (if am_in (x3 + (4 : Int32)) L then ((F_X12_voice_82 (xs (x3 + (1 : Int32)).toNatClampNeg) (xs (x3 + (2 : Int32)).toNatClampNeg) (xs (x3 + (3 : Int32)).toNatClampNeg) (xs (x3 + (4 : Int32)).toNatClampNeg) q5.2).bind fun q11 => (if q5.1 = q11.1 then (F_L_law_b1631 L xs k18 x3 q11.2) else (some ((0 : Int32), q11.2)))) else none) else none) else none) else none)) else none) else none) else none) else none)
def F_L_law_b297 (L : Nat) (xs : Nat → Int32) (k18 : Int32 → am_S → Option (Int32 × am_S)) (x3 : Int32) (s : am_S) : Option (Int32 × am_S) := (if am_in (x3 + (1 : Int32)) L then (if am_in (x3 + (2 : Int32)) L then ((F_X11_voiceOf_0 (xs (x3 + (1 : Int32)).toNatClampNeg) (xs (x3 + (2 : Int32)).toNatClampNeg) s).bind fun q3 => (if am_in (x3 + (1 : Int32)) L then (if am_in (x3 + (2 : Int32)) L then ((F_X12_voiceOf_82 (xs (x3 + (1 : Int32)).toNatClampNeg) (xs (x3 + (2 : Int32)).toNatClampNeg) q3.2).bind fun q7 => (if q3.1 = q7.1 then (F_L_law_b1631 L xs k18 x3 q7.2) else (some ((0 : Int32), q7.2)))) else none) else none)) else none) else none)
def F_L_law_b330 (L : Nat) (xs : Nat → Int32) (k18 : Int32 → am_S → Option (Int32 × am_S)) (x3 : Int32) (s : am_S) : Option (Int32 × am_S) := (if am_in (x3 + (1 : Int32)) L then (if am_in (x3 + (2 : Int32)) L then (if am_in (x3 + (3 : Int32)) L then ((F_X11_change_0 (xs (x3 + (1 : Int32)).toNatClampNeg) (xs (x3 + (2 : Int32)).toNatClampNeg) (xs (x3 + (3 : Int32)).toNatClampNeg) s).bind fun q4 => (if am_in (x3 + (1 : Int32)) L then (if am_in (x3 + (2 : Int32)) L then (if am_in (x3 + (3 : Int32)) L then ((F_X12_change_82 (xs (x3 + (1 : Int32)).toNatClampNeg) (xs (x3 + (2 : Int32)).toNatClampNeg) (xs (x3 + (3 : Int32)).toNatClampNeg) q4.2).bind fun q9 => (if q4.1 = q9.1 then (F_L_law_b1631 L xs k18 x3 q9.2) else (some ((0 : Int32), q9.2)))) else none) else none) else none)) else none) else none) else none)
def F_L_law_b373 (L : Nat) (xs : Nat → Int32) (k18 : Int32 → am_S → Option (Int32 × am_S)) (x3 : Int32) (s : am_S) : Option (Int32 × am_S) := (if am_in (x3 + (1 : Int32)) L then (if am_in (x3 + (2 : Int32)) L then ((F_X11_remake_0 (xs (x3 + (1 : Int32)).toNatClampNeg) (xs (x3 + (2 : Int32)).toNatClampNeg) s).bind fun q3 => (if am_in (x3 + (1 : Int32)) L then (if am_in (x3 + (2 : Int32)) L then ((F_X12_remake_82 (xs (x3 + (1 : Int32)).toNatClampNeg) (xs (x3 + (2 : Int32)).toNatClampNeg) q3.2).bind fun q7 => (if q3.1 = q7.1 then (F_L_law_b1631 L xs k18 x3 q7.2) else (some ((0 : Int32), q7.2)))) else none) else none)) else none) else none)
def F_L_law_b406 (L : Nat) (xs : Nat → Int32) (k18 : Int32 → am_S → Option (Int32 × am_S)) (x3 : Int32) (s : am_S) : Option (Int32 × am_S) := (if am_in (x3 + (1 : Int32)) L then (if am_in (x3 + (2 : Int32)) L then ((F_X11_tide_0 (xs (x3 + (1 : Int32)).toNatClampNeg) (xs (x3 + (2 : Int32)).toNatClampNeg) s).bind fun q3 => (if am_in (x3 + (1 : Int32)) L then (if am_in (x3 + (2 : Int32)) L then ((F_X12_tide_82 (xs (x3 + (1 : Int32)).toNatClampNeg) (xs (x3 + (2 : Int32)).toNatClampNeg) q3.2).bind fun q7 => (if q3.1 = q7.1 then (F_L_law_b1631 L xs k18 x3 q7.2) else (some ((0 : Int32), q7.2)))) else none) else none)) else none) else none)
def F_L_law_b439 (L : Nat) (xs : Nat → Int32) (k18 : Int32 → am_S → Option (Int32 × am_S)) (x3 : Int32) (s : am_S) : Option (Int32 × am_S) := (if am_in (x3 + (1 : Int32)) L then ((F_X11_tideOf_0 (xs (x3 + (1 : Int32)).toNatClampNeg) s).bind fun q2 => (if am_in (x3 + (1 : Int32)) L then ((F_X12_tideOf_82 (xs (x3 + (1 : Int32)).toNatClampNeg) q2.2).bind fun q5 => (if q2.1 = q5.1 then (F_L_law_b1631 L xs k18 x3 q5.2) else (some ((0 : Int32), q5.2)))) else none)) else none)
def F_L_law_b462 (L : Nat) (xs : Nat → Int32) (k18 : Int32 → am_S → Option (Int32 × am_S)) (x3 : Int32) (s : am_S) : Option (Int32 × am_S) := (if am_in (x3 + (1 : Int32)) L then (if am_in (x3 + (2 : Int32)) L then ((F_X11_set_0 (xs (x3 + (1 : Int32)).toNatClampNeg) (xs (x3 + (2 : Int32)).toNatClampNeg) s).bind fun q3 => (if am_in (x3 + (1 : Int32)) L then (if am_in (x3 + (2 : Int32)) L then ((F_X12_set_82 (xs (x3 + (1 : Int32)).toNatClampNeg) (xs (x3 + (2 : Int32)).toNatClampNeg) q3.2).bind fun q7 => (if q3.1 = q7.1 then (F_L_law_b1631 L xs k18 x3 q7.2) else (some ((0 : Int32), q7.2)))) else none) else none)) else none) else none)
def F_L_law_b495 (L : Nat) (xs : Nat → Int32) (k18 : Int32 → am_S → Option (Int32 × am_S)) (x3 : Int32) (s : am_S) : Option (Int32 × am_S) := ((F_X11_anew_0 s).bind fun q1 => ((F_X12_anew_82 q1.2).bind fun q3 => (if q1.1 = q3.1 then (F_L_law_b1631 L xs k18 x3 q3.2) else (some ((0 : Int32), q3.2)))))
def F_L_law_b508 (L : Nat) (xs : Nat → Int32) (k18 : Int32 → am_S → Option (Int32 × am_S)) (x3 : Int32) (s : am_S) : Option (Int32 × am_S) := (if am_in (x3 + (1 : Int32)) L then ((F_X11_state_0 (xs (x3 + (1 : Int32)).toNatClampNeg) s).bind fun q2 => (if am_in (x3 + (1 : Int32)) L then ((F_X12_state_82 (xs (x3 + (1 : Int32)).toNatClampNeg) q2.2).bind fun q5 => (if q2.1 = q5.1 then (F_L_law_b1631 L xs k18 x3 q5.2) else (some ((0 : Int32), q5.2)))) else none)) else none)
def F_L_law_b531 (L : Nat) (xs : Nat → Int32) (k18 : Int32 → am_S → Option (Int32 × am_S)) (x3 : Int32) (s : am_S) : Option (Int32 × am_S) := (if am_in (x3 + (1 : Int32)) L then (if am_in (x3 + (2 : Int32)) L then (if am_in (x3 + (3 : Int32)) L then ((F_X11_feed_0 (((xs (x3 + (1 : Int32)).toNatClampNeg).toInt64 <<< ((32 : Int32).toInt64 &&& 63)) ||| ((xs (x3 + (2 : Int32)).toNatClampNeg).toInt64 &&& (4294967295 : Int64))) (xs (x3 + (3 : Int32)).toNatClampNeg) s).bind fun q4 => (if am_in (x3 + (1 : Int32)) L then (if am_in (x3 + (2 : Int32)) L then (if am_in (x3 + (3 : Int32)) L then ((F_X12_feed_82 (((xs (x3 + (1 : Int32)).toNatClampNeg).toInt64 <<< ((32 : Int32).toInt64 &&& 63)) ||| ((xs (x3 + (2 : Int32)).toNatClampNeg).toInt64 &&& (4294967295 : Int64))) (xs (x3 + (3 : Int32)).toNatClampNeg) q4.2).bind fun q9 => (if q4.1 = q9.1 then (F_L_law_b1631 L xs k18 x3 q9.2) else (some ((0 : Int32), q9.2)))) else none) else none) else none)) else none) else none) else none)
def F_L_law_b594 (L : Nat) (xs : Nat → Int32) (k18 : Int32 → am_S → Option (Int32 × am_S)) (x3 : Int32) (s : am_S) : Option (Int32 × am_S) := ((F_X11_rules_0 s).bind fun q1 => ((F_X12_rules_82 q1.2).bind fun q3 => (if q1.1 = q3.1 then (F_L_law_b1631 L xs k18 x3 q3.2) else (some ((0 : Int32), q3.2)))))
def F_L_law_b607 (L : Nat) (xs : Nat → Int32) (k18 : Int32 → am_S → Option (Int32 × am_S)) (x3 : Int32) (s : am_S) : Option (Int32 × am_S) := ((F_X11_turn_0 s).bind fun q1 => ((F_X12_turn_82 q1.2).bind fun q3 => (if q1.1 = q3.1 then (F_L_law_b1631 L xs k18 x3 q3.2) else (some ((0 : Int32), q3.2)))))
def F_L_law_b620 (L : Nat) (xs : Nat → Int32) (k18 : Int32 → am_S → Option (Int32 × am_S)) (x3 : Int32) (s : am_S) : Option (Int32 × am_S) := (if am_in (x3 + (1 : Int32)) L then ((F_X11_on_0 (xs (x3 + (1 : Int32)).toNatClampNeg) s).bind fun q2 => (if am_in (x3 + (1 : Int32)) L then ((F_X12_on_82 (xs (x3 + (1 : Int32)).toNatClampNeg) q2.2).bind fun q5 => (if q2.1 = q5.1 then (F_L_law_b1631 L xs k18 x3 q5.2) else (some ((0 : Int32), q5.2)))) else none)) else none)
def F_L_law_b643 (L : Nat) (xs : Nat → Int32) (k18 : Int32 → am_S → Option (Int32 × am_S)) (x3 : Int32) (s : am_S) : Option (Int32 × am_S) := (if am_in (x3 + (1 : Int32)) L then ((F_X11_when_0 (xs (x3 + (1 : Int32)).toNatClampNeg) s).bind fun q2 => (if am_in (x3 + (1 : Int32)) L then ((F_X12_when_82 (xs (x3 + (1 : Int32)).toNatClampNeg) q2.2).bind fun q5 => (if q2.1 = q5.1 then (F_L_law_b1631 L xs k18 x3 q5.2) else (some ((0 : Int32), q5.2)))) else none)) else none)
def F_L_law_b666 (L : Nat) (xs : Nat → Int32) (k18 : Int32 → am_S → Option (Int32 × am_S)) (x3 : Int32) (s : am_S) : Option (Int32 × am_S) := ((F_X11_meshFor_0 s).bind fun q1 => ((F_X12_meshFor_82 q1.2).bind fun q3 => (if q1.1 = q3.1 then (F_L_law_b1631 L xs k18 x3 q3.2) else (some ((0 : Int32), q3.2)))))
def F_L_law_b679 (L : Nat) (xs : Nat → Int32) (k18 : Int32 → am_S → Option (Int32 × am_S)) (x3 : Int32) (s : am_S) : Option (Int32 × am_S) := (if am_in (x3 + (1 : Int32)) L then ((F_X11_placeFor_0 (xs (x3 + (1 : Int32)).toNatClampNeg) s).bind fun q2 => (if am_in (x3 + (1 : Int32)) L then ((F_X12_placeFor_82 (xs (x3 + (1 : Int32)).toNatClampNeg) q2.2).bind fun q5 => (if q2.1 = q5.1 then (F_L_law_b1631 L xs k18 x3 q5.2) else (some ((0 : Int32), q5.2)))) else none)) else none)
def F_L_law_b702 (L : Nat) (xs : Nat → Int32) (k18 : Int32 → am_S → Option (Int32 × am_S)) (x3 : Int32) (s : am_S) : Option (Int32 × am_S) := ((F_X11_quarrels_0 s).bind fun q1 => ((F_X12_quarrels_82 q1.2).bind fun q3 => (if q1.1 = q3.1 then (F_L_law_b1631 L xs k18 x3 q3.2) else (some ((0 : Int32), q3.2)))))
def F_L_law_b715 (L : Nat) (xs : Nat → Int32) (k18 : Int32 → am_S → Option (Int32 × am_S)) (x3 : Int32) (s : am_S) : Option (Int32 × am_S) := (if am_in (x3 + (1 : Int32)) L then ((F_X11_apart_0 (xs (x3 + (1 : Int32)).toNatClampNeg) s).bind fun q2 => (if am_in (x3 + (1 : Int32)) L then ((F_X12_apart_82 (xs (x3 + (1 : Int32)).toNatClampNeg) q2.2).bind fun q5 => (if q2.1 = q5.1 then (F_L_law_b1631 L xs k18 x3 q5.2) else (some ((0 : Int32), q5.2)))) else none)) else none)
def F_L_law_b738 (L : Nat) (xs : Nat → Int32) (k18 : Int32 → am_S → Option (Int32 × am_S)) (x3 : Int32) (s : am_S) : Option (Int32 × am_S) := (if am_in (x3 + (1 : Int32)) L then ((F_X11_choir_0 (xs (x3 + (1 : Int32)).toNatClampNeg) s).bind fun q2 => (if am_in (x3 + (1 : Int32)) L then ((F_X12_choir_82 (xs (x3 + (1 : Int32)).toNatClampNeg) q2.2).bind fun q5 => (if q2.1 = q5.1 then (F_L_law_b1631 L xs k18 x3 q5.2) else (some ((0 : Int32), q5.2)))) else none)) else none)
def F_L_law_b761 (L : Nat) (xs : Nat → Int32) (k18 : Int32 → am_S → Option (Int32 × am_S)) (x3 : Int32) (s : am_S) : Option (Int32 × am_S) := (if am_in (x3 + (1 : Int32)) L then ((F_X11_best_0 (xs (x3 + (1 : Int32)).toNatClampNeg) s).bind fun q2 => (if am_in (x3 + (1 : Int32)) L then ((F_X12_best_82 (xs (x3 + (1 : Int32)).toNatClampNeg) q2.2).bind fun q5 => (if q2.1 = q5.1 then (F_L_law_b1631 L xs k18 x3 q5.2) else (some ((0 : Int32), q5.2)))) else none)) else none)
def F_L_law_b784 (L : Nat) (xs : Nat → Int32) (k18 : Int32 → am_S → Option (Int32 × am_S)) (x3 : Int32) (s : am_S) : Option (Int32 × am_S) := (if am_in (x3 + (1 : Int32)) L then (if am_in (x3 + (2 : Int32)) L then ((F_X11_ith_0 (xs (x3 + (1 : Int32)).toNatClampNeg) (xs (x3 + (2 : Int32)).toNatClampNeg) s).bind fun q3 => (if am_in (x3 + (1 : Int32)) L then (if am_in (x3 + (2 : Int32)) L then ((F_X12_ith_82 (xs (x3 + (1 : Int32)).toNatClampNeg) (xs (x3 + (2 : Int32)).toNatClampNeg) q3.2).bind fun q7 => (if q3.1 = q7.1 then (F_L_law_b1631 L xs k18 x3 q7.2) else (some ((0 : Int32), q7.2)))) else none) else none)) else none) else none)
def F_L_law_b817 (L : Nat) (xs : Nat → Int32) (k18 : Int32 → am_S → Option (Int32 × am_S)) (x3 : Int32) (s : am_S) : Option (Int32 × am_S) := (if am_in (x3 + (1 : Int32)) L then ((F_X11_ways_0 (xs (x3 + (1 : Int32)).toNatClampNeg) s).bind fun q2 => (if am_in (x3 + (1 : Int32)) L then ((F_X12_ways_82 (xs (x3 + (1 : Int32)).toNatClampNeg) q2.2).bind fun q5 => (if q2.1 = q5.1 then (F_L_law_b1631 L xs k18 x3 q5.2) else (some ((0 : Int32), q5.2)))) else none)) else none)
def F_L_law_b840 (L : Nat) (xs : Nat → Int32) (k18 : Int32 → am_S → Option (Int32 × am_S)) (x3 : Int32) (s : am_S) : Option (Int32 × am_S) := (if am_in (x3 + (1 : Int32)) L then (if am_in (x3 + (2 : Int32)) L then ((F_X11_haul_0 (xs (x3 + (1 : Int32)).toNatClampNeg) (xs (x3 + (2 : Int32)).toNatClampNeg) s).bind fun q3 => (if am_in (x3 + (1 : Int32)) L then (if am_in (x3 + (2 : Int32)) L then ((F_X12_haul_82 (xs (x3 + (1 : Int32)).toNatClampNeg) (xs (x3 + (2 : Int32)).toNatClampNeg) q3.2).bind fun q7 => (if q3.1 = q7.1 then (F_L_law_b1631 L xs k18 x3 q7.2) else (some ((0 : Int32), q7.2)))) else none) else none)) else none) else none)
def F_L_law_b873 (L : Nat) (xs : Nat → Int32) (k18 : Int32 → am_S → Option (Int32 × am_S)) (x3 : Int32) (s : am_S) : Option (Int32 × am_S) := (if am_in (x3 + (1 : Int32)) L then (if am_in (x3 + (2 : Int32)) L then ((F_X11_bars_0 (xs (x3 + (1 : Int32)).toNatClampNeg) (xs (x3 + (2 : Int32)).toNatClampNeg) s).bind fun q3 => (if am_in (x3 + (1 : Int32)) L then (if am_in (x3 + (2 : Int32)) L then ((F_X12_bars_82 (xs (x3 + (1 : Int32)).toNatClampNeg) (xs (x3 + (2 : Int32)).toNatClampNeg) q3.2).bind fun q7 => (if q3.1 = q7.1 then (F_L_law_b1631 L xs k18 x3 q7.2) else (some ((0 : Int32), q7.2)))) else none) else none)) else none) else none)
def F_L_law_b906 (L : Nat) (xs : Nat → Int32) (k18 : Int32 → am_S → Option (Int32 × am_S)) (x3 : Int32) (s : am_S) : Option (Int32 × am_S) := (if am_in (x3 + (1 : Int32)) L then ((F_X11_game_0 (xs (x3 + (1 : Int32)).toNatClampNeg) s).bind fun q2 => (if am_in (x3 + (1 : Int32)) L then ((F_X12_game_82 (xs (x3 + (1 : Int32)).toNatClampNeg) q2.2).bind fun q5 => (if q2.1 = q5.1 then (F_L_law_b1631 L xs k18 x3 q5.2) else (some ((0 : Int32), q5.2)))) else none)) else none)
def F_L_law_b929 (L : Nat) (xs : Nat → Int32) (k18 : Int32 → am_S → Option (Int32 × am_S)) (x3 : Int32) (s : am_S) : Option (Int32 × am_S) := (if am_in (x3 + (1 : Int32)) L then ((F_X11_play_0 (xs (x3 + (1 : Int32)).toNatClampNeg) s).bind fun q2 => (if am_in (x3 + (1 : Int32)) L then ((F_X12_play_82 (xs (x3 + (1 : Int32)).toNatClampNeg) q2.2).bind fun q5 => (if q2.1 = q5.1 then (F_L_law_b1631 L xs k18 x3 q5.2) else (some ((0 : Int32), q5.2)))) else none)) else none)
def F_L_law_b952 (L : Nat) (xs : Nat → Int32) (k18 : Int32 → am_S → Option (Int32 × am_S)) (x3 : Int32) (s : am_S) : Option (Int32 × am_S) := (if am_in (x3 + (1 : Int32)) L then (if am_in (x3 + (2 : Int32)) L then (if am_in (x3 + (3 : Int32)) L then ((F_X11_report_0 (xs (x3 + (1 : Int32)).toNatClampNeg) (xs (x3 + (2 : Int32)).toNatClampNeg) (xs (x3 + (3 : Int32)).toNatClampNeg) s).bind fun q4 => (if am_in (x3 + (1 : Int32)) L then (if am_in (x3 + (2 : Int32)) L then (if am_in (x3 + (3 : Int32)) L then ((F_X12_report_82 (xs (x3 + (1 : Int32)).toNatClampNeg) (xs (x3 + (2 : Int32)).toNatClampNeg) (xs (x3 + (3 : Int32)).toNatClampNeg) q4.2).bind fun q9 => (if q4.1 = q9.1 then (F_L_law_b1631 L xs k18 x3 q9.2) else (some ((0 : Int32), q9.2)))) else none) else none) else none)) else none) else none) else none)
def F_L_law_b995 (L : Nat) (xs : Nat → Int32) (k18 : Int32 → am_S → Option (Int32 × am_S)) (x3 : Int32) (s : am_S) : Option (Int32 × am_S) := ((F_X11_forget_0 s).bind fun q1 => ((F_X12_forget_82 q1.2).bind fun q3 => (if q1.1 = q3.1 then (F_L_law_b1631 L xs k18 x3 q3.2) else (some ((0 : Int32), q3.2)))))
def F_L_law_b1008 (L : Nat) (xs : Nat → Int32) (k18 : Int32 → am_S → Option (Int32 × am_S)) (x3 : Int32) (s : am_S) : Option (Int32 × am_S) := (if am_in (x3 + (1 : Int32)) L then ((F_X11_span_0 (xs (x3 + (1 : Int32)).toNatClampNeg) s).bind fun q2 => (if am_in (x3 + (1 : Int32)) L then ((F_X12_span_82 (xs (x3 + (1 : Int32)).toNatClampNeg) q2.2).bind fun q5 => (if q2.1 = q5.1 then (F_L_law_b1631 L xs k18 x3 q5.2) else (some ((0 : Int32), q5.2)))) else none)) else none)
def F_L_law_b1031 (L : Nat) (xs : Nat → Int32) (k18 : Int32 → am_S → Option (Int32 × am_S)) (x3 : Int32) (s : am_S) : Option (Int32 × am_S) := ((F_X11_liar_0 s).bind fun q1 => ((F_X12_liar_82 q1.2).bind fun q3 => (if q1.1 = q3.1 then (F_L_law_b1631 L xs k18 x3 q3.2) else (some ((0 : Int32), q3.2)))))
def F_L_law_b1044 (L : Nat) (xs : Nat → Int32) (k18 : Int32 → am_S → Option (Int32 × am_S)) (x3 : Int32) (s : am_S) : Option (Int32 × am_S) := (if am_in (x3 + (1 : Int32)) L then ((F_X11_seed_0 (xs (x3 + (1 : Int32)).toNatClampNeg) s).bind fun q2 => (if am_in (x3 + (1 : Int32)) L then ((F_X12_seed_82 (xs (x3 + (1 : Int32)).toNatClampNeg) q2.2).bind fun q5 => (if q2.1 = q5.1 then (F_L_law_b1631 L xs k18 x3 q5.2) else (some ((0 : Int32), q5.2)))) else none)) else none)
def F_L_law_b1067 (L : Nat) (xs : Nat → Int32) (k18 : Int32 → am_S → Option (Int32 × am_S)) (x3 : Int32) (s : am_S) : Option (Int32 × am_S) := ((F_X11_lot_0 s).bind fun q1 => ((F_X12_lot_82 q1.2).bind fun q3 => (if q1.1 = q3.1 then (F_L_law_b1631 L xs k18 x3 q3.2) else (some ((0 : Int32), q3.2)))))
def F_L_law_b1080 (L : Nat) (xs : Nat → Int32) (k18 : Int32 → am_S → Option (Int32 × am_S)) (x3 : Int32) (s : am_S) : Option (Int32 × am_S) := (if am_in (x3 + (1 : Int32)) L then (if am_in (x3 + (2 : Int32)) L then ((F_X11_times_0 (xs (x3 + (1 : Int32)).toNatClampNeg) (xs (x3 + (2 : Int32)).toNatClampNeg) s).bind fun q3 => (if am_in (x3 + (1 : Int32)) L then (if am_in (x3 + (2 : Int32)) L then ((F_X12_times_82 (xs (x3 + (1 : Int32)).toNatClampNeg) (xs (x3 + (2 : Int32)).toNatClampNeg) q3.2).bind fun q7 => (if q3.1 = q7.1 then (F_L_law_b1631 L xs k18 x3 q7.2) else (some ((0 : Int32), q7.2)))) else none) else none)) else none) else none)
def F_L_law_b1113 (L : Nat) (xs : Nat → Int32) (k18 : Int32 → am_S → Option (Int32 × am_S)) (x3 : Int32) (s : am_S) : Option (Int32 × am_S) := (if am_in (x3 + (1 : Int32)) L then ((F_X11_prove_0 (xs (x3 + (1 : Int32)).toNatClampNeg) s).bind fun q2 => (if am_in (x3 + (1 : Int32)) L then ((F_X12_prove_82 (xs (x3 + (1 : Int32)).toNatClampNeg) q2.2).bind fun q5 => (if q2.1 = q5.1 then (F_L_law_b1631 L xs k18 x3 q5.2) else (some ((0 : Int32), q5.2)))) else none)) else none)
def F_L_law_b1136 (L : Nat) (xs : Nat → Int32) (k18 : Int32 → am_S → Option (Int32 × am_S)) (x3 : Int32) (s : am_S) : Option (Int32 × am_S) := (if am_in (x3 + (1 : Int32)) L then (if am_in (x3 + (2 : Int32)) L then ((F_X11_row_0 (xs (x3 + (1 : Int32)).toNatClampNeg) (xs (x3 + (2 : Int32)).toNatClampNeg) s).bind fun q3 => (if am_in (x3 + (1 : Int32)) L then (if am_in (x3 + (2 : Int32)) L then ((F_X12_row_82 (xs (x3 + (1 : Int32)).toNatClampNeg) (xs (x3 + (2 : Int32)).toNatClampNeg) q3.2).bind fun q7 => (if q3.1 = q7.1 then (F_L_law_b1631 L xs k18 x3 q7.2) else (some ((0 : Int32), q7.2)))) else none) else none)) else none) else none)
def F_L_law_b1169 (L : Nat) (xs : Nat → Int32) (k18 : Int32 → am_S → Option (Int32 × am_S)) (x3 : Int32) (s : am_S) : Option (Int32 × am_S) := (if am_in (x3 + (1 : Int32)) L then (if am_in (x3 + (2 : Int32)) L then (if am_in (x3 + (3 : Int32)) L then ((F_X11_alterRow_0 (xs (x3 + (1 : Int32)).toNatClampNeg) (xs (x3 + (2 : Int32)).toNatClampNeg) (xs (x3 + (3 : Int32)).toNatClampNeg) s).bind fun q4 => (if am_in (x3 + (1 : Int32)) L then (if am_in (x3 + (2 : Int32)) L then (if am_in (x3 + (3 : Int32)) L then ((F_X12_alterRow_82 (xs (x3 + (1 : Int32)).toNatClampNeg) (xs (x3 + (2 : Int32)).toNatClampNeg) (xs (x3 + (3 : Int32)).toNatClampNeg) q4.2).bind fun q9 => (if q4.1 = q9.1 then (F_L_law_b1631 L xs k18 x3 q9.2) else (some ((0 : Int32), q9.2)))) else none) else none) else none)) else none) else none) else none)
def F_L_law_b1212 (L : Nat) (xs : Nat → Int32) (k18 : Int32 → am_S → Option (Int32 × am_S)) (x3 : Int32) (s : am_S) : Option (Int32 × am_S) := ((F_X11_judge_0 s).bind fun q1 => ((F_X12_judge_82 q1.2).bind fun q3 => (if q1.1 = q3.1 then (F_L_law_b1631 L xs k18 x3 q3.2) else (some ((0 : Int32), q3.2)))))
def F_L_law_b1225 (L : Nat) (xs : Nat → Int32) (k18 : Int32 → am_S → Option (Int32 × am_S)) (x3 : Int32) (s : am_S) : Option (Int32 × am_S) := (if am_in (x3 + (1 : Int32)) L then (if am_in (x3 + (2 : Int32)) L then (if am_in (x3 + (3 : Int32)) L then ((F_X11_sheet_0 (xs (x3 + (1 : Int32)).toNatClampNeg) (xs (x3 + (2 : Int32)).toNatClampNeg) (xs (x3 + (3 : Int32)).toNatClampNeg) s).bind fun q4 => (if am_in (x3 + (1 : Int32)) L then (if am_in (x3 + (2 : Int32)) L then (if am_in (x3 + (3 : Int32)) L then ((F_X12_sheet_82 (xs (x3 + (1 : Int32)).toNatClampNeg) (xs (x3 + (2 : Int32)).toNatClampNeg) (xs (x3 + (3 : Int32)).toNatClampNeg) q4.2).bind fun q9 => (if q4.1 = q9.1 then (F_L_law_b1631 L xs k18 x3 q9.2) else (some ((0 : Int32), q9.2)))) else none) else none) else none)) else none) else none) else none)
def F_L_law_b1268 (L : Nat) (xs : Nat → Int32) (k18 : Int32 → am_S → Option (Int32 × am_S)) (x3 : Int32) (s : am_S) : Option (Int32 × am_S) := (if am_in (x3 + (1 : Int32)) L then (if am_in (x3 + (2 : Int32)) L then (if am_in (x3 + (3 : Int32)) L then ((F_X11_write_0 (xs (x3 + (1 : Int32)).toNatClampNeg) (xs (x3 + (2 : Int32)).toNatClampNeg) (xs (x3 + (3 : Int32)).toNatClampNeg) s).bind fun q4 => (if am_in (x3 + (1 : Int32)) L then (if am_in (x3 + (2 : Int32)) L then (if am_in (x3 + (3 : Int32)) L then ((F_X12_write_82 (xs (x3 + (1 : Int32)).toNatClampNeg) (xs (x3 + (2 : Int32)).toNatClampNeg) (xs (x3 + (3 : Int32)).toNatClampNeg) q4.2).bind fun q9 => (if q4.1 = q9.1 then (F_L_law_b1631 L xs k18 x3 q9.2) else (some ((0 : Int32), q9.2)))) else none) else none) else none)) else none) else none) else none)
def F_L_law_b1311 (L : Nat) (xs : Nat → Int32) (k18 : Int32 → am_S → Option (Int32 × am_S)) (x3 : Int32) (s : am_S) : Option (Int32 × am_S) := (if am_in (x3 + (1 : Int32)) L then (if am_in (x3 + (2 : Int32)) L then (if am_in (x3 + (3 : Int32)) L then ((F_X11_item_0 (xs (x3 + (1 : Int32)).toNatClampNeg) (xs (x3 + (2 : Int32)).toNatClampNeg) (xs (x3 + (3 : Int32)).toNatClampNeg) s).bind fun q4 => (if am_in (x3 + (1 : Int32)) L then (if am_in (x3 + (2 : Int32)) L then (if am_in (x3 + (3 : Int32)) L then ((F_X12_item_82 (xs (x3 + (1 : Int32)).toNatClampNeg) (xs (x3 + (2 : Int32)).toNatClampNeg) (xs (x3 + (3 : Int32)).toNatClampNeg) q4.2).bind fun q9 => (if q4.1 = q9.1 then (F_L_law_b1631 L xs k18 x3 q9.2) else (some ((0 : Int32), q9.2)))) else none) else none) else none)) else none) else none) else none)
def F_L_law_b1354 (L : Nat) (xs : Nat → Int32) (k18 : Int32 → am_S → Option (Int32 × am_S)) (x3 : Int32) (s : am_S) : Option (Int32 × am_S) := (if am_in (x3 + (1 : Int32)) L then (if am_in (x3 + (2 : Int32)) L then (if am_in (x3 + (3 : Int32)) L then ((F_X11_goAll_0 (xs (x3 + (1 : Int32)).toNatClampNeg) (xs (x3 + (2 : Int32)).toNatClampNeg) (xs (x3 + (3 : Int32)).toNatClampNeg) s).bind fun q4 => (if am_in (x3 + (1 : Int32)) L then (if am_in (x3 + (2 : Int32)) L then (if am_in (x3 + (3 : Int32)) L then ((F_X12_goAll_82 (xs (x3 + (1 : Int32)).toNatClampNeg) (xs (x3 + (2 : Int32)).toNatClampNeg) (xs (x3 + (3 : Int32)).toNatClampNeg) q4.2).bind fun q9 => (if q4.1 = q9.1 then (F_L_law_b1631 L xs k18 x3 q9.2) else (some ((0 : Int32), q9.2)))) else none) else none) else none)) else none) else none) else none)
def F_L_law_b1397 (L : Nat) (xs : Nat → Int32) (k18 : Int32 → am_S → Option (Int32 × am_S)) (x3 : Int32) (s : am_S) : Option (Int32 × am_S) := (if am_in (x3 + (1 : Int32)) L then (if am_in (x3 + (2 : Int32)) L then (if am_in (x3 + (3 : Int32)) L then ((F_X11_wouldBe_0 (xs (x3 + (1 : Int32)).toNatClampNeg) (xs (x3 + (2 : Int32)).toNatClampNeg) (xs (x3 + (3 : Int32)).toNatClampNeg) s).bind fun q4 => (if am_in (x3 + (1 : Int32)) L then (if am_in (x3 + (2 : Int32)) L then (if am_in (x3 + (3 : Int32)) L then ((F_X12_wouldBe_82 (xs (x3 + (1 : Int32)).toNatClampNeg) (xs (x3 + (2 : Int32)).toNatClampNeg) (xs (x3 + (3 : Int32)).toNatClampNeg) q4.2).bind fun q9 => (if q4.1 = q9.1 then (F_L_law_b1631 L xs k18 x3 q9.2) else (some ((0 : Int32), q9.2)))) else none) else none) else none)) else none) else none) else none)
def F_L_law_b1440 (L : Nat) (xs : Nat → Int32) (k18 : Int32 → am_S → Option (Int32 × am_S)) (x3 : Int32) (s : am_S) : Option (Int32 × am_S) := (if am_in (x3 + (1 : Int32)) L then (if am_in (x3 + (2 : Int32)) L then (if am_in (x3 + (3 : Int32)) L then ((F_X11_shelf_0 (xs (x3 + (1 : Int32)).toNatClampNeg) (xs (x3 + (2 : Int32)).toNatClampNeg) (xs (x3 + (3 : Int32)).toNatClampNeg) s).bind fun q4 => (if am_in (x3 + (1 : Int32)) L then (if am_in (x3 + (2 : Int32)) L then (if am_in (x3 + (3 : Int32)) L then ((F_X12_shelf_82 (xs (x3 + (1 : Int32)).toNatClampNeg) (xs (x3 + (2 : Int32)).toNatClampNeg) (xs (x3 + (3 : Int32)).toNatClampNeg) q4.2).bind fun q9 => (if q4.1 = q9.1 then (F_L_law_b1631 L xs k18 x3 q9.2) else (some ((0 : Int32), q9.2)))) else none) else none) else none)) else none) else none) else none)
def F_L_law_b1483 (L : Nat) (xs : Nat → Int32) (k18 : Int32 → am_S → Option (Int32 × am_S)) (x3 : Int32) (s : am_S) : Option (Int32 × am_S) := (if am_in (x3 + (1 : Int32)) L then (if am_in (x3 + (2 : Int32)) L then ((F_X11_taken_0 (xs (x3 + (1 : Int32)).toNatClampNeg) (xs (x3 + (2 : Int32)).toNatClampNeg) s).bind fun q3 => (if am_in (x3 + (1 : Int32)) L then (if am_in (x3 + (2 : Int32)) L then ((F_X12_taken_82 (xs (x3 + (1 : Int32)).toNatClampNeg) (xs (x3 + (2 : Int32)).toNatClampNeg) q3.2).bind fun q7 => (if q3.1 = q7.1 then (F_L_law_b1631 L xs k18 x3 q7.2) else (some ((0 : Int32), q7.2)))) else none) else none)) else none) else none)
def F_L_law_b1516 (L : Nat) (xs : Nat → Int32) (k18 : Int32 → am_S → Option (Int32 × am_S)) (x3 : Int32) (s : am_S) : Option (Int32 × am_S) := (if am_in (x3 + (1 : Int32)) L then (if am_in (x3 + (2 : Int32)) L then (if am_in (x3 + (3 : Int32)) L then ((F_X11_act_0 (xs (x3 + (1 : Int32)).toNatClampNeg) (xs (x3 + (2 : Int32)).toNatClampNeg) (xs (x3 + (3 : Int32)).toNatClampNeg) s).bind fun q4 => (if am_in (x3 + (1 : Int32)) L then (if am_in (x3 + (2 : Int32)) L then (if am_in (x3 + (3 : Int32)) L then ((F_X12_act_82 (xs (x3 + (1 : Int32)).toNatClampNeg) (xs (x3 + (2 : Int32)).toNatClampNeg) (xs (x3 + (3 : Int32)).toNatClampNeg) q4.2).bind fun q9 => (if q4.1 = q9.1 then (F_L_law_b1631 L xs k18 x3 q9.2) else (some ((0 : Int32), q9.2)))) else none) else none) else none)) else none) else none) else none)
def F_L_law_b1559 (L : Nat) (xs : Nat → Int32) (k18 : Int32 → am_S → Option (Int32 × am_S)) (x3 : Int32) (s : am_S) : Option (Int32 × am_S) := (if am_in (x3 + (1 : Int32)) L then ((F_X11_trace_0 (xs (x3 + (1 : Int32)).toNatClampNeg) s).bind fun q2 => (if am_in (x3 + (1 : Int32)) L then ((F_X12_trace_82 (xs (x3 + (1 : Int32)).toNatClampNeg) q2.2).bind fun q5 => (if q2.1 = q5.1 then (F_L_law_b1631 L xs k18 x3 q5.2) else (some ((0 : Int32), q5.2)))) else none)) else none)
def F_L_law_b1582 (L : Nat) (xs : Nat → Int32) (k18 : Int32 → am_S → Option (Int32 × am_S)) (x3 : Int32) (s : am_S) : Option (Int32 × am_S) := (if am_in (x3 + (1 : Int32)) L then ((F_X11_many_0 (xs (x3 + (1 : Int32)).toNatClampNeg) s).bind fun q2 => (if am_in (x3 + (1 : Int32)) L then ((F_X12_many_82 (xs (x3 + (1 : Int32)).toNatClampNeg) q2.2).bind fun q5 => (if q2.1 = q5.1 then (F_L_law_b1631 L xs k18 x3 q5.2) else (some ((0 : Int32), q5.2)))) else none)) else none)
def F_L_law_b1605 (L : Nat) (xs : Nat → Int32) (k18 : Int32 → am_S → Option (Int32 × am_S)) (x3 : Int32) (s : am_S) : Option (Int32 × am_S) := ((F_X11_keep_0 s).bind fun q1 => ((F_X12_keep_82 q1.2).bind fun q3 => (if q1.1 = q3.1 then (F_L_law_b1631 L xs k18 x3 q3.2) else (some ((0 : Int32), q3.2)))))
def F_L_law_b1618 (L : Nat) (xs : Nat → Int32) (k18 : Int32 → am_S → Option (Int32 × am_S)) (x3 : Int32) (s : am_S) : Option (Int32 × am_S) := ((F_X11_again_0 s).bind fun q1 => ((F_X12_again_82 q1.2).bind fun q3 => (if q1.1 = q3.1 then (F_L_law_b1631 L xs k18 x3 q3.2) else (some ((0 : Int32), q3.2)))))
def F_L_law_b18 (L : Nat) (xs : Nat → Int32) : Nat → Int32 → am_S → Option (Int32 × am_S)
  | 0, _, _ => none
  | n + 1, x3, s => (if ((Int32.ofNat L) - (5 : Int32)) < x3 then (some ((1 : Int32), s)) else (if am_in x3 L then (if ((xs x3.toNatClampNeg) &&& (63 : Int32)) = (0 : Int32) then (F_L_law_b244 L xs (F_L_law_b18 L xs n) x3 s) else (if ((xs x3.toNatClampNeg) &&& (63 : Int32)) = (1 : Int32) then (F_L_law_b297 L xs (F_L_law_b18 L xs n) x3 s) else (if ((xs x3.toNatClampNeg) &&& (63 : Int32)) = (2 : Int32) then (F_L_law_b330 L xs (F_L_law_b18 L xs n) x3 s) else (if ((xs x3.toNatClampNeg) &&& (63 : Int32)) = (3 : Int32) then (F_L_law_b373 L xs (F_L_law_b18 L xs n) x3 s) else (if ((xs x3.toNatClampNeg) &&& (63 : Int32)) = (4 : Int32) then (F_L_law_b406 L xs (F_L_law_b18 L xs n) x3 s) else (if ((xs x3.toNatClampNeg) &&& (63 : Int32)) = (5 : Int32) then (F_L_law_b439 L xs (F_L_law_b18 L xs n) x3 s) else (if ((xs x3.toNatClampNeg) &&& (63 : Int32)) = (6 : Int32) then (F_L_law_b462 L xs (F_L_law_b18 L xs n) x3 s) else (if ((xs x3.toNatClampNeg) &&& (63 : Int32)) = (7 : Int32) then (F_L_law_b495 L xs (F_L_law_b18 L xs n) x3 s) else (if ((xs x3.toNatClampNeg) &&& (63 : Int32)) = (8 : Int32) then (F_L_law_b508 L xs (F_L_law_b18 L xs n) x3 s) else (if ((xs x3.toNatClampNeg) &&& (63 : Int32)) = (9 : Int32) then (F_L_law_b531 L xs (F_L_law_b18 L xs n) x3 s) else (if ((xs x3.toNatClampNeg) &&& (63 : Int32)) = (10 : Int32) then (F_L_law_b594 L xs (F_L_law_b18 L xs n) x3 s) else (if ((xs x3.toNatClampNeg) &&& (63 : Int32)) = (11 : Int32) then (F_L_law_b607 L xs (F_L_law_b18 L xs n) x3 s) else (if ((xs x3.toNatClampNeg) &&& (63 : Int32)) = (12 : Int32) then (F_L_law_b620 L xs (F_L_law_b18 L xs n) x3 s) else (if ((xs x3.toNatClampNeg) &&& (63 : Int32)) = (13 : Int32) then (F_L_law_b643 L xs (F_L_law_b18 L xs n) x3 s) else (if ((xs x3.toNatClampNeg) &&& (63 : Int32)) = (14 : Int32) then (F_L_law_b666 L xs (F_L_law_b18 L xs n) x3 s) else (if ((xs x3.toNatClampNeg) &&& (63 : Int32)) = (15 : Int32) then (F_L_law_b679 L xs (F_L_law_b18 L xs n) x3 s) else (if ((xs x3.toNatClampNeg) &&& (63 : Int32)) = (16 : Int32) then (F_L_law_b702 L xs (F_L_law_b18 L xs n) x3 s) else (if ((xs x3.toNatClampNeg) &&& (63 : Int32)) = (17 : Int32) then (F_L_law_b715 L xs (F_L_law_b18 L xs n) x3 s) else (if ((xs x3.toNatClampNeg) &&& (63 : Int32)) = (18 : Int32) then (F_L_law_b738 L xs (F_L_law_b18 L xs n) x3 s) else (if ((xs x3.toNatClampNeg) &&& (63 : Int32)) = (19 : Int32) then (F_L_law_b761 L xs (F_L_law_b18 L xs n) x3 s) else (if ((xs x3.toNatClampNeg) &&& (63 : Int32)) = (20 : Int32) then (F_L_law_b784 L xs (F_L_law_b18 L xs n) x3 s) else (if ((xs x3.toNatClampNeg) &&& (63 : Int32)) = (21 : Int32) then (F_L_law_b817 L xs (F_L_law_b18 L xs n) x3 s) else (if ((xs x3.toNatClampNeg) &&& (63 : Int32)) = (22 : Int32) then (F_L_law_b840 L xs (F_L_law_b18 L xs n) x3 s) else (if ((xs x3.toNatClampNeg) &&& (63 : Int32)) = (23 : Int32) then (F_L_law_b873 L xs (F_L_law_b18 L xs n) x3 s) else (if ((xs x3.toNatClampNeg) &&& (63 : Int32)) = (24 : Int32) then (F_L_law_b906 L xs (F_L_law_b18 L xs n) x3 s) else (if ((xs x3.toNatClampNeg) &&& (63 : Int32)) = (25 : Int32) then (F_L_law_b929 L xs (F_L_law_b18 L xs n) x3 s) else (if ((xs x3.toNatClampNeg) &&& (63 : Int32)) = (26 : Int32) then (F_L_law_b952 L xs (F_L_law_b18 L xs n) x3 s) else (if ((xs x3.toNatClampNeg) &&& (63 : Int32)) = (27 : Int32) then (F_L_law_b995 L xs (F_L_law_b18 L xs n) x3 s) else (if ((xs x3.toNatClampNeg) &&& (63 : Int32)) = (28 : Int32) then (F_L_law_b1008 L xs (F_L_law_b18 L xs n) x3 s) else (if ((xs x3.toNatClampNeg) &&& (63 : Int32)) = (29 : Int32) then (F_L_law_b1031 L xs (F_L_law_b18 L xs n) x3 s) else (if ((xs x3.toNatClampNeg) &&& (63 : Int32)) = (30 : Int32) then (F_L_law_b1044 L xs (F_L_law_b18 L xs n) x3 s) else (if ((xs x3.toNatClampNeg) &&& (63 : Int32)) = (31 : Int32) then (F_L_law_b1067 L xs (F_L_law_b18 L xs n) x3 s) else (if ((xs x3.toNatClampNeg) &&& (63 : Int32)) = (32 : Int32) then (F_L_law_b1080 L xs (F_L_law_b18 L xs n) x3 s) else (if ((xs x3.toNatClampNeg) &&& (63 : Int32)) = (33 : Int32) then (F_L_law_b1113 L xs (F_L_law_b18 L xs n) x3 s) else (if ((xs x3.toNatClampNeg) &&& (63 : Int32)) = (34 : Int32) then (F_L_law_b1136 L xs (F_L_law_b18 L xs n) x3 s) else (if ((xs x3.toNatClampNeg) &&& (63 : Int32)) = (35 : Int32) then (F_L_law_b1169 L xs (F_L_law_b18 L xs n) x3 s) else (if ((xs x3.toNatClampNeg) &&& (63 : Int32)) = (36 : Int32) then (F_L_law_b1212 L xs (F_L_law_b18 L xs n) x3 s) else (if ((xs x3.toNatClampNeg) &&& (63 : Int32)) = (37 : Int32) then (F_L_law_b1225 L xs (F_L_law_b18 L xs n) x3 s) else (if ((xs x3.toNatClampNeg) &&& (63 : Int32)) = (38 : Int32) then (F_L_law_b1268 L xs (F_L_law_b18 L xs n) x3 s) else (if ((xs x3.toNatClampNeg) &&& (63 : Int32)) = (39 : Int32) then (F_L_law_b1311 L xs (F_L_law_b18 L xs n) x3 s) else (if ((xs x3.toNatClampNeg) &&& (63 : Int32)) = (40 : Int32) then (F_L_law_b1354 L xs (F_L_law_b18 L xs n) x3 s) else (if ((xs x3.toNatClampNeg) &&& (63 : Int32)) = (41 : Int32) then (F_L_law_b1397 L xs (F_L_law_b18 L xs n) x3 s) else (if ((xs x3.toNatClampNeg) &&& (63 : Int32)) = (42 : Int32) then (F_L_law_b1440 L xs (F_L_law_b18 L xs n) x3 s) else (if ((xs x3.toNatClampNeg) &&& (63 : Int32)) = (43 : Int32) then (F_L_law_b1483 L xs (F_L_law_b18 L xs n) x3 s) else (if ((xs x3.toNatClampNeg) &&& (63 : Int32)) = (44 : Int32) then (F_L_law_b1516 L xs (F_L_law_b18 L xs n) x3 s) else (if ((xs x3.toNatClampNeg) &&& (63 : Int32)) = (45 : Int32) then (F_L_law_b1559 L xs (F_L_law_b18 L xs n) x3 s) else (if ((xs x3.toNatClampNeg) &&& (63 : Int32)) = (46 : Int32) then (F_L_law_b1582 L xs (F_L_law_b18 L xs n) x3 s) else (if ((xs x3.toNatClampNeg) &&& (63 : Int32)) = (47 : Int32) then (F_L_law_b1605 L xs (F_L_law_b18 L xs n) x3 s) else (if ((xs x3.toNatClampNeg) &&& (63 : Int32)) = (48 : Int32) then (F_L_law_b1618 L xs (F_L_law_b18 L xs n) x3 s) else (F_L_law_b1631 L xs (F_L_law_b18 L xs n) x3 s)))))))))))))))))))))))))))))))))))))))))))))))))) else none))
set_option maxRecDepth 20000 in
theorem T_L_law_b1631 {L : Nat} {xs : Nat → Int32} {RF : Nat → Nat → Option Nat} {d : Nat} (hR : am_RFok RF) (hd : 43 ≤ d) {k18 : Int32 → am_S → Option (Int32 × am_S)} (hk18 : ∀ (x3 : Int32) (s2 : am_S) (r2 : Int32 × am_S), k18 x3 s2 = some r2 → am_Q (some (L, xs)) d mL_law (18, [.ref 1000000, .ref 0, .ref 82, .int x3], [], am_hp RF s2) (.int r2.1, am_hp RF r2.2)) : ∀ (x3 : Int32) (s : am_S) (r : Int32 × am_S), F_L_law_b1631 L xs k18 x3 s = some r → am_Q (some (L, xs)) d mL_law (1631, [.ref 1000000, .ref 0, .ref 82, .int x3], [], am_hp RF s) (.int r.1, am_hp RF r.2) := by
  obtain ⟨e, rfl⟩ : ∃ e, d = e + 1 := ⟨d - 1, by omega⟩
  intro x3 s r h
  unfold F_L_law_b1631 at h
  refine aq_iinc (v := (5 : Int32)) (L1 := [.ref 1000000, .ref 0, .ref 82, .int (x3 + (5 : Int32))]) dL_law_1631 rfl (by decide) rfl ?_
  refine aq_goto (t := 18) dL_law_1634 rfl ?_
  exact hk18 _ _ _ h
set_option maxRecDepth 20000 in
theorem T_L_law_b244 {L : Nat} {xs : Nat → Int32} {RF : Nat → Nat → Option Nat} {d : Nat} (hR : am_RFok RF) (hd : 43 ≤ d) {k18 : Int32 → am_S → Option (Int32 × am_S)} (hk18 : ∀ (x3 : Int32) (s2 : am_S) (r2 : Int32 × am_S), k18 x3 s2 = some r2 → am_Q (some (L, xs)) d mL_law (18, [.ref 1000000, .ref 0, .ref 82, .int x3], [], am_hp RF s2) (.int r2.1, am_hp RF r2.2)) : ∀ (x3 : Int32) (s : am_S) (r : Int32 × am_S), F_L_law_b244 L xs k18 x3 s = some r → am_Q (some (L, xs)) d mL_law (244, [.ref 1000000, .ref 0, .ref 82, .int x3], [], am_hp RF s) (.int r.1, am_hp RF r.2) := by
  obtain ⟨e, rfl⟩ : ∃ e, d = e + 1 := ⟨d - 1, by omega⟩
  intro x3 s r h
  unfold F_L_law_b244 at h
  refine aq_aload_n dL_law_244 rfl ?_
  refine aq_aload_n dL_law_245 rfl ?_
  refine aq_iload_n dL_law_246 rfl ?_
  refine aq_iconst (v := (1 : Int32)) dL_law_247 (by decide) ?_
  refine aq_iadd dL_law_248 ?_
  obtain ⟨hg1, h⟩ := am_guard h
  refine aq_ialdX dL_law_249 hg1 ?_
  refine aq_aload_n dL_law_250 rfl ?_
  refine aq_iload_n dL_law_251 rfl ?_
  refine aq_iconst (v := (2 : Int32)) dL_law_252 (by decide) ?_
  refine aq_iadd dL_law_253 ?_
  obtain ⟨hg2, h⟩ := am_guard h
  refine aq_ialdX dL_law_254 hg2 ?_
  refine aq_aload_n dL_law_255 rfl ?_
  refine aq_iload_n dL_law_256 rfl ?_
  refine aq_iconst (v := (3 : Int32)) dL_law_257 (by decide) ?_
  refine aq_iadd dL_law_258 ?_
  obtain ⟨hg3, h⟩ := am_guard h
  refine aq_ialdX dL_law_259 hg3 ?_
  refine aq_aload_n dL_law_260 rfl ?_
  refine aq_iload_n dL_law_261 rfl ?_
  refine aq_iconst (v := (4 : Int32)) dL_law_262 (by decide) ?_
  refine aq_iadd dL_law_263 ?_
  obtain ⟨hg4, h⟩ := am_guard h
  refine aq_ialdX dL_law_264 hg4 ?_
  obtain ⟨q5, hq6, h⟩ := am_bnd h
  refine aq_virt (a := [.ref 0, .int (xs (x3 + (1 : Int32)).toNatClampNeg), .int (xs (x3 + (2 : Int32)).toNatClampNeg), .int (xs (x3 + (3 : Int32)).toNatClampNeg), .int (xs (x3 + (4 : Int32)).toNatClampNeg)]) (S1 := []) (v1 := .int q5.1) (S2 := [.int q5.1]) dL_law_265 cv_19_13_11 (am_cls_c sh_0 (by decide)) rfl rfl rfl (Nat.le_of_ble_eq_true rfl) (Nat.le_of_ble_eq_true rfl) (T_X11_voice_0 hR (by omega) hq6) rfl ?_
  refine aq_aload_n dL_law_268 rfl ?_
  refine aq_aload_n dL_law_269 rfl ?_
  refine aq_iload_n dL_law_270 rfl ?_
  refine aq_iconst (v := (1 : Int32)) dL_law_271 (by decide) ?_
  refine aq_iadd dL_law_272 ?_
  obtain ⟨hg7, h⟩ := am_guard h
  refine aq_ialdX dL_law_273 hg7 ?_
  refine aq_aload_n dL_law_274 rfl ?_
  refine aq_iload_n dL_law_275 rfl ?_
  refine aq_iconst (v := (2 : Int32)) dL_law_276 (by decide) ?_
  refine aq_iadd dL_law_277 ?_
  obtain ⟨hg8, h⟩ := am_guard h
  refine aq_ialdX dL_law_278 hg8 ?_
  refine aq_aload_n dL_law_279 rfl ?_
  refine aq_iload_n dL_law_280 rfl ?_
  refine aq_iconst (v := (3 : Int32)) dL_law_281 (by decide) ?_
  refine aq_iadd dL_law_282 ?_
  obtain ⟨hg9, h⟩ := am_guard h
  refine aq_ialdX dL_law_283 hg9 ?_
  refine aq_aload_n dL_law_284 rfl ?_
  refine aq_iload_n dL_law_285 rfl ?_
  refine aq_iconst (v := (4 : Int32)) dL_law_286 (by decide) ?_
  refine aq_iadd dL_law_287 ?_
  obtain ⟨hg10, h⟩ := am_guard h
  refine aq_ialdX dL_law_288 hg10 ?_
  obtain ⟨q11, hq12, h⟩ := am_bnd h
  refine aq_virt (a := [.ref 82, .int (xs (x3 + (1 : Int32)).toNatClampNeg), .int (xs (x3 + (2 : Int32)).toNatClampNeg), .int (xs (x3 + (3 : Int32)).toNatClampNeg), .int (xs (x3 + (4 : Int32)).toNatClampNeg)]) (S1 := [.int q5.1]) (v1 := .int q11.1) (S2 := [.int q11.1, .int q5.1]) dL_law_289 cv_19_17_12 (am_cls_c sh_82 (by decide)) rfl rfl rfl (Nat.le_of_ble_eq_true rfl) (Nat.le_of_ble_eq_true rfl) (T_X12_voice_82 hR (by omega) hq12) rfl ?_
  by_cases hc13 : q5.1 = q11.1
  · rw [if_pos hc13] at h
    refine aq_icT (t := 1631) dL_law_292 rfl (decide_eq_true hc13) ?_
    exact T_L_law_b1631 hR (by omega) hk18 _ _ _ h
  · rw [if_neg hc13] at h
    refine aq_icF (t := 1631) dL_law_292 rfl (decide_eq_false hc13) ?_
    refine aq_iconst (v := (0 : Int32)) dL_law_295 (by decide) ?_
    obtain rfl := Option.some.inj h
    exact aq_ireturn dL_law_296 rfl (Or.inr (Or.inl rfl)) rfl
set_option maxRecDepth 20000 in
theorem T_L_law_b297 {L : Nat} {xs : Nat → Int32} {RF : Nat → Nat → Option Nat} {d : Nat} (hR : am_RFok RF) (hd : 43 ≤ d) {k18 : Int32 → am_S → Option (Int32 × am_S)} (hk18 : ∀ (x3 : Int32) (s2 : am_S) (r2 : Int32 × am_S), k18 x3 s2 = some r2 → am_Q (some (L, xs)) d mL_law (18, [.ref 1000000, .ref 0, .ref 82, .int x3], [], am_hp RF s2) (.int r2.1, am_hp RF r2.2)) : ∀ (x3 : Int32) (s : am_S) (r : Int32 × am_S), F_L_law_b297 L xs k18 x3 s = some r → am_Q (some (L, xs)) d mL_law (297, [.ref 1000000, .ref 0, .ref 82, .int x3], [], am_hp RF s) (.int r.1, am_hp RF r.2) := by
  obtain ⟨e, rfl⟩ : ∃ e, d = e + 1 := ⟨d - 1, by omega⟩
  intro x3 s r h
  unfold F_L_law_b297 at h
  refine aq_aload_n dL_law_297 rfl ?_
  refine aq_aload_n dL_law_298 rfl ?_
  refine aq_iload_n dL_law_299 rfl ?_
  refine aq_iconst (v := (1 : Int32)) dL_law_300 (by decide) ?_
  refine aq_iadd dL_law_301 ?_
  obtain ⟨hg1, h⟩ := am_guard h
  refine aq_ialdX dL_law_302 hg1 ?_
  refine aq_aload_n dL_law_303 rfl ?_
  refine aq_iload_n dL_law_304 rfl ?_
  refine aq_iconst (v := (2 : Int32)) dL_law_305 (by decide) ?_
  refine aq_iadd dL_law_306 ?_
  obtain ⟨hg2, h⟩ := am_guard h
  refine aq_ialdX dL_law_307 hg2 ?_
  obtain ⟨q3, hq4, h⟩ := am_bnd h
  refine aq_virt (a := [.ref 0, .int (xs (x3 + (1 : Int32)).toNatClampNeg), .int (xs (x3 + (2 : Int32)).toNatClampNeg)]) (S1 := []) (v1 := .int q3.1) (S2 := [.int q3.1]) dL_law_308 cv_19_18_11 (am_cls_c sh_0 (by decide)) rfl rfl rfl (Nat.le_of_ble_eq_true rfl) (Nat.le_of_ble_eq_true rfl) (T_X11_voiceOf_0 hR (by omega) hq4) rfl ?_
  refine aq_aload_n dL_law_311 rfl ?_
  refine aq_aload_n dL_law_312 rfl ?_
  refine aq_iload_n dL_law_313 rfl ?_
  refine aq_iconst (v := (1 : Int32)) dL_law_314 (by decide) ?_
  refine aq_iadd dL_law_315 ?_
  obtain ⟨hg5, h⟩ := am_guard h
  refine aq_ialdX dL_law_316 hg5 ?_
  refine aq_aload_n dL_law_317 rfl ?_
  refine aq_iload_n dL_law_318 rfl ?_
  refine aq_iconst (v := (2 : Int32)) dL_law_319 (by decide) ?_
  refine aq_iadd dL_law_320 ?_
  obtain ⟨hg6, h⟩ := am_guard h
  refine aq_ialdX dL_law_321 hg6 ?_
  obtain ⟨q7, hq8, h⟩ := am_bnd h
  refine aq_virt (a := [.ref 82, .int (xs (x3 + (1 : Int32)).toNatClampNeg), .int (xs (x3 + (2 : Int32)).toNatClampNeg)]) (S1 := [.int q3.1]) (v1 := .int q7.1) (S2 := [.int q7.1, .int q3.1]) dL_law_322 cv_19_22_12 (am_cls_c sh_82 (by decide)) rfl rfl rfl (Nat.le_of_ble_eq_true rfl) (Nat.le_of_ble_eq_true rfl) (T_X12_voiceOf_82 hR (by omega) hq8) rfl ?_
  by_cases hc9 : q3.1 = q7.1
  · rw [if_pos hc9] at h
    refine aq_icT (t := 1631) dL_law_325 rfl (decide_eq_true hc9) ?_
    exact T_L_law_b1631 hR (by omega) hk18 _ _ _ h
  · rw [if_neg hc9] at h
    refine aq_icF (t := 1631) dL_law_325 rfl (decide_eq_false hc9) ?_
    refine aq_iconst (v := (0 : Int32)) dL_law_328 (by decide) ?_
    obtain rfl := Option.some.inj h
    exact aq_ireturn dL_law_329 rfl (Or.inr (Or.inl rfl)) rfl
set_option maxRecDepth 20000 in
theorem T_L_law_b330 {L : Nat} {xs : Nat → Int32} {RF : Nat → Nat → Option Nat} {d : Nat} (hR : am_RFok RF) (hd : 43 ≤ d) {k18 : Int32 → am_S → Option (Int32 × am_S)} (hk18 : ∀ (x3 : Int32) (s2 : am_S) (r2 : Int32 × am_S), k18 x3 s2 = some r2 → am_Q (some (L, xs)) d mL_law (18, [.ref 1000000, .ref 0, .ref 82, .int x3], [], am_hp RF s2) (.int r2.1, am_hp RF r2.2)) : ∀ (x3 : Int32) (s : am_S) (r : Int32 × am_S), F_L_law_b330 L xs k18 x3 s = some r → am_Q (some (L, xs)) d mL_law (330, [.ref 1000000, .ref 0, .ref 82, .int x3], [], am_hp RF s) (.int r.1, am_hp RF r.2) := by
  obtain ⟨e, rfl⟩ : ∃ e, d = e + 1 := ⟨d - 1, by omega⟩
  intro x3 s r h
  unfold F_L_law_b330 at h
  refine aq_aload_n dL_law_330 rfl ?_
  refine aq_aload_n dL_law_331 rfl ?_
  refine aq_iload_n dL_law_332 rfl ?_
  refine aq_iconst (v := (1 : Int32)) dL_law_333 (by decide) ?_
  refine aq_iadd dL_law_334 ?_
  obtain ⟨hg1, h⟩ := am_guard h
  refine aq_ialdX dL_law_335 hg1 ?_
  refine aq_aload_n dL_law_336 rfl ?_
  refine aq_iload_n dL_law_337 rfl ?_
  refine aq_iconst (v := (2 : Int32)) dL_law_338 (by decide) ?_
  refine aq_iadd dL_law_339 ?_
  obtain ⟨hg2, h⟩ := am_guard h
  refine aq_ialdX dL_law_340 hg2 ?_
  refine aq_aload_n dL_law_341 rfl ?_
  refine aq_iload_n dL_law_342 rfl ?_
  refine aq_iconst (v := (3 : Int32)) dL_law_343 (by decide) ?_
  refine aq_iadd dL_law_344 ?_
  obtain ⟨hg3, h⟩ := am_guard h
  refine aq_ialdX dL_law_345 hg3 ?_
  obtain ⟨q4, hq5, h⟩ := am_bnd h
  refine aq_virt (a := [.ref 0, .int (xs (x3 + (1 : Int32)).toNatClampNeg), .int (xs (x3 + (2 : Int32)).toNatClampNeg), .int (xs (x3 + (3 : Int32)).toNatClampNeg)]) (S1 := []) (v1 := .int q4.1) (S2 := [.int q4.1]) dL_law_346 cv_19_23_11 (am_cls_c sh_0 (by decide)) rfl rfl rfl (Nat.le_of_ble_eq_true rfl) (Nat.le_of_ble_eq_true rfl) (T_X11_change_0 hR (by omega) hq5) rfl ?_
  refine aq_aload_n dL_law_349 rfl ?_
  refine aq_aload_n dL_law_350 rfl ?_
  refine aq_iload_n dL_law_351 rfl ?_
  refine aq_iconst (v := (1 : Int32)) dL_law_352 (by decide) ?_
  refine aq_iadd dL_law_353 ?_
  obtain ⟨hg6, h⟩ := am_guard h
  refine aq_ialdX dL_law_354 hg6 ?_
  refine aq_aload_n dL_law_355 rfl ?_
  refine aq_iload_n dL_law_356 rfl ?_
  refine aq_iconst (v := (2 : Int32)) dL_law_357 (by decide) ?_
  refine aq_iadd dL_law_358 ?_
  obtain ⟨hg7, h⟩ := am_guard h
  refine aq_ialdX dL_law_359 hg7 ?_
  refine aq_aload_n dL_law_360 rfl ?_
  refine aq_iload_n dL_law_361 rfl ?_
  refine aq_iconst (v := (3 : Int32)) dL_law_362 (by decide) ?_
  refine aq_iadd dL_law_363 ?_
  obtain ⟨hg8, h⟩ := am_guard h
  refine aq_ialdX dL_law_364 hg8 ?_
  obtain ⟨q9, hq10, h⟩ := am_bnd h
  refine aq_virt (a := [.ref 82, .int (xs (x3 + (1 : Int32)).toNatClampNeg), .int (xs (x3 + (2 : Int32)).toNatClampNeg), .int (xs (x3 + (3 : Int32)).toNatClampNeg)]) (S1 := [.int q4.1]) (v1 := .int q9.1) (S2 := [.int q9.1, .int q4.1]) dL_law_365 cv_19_27_12 (am_cls_c sh_82 (by decide)) rfl rfl rfl (Nat.le_of_ble_eq_true rfl) (Nat.le_of_ble_eq_true rfl) (T_X12_change_82 hR (by omega) hq10) rfl ?_
  by_cases hc11 : q4.1 = q9.1
  · rw [if_pos hc11] at h
    refine aq_icT (t := 1631) dL_law_368 rfl (decide_eq_true hc11) ?_
    exact T_L_law_b1631 hR (by omega) hk18 _ _ _ h
  · rw [if_neg hc11] at h
    refine aq_icF (t := 1631) dL_law_368 rfl (decide_eq_false hc11) ?_
    refine aq_iconst (v := (0 : Int32)) dL_law_371 (by decide) ?_
    obtain rfl := Option.some.inj h
    exact aq_ireturn dL_law_372 rfl (Or.inr (Or.inl rfl)) rfl
set_option maxRecDepth 20000 in
theorem T_L_law_b373 {L : Nat} {xs : Nat → Int32} {RF : Nat → Nat → Option Nat} {d : Nat} (hR : am_RFok RF) (hd : 43 ≤ d) {k18 : Int32 → am_S → Option (Int32 × am_S)} (hk18 : ∀ (x3 : Int32) (s2 : am_S) (r2 : Int32 × am_S), k18 x3 s2 = some r2 → am_Q (some (L, xs)) d mL_law (18, [.ref 1000000, .ref 0, .ref 82, .int x3], [], am_hp RF s2) (.int r2.1, am_hp RF r2.2)) : ∀ (x3 : Int32) (s : am_S) (r : Int32 × am_S), F_L_law_b373 L xs k18 x3 s = some r → am_Q (some (L, xs)) d mL_law (373, [.ref 1000000, .ref 0, .ref 82, .int x3], [], am_hp RF s) (.int r.1, am_hp RF r.2) := by
  obtain ⟨e, rfl⟩ : ∃ e, d = e + 1 := ⟨d - 1, by omega⟩
  intro x3 s r h
  unfold F_L_law_b373 at h
  refine aq_aload_n dL_law_373 rfl ?_
  refine aq_aload_n dL_law_374 rfl ?_
  refine aq_iload_n dL_law_375 rfl ?_
  refine aq_iconst (v := (1 : Int32)) dL_law_376 (by decide) ?_
  refine aq_iadd dL_law_377 ?_
  obtain ⟨hg1, h⟩ := am_guard h
  refine aq_ialdX dL_law_378 hg1 ?_
  refine aq_aload_n dL_law_379 rfl ?_
  refine aq_iload_n dL_law_380 rfl ?_
  refine aq_iconst (v := (2 : Int32)) dL_law_381 (by decide) ?_
  refine aq_iadd dL_law_382 ?_
  obtain ⟨hg2, h⟩ := am_guard h
  refine aq_ialdX dL_law_383 hg2 ?_
  obtain ⟨q3, hq4, h⟩ := am_bnd h
  refine aq_virt (a := [.ref 0, .int (xs (x3 + (1 : Int32)).toNatClampNeg), .int (xs (x3 + (2 : Int32)).toNatClampNeg)]) (S1 := []) (v1 := .int q3.1) (S2 := [.int q3.1]) dL_law_384 cv_19_28_11 (am_cls_c sh_0 (by decide)) rfl rfl rfl (Nat.le_of_ble_eq_true rfl) (Nat.le_of_ble_eq_true rfl) (T_X11_remake_0 hR (by omega) hq4) rfl ?_
  refine aq_aload_n dL_law_387 rfl ?_
  refine aq_aload_n dL_law_388 rfl ?_
  refine aq_iload_n dL_law_389 rfl ?_
  refine aq_iconst (v := (1 : Int32)) dL_law_390 (by decide) ?_
  refine aq_iadd dL_law_391 ?_
  obtain ⟨hg5, h⟩ := am_guard h
  refine aq_ialdX dL_law_392 hg5 ?_
  refine aq_aload_n dL_law_393 rfl ?_
  refine aq_iload_n dL_law_394 rfl ?_
  refine aq_iconst (v := (2 : Int32)) dL_law_395 (by decide) ?_
  refine aq_iadd dL_law_396 ?_
  obtain ⟨hg6, h⟩ := am_guard h
  refine aq_ialdX dL_law_397 hg6 ?_
  obtain ⟨q7, hq8, h⟩ := am_bnd h
  refine aq_virt (a := [.ref 82, .int (xs (x3 + (1 : Int32)).toNatClampNeg), .int (xs (x3 + (2 : Int32)).toNatClampNeg)]) (S1 := [.int q3.1]) (v1 := .int q7.1) (S2 := [.int q7.1, .int q3.1]) dL_law_398 cv_19_31_12 (am_cls_c sh_82 (by decide)) rfl rfl rfl (Nat.le_of_ble_eq_true rfl) (Nat.le_of_ble_eq_true rfl) (T_X12_remake_82 hR (by omega) hq8) rfl ?_
  by_cases hc9 : q3.1 = q7.1
  · rw [if_pos hc9] at h
    refine aq_icT (t := 1631) dL_law_401 rfl (decide_eq_true hc9) ?_
    exact T_L_law_b1631 hR (by omega) hk18 _ _ _ h
  · rw [if_neg hc9] at h
    refine aq_icF (t := 1631) dL_law_401 rfl (decide_eq_false hc9) ?_
    refine aq_iconst (v := (0 : Int32)) dL_law_404 (by decide) ?_
    obtain rfl := Option.some.inj h
    exact aq_ireturn dL_law_405 rfl (Or.inr (Or.inl rfl)) rfl
set_option maxRecDepth 20000 in
theorem T_L_law_b406 {L : Nat} {xs : Nat → Int32} {RF : Nat → Nat → Option Nat} {d : Nat} (hR : am_RFok RF) (hd : 43 ≤ d) {k18 : Int32 → am_S → Option (Int32 × am_S)} (hk18 : ∀ (x3 : Int32) (s2 : am_S) (r2 : Int32 × am_S), k18 x3 s2 = some r2 → am_Q (some (L, xs)) d mL_law (18, [.ref 1000000, .ref 0, .ref 82, .int x3], [], am_hp RF s2) (.int r2.1, am_hp RF r2.2)) : ∀ (x3 : Int32) (s : am_S) (r : Int32 × am_S), F_L_law_b406 L xs k18 x3 s = some r → am_Q (some (L, xs)) d mL_law (406, [.ref 1000000, .ref 0, .ref 82, .int x3], [], am_hp RF s) (.int r.1, am_hp RF r.2) := by
  obtain ⟨e, rfl⟩ : ∃ e, d = e + 1 := ⟨d - 1, by omega⟩
  intro x3 s r h
  unfold F_L_law_b406 at h
  refine aq_aload_n dL_law_406 rfl ?_
  refine aq_aload_n dL_law_407 rfl ?_
  refine aq_iload_n dL_law_408 rfl ?_
  refine aq_iconst (v := (1 : Int32)) dL_law_409 (by decide) ?_
  refine aq_iadd dL_law_410 ?_
  obtain ⟨hg1, h⟩ := am_guard h
  refine aq_ialdX dL_law_411 hg1 ?_
  refine aq_aload_n dL_law_412 rfl ?_
  refine aq_iload_n dL_law_413 rfl ?_
  refine aq_iconst (v := (2 : Int32)) dL_law_414 (by decide) ?_
  refine aq_iadd dL_law_415 ?_
  obtain ⟨hg2, h⟩ := am_guard h
  refine aq_ialdX dL_law_416 hg2 ?_
  obtain ⟨q3, hq4, h⟩ := am_bnd h
  refine aq_virt (a := [.ref 0, .int (xs (x3 + (1 : Int32)).toNatClampNeg), .int (xs (x3 + (2 : Int32)).toNatClampNeg)]) (S1 := []) (v1 := .int q3.1) (S2 := [.int q3.1]) dL_law_417 cv_19_32_11 (am_cls_c sh_0 (by decide)) rfl rfl rfl (Nat.le_of_ble_eq_true rfl) (Nat.le_of_ble_eq_true rfl) (T_X11_tide_0 hR (by omega) hq4) rfl ?_
  refine aq_aload_n dL_law_420 rfl ?_
  refine aq_aload_n dL_law_421 rfl ?_
  refine aq_iload_n dL_law_422 rfl ?_
  refine aq_iconst (v := (1 : Int32)) dL_law_423 (by decide) ?_
  refine aq_iadd dL_law_424 ?_
  obtain ⟨hg5, h⟩ := am_guard h
  refine aq_ialdX dL_law_425 hg5 ?_
  refine aq_aload_n dL_law_426 rfl ?_
  refine aq_iload_n dL_law_427 rfl ?_
  refine aq_iconst (v := (2 : Int32)) dL_law_428 (by decide) ?_
  refine aq_iadd dL_law_429 ?_
  obtain ⟨hg6, h⟩ := am_guard h
  refine aq_ialdX dL_law_430 hg6 ?_
  obtain ⟨q7, hq8, h⟩ := am_bnd h
  refine aq_virt (a := [.ref 82, .int (xs (x3 + (1 : Int32)).toNatClampNeg), .int (xs (x3 + (2 : Int32)).toNatClampNeg)]) (S1 := [.int q3.1]) (v1 := .int q7.1) (S2 := [.int q7.1, .int q3.1]) dL_law_431 cv_19_35_12 (am_cls_c sh_82 (by decide)) rfl rfl rfl (Nat.le_of_ble_eq_true rfl) (Nat.le_of_ble_eq_true rfl) (T_X12_tide_82 hR (by omega) hq8) rfl ?_
  by_cases hc9 : q3.1 = q7.1
  · rw [if_pos hc9] at h
    refine aq_icT (t := 1631) dL_law_434 rfl (decide_eq_true hc9) ?_
    exact T_L_law_b1631 hR (by omega) hk18 _ _ _ h
  · rw [if_neg hc9] at h
    refine aq_icF (t := 1631) dL_law_434 rfl (decide_eq_false hc9) ?_
    refine aq_iconst (v := (0 : Int32)) dL_law_437 (by decide) ?_
    obtain rfl := Option.some.inj h
    exact aq_ireturn dL_law_438 rfl (Or.inr (Or.inl rfl)) rfl
set_option maxRecDepth 20000 in
theorem T_L_law_b439 {L : Nat} {xs : Nat → Int32} {RF : Nat → Nat → Option Nat} {d : Nat} (hR : am_RFok RF) (hd : 43 ≤ d) {k18 : Int32 → am_S → Option (Int32 × am_S)} (hk18 : ∀ (x3 : Int32) (s2 : am_S) (r2 : Int32 × am_S), k18 x3 s2 = some r2 → am_Q (some (L, xs)) d mL_law (18, [.ref 1000000, .ref 0, .ref 82, .int x3], [], am_hp RF s2) (.int r2.1, am_hp RF r2.2)) : ∀ (x3 : Int32) (s : am_S) (r : Int32 × am_S), F_L_law_b439 L xs k18 x3 s = some r → am_Q (some (L, xs)) d mL_law (439, [.ref 1000000, .ref 0, .ref 82, .int x3], [], am_hp RF s) (.int r.1, am_hp RF r.2) := by
  obtain ⟨e, rfl⟩ : ∃ e, d = e + 1 := ⟨d - 1, by omega⟩
  intro x3 s r h
  unfold F_L_law_b439 at h
  refine aq_aload_n dL_law_439 rfl ?_
  refine aq_aload_n dL_law_440 rfl ?_
  refine aq_iload_n dL_law_441 rfl ?_
  refine aq_iconst (v := (1 : Int32)) dL_law_442 (by decide) ?_
  refine aq_iadd dL_law_443 ?_
  obtain ⟨hg1, h⟩ := am_guard h
  refine aq_ialdX dL_law_444 hg1 ?_
  obtain ⟨q2, hq3, h⟩ := am_bnd h
  refine aq_virt (a := [.ref 0, .int (xs (x3 + (1 : Int32)).toNatClampNeg)]) (S1 := []) (v1 := .int q2.1) (S2 := [.int q2.1]) dL_law_445 cv_19_36_11 (am_cls_c sh_0 (by decide)) rfl rfl rfl (Nat.le_of_ble_eq_true rfl) (Nat.le_of_ble_eq_true rfl) (T_X11_tideOf_0 hR (by omega) hq3) rfl ?_
  refine aq_aload_n dL_law_448 rfl ?_
  refine aq_aload_n dL_law_449 rfl ?_
  refine aq_iload_n dL_law_450 rfl ?_
  refine aq_iconst (v := (1 : Int32)) dL_law_451 (by decide) ?_
  refine aq_iadd dL_law_452 ?_
  obtain ⟨hg4, h⟩ := am_guard h
  refine aq_ialdX dL_law_453 hg4 ?_
  obtain ⟨q5, hq6, h⟩ := am_bnd h
  refine aq_virt (a := [.ref 82, .int (xs (x3 + (1 : Int32)).toNatClampNeg)]) (S1 := [.int q2.1]) (v1 := .int q5.1) (S2 := [.int q5.1, .int q2.1]) dL_law_454 cv_19_40_12 (am_cls_c sh_82 (by decide)) rfl rfl rfl (Nat.le_of_ble_eq_true rfl) (Nat.le_of_ble_eq_true rfl) (T_X12_tideOf_82 hR (by omega) hq6) rfl ?_
  by_cases hc7 : q2.1 = q5.1
  · rw [if_pos hc7] at h
    refine aq_icT (t := 1631) dL_law_457 rfl (decide_eq_true hc7) ?_
    exact T_L_law_b1631 hR (by omega) hk18 _ _ _ h
  · rw [if_neg hc7] at h
    refine aq_icF (t := 1631) dL_law_457 rfl (decide_eq_false hc7) ?_
    refine aq_iconst (v := (0 : Int32)) dL_law_460 (by decide) ?_
    obtain rfl := Option.some.inj h
    exact aq_ireturn dL_law_461 rfl (Or.inr (Or.inl rfl)) rfl
set_option maxRecDepth 20000 in
theorem T_L_law_b462 {L : Nat} {xs : Nat → Int32} {RF : Nat → Nat → Option Nat} {d : Nat} (hR : am_RFok RF) (hd : 43 ≤ d) {k18 : Int32 → am_S → Option (Int32 × am_S)} (hk18 : ∀ (x3 : Int32) (s2 : am_S) (r2 : Int32 × am_S), k18 x3 s2 = some r2 → am_Q (some (L, xs)) d mL_law (18, [.ref 1000000, .ref 0, .ref 82, .int x3], [], am_hp RF s2) (.int r2.1, am_hp RF r2.2)) : ∀ (x3 : Int32) (s : am_S) (r : Int32 × am_S), F_L_law_b462 L xs k18 x3 s = some r → am_Q (some (L, xs)) d mL_law (462, [.ref 1000000, .ref 0, .ref 82, .int x3], [], am_hp RF s) (.int r.1, am_hp RF r.2) := by
  obtain ⟨e, rfl⟩ : ∃ e, d = e + 1 := ⟨d - 1, by omega⟩
  intro x3 s r h
  unfold F_L_law_b462 at h
  refine aq_aload_n dL_law_462 rfl ?_
  refine aq_aload_n dL_law_463 rfl ?_
  refine aq_iload_n dL_law_464 rfl ?_
  refine aq_iconst (v := (1 : Int32)) dL_law_465 (by decide) ?_
  refine aq_iadd dL_law_466 ?_
  obtain ⟨hg1, h⟩ := am_guard h
  refine aq_ialdX dL_law_467 hg1 ?_
  refine aq_aload_n dL_law_468 rfl ?_
  refine aq_iload_n dL_law_469 rfl ?_
  refine aq_iconst (v := (2 : Int32)) dL_law_470 (by decide) ?_
  refine aq_iadd dL_law_471 ?_
  obtain ⟨hg2, h⟩ := am_guard h
  refine aq_ialdX dL_law_472 hg2 ?_
  obtain ⟨q3, hq4, h⟩ := am_bnd h
  refine aq_virt (a := [.ref 0, .int (xs (x3 + (1 : Int32)).toNatClampNeg), .int (xs (x3 + (2 : Int32)).toNatClampNeg)]) (S1 := []) (v1 := .int q3.1) (S2 := [.int q3.1]) dL_law_473 cv_19_41_11 (am_cls_c sh_0 (by decide)) rfl rfl rfl (Nat.le_of_ble_eq_true rfl) (Nat.le_of_ble_eq_true rfl) (T_X11_set_0 hR (by omega) hq4) rfl ?_
  refine aq_aload_n dL_law_476 rfl ?_
  refine aq_aload_n dL_law_477 rfl ?_
  refine aq_iload_n dL_law_478 rfl ?_
  refine aq_iconst (v := (1 : Int32)) dL_law_479 (by decide) ?_
  refine aq_iadd dL_law_480 ?_
  obtain ⟨hg5, h⟩ := am_guard h
  refine aq_ialdX dL_law_481 hg5 ?_
  refine aq_aload_n dL_law_482 rfl ?_
  refine aq_iload_n dL_law_483 rfl ?_
  refine aq_iconst (v := (2 : Int32)) dL_law_484 (by decide) ?_
  refine aq_iadd dL_law_485 ?_
  obtain ⟨hg6, h⟩ := am_guard h
  refine aq_ialdX dL_law_486 hg6 ?_
  obtain ⟨q7, hq8, h⟩ := am_bnd h
  refine aq_virt (a := [.ref 82, .int (xs (x3 + (1 : Int32)).toNatClampNeg), .int (xs (x3 + (2 : Int32)).toNatClampNeg)]) (S1 := [.int q3.1]) (v1 := .int q7.1) (S2 := [.int q7.1, .int q3.1]) dL_law_487 cv_19_44_12 (am_cls_c sh_82 (by decide)) rfl rfl rfl (Nat.le_of_ble_eq_true rfl) (Nat.le_of_ble_eq_true rfl) (T_X12_set_82 hR (by omega) hq8) rfl ?_
  by_cases hc9 : q3.1 = q7.1
  · rw [if_pos hc9] at h
    refine aq_icT (t := 1631) dL_law_490 rfl (decide_eq_true hc9) ?_
    exact T_L_law_b1631 hR (by omega) hk18 _ _ _ h
  · rw [if_neg hc9] at h
    refine aq_icF (t := 1631) dL_law_490 rfl (decide_eq_false hc9) ?_
    refine aq_iconst (v := (0 : Int32)) dL_law_493 (by decide) ?_
    obtain rfl := Option.some.inj h
    exact aq_ireturn dL_law_494 rfl (Or.inr (Or.inl rfl)) rfl
set_option maxRecDepth 20000 in
theorem T_L_law_b495 {L : Nat} {xs : Nat → Int32} {RF : Nat → Nat → Option Nat} {d : Nat} (hR : am_RFok RF) (hd : 43 ≤ d) {k18 : Int32 → am_S → Option (Int32 × am_S)} (hk18 : ∀ (x3 : Int32) (s2 : am_S) (r2 : Int32 × am_S), k18 x3 s2 = some r2 → am_Q (some (L, xs)) d mL_law (18, [.ref 1000000, .ref 0, .ref 82, .int x3], [], am_hp RF s2) (.int r2.1, am_hp RF r2.2)) : ∀ (x3 : Int32) (s : am_S) (r : Int32 × am_S), F_L_law_b495 L xs k18 x3 s = some r → am_Q (some (L, xs)) d mL_law (495, [.ref 1000000, .ref 0, .ref 82, .int x3], [], am_hp RF s) (.int r.1, am_hp RF r.2) := by
  obtain ⟨e, rfl⟩ : ∃ e, d = e + 1 := ⟨d - 1, by omega⟩
  intro x3 s r h
  unfold F_L_law_b495 at h
  refine aq_aload_n dL_law_495 rfl ?_
  obtain ⟨q1, hq2, h⟩ := am_bnd h
  refine aq_virt (a := [.ref 0]) (S1 := []) (v1 := .int q1.1) (S2 := [.int q1.1]) dL_law_496 cv_19_45_11 (am_cls_c sh_0 (by decide)) rfl rfl rfl (Nat.le_of_ble_eq_true rfl) (Nat.le_of_ble_eq_true rfl) (T_X11_anew_0 hR (by omega) hq2) rfl ?_
  refine aq_aload_n dL_law_499 rfl ?_
  obtain ⟨q3, hq4, h⟩ := am_bnd h
  refine aq_virt (a := [.ref 82]) (S1 := [.int q1.1]) (v1 := .int q3.1) (S2 := [.int q3.1, .int q1.1]) dL_law_500 cv_19_49_12 (am_cls_c sh_82 (by decide)) rfl rfl rfl (Nat.le_of_ble_eq_true rfl) (Nat.le_of_ble_eq_true rfl) (T_X12_anew_82 hR (by omega) hq4) rfl ?_
  by_cases hc5 : q1.1 = q3.1
  · rw [if_pos hc5] at h
    refine aq_icT (t := 1631) dL_law_503 rfl (decide_eq_true hc5) ?_
    exact T_L_law_b1631 hR (by omega) hk18 _ _ _ h
  · rw [if_neg hc5] at h
    refine aq_icF (t := 1631) dL_law_503 rfl (decide_eq_false hc5) ?_
    refine aq_iconst (v := (0 : Int32)) dL_law_506 (by decide) ?_
    obtain rfl := Option.some.inj h
    exact aq_ireturn dL_law_507 rfl (Or.inr (Or.inl rfl)) rfl
set_option maxRecDepth 20000 in
theorem T_L_law_b508 {L : Nat} {xs : Nat → Int32} {RF : Nat → Nat → Option Nat} {d : Nat} (hR : am_RFok RF) (hd : 43 ≤ d) {k18 : Int32 → am_S → Option (Int32 × am_S)} (hk18 : ∀ (x3 : Int32) (s2 : am_S) (r2 : Int32 × am_S), k18 x3 s2 = some r2 → am_Q (some (L, xs)) d mL_law (18, [.ref 1000000, .ref 0, .ref 82, .int x3], [], am_hp RF s2) (.int r2.1, am_hp RF r2.2)) : ∀ (x3 : Int32) (s : am_S) (r : Int32 × am_S), F_L_law_b508 L xs k18 x3 s = some r → am_Q (some (L, xs)) d mL_law (508, [.ref 1000000, .ref 0, .ref 82, .int x3], [], am_hp RF s) (.int r.1, am_hp RF r.2) := by
  obtain ⟨e, rfl⟩ : ∃ e, d = e + 1 := ⟨d - 1, by omega⟩
  intro x3 s r h
  unfold F_L_law_b508 at h
  refine aq_aload_n dL_law_508 rfl ?_
  refine aq_aload_n dL_law_509 rfl ?_
  refine aq_iload_n dL_law_510 rfl ?_
  refine aq_iconst (v := (1 : Int32)) dL_law_511 (by decide) ?_
  refine aq_iadd dL_law_512 ?_
  obtain ⟨hg1, h⟩ := am_guard h
  refine aq_ialdX dL_law_513 hg1 ?_
  obtain ⟨q2, hq3, h⟩ := am_bnd h
  refine aq_virt (a := [.ref 0, .int (xs (x3 + (1 : Int32)).toNatClampNeg)]) (S1 := []) (v1 := .int q2.1) (S2 := [.int q2.1]) dL_law_514 cv_19_50_11 (am_cls_c sh_0 (by decide)) rfl rfl rfl (Nat.le_of_ble_eq_true rfl) (Nat.le_of_ble_eq_true rfl) (T_X11_state_0 hR (by omega) hq3) rfl ?_
  refine aq_aload_n dL_law_517 rfl ?_
  refine aq_aload_n dL_law_518 rfl ?_
  refine aq_iload_n dL_law_519 rfl ?_
  refine aq_iconst (v := (1 : Int32)) dL_law_520 (by decide) ?_
  refine aq_iadd dL_law_521 ?_
  obtain ⟨hg4, h⟩ := am_guard h
  refine aq_ialdX dL_law_522 hg4 ?_
  obtain ⟨q5, hq6, h⟩ := am_bnd h
  refine aq_virt (a := [.ref 82, .int (xs (x3 + (1 : Int32)).toNatClampNeg)]) (S1 := [.int q2.1]) (v1 := .int q5.1) (S2 := [.int q5.1, .int q2.1]) dL_law_523 cv_19_53_12 (am_cls_c sh_82 (by decide)) rfl rfl rfl (Nat.le_of_ble_eq_true rfl) (Nat.le_of_ble_eq_true rfl) (T_X12_state_82 hR (by omega) hq6) rfl ?_
  by_cases hc7 : q2.1 = q5.1
  · rw [if_pos hc7] at h
    refine aq_icT (t := 1631) dL_law_526 rfl (decide_eq_true hc7) ?_
    exact T_L_law_b1631 hR (by omega) hk18 _ _ _ h
  · rw [if_neg hc7] at h
    refine aq_icF (t := 1631) dL_law_526 rfl (decide_eq_false hc7) ?_
    refine aq_iconst (v := (0 : Int32)) dL_law_529 (by decide) ?_
    obtain rfl := Option.some.inj h
    exact aq_ireturn dL_law_530 rfl (Or.inr (Or.inl rfl)) rfl
set_option maxRecDepth 20000 in
theorem T_L_law_b531 {L : Nat} {xs : Nat → Int32} {RF : Nat → Nat → Option Nat} {d : Nat} (hR : am_RFok RF) (hd : 43 ≤ d) {k18 : Int32 → am_S → Option (Int32 × am_S)} (hk18 : ∀ (x3 : Int32) (s2 : am_S) (r2 : Int32 × am_S), k18 x3 s2 = some r2 → am_Q (some (L, xs)) d mL_law (18, [.ref 1000000, .ref 0, .ref 82, .int x3], [], am_hp RF s2) (.int r2.1, am_hp RF r2.2)) : ∀ (x3 : Int32) (s : am_S) (r : Int32 × am_S), F_L_law_b531 L xs k18 x3 s = some r → am_Q (some (L, xs)) d mL_law (531, [.ref 1000000, .ref 0, .ref 82, .int x3], [], am_hp RF s) (.int r.1, am_hp RF r.2) := by
  obtain ⟨e, rfl⟩ : ∃ e, d = e + 1 := ⟨d - 1, by omega⟩
  intro x3 s r h
  unfold F_L_law_b531 at h
  refine aq_aload_n dL_law_531 rfl ?_
  refine aq_aload_n dL_law_532 rfl ?_
  refine aq_iload_n dL_law_533 rfl ?_
  refine aq_iconst (v := (1 : Int32)) dL_law_534 (by decide) ?_
  refine aq_iadd dL_law_535 ?_
  obtain ⟨hg1, h⟩ := am_guard h
  refine aq_ialdX dL_law_536 hg1 ?_
  refine aq_i2l dL_law_537 ?_
  refine aq_bipush (v := (32 : Int32)) dL_law_538 (by decide) ?_
  refine aq_lshl dL_law_540 ?_
  refine aq_aload_n dL_law_541 rfl ?_
  refine aq_iload_n dL_law_542 rfl ?_
  refine aq_iconst (v := (2 : Int32)) dL_law_543 (by decide) ?_
  refine aq_iadd dL_law_544 ?_
  obtain ⟨hg2, h⟩ := am_guard h
  refine aq_ialdX dL_law_545 hg2 ?_
  refine aq_i2l dL_law_546 ?_
  refine aq_ldc2 dL_law_547 cl_19_54 ?_
  refine aq_land dL_law_550 ?_
  refine aq_lor dL_law_551 ?_
  refine aq_aload_n dL_law_552 rfl ?_
  refine aq_iload_n dL_law_553 rfl ?_
  refine aq_iconst (v := (3 : Int32)) dL_law_554 (by decide) ?_
  refine aq_iadd dL_law_555 ?_
  obtain ⟨hg3, h⟩ := am_guard h
  refine aq_ialdX dL_law_556 hg3 ?_
  obtain ⟨q4, hq5, h⟩ := am_bnd h
  refine aq_virt (a := [.ref 0, .long (((xs (x3 + (1 : Int32)).toNatClampNeg).toInt64 <<< ((32 : Int32).toInt64 &&& 63)) ||| ((xs (x3 + (2 : Int32)).toNatClampNeg).toInt64 &&& (4294967295 : Int64))), .int (xs (x3 + (3 : Int32)).toNatClampNeg)]) (S1 := []) (v1 := .int q4.1) (S2 := [.int q4.1]) dL_law_557 cv_19_56_11 (am_cls_c sh_0 (by decide)) rfl rfl rfl (Nat.le_of_ble_eq_true rfl) (Nat.le_of_ble_eq_true rfl) (T_X11_feed_0 hR (by omega) hq5) rfl ?_
  refine aq_aload_n dL_law_560 rfl ?_
  refine aq_aload_n dL_law_561 rfl ?_
  refine aq_iload_n dL_law_562 rfl ?_
  refine aq_iconst (v := (1 : Int32)) dL_law_563 (by decide) ?_
  refine aq_iadd dL_law_564 ?_
  obtain ⟨hg6, h⟩ := am_guard h
  refine aq_ialdX dL_law_565 hg6 ?_
  refine aq_i2l dL_law_566 ?_
  refine aq_bipush (v := (32 : Int32)) dL_law_567 (by decide) ?_
  refine aq_lshl dL_law_569 ?_
  refine aq_aload_n dL_law_570 rfl ?_
  refine aq_iload_n dL_law_571 rfl ?_
  refine aq_iconst (v := (2 : Int32)) dL_law_572 (by decide) ?_
  refine aq_iadd dL_law_573 ?_
  obtain ⟨hg7, h⟩ := am_guard h
  refine aq_ialdX dL_law_574 hg7 ?_
  refine aq_i2l dL_law_575 ?_
  refine aq_ldc2 dL_law_576 cl_19_54 ?_
  refine aq_land dL_law_579 ?_
  refine aq_lor dL_law_580 ?_
  refine aq_aload_n dL_law_581 rfl ?_
  refine aq_iload_n dL_law_582 rfl ?_
  refine aq_iconst (v := (3 : Int32)) dL_law_583 (by decide) ?_
  refine aq_iadd dL_law_584 ?_
  obtain ⟨hg8, h⟩ := am_guard h
  refine aq_ialdX dL_law_585 hg8 ?_
  obtain ⟨q9, hq10, h⟩ := am_bnd h
  refine aq_virt (a := [.ref 82, .long (((xs (x3 + (1 : Int32)).toNatClampNeg).toInt64 <<< ((32 : Int32).toInt64 &&& 63)) ||| ((xs (x3 + (2 : Int32)).toNatClampNeg).toInt64 &&& (4294967295 : Int64))), .int (xs (x3 + (3 : Int32)).toNatClampNeg)]) (S1 := [.int q4.1]) (v1 := .int q9.1) (S2 := [.int q9.1, .int q4.1]) dL_law_586 cv_19_60_12 (am_cls_c sh_82 (by decide)) rfl rfl rfl (Nat.le_of_ble_eq_true rfl) (Nat.le_of_ble_eq_true rfl) (T_X12_feed_82 hR (by omega) hq10) rfl ?_
  by_cases hc11 : q4.1 = q9.1
  · rw [if_pos hc11] at h
    refine aq_icT (t := 1631) dL_law_589 rfl (decide_eq_true hc11) ?_
    exact T_L_law_b1631 hR (by omega) hk18 _ _ _ h
  · rw [if_neg hc11] at h
    refine aq_icF (t := 1631) dL_law_589 rfl (decide_eq_false hc11) ?_
    refine aq_iconst (v := (0 : Int32)) dL_law_592 (by decide) ?_
    obtain rfl := Option.some.inj h
    exact aq_ireturn dL_law_593 rfl (Or.inr (Or.inl rfl)) rfl
set_option maxRecDepth 20000 in
theorem T_L_law_b594 {L : Nat} {xs : Nat → Int32} {RF : Nat → Nat → Option Nat} {d : Nat} (hR : am_RFok RF) (hd : 43 ≤ d) {k18 : Int32 → am_S → Option (Int32 × am_S)} (hk18 : ∀ (x3 : Int32) (s2 : am_S) (r2 : Int32 × am_S), k18 x3 s2 = some r2 → am_Q (some (L, xs)) d mL_law (18, [.ref 1000000, .ref 0, .ref 82, .int x3], [], am_hp RF s2) (.int r2.1, am_hp RF r2.2)) : ∀ (x3 : Int32) (s : am_S) (r : Int32 × am_S), F_L_law_b594 L xs k18 x3 s = some r → am_Q (some (L, xs)) d mL_law (594, [.ref 1000000, .ref 0, .ref 82, .int x3], [], am_hp RF s) (.int r.1, am_hp RF r.2) := by
  obtain ⟨e, rfl⟩ : ∃ e, d = e + 1 := ⟨d - 1, by omega⟩
  intro x3 s r h
  unfold F_L_law_b594 at h
  refine aq_aload_n dL_law_594 rfl ?_
  obtain ⟨q1, hq2, h⟩ := am_bnd h
  refine aq_virt (a := [.ref 0]) (S1 := []) (v1 := .int q1.1) (S2 := [.int q1.1]) dL_law_595 cv_19_61_11 (am_cls_c sh_0 (by decide)) rfl rfl rfl (Nat.le_of_ble_eq_true rfl) (Nat.le_of_ble_eq_true rfl) (T_X11_rules_0 hR (by omega) hq2) rfl ?_
  refine aq_aload_n dL_law_598 rfl ?_
  obtain ⟨q3, hq4, h⟩ := am_bnd h
  refine aq_virt (a := [.ref 82]) (S1 := [.int q1.1]) (v1 := .int q3.1) (S2 := [.int q3.1, .int q1.1]) dL_law_599 cv_19_64_12 (am_cls_c sh_82 (by decide)) rfl rfl rfl (Nat.le_of_ble_eq_true rfl) (Nat.le_of_ble_eq_true rfl) (T_X12_rules_82 hR (by omega) hq4) rfl ?_
  by_cases hc5 : q1.1 = q3.1
  · rw [if_pos hc5] at h
    refine aq_icT (t := 1631) dL_law_602 rfl (decide_eq_true hc5) ?_
    exact T_L_law_b1631 hR (by omega) hk18 _ _ _ h
  · rw [if_neg hc5] at h
    refine aq_icF (t := 1631) dL_law_602 rfl (decide_eq_false hc5) ?_
    refine aq_iconst (v := (0 : Int32)) dL_law_605 (by decide) ?_
    obtain rfl := Option.some.inj h
    exact aq_ireturn dL_law_606 rfl (Or.inr (Or.inl rfl)) rfl
set_option maxRecDepth 20000 in
theorem T_L_law_b607 {L : Nat} {xs : Nat → Int32} {RF : Nat → Nat → Option Nat} {d : Nat} (hR : am_RFok RF) (hd : 43 ≤ d) {k18 : Int32 → am_S → Option (Int32 × am_S)} (hk18 : ∀ (x3 : Int32) (s2 : am_S) (r2 : Int32 × am_S), k18 x3 s2 = some r2 → am_Q (some (L, xs)) d mL_law (18, [.ref 1000000, .ref 0, .ref 82, .int x3], [], am_hp RF s2) (.int r2.1, am_hp RF r2.2)) : ∀ (x3 : Int32) (s : am_S) (r : Int32 × am_S), F_L_law_b607 L xs k18 x3 s = some r → am_Q (some (L, xs)) d mL_law (607, [.ref 1000000, .ref 0, .ref 82, .int x3], [], am_hp RF s) (.int r.1, am_hp RF r.2) := by
  obtain ⟨e, rfl⟩ : ∃ e, d = e + 1 := ⟨d - 1, by omega⟩
  intro x3 s r h
  unfold F_L_law_b607 at h
  refine aq_aload_n dL_law_607 rfl ?_
  obtain ⟨q1, hq2, h⟩ := am_bnd h
  refine aq_virt (a := [.ref 0]) (S1 := []) (v1 := .int q1.1) (S2 := [.int q1.1]) dL_law_608 cv_19_65_11 (am_cls_c sh_0 (by decide)) rfl rfl rfl (Nat.le_of_ble_eq_true rfl) (Nat.le_of_ble_eq_true rfl) (T_X11_turn_0 hR (by omega) hq2) rfl ?_
  refine aq_aload_n dL_law_611 rfl ?_
  obtain ⟨q3, hq4, h⟩ := am_bnd h
  refine aq_virt (a := [.ref 82]) (S1 := [.int q1.1]) (v1 := .int q3.1) (S2 := [.int q3.1, .int q1.1]) dL_law_612 cv_19_68_12 (am_cls_c sh_82 (by decide)) rfl rfl rfl (Nat.le_of_ble_eq_true rfl) (Nat.le_of_ble_eq_true rfl) (T_X12_turn_82 hR (by omega) hq4) rfl ?_
  by_cases hc5 : q1.1 = q3.1
  · rw [if_pos hc5] at h
    refine aq_icT (t := 1631) dL_law_615 rfl (decide_eq_true hc5) ?_
    exact T_L_law_b1631 hR (by omega) hk18 _ _ _ h
  · rw [if_neg hc5] at h
    refine aq_icF (t := 1631) dL_law_615 rfl (decide_eq_false hc5) ?_
    refine aq_iconst (v := (0 : Int32)) dL_law_618 (by decide) ?_
    obtain rfl := Option.some.inj h
    exact aq_ireturn dL_law_619 rfl (Or.inr (Or.inl rfl)) rfl
set_option maxRecDepth 20000 in
theorem T_L_law_b620 {L : Nat} {xs : Nat → Int32} {RF : Nat → Nat → Option Nat} {d : Nat} (hR : am_RFok RF) (hd : 43 ≤ d) {k18 : Int32 → am_S → Option (Int32 × am_S)} (hk18 : ∀ (x3 : Int32) (s2 : am_S) (r2 : Int32 × am_S), k18 x3 s2 = some r2 → am_Q (some (L, xs)) d mL_law (18, [.ref 1000000, .ref 0, .ref 82, .int x3], [], am_hp RF s2) (.int r2.1, am_hp RF r2.2)) : ∀ (x3 : Int32) (s : am_S) (r : Int32 × am_S), F_L_law_b620 L xs k18 x3 s = some r → am_Q (some (L, xs)) d mL_law (620, [.ref 1000000, .ref 0, .ref 82, .int x3], [], am_hp RF s) (.int r.1, am_hp RF r.2) := by
  obtain ⟨e, rfl⟩ : ∃ e, d = e + 1 := ⟨d - 1, by omega⟩
  intro x3 s r h
  unfold F_L_law_b620 at h
  refine aq_aload_n dL_law_620 rfl ?_
  refine aq_aload_n dL_law_621 rfl ?_
  refine aq_iload_n dL_law_622 rfl ?_
  refine aq_iconst (v := (1 : Int32)) dL_law_623 (by decide) ?_
  refine aq_iadd dL_law_624 ?_
  obtain ⟨hg1, h⟩ := am_guard h
  refine aq_ialdX dL_law_625 hg1 ?_
  obtain ⟨q2, hq3, h⟩ := am_bnd h
  refine aq_virt (a := [.ref 0, .int (xs (x3 + (1 : Int32)).toNatClampNeg)]) (S1 := []) (v1 := .int q2.1) (S2 := [.int q2.1]) dL_law_626 cv_19_69_11 (am_cls_c sh_0 (by decide)) rfl rfl rfl (Nat.le_of_ble_eq_true rfl) (Nat.le_of_ble_eq_true rfl) (T_X11_on_0 hR (by omega) hq3) rfl ?_
  refine aq_aload_n dL_law_629 rfl ?_
  refine aq_aload_n dL_law_630 rfl ?_
  refine aq_iload_n dL_law_631 rfl ?_
  refine aq_iconst (v := (1 : Int32)) dL_law_632 (by decide) ?_
  refine aq_iadd dL_law_633 ?_
  obtain ⟨hg4, h⟩ := am_guard h
  refine aq_ialdX dL_law_634 hg4 ?_
  obtain ⟨q5, hq6, h⟩ := am_bnd h
  refine aq_virt (a := [.ref 82, .int (xs (x3 + (1 : Int32)).toNatClampNeg)]) (S1 := [.int q2.1]) (v1 := .int q5.1) (S2 := [.int q5.1, .int q2.1]) dL_law_635 cv_19_72_12 (am_cls_c sh_82 (by decide)) rfl rfl rfl (Nat.le_of_ble_eq_true rfl) (Nat.le_of_ble_eq_true rfl) (T_X12_on_82 hR (by omega) hq6) rfl ?_
  by_cases hc7 : q2.1 = q5.1
  · rw [if_pos hc7] at h
    refine aq_icT (t := 1631) dL_law_638 rfl (decide_eq_true hc7) ?_
    exact T_L_law_b1631 hR (by omega) hk18 _ _ _ h
  · rw [if_neg hc7] at h
    refine aq_icF (t := 1631) dL_law_638 rfl (decide_eq_false hc7) ?_
    refine aq_iconst (v := (0 : Int32)) dL_law_641 (by decide) ?_
    obtain rfl := Option.some.inj h
    exact aq_ireturn dL_law_642 rfl (Or.inr (Or.inl rfl)) rfl
set_option maxRecDepth 20000 in
theorem T_L_law_b643 {L : Nat} {xs : Nat → Int32} {RF : Nat → Nat → Option Nat} {d : Nat} (hR : am_RFok RF) (hd : 43 ≤ d) {k18 : Int32 → am_S → Option (Int32 × am_S)} (hk18 : ∀ (x3 : Int32) (s2 : am_S) (r2 : Int32 × am_S), k18 x3 s2 = some r2 → am_Q (some (L, xs)) d mL_law (18, [.ref 1000000, .ref 0, .ref 82, .int x3], [], am_hp RF s2) (.int r2.1, am_hp RF r2.2)) : ∀ (x3 : Int32) (s : am_S) (r : Int32 × am_S), F_L_law_b643 L xs k18 x3 s = some r → am_Q (some (L, xs)) d mL_law (643, [.ref 1000000, .ref 0, .ref 82, .int x3], [], am_hp RF s) (.int r.1, am_hp RF r.2) := by
  obtain ⟨e, rfl⟩ : ∃ e, d = e + 1 := ⟨d - 1, by omega⟩
  intro x3 s r h
  unfold F_L_law_b643 at h
  refine aq_aload_n dL_law_643 rfl ?_
  refine aq_aload_n dL_law_644 rfl ?_
  refine aq_iload_n dL_law_645 rfl ?_
  refine aq_iconst (v := (1 : Int32)) dL_law_646 (by decide) ?_
  refine aq_iadd dL_law_647 ?_
  obtain ⟨hg1, h⟩ := am_guard h
  refine aq_ialdX dL_law_648 hg1 ?_
  obtain ⟨q2, hq3, h⟩ := am_bnd h
  refine aq_virt (a := [.ref 0, .int (xs (x3 + (1 : Int32)).toNatClampNeg)]) (S1 := []) (v1 := .int q2.1) (S2 := [.int q2.1]) dL_law_649 cv_19_73_11 (am_cls_c sh_0 (by decide)) rfl rfl rfl (Nat.le_of_ble_eq_true rfl) (Nat.le_of_ble_eq_true rfl) (T_X11_when_0 hR (by omega) hq3) rfl ?_
  refine aq_aload_n dL_law_652 rfl ?_
  refine aq_aload_n dL_law_653 rfl ?_
  refine aq_iload_n dL_law_654 rfl ?_
  refine aq_iconst (v := (1 : Int32)) dL_law_655 (by decide) ?_
  refine aq_iadd dL_law_656 ?_
  obtain ⟨hg4, h⟩ := am_guard h
  refine aq_ialdX dL_law_657 hg4 ?_
  obtain ⟨q5, hq6, h⟩ := am_bnd h
  refine aq_virt (a := [.ref 82, .int (xs (x3 + (1 : Int32)).toNatClampNeg)]) (S1 := [.int q2.1]) (v1 := .int q5.1) (S2 := [.int q5.1, .int q2.1]) dL_law_658 cv_19_76_12 (am_cls_c sh_82 (by decide)) rfl rfl rfl (Nat.le_of_ble_eq_true rfl) (Nat.le_of_ble_eq_true rfl) (T_X12_when_82 hR (by omega) hq6) rfl ?_
  by_cases hc7 : q2.1 = q5.1
  · rw [if_pos hc7] at h
    refine aq_icT (t := 1631) dL_law_661 rfl (decide_eq_true hc7) ?_
    exact T_L_law_b1631 hR (by omega) hk18 _ _ _ h
  · rw [if_neg hc7] at h
    refine aq_icF (t := 1631) dL_law_661 rfl (decide_eq_false hc7) ?_
    refine aq_iconst (v := (0 : Int32)) dL_law_664 (by decide) ?_
    obtain rfl := Option.some.inj h
    exact aq_ireturn dL_law_665 rfl (Or.inr (Or.inl rfl)) rfl
set_option maxRecDepth 20000 in
theorem T_L_law_b666 {L : Nat} {xs : Nat → Int32} {RF : Nat → Nat → Option Nat} {d : Nat} (hR : am_RFok RF) (hd : 43 ≤ d) {k18 : Int32 → am_S → Option (Int32 × am_S)} (hk18 : ∀ (x3 : Int32) (s2 : am_S) (r2 : Int32 × am_S), k18 x3 s2 = some r2 → am_Q (some (L, xs)) d mL_law (18, [.ref 1000000, .ref 0, .ref 82, .int x3], [], am_hp RF s2) (.int r2.1, am_hp RF r2.2)) : ∀ (x3 : Int32) (s : am_S) (r : Int32 × am_S), F_L_law_b666 L xs k18 x3 s = some r → am_Q (some (L, xs)) d mL_law (666, [.ref 1000000, .ref 0, .ref 82, .int x3], [], am_hp RF s) (.int r.1, am_hp RF r.2) := by
  obtain ⟨e, rfl⟩ : ∃ e, d = e + 1 := ⟨d - 1, by omega⟩
  intro x3 s r h
  unfold F_L_law_b666 at h
  refine aq_aload_n dL_law_666 rfl ?_
  obtain ⟨q1, hq2, h⟩ := am_bnd h
  refine aq_virt (a := [.ref 0]) (S1 := []) (v1 := .int q1.1) (S2 := [.int q1.1]) dL_law_667 cv_19_77_11 (am_cls_c sh_0 (by decide)) rfl rfl rfl (Nat.le_of_ble_eq_true rfl) (Nat.le_of_ble_eq_true rfl) (T_X11_meshFor_0 hR (by omega) hq2) rfl ?_
  refine aq_aload_n dL_law_670 rfl ?_
  obtain ⟨q3, hq4, h⟩ := am_bnd h
  refine aq_virt (a := [.ref 82]) (S1 := [.int q1.1]) (v1 := .int q3.1) (S2 := [.int q3.1, .int q1.1]) dL_law_671 cv_19_80_12 (am_cls_c sh_82 (by decide)) rfl rfl rfl (Nat.le_of_ble_eq_true rfl) (Nat.le_of_ble_eq_true rfl) (T_X12_meshFor_82 hR (by omega) hq4) rfl ?_
  by_cases hc5 : q1.1 = q3.1
  · rw [if_pos hc5] at h
    refine aq_icT (t := 1631) dL_law_674 rfl (decide_eq_true hc5) ?_
    exact T_L_law_b1631 hR (by omega) hk18 _ _ _ h
  · rw [if_neg hc5] at h
    refine aq_icF (t := 1631) dL_law_674 rfl (decide_eq_false hc5) ?_
    refine aq_iconst (v := (0 : Int32)) dL_law_677 (by decide) ?_
    obtain rfl := Option.some.inj h
    exact aq_ireturn dL_law_678 rfl (Or.inr (Or.inl rfl)) rfl
set_option maxRecDepth 20000 in
theorem T_L_law_b679 {L : Nat} {xs : Nat → Int32} {RF : Nat → Nat → Option Nat} {d : Nat} (hR : am_RFok RF) (hd : 43 ≤ d) {k18 : Int32 → am_S → Option (Int32 × am_S)} (hk18 : ∀ (x3 : Int32) (s2 : am_S) (r2 : Int32 × am_S), k18 x3 s2 = some r2 → am_Q (some (L, xs)) d mL_law (18, [.ref 1000000, .ref 0, .ref 82, .int x3], [], am_hp RF s2) (.int r2.1, am_hp RF r2.2)) : ∀ (x3 : Int32) (s : am_S) (r : Int32 × am_S), F_L_law_b679 L xs k18 x3 s = some r → am_Q (some (L, xs)) d mL_law (679, [.ref 1000000, .ref 0, .ref 82, .int x3], [], am_hp RF s) (.int r.1, am_hp RF r.2) := by
  obtain ⟨e, rfl⟩ : ∃ e, d = e + 1 := ⟨d - 1, by omega⟩
  intro x3 s r h
  unfold F_L_law_b679 at h
  refine aq_aload_n dL_law_679 rfl ?_
  refine aq_aload_n dL_law_680 rfl ?_
  refine aq_iload_n dL_law_681 rfl ?_
  refine aq_iconst (v := (1 : Int32)) dL_law_682 (by decide) ?_
  refine aq_iadd dL_law_683 ?_
  obtain ⟨hg1, h⟩ := am_guard h
  refine aq_ialdX dL_law_684 hg1 ?_
  obtain ⟨q2, hq3, h⟩ := am_bnd h
  refine aq_virt (a := [.ref 0, .int (xs (x3 + (1 : Int32)).toNatClampNeg)]) (S1 := []) (v1 := .int q2.1) (S2 := [.int q2.1]) dL_law_685 cv_19_81_11 (am_cls_c sh_0 (by decide)) rfl rfl rfl (Nat.le_of_ble_eq_true rfl) (Nat.le_of_ble_eq_true rfl) (T_X11_placeFor_0 hR (by omega) hq3) rfl ?_
  refine aq_aload_n dL_law_688 rfl ?_
  refine aq_aload_n dL_law_689 rfl ?_
  refine aq_iload_n dL_law_690 rfl ?_
  refine aq_iconst (v := (1 : Int32)) dL_law_691 (by decide) ?_
  refine aq_iadd dL_law_692 ?_
  obtain ⟨hg4, h⟩ := am_guard h
  refine aq_ialdX dL_law_693 hg4 ?_
  obtain ⟨q5, hq6, h⟩ := am_bnd h
  refine aq_virt (a := [.ref 82, .int (xs (x3 + (1 : Int32)).toNatClampNeg)]) (S1 := [.int q2.1]) (v1 := .int q5.1) (S2 := [.int q5.1, .int q2.1]) dL_law_694 cv_19_84_12 (am_cls_c sh_82 (by decide)) rfl rfl rfl (Nat.le_of_ble_eq_true rfl) (Nat.le_of_ble_eq_true rfl) (T_X12_placeFor_82 hR (by omega) hq6) rfl ?_
  by_cases hc7 : q2.1 = q5.1
  · rw [if_pos hc7] at h
    refine aq_icT (t := 1631) dL_law_697 rfl (decide_eq_true hc7) ?_
    exact T_L_law_b1631 hR (by omega) hk18 _ _ _ h
  · rw [if_neg hc7] at h
    refine aq_icF (t := 1631) dL_law_697 rfl (decide_eq_false hc7) ?_
    refine aq_iconst (v := (0 : Int32)) dL_law_700 (by decide) ?_
    obtain rfl := Option.some.inj h
    exact aq_ireturn dL_law_701 rfl (Or.inr (Or.inl rfl)) rfl
set_option maxRecDepth 20000 in
theorem T_L_law_b702 {L : Nat} {xs : Nat → Int32} {RF : Nat → Nat → Option Nat} {d : Nat} (hR : am_RFok RF) (hd : 43 ≤ d) {k18 : Int32 → am_S → Option (Int32 × am_S)} (hk18 : ∀ (x3 : Int32) (s2 : am_S) (r2 : Int32 × am_S), k18 x3 s2 = some r2 → am_Q (some (L, xs)) d mL_law (18, [.ref 1000000, .ref 0, .ref 82, .int x3], [], am_hp RF s2) (.int r2.1, am_hp RF r2.2)) : ∀ (x3 : Int32) (s : am_S) (r : Int32 × am_S), F_L_law_b702 L xs k18 x3 s = some r → am_Q (some (L, xs)) d mL_law (702, [.ref 1000000, .ref 0, .ref 82, .int x3], [], am_hp RF s) (.int r.1, am_hp RF r.2) := by
  obtain ⟨e, rfl⟩ : ∃ e, d = e + 1 := ⟨d - 1, by omega⟩
  intro x3 s r h
  unfold F_L_law_b702 at h
  refine aq_aload_n dL_law_702 rfl ?_
  obtain ⟨q1, hq2, h⟩ := am_bnd h
  refine aq_virt (a := [.ref 0]) (S1 := []) (v1 := .int q1.1) (S2 := [.int q1.1]) dL_law_703 cv_19_85_11 (am_cls_c sh_0 (by decide)) rfl rfl rfl (Nat.le_of_ble_eq_true rfl) (Nat.le_of_ble_eq_true rfl) (T_X11_quarrels_0 hR (by omega) hq2) rfl ?_
  refine aq_aload_n dL_law_706 rfl ?_
  obtain ⟨q3, hq4, h⟩ := am_bnd h
  refine aq_virt (a := [.ref 82]) (S1 := [.int q1.1]) (v1 := .int q3.1) (S2 := [.int q3.1, .int q1.1]) dL_law_707 cv_19_88_12 (am_cls_c sh_82 (by decide)) rfl rfl rfl (Nat.le_of_ble_eq_true rfl) (Nat.le_of_ble_eq_true rfl) (T_X12_quarrels_82 hR (by omega) hq4) rfl ?_
  by_cases hc5 : q1.1 = q3.1
  · rw [if_pos hc5] at h
    refine aq_icT (t := 1631) dL_law_710 rfl (decide_eq_true hc5) ?_
    exact T_L_law_b1631 hR (by omega) hk18 _ _ _ h
  · rw [if_neg hc5] at h
    refine aq_icF (t := 1631) dL_law_710 rfl (decide_eq_false hc5) ?_
    refine aq_iconst (v := (0 : Int32)) dL_law_713 (by decide) ?_
    obtain rfl := Option.some.inj h
    exact aq_ireturn dL_law_714 rfl (Or.inr (Or.inl rfl)) rfl
set_option maxRecDepth 20000 in
theorem T_L_law_b715 {L : Nat} {xs : Nat → Int32} {RF : Nat → Nat → Option Nat} {d : Nat} (hR : am_RFok RF) (hd : 43 ≤ d) {k18 : Int32 → am_S → Option (Int32 × am_S)} (hk18 : ∀ (x3 : Int32) (s2 : am_S) (r2 : Int32 × am_S), k18 x3 s2 = some r2 → am_Q (some (L, xs)) d mL_law (18, [.ref 1000000, .ref 0, .ref 82, .int x3], [], am_hp RF s2) (.int r2.1, am_hp RF r2.2)) : ∀ (x3 : Int32) (s : am_S) (r : Int32 × am_S), F_L_law_b715 L xs k18 x3 s = some r → am_Q (some (L, xs)) d mL_law (715, [.ref 1000000, .ref 0, .ref 82, .int x3], [], am_hp RF s) (.int r.1, am_hp RF r.2) := by
  obtain ⟨e, rfl⟩ : ∃ e, d = e + 1 := ⟨d - 1, by omega⟩
  intro x3 s r h
  unfold F_L_law_b715 at h
  refine aq_aload_n dL_law_715 rfl ?_
  refine aq_aload_n dL_law_716 rfl ?_
  refine aq_iload_n dL_law_717 rfl ?_
  refine aq_iconst (v := (1 : Int32)) dL_law_718 (by decide) ?_
  refine aq_iadd dL_law_719 ?_
  obtain ⟨hg1, h⟩ := am_guard h
  refine aq_ialdX dL_law_720 hg1 ?_
  obtain ⟨q2, hq3, h⟩ := am_bnd h
  refine aq_virt (a := [.ref 0, .int (xs (x3 + (1 : Int32)).toNatClampNeg)]) (S1 := []) (v1 := .int q2.1) (S2 := [.int q2.1]) dL_law_721 cv_19_89_11 (am_cls_c sh_0 (by decide)) rfl rfl rfl (Nat.le_of_ble_eq_true rfl) (Nat.le_of_ble_eq_true rfl) (T_X11_apart_0 hR (by omega) hq3) rfl ?_
  refine aq_aload_n dL_law_724 rfl ?_
  refine aq_aload_n dL_law_725 rfl ?_
  refine aq_iload_n dL_law_726 rfl ?_
  refine aq_iconst (v := (1 : Int32)) dL_law_727 (by decide) ?_
  refine aq_iadd dL_law_728 ?_
  obtain ⟨hg4, h⟩ := am_guard h
  refine aq_ialdX dL_law_729 hg4 ?_
  obtain ⟨q5, hq6, h⟩ := am_bnd h
  refine aq_virt (a := [.ref 82, .int (xs (x3 + (1 : Int32)).toNatClampNeg)]) (S1 := [.int q2.1]) (v1 := .int q5.1) (S2 := [.int q5.1, .int q2.1]) dL_law_730 cv_19_92_12 (am_cls_c sh_82 (by decide)) rfl rfl rfl (Nat.le_of_ble_eq_true rfl) (Nat.le_of_ble_eq_true rfl) (T_X12_apart_82 hR (by omega) hq6) rfl ?_
  by_cases hc7 : q2.1 = q5.1
  · rw [if_pos hc7] at h
    refine aq_icT (t := 1631) dL_law_733 rfl (decide_eq_true hc7) ?_
    exact T_L_law_b1631 hR (by omega) hk18 _ _ _ h
  · rw [if_neg hc7] at h
    refine aq_icF (t := 1631) dL_law_733 rfl (decide_eq_false hc7) ?_
    refine aq_iconst (v := (0 : Int32)) dL_law_736 (by decide) ?_
    obtain rfl := Option.some.inj h
    exact aq_ireturn dL_law_737 rfl (Or.inr (Or.inl rfl)) rfl
set_option maxRecDepth 20000 in
theorem T_L_law_b738 {L : Nat} {xs : Nat → Int32} {RF : Nat → Nat → Option Nat} {d : Nat} (hR : am_RFok RF) (hd : 43 ≤ d) {k18 : Int32 → am_S → Option (Int32 × am_S)} (hk18 : ∀ (x3 : Int32) (s2 : am_S) (r2 : Int32 × am_S), k18 x3 s2 = some r2 → am_Q (some (L, xs)) d mL_law (18, [.ref 1000000, .ref 0, .ref 82, .int x3], [], am_hp RF s2) (.int r2.1, am_hp RF r2.2)) : ∀ (x3 : Int32) (s : am_S) (r : Int32 × am_S), F_L_law_b738 L xs k18 x3 s = some r → am_Q (some (L, xs)) d mL_law (738, [.ref 1000000, .ref 0, .ref 82, .int x3], [], am_hp RF s) (.int r.1, am_hp RF r.2) := by
  obtain ⟨e, rfl⟩ : ∃ e, d = e + 1 := ⟨d - 1, by omega⟩
  intro x3 s r h
  unfold F_L_law_b738 at h
  refine aq_aload_n dL_law_738 rfl ?_
  refine aq_aload_n dL_law_739 rfl ?_
  refine aq_iload_n dL_law_740 rfl ?_
  refine aq_iconst (v := (1 : Int32)) dL_law_741 (by decide) ?_
  refine aq_iadd dL_law_742 ?_
  obtain ⟨hg1, h⟩ := am_guard h
  refine aq_ialdX dL_law_743 hg1 ?_
  obtain ⟨q2, hq3, h⟩ := am_bnd h
  refine aq_virt (a := [.ref 0, .int (xs (x3 + (1 : Int32)).toNatClampNeg)]) (S1 := []) (v1 := .int q2.1) (S2 := [.int q2.1]) dL_law_744 cv_19_93_11 (am_cls_c sh_0 (by decide)) rfl rfl rfl (Nat.le_of_ble_eq_true rfl) (Nat.le_of_ble_eq_true rfl) (T_X11_choir_0 hR (by omega) hq3) rfl ?_
  refine aq_aload_n dL_law_747 rfl ?_
  refine aq_aload_n dL_law_748 rfl ?_
  refine aq_iload_n dL_law_749 rfl ?_
  refine aq_iconst (v := (1 : Int32)) dL_law_750 (by decide) ?_
  refine aq_iadd dL_law_751 ?_
  obtain ⟨hg4, h⟩ := am_guard h
  refine aq_ialdX dL_law_752 hg4 ?_
  obtain ⟨q5, hq6, h⟩ := am_bnd h
  refine aq_virt (a := [.ref 82, .int (xs (x3 + (1 : Int32)).toNatClampNeg)]) (S1 := [.int q2.1]) (v1 := .int q5.1) (S2 := [.int q5.1, .int q2.1]) dL_law_753 cv_19_96_12 (am_cls_c sh_82 (by decide)) rfl rfl rfl (Nat.le_of_ble_eq_true rfl) (Nat.le_of_ble_eq_true rfl) (T_X12_choir_82 hR (by omega) hq6) rfl ?_
  by_cases hc7 : q2.1 = q5.1
  · rw [if_pos hc7] at h
    refine aq_icT (t := 1631) dL_law_756 rfl (decide_eq_true hc7) ?_
    exact T_L_law_b1631 hR (by omega) hk18 _ _ _ h
  · rw [if_neg hc7] at h
    refine aq_icF (t := 1631) dL_law_756 rfl (decide_eq_false hc7) ?_
    refine aq_iconst (v := (0 : Int32)) dL_law_759 (by decide) ?_
    obtain rfl := Option.some.inj h
    exact aq_ireturn dL_law_760 rfl (Or.inr (Or.inl rfl)) rfl
set_option maxRecDepth 20000 in
theorem T_L_law_b761 {L : Nat} {xs : Nat → Int32} {RF : Nat → Nat → Option Nat} {d : Nat} (hR : am_RFok RF) (hd : 43 ≤ d) {k18 : Int32 → am_S → Option (Int32 × am_S)} (hk18 : ∀ (x3 : Int32) (s2 : am_S) (r2 : Int32 × am_S), k18 x3 s2 = some r2 → am_Q (some (L, xs)) d mL_law (18, [.ref 1000000, .ref 0, .ref 82, .int x3], [], am_hp RF s2) (.int r2.1, am_hp RF r2.2)) : ∀ (x3 : Int32) (s : am_S) (r : Int32 × am_S), F_L_law_b761 L xs k18 x3 s = some r → am_Q (some (L, xs)) d mL_law (761, [.ref 1000000, .ref 0, .ref 82, .int x3], [], am_hp RF s) (.int r.1, am_hp RF r.2) := by
  obtain ⟨e, rfl⟩ : ∃ e, d = e + 1 := ⟨d - 1, by omega⟩
  intro x3 s r h
  unfold F_L_law_b761 at h
  refine aq_aload_n dL_law_761 rfl ?_
  refine aq_aload_n dL_law_762 rfl ?_
  refine aq_iload_n dL_law_763 rfl ?_
  refine aq_iconst (v := (1 : Int32)) dL_law_764 (by decide) ?_
  refine aq_iadd dL_law_765 ?_
  obtain ⟨hg1, h⟩ := am_guard h
  refine aq_ialdX dL_law_766 hg1 ?_
  obtain ⟨q2, hq3, h⟩ := am_bnd h
  refine aq_virt (a := [.ref 0, .int (xs (x3 + (1 : Int32)).toNatClampNeg)]) (S1 := []) (v1 := .int q2.1) (S2 := [.int q2.1]) dL_law_767 cv_19_97_11 (am_cls_c sh_0 (by decide)) rfl rfl rfl (Nat.le_of_ble_eq_true rfl) (Nat.le_of_ble_eq_true rfl) (T_X11_best_0 hR (by omega) hq3) rfl ?_
  refine aq_aload_n dL_law_770 rfl ?_
  refine aq_aload_n dL_law_771 rfl ?_
  refine aq_iload_n dL_law_772 rfl ?_
  refine aq_iconst (v := (1 : Int32)) dL_law_773 (by decide) ?_
  refine aq_iadd dL_law_774 ?_
  obtain ⟨hg4, h⟩ := am_guard h
  refine aq_ialdX dL_law_775 hg4 ?_
  obtain ⟨q5, hq6, h⟩ := am_bnd h
  refine aq_virt (a := [.ref 82, .int (xs (x3 + (1 : Int32)).toNatClampNeg)]) (S1 := [.int q2.1]) (v1 := .int q5.1) (S2 := [.int q5.1, .int q2.1]) dL_law_776 cv_19_100_12 (am_cls_c sh_82 (by decide)) rfl rfl rfl (Nat.le_of_ble_eq_true rfl) (Nat.le_of_ble_eq_true rfl) (T_X12_best_82 hR (by omega) hq6) rfl ?_
  by_cases hc7 : q2.1 = q5.1
  · rw [if_pos hc7] at h
    refine aq_icT (t := 1631) dL_law_779 rfl (decide_eq_true hc7) ?_
    exact T_L_law_b1631 hR (by omega) hk18 _ _ _ h
  · rw [if_neg hc7] at h
    refine aq_icF (t := 1631) dL_law_779 rfl (decide_eq_false hc7) ?_
    refine aq_iconst (v := (0 : Int32)) dL_law_782 (by decide) ?_
    obtain rfl := Option.some.inj h
    exact aq_ireturn dL_law_783 rfl (Or.inr (Or.inl rfl)) rfl
set_option maxRecDepth 20000 in
theorem T_L_law_b784 {L : Nat} {xs : Nat → Int32} {RF : Nat → Nat → Option Nat} {d : Nat} (hR : am_RFok RF) (hd : 43 ≤ d) {k18 : Int32 → am_S → Option (Int32 × am_S)} (hk18 : ∀ (x3 : Int32) (s2 : am_S) (r2 : Int32 × am_S), k18 x3 s2 = some r2 → am_Q (some (L, xs)) d mL_law (18, [.ref 1000000, .ref 0, .ref 82, .int x3], [], am_hp RF s2) (.int r2.1, am_hp RF r2.2)) : ∀ (x3 : Int32) (s : am_S) (r : Int32 × am_S), F_L_law_b784 L xs k18 x3 s = some r → am_Q (some (L, xs)) d mL_law (784, [.ref 1000000, .ref 0, .ref 82, .int x3], [], am_hp RF s) (.int r.1, am_hp RF r.2) := by
  obtain ⟨e, rfl⟩ : ∃ e, d = e + 1 := ⟨d - 1, by omega⟩
  intro x3 s r h
  unfold F_L_law_b784 at h
  refine aq_aload_n dL_law_784 rfl ?_
  refine aq_aload_n dL_law_785 rfl ?_
  refine aq_iload_n dL_law_786 rfl ?_
  refine aq_iconst (v := (1 : Int32)) dL_law_787 (by decide) ?_
  refine aq_iadd dL_law_788 ?_
  obtain ⟨hg1, h⟩ := am_guard h
  refine aq_ialdX dL_law_789 hg1 ?_
  refine aq_aload_n dL_law_790 rfl ?_
  refine aq_iload_n dL_law_791 rfl ?_
  refine aq_iconst (v := (2 : Int32)) dL_law_792 (by decide) ?_
  refine aq_iadd dL_law_793 ?_
  obtain ⟨hg2, h⟩ := am_guard h
  refine aq_ialdX dL_law_794 hg2 ?_
  obtain ⟨q3, hq4, h⟩ := am_bnd h
  refine aq_virt (a := [.ref 0, .int (xs (x3 + (1 : Int32)).toNatClampNeg), .int (xs (x3 + (2 : Int32)).toNatClampNeg)]) (S1 := []) (v1 := .int q3.1) (S2 := [.int q3.1]) dL_law_795 cv_19_101_11 (am_cls_c sh_0 (by decide)) rfl rfl rfl (Nat.le_of_ble_eq_true rfl) (Nat.le_of_ble_eq_true rfl) (T_X11_ith_0 hR (by omega) hq4) rfl ?_
  refine aq_aload_n dL_law_798 rfl ?_
  refine aq_aload_n dL_law_799 rfl ?_
  refine aq_iload_n dL_law_800 rfl ?_
  refine aq_iconst (v := (1 : Int32)) dL_law_801 (by decide) ?_
  refine aq_iadd dL_law_802 ?_
  obtain ⟨hg5, h⟩ := am_guard h
  refine aq_ialdX dL_law_803 hg5 ?_
  refine aq_aload_n dL_law_804 rfl ?_
  refine aq_iload_n dL_law_805 rfl ?_
  refine aq_iconst (v := (2 : Int32)) dL_law_806 (by decide) ?_
  refine aq_iadd dL_law_807 ?_
  obtain ⟨hg6, h⟩ := am_guard h
  refine aq_ialdX dL_law_808 hg6 ?_
  obtain ⟨q7, hq8, h⟩ := am_bnd h
  refine aq_virt (a := [.ref 82, .int (xs (x3 + (1 : Int32)).toNatClampNeg), .int (xs (x3 + (2 : Int32)).toNatClampNeg)]) (S1 := [.int q3.1]) (v1 := .int q7.1) (S2 := [.int q7.1, .int q3.1]) dL_law_809 cv_19_104_12 (am_cls_c sh_82 (by decide)) rfl rfl rfl (Nat.le_of_ble_eq_true rfl) (Nat.le_of_ble_eq_true rfl) (T_X12_ith_82 hR (by omega) hq8) rfl ?_
  by_cases hc9 : q3.1 = q7.1
  · rw [if_pos hc9] at h
    refine aq_icT (t := 1631) dL_law_812 rfl (decide_eq_true hc9) ?_
    exact T_L_law_b1631 hR (by omega) hk18 _ _ _ h
  · rw [if_neg hc9] at h
    refine aq_icF (t := 1631) dL_law_812 rfl (decide_eq_false hc9) ?_
    refine aq_iconst (v := (0 : Int32)) dL_law_815 (by decide) ?_
    obtain rfl := Option.some.inj h
    exact aq_ireturn dL_law_816 rfl (Or.inr (Or.inl rfl)) rfl
set_option maxRecDepth 20000 in
theorem T_L_law_b817 {L : Nat} {xs : Nat → Int32} {RF : Nat → Nat → Option Nat} {d : Nat} (hR : am_RFok RF) (hd : 43 ≤ d) {k18 : Int32 → am_S → Option (Int32 × am_S)} (hk18 : ∀ (x3 : Int32) (s2 : am_S) (r2 : Int32 × am_S), k18 x3 s2 = some r2 → am_Q (some (L, xs)) d mL_law (18, [.ref 1000000, .ref 0, .ref 82, .int x3], [], am_hp RF s2) (.int r2.1, am_hp RF r2.2)) : ∀ (x3 : Int32) (s : am_S) (r : Int32 × am_S), F_L_law_b817 L xs k18 x3 s = some r → am_Q (some (L, xs)) d mL_law (817, [.ref 1000000, .ref 0, .ref 82, .int x3], [], am_hp RF s) (.int r.1, am_hp RF r.2) := by
  obtain ⟨e, rfl⟩ : ∃ e, d = e + 1 := ⟨d - 1, by omega⟩
  intro x3 s r h
  unfold F_L_law_b817 at h
  refine aq_aload_n dL_law_817 rfl ?_
  refine aq_aload_n dL_law_818 rfl ?_
  refine aq_iload_n dL_law_819 rfl ?_
  refine aq_iconst (v := (1 : Int32)) dL_law_820 (by decide) ?_
  refine aq_iadd dL_law_821 ?_
  obtain ⟨hg1, h⟩ := am_guard h
  refine aq_ialdX dL_law_822 hg1 ?_
  obtain ⟨q2, hq3, h⟩ := am_bnd h
  refine aq_virt (a := [.ref 0, .int (xs (x3 + (1 : Int32)).toNatClampNeg)]) (S1 := []) (v1 := .int q2.1) (S2 := [.int q2.1]) dL_law_823 cv_19_105_11 (am_cls_c sh_0 (by decide)) rfl rfl rfl (Nat.le_of_ble_eq_true rfl) (Nat.le_of_ble_eq_true rfl) (T_X11_ways_0 hR (by omega) hq3) rfl ?_
  refine aq_aload_n dL_law_826 rfl ?_
  refine aq_aload_n dL_law_827 rfl ?_
  refine aq_iload_n dL_law_828 rfl ?_
  refine aq_iconst (v := (1 : Int32)) dL_law_829 (by decide) ?_
  refine aq_iadd dL_law_830 ?_
  obtain ⟨hg4, h⟩ := am_guard h
  refine aq_ialdX dL_law_831 hg4 ?_
  obtain ⟨q5, hq6, h⟩ := am_bnd h
  refine aq_virt (a := [.ref 82, .int (xs (x3 + (1 : Int32)).toNatClampNeg)]) (S1 := [.int q2.1]) (v1 := .int q5.1) (S2 := [.int q5.1, .int q2.1]) dL_law_832 cv_19_108_12 (am_cls_c sh_82 (by decide)) rfl rfl rfl (Nat.le_of_ble_eq_true rfl) (Nat.le_of_ble_eq_true rfl) (T_X12_ways_82 hR (by omega) hq6) rfl ?_
  by_cases hc7 : q2.1 = q5.1
  · rw [if_pos hc7] at h
    refine aq_icT (t := 1631) dL_law_835 rfl (decide_eq_true hc7) ?_
    exact T_L_law_b1631 hR (by omega) hk18 _ _ _ h
  · rw [if_neg hc7] at h
    refine aq_icF (t := 1631) dL_law_835 rfl (decide_eq_false hc7) ?_
    refine aq_iconst (v := (0 : Int32)) dL_law_838 (by decide) ?_
    obtain rfl := Option.some.inj h
    exact aq_ireturn dL_law_839 rfl (Or.inr (Or.inl rfl)) rfl
set_option maxRecDepth 20000 in
theorem T_L_law_b840 {L : Nat} {xs : Nat → Int32} {RF : Nat → Nat → Option Nat} {d : Nat} (hR : am_RFok RF) (hd : 43 ≤ d) {k18 : Int32 → am_S → Option (Int32 × am_S)} (hk18 : ∀ (x3 : Int32) (s2 : am_S) (r2 : Int32 × am_S), k18 x3 s2 = some r2 → am_Q (some (L, xs)) d mL_law (18, [.ref 1000000, .ref 0, .ref 82, .int x3], [], am_hp RF s2) (.int r2.1, am_hp RF r2.2)) : ∀ (x3 : Int32) (s : am_S) (r : Int32 × am_S), F_L_law_b840 L xs k18 x3 s = some r → am_Q (some (L, xs)) d mL_law (840, [.ref 1000000, .ref 0, .ref 82, .int x3], [], am_hp RF s) (.int r.1, am_hp RF r.2) := by
  obtain ⟨e, rfl⟩ : ∃ e, d = e + 1 := ⟨d - 1, by omega⟩
  intro x3 s r h
  unfold F_L_law_b840 at h
  refine aq_aload_n dL_law_840 rfl ?_
  refine aq_aload_n dL_law_841 rfl ?_
  refine aq_iload_n dL_law_842 rfl ?_
  refine aq_iconst (v := (1 : Int32)) dL_law_843 (by decide) ?_
  refine aq_iadd dL_law_844 ?_
  obtain ⟨hg1, h⟩ := am_guard h
  refine aq_ialdX dL_law_845 hg1 ?_
  refine aq_aload_n dL_law_846 rfl ?_
  refine aq_iload_n dL_law_847 rfl ?_
  refine aq_iconst (v := (2 : Int32)) dL_law_848 (by decide) ?_
  refine aq_iadd dL_law_849 ?_
  obtain ⟨hg2, h⟩ := am_guard h
  refine aq_ialdX dL_law_850 hg2 ?_
  obtain ⟨q3, hq4, h⟩ := am_bnd h
  refine aq_virt (a := [.ref 0, .int (xs (x3 + (1 : Int32)).toNatClampNeg), .int (xs (x3 + (2 : Int32)).toNatClampNeg)]) (S1 := []) (v1 := .int q3.1) (S2 := [.int q3.1]) dL_law_851 cv_19_109_11 (am_cls_c sh_0 (by decide)) rfl rfl rfl (Nat.le_of_ble_eq_true rfl) (Nat.le_of_ble_eq_true rfl) (T_X11_haul_0 hR (by omega) hq4) rfl ?_
  refine aq_aload_n dL_law_854 rfl ?_
  refine aq_aload_n dL_law_855 rfl ?_
  refine aq_iload_n dL_law_856 rfl ?_
  refine aq_iconst (v := (1 : Int32)) dL_law_857 (by decide) ?_
  refine aq_iadd dL_law_858 ?_
  obtain ⟨hg5, h⟩ := am_guard h
  refine aq_ialdX dL_law_859 hg5 ?_
  refine aq_aload_n dL_law_860 rfl ?_
  refine aq_iload_n dL_law_861 rfl ?_
  refine aq_iconst (v := (2 : Int32)) dL_law_862 (by decide) ?_
  refine aq_iadd dL_law_863 ?_
  obtain ⟨hg6, h⟩ := am_guard h
  refine aq_ialdX dL_law_864 hg6 ?_
  obtain ⟨q7, hq8, h⟩ := am_bnd h
  refine aq_virt (a := [.ref 82, .int (xs (x3 + (1 : Int32)).toNatClampNeg), .int (xs (x3 + (2 : Int32)).toNatClampNeg)]) (S1 := [.int q3.1]) (v1 := .int q7.1) (S2 := [.int q7.1, .int q3.1]) dL_law_865 cv_19_112_12 (am_cls_c sh_82 (by decide)) rfl rfl rfl (Nat.le_of_ble_eq_true rfl) (Nat.le_of_ble_eq_true rfl) (T_X12_haul_82 hR (by omega) hq8) rfl ?_
  by_cases hc9 : q3.1 = q7.1
  · rw [if_pos hc9] at h
    refine aq_icT (t := 1631) dL_law_868 rfl (decide_eq_true hc9) ?_
    exact T_L_law_b1631 hR (by omega) hk18 _ _ _ h
  · rw [if_neg hc9] at h
    refine aq_icF (t := 1631) dL_law_868 rfl (decide_eq_false hc9) ?_
    refine aq_iconst (v := (0 : Int32)) dL_law_871 (by decide) ?_
    obtain rfl := Option.some.inj h
    exact aq_ireturn dL_law_872 rfl (Or.inr (Or.inl rfl)) rfl
set_option maxRecDepth 20000 in
theorem T_L_law_b873 {L : Nat} {xs : Nat → Int32} {RF : Nat → Nat → Option Nat} {d : Nat} (hR : am_RFok RF) (hd : 43 ≤ d) {k18 : Int32 → am_S → Option (Int32 × am_S)} (hk18 : ∀ (x3 : Int32) (s2 : am_S) (r2 : Int32 × am_S), k18 x3 s2 = some r2 → am_Q (some (L, xs)) d mL_law (18, [.ref 1000000, .ref 0, .ref 82, .int x3], [], am_hp RF s2) (.int r2.1, am_hp RF r2.2)) : ∀ (x3 : Int32) (s : am_S) (r : Int32 × am_S), F_L_law_b873 L xs k18 x3 s = some r → am_Q (some (L, xs)) d mL_law (873, [.ref 1000000, .ref 0, .ref 82, .int x3], [], am_hp RF s) (.int r.1, am_hp RF r.2) := by
  obtain ⟨e, rfl⟩ : ∃ e, d = e + 1 := ⟨d - 1, by omega⟩
  intro x3 s r h
  unfold F_L_law_b873 at h
  refine aq_aload_n dL_law_873 rfl ?_
  refine aq_aload_n dL_law_874 rfl ?_
  refine aq_iload_n dL_law_875 rfl ?_
  refine aq_iconst (v := (1 : Int32)) dL_law_876 (by decide) ?_
  refine aq_iadd dL_law_877 ?_
  obtain ⟨hg1, h⟩ := am_guard h
  refine aq_ialdX dL_law_878 hg1 ?_
  refine aq_aload_n dL_law_879 rfl ?_
  refine aq_iload_n dL_law_880 rfl ?_
  refine aq_iconst (v := (2 : Int32)) dL_law_881 (by decide) ?_
  refine aq_iadd dL_law_882 ?_
  obtain ⟨hg2, h⟩ := am_guard h
  refine aq_ialdX dL_law_883 hg2 ?_
  obtain ⟨q3, hq4, h⟩ := am_bnd h
  refine aq_virt (a := [.ref 0, .int (xs (x3 + (1 : Int32)).toNatClampNeg), .int (xs (x3 + (2 : Int32)).toNatClampNeg)]) (S1 := []) (v1 := .int q3.1) (S2 := [.int q3.1]) dL_law_884 cv_19_113_11 (am_cls_c sh_0 (by decide)) rfl rfl rfl (Nat.le_of_ble_eq_true rfl) (Nat.le_of_ble_eq_true rfl) (T_X11_bars_0 hR (by omega) hq4) rfl ?_
  refine aq_aload_n dL_law_887 rfl ?_
  refine aq_aload_n dL_law_888 rfl ?_
  refine aq_iload_n dL_law_889 rfl ?_
  refine aq_iconst (v := (1 : Int32)) dL_law_890 (by decide) ?_
  refine aq_iadd dL_law_891 ?_
  obtain ⟨hg5, h⟩ := am_guard h
  refine aq_ialdX dL_law_892 hg5 ?_
  refine aq_aload_n dL_law_893 rfl ?_
  refine aq_iload_n dL_law_894 rfl ?_
  refine aq_iconst (v := (2 : Int32)) dL_law_895 (by decide) ?_
  refine aq_iadd dL_law_896 ?_
  obtain ⟨hg6, h⟩ := am_guard h
  refine aq_ialdX dL_law_897 hg6 ?_
  obtain ⟨q7, hq8, h⟩ := am_bnd h
  refine aq_virt (a := [.ref 82, .int (xs (x3 + (1 : Int32)).toNatClampNeg), .int (xs (x3 + (2 : Int32)).toNatClampNeg)]) (S1 := [.int q3.1]) (v1 := .int q7.1) (S2 := [.int q7.1, .int q3.1]) dL_law_898 cv_19_116_12 (am_cls_c sh_82 (by decide)) rfl rfl rfl (Nat.le_of_ble_eq_true rfl) (Nat.le_of_ble_eq_true rfl) (T_X12_bars_82 hR (by omega) hq8) rfl ?_
  by_cases hc9 : q3.1 = q7.1
  · rw [if_pos hc9] at h
    refine aq_icT (t := 1631) dL_law_901 rfl (decide_eq_true hc9) ?_
    exact T_L_law_b1631 hR (by omega) hk18 _ _ _ h
  · rw [if_neg hc9] at h
    refine aq_icF (t := 1631) dL_law_901 rfl (decide_eq_false hc9) ?_
    refine aq_iconst (v := (0 : Int32)) dL_law_904 (by decide) ?_
    obtain rfl := Option.some.inj h
    exact aq_ireturn dL_law_905 rfl (Or.inr (Or.inl rfl)) rfl
set_option maxRecDepth 20000 in
theorem T_L_law_b906 {L : Nat} {xs : Nat → Int32} {RF : Nat → Nat → Option Nat} {d : Nat} (hR : am_RFok RF) (hd : 43 ≤ d) {k18 : Int32 → am_S → Option (Int32 × am_S)} (hk18 : ∀ (x3 : Int32) (s2 : am_S) (r2 : Int32 × am_S), k18 x3 s2 = some r2 → am_Q (some (L, xs)) d mL_law (18, [.ref 1000000, .ref 0, .ref 82, .int x3], [], am_hp RF s2) (.int r2.1, am_hp RF r2.2)) : ∀ (x3 : Int32) (s : am_S) (r : Int32 × am_S), F_L_law_b906 L xs k18 x3 s = some r → am_Q (some (L, xs)) d mL_law (906, [.ref 1000000, .ref 0, .ref 82, .int x3], [], am_hp RF s) (.int r.1, am_hp RF r.2) := by
  obtain ⟨e, rfl⟩ : ∃ e, d = e + 1 := ⟨d - 1, by omega⟩
  intro x3 s r h
  unfold F_L_law_b906 at h
  refine aq_aload_n dL_law_906 rfl ?_
  refine aq_aload_n dL_law_907 rfl ?_
  refine aq_iload_n dL_law_908 rfl ?_
  refine aq_iconst (v := (1 : Int32)) dL_law_909 (by decide) ?_
  refine aq_iadd dL_law_910 ?_
  obtain ⟨hg1, h⟩ := am_guard h
  refine aq_ialdX dL_law_911 hg1 ?_
  obtain ⟨q2, hq3, h⟩ := am_bnd h
  refine aq_virt (a := [.ref 0, .int (xs (x3 + (1 : Int32)).toNatClampNeg)]) (S1 := []) (v1 := .int q2.1) (S2 := [.int q2.1]) dL_law_912 cv_19_117_11 (am_cls_c sh_0 (by decide)) rfl rfl rfl (Nat.le_of_ble_eq_true rfl) (Nat.le_of_ble_eq_true rfl) (T_X11_game_0 hR (by omega) hq3) rfl ?_
  refine aq_aload_n dL_law_915 rfl ?_
  refine aq_aload_n dL_law_916 rfl ?_
  refine aq_iload_n dL_law_917 rfl ?_
  refine aq_iconst (v := (1 : Int32)) dL_law_918 (by decide) ?_
  refine aq_iadd dL_law_919 ?_
  obtain ⟨hg4, h⟩ := am_guard h
  refine aq_ialdX dL_law_920 hg4 ?_
  obtain ⟨q5, hq6, h⟩ := am_bnd h
  refine aq_virt (a := [.ref 82, .int (xs (x3 + (1 : Int32)).toNatClampNeg)]) (S1 := [.int q2.1]) (v1 := .int q5.1) (S2 := [.int q5.1, .int q2.1]) dL_law_921 cv_19_120_12 (am_cls_c sh_82 (by decide)) rfl rfl rfl (Nat.le_of_ble_eq_true rfl) (Nat.le_of_ble_eq_true rfl) (T_X12_game_82 hR (by omega) hq6) rfl ?_
  by_cases hc7 : q2.1 = q5.1
  · rw [if_pos hc7] at h
    refine aq_icT (t := 1631) dL_law_924 rfl (decide_eq_true hc7) ?_
    exact T_L_law_b1631 hR (by omega) hk18 _ _ _ h
  · rw [if_neg hc7] at h
    refine aq_icF (t := 1631) dL_law_924 rfl (decide_eq_false hc7) ?_
    refine aq_iconst (v := (0 : Int32)) dL_law_927 (by decide) ?_
    obtain rfl := Option.some.inj h
    exact aq_ireturn dL_law_928 rfl (Or.inr (Or.inl rfl)) rfl
set_option maxRecDepth 20000 in
theorem T_L_law_b929 {L : Nat} {xs : Nat → Int32} {RF : Nat → Nat → Option Nat} {d : Nat} (hR : am_RFok RF) (hd : 43 ≤ d) {k18 : Int32 → am_S → Option (Int32 × am_S)} (hk18 : ∀ (x3 : Int32) (s2 : am_S) (r2 : Int32 × am_S), k18 x3 s2 = some r2 → am_Q (some (L, xs)) d mL_law (18, [.ref 1000000, .ref 0, .ref 82, .int x3], [], am_hp RF s2) (.int r2.1, am_hp RF r2.2)) : ∀ (x3 : Int32) (s : am_S) (r : Int32 × am_S), F_L_law_b929 L xs k18 x3 s = some r → am_Q (some (L, xs)) d mL_law (929, [.ref 1000000, .ref 0, .ref 82, .int x3], [], am_hp RF s) (.int r.1, am_hp RF r.2) := by
  obtain ⟨e, rfl⟩ : ∃ e, d = e + 1 := ⟨d - 1, by omega⟩
  intro x3 s r h
  unfold F_L_law_b929 at h
  refine aq_aload_n dL_law_929 rfl ?_
  refine aq_aload_n dL_law_930 rfl ?_
  refine aq_iload_n dL_law_931 rfl ?_
  refine aq_iconst (v := (1 : Int32)) dL_law_932 (by decide) ?_
  refine aq_iadd dL_law_933 ?_
  obtain ⟨hg1, h⟩ := am_guard h
  refine aq_ialdX dL_law_934 hg1 ?_
  obtain ⟨q2, hq3, h⟩ := am_bnd h
  refine aq_virt (a := [.ref 0, .int (xs (x3 + (1 : Int32)).toNatClampNeg)]) (S1 := []) (v1 := .int q2.1) (S2 := [.int q2.1]) dL_law_935 cv_19_121_11 (am_cls_c sh_0 (by decide)) rfl rfl rfl (Nat.le_of_ble_eq_true rfl) (Nat.le_of_ble_eq_true rfl) (T_X11_play_0 hR (by omega) hq3) rfl ?_
  refine aq_aload_n dL_law_938 rfl ?_
  refine aq_aload_n dL_law_939 rfl ?_
  refine aq_iload_n dL_law_940 rfl ?_
  refine aq_iconst (v := (1 : Int32)) dL_law_941 (by decide) ?_
  refine aq_iadd dL_law_942 ?_
  obtain ⟨hg4, h⟩ := am_guard h
  refine aq_ialdX dL_law_943 hg4 ?_
  obtain ⟨q5, hq6, h⟩ := am_bnd h
  refine aq_virt (a := [.ref 82, .int (xs (x3 + (1 : Int32)).toNatClampNeg)]) (S1 := [.int q2.1]) (v1 := .int q5.1) (S2 := [.int q5.1, .int q2.1]) dL_law_944 cv_19_124_12 (am_cls_c sh_82 (by decide)) rfl rfl rfl (Nat.le_of_ble_eq_true rfl) (Nat.le_of_ble_eq_true rfl) (T_X12_play_82 hR (by omega) hq6) rfl ?_
  by_cases hc7 : q2.1 = q5.1
  · rw [if_pos hc7] at h
    refine aq_icT (t := 1631) dL_law_947 rfl (decide_eq_true hc7) ?_
    exact T_L_law_b1631 hR (by omega) hk18 _ _ _ h
  · rw [if_neg hc7] at h
    refine aq_icF (t := 1631) dL_law_947 rfl (decide_eq_false hc7) ?_
    refine aq_iconst (v := (0 : Int32)) dL_law_950 (by decide) ?_
    obtain rfl := Option.some.inj h
    exact aq_ireturn dL_law_951 rfl (Or.inr (Or.inl rfl)) rfl
set_option maxRecDepth 20000 in
theorem T_L_law_b952 {L : Nat} {xs : Nat → Int32} {RF : Nat → Nat → Option Nat} {d : Nat} (hR : am_RFok RF) (hd : 43 ≤ d) {k18 : Int32 → am_S → Option (Int32 × am_S)} (hk18 : ∀ (x3 : Int32) (s2 : am_S) (r2 : Int32 × am_S), k18 x3 s2 = some r2 → am_Q (some (L, xs)) d mL_law (18, [.ref 1000000, .ref 0, .ref 82, .int x3], [], am_hp RF s2) (.int r2.1, am_hp RF r2.2)) : ∀ (x3 : Int32) (s : am_S) (r : Int32 × am_S), F_L_law_b952 L xs k18 x3 s = some r → am_Q (some (L, xs)) d mL_law (952, [.ref 1000000, .ref 0, .ref 82, .int x3], [], am_hp RF s) (.int r.1, am_hp RF r.2) := by
  obtain ⟨e, rfl⟩ : ∃ e, d = e + 1 := ⟨d - 1, by omega⟩
  intro x3 s r h
  unfold F_L_law_b952 at h
  refine aq_aload_n dL_law_952 rfl ?_
  refine aq_aload_n dL_law_953 rfl ?_
  refine aq_iload_n dL_law_954 rfl ?_
  refine aq_iconst (v := (1 : Int32)) dL_law_955 (by decide) ?_
  refine aq_iadd dL_law_956 ?_
  obtain ⟨hg1, h⟩ := am_guard h
  refine aq_ialdX dL_law_957 hg1 ?_
  refine aq_aload_n dL_law_958 rfl ?_
  refine aq_iload_n dL_law_959 rfl ?_
  refine aq_iconst (v := (2 : Int32)) dL_law_960 (by decide) ?_
  refine aq_iadd dL_law_961 ?_
  obtain ⟨hg2, h⟩ := am_guard h
  refine aq_ialdX dL_law_962 hg2 ?_
  refine aq_aload_n dL_law_963 rfl ?_
  refine aq_iload_n dL_law_964 rfl ?_
  refine aq_iconst (v := (3 : Int32)) dL_law_965 (by decide) ?_
  refine aq_iadd dL_law_966 ?_
  obtain ⟨hg3, h⟩ := am_guard h
  refine aq_ialdX dL_law_967 hg3 ?_
  obtain ⟨q4, hq5, h⟩ := am_bnd h
  refine aq_virt (a := [.ref 0, .int (xs (x3 + (1 : Int32)).toNatClampNeg), .int (xs (x3 + (2 : Int32)).toNatClampNeg), .int (xs (x3 + (3 : Int32)).toNatClampNeg)]) (S1 := []) (v1 := .int q4.1) (S2 := [.int q4.1]) dL_law_968 cv_19_125_11 (am_cls_c sh_0 (by decide)) rfl rfl rfl (Nat.le_of_ble_eq_true rfl) (Nat.le_of_ble_eq_true rfl) (T_X11_report_0 hR (by omega) hq5) rfl ?_
  refine aq_aload_n dL_law_971 rfl ?_
  refine aq_aload_n dL_law_972 rfl ?_
  refine aq_iload_n dL_law_973 rfl ?_
  refine aq_iconst (v := (1 : Int32)) dL_law_974 (by decide) ?_
  refine aq_iadd dL_law_975 ?_
  obtain ⟨hg6, h⟩ := am_guard h
  refine aq_ialdX dL_law_976 hg6 ?_
  refine aq_aload_n dL_law_977 rfl ?_
  refine aq_iload_n dL_law_978 rfl ?_
  refine aq_iconst (v := (2 : Int32)) dL_law_979 (by decide) ?_
  refine aq_iadd dL_law_980 ?_
  obtain ⟨hg7, h⟩ := am_guard h
  refine aq_ialdX dL_law_981 hg7 ?_
  refine aq_aload_n dL_law_982 rfl ?_
  refine aq_iload_n dL_law_983 rfl ?_
  refine aq_iconst (v := (3 : Int32)) dL_law_984 (by decide) ?_
  refine aq_iadd dL_law_985 ?_
  obtain ⟨hg8, h⟩ := am_guard h
  refine aq_ialdX dL_law_986 hg8 ?_
  obtain ⟨q9, hq10, h⟩ := am_bnd h
  refine aq_virt (a := [.ref 82, .int (xs (x3 + (1 : Int32)).toNatClampNeg), .int (xs (x3 + (2 : Int32)).toNatClampNeg), .int (xs (x3 + (3 : Int32)).toNatClampNeg)]) (S1 := [.int q4.1]) (v1 := .int q9.1) (S2 := [.int q9.1, .int q4.1]) dL_law_987 cv_19_128_12 (am_cls_c sh_82 (by decide)) rfl rfl rfl (Nat.le_of_ble_eq_true rfl) (Nat.le_of_ble_eq_true rfl) (T_X12_report_82 hR (by omega) hq10) rfl ?_
  by_cases hc11 : q4.1 = q9.1
  · rw [if_pos hc11] at h
    refine aq_icT (t := 1631) dL_law_990 rfl (decide_eq_true hc11) ?_
    exact T_L_law_b1631 hR (by omega) hk18 _ _ _ h
  · rw [if_neg hc11] at h
    refine aq_icF (t := 1631) dL_law_990 rfl (decide_eq_false hc11) ?_
    refine aq_iconst (v := (0 : Int32)) dL_law_993 (by decide) ?_
    obtain rfl := Option.some.inj h
    exact aq_ireturn dL_law_994 rfl (Or.inr (Or.inl rfl)) rfl
set_option maxRecDepth 20000 in
theorem T_L_law_b995 {L : Nat} {xs : Nat → Int32} {RF : Nat → Nat → Option Nat} {d : Nat} (hR : am_RFok RF) (hd : 43 ≤ d) {k18 : Int32 → am_S → Option (Int32 × am_S)} (hk18 : ∀ (x3 : Int32) (s2 : am_S) (r2 : Int32 × am_S), k18 x3 s2 = some r2 → am_Q (some (L, xs)) d mL_law (18, [.ref 1000000, .ref 0, .ref 82, .int x3], [], am_hp RF s2) (.int r2.1, am_hp RF r2.2)) : ∀ (x3 : Int32) (s : am_S) (r : Int32 × am_S), F_L_law_b995 L xs k18 x3 s = some r → am_Q (some (L, xs)) d mL_law (995, [.ref 1000000, .ref 0, .ref 82, .int x3], [], am_hp RF s) (.int r.1, am_hp RF r.2) := by
  obtain ⟨e, rfl⟩ : ∃ e, d = e + 1 := ⟨d - 1, by omega⟩
  intro x3 s r h
  unfold F_L_law_b995 at h
  refine aq_aload_n dL_law_995 rfl ?_
  obtain ⟨q1, hq2, h⟩ := am_bnd h
  refine aq_virt (a := [.ref 0]) (S1 := []) (v1 := .int q1.1) (S2 := [.int q1.1]) dL_law_996 cv_19_129_11 (am_cls_c sh_0 (by decide)) rfl rfl rfl (Nat.le_of_ble_eq_true rfl) (Nat.le_of_ble_eq_true rfl) (T_X11_forget_0 hR (by omega) hq2) rfl ?_
  refine aq_aload_n dL_law_999 rfl ?_
  obtain ⟨q3, hq4, h⟩ := am_bnd h
  refine aq_virt (a := [.ref 82]) (S1 := [.int q1.1]) (v1 := .int q3.1) (S2 := [.int q3.1, .int q1.1]) dL_law_1000 cv_19_132_12 (am_cls_c sh_82 (by decide)) rfl rfl rfl (Nat.le_of_ble_eq_true rfl) (Nat.le_of_ble_eq_true rfl) (T_X12_forget_82 hR (by omega) hq4) rfl ?_
  by_cases hc5 : q1.1 = q3.1
  · rw [if_pos hc5] at h
    refine aq_icT (t := 1631) dL_law_1003 rfl (decide_eq_true hc5) ?_
    exact T_L_law_b1631 hR (by omega) hk18 _ _ _ h
  · rw [if_neg hc5] at h
    refine aq_icF (t := 1631) dL_law_1003 rfl (decide_eq_false hc5) ?_
    refine aq_iconst (v := (0 : Int32)) dL_law_1006 (by decide) ?_
    obtain rfl := Option.some.inj h
    exact aq_ireturn dL_law_1007 rfl (Or.inr (Or.inl rfl)) rfl
set_option maxRecDepth 20000 in
theorem T_L_law_b1008 {L : Nat} {xs : Nat → Int32} {RF : Nat → Nat → Option Nat} {d : Nat} (hR : am_RFok RF) (hd : 43 ≤ d) {k18 : Int32 → am_S → Option (Int32 × am_S)} (hk18 : ∀ (x3 : Int32) (s2 : am_S) (r2 : Int32 × am_S), k18 x3 s2 = some r2 → am_Q (some (L, xs)) d mL_law (18, [.ref 1000000, .ref 0, .ref 82, .int x3], [], am_hp RF s2) (.int r2.1, am_hp RF r2.2)) : ∀ (x3 : Int32) (s : am_S) (r : Int32 × am_S), F_L_law_b1008 L xs k18 x3 s = some r → am_Q (some (L, xs)) d mL_law (1008, [.ref 1000000, .ref 0, .ref 82, .int x3], [], am_hp RF s) (.int r.1, am_hp RF r.2) := by
  obtain ⟨e, rfl⟩ : ∃ e, d = e + 1 := ⟨d - 1, by omega⟩
  intro x3 s r h
  unfold F_L_law_b1008 at h
  refine aq_aload_n dL_law_1008 rfl ?_
  refine aq_aload_n dL_law_1009 rfl ?_
  refine aq_iload_n dL_law_1010 rfl ?_
  refine aq_iconst (v := (1 : Int32)) dL_law_1011 (by decide) ?_
  refine aq_iadd dL_law_1012 ?_
  obtain ⟨hg1, h⟩ := am_guard h
  refine aq_ialdX dL_law_1013 hg1 ?_
  obtain ⟨q2, hq3, h⟩ := am_bnd h
  refine aq_virt (a := [.ref 0, .int (xs (x3 + (1 : Int32)).toNatClampNeg)]) (S1 := []) (v1 := .int q2.1) (S2 := [.int q2.1]) dL_law_1014 cv_19_133_11 (am_cls_c sh_0 (by decide)) rfl rfl rfl (Nat.le_of_ble_eq_true rfl) (Nat.le_of_ble_eq_true rfl) (T_X11_span_0 hR (by omega) hq3) rfl ?_
  refine aq_aload_n dL_law_1017 rfl ?_
  refine aq_aload_n dL_law_1018 rfl ?_
  refine aq_iload_n dL_law_1019 rfl ?_
  refine aq_iconst (v := (1 : Int32)) dL_law_1020 (by decide) ?_
  refine aq_iadd dL_law_1021 ?_
  obtain ⟨hg4, h⟩ := am_guard h
  refine aq_ialdX dL_law_1022 hg4 ?_
  obtain ⟨q5, hq6, h⟩ := am_bnd h
  refine aq_virt (a := [.ref 82, .int (xs (x3 + (1 : Int32)).toNatClampNeg)]) (S1 := [.int q2.1]) (v1 := .int q5.1) (S2 := [.int q5.1, .int q2.1]) dL_law_1023 cv_19_136_12 (am_cls_c sh_82 (by decide)) rfl rfl rfl (Nat.le_of_ble_eq_true rfl) (Nat.le_of_ble_eq_true rfl) (T_X12_span_82 hR (by omega) hq6) rfl ?_
  by_cases hc7 : q2.1 = q5.1
  · rw [if_pos hc7] at h
    refine aq_icT (t := 1631) dL_law_1026 rfl (decide_eq_true hc7) ?_
    exact T_L_law_b1631 hR (by omega) hk18 _ _ _ h
  · rw [if_neg hc7] at h
    refine aq_icF (t := 1631) dL_law_1026 rfl (decide_eq_false hc7) ?_
    refine aq_iconst (v := (0 : Int32)) dL_law_1029 (by decide) ?_
    obtain rfl := Option.some.inj h
    exact aq_ireturn dL_law_1030 rfl (Or.inr (Or.inl rfl)) rfl
set_option maxRecDepth 20000 in
theorem T_L_law_b1031 {L : Nat} {xs : Nat → Int32} {RF : Nat → Nat → Option Nat} {d : Nat} (hR : am_RFok RF) (hd : 43 ≤ d) {k18 : Int32 → am_S → Option (Int32 × am_S)} (hk18 : ∀ (x3 : Int32) (s2 : am_S) (r2 : Int32 × am_S), k18 x3 s2 = some r2 → am_Q (some (L, xs)) d mL_law (18, [.ref 1000000, .ref 0, .ref 82, .int x3], [], am_hp RF s2) (.int r2.1, am_hp RF r2.2)) : ∀ (x3 : Int32) (s : am_S) (r : Int32 × am_S), F_L_law_b1031 L xs k18 x3 s = some r → am_Q (some (L, xs)) d mL_law (1031, [.ref 1000000, .ref 0, .ref 82, .int x3], [], am_hp RF s) (.int r.1, am_hp RF r.2) := by
  obtain ⟨e, rfl⟩ : ∃ e, d = e + 1 := ⟨d - 1, by omega⟩
  intro x3 s r h
  unfold F_L_law_b1031 at h
  refine aq_aload_n dL_law_1031 rfl ?_
  obtain ⟨q1, hq2, h⟩ := am_bnd h
  refine aq_virt (a := [.ref 0]) (S1 := []) (v1 := .int q1.1) (S2 := [.int q1.1]) dL_law_1032 cv_19_137_11 (am_cls_c sh_0 (by decide)) rfl rfl rfl (Nat.le_of_ble_eq_true rfl) (Nat.le_of_ble_eq_true rfl) (T_X11_liar_0 hR (by omega) hq2) rfl ?_
  refine aq_aload_n dL_law_1035 rfl ?_
  obtain ⟨q3, hq4, h⟩ := am_bnd h
  refine aq_virt (a := [.ref 82]) (S1 := [.int q1.1]) (v1 := .int q3.1) (S2 := [.int q3.1, .int q1.1]) dL_law_1036 cv_19_140_12 (am_cls_c sh_82 (by decide)) rfl rfl rfl (Nat.le_of_ble_eq_true rfl) (Nat.le_of_ble_eq_true rfl) (T_X12_liar_82 hR (by omega) hq4) rfl ?_
  by_cases hc5 : q1.1 = q3.1
  · rw [if_pos hc5] at h
    refine aq_icT (t := 1631) dL_law_1039 rfl (decide_eq_true hc5) ?_
    exact T_L_law_b1631 hR (by omega) hk18 _ _ _ h
  · rw [if_neg hc5] at h
    refine aq_icF (t := 1631) dL_law_1039 rfl (decide_eq_false hc5) ?_
    refine aq_iconst (v := (0 : Int32)) dL_law_1042 (by decide) ?_
    obtain rfl := Option.some.inj h
    exact aq_ireturn dL_law_1043 rfl (Or.inr (Or.inl rfl)) rfl
set_option maxRecDepth 20000 in
theorem T_L_law_b1044 {L : Nat} {xs : Nat → Int32} {RF : Nat → Nat → Option Nat} {d : Nat} (hR : am_RFok RF) (hd : 43 ≤ d) {k18 : Int32 → am_S → Option (Int32 × am_S)} (hk18 : ∀ (x3 : Int32) (s2 : am_S) (r2 : Int32 × am_S), k18 x3 s2 = some r2 → am_Q (some (L, xs)) d mL_law (18, [.ref 1000000, .ref 0, .ref 82, .int x3], [], am_hp RF s2) (.int r2.1, am_hp RF r2.2)) : ∀ (x3 : Int32) (s : am_S) (r : Int32 × am_S), F_L_law_b1044 L xs k18 x3 s = some r → am_Q (some (L, xs)) d mL_law (1044, [.ref 1000000, .ref 0, .ref 82, .int x3], [], am_hp RF s) (.int r.1, am_hp RF r.2) := by
  obtain ⟨e, rfl⟩ : ∃ e, d = e + 1 := ⟨d - 1, by omega⟩
  intro x3 s r h
  unfold F_L_law_b1044 at h
  refine aq_aload_n dL_law_1044 rfl ?_
  refine aq_aload_n dL_law_1045 rfl ?_
  refine aq_iload_n dL_law_1046 rfl ?_
  refine aq_iconst (v := (1 : Int32)) dL_law_1047 (by decide) ?_
  refine aq_iadd dL_law_1048 ?_
  obtain ⟨hg1, h⟩ := am_guard h
  refine aq_ialdX dL_law_1049 hg1 ?_
  obtain ⟨q2, hq3, h⟩ := am_bnd h
  refine aq_virt (a := [.ref 0, .int (xs (x3 + (1 : Int32)).toNatClampNeg)]) (S1 := []) (v1 := .int q2.1) (S2 := [.int q2.1]) dL_law_1050 cv_19_141_11 (am_cls_c sh_0 (by decide)) rfl rfl rfl (Nat.le_of_ble_eq_true rfl) (Nat.le_of_ble_eq_true rfl) (T_X11_seed_0 hR (by omega) hq3) rfl ?_
  refine aq_aload_n dL_law_1053 rfl ?_
  refine aq_aload_n dL_law_1054 rfl ?_
  refine aq_iload_n dL_law_1055 rfl ?_
  refine aq_iconst (v := (1 : Int32)) dL_law_1056 (by decide) ?_
  refine aq_iadd dL_law_1057 ?_
  obtain ⟨hg4, h⟩ := am_guard h
  refine aq_ialdX dL_law_1058 hg4 ?_
  obtain ⟨q5, hq6, h⟩ := am_bnd h
  refine aq_virt (a := [.ref 82, .int (xs (x3 + (1 : Int32)).toNatClampNeg)]) (S1 := [.int q2.1]) (v1 := .int q5.1) (S2 := [.int q5.1, .int q2.1]) dL_law_1059 cv_19_144_12 (am_cls_c sh_82 (by decide)) rfl rfl rfl (Nat.le_of_ble_eq_true rfl) (Nat.le_of_ble_eq_true rfl) (T_X12_seed_82 hR (by omega) hq6) rfl ?_
  by_cases hc7 : q2.1 = q5.1
  · rw [if_pos hc7] at h
    refine aq_icT (t := 1631) dL_law_1062 rfl (decide_eq_true hc7) ?_
    exact T_L_law_b1631 hR (by omega) hk18 _ _ _ h
  · rw [if_neg hc7] at h
    refine aq_icF (t := 1631) dL_law_1062 rfl (decide_eq_false hc7) ?_
    refine aq_iconst (v := (0 : Int32)) dL_law_1065 (by decide) ?_
    obtain rfl := Option.some.inj h
    exact aq_ireturn dL_law_1066 rfl (Or.inr (Or.inl rfl)) rfl
set_option maxRecDepth 20000 in
theorem T_L_law_b1067 {L : Nat} {xs : Nat → Int32} {RF : Nat → Nat → Option Nat} {d : Nat} (hR : am_RFok RF) (hd : 43 ≤ d) {k18 : Int32 → am_S → Option (Int32 × am_S)} (hk18 : ∀ (x3 : Int32) (s2 : am_S) (r2 : Int32 × am_S), k18 x3 s2 = some r2 → am_Q (some (L, xs)) d mL_law (18, [.ref 1000000, .ref 0, .ref 82, .int x3], [], am_hp RF s2) (.int r2.1, am_hp RF r2.2)) : ∀ (x3 : Int32) (s : am_S) (r : Int32 × am_S), F_L_law_b1067 L xs k18 x3 s = some r → am_Q (some (L, xs)) d mL_law (1067, [.ref 1000000, .ref 0, .ref 82, .int x3], [], am_hp RF s) (.int r.1, am_hp RF r.2) := by
  obtain ⟨e, rfl⟩ : ∃ e, d = e + 1 := ⟨d - 1, by omega⟩
  intro x3 s r h
  unfold F_L_law_b1067 at h
  refine aq_aload_n dL_law_1067 rfl ?_
  obtain ⟨q1, hq2, h⟩ := am_bnd h
  refine aq_virt (a := [.ref 0]) (S1 := []) (v1 := .int q1.1) (S2 := [.int q1.1]) dL_law_1068 cv_19_145_11 (am_cls_c sh_0 (by decide)) rfl rfl rfl (Nat.le_of_ble_eq_true rfl) (Nat.le_of_ble_eq_true rfl) (T_X11_lot_0 hR (by omega) hq2) rfl ?_
  refine aq_aload_n dL_law_1071 rfl ?_
  obtain ⟨q3, hq4, h⟩ := am_bnd h
  refine aq_virt (a := [.ref 82]) (S1 := [.int q1.1]) (v1 := .int q3.1) (S2 := [.int q3.1, .int q1.1]) dL_law_1072 cv_19_148_12 (am_cls_c sh_82 (by decide)) rfl rfl rfl (Nat.le_of_ble_eq_true rfl) (Nat.le_of_ble_eq_true rfl) (T_X12_lot_82 hR (by omega) hq4) rfl ?_
  by_cases hc5 : q1.1 = q3.1
  · rw [if_pos hc5] at h
    refine aq_icT (t := 1631) dL_law_1075 rfl (decide_eq_true hc5) ?_
    exact T_L_law_b1631 hR (by omega) hk18 _ _ _ h
  · rw [if_neg hc5] at h
    refine aq_icF (t := 1631) dL_law_1075 rfl (decide_eq_false hc5) ?_
    refine aq_iconst (v := (0 : Int32)) dL_law_1078 (by decide) ?_
    obtain rfl := Option.some.inj h
    exact aq_ireturn dL_law_1079 rfl (Or.inr (Or.inl rfl)) rfl
set_option maxRecDepth 20000 in
theorem T_L_law_b1080 {L : Nat} {xs : Nat → Int32} {RF : Nat → Nat → Option Nat} {d : Nat} (hR : am_RFok RF) (hd : 43 ≤ d) {k18 : Int32 → am_S → Option (Int32 × am_S)} (hk18 : ∀ (x3 : Int32) (s2 : am_S) (r2 : Int32 × am_S), k18 x3 s2 = some r2 → am_Q (some (L, xs)) d mL_law (18, [.ref 1000000, .ref 0, .ref 82, .int x3], [], am_hp RF s2) (.int r2.1, am_hp RF r2.2)) : ∀ (x3 : Int32) (s : am_S) (r : Int32 × am_S), F_L_law_b1080 L xs k18 x3 s = some r → am_Q (some (L, xs)) d mL_law (1080, [.ref 1000000, .ref 0, .ref 82, .int x3], [], am_hp RF s) (.int r.1, am_hp RF r.2) := by
  obtain ⟨e, rfl⟩ : ∃ e, d = e + 1 := ⟨d - 1, by omega⟩
  intro x3 s r h
  unfold F_L_law_b1080 at h
  refine aq_aload_n dL_law_1080 rfl ?_
  refine aq_aload_n dL_law_1081 rfl ?_
  refine aq_iload_n dL_law_1082 rfl ?_
  refine aq_iconst (v := (1 : Int32)) dL_law_1083 (by decide) ?_
  refine aq_iadd dL_law_1084 ?_
  obtain ⟨hg1, h⟩ := am_guard h
  refine aq_ialdX dL_law_1085 hg1 ?_
  refine aq_aload_n dL_law_1086 rfl ?_
  refine aq_iload_n dL_law_1087 rfl ?_
  refine aq_iconst (v := (2 : Int32)) dL_law_1088 (by decide) ?_
  refine aq_iadd dL_law_1089 ?_
  obtain ⟨hg2, h⟩ := am_guard h
  refine aq_ialdX dL_law_1090 hg2 ?_
  obtain ⟨q3, hq4, h⟩ := am_bnd h
  refine aq_virt (a := [.ref 0, .int (xs (x3 + (1 : Int32)).toNatClampNeg), .int (xs (x3 + (2 : Int32)).toNatClampNeg)]) (S1 := []) (v1 := .int q3.1) (S2 := [.int q3.1]) dL_law_1091 cv_19_149_11 (am_cls_c sh_0 (by decide)) rfl rfl rfl (Nat.le_of_ble_eq_true rfl) (Nat.le_of_ble_eq_true rfl) (T_X11_times_0 hR (by omega) hq4) rfl ?_
  refine aq_aload_n dL_law_1094 rfl ?_
  refine aq_aload_n dL_law_1095 rfl ?_
  refine aq_iload_n dL_law_1096 rfl ?_
  refine aq_iconst (v := (1 : Int32)) dL_law_1097 (by decide) ?_
  refine aq_iadd dL_law_1098 ?_
  obtain ⟨hg5, h⟩ := am_guard h
  refine aq_ialdX dL_law_1099 hg5 ?_
  refine aq_aload_n dL_law_1100 rfl ?_
  refine aq_iload_n dL_law_1101 rfl ?_
  refine aq_iconst (v := (2 : Int32)) dL_law_1102 (by decide) ?_
  refine aq_iadd dL_law_1103 ?_
  obtain ⟨hg6, h⟩ := am_guard h
  refine aq_ialdX dL_law_1104 hg6 ?_
  obtain ⟨q7, hq8, h⟩ := am_bnd h
  refine aq_virt (a := [.ref 82, .int (xs (x3 + (1 : Int32)).toNatClampNeg), .int (xs (x3 + (2 : Int32)).toNatClampNeg)]) (S1 := [.int q3.1]) (v1 := .int q7.1) (S2 := [.int q7.1, .int q3.1]) dL_law_1105 cv_19_152_12 (am_cls_c sh_82 (by decide)) rfl rfl rfl (Nat.le_of_ble_eq_true rfl) (Nat.le_of_ble_eq_true rfl) (T_X12_times_82 hR (by omega) hq8) rfl ?_
  by_cases hc9 : q3.1 = q7.1
  · rw [if_pos hc9] at h
    refine aq_icT (t := 1631) dL_law_1108 rfl (decide_eq_true hc9) ?_
    exact T_L_law_b1631 hR (by omega) hk18 _ _ _ h
  · rw [if_neg hc9] at h
    refine aq_icF (t := 1631) dL_law_1108 rfl (decide_eq_false hc9) ?_
    refine aq_iconst (v := (0 : Int32)) dL_law_1111 (by decide) ?_
    obtain rfl := Option.some.inj h
    exact aq_ireturn dL_law_1112 rfl (Or.inr (Or.inl rfl)) rfl
set_option maxRecDepth 20000 in
theorem T_L_law_b1113 {L : Nat} {xs : Nat → Int32} {RF : Nat → Nat → Option Nat} {d : Nat} (hR : am_RFok RF) (hd : 43 ≤ d) {k18 : Int32 → am_S → Option (Int32 × am_S)} (hk18 : ∀ (x3 : Int32) (s2 : am_S) (r2 : Int32 × am_S), k18 x3 s2 = some r2 → am_Q (some (L, xs)) d mL_law (18, [.ref 1000000, .ref 0, .ref 82, .int x3], [], am_hp RF s2) (.int r2.1, am_hp RF r2.2)) : ∀ (x3 : Int32) (s : am_S) (r : Int32 × am_S), F_L_law_b1113 L xs k18 x3 s = some r → am_Q (some (L, xs)) d mL_law (1113, [.ref 1000000, .ref 0, .ref 82, .int x3], [], am_hp RF s) (.int r.1, am_hp RF r.2) := by
  obtain ⟨e, rfl⟩ : ∃ e, d = e + 1 := ⟨d - 1, by omega⟩
  intro x3 s r h
  unfold F_L_law_b1113 at h
  refine aq_aload_n dL_law_1113 rfl ?_
  refine aq_aload_n dL_law_1114 rfl ?_
  refine aq_iload_n dL_law_1115 rfl ?_
  refine aq_iconst (v := (1 : Int32)) dL_law_1116 (by decide) ?_
  refine aq_iadd dL_law_1117 ?_
  obtain ⟨hg1, h⟩ := am_guard h
  refine aq_ialdX dL_law_1118 hg1 ?_
  obtain ⟨q2, hq3, h⟩ := am_bnd h
  refine aq_virt (a := [.ref 0, .int (xs (x3 + (1 : Int32)).toNatClampNeg)]) (S1 := []) (v1 := .int q2.1) (S2 := [.int q2.1]) dL_law_1119 cv_19_153_11 (am_cls_c sh_0 (by decide)) rfl rfl rfl (Nat.le_of_ble_eq_true rfl) (Nat.le_of_ble_eq_true rfl) (T_X11_prove_0 hR (by omega) hq3) rfl ?_
  refine aq_aload_n dL_law_1122 rfl ?_
  refine aq_aload_n dL_law_1123 rfl ?_
  refine aq_iload_n dL_law_1124 rfl ?_
  refine aq_iconst (v := (1 : Int32)) dL_law_1125 (by decide) ?_
  refine aq_iadd dL_law_1126 ?_
  obtain ⟨hg4, h⟩ := am_guard h
  refine aq_ialdX dL_law_1127 hg4 ?_
  obtain ⟨q5, hq6, h⟩ := am_bnd h
  refine aq_virt (a := [.ref 82, .int (xs (x3 + (1 : Int32)).toNatClampNeg)]) (S1 := [.int q2.1]) (v1 := .int q5.1) (S2 := [.int q5.1, .int q2.1]) dL_law_1128 cv_19_156_12 (am_cls_c sh_82 (by decide)) rfl rfl rfl (Nat.le_of_ble_eq_true rfl) (Nat.le_of_ble_eq_true rfl) (T_X12_prove_82 hR (by omega) hq6) rfl ?_
  by_cases hc7 : q2.1 = q5.1
  · rw [if_pos hc7] at h
    refine aq_icT (t := 1631) dL_law_1131 rfl (decide_eq_true hc7) ?_
    exact T_L_law_b1631 hR (by omega) hk18 _ _ _ h
  · rw [if_neg hc7] at h
    refine aq_icF (t := 1631) dL_law_1131 rfl (decide_eq_false hc7) ?_
    refine aq_iconst (v := (0 : Int32)) dL_law_1134 (by decide) ?_
    obtain rfl := Option.some.inj h
    exact aq_ireturn dL_law_1135 rfl (Or.inr (Or.inl rfl)) rfl
set_option maxRecDepth 20000 in
theorem T_L_law_b1136 {L : Nat} {xs : Nat → Int32} {RF : Nat → Nat → Option Nat} {d : Nat} (hR : am_RFok RF) (hd : 43 ≤ d) {k18 : Int32 → am_S → Option (Int32 × am_S)} (hk18 : ∀ (x3 : Int32) (s2 : am_S) (r2 : Int32 × am_S), k18 x3 s2 = some r2 → am_Q (some (L, xs)) d mL_law (18, [.ref 1000000, .ref 0, .ref 82, .int x3], [], am_hp RF s2) (.int r2.1, am_hp RF r2.2)) : ∀ (x3 : Int32) (s : am_S) (r : Int32 × am_S), F_L_law_b1136 L xs k18 x3 s = some r → am_Q (some (L, xs)) d mL_law (1136, [.ref 1000000, .ref 0, .ref 82, .int x3], [], am_hp RF s) (.int r.1, am_hp RF r.2) := by
  obtain ⟨e, rfl⟩ : ∃ e, d = e + 1 := ⟨d - 1, by omega⟩
  intro x3 s r h
  unfold F_L_law_b1136 at h
  refine aq_aload_n dL_law_1136 rfl ?_
  refine aq_aload_n dL_law_1137 rfl ?_
  refine aq_iload_n dL_law_1138 rfl ?_
  refine aq_iconst (v := (1 : Int32)) dL_law_1139 (by decide) ?_
  refine aq_iadd dL_law_1140 ?_
  obtain ⟨hg1, h⟩ := am_guard h
  refine aq_ialdX dL_law_1141 hg1 ?_
  refine aq_aload_n dL_law_1142 rfl ?_
  refine aq_iload_n dL_law_1143 rfl ?_
  refine aq_iconst (v := (2 : Int32)) dL_law_1144 (by decide) ?_
  refine aq_iadd dL_law_1145 ?_
  obtain ⟨hg2, h⟩ := am_guard h
  refine aq_ialdX dL_law_1146 hg2 ?_
  obtain ⟨q3, hq4, h⟩ := am_bnd h
  refine aq_virt (a := [.ref 0, .int (xs (x3 + (1 : Int32)).toNatClampNeg), .int (xs (x3 + (2 : Int32)).toNatClampNeg)]) (S1 := []) (v1 := .int q3.1) (S2 := [.int q3.1]) dL_law_1147 cv_19_157_11 (am_cls_c sh_0 (by decide)) rfl rfl rfl (Nat.le_of_ble_eq_true rfl) (Nat.le_of_ble_eq_true rfl) (T_X11_row_0 hR (by omega) hq4) rfl ?_
  refine aq_aload_n dL_law_1150 rfl ?_
  refine aq_aload_n dL_law_1151 rfl ?_
  refine aq_iload_n dL_law_1152 rfl ?_
  refine aq_iconst (v := (1 : Int32)) dL_law_1153 (by decide) ?_
  refine aq_iadd dL_law_1154 ?_
  obtain ⟨hg5, h⟩ := am_guard h
  refine aq_ialdX dL_law_1155 hg5 ?_
  refine aq_aload_n dL_law_1156 rfl ?_
  refine aq_iload_n dL_law_1157 rfl ?_
  refine aq_iconst (v := (2 : Int32)) dL_law_1158 (by decide) ?_
  refine aq_iadd dL_law_1159 ?_
  obtain ⟨hg6, h⟩ := am_guard h
  refine aq_ialdX dL_law_1160 hg6 ?_
  obtain ⟨q7, hq8, h⟩ := am_bnd h
  refine aq_virt (a := [.ref 82, .int (xs (x3 + (1 : Int32)).toNatClampNeg), .int (xs (x3 + (2 : Int32)).toNatClampNeg)]) (S1 := [.int q3.1]) (v1 := .int q7.1) (S2 := [.int q7.1, .int q3.1]) dL_law_1161 cv_19_160_12 (am_cls_c sh_82 (by decide)) rfl rfl rfl (Nat.le_of_ble_eq_true rfl) (Nat.le_of_ble_eq_true rfl) (T_X12_row_82 hR (by omega) hq8) rfl ?_
  by_cases hc9 : q3.1 = q7.1
  · rw [if_pos hc9] at h
    refine aq_icT (t := 1631) dL_law_1164 rfl (decide_eq_true hc9) ?_
    exact T_L_law_b1631 hR (by omega) hk18 _ _ _ h
  · rw [if_neg hc9] at h
    refine aq_icF (t := 1631) dL_law_1164 rfl (decide_eq_false hc9) ?_
    refine aq_iconst (v := (0 : Int32)) dL_law_1167 (by decide) ?_
    obtain rfl := Option.some.inj h
    exact aq_ireturn dL_law_1168 rfl (Or.inr (Or.inl rfl)) rfl
set_option maxRecDepth 20000 in
theorem T_L_law_b1169 {L : Nat} {xs : Nat → Int32} {RF : Nat → Nat → Option Nat} {d : Nat} (hR : am_RFok RF) (hd : 43 ≤ d) {k18 : Int32 → am_S → Option (Int32 × am_S)} (hk18 : ∀ (x3 : Int32) (s2 : am_S) (r2 : Int32 × am_S), k18 x3 s2 = some r2 → am_Q (some (L, xs)) d mL_law (18, [.ref 1000000, .ref 0, .ref 82, .int x3], [], am_hp RF s2) (.int r2.1, am_hp RF r2.2)) : ∀ (x3 : Int32) (s : am_S) (r : Int32 × am_S), F_L_law_b1169 L xs k18 x3 s = some r → am_Q (some (L, xs)) d mL_law (1169, [.ref 1000000, .ref 0, .ref 82, .int x3], [], am_hp RF s) (.int r.1, am_hp RF r.2) := by
  obtain ⟨e, rfl⟩ : ∃ e, d = e + 1 := ⟨d - 1, by omega⟩
  intro x3 s r h
  unfold F_L_law_b1169 at h
  refine aq_aload_n dL_law_1169 rfl ?_
  refine aq_aload_n dL_law_1170 rfl ?_
  refine aq_iload_n dL_law_1171 rfl ?_
  refine aq_iconst (v := (1 : Int32)) dL_law_1172 (by decide) ?_
  refine aq_iadd dL_law_1173 ?_
  obtain ⟨hg1, h⟩ := am_guard h
  refine aq_ialdX dL_law_1174 hg1 ?_
  refine aq_aload_n dL_law_1175 rfl ?_
  refine aq_iload_n dL_law_1176 rfl ?_
  refine aq_iconst (v := (2 : Int32)) dL_law_1177 (by decide) ?_
  refine aq_iadd dL_law_1178 ?_
  obtain ⟨hg2, h⟩ := am_guard h
  refine aq_ialdX dL_law_1179 hg2 ?_
  refine aq_aload_n dL_law_1180 rfl ?_
  refine aq_iload_n dL_law_1181 rfl ?_
  refine aq_iconst (v := (3 : Int32)) dL_law_1182 (by decide) ?_
  refine aq_iadd dL_law_1183 ?_
  obtain ⟨hg3, h⟩ := am_guard h
  refine aq_ialdX dL_law_1184 hg3 ?_
  obtain ⟨q4, hq5, h⟩ := am_bnd h
  refine aq_virt (a := [.ref 0, .int (xs (x3 + (1 : Int32)).toNatClampNeg), .int (xs (x3 + (2 : Int32)).toNatClampNeg), .int (xs (x3 + (3 : Int32)).toNatClampNeg)]) (S1 := []) (v1 := .int q4.1) (S2 := [.int q4.1]) dL_law_1185 cv_19_161_11 (am_cls_c sh_0 (by decide)) rfl rfl rfl (Nat.le_of_ble_eq_true rfl) (Nat.le_of_ble_eq_true rfl) (T_X11_alterRow_0 hR (by omega) hq5) rfl ?_
  refine aq_aload_n dL_law_1188 rfl ?_
  refine aq_aload_n dL_law_1189 rfl ?_
  refine aq_iload_n dL_law_1190 rfl ?_
  refine aq_iconst (v := (1 : Int32)) dL_law_1191 (by decide) ?_
  refine aq_iadd dL_law_1192 ?_
  obtain ⟨hg6, h⟩ := am_guard h
  refine aq_ialdX dL_law_1193 hg6 ?_
  refine aq_aload_n dL_law_1194 rfl ?_
  refine aq_iload_n dL_law_1195 rfl ?_
  refine aq_iconst (v := (2 : Int32)) dL_law_1196 (by decide) ?_
  refine aq_iadd dL_law_1197 ?_
  obtain ⟨hg7, h⟩ := am_guard h
  refine aq_ialdX dL_law_1198 hg7 ?_
  refine aq_aload_n dL_law_1199 rfl ?_
  refine aq_iload_n dL_law_1200 rfl ?_
  refine aq_iconst (v := (3 : Int32)) dL_law_1201 (by decide) ?_
  refine aq_iadd dL_law_1202 ?_
  obtain ⟨hg8, h⟩ := am_guard h
  refine aq_ialdX dL_law_1203 hg8 ?_
  obtain ⟨q9, hq10, h⟩ := am_bnd h
  refine aq_virt (a := [.ref 82, .int (xs (x3 + (1 : Int32)).toNatClampNeg), .int (xs (x3 + (2 : Int32)).toNatClampNeg), .int (xs (x3 + (3 : Int32)).toNatClampNeg)]) (S1 := [.int q4.1]) (v1 := .int q9.1) (S2 := [.int q9.1, .int q4.1]) dL_law_1204 cv_19_164_12 (am_cls_c sh_82 (by decide)) rfl rfl rfl (Nat.le_of_ble_eq_true rfl) (Nat.le_of_ble_eq_true rfl) (T_X12_alterRow_82 hR (by omega) hq10) rfl ?_
  by_cases hc11 : q4.1 = q9.1
  · rw [if_pos hc11] at h
    refine aq_icT (t := 1631) dL_law_1207 rfl (decide_eq_true hc11) ?_
    exact T_L_law_b1631 hR (by omega) hk18 _ _ _ h
  · rw [if_neg hc11] at h
    refine aq_icF (t := 1631) dL_law_1207 rfl (decide_eq_false hc11) ?_
    refine aq_iconst (v := (0 : Int32)) dL_law_1210 (by decide) ?_
    obtain rfl := Option.some.inj h
    exact aq_ireturn dL_law_1211 rfl (Or.inr (Or.inl rfl)) rfl
set_option maxRecDepth 20000 in
theorem T_L_law_b1212 {L : Nat} {xs : Nat → Int32} {RF : Nat → Nat → Option Nat} {d : Nat} (hR : am_RFok RF) (hd : 43 ≤ d) {k18 : Int32 → am_S → Option (Int32 × am_S)} (hk18 : ∀ (x3 : Int32) (s2 : am_S) (r2 : Int32 × am_S), k18 x3 s2 = some r2 → am_Q (some (L, xs)) d mL_law (18, [.ref 1000000, .ref 0, .ref 82, .int x3], [], am_hp RF s2) (.int r2.1, am_hp RF r2.2)) : ∀ (x3 : Int32) (s : am_S) (r : Int32 × am_S), F_L_law_b1212 L xs k18 x3 s = some r → am_Q (some (L, xs)) d mL_law (1212, [.ref 1000000, .ref 0, .ref 82, .int x3], [], am_hp RF s) (.int r.1, am_hp RF r.2) := by
  obtain ⟨e, rfl⟩ : ∃ e, d = e + 1 := ⟨d - 1, by omega⟩
  intro x3 s r h
  unfold F_L_law_b1212 at h
  refine aq_aload_n dL_law_1212 rfl ?_
  obtain ⟨q1, hq2, h⟩ := am_bnd h
  refine aq_virt (a := [.ref 0]) (S1 := []) (v1 := .int q1.1) (S2 := [.int q1.1]) dL_law_1213 cv_19_165_11 (am_cls_c sh_0 (by decide)) rfl rfl rfl (Nat.le_of_ble_eq_true rfl) (Nat.le_of_ble_eq_true rfl) (T_X11_judge_0 hR (by omega) hq2) rfl ?_
  refine aq_aload_n dL_law_1216 rfl ?_
  obtain ⟨q3, hq4, h⟩ := am_bnd h
  refine aq_virt (a := [.ref 82]) (S1 := [.int q1.1]) (v1 := .int q3.1) (S2 := [.int q3.1, .int q1.1]) dL_law_1217 cv_19_168_12 (am_cls_c sh_82 (by decide)) rfl rfl rfl (Nat.le_of_ble_eq_true rfl) (Nat.le_of_ble_eq_true rfl) (T_X12_judge_82 hR (by omega) hq4) rfl ?_
  by_cases hc5 : q1.1 = q3.1
  · rw [if_pos hc5] at h
    refine aq_icT (t := 1631) dL_law_1220 rfl (decide_eq_true hc5) ?_
    exact T_L_law_b1631 hR (by omega) hk18 _ _ _ h
  · rw [if_neg hc5] at h
    refine aq_icF (t := 1631) dL_law_1220 rfl (decide_eq_false hc5) ?_
    refine aq_iconst (v := (0 : Int32)) dL_law_1223 (by decide) ?_
    obtain rfl := Option.some.inj h
    exact aq_ireturn dL_law_1224 rfl (Or.inr (Or.inl rfl)) rfl
set_option maxRecDepth 20000 in
theorem T_L_law_b1225 {L : Nat} {xs : Nat → Int32} {RF : Nat → Nat → Option Nat} {d : Nat} (hR : am_RFok RF) (hd : 43 ≤ d) {k18 : Int32 → am_S → Option (Int32 × am_S)} (hk18 : ∀ (x3 : Int32) (s2 : am_S) (r2 : Int32 × am_S), k18 x3 s2 = some r2 → am_Q (some (L, xs)) d mL_law (18, [.ref 1000000, .ref 0, .ref 82, .int x3], [], am_hp RF s2) (.int r2.1, am_hp RF r2.2)) : ∀ (x3 : Int32) (s : am_S) (r : Int32 × am_S), F_L_law_b1225 L xs k18 x3 s = some r → am_Q (some (L, xs)) d mL_law (1225, [.ref 1000000, .ref 0, .ref 82, .int x3], [], am_hp RF s) (.int r.1, am_hp RF r.2) := by
  obtain ⟨e, rfl⟩ : ∃ e, d = e + 1 := ⟨d - 1, by omega⟩
  intro x3 s r h
  unfold F_L_law_b1225 at h
  refine aq_aload_n dL_law_1225 rfl ?_
  refine aq_aload_n dL_law_1226 rfl ?_
  refine aq_iload_n dL_law_1227 rfl ?_
  refine aq_iconst (v := (1 : Int32)) dL_law_1228 (by decide) ?_
  refine aq_iadd dL_law_1229 ?_
  obtain ⟨hg1, h⟩ := am_guard h
  refine aq_ialdX dL_law_1230 hg1 ?_
  refine aq_aload_n dL_law_1231 rfl ?_
  refine aq_iload_n dL_law_1232 rfl ?_
  refine aq_iconst (v := (2 : Int32)) dL_law_1233 (by decide) ?_
  refine aq_iadd dL_law_1234 ?_
  obtain ⟨hg2, h⟩ := am_guard h
  refine aq_ialdX dL_law_1235 hg2 ?_
  refine aq_aload_n dL_law_1236 rfl ?_
  refine aq_iload_n dL_law_1237 rfl ?_
  refine aq_iconst (v := (3 : Int32)) dL_law_1238 (by decide) ?_
  refine aq_iadd dL_law_1239 ?_
  obtain ⟨hg3, h⟩ := am_guard h
  refine aq_ialdX dL_law_1240 hg3 ?_
  obtain ⟨q4, hq5, h⟩ := am_bnd h
  refine aq_virt (a := [.ref 0, .int (xs (x3 + (1 : Int32)).toNatClampNeg), .int (xs (x3 + (2 : Int32)).toNatClampNeg), .int (xs (x3 + (3 : Int32)).toNatClampNeg)]) (S1 := []) (v1 := .int q4.1) (S2 := [.int q4.1]) dL_law_1241 cv_19_169_11 (am_cls_c sh_0 (by decide)) rfl rfl rfl (Nat.le_of_ble_eq_true rfl) (Nat.le_of_ble_eq_true rfl) (T_X11_sheet_0 hR (by omega) hq5) rfl ?_
  refine aq_aload_n dL_law_1244 rfl ?_
  refine aq_aload_n dL_law_1245 rfl ?_
  refine aq_iload_n dL_law_1246 rfl ?_
  refine aq_iconst (v := (1 : Int32)) dL_law_1247 (by decide) ?_
  refine aq_iadd dL_law_1248 ?_
  obtain ⟨hg6, h⟩ := am_guard h
  refine aq_ialdX dL_law_1249 hg6 ?_
  refine aq_aload_n dL_law_1250 rfl ?_
  refine aq_iload_n dL_law_1251 rfl ?_
  refine aq_iconst (v := (2 : Int32)) dL_law_1252 (by decide) ?_
  refine aq_iadd dL_law_1253 ?_
  obtain ⟨hg7, h⟩ := am_guard h
  refine aq_ialdX dL_law_1254 hg7 ?_
  refine aq_aload_n dL_law_1255 rfl ?_
  refine aq_iload_n dL_law_1256 rfl ?_
  refine aq_iconst (v := (3 : Int32)) dL_law_1257 (by decide) ?_
  refine aq_iadd dL_law_1258 ?_
  obtain ⟨hg8, h⟩ := am_guard h
  refine aq_ialdX dL_law_1259 hg8 ?_
  obtain ⟨q9, hq10, h⟩ := am_bnd h
  refine aq_virt (a := [.ref 82, .int (xs (x3 + (1 : Int32)).toNatClampNeg), .int (xs (x3 + (2 : Int32)).toNatClampNeg), .int (xs (x3 + (3 : Int32)).toNatClampNeg)]) (S1 := [.int q4.1]) (v1 := .int q9.1) (S2 := [.int q9.1, .int q4.1]) dL_law_1260 cv_19_172_12 (am_cls_c sh_82 (by decide)) rfl rfl rfl (Nat.le_of_ble_eq_true rfl) (Nat.le_of_ble_eq_true rfl) (T_X12_sheet_82 hR (by omega) hq10) rfl ?_
  by_cases hc11 : q4.1 = q9.1
  · rw [if_pos hc11] at h
    refine aq_icT (t := 1631) dL_law_1263 rfl (decide_eq_true hc11) ?_
    exact T_L_law_b1631 hR (by omega) hk18 _ _ _ h
  · rw [if_neg hc11] at h
    refine aq_icF (t := 1631) dL_law_1263 rfl (decide_eq_false hc11) ?_
    refine aq_iconst (v := (0 : Int32)) dL_law_1266 (by decide) ?_
    obtain rfl := Option.some.inj h
    exact aq_ireturn dL_law_1267 rfl (Or.inr (Or.inl rfl)) rfl
set_option maxRecDepth 20000 in
theorem T_L_law_b1268 {L : Nat} {xs : Nat → Int32} {RF : Nat → Nat → Option Nat} {d : Nat} (hR : am_RFok RF) (hd : 43 ≤ d) {k18 : Int32 → am_S → Option (Int32 × am_S)} (hk18 : ∀ (x3 : Int32) (s2 : am_S) (r2 : Int32 × am_S), k18 x3 s2 = some r2 → am_Q (some (L, xs)) d mL_law (18, [.ref 1000000, .ref 0, .ref 82, .int x3], [], am_hp RF s2) (.int r2.1, am_hp RF r2.2)) : ∀ (x3 : Int32) (s : am_S) (r : Int32 × am_S), F_L_law_b1268 L xs k18 x3 s = some r → am_Q (some (L, xs)) d mL_law (1268, [.ref 1000000, .ref 0, .ref 82, .int x3], [], am_hp RF s) (.int r.1, am_hp RF r.2) := by
  obtain ⟨e, rfl⟩ : ∃ e, d = e + 1 := ⟨d - 1, by omega⟩
  intro x3 s r h
  unfold F_L_law_b1268 at h
  refine aq_aload_n dL_law_1268 rfl ?_
  refine aq_aload_n dL_law_1269 rfl ?_
  refine aq_iload_n dL_law_1270 rfl ?_
  refine aq_iconst (v := (1 : Int32)) dL_law_1271 (by decide) ?_
  refine aq_iadd dL_law_1272 ?_
  obtain ⟨hg1, h⟩ := am_guard h
  refine aq_ialdX dL_law_1273 hg1 ?_
  refine aq_aload_n dL_law_1274 rfl ?_
  refine aq_iload_n dL_law_1275 rfl ?_
  refine aq_iconst (v := (2 : Int32)) dL_law_1276 (by decide) ?_
  refine aq_iadd dL_law_1277 ?_
  obtain ⟨hg2, h⟩ := am_guard h
  refine aq_ialdX dL_law_1278 hg2 ?_
  refine aq_aload_n dL_law_1279 rfl ?_
  refine aq_iload_n dL_law_1280 rfl ?_
  refine aq_iconst (v := (3 : Int32)) dL_law_1281 (by decide) ?_
  refine aq_iadd dL_law_1282 ?_
  obtain ⟨hg3, h⟩ := am_guard h
  refine aq_ialdX dL_law_1283 hg3 ?_
  obtain ⟨q4, hq5, h⟩ := am_bnd h
  refine aq_virt (a := [.ref 0, .int (xs (x3 + (1 : Int32)).toNatClampNeg), .int (xs (x3 + (2 : Int32)).toNatClampNeg), .int (xs (x3 + (3 : Int32)).toNatClampNeg)]) (S1 := []) (v1 := .int q4.1) (S2 := [.int q4.1]) dL_law_1284 cv_19_173_11 (am_cls_c sh_0 (by decide)) rfl rfl rfl (Nat.le_of_ble_eq_true rfl) (Nat.le_of_ble_eq_true rfl) (T_X11_write_0 hR (by omega) hq5) rfl ?_
  refine aq_aload_n dL_law_1287 rfl ?_
  refine aq_aload_n dL_law_1288 rfl ?_
  refine aq_iload_n dL_law_1289 rfl ?_
  refine aq_iconst (v := (1 : Int32)) dL_law_1290 (by decide) ?_
  refine aq_iadd dL_law_1291 ?_
  obtain ⟨hg6, h⟩ := am_guard h
  refine aq_ialdX dL_law_1292 hg6 ?_
  refine aq_aload_n dL_law_1293 rfl ?_
  refine aq_iload_n dL_law_1294 rfl ?_
  refine aq_iconst (v := (2 : Int32)) dL_law_1295 (by decide) ?_
  refine aq_iadd dL_law_1296 ?_
  obtain ⟨hg7, h⟩ := am_guard h
  refine aq_ialdX dL_law_1297 hg7 ?_
  refine aq_aload_n dL_law_1298 rfl ?_
  refine aq_iload_n dL_law_1299 rfl ?_
  refine aq_iconst (v := (3 : Int32)) dL_law_1300 (by decide) ?_
  refine aq_iadd dL_law_1301 ?_
  obtain ⟨hg8, h⟩ := am_guard h
  refine aq_ialdX dL_law_1302 hg8 ?_
  obtain ⟨q9, hq10, h⟩ := am_bnd h
  refine aq_virt (a := [.ref 82, .int (xs (x3 + (1 : Int32)).toNatClampNeg), .int (xs (x3 + (2 : Int32)).toNatClampNeg), .int (xs (x3 + (3 : Int32)).toNatClampNeg)]) (S1 := [.int q4.1]) (v1 := .int q9.1) (S2 := [.int q9.1, .int q4.1]) dL_law_1303 cv_19_176_12 (am_cls_c sh_82 (by decide)) rfl rfl rfl (Nat.le_of_ble_eq_true rfl) (Nat.le_of_ble_eq_true rfl) (T_X12_write_82 hR (by omega) hq10) rfl ?_
  by_cases hc11 : q4.1 = q9.1
  · rw [if_pos hc11] at h
    refine aq_icT (t := 1631) dL_law_1306 rfl (decide_eq_true hc11) ?_
    exact T_L_law_b1631 hR (by omega) hk18 _ _ _ h
  · rw [if_neg hc11] at h
    refine aq_icF (t := 1631) dL_law_1306 rfl (decide_eq_false hc11) ?_
    refine aq_iconst (v := (0 : Int32)) dL_law_1309 (by decide) ?_
    obtain rfl := Option.some.inj h
    exact aq_ireturn dL_law_1310 rfl (Or.inr (Or.inl rfl)) rfl
set_option maxRecDepth 20000 in
theorem T_L_law_b1311 {L : Nat} {xs : Nat → Int32} {RF : Nat → Nat → Option Nat} {d : Nat} (hR : am_RFok RF) (hd : 43 ≤ d) {k18 : Int32 → am_S → Option (Int32 × am_S)} (hk18 : ∀ (x3 : Int32) (s2 : am_S) (r2 : Int32 × am_S), k18 x3 s2 = some r2 → am_Q (some (L, xs)) d mL_law (18, [.ref 1000000, .ref 0, .ref 82, .int x3], [], am_hp RF s2) (.int r2.1, am_hp RF r2.2)) : ∀ (x3 : Int32) (s : am_S) (r : Int32 × am_S), F_L_law_b1311 L xs k18 x3 s = some r → am_Q (some (L, xs)) d mL_law (1311, [.ref 1000000, .ref 0, .ref 82, .int x3], [], am_hp RF s) (.int r.1, am_hp RF r.2) := by
  obtain ⟨e, rfl⟩ : ∃ e, d = e + 1 := ⟨d - 1, by omega⟩
  intro x3 s r h
  unfold F_L_law_b1311 at h
  refine aq_aload_n dL_law_1311 rfl ?_
  refine aq_aload_n dL_law_1312 rfl ?_
  refine aq_iload_n dL_law_1313 rfl ?_
  refine aq_iconst (v := (1 : Int32)) dL_law_1314 (by decide) ?_
  refine aq_iadd dL_law_1315 ?_
  obtain ⟨hg1, h⟩ := am_guard h
  refine aq_ialdX dL_law_1316 hg1 ?_
  refine aq_aload_n dL_law_1317 rfl ?_
  refine aq_iload_n dL_law_1318 rfl ?_
  refine aq_iconst (v := (2 : Int32)) dL_law_1319 (by decide) ?_
  refine aq_iadd dL_law_1320 ?_
  obtain ⟨hg2, h⟩ := am_guard h
  refine aq_ialdX dL_law_1321 hg2 ?_
  refine aq_aload_n dL_law_1322 rfl ?_
  refine aq_iload_n dL_law_1323 rfl ?_
  refine aq_iconst (v := (3 : Int32)) dL_law_1324 (by decide) ?_
  refine aq_iadd dL_law_1325 ?_
  obtain ⟨hg3, h⟩ := am_guard h
  refine aq_ialdX dL_law_1326 hg3 ?_
  obtain ⟨q4, hq5, h⟩ := am_bnd h
  refine aq_virt (a := [.ref 0, .int (xs (x3 + (1 : Int32)).toNatClampNeg), .int (xs (x3 + (2 : Int32)).toNatClampNeg), .int (xs (x3 + (3 : Int32)).toNatClampNeg)]) (S1 := []) (v1 := .int q4.1) (S2 := [.int q4.1]) dL_law_1327 cv_19_177_11 (am_cls_c sh_0 (by decide)) rfl rfl rfl (Nat.le_of_ble_eq_true rfl) (Nat.le_of_ble_eq_true rfl) (T_X11_item_0 hR (by omega) hq5) rfl ?_
  refine aq_aload_n dL_law_1330 rfl ?_
  refine aq_aload_n dL_law_1331 rfl ?_
  refine aq_iload_n dL_law_1332 rfl ?_
  refine aq_iconst (v := (1 : Int32)) dL_law_1333 (by decide) ?_
  refine aq_iadd dL_law_1334 ?_
  obtain ⟨hg6, h⟩ := am_guard h
  refine aq_ialdX dL_law_1335 hg6 ?_
  refine aq_aload_n dL_law_1336 rfl ?_
  refine aq_iload_n dL_law_1337 rfl ?_
  refine aq_iconst (v := (2 : Int32)) dL_law_1338 (by decide) ?_
  refine aq_iadd dL_law_1339 ?_
  obtain ⟨hg7, h⟩ := am_guard h
  refine aq_ialdX dL_law_1340 hg7 ?_
  refine aq_aload_n dL_law_1341 rfl ?_
  refine aq_iload_n dL_law_1342 rfl ?_
  refine aq_iconst (v := (3 : Int32)) dL_law_1343 (by decide) ?_
  refine aq_iadd dL_law_1344 ?_
  obtain ⟨hg8, h⟩ := am_guard h
  refine aq_ialdX dL_law_1345 hg8 ?_
  obtain ⟨q9, hq10, h⟩ := am_bnd h
  refine aq_virt (a := [.ref 82, .int (xs (x3 + (1 : Int32)).toNatClampNeg), .int (xs (x3 + (2 : Int32)).toNatClampNeg), .int (xs (x3 + (3 : Int32)).toNatClampNeg)]) (S1 := [.int q4.1]) (v1 := .int q9.1) (S2 := [.int q9.1, .int q4.1]) dL_law_1346 cv_19_180_12 (am_cls_c sh_82 (by decide)) rfl rfl rfl (Nat.le_of_ble_eq_true rfl) (Nat.le_of_ble_eq_true rfl) (T_X12_item_82 hR (by omega) hq10) rfl ?_
  by_cases hc11 : q4.1 = q9.1
  · rw [if_pos hc11] at h
    refine aq_icT (t := 1631) dL_law_1349 rfl (decide_eq_true hc11) ?_
    exact T_L_law_b1631 hR (by omega) hk18 _ _ _ h
  · rw [if_neg hc11] at h
    refine aq_icF (t := 1631) dL_law_1349 rfl (decide_eq_false hc11) ?_
    refine aq_iconst (v := (0 : Int32)) dL_law_1352 (by decide) ?_
    obtain rfl := Option.some.inj h
    exact aq_ireturn dL_law_1353 rfl (Or.inr (Or.inl rfl)) rfl
set_option maxRecDepth 20000 in
theorem T_L_law_b1354 {L : Nat} {xs : Nat → Int32} {RF : Nat → Nat → Option Nat} {d : Nat} (hR : am_RFok RF) (hd : 43 ≤ d) {k18 : Int32 → am_S → Option (Int32 × am_S)} (hk18 : ∀ (x3 : Int32) (s2 : am_S) (r2 : Int32 × am_S), k18 x3 s2 = some r2 → am_Q (some (L, xs)) d mL_law (18, [.ref 1000000, .ref 0, .ref 82, .int x3], [], am_hp RF s2) (.int r2.1, am_hp RF r2.2)) : ∀ (x3 : Int32) (s : am_S) (r : Int32 × am_S), F_L_law_b1354 L xs k18 x3 s = some r → am_Q (some (L, xs)) d mL_law (1354, [.ref 1000000, .ref 0, .ref 82, .int x3], [], am_hp RF s) (.int r.1, am_hp RF r.2) := by
  obtain ⟨e, rfl⟩ : ∃ e, d = e + 1 := ⟨d - 1, by omega⟩
  intro x3 s r h
  unfold F_L_law_b1354 at h
  refine aq_aload_n dL_law_1354 rfl ?_
  refine aq_aload_n dL_law_1355 rfl ?_
  refine aq_iload_n dL_law_1356 rfl ?_
  refine aq_iconst (v := (1 : Int32)) dL_law_1357 (by decide) ?_
  refine aq_iadd dL_law_1358 ?_
  obtain ⟨hg1, h⟩ := am_guard h
  refine aq_ialdX dL_law_1359 hg1 ?_
  refine aq_aload_n dL_law_1360 rfl ?_
  refine aq_iload_n dL_law_1361 rfl ?_
  refine aq_iconst (v := (2 : Int32)) dL_law_1362 (by decide) ?_
  refine aq_iadd dL_law_1363 ?_
  obtain ⟨hg2, h⟩ := am_guard h
  refine aq_ialdX dL_law_1364 hg2 ?_
  refine aq_aload_n dL_law_1365 rfl ?_
  refine aq_iload_n dL_law_1366 rfl ?_
  refine aq_iconst (v := (3 : Int32)) dL_law_1367 (by decide) ?_
  refine aq_iadd dL_law_1368 ?_
  obtain ⟨hg3, h⟩ := am_guard h
  refine aq_ialdX dL_law_1369 hg3 ?_
  obtain ⟨q4, hq5, h⟩ := am_bnd h
  refine aq_virt (a := [.ref 0, .int (xs (x3 + (1 : Int32)).toNatClampNeg), .int (xs (x3 + (2 : Int32)).toNatClampNeg), .int (xs (x3 + (3 : Int32)).toNatClampNeg)]) (S1 := []) (v1 := .int q4.1) (S2 := [.int q4.1]) dL_law_1370 cv_19_181_11 (am_cls_c sh_0 (by decide)) rfl rfl rfl (Nat.le_of_ble_eq_true rfl) (Nat.le_of_ble_eq_true rfl) (T_X11_goAll_0 hR (by omega) hq5) rfl ?_
  refine aq_aload_n dL_law_1373 rfl ?_
  refine aq_aload_n dL_law_1374 rfl ?_
  refine aq_iload_n dL_law_1375 rfl ?_
  refine aq_iconst (v := (1 : Int32)) dL_law_1376 (by decide) ?_
  refine aq_iadd dL_law_1377 ?_
  obtain ⟨hg6, h⟩ := am_guard h
  refine aq_ialdX dL_law_1378 hg6 ?_
  refine aq_aload_n dL_law_1379 rfl ?_
  refine aq_iload_n dL_law_1380 rfl ?_
  refine aq_iconst (v := (2 : Int32)) dL_law_1381 (by decide) ?_
  refine aq_iadd dL_law_1382 ?_
  obtain ⟨hg7, h⟩ := am_guard h
  refine aq_ialdX dL_law_1383 hg7 ?_
  refine aq_aload_n dL_law_1384 rfl ?_
  refine aq_iload_n dL_law_1385 rfl ?_
  refine aq_iconst (v := (3 : Int32)) dL_law_1386 (by decide) ?_
  refine aq_iadd dL_law_1387 ?_
  obtain ⟨hg8, h⟩ := am_guard h
  refine aq_ialdX dL_law_1388 hg8 ?_
  obtain ⟨q9, hq10, h⟩ := am_bnd h
  refine aq_virt (a := [.ref 82, .int (xs (x3 + (1 : Int32)).toNatClampNeg), .int (xs (x3 + (2 : Int32)).toNatClampNeg), .int (xs (x3 + (3 : Int32)).toNatClampNeg)]) (S1 := [.int q4.1]) (v1 := .int q9.1) (S2 := [.int q9.1, .int q4.1]) dL_law_1389 cv_19_184_12 (am_cls_c sh_82 (by decide)) rfl rfl rfl (Nat.le_of_ble_eq_true rfl) (Nat.le_of_ble_eq_true rfl) (T_X12_goAll_82 hR (by omega) hq10) rfl ?_
  by_cases hc11 : q4.1 = q9.1
  · rw [if_pos hc11] at h
    refine aq_icT (t := 1631) dL_law_1392 rfl (decide_eq_true hc11) ?_
    exact T_L_law_b1631 hR (by omega) hk18 _ _ _ h
  · rw [if_neg hc11] at h
    refine aq_icF (t := 1631) dL_law_1392 rfl (decide_eq_false hc11) ?_
    refine aq_iconst (v := (0 : Int32)) dL_law_1395 (by decide) ?_
    obtain rfl := Option.some.inj h
    exact aq_ireturn dL_law_1396 rfl (Or.inr (Or.inl rfl)) rfl
set_option maxRecDepth 20000 in
theorem T_L_law_b1397 {L : Nat} {xs : Nat → Int32} {RF : Nat → Nat → Option Nat} {d : Nat} (hR : am_RFok RF) (hd : 43 ≤ d) {k18 : Int32 → am_S → Option (Int32 × am_S)} (hk18 : ∀ (x3 : Int32) (s2 : am_S) (r2 : Int32 × am_S), k18 x3 s2 = some r2 → am_Q (some (L, xs)) d mL_law (18, [.ref 1000000, .ref 0, .ref 82, .int x3], [], am_hp RF s2) (.int r2.1, am_hp RF r2.2)) : ∀ (x3 : Int32) (s : am_S) (r : Int32 × am_S), F_L_law_b1397 L xs k18 x3 s = some r → am_Q (some (L, xs)) d mL_law (1397, [.ref 1000000, .ref 0, .ref 82, .int x3], [], am_hp RF s) (.int r.1, am_hp RF r.2) := by
  obtain ⟨e, rfl⟩ : ∃ e, d = e + 1 := ⟨d - 1, by omega⟩
  intro x3 s r h
  unfold F_L_law_b1397 at h
  refine aq_aload_n dL_law_1397 rfl ?_
  refine aq_aload_n dL_law_1398 rfl ?_
  refine aq_iload_n dL_law_1399 rfl ?_
  refine aq_iconst (v := (1 : Int32)) dL_law_1400 (by decide) ?_
  refine aq_iadd dL_law_1401 ?_
  obtain ⟨hg1, h⟩ := am_guard h
  refine aq_ialdX dL_law_1402 hg1 ?_
  refine aq_aload_n dL_law_1403 rfl ?_
  refine aq_iload_n dL_law_1404 rfl ?_
  refine aq_iconst (v := (2 : Int32)) dL_law_1405 (by decide) ?_
  refine aq_iadd dL_law_1406 ?_
  obtain ⟨hg2, h⟩ := am_guard h
  refine aq_ialdX dL_law_1407 hg2 ?_
  refine aq_aload_n dL_law_1408 rfl ?_
  refine aq_iload_n dL_law_1409 rfl ?_
  refine aq_iconst (v := (3 : Int32)) dL_law_1410 (by decide) ?_
  refine aq_iadd dL_law_1411 ?_
  obtain ⟨hg3, h⟩ := am_guard h
  refine aq_ialdX dL_law_1412 hg3 ?_
  obtain ⟨q4, hq5, h⟩ := am_bnd h
  refine aq_virt (a := [.ref 0, .int (xs (x3 + (1 : Int32)).toNatClampNeg), .int (xs (x3 + (2 : Int32)).toNatClampNeg), .int (xs (x3 + (3 : Int32)).toNatClampNeg)]) (S1 := []) (v1 := .int q4.1) (S2 := [.int q4.1]) dL_law_1413 cv_19_185_11 (am_cls_c sh_0 (by decide)) rfl rfl rfl (Nat.le_of_ble_eq_true rfl) (Nat.le_of_ble_eq_true rfl) (T_X11_wouldBe_0 hR (by omega) hq5) rfl ?_
  refine aq_aload_n dL_law_1416 rfl ?_
  refine aq_aload_n dL_law_1417 rfl ?_
  refine aq_iload_n dL_law_1418 rfl ?_
  refine aq_iconst (v := (1 : Int32)) dL_law_1419 (by decide) ?_
  refine aq_iadd dL_law_1420 ?_
  obtain ⟨hg6, h⟩ := am_guard h
  refine aq_ialdX dL_law_1421 hg6 ?_
  refine aq_aload_n dL_law_1422 rfl ?_
  refine aq_iload_n dL_law_1423 rfl ?_
  refine aq_iconst (v := (2 : Int32)) dL_law_1424 (by decide) ?_
  refine aq_iadd dL_law_1425 ?_
  obtain ⟨hg7, h⟩ := am_guard h
  refine aq_ialdX dL_law_1426 hg7 ?_
  refine aq_aload_n dL_law_1427 rfl ?_
  refine aq_iload_n dL_law_1428 rfl ?_
  refine aq_iconst (v := (3 : Int32)) dL_law_1429 (by decide) ?_
  refine aq_iadd dL_law_1430 ?_
  obtain ⟨hg8, h⟩ := am_guard h
  refine aq_ialdX dL_law_1431 hg8 ?_
  obtain ⟨q9, hq10, h⟩ := am_bnd h
  refine aq_virt (a := [.ref 82, .int (xs (x3 + (1 : Int32)).toNatClampNeg), .int (xs (x3 + (2 : Int32)).toNatClampNeg), .int (xs (x3 + (3 : Int32)).toNatClampNeg)]) (S1 := [.int q4.1]) (v1 := .int q9.1) (S2 := [.int q9.1, .int q4.1]) dL_law_1432 cv_19_188_12 (am_cls_c sh_82 (by decide)) rfl rfl rfl (Nat.le_of_ble_eq_true rfl) (Nat.le_of_ble_eq_true rfl) (T_X12_wouldBe_82 hR (by omega) hq10) rfl ?_
  by_cases hc11 : q4.1 = q9.1
  · rw [if_pos hc11] at h
    refine aq_icT (t := 1631) dL_law_1435 rfl (decide_eq_true hc11) ?_
    exact T_L_law_b1631 hR (by omega) hk18 _ _ _ h
  · rw [if_neg hc11] at h
    refine aq_icF (t := 1631) dL_law_1435 rfl (decide_eq_false hc11) ?_
    refine aq_iconst (v := (0 : Int32)) dL_law_1438 (by decide) ?_
    obtain rfl := Option.some.inj h
    exact aq_ireturn dL_law_1439 rfl (Or.inr (Or.inl rfl)) rfl
set_option maxRecDepth 20000 in
theorem T_L_law_b1440 {L : Nat} {xs : Nat → Int32} {RF : Nat → Nat → Option Nat} {d : Nat} (hR : am_RFok RF) (hd : 43 ≤ d) {k18 : Int32 → am_S → Option (Int32 × am_S)} (hk18 : ∀ (x3 : Int32) (s2 : am_S) (r2 : Int32 × am_S), k18 x3 s2 = some r2 → am_Q (some (L, xs)) d mL_law (18, [.ref 1000000, .ref 0, .ref 82, .int x3], [], am_hp RF s2) (.int r2.1, am_hp RF r2.2)) : ∀ (x3 : Int32) (s : am_S) (r : Int32 × am_S), F_L_law_b1440 L xs k18 x3 s = some r → am_Q (some (L, xs)) d mL_law (1440, [.ref 1000000, .ref 0, .ref 82, .int x3], [], am_hp RF s) (.int r.1, am_hp RF r.2) := by
  obtain ⟨e, rfl⟩ : ∃ e, d = e + 1 := ⟨d - 1, by omega⟩
  intro x3 s r h
  unfold F_L_law_b1440 at h
  refine aq_aload_n dL_law_1440 rfl ?_
  refine aq_aload_n dL_law_1441 rfl ?_
  refine aq_iload_n dL_law_1442 rfl ?_
  refine aq_iconst (v := (1 : Int32)) dL_law_1443 (by decide) ?_
  refine aq_iadd dL_law_1444 ?_
  obtain ⟨hg1, h⟩ := am_guard h
  refine aq_ialdX dL_law_1445 hg1 ?_
  refine aq_aload_n dL_law_1446 rfl ?_
  refine aq_iload_n dL_law_1447 rfl ?_
  refine aq_iconst (v := (2 : Int32)) dL_law_1448 (by decide) ?_
  refine aq_iadd dL_law_1449 ?_
  obtain ⟨hg2, h⟩ := am_guard h
  refine aq_ialdX dL_law_1450 hg2 ?_
  refine aq_aload_n dL_law_1451 rfl ?_
  refine aq_iload_n dL_law_1452 rfl ?_
  refine aq_iconst (v := (3 : Int32)) dL_law_1453 (by decide) ?_
  refine aq_iadd dL_law_1454 ?_
  obtain ⟨hg3, h⟩ := am_guard h
  refine aq_ialdX dL_law_1455 hg3 ?_
  obtain ⟨q4, hq5, h⟩ := am_bnd h
  refine aq_virt (a := [.ref 0, .int (xs (x3 + (1 : Int32)).toNatClampNeg), .int (xs (x3 + (2 : Int32)).toNatClampNeg), .int (xs (x3 + (3 : Int32)).toNatClampNeg)]) (S1 := []) (v1 := .int q4.1) (S2 := [.int q4.1]) dL_law_1456 cv_19_189_11 (am_cls_c sh_0 (by decide)) rfl rfl rfl (Nat.le_of_ble_eq_true rfl) (Nat.le_of_ble_eq_true rfl) (T_X11_shelf_0 hR (by omega) hq5) rfl ?_
  refine aq_aload_n dL_law_1459 rfl ?_
  refine aq_aload_n dL_law_1460 rfl ?_
  refine aq_iload_n dL_law_1461 rfl ?_
  refine aq_iconst (v := (1 : Int32)) dL_law_1462 (by decide) ?_
  refine aq_iadd dL_law_1463 ?_
  obtain ⟨hg6, h⟩ := am_guard h
  refine aq_ialdX dL_law_1464 hg6 ?_
  refine aq_aload_n dL_law_1465 rfl ?_
  refine aq_iload_n dL_law_1466 rfl ?_
  refine aq_iconst (v := (2 : Int32)) dL_law_1467 (by decide) ?_
  refine aq_iadd dL_law_1468 ?_
  obtain ⟨hg7, h⟩ := am_guard h
  refine aq_ialdX dL_law_1469 hg7 ?_
  refine aq_aload_n dL_law_1470 rfl ?_
  refine aq_iload_n dL_law_1471 rfl ?_
  refine aq_iconst (v := (3 : Int32)) dL_law_1472 (by decide) ?_
  refine aq_iadd dL_law_1473 ?_
  obtain ⟨hg8, h⟩ := am_guard h
  refine aq_ialdX dL_law_1474 hg8 ?_
  obtain ⟨q9, hq10, h⟩ := am_bnd h
  refine aq_virt (a := [.ref 82, .int (xs (x3 + (1 : Int32)).toNatClampNeg), .int (xs (x3 + (2 : Int32)).toNatClampNeg), .int (xs (x3 + (3 : Int32)).toNatClampNeg)]) (S1 := [.int q4.1]) (v1 := .int q9.1) (S2 := [.int q9.1, .int q4.1]) dL_law_1475 cv_19_192_12 (am_cls_c sh_82 (by decide)) rfl rfl rfl (Nat.le_of_ble_eq_true rfl) (Nat.le_of_ble_eq_true rfl) (T_X12_shelf_82 hR (by omega) hq10) rfl ?_
  by_cases hc11 : q4.1 = q9.1
  · rw [if_pos hc11] at h
    refine aq_icT (t := 1631) dL_law_1478 rfl (decide_eq_true hc11) ?_
    exact T_L_law_b1631 hR (by omega) hk18 _ _ _ h
  · rw [if_neg hc11] at h
    refine aq_icF (t := 1631) dL_law_1478 rfl (decide_eq_false hc11) ?_
    refine aq_iconst (v := (0 : Int32)) dL_law_1481 (by decide) ?_
    obtain rfl := Option.some.inj h
    exact aq_ireturn dL_law_1482 rfl (Or.inr (Or.inl rfl)) rfl
set_option maxRecDepth 20000 in
theorem T_L_law_b1483 {L : Nat} {xs : Nat → Int32} {RF : Nat → Nat → Option Nat} {d : Nat} (hR : am_RFok RF) (hd : 43 ≤ d) {k18 : Int32 → am_S → Option (Int32 × am_S)} (hk18 : ∀ (x3 : Int32) (s2 : am_S) (r2 : Int32 × am_S), k18 x3 s2 = some r2 → am_Q (some (L, xs)) d mL_law (18, [.ref 1000000, .ref 0, .ref 82, .int x3], [], am_hp RF s2) (.int r2.1, am_hp RF r2.2)) : ∀ (x3 : Int32) (s : am_S) (r : Int32 × am_S), F_L_law_b1483 L xs k18 x3 s = some r → am_Q (some (L, xs)) d mL_law (1483, [.ref 1000000, .ref 0, .ref 82, .int x3], [], am_hp RF s) (.int r.1, am_hp RF r.2) := by
  obtain ⟨e, rfl⟩ : ∃ e, d = e + 1 := ⟨d - 1, by omega⟩
  intro x3 s r h
  unfold F_L_law_b1483 at h
  refine aq_aload_n dL_law_1483 rfl ?_
  refine aq_aload_n dL_law_1484 rfl ?_
  refine aq_iload_n dL_law_1485 rfl ?_
  refine aq_iconst (v := (1 : Int32)) dL_law_1486 (by decide) ?_
  refine aq_iadd dL_law_1487 ?_
  obtain ⟨hg1, h⟩ := am_guard h
  refine aq_ialdX dL_law_1488 hg1 ?_
  refine aq_aload_n dL_law_1489 rfl ?_
  refine aq_iload_n dL_law_1490 rfl ?_
  refine aq_iconst (v := (2 : Int32)) dL_law_1491 (by decide) ?_
  refine aq_iadd dL_law_1492 ?_
  obtain ⟨hg2, h⟩ := am_guard h
  refine aq_ialdX dL_law_1493 hg2 ?_
  obtain ⟨q3, hq4, h⟩ := am_bnd h
  refine aq_virt (a := [.ref 0, .int (xs (x3 + (1 : Int32)).toNatClampNeg), .int (xs (x3 + (2 : Int32)).toNatClampNeg)]) (S1 := []) (v1 := .int q3.1) (S2 := [.int q3.1]) dL_law_1494 cv_19_193_11 (am_cls_c sh_0 (by decide)) rfl rfl rfl (Nat.le_of_ble_eq_true rfl) (Nat.le_of_ble_eq_true rfl) (T_X11_taken_0 hR (by omega) hq4) rfl ?_
  refine aq_aload_n dL_law_1497 rfl ?_
  refine aq_aload_n dL_law_1498 rfl ?_
  refine aq_iload_n dL_law_1499 rfl ?_
  refine aq_iconst (v := (1 : Int32)) dL_law_1500 (by decide) ?_
  refine aq_iadd dL_law_1501 ?_
  obtain ⟨hg5, h⟩ := am_guard h
  refine aq_ialdX dL_law_1502 hg5 ?_
  refine aq_aload_n dL_law_1503 rfl ?_
  refine aq_iload_n dL_law_1504 rfl ?_
  refine aq_iconst (v := (2 : Int32)) dL_law_1505 (by decide) ?_
  refine aq_iadd dL_law_1506 ?_
  obtain ⟨hg6, h⟩ := am_guard h
  refine aq_ialdX dL_law_1507 hg6 ?_
  obtain ⟨q7, hq8, h⟩ := am_bnd h
  refine aq_virt (a := [.ref 82, .int (xs (x3 + (1 : Int32)).toNatClampNeg), .int (xs (x3 + (2 : Int32)).toNatClampNeg)]) (S1 := [.int q3.1]) (v1 := .int q7.1) (S2 := [.int q7.1, .int q3.1]) dL_law_1508 cv_19_196_12 (am_cls_c sh_82 (by decide)) rfl rfl rfl (Nat.le_of_ble_eq_true rfl) (Nat.le_of_ble_eq_true rfl) (T_X12_taken_82 hR (by omega) hq8) rfl ?_
  by_cases hc9 : q3.1 = q7.1
  · rw [if_pos hc9] at h
    refine aq_icT (t := 1631) dL_law_1511 rfl (decide_eq_true hc9) ?_
    exact T_L_law_b1631 hR (by omega) hk18 _ _ _ h
  · rw [if_neg hc9] at h
    refine aq_icF (t := 1631) dL_law_1511 rfl (decide_eq_false hc9) ?_
    refine aq_iconst (v := (0 : Int32)) dL_law_1514 (by decide) ?_
    obtain rfl := Option.some.inj h
    exact aq_ireturn dL_law_1515 rfl (Or.inr (Or.inl rfl)) rfl
set_option maxRecDepth 20000 in
theorem T_L_law_b1516 {L : Nat} {xs : Nat → Int32} {RF : Nat → Nat → Option Nat} {d : Nat} (hR : am_RFok RF) (hd : 43 ≤ d) {k18 : Int32 → am_S → Option (Int32 × am_S)} (hk18 : ∀ (x3 : Int32) (s2 : am_S) (r2 : Int32 × am_S), k18 x3 s2 = some r2 → am_Q (some (L, xs)) d mL_law (18, [.ref 1000000, .ref 0, .ref 82, .int x3], [], am_hp RF s2) (.int r2.1, am_hp RF r2.2)) : ∀ (x3 : Int32) (s : am_S) (r : Int32 × am_S), F_L_law_b1516 L xs k18 x3 s = some r → am_Q (some (L, xs)) d mL_law (1516, [.ref 1000000, .ref 0, .ref 82, .int x3], [], am_hp RF s) (.int r.1, am_hp RF r.2) := by
  obtain ⟨e, rfl⟩ : ∃ e, d = e + 1 := ⟨d - 1, by omega⟩
  intro x3 s r h
  unfold F_L_law_b1516 at h
  refine aq_aload_n dL_law_1516 rfl ?_
  refine aq_aload_n dL_law_1517 rfl ?_
  refine aq_iload_n dL_law_1518 rfl ?_
  refine aq_iconst (v := (1 : Int32)) dL_law_1519 (by decide) ?_
  refine aq_iadd dL_law_1520 ?_
  obtain ⟨hg1, h⟩ := am_guard h
  refine aq_ialdX dL_law_1521 hg1 ?_
  refine aq_aload_n dL_law_1522 rfl ?_
  refine aq_iload_n dL_law_1523 rfl ?_
  refine aq_iconst (v := (2 : Int32)) dL_law_1524 (by decide) ?_
  refine aq_iadd dL_law_1525 ?_
  obtain ⟨hg2, h⟩ := am_guard h
  refine aq_ialdX dL_law_1526 hg2 ?_
  refine aq_aload_n dL_law_1527 rfl ?_
  refine aq_iload_n dL_law_1528 rfl ?_
  refine aq_iconst (v := (3 : Int32)) dL_law_1529 (by decide) ?_
  refine aq_iadd dL_law_1530 ?_
  obtain ⟨hg3, h⟩ := am_guard h
  refine aq_ialdX dL_law_1531 hg3 ?_
  obtain ⟨q4, hq5, h⟩ := am_bnd h
  refine aq_virt (a := [.ref 0, .int (xs (x3 + (1 : Int32)).toNatClampNeg), .int (xs (x3 + (2 : Int32)).toNatClampNeg), .int (xs (x3 + (3 : Int32)).toNatClampNeg)]) (S1 := []) (v1 := .int q4.1) (S2 := [.int q4.1]) dL_law_1532 cv_19_197_11 (am_cls_c sh_0 (by decide)) rfl rfl rfl (Nat.le_of_ble_eq_true rfl) (Nat.le_of_ble_eq_true rfl) (T_X11_act_0 hR (by omega) hq5) rfl ?_
  refine aq_aload_n dL_law_1535 rfl ?_
  refine aq_aload_n dL_law_1536 rfl ?_
  refine aq_iload_n dL_law_1537 rfl ?_
  refine aq_iconst (v := (1 : Int32)) dL_law_1538 (by decide) ?_
  refine aq_iadd dL_law_1539 ?_
  obtain ⟨hg6, h⟩ := am_guard h
  refine aq_ialdX dL_law_1540 hg6 ?_
  refine aq_aload_n dL_law_1541 rfl ?_
  refine aq_iload_n dL_law_1542 rfl ?_
  refine aq_iconst (v := (2 : Int32)) dL_law_1543 (by decide) ?_
  refine aq_iadd dL_law_1544 ?_
  obtain ⟨hg7, h⟩ := am_guard h
  refine aq_ialdX dL_law_1545 hg7 ?_
  refine aq_aload_n dL_law_1546 rfl ?_
  refine aq_iload_n dL_law_1547 rfl ?_
  refine aq_iconst (v := (3 : Int32)) dL_law_1548 (by decide) ?_
  refine aq_iadd dL_law_1549 ?_
  obtain ⟨hg8, h⟩ := am_guard h
  refine aq_ialdX dL_law_1550 hg8 ?_
  obtain ⟨q9, hq10, h⟩ := am_bnd h
  refine aq_virt (a := [.ref 82, .int (xs (x3 + (1 : Int32)).toNatClampNeg), .int (xs (x3 + (2 : Int32)).toNatClampNeg), .int (xs (x3 + (3 : Int32)).toNatClampNeg)]) (S1 := [.int q4.1]) (v1 := .int q9.1) (S2 := [.int q9.1, .int q4.1]) dL_law_1551 cv_19_200_12 (am_cls_c sh_82 (by decide)) rfl rfl rfl (Nat.le_of_ble_eq_true rfl) (Nat.le_of_ble_eq_true rfl) (T_X12_act_82 hR (by omega) hq10) rfl ?_
  by_cases hc11 : q4.1 = q9.1
  · rw [if_pos hc11] at h
    refine aq_icT (t := 1631) dL_law_1554 rfl (decide_eq_true hc11) ?_
    exact T_L_law_b1631 hR (by omega) hk18 _ _ _ h
  · rw [if_neg hc11] at h
    refine aq_icF (t := 1631) dL_law_1554 rfl (decide_eq_false hc11) ?_
    refine aq_iconst (v := (0 : Int32)) dL_law_1557 (by decide) ?_
    obtain rfl := Option.some.inj h
    exact aq_ireturn dL_law_1558 rfl (Or.inr (Or.inl rfl)) rfl
set_option maxRecDepth 20000 in
theorem T_L_law_b1559 {L : Nat} {xs : Nat → Int32} {RF : Nat → Nat → Option Nat} {d : Nat} (hR : am_RFok RF) (hd : 43 ≤ d) {k18 : Int32 → am_S → Option (Int32 × am_S)} (hk18 : ∀ (x3 : Int32) (s2 : am_S) (r2 : Int32 × am_S), k18 x3 s2 = some r2 → am_Q (some (L, xs)) d mL_law (18, [.ref 1000000, .ref 0, .ref 82, .int x3], [], am_hp RF s2) (.int r2.1, am_hp RF r2.2)) : ∀ (x3 : Int32) (s : am_S) (r : Int32 × am_S), F_L_law_b1559 L xs k18 x3 s = some r → am_Q (some (L, xs)) d mL_law (1559, [.ref 1000000, .ref 0, .ref 82, .int x3], [], am_hp RF s) (.int r.1, am_hp RF r.2) := by
  obtain ⟨e, rfl⟩ : ∃ e, d = e + 1 := ⟨d - 1, by omega⟩
  intro x3 s r h
  unfold F_L_law_b1559 at h
  refine aq_aload_n dL_law_1559 rfl ?_
  refine aq_aload_n dL_law_1560 rfl ?_
  refine aq_iload_n dL_law_1561 rfl ?_
  refine aq_iconst (v := (1 : Int32)) dL_law_1562 (by decide) ?_
  refine aq_iadd dL_law_1563 ?_
  obtain ⟨hg1, h⟩ := am_guard h
  refine aq_ialdX dL_law_1564 hg1 ?_
  obtain ⟨q2, hq3, h⟩ := am_bnd h
  refine aq_virt (a := [.ref 0, .int (xs (x3 + (1 : Int32)).toNatClampNeg)]) (S1 := []) (v1 := .int q2.1) (S2 := [.int q2.1]) dL_law_1565 cv_19_201_11 (am_cls_c sh_0 (by decide)) rfl rfl rfl (Nat.le_of_ble_eq_true rfl) (Nat.le_of_ble_eq_true rfl) (T_X11_trace_0 hR (by omega) hq3) rfl ?_
  refine aq_aload_n dL_law_1568 rfl ?_
  refine aq_aload_n dL_law_1569 rfl ?_
  refine aq_iload_n dL_law_1570 rfl ?_
  refine aq_iconst (v := (1 : Int32)) dL_law_1571 (by decide) ?_
  refine aq_iadd dL_law_1572 ?_
  obtain ⟨hg4, h⟩ := am_guard h
  refine aq_ialdX dL_law_1573 hg4 ?_
  obtain ⟨q5, hq6, h⟩ := am_bnd h
  refine aq_virt (a := [.ref 82, .int (xs (x3 + (1 : Int32)).toNatClampNeg)]) (S1 := [.int q2.1]) (v1 := .int q5.1) (S2 := [.int q5.1, .int q2.1]) dL_law_1574 cv_19_204_12 (am_cls_c sh_82 (by decide)) rfl rfl rfl (Nat.le_of_ble_eq_true rfl) (Nat.le_of_ble_eq_true rfl) (T_X12_trace_82 hR (by omega) hq6) rfl ?_
  by_cases hc7 : q2.1 = q5.1
  · rw [if_pos hc7] at h
    refine aq_icT (t := 1631) dL_law_1577 rfl (decide_eq_true hc7) ?_
    exact T_L_law_b1631 hR (by omega) hk18 _ _ _ h
  · rw [if_neg hc7] at h
    refine aq_icF (t := 1631) dL_law_1577 rfl (decide_eq_false hc7) ?_
    refine aq_iconst (v := (0 : Int32)) dL_law_1580 (by decide) ?_
    obtain rfl := Option.some.inj h
    exact aq_ireturn dL_law_1581 rfl (Or.inr (Or.inl rfl)) rfl
set_option maxRecDepth 20000 in
theorem T_L_law_b1582 {L : Nat} {xs : Nat → Int32} {RF : Nat → Nat → Option Nat} {d : Nat} (hR : am_RFok RF) (hd : 43 ≤ d) {k18 : Int32 → am_S → Option (Int32 × am_S)} (hk18 : ∀ (x3 : Int32) (s2 : am_S) (r2 : Int32 × am_S), k18 x3 s2 = some r2 → am_Q (some (L, xs)) d mL_law (18, [.ref 1000000, .ref 0, .ref 82, .int x3], [], am_hp RF s2) (.int r2.1, am_hp RF r2.2)) : ∀ (x3 : Int32) (s : am_S) (r : Int32 × am_S), F_L_law_b1582 L xs k18 x3 s = some r → am_Q (some (L, xs)) d mL_law (1582, [.ref 1000000, .ref 0, .ref 82, .int x3], [], am_hp RF s) (.int r.1, am_hp RF r.2) := by
  obtain ⟨e, rfl⟩ : ∃ e, d = e + 1 := ⟨d - 1, by omega⟩
  intro x3 s r h
  unfold F_L_law_b1582 at h
  refine aq_aload_n dL_law_1582 rfl ?_
  refine aq_aload_n dL_law_1583 rfl ?_
  refine aq_iload_n dL_law_1584 rfl ?_
  refine aq_iconst (v := (1 : Int32)) dL_law_1585 (by decide) ?_
  refine aq_iadd dL_law_1586 ?_
  obtain ⟨hg1, h⟩ := am_guard h
  refine aq_ialdX dL_law_1587 hg1 ?_
  obtain ⟨q2, hq3, h⟩ := am_bnd h
  refine aq_virt (a := [.ref 0, .int (xs (x3 + (1 : Int32)).toNatClampNeg)]) (S1 := []) (v1 := .int q2.1) (S2 := [.int q2.1]) dL_law_1588 cv_19_205_11 (am_cls_c sh_0 (by decide)) rfl rfl rfl (Nat.le_of_ble_eq_true rfl) (Nat.le_of_ble_eq_true rfl) (T_X11_many_0 hR (by omega) hq3) rfl ?_
  refine aq_aload_n dL_law_1591 rfl ?_
  refine aq_aload_n dL_law_1592 rfl ?_
  refine aq_iload_n dL_law_1593 rfl ?_
  refine aq_iconst (v := (1 : Int32)) dL_law_1594 (by decide) ?_
  refine aq_iadd dL_law_1595 ?_
  obtain ⟨hg4, h⟩ := am_guard h
  refine aq_ialdX dL_law_1596 hg4 ?_
  obtain ⟨q5, hq6, h⟩ := am_bnd h
  refine aq_virt (a := [.ref 82, .int (xs (x3 + (1 : Int32)).toNatClampNeg)]) (S1 := [.int q2.1]) (v1 := .int q5.1) (S2 := [.int q5.1, .int q2.1]) dL_law_1597 cv_19_208_12 (am_cls_c sh_82 (by decide)) rfl rfl rfl (Nat.le_of_ble_eq_true rfl) (Nat.le_of_ble_eq_true rfl) (T_X12_many_82 hR (by omega) hq6) rfl ?_
  by_cases hc7 : q2.1 = q5.1
  · rw [if_pos hc7] at h
    refine aq_icT (t := 1631) dL_law_1600 rfl (decide_eq_true hc7) ?_
    exact T_L_law_b1631 hR (by omega) hk18 _ _ _ h
  · rw [if_neg hc7] at h
    refine aq_icF (t := 1631) dL_law_1600 rfl (decide_eq_false hc7) ?_
    refine aq_iconst (v := (0 : Int32)) dL_law_1603 (by decide) ?_
    obtain rfl := Option.some.inj h
    exact aq_ireturn dL_law_1604 rfl (Or.inr (Or.inl rfl)) rfl
set_option maxRecDepth 20000 in
theorem T_L_law_b1605 {L : Nat} {xs : Nat → Int32} {RF : Nat → Nat → Option Nat} {d : Nat} (hR : am_RFok RF) (hd : 43 ≤ d) {k18 : Int32 → am_S → Option (Int32 × am_S)} (hk18 : ∀ (x3 : Int32) (s2 : am_S) (r2 : Int32 × am_S), k18 x3 s2 = some r2 → am_Q (some (L, xs)) d mL_law (18, [.ref 1000000, .ref 0, .ref 82, .int x3], [], am_hp RF s2) (.int r2.1, am_hp RF r2.2)) : ∀ (x3 : Int32) (s : am_S) (r : Int32 × am_S), F_L_law_b1605 L xs k18 x3 s = some r → am_Q (some (L, xs)) d mL_law (1605, [.ref 1000000, .ref 0, .ref 82, .int x3], [], am_hp RF s) (.int r.1, am_hp RF r.2) := by
  obtain ⟨e, rfl⟩ : ∃ e, d = e + 1 := ⟨d - 1, by omega⟩
  intro x3 s r h
  unfold F_L_law_b1605 at h
  refine aq_aload_n dL_law_1605 rfl ?_
  obtain ⟨q1, hq2, h⟩ := am_bnd h
  refine aq_virt (a := [.ref 0]) (S1 := []) (v1 := .int q1.1) (S2 := [.int q1.1]) dL_law_1606 cv_19_209_11 (am_cls_c sh_0 (by decide)) rfl rfl rfl (Nat.le_of_ble_eq_true rfl) (Nat.le_of_ble_eq_true rfl) (T_X11_keep_0 hR (by omega) hq2) rfl ?_
  refine aq_aload_n dL_law_1609 rfl ?_
  obtain ⟨q3, hq4, h⟩ := am_bnd h
  refine aq_virt (a := [.ref 82]) (S1 := [.int q1.1]) (v1 := .int q3.1) (S2 := [.int q3.1, .int q1.1]) dL_law_1610 cv_19_212_12 (am_cls_c sh_82 (by decide)) rfl rfl rfl (Nat.le_of_ble_eq_true rfl) (Nat.le_of_ble_eq_true rfl) (T_X12_keep_82 hR (by omega) hq4) rfl ?_
  by_cases hc5 : q1.1 = q3.1
  · rw [if_pos hc5] at h
    refine aq_icT (t := 1631) dL_law_1613 rfl (decide_eq_true hc5) ?_
    exact T_L_law_b1631 hR (by omega) hk18 _ _ _ h
  · rw [if_neg hc5] at h
    refine aq_icF (t := 1631) dL_law_1613 rfl (decide_eq_false hc5) ?_
    refine aq_iconst (v := (0 : Int32)) dL_law_1616 (by decide) ?_
    obtain rfl := Option.some.inj h
    exact aq_ireturn dL_law_1617 rfl (Or.inr (Or.inl rfl)) rfl
set_option maxRecDepth 20000 in
theorem T_L_law_b1618 {L : Nat} {xs : Nat → Int32} {RF : Nat → Nat → Option Nat} {d : Nat} (hR : am_RFok RF) (hd : 43 ≤ d) {k18 : Int32 → am_S → Option (Int32 × am_S)} (hk18 : ∀ (x3 : Int32) (s2 : am_S) (r2 : Int32 × am_S), k18 x3 s2 = some r2 → am_Q (some (L, xs)) d mL_law (18, [.ref 1000000, .ref 0, .ref 82, .int x3], [], am_hp RF s2) (.int r2.1, am_hp RF r2.2)) : ∀ (x3 : Int32) (s : am_S) (r : Int32 × am_S), F_L_law_b1618 L xs k18 x3 s = some r → am_Q (some (L, xs)) d mL_law (1618, [.ref 1000000, .ref 0, .ref 82, .int x3], [], am_hp RF s) (.int r.1, am_hp RF r.2) := by
  obtain ⟨e, rfl⟩ : ∃ e, d = e + 1 := ⟨d - 1, by omega⟩
  intro x3 s r h
  unfold F_L_law_b1618 at h
  refine aq_aload_n dL_law_1618 rfl ?_
  obtain ⟨q1, hq2, h⟩ := am_bnd h
  refine aq_virt (a := [.ref 0]) (S1 := []) (v1 := .int q1.1) (S2 := [.int q1.1]) dL_law_1619 cv_19_213_11 (am_cls_c sh_0 (by decide)) rfl rfl rfl (Nat.le_of_ble_eq_true rfl) (Nat.le_of_ble_eq_true rfl) (T_X11_again_0 hR (by omega) hq2) rfl ?_
  refine aq_aload_n dL_law_1622 rfl ?_
  obtain ⟨q3, hq4, h⟩ := am_bnd h
  refine aq_virt (a := [.ref 82]) (S1 := [.int q1.1]) (v1 := .int q3.1) (S2 := [.int q3.1, .int q1.1]) dL_law_1623 cv_19_216_12 (am_cls_c sh_82 (by decide)) rfl rfl rfl (Nat.le_of_ble_eq_true rfl) (Nat.le_of_ble_eq_true rfl) (T_X12_again_82 hR (by omega) hq4) rfl ?_
  by_cases hc5 : q1.1 = q3.1
  · rw [if_pos hc5] at h
    refine aq_icT (t := 1631) dL_law_1626 rfl (decide_eq_true hc5) ?_
    exact T_L_law_b1631 hR (by omega) hk18 _ _ _ h
  · rw [if_neg hc5] at h
    refine aq_icF (t := 1631) dL_law_1626 rfl (decide_eq_false hc5) ?_
    refine aq_iconst (v := (0 : Int32)) dL_law_1629 (by decide) ?_
    obtain rfl := Option.some.inj h
    exact aq_ireturn dL_law_1630 rfl (Or.inr (Or.inl rfl)) rfl
set_option maxRecDepth 20000 in
theorem T_L_law_b18 {L : Nat} {xs : Nat → Int32} {RF : Nat → Nat → Option Nat} {d : Nat} (hR : am_RFok RF) (hd : 43 ≤ d) : ∀ (n : Nat) (x3 : Int32) (s : am_S) (r : Int32 × am_S), F_L_law_b18 L xs n x3 s = some r → am_Q (some (L, xs)) d mL_law (18, [.ref 1000000, .ref 0, .ref 82, .int x3], [], am_hp RF s) (.int r.1, am_hp RF r.2) := by
  obtain ⟨e, rfl⟩ : ∃ e, d = e + 1 := ⟨d - 1, by omega⟩
  intro n
  induction n with
  | zero => intro x3 s r h; rw [F_L_law_b18] at h; cases h
  | succ n ih =>
  intro x3 s r h
  rw [F_L_law_b18] at h
  refine aq_iload_n dL_law_18 rfl ?_
  refine aq_aload_n dL_law_19 rfl ?_
  refine aq_alenX dL_law_20 ?_
  refine aq_iconst (v := (5 : Int32)) dL_law_21 (by decide) ?_
  refine aq_isub dL_law_22 ?_
  by_cases hc1 : ((Int32.ofNat L) - (5 : Int32)) < x3
  · rw [if_pos hc1] at h
    refine aq_icT (t := 1637) dL_law_23 rfl (decide_eq_true hc1) ?_
    refine aq_iconst (v := (1 : Int32)) dL_law_1637 (by decide) ?_
    obtain rfl := Option.some.inj h
    exact aq_ireturn dL_law_1638 rfl (Or.inr (Or.inl rfl)) rfl
  · rw [if_neg hc1] at h
    refine aq_icF (t := 1637) dL_law_23 rfl (decide_eq_false hc1) ?_
    refine aq_aload_n dL_law_26 rfl ?_
    refine aq_iload_n dL_law_27 rfl ?_
    obtain ⟨hg2, h⟩ := am_guard h
    refine aq_ialdX dL_law_28 hg2 ?_
    refine aq_bipush (v := (63 : Int32)) dL_law_29 (by decide) ?_
    refine aq_iand dL_law_31 ?_
    by_cases hc3 : ((xs x3.toNatClampNeg) &&& (63 : Int32)) = (0 : Int32)
    · rw [if_pos hc3] at h
      refine aq_tsw (t := 244) dL_law_32 (by rw [hc3]; rfl) ?_
      exact T_L_law_b244 hR (by omega) ih _ _ _ h
    rw [if_neg hc3] at h
    by_cases hc4 : ((xs x3.toNatClampNeg) &&& (63 : Int32)) = (1 : Int32)
    · rw [if_pos hc4] at h
      refine aq_tsw (t := 297) dL_law_32 (by rw [hc4]; rfl) ?_
      exact T_L_law_b297 hR (by omega) ih _ _ _ h
    rw [if_neg hc4] at h
    by_cases hc5 : ((xs x3.toNatClampNeg) &&& (63 : Int32)) = (2 : Int32)
    · rw [if_pos hc5] at h
      refine aq_tsw (t := 330) dL_law_32 (by rw [hc5]; rfl) ?_
      exact T_L_law_b330 hR (by omega) ih _ _ _ h
    rw [if_neg hc5] at h
    by_cases hc6 : ((xs x3.toNatClampNeg) &&& (63 : Int32)) = (3 : Int32)
    · rw [if_pos hc6] at h
      refine aq_tsw (t := 373) dL_law_32 (by rw [hc6]; rfl) ?_
      exact T_L_law_b373 hR (by omega) ih _ _ _ h
    rw [if_neg hc6] at h
    by_cases hc7 : ((xs x3.toNatClampNeg) &&& (63 : Int32)) = (4 : Int32)
    · rw [if_pos hc7] at h
      refine aq_tsw (t := 406) dL_law_32 (by rw [hc7]; rfl) ?_
      exact T_L_law_b406 hR (by omega) ih _ _ _ h
    rw [if_neg hc7] at h
    by_cases hc8 : ((xs x3.toNatClampNeg) &&& (63 : Int32)) = (5 : Int32)
    · rw [if_pos hc8] at h
      refine aq_tsw (t := 439) dL_law_32 (by rw [hc8]; rfl) ?_
      exact T_L_law_b439 hR (by omega) ih _ _ _ h
    rw [if_neg hc8] at h
    by_cases hc9 : ((xs x3.toNatClampNeg) &&& (63 : Int32)) = (6 : Int32)
    · rw [if_pos hc9] at h
      refine aq_tsw (t := 462) dL_law_32 (by rw [hc9]; rfl) ?_
      exact T_L_law_b462 hR (by omega) ih _ _ _ h
    rw [if_neg hc9] at h
    by_cases hc10 : ((xs x3.toNatClampNeg) &&& (63 : Int32)) = (7 : Int32)
    · rw [if_pos hc10] at h
      refine aq_tsw (t := 495) dL_law_32 (by rw [hc10]; rfl) ?_
      exact T_L_law_b495 hR (by omega) ih _ _ _ h
    rw [if_neg hc10] at h
    by_cases hc11 : ((xs x3.toNatClampNeg) &&& (63 : Int32)) = (8 : Int32)
    · rw [if_pos hc11] at h
      refine aq_tsw (t := 508) dL_law_32 (by rw [hc11]; rfl) ?_
      exact T_L_law_b508 hR (by omega) ih _ _ _ h
    rw [if_neg hc11] at h
    by_cases hc12 : ((xs x3.toNatClampNeg) &&& (63 : Int32)) = (9 : Int32)
    · rw [if_pos hc12] at h
      refine aq_tsw (t := 531) dL_law_32 (by rw [hc12]; rfl) ?_
      exact T_L_law_b531 hR (by omega) ih _ _ _ h
    rw [if_neg hc12] at h
    by_cases hc13 : ((xs x3.toNatClampNeg) &&& (63 : Int32)) = (10 : Int32)
    · rw [if_pos hc13] at h
      refine aq_tsw (t := 594) dL_law_32 (by rw [hc13]; rfl) ?_
      exact T_L_law_b594 hR (by omega) ih _ _ _ h
    rw [if_neg hc13] at h
    by_cases hc14 : ((xs x3.toNatClampNeg) &&& (63 : Int32)) = (11 : Int32)
    · rw [if_pos hc14] at h
      refine aq_tsw (t := 607) dL_law_32 (by rw [hc14]; rfl) ?_
      exact T_L_law_b607 hR (by omega) ih _ _ _ h
    rw [if_neg hc14] at h
    by_cases hc15 : ((xs x3.toNatClampNeg) &&& (63 : Int32)) = (12 : Int32)
    · rw [if_pos hc15] at h
      refine aq_tsw (t := 620) dL_law_32 (by rw [hc15]; rfl) ?_
      exact T_L_law_b620 hR (by omega) ih _ _ _ h
    rw [if_neg hc15] at h
    by_cases hc16 : ((xs x3.toNatClampNeg) &&& (63 : Int32)) = (13 : Int32)
    · rw [if_pos hc16] at h
      refine aq_tsw (t := 643) dL_law_32 (by rw [hc16]; rfl) ?_
      exact T_L_law_b643 hR (by omega) ih _ _ _ h
    rw [if_neg hc16] at h
    by_cases hc17 : ((xs x3.toNatClampNeg) &&& (63 : Int32)) = (14 : Int32)
    · rw [if_pos hc17] at h
      refine aq_tsw (t := 666) dL_law_32 (by rw [hc17]; rfl) ?_
      exact T_L_law_b666 hR (by omega) ih _ _ _ h
    rw [if_neg hc17] at h
    by_cases hc18 : ((xs x3.toNatClampNeg) &&& (63 : Int32)) = (15 : Int32)
    · rw [if_pos hc18] at h
      refine aq_tsw (t := 679) dL_law_32 (by rw [hc18]; rfl) ?_
      exact T_L_law_b679 hR (by omega) ih _ _ _ h
    rw [if_neg hc18] at h
    by_cases hc19 : ((xs x3.toNatClampNeg) &&& (63 : Int32)) = (16 : Int32)
    · rw [if_pos hc19] at h
      refine aq_tsw (t := 702) dL_law_32 (by rw [hc19]; rfl) ?_
      exact T_L_law_b702 hR (by omega) ih _ _ _ h
    rw [if_neg hc19] at h
    by_cases hc20 : ((xs x3.toNatClampNeg) &&& (63 : Int32)) = (17 : Int32)
    · rw [if_pos hc20] at h
      refine aq_tsw (t := 715) dL_law_32 (by rw [hc20]; rfl) ?_
      exact T_L_law_b715 hR (by omega) ih _ _ _ h
    rw [if_neg hc20] at h
    by_cases hc21 : ((xs x3.toNatClampNeg) &&& (63 : Int32)) = (18 : Int32)
    · rw [if_pos hc21] at h
      refine aq_tsw (t := 738) dL_law_32 (by rw [hc21]; rfl) ?_
      exact T_L_law_b738 hR (by omega) ih _ _ _ h
    rw [if_neg hc21] at h
    by_cases hc22 : ((xs x3.toNatClampNeg) &&& (63 : Int32)) = (19 : Int32)
    · rw [if_pos hc22] at h
      refine aq_tsw (t := 761) dL_law_32 (by rw [hc22]; rfl) ?_
      exact T_L_law_b761 hR (by omega) ih _ _ _ h
    rw [if_neg hc22] at h
    by_cases hc23 : ((xs x3.toNatClampNeg) &&& (63 : Int32)) = (20 : Int32)
    · rw [if_pos hc23] at h
      refine aq_tsw (t := 784) dL_law_32 (by rw [hc23]; rfl) ?_
      exact T_L_law_b784 hR (by omega) ih _ _ _ h
    rw [if_neg hc23] at h
    by_cases hc24 : ((xs x3.toNatClampNeg) &&& (63 : Int32)) = (21 : Int32)
    · rw [if_pos hc24] at h
      refine aq_tsw (t := 817) dL_law_32 (by rw [hc24]; rfl) ?_
      exact T_L_law_b817 hR (by omega) ih _ _ _ h
    rw [if_neg hc24] at h
    by_cases hc25 : ((xs x3.toNatClampNeg) &&& (63 : Int32)) = (22 : Int32)
    · rw [if_pos hc25] at h
      refine aq_tsw (t := 840) dL_law_32 (by rw [hc25]; rfl) ?_
      exact T_L_law_b840 hR (by omega) ih _ _ _ h
    rw [if_neg hc25] at h
    by_cases hc26 : ((xs x3.toNatClampNeg) &&& (63 : Int32)) = (23 : Int32)
    · rw [if_pos hc26] at h
      refine aq_tsw (t := 873) dL_law_32 (by rw [hc26]; rfl) ?_
      exact T_L_law_b873 hR (by omega) ih _ _ _ h
    rw [if_neg hc26] at h
    by_cases hc27 : ((xs x3.toNatClampNeg) &&& (63 : Int32)) = (24 : Int32)
    · rw [if_pos hc27] at h
      refine aq_tsw (t := 906) dL_law_32 (by rw [hc27]; rfl) ?_
      exact T_L_law_b906 hR (by omega) ih _ _ _ h
    rw [if_neg hc27] at h
    by_cases hc28 : ((xs x3.toNatClampNeg) &&& (63 : Int32)) = (25 : Int32)
    · rw [if_pos hc28] at h
      refine aq_tsw (t := 929) dL_law_32 (by rw [hc28]; rfl) ?_
      exact T_L_law_b929 hR (by omega) ih _ _ _ h
    rw [if_neg hc28] at h
    by_cases hc29 : ((xs x3.toNatClampNeg) &&& (63 : Int32)) = (26 : Int32)
    · rw [if_pos hc29] at h
      refine aq_tsw (t := 952) dL_law_32 (by rw [hc29]; rfl) ?_
      exact T_L_law_b952 hR (by omega) ih _ _ _ h
    rw [if_neg hc29] at h
    by_cases hc30 : ((xs x3.toNatClampNeg) &&& (63 : Int32)) = (27 : Int32)
    · rw [if_pos hc30] at h
      refine aq_tsw (t := 995) dL_law_32 (by rw [hc30]; rfl) ?_
      exact T_L_law_b995 hR (by omega) ih _ _ _ h
    rw [if_neg hc30] at h
    by_cases hc31 : ((xs x3.toNatClampNeg) &&& (63 : Int32)) = (28 : Int32)
    · rw [if_pos hc31] at h
      refine aq_tsw (t := 1008) dL_law_32 (by rw [hc31]; rfl) ?_
      exact T_L_law_b1008 hR (by omega) ih _ _ _ h
    rw [if_neg hc31] at h
    by_cases hc32 : ((xs x3.toNatClampNeg) &&& (63 : Int32)) = (29 : Int32)
    · rw [if_pos hc32] at h
      refine aq_tsw (t := 1031) dL_law_32 (by rw [hc32]; rfl) ?_
      exact T_L_law_b1031 hR (by omega) ih _ _ _ h
    rw [if_neg hc32] at h
    by_cases hc33 : ((xs x3.toNatClampNeg) &&& (63 : Int32)) = (30 : Int32)
    · rw [if_pos hc33] at h
      refine aq_tsw (t := 1044) dL_law_32 (by rw [hc33]; rfl) ?_
      exact T_L_law_b1044 hR (by omega) ih _ _ _ h
    rw [if_neg hc33] at h
    by_cases hc34 : ((xs x3.toNatClampNeg) &&& (63 : Int32)) = (31 : Int32)
    · rw [if_pos hc34] at h
      refine aq_tsw (t := 1067) dL_law_32 (by rw [hc34]; rfl) ?_
      exact T_L_law_b1067 hR (by omega) ih _ _ _ h
    rw [if_neg hc34] at h
    by_cases hc35 : ((xs x3.toNatClampNeg) &&& (63 : Int32)) = (32 : Int32)
    · rw [if_pos hc35] at h
      refine aq_tsw (t := 1080) dL_law_32 (by rw [hc35]; rfl) ?_
      exact T_L_law_b1080 hR (by omega) ih _ _ _ h
    rw [if_neg hc35] at h
    by_cases hc36 : ((xs x3.toNatClampNeg) &&& (63 : Int32)) = (33 : Int32)
    · rw [if_pos hc36] at h
      refine aq_tsw (t := 1113) dL_law_32 (by rw [hc36]; rfl) ?_
      exact T_L_law_b1113 hR (by omega) ih _ _ _ h
    rw [if_neg hc36] at h
    by_cases hc37 : ((xs x3.toNatClampNeg) &&& (63 : Int32)) = (34 : Int32)
    · rw [if_pos hc37] at h
      refine aq_tsw (t := 1136) dL_law_32 (by rw [hc37]; rfl) ?_
      exact T_L_law_b1136 hR (by omega) ih _ _ _ h
    rw [if_neg hc37] at h
    by_cases hc38 : ((xs x3.toNatClampNeg) &&& (63 : Int32)) = (35 : Int32)
    · rw [if_pos hc38] at h
      refine aq_tsw (t := 1169) dL_law_32 (by rw [hc38]; rfl) ?_
      exact T_L_law_b1169 hR (by omega) ih _ _ _ h
    rw [if_neg hc38] at h
    by_cases hc39 : ((xs x3.toNatClampNeg) &&& (63 : Int32)) = (36 : Int32)
    · rw [if_pos hc39] at h
      refine aq_tsw (t := 1212) dL_law_32 (by rw [hc39]; rfl) ?_
      exact T_L_law_b1212 hR (by omega) ih _ _ _ h
    rw [if_neg hc39] at h
    by_cases hc40 : ((xs x3.toNatClampNeg) &&& (63 : Int32)) = (37 : Int32)
    · rw [if_pos hc40] at h
      refine aq_tsw (t := 1225) dL_law_32 (by rw [hc40]; rfl) ?_
      exact T_L_law_b1225 hR (by omega) ih _ _ _ h
    rw [if_neg hc40] at h
    by_cases hc41 : ((xs x3.toNatClampNeg) &&& (63 : Int32)) = (38 : Int32)
    · rw [if_pos hc41] at h
      refine aq_tsw (t := 1268) dL_law_32 (by rw [hc41]; rfl) ?_
      exact T_L_law_b1268 hR (by omega) ih _ _ _ h
    rw [if_neg hc41] at h
    by_cases hc42 : ((xs x3.toNatClampNeg) &&& (63 : Int32)) = (39 : Int32)
    · rw [if_pos hc42] at h
      refine aq_tsw (t := 1311) dL_law_32 (by rw [hc42]; rfl) ?_
      exact T_L_law_b1311 hR (by omega) ih _ _ _ h
    rw [if_neg hc42] at h
    by_cases hc43 : ((xs x3.toNatClampNeg) &&& (63 : Int32)) = (40 : Int32)
    · rw [if_pos hc43] at h
      refine aq_tsw (t := 1354) dL_law_32 (by rw [hc43]; rfl) ?_
      exact T_L_law_b1354 hR (by omega) ih _ _ _ h
    rw [if_neg hc43] at h
    by_cases hc44 : ((xs x3.toNatClampNeg) &&& (63 : Int32)) = (41 : Int32)
    · rw [if_pos hc44] at h
      refine aq_tsw (t := 1397) dL_law_32 (by rw [hc44]; rfl) ?_
      exact T_L_law_b1397 hR (by omega) ih _ _ _ h
    rw [if_neg hc44] at h
    by_cases hc45 : ((xs x3.toNatClampNeg) &&& (63 : Int32)) = (42 : Int32)
    · rw [if_pos hc45] at h
      refine aq_tsw (t := 1440) dL_law_32 (by rw [hc45]; rfl) ?_
      exact T_L_law_b1440 hR (by omega) ih _ _ _ h
    rw [if_neg hc45] at h
    by_cases hc46 : ((xs x3.toNatClampNeg) &&& (63 : Int32)) = (43 : Int32)
    · rw [if_pos hc46] at h
      refine aq_tsw (t := 1483) dL_law_32 (by rw [hc46]; rfl) ?_
      exact T_L_law_b1483 hR (by omega) ih _ _ _ h
    rw [if_neg hc46] at h
    by_cases hc47 : ((xs x3.toNatClampNeg) &&& (63 : Int32)) = (44 : Int32)
    · rw [if_pos hc47] at h
      refine aq_tsw (t := 1516) dL_law_32 (by rw [hc47]; rfl) ?_
      exact T_L_law_b1516 hR (by omega) ih _ _ _ h
    rw [if_neg hc47] at h
    by_cases hc48 : ((xs x3.toNatClampNeg) &&& (63 : Int32)) = (45 : Int32)
    · rw [if_pos hc48] at h
      refine aq_tsw (t := 1559) dL_law_32 (by rw [hc48]; rfl) ?_
      exact T_L_law_b1559 hR (by omega) ih _ _ _ h
    rw [if_neg hc48] at h
    by_cases hc49 : ((xs x3.toNatClampNeg) &&& (63 : Int32)) = (46 : Int32)
    · rw [if_pos hc49] at h
      refine aq_tsw (t := 1582) dL_law_32 (by rw [hc49]; rfl) ?_
      exact T_L_law_b1582 hR (by omega) ih _ _ _ h
    rw [if_neg hc49] at h
    by_cases hc50 : ((xs x3.toNatClampNeg) &&& (63 : Int32)) = (47 : Int32)
    · rw [if_pos hc50] at h
      refine aq_tsw (t := 1605) dL_law_32 (by rw [hc50]; rfl) ?_
      exact T_L_law_b1605 hR (by omega) ih _ _ _ h
    rw [if_neg hc50] at h
    by_cases hc51 : ((xs x3.toNatClampNeg) &&& (63 : Int32)) = (48 : Int32)
    · rw [if_pos hc51] at h
      refine aq_tsw (t := 1618) dL_law_32 (by rw [hc51]; rfl) ?_
      exact T_L_law_b1618 hR (by omega) ih _ _ _ h
    rw [if_neg hc51] at h
    refine aq_tsw (t := 1631) dL_law_32 (am_tsw_d (by have := lv_neT hc3 (show ((0 : Int32)).toInt = 0 by decide); have := lv_neT hc4 (show ((1 : Int32)).toInt = 1 by decide); have := lv_neT hc5 (show ((2 : Int32)).toInt = 2 by decide); have := lv_neT hc6 (show ((3 : Int32)).toInt = 3 by decide); have := lv_neT hc7 (show ((4 : Int32)).toInt = 4 by decide); have := lv_neT hc8 (show ((5 : Int32)).toInt = 5 by decide); have := lv_neT hc9 (show ((6 : Int32)).toInt = 6 by decide); have := lv_neT hc10 (show ((7 : Int32)).toInt = 7 by decide); have := lv_neT hc11 (show ((8 : Int32)).toInt = 8 by decide); have := lv_neT hc12 (show ((9 : Int32)).toInt = 9 by decide); have := lv_neT hc13 (show ((10 : Int32)).toInt = 10 by decide); have := lv_neT hc14 (show ((11 : Int32)).toInt = 11 by decide); have := lv_neT hc15 (show ((12 : Int32)).toInt = 12 by decide); have := lv_neT hc16 (show ((13 : Int32)).toInt = 13 by decide); have := lv_neT hc17 (show ((14 : Int32)).toInt = 14 by decide); have := lv_neT hc18 (show ((15 : Int32)).toInt = 15 by decide); have := lv_neT hc19 (show ((16 : Int32)).toInt = 16 by decide); have := lv_neT hc20 (show ((17 : Int32)).toInt = 17 by decide); have := lv_neT hc21 (show ((18 : Int32)).toInt = 18 by decide); have := lv_neT hc22 (show ((19 : Int32)).toInt = 19 by decide); have := lv_neT hc23 (show ((20 : Int32)).toInt = 20 by decide); have := lv_neT hc24 (show ((21 : Int32)).toInt = 21 by decide); have := lv_neT hc25 (show ((22 : Int32)).toInt = 22 by decide); have := lv_neT hc26 (show ((23 : Int32)).toInt = 23 by decide); have := lv_neT hc27 (show ((24 : Int32)).toInt = 24 by decide); have := lv_neT hc28 (show ((25 : Int32)).toInt = 25 by decide); have := lv_neT hc29 (show ((26 : Int32)).toInt = 26 by decide); have := lv_neT hc30 (show ((27 : Int32)).toInt = 27 by decide); have := lv_neT hc31 (show ((28 : Int32)).toInt = 28 by decide); have := lv_neT hc32 (show ((29 : Int32)).toInt = 29 by decide); have := lv_neT hc33 (show ((30 : Int32)).toInt = 30 by decide); have := lv_neT hc34 (show ((31 : Int32)).toInt = 31 by decide); have := lv_neT hc35 (show ((32 : Int32)).toInt = 32 by decide); have := lv_neT hc36 (show ((33 : Int32)).toInt = 33 by decide); have := lv_neT hc37 (show ((34 : Int32)).toInt = 34 by decide); have := lv_neT hc38 (show ((35 : Int32)).toInt = 35 by decide); have := lv_neT hc39 (show ((36 : Int32)).toInt = 36 by decide); have := lv_neT hc40 (show ((37 : Int32)).toInt = 37 by decide); have := lv_neT hc41 (show ((38 : Int32)).toInt = 38 by decide); have := lv_neT hc42 (show ((39 : Int32)).toInt = 39 by decide); have := lv_neT hc43 (show ((40 : Int32)).toInt = 40 by decide); have := lv_neT hc44 (show ((41 : Int32)).toInt = 41 by decide); have := lv_neT hc45 (show ((42 : Int32)).toInt = 42 by decide); have := lv_neT hc46 (show ((43 : Int32)).toInt = 43 by decide); have := lv_neT hc47 (show ((44 : Int32)).toInt = 44 by decide); have := lv_neT hc48 (show ((45 : Int32)).toInt = 45 by decide); have := lv_neT hc49 (show ((46 : Int32)).toInt = 46 by decide); have := lv_neT hc50 (show ((47 : Int32)).toInt = 47 by decide); have := lv_neT hc51 (show ((48 : Int32)).toInt = 48 by decide); omega) rfl) ?_
    exact T_L_law_b1631 hR (by omega) ih _ _ _ h
