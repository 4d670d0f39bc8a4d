/-! LAYER 2: numbers, and reading a state -/
theorem ix_lit (a : Nat) : (no_index (OfNat.ofNat a) : Int32) = Int32.ofNat a := rfl
theorem ix_add (a b : Nat) : Int32.ofNat a + Int32.ofNat b = Int32.ofNat (a + b) := (Int32.ofNat_add a b).symm
theorem ix_addL (a b : Nat) : Int32.ofNat a + (no_index (OfNat.ofNat b) : Int32) = Int32.ofNat (a + (OfNat.ofNat b : Nat)) := (Int32.ofNat_add a b).symm
theorem ix_Ladd (a b : Nat) : (no_index (OfNat.ofNat b) : Int32) + Int32.ofNat a = Int32.ofNat ((OfNat.ofNat b : Nat) + a) := (Int32.ofNat_add b a).symm
theorem ix_mul (a b : Nat) : Int32.ofNat a * Int32.ofNat b = Int32.ofNat (a * b) := (Int32.ofNat_mul a b).symm
theorem ix_mulL (a b : Nat) : Int32.ofNat a * (no_index (OfNat.ofNat b) : Int32) = Int32.ofNat (a * (OfNat.ofNat b : Nat)) := (Int32.ofNat_mul a b).symm
theorem ix_Lmul (a b : Nat) : (no_index (OfNat.ofNat b) : Int32) * Int32.ofNat a = Int32.ofNat ((OfNat.ofNat b : Nat) * a) := (Int32.ofNat_mul b a).symm
theorem ix_sub (a b : Nat) (h : b ≤ a) : Int32.ofNat a - Int32.ofNat b = Int32.ofNat (a - b) := (Int32.ofNat_sub a b h).symm
theorem ix_subL (a b : Nat) (h : (OfNat.ofNat b : Nat) ≤ a) : Int32.ofNat a - (no_index (OfNat.ofNat b) : Int32) = Int32.ofNat (a - (OfNat.ofNat b : Nat)) := (Int32.ofNat_sub a b h).symm
theorem ix_Lsub (a b : Nat) (h : a ≤ (OfNat.ofNat b : Nat)) : (no_index (OfNat.ofNat b) : Int32) - Int32.ofNat a = Int32.ofNat ((OfNat.ofNat b : Nat) - a) := (Int32.ofNat_sub b a h).symm
theorem ix_int {a : Nat} (h : a < 2147483648) : (Int32.ofNat a).toInt = a := Int32.toInt_ofNat_of_lt h
theorem ix_nat {a : Nat} (h : a < 2147483648) : (Int32.ofNat a).toNatClampNeg = a := Int32.toNatClampNeg_ofNat_of_lt h
theorem ix_natL {a : Nat} (h : (OfNat.ofNat a : Nat) < 2147483648) : (no_index (OfNat.ofNat a) : Int32).toNatClampNeg = (OfNat.ofNat a : Nat) := Int32.toNatClampNeg_ofNat_of_lt h
theorem ix_le {a b : Nat} (ha : a < 2147483648) (hb : b < 2147483648) : Int32.ofNat a ≤ Int32.ofNat b ↔ a ≤ b := Int32.ofNat_le_iff_le ha hb
theorem ix_leL {a b : Nat} (ha : a < 2147483648) (hb : (OfNat.ofNat b : Nat) < 2147483648) : Int32.ofNat a ≤ (no_index (OfNat.ofNat b) : Int32) ↔ a ≤ (OfNat.ofNat b : Nat) := Int32.ofNat_le_iff_le ha hb
theorem ix_Lle {a b : Nat} (ha : a < 2147483648) (hb : (OfNat.ofNat b : Nat) < 2147483648) : (no_index (OfNat.ofNat b) : Int32) ≤ Int32.ofNat a ↔ (OfNat.ofNat b : Nat) ≤ a := Int32.ofNat_le_iff_le hb ha
theorem ix_lt {a b : Nat} (ha : a < 2147483648) (hb : b < 2147483648) : Int32.ofNat a < Int32.ofNat b ↔ a < b := Int32.ofNat_lt_iff_lt ha hb
theorem ix_ltL {a b : Nat} (ha : a < 2147483648) (hb : (OfNat.ofNat b : Nat) < 2147483648) : Int32.ofNat a < (no_index (OfNat.ofNat b) : Int32) ↔ a < (OfNat.ofNat b : Nat) := Int32.ofNat_lt_iff_lt ha hb
theorem ix_Llt {a b : Nat} (ha : a < 2147483648) (hb : (OfNat.ofNat b : Nat) < 2147483648) : (no_index (OfNat.ofNat b) : Int32) < Int32.ofNat a ↔ (OfNat.ofNat b : Nat) < a := Int32.ofNat_lt_iff_lt hb ha
theorem ix_eq {a b : Nat} (ha : a < 2147483648) (hb : b < 2147483648) : Int32.ofNat a = Int32.ofNat b ↔ a = b := by
  rw [← Int32.toInt_inj, ix_int ha, ix_int hb]; omega
theorem ix_eqL {a b : Nat} (ha : a < 2147483648) (hb : (OfNat.ofNat b : Nat) < 2147483648) : Int32.ofNat a = (no_index (OfNat.ofNat b) : Int32) ↔ a = (OfNat.ofNat b : Nat) := ix_eq ha hb
theorem ix_Leq {a b : Nat} (ha : a < 2147483648) (hb : (OfNat.ofNat b : Nat) < 2147483648) : (no_index (OfNat.ofNat b) : Int32) = Int32.ofNat a ↔ (OfNat.ofNat b : Nat) = a := ix_eq hb ha
theorem ix_nn {a : Nat} (ha : a < 2147483648) : ¬ Int32.ofNat a < 0 := by rw [Int32.lt_iff_toInt_lt, ix_int ha]; simp
theorem ix_in {a n : Nat} (ha : a < 2147483648) : am_in (Int32.ofNat a) n ↔ a < n := by
  unfold am_in; rw [ix_nat ha]
  constructor
  · intro h; exact Nat.not_le.mp fun z => h (Or.inr z)
  · rintro h (z | z)
    · exact ix_nn ha z
    · omega
theorem ix_inL {a n : Nat} (ha : (OfNat.ofNat a : Nat) < 2147483648) : am_in (no_index (OfNat.ofNat a) : Int32) n ↔ (OfNat.ofNat a : Nat) < n := ix_in ha
theorem ix_inx {x : Int32} {n : Nat} : am_in x n ↔ 0 ≤ x ∧ x.toNatClampNeg < n := by
  unfold am_in
  rw [Int32.le_iff_toInt_le, Int32.lt_iff_toInt_lt]
  show ¬ (x.toInt < 0 ∨ _) ↔ (0 ≤ x.toInt ∧ _)
  omega
theorem ix_neg {a : Nat} (ha : a < 2147483648) : ¬ Int32.ofNat a = -1 := by
  rw [← Int32.toInt_inj, ix_int ha]; simp
theorem ix_of {x : Int32} (h : 0 ≤ x) : x = Int32.ofNat x.toNatClampNeg := (Int32.ofNat_toNatClampNeg x h).symm
theorem ix_of2 {x : Int32} {b : Nat} (hb : b < 2147483648) (h : 0 ≤ x) (h2 : x ≤ Int32.ofNat b) : ∃ a, a ≤ b ∧ x = Int32.ofNat a := by
  refine ⟨x.toNatClampNeg, ?_, ix_of h⟩
  have h3 := Int32.toNatClampNeg_le h2
  rwa [ix_nat hb] at h3
theorem ix_of3 {x : Int32} {a b : Nat} (hb : b < 2147483648) (ha : a < 2147483648) (h : Int32.ofNat a ≤ x) (h2 : x ≤ Int32.ofNat b) : ∃ n, a ≤ n ∧ n ≤ b ∧ x = Int32.ofNat n := by
  have h0 : 0 ≤ x := by
    rw [Int32.le_iff_toInt_le] at h ⊢
    rw [ix_int ha] at h
    show (0 : Int) ≤ x.toInt
    omega
  obtain ⟨n, h3, rfl⟩ := ix_of2 hb h0 h2
  exact ⟨n, (ix_le ha (by omega)).mp h, h3, rfl⟩
/-! state -/
theorem ix_sI {s : am_S} {k j k1 j1 : Nat} {v : Int32} : (am_sI s k j v).1 k1 j1 = if k1 = k ∧ j1 = j then v else s.1 k1 j1 := by
  show va_up s.1 k (upd (s.1 k) j v) k1 j1 = _
  unfold va_up upd
  by_cases h : k1 = k
  · subst h; simp
  · simp [h]
theorem ix_sI1 {s : am_S} {k j j1 : Nat} {v : Int32} : (am_sI s k j v).1 k j1 = if j1 = j then v else s.1 k j1 := by
  rw [ix_sI]; simp
theorem ix_sIn {s : am_S} {k j k1 : Nat} {v : Int32} (h : k1 ≠ k) : (am_sI s k j v).1 k1 = s.1 k1 := by
  funext j1; rw [ix_sI]; simp [h]
theorem ix_sI2 {s : am_S} {k j : Nat} {v : Int32} : (am_sI s k j v).2 = s.2 := rfl
theorem ix_sIf {s : am_S} {k j : Nat} {v : Int32} : (am_sI s k j v).1 k = upd (s.1 k) j v := by
  funext j1; rw [ix_sI1]; rfl
theorem ix_sC {s : am_S} {a b sp dp n k1 j1 : Nat} : (am_sC s a b sp dp n).1 k1 j1 = if k1 = b ∧ dp ≤ j1 ∧ j1 < dp + n then s.1 a (sp + (j1 - dp)) else s.1 k1 j1 := by
  show va_up s.1 b (va_cpy (s.1 a) (s.1 b) sp dp n) k1 j1 = _
  unfold va_up va_cpy
  by_cases h : k1 = b
  · subst h; simp
  · simp [h]
theorem ix_sCn {s : am_S} {a b sp dp n k1 : Nat} (h : k1 ≠ b) : (am_sC s a b sp dp n).1 k1 = s.1 k1 := by
  funext j1; rw [ix_sC]; simp [h]
theorem ix_sC2 {s : am_S} {a b sp dp n : Nat} : (am_sC s a b sp dp n).2 = s.2 := rfl
theorem ix_sL {s : am_S} {k j k1 j1 : Nat} {v : Int64} : (am_sL s k j v).2 k1 j1 = if k1 = k ∧ j1 = j then v else s.2 k1 j1 := by
  show va_up s.2 k (vp_updL (s.2 k) j v) k1 j1 = _
  unfold va_up vp_updL
  by_cases h : k1 = k
  · subst h; simp
  · simp [h]
theorem ix_sL1 {s : am_S} {k j : Nat} {v : Int64} : (am_sL s k j v).1 = s.1 := rfl
/-- what stays -/
def ix_Fr (p : Nat → Bool) (s t : am_S) : Prop := (∀ k, p k = false → t.1 k = s.1 k) ∧ t.2 = s.2
theorem ix_Fr.rf {p : Nat → Bool} {s : am_S} : ix_Fr p s s := ⟨fun _ _ => rfl, rfl⟩
theorem ix_Fr.tr {p : Nat → Bool} {s t u : am_S} (h : ix_Fr p s t) (h2 : ix_Fr p t u) : ix_Fr p s u := ⟨fun k hk => (h2.1 k hk).trans (h.1 k hk), h2.2.trans h.2⟩
theorem ix_Fr.wd {p q : Nat → Bool} {s t : am_S} (h : ix_Fr p s t) (hq : ∀ k, q k = false → p k = false) : ix_Fr q s t := ⟨fun k hk => h.1 k (hq k hk), h.2⟩
theorem ix_Fr.I {p : Nat → Bool} {s : am_S} {k j : Nat} {v : Int32} (h : p k = true) : ix_Fr p s (am_sI s k j v) := ⟨fun k1 hk => ix_sIn (by rintro rfl; rw [h] at hk; cases hk), rfl⟩
theorem ix_Fr.C {p : Nat → Bool} {s : am_S} {a b sp dp n : Nat} (h : p b = true) : ix_Fr p s (am_sC s a b sp dp n) := ⟨fun k1 hk => ix_sCn (by rintro rfl; rw [h] at hk; cases hk), rfl⟩
/-! tests of a range -/
def ix_wi (x lo hi : Int32) : Int32 := if lo ≤ x ∧ x ≤ hi then 1 else 0
theorem ix_wi_or {x lo hi : Int32} : ix_wi x lo hi = 0 ∨ ix_wi x lo hi = 1 := by
  unfold ix_wi; split
  · exact Or.inr rfl
  · exact Or.inl rfl
theorem ix_wi_p {x lo hi : Int32} (h : lo ≤ x ∧ x ≤ hi) : ix_wi x lo hi = 1 := if_pos h
theorem ix_wi_n {x lo hi : Int32} (h : ¬ (lo ≤ x ∧ x ≤ hi)) : ix_wi x lo hi = 0 := if_neg h
theorem ix_wi_0 {x lo hi : Int32} : ix_wi x lo hi = 0 ↔ ¬ (lo ≤ x ∧ x ≤ hi) := by
  unfold ix_wi; split
  · rename_i h; simp [h]
  · rename_i h; simp [h]
theorem ix_wi_N {a lo hi : Nat} (ha : a < 2147483648) (hl : lo < 2147483648) (hh : hi < 2147483648) : ix_wi (Int32.ofNat a) (Int32.ofNat lo) (Int32.ofNat hi) = if lo ≤ a ∧ a ≤ hi then 1 else 0 := by
  unfold ix_wi; simp only [ix_le hl ha, ix_le ha hh]
theorem ix_cw {a0 a1 a2 : Int32} {s : am_S} : F_X11_isWithin a0 a1 a2 s = some (ix_wi a0 a1 a2, s) := by
  unfold F_X11_isWithin ix_wi
  by_cases h1 : a0 < a1
  · rw [if_pos h1, if_neg (fun h => by have := h.1; rw [Int32.le_iff_toInt_le] at this; rw [Int32.lt_iff_toInt_lt] at h1; omega)]
  · rw [if_neg h1]
    by_cases h2 : a2 < a0
    · rw [if_pos h2, if_neg (fun h => by have := h.2; rw [Int32.le_iff_toInt_le] at this; rw [Int32.lt_iff_toInt_lt] at h2; omega)]
    · rw [if_neg h2, if_pos ⟨by rw [Int32.le_iff_toInt_le]; rw [Int32.lt_iff_toInt_lt] at h1; omega, by rw [Int32.le_iff_toInt_le]; rw [Int32.lt_iff_toInt_lt] at h2; omega⟩]
theorem ix_mw {x lo hi : Int32} {s : am_S} : F_X12_in x.toInt64 lo.toInt64 hi.toInt64 s = some (ix_wi x lo hi, s) := by
  unfold F_X12_in ix_wi
  have e1 : lg_cmp x.toInt64 lo.toInt64 < 0 ↔ x.toInt < lo.toInt := by rw [lg_cmp_lt, Int64.lt_iff_toInt_lt, Int32.toInt_toInt64, Int32.toInt_toInt64]
  have e2 : 0 < lg_cmp x.toInt64 hi.toInt64 ↔ hi.toInt < x.toInt := by rw [lg_cmp_gt, Int64.lt_iff_toInt_lt, Int32.toInt_toInt64, Int32.toInt_toInt64]
  by_cases h1 : x.toInt < lo.toInt
  · rw [if_pos (e1.mpr h1), if_neg (fun h => by have := h.1; rw [Int32.le_iff_toInt_le] at this; omega)]
  · rw [if_neg (fun z => h1 (e1.mp z))]
    by_cases h2 : hi.toInt < x.toInt
    · rw [if_pos (e2.mpr h2), if_neg (fun h => by have := h.2; rw [Int32.le_iff_toInt_le] at this; omega)]
    · rw [if_neg (fun z => h2 (e2.mp z)), if_pos ⟨by rw [Int32.le_iff_toInt_le]; omega, by rw [Int32.le_iff_toInt_le]; omega⟩]
theorem ix_mwl {x : Int32} {lo hi : Nat} (hl : (OfNat.ofNat lo : Nat) < 2147483648) (hh : (OfNat.ofNat hi : Nat) < 2147483648) {s : am_S} : F_X12_in x.toInt64 (no_index (OfNat.ofNat lo)) (no_index (OfNat.ofNat hi)) s = some (ix_wi x (OfNat.ofNat lo) (OfNat.ofNat hi), s) := by
  have e1 : (OfNat.ofNat lo : Int64) = (Int32.ofNat lo).toInt64 := by
    apply Int64.toInt_inj.mp
    have hl2 : lo < 2147483648 := hl
    rw [Int32.toInt_toInt64, ix_int hl2]
    exact Int64.toInt_ofNat_of_lt (by omega)
  have e2 : (OfNat.ofNat hi : Int64) = (Int32.ofNat hi).toInt64 := by
    apply Int64.toInt_inj.mp
    have hh2 : hi < 2147483648 := hh
    rw [Int32.toInt_toInt64, ix_int hh2]
    exact Int64.toInt_ofNat_of_lt (by omega)
  rw [e1, e2]
  exact ix_mw
theorem ix_mwm {x : Int32} {hi : Nat} (hh : (OfNat.ofNat hi : Nat) < 2147483648) {s : am_S} : F_X12_in x.toInt64 (-1) (no_index (OfNat.ofNat hi)) s = some (ix_wi x (-1) (OfNat.ofNat hi), s) := by
  have e2 : (OfNat.ofNat hi : Int64) = (Int32.ofNat hi).toInt64 := by
    apply Int64.toInt_inj.mp
    have hh2 : hi < 2147483648 := hh
    rw [Int32.toInt_toInt64, ix_int hh2]
    exact Int64.toInt_ofNat_of_lt (by omega)
  rw [e2]
  exact ix_mw (lo := -1)
theorem ix_mw0 {x y : Int32} {s : am_S} : F_X12_in x.toInt64 0 y.toInt64 s = some (ix_wi x 0 y, s) := ix_mw (lo := 0)
theorem ix_z1 {v : Int32} (h : v = 0 ∨ v = 1) {α : Type} {x y : α} : (if v = 0 ∨ v = 1 then x else y) = x := if_pos h
theorem ix_b1 {α β : Type} {a : α} {f : α → Option β} : (some a).bind f = f a := rfl
theorem ix_lt' {a b : Int32} : a < b ↔ a.toInt < b.toInt := Int32.lt_iff_toInt_lt
theorem ix_le' {a b : Int32} : a ≤ b ↔ a.toInt ≤ b.toInt := Int32.le_iff_toInt_le
