/-! LAYER 2: the class's conditions, and the will of a voice in both (written by wip/whole/l2/gen35.py) -/
def sq_tb : List Int32 → Nat
  | [] => 1
  | b :: r => 2 * sq_tb r + (if b = 1 then 1 else 0)
theorem sq_tb_lt : ∀ r : List Int32, sq_tb r < 2 ^ (r.length + 1)
  | [] => by show 1 < 2; omega
  | b :: r => by
    have h := sq_tb_lt r
    show 2 * sq_tb r + _ < 2 ^ (r.length + 1 + 1)
    rw [Nat.pow_succ]
    split <;> omega
theorem sq_tb_1 {r : List Int32} (h : r.length ≤ 9) : sq_tb r < 1024 := Nat.lt_of_lt_of_le (sq_tb_lt r) (Nat.pow_le_pow_right (n := 2) (j := 10) (by decide) (by omega))
theorem sq_t_sh : ∀ t, t < 512 → (Int32.ofNat t <<< ((1 : Int32) &&& 31)) ||| 0 = Int32.ofNat (2 * t) ∧ (Int32.ofNat t <<< ((1 : Int32) &&& 31)) ||| 1 = Int32.ofNat (2 * t + 1) := by decide +kernel
theorem sq_t_not : ∀ t, t < 512 → Int32.ofNat (2 * t) ^^^ 1 = Int32.ofNat (2 * t + 1) ∧ Int32.ofNat (2 * t + 1) ^^^ 1 = Int32.ofNat (2 * t) := by decide +kernel
theorem sq_t_and : ∀ t, t < 256 → ∀ a, a < 2 → ∀ b, b < 2 → (Int32.ofNat (2 * (2 * t + a) + b) >>> ((1 : Int32) &&& 31)) &&& (Int32.ofNat (2 * (2 * t + a) + b) ||| (-2 : Int32)) = Int32.ofNat (2 * t + a * b) := by decide +kernel
theorem sq_t_or : ∀ t, t < 256 → ∀ a, a < 2 → ∀ b, b < 2 → (Int32.ofNat (2 * (2 * t + a) + b) >>> ((1 : Int32) &&& 31)) ||| (Int32.ofNat (2 * (2 * t + a) + b) &&& (1 : Int32)) = Int32.ofNat (2 * t + (a + b - a * b)) := by decide +kernel
section CZ2
variable {s : am_S} {m : Nat → Int32} {r to k f : Nat} {x3 x4 x5 a : Int32}
theorem cz_v1 (hr : r < 8) (hto : s.1 21 r = Int32.ofNat to) (hk : k < to) (ht : to ≤ 200) (ha : s.1 22 k = a) (hne : ∀ q : Nat, 10010 ≤ q → q ≤ 10022 → ¬ a = (no_index (OfNat.ofNat q) : Int32)) {b : Int32}
    (hv : (a - 10000 < 0 ∧ b = a) ∨ (¬ a - 10000 < 0 ∧ ¬ 5 ≤ a - 10000 ∧ am_in (a - 10000) 5 ∧ b = s.1 23 (a - 10000).toNatClampNeg)) :
    F_X7_holds_17_23_b16 (f + 1) (Int32.ofNat r) x3 x4 x5 (Int32.ofNat k) s = F_X7_holds_17_23_b16 f (Int32.ofNat r) x3 x5 b (Int32.ofNat (k + 1)) s := by
  rw [F_X7_holds_17_23_b16, if_pos ((ix_in (by omega)).mpr hr), ix_nat (by omega), hto, if_neg (by rw [ix_le (by omega) (by omega)]; omega), if_pos ((ix_in (by omega)).mpr (by omega)), ix_nat (by omega), ha]
  rw [if_neg (show ¬ a = (10010 : Int32) from hne 10010 (by omega) (by omega))]
  rw [if_neg (show ¬ a = (10011 : Int32) from hne 10011 (by omega) (by omega))]
  rw [if_neg (show ¬ a = (10012 : Int32) from hne 10012 (by omega) (by omega))]
  rw [if_neg (show ¬ a = (10013 : Int32) from hne 10013 (by omega) (by omega))]
  rw [if_neg (show ¬ a = (10014 : Int32) from hne 10014 (by omega) (by omega))]
  rw [if_neg (show ¬ a = (10015 : Int32) from hne 10015 (by omega) (by omega))]
  rw [if_neg (show ¬ a = (10016 : Int32) from hne 10016 (by omega) (by omega))]
  rw [if_neg (show ¬ a = (10017 : Int32) from hne 10017 (by omega) (by omega))]
  rw [if_neg (show ¬ a = (10018 : Int32) from hne 10018 (by omega) (by omega))]
  rw [if_neg (show ¬ a = (10019 : Int32) from hne 10019 (by omega) (by omega))]
  rw [if_neg (show ¬ a = (10020 : Int32) from hne 10020 (by omega) (by omega))]
  rw [if_neg (show ¬ a = (10021 : Int32) from hne 10021 (by omega) (by omega))]
  rw [if_neg (show ¬ a = (10022 : Int32) from hne 10022 (by omega) (by omega))]
  rw [ix_b1]
  rcases hv with ⟨h1, rfl⟩ | ⟨h1, h2, h3, rfl⟩
  · rw [if_pos h1, F_X7_holds_17_23_b225, F_X7_holds_17_23_b227, F_X7_holds_17_23_b229, ix_addL]
  · rw [if_neg h1, if_neg h2, if_pos h3, F_X7_holds_17_23_b227, F_X7_holds_17_23_b229, ix_addL]
theorem cz_o10010 (hr : r < 8) (hto : s.1 21 r = Int32.ofNat to) (hk : k < to) (ht : to ≤ 200) (ha : s.1 22 k = 10010) :
    F_X7_holds_17_23_b16 (f + 1) (Int32.ofNat r) x3 x4 x5 (Int32.ofNat k) s = F_X7_holds_17_23_b16 f (Int32.ofNat r) ((x3 <<< ((1 : Int32) &&& 31)) ||| (if x5 ≤ x4 then 0 else 1)) x4 x5 (Int32.ofNat (k + 1)) s := by
  rw [F_X7_holds_17_23_b16, if_pos ((ix_in (by omega)).mpr hr), ix_nat (by omega), hto, if_neg (by rw [ix_le (by omega) (by omega)]; omega), if_pos ((ix_in (by omega)).mpr (by omega)), ix_nat (by omega), ha]
  rw [if_pos rfl]
  rw [F_X7_holds_17_23_b119, F_X7_holds_17_23_b119, F_X7_holds_17_23_b229, F_X7_holds_17_23_b229, ix_addL]
  split <;> rfl
theorem cz_o10011 (hr : r < 8) (hto : s.1 21 r = Int32.ofNat to) (hk : k < to) (ht : to ≤ 200) (ha : s.1 22 k = 10011) :
    F_X7_holds_17_23_b16 (f + 1) (Int32.ofNat r) x3 x4 x5 (Int32.ofNat k) s = F_X7_holds_17_23_b16 f (Int32.ofNat r) ((x3 <<< ((1 : Int32) &&& 31)) ||| (if x4 = x5 then 1 else 0)) x4 x5 (Int32.ofNat (k + 1)) s := by
  rw [F_X7_holds_17_23_b16, if_pos ((ix_in (by omega)).mpr hr), ix_nat (by omega), hto, if_neg (by rw [ix_le (by omega) (by omega)]; omega), if_pos ((ix_in (by omega)).mpr (by omega)), ix_nat (by omega), ha]
  rw [if_neg (show ¬ (10011 : Int32) = (10010 : Int32) by decide)]
  rw [if_pos rfl]
  rw [F_X7_holds_17_23_b139, F_X7_holds_17_23_b139, F_X7_holds_17_23_b229, F_X7_holds_17_23_b229, ix_addL]
  split <;> rfl
theorem cz_o10012 (hr : r < 8) (hto : s.1 21 r = Int32.ofNat to) (hk : k < to) (ht : to ≤ 200) (ha : s.1 22 k = 10012) :
    F_X7_holds_17_23_b16 (f + 1) (Int32.ofNat r) x3 x4 x5 (Int32.ofNat k) s = F_X7_holds_17_23_b16 f (Int32.ofNat r) ((x3 <<< ((1 : Int32) &&& 31)) ||| (if x4 ≤ x5 then 0 else 1)) x4 x5 (Int32.ofNat (k + 1)) s := by
  rw [F_X7_holds_17_23_b16, if_pos ((ix_in (by omega)).mpr hr), ix_nat (by omega), hto, if_neg (by rw [ix_le (by omega) (by omega)]; omega), if_pos ((ix_in (by omega)).mpr (by omega)), ix_nat (by omega), ha]
  rw [if_neg (show ¬ (10012 : Int32) = (10010 : Int32) by decide)]
  rw [if_neg (show ¬ (10012 : Int32) = (10011 : Int32) by decide)]
  rw [if_pos rfl]
  rw [F_X7_holds_17_23_b159, F_X7_holds_17_23_b159, F_X7_holds_17_23_b229, F_X7_holds_17_23_b229, ix_addL]
  split <;> rfl
theorem cz_o10020 (hr : r < 8) (hto : s.1 21 r = Int32.ofNat to) (hk : k < to) (ht : to ≤ 200) (ha : s.1 22 k = 10020) :
    F_X7_holds_17_23_b16 (f + 1) (Int32.ofNat r) x3 x4 x5 (Int32.ofNat k) s = F_X7_holds_17_23_b16 f (Int32.ofNat r) (x3 ^^^ (1 : Int32)) x4 x5 (Int32.ofNat (k + 1)) s := by
  rw [F_X7_holds_17_23_b16, if_pos ((ix_in (by omega)).mpr hr), ix_nat (by omega), hto, if_neg (by rw [ix_le (by omega) (by omega)]; omega), if_pos ((ix_in (by omega)).mpr (by omega)), ix_nat (by omega), ha]
  rw [if_neg (show ¬ (10020 : Int32) = (10010 : Int32) by decide)]
  rw [if_neg (show ¬ (10020 : Int32) = (10011 : Int32) by decide)]
  rw [if_neg (show ¬ (10020 : Int32) = (10012 : Int32) by decide)]
  rw [if_neg (show ¬ (10020 : Int32) = (10013 : Int32) by decide)]
  rw [if_neg (show ¬ (10020 : Int32) = (10014 : Int32) by decide)]
  rw [if_neg (show ¬ (10020 : Int32) = (10015 : Int32) by decide)]
  rw [if_neg (show ¬ (10020 : Int32) = (10016 : Int32) by decide)]
  rw [if_neg (show ¬ (10020 : Int32) = (10017 : Int32) by decide)]
  rw [if_neg (show ¬ (10020 : Int32) = (10018 : Int32) by decide)]
  rw [if_neg (show ¬ (10020 : Int32) = (10019 : Int32) by decide)]
  rw [if_pos rfl]
  rw [F_X7_holds_17_23_b229, ix_addL]
theorem cz_o10021 (hr : r < 8) (hto : s.1 21 r = Int32.ofNat to) (hk : k < to) (ht : to ≤ 200) (ha : s.1 22 k = 10021) :
    F_X7_holds_17_23_b16 (f + 1) (Int32.ofNat r) x3 x4 x5 (Int32.ofNat k) s = F_X7_holds_17_23_b16 f (Int32.ofNat r) ((x3 >>> ((1 : Int32) &&& 31)) &&& (x3 ||| (-2 : Int32))) x4 x5 (Int32.ofNat (k + 1)) s := by
  rw [F_X7_holds_17_23_b16, if_pos ((ix_in (by omega)).mpr hr), ix_nat (by omega), hto, if_neg (by rw [ix_le (by omega) (by omega)]; omega), if_pos ((ix_in (by omega)).mpr (by omega)), ix_nat (by omega), ha]
  rw [if_neg (show ¬ (10021 : Int32) = (10010 : Int32) by decide)]
  rw [if_neg (show ¬ (10021 : Int32) = (10011 : Int32) by decide)]
  rw [if_neg (show ¬ (10021 : Int32) = (10012 : Int32) by decide)]
  rw [if_neg (show ¬ (10021 : Int32) = (10013 : Int32) by decide)]
  rw [if_neg (show ¬ (10021 : Int32) = (10014 : Int32) by decide)]
  rw [if_neg (show ¬ (10021 : Int32) = (10015 : Int32) by decide)]
  rw [if_neg (show ¬ (10021 : Int32) = (10016 : Int32) by decide)]
  rw [if_neg (show ¬ (10021 : Int32) = (10017 : Int32) by decide)]
  rw [if_neg (show ¬ (10021 : Int32) = (10018 : Int32) by decide)]
  rw [if_neg (show ¬ (10021 : Int32) = (10019 : Int32) by decide)]
  rw [if_neg (show ¬ (10021 : Int32) = (10020 : Int32) by decide)]
  rw [if_pos rfl]
  rw [ix_b1, F_X7_holds_17_23_b229, ix_addL]
theorem cz_o10022 (hr : r < 8) (hto : s.1 21 r = Int32.ofNat to) (hk : k < to) (ht : to ≤ 200) (ha : s.1 22 k = 10022) :
    F_X7_holds_17_23_b16 (f + 1) (Int32.ofNat r) x3 x4 x5 (Int32.ofNat k) s = F_X7_holds_17_23_b16 f (Int32.ofNat r) ((x3 >>> ((1 : Int32) &&& 31)) ||| (x3 &&& (1 : Int32))) x4 x5 (Int32.ofNat (k + 1)) s := by
  rw [F_X7_holds_17_23_b16, if_pos ((ix_in (by omega)).mpr hr), ix_nat (by omega), hto, if_neg (by rw [ix_le (by omega) (by omega)]; omega), if_pos ((ix_in (by omega)).mpr (by omega)), ix_nat (by omega), ha]
  rw [if_neg (show ¬ (10022 : Int32) = (10010 : Int32) by decide)]
  rw [if_neg (show ¬ (10022 : Int32) = (10011 : Int32) by decide)]
  rw [if_neg (show ¬ (10022 : Int32) = (10012 : Int32) by decide)]
  rw [if_neg (show ¬ (10022 : Int32) = (10013 : Int32) by decide)]
  rw [if_neg (show ¬ (10022 : Int32) = (10014 : Int32) by decide)]
  rw [if_neg (show ¬ (10022 : Int32) = (10015 : Int32) by decide)]
  rw [if_neg (show ¬ (10022 : Int32) = (10016 : Int32) by decide)]
  rw [if_neg (show ¬ (10022 : Int32) = (10017 : Int32) by decide)]
  rw [if_neg (show ¬ (10022 : Int32) = (10018 : Int32) by decide)]
  rw [if_neg (show ¬ (10022 : Int32) = (10019 : Int32) by decide)]
  rw [if_neg (show ¬ (10022 : Int32) = (10020 : Int32) by decide)]
  rw [if_neg (show ¬ (10022 : Int32) = (10021 : Int32) by decide)]
  rw [if_pos rfl]
  rw [ix_b1, F_X7_holds_17_23_b229, ix_addL]
end CZ2
theorem sq_val5 {c : Int32} (h1 : -6 < c) (h2 : ¬ 0 ≤ c) : c = -1 ∨ c = -2 ∨ c = -3 ∨ c = -4 ∨ c = -5 := by
  have e1 : (-1 : Int32).toInt = -1 := by decide
  have e2 : (-2 : Int32).toInt = -2 := by decide
  have e3 : (-3 : Int32).toInt = -3 := by decide
  have e4 : (-4 : Int32).toInt = -4 := by decide
  have e5 : (-5 : Int32).toInt = -5 := by decide
  have e6 : (-6 : Int32).toInt = -6 := by decide
  have e0 : (0 : Int32).toInt = 0 := by decide
  rw [ix_lt', e6] at h1
  rw [ix_le', e0] at h2
  rw [← Int32.toInt_inj, ← Int32.toInt_inj, ← Int32.toInt_inj, ← Int32.toInt_inj, ← Int32.toInt_inj, e1, e2, e3, e4, e5]
  omega
def sq_fc (x : Nat → Int32) (m : Nat → Int32) (v : Nat) : Prop := x 0 = m 3 ∧ x 1 = m (24 + 5 * v + 1) ∧ x 2 = m (24 + 5 * v + 2) ∧ x 3 = m (24 + 5 * v + 3) ∧ x 4 = Int32.ofNat v
/-- what a value's code gives in the class -/
theorem cz_val {s : am_S} {m : Nat → Int32} {v : Nat} {c : Int32} (fc : sq_fc (s.1 23) m v) (h1 : -6 < c) (h2 : c < 10000) : (∀ q : Nat, 10010 ≤ q → q ≤ 10022 → ¬ sq_cm c = (no_index (OfNat.ofNat q) : Int32)) ∧ ((sq_cm c - 10000 < 0 ∧ sq_fa m v c = sq_cm c) ∨ (¬ sq_cm c - 10000 < 0 ∧ ¬ 5 ≤ sq_cm c - 10000 ∧ am_in (sq_cm c - 10000) 5 ∧ sq_fa m v c = s.1 23 (sq_cm c - 10000).toNatClampNeg)) := by
  by_cases h0 : 0 ≤ c
  · obtain ⟨n, hn, e⟩ : ∃ n, n < 10000 ∧ c = Int32.ofNat n := by
      refine ⟨c.toNatClampNeg, ?_, ix_of h0⟩
      rw [ix_lt'] at h2
      rw [ix_le'] at h0
      have e1 : (10000 : Int32).toInt = 10000 := by decide
      have e0 : (0 : Int32).toInt = 0 := by decide
      rw [e1] at h2; rw [e0] at h0
      show c.toInt.toNat < 10000
      omega
    have ec : sq_cm c = c := if_pos h0
    have ef : sq_fa m v c = c := by
      unfold sq_fa
      rw [if_neg (fun z => absurd h0 (by rw [z]; decide)), if_neg (fun z => absurd h0 (by rw [z]; decide)), if_neg (fun z => absurd h0 (by rw [z]; decide)), if_neg (fun z => absurd h0 (by rw [z]; decide)), if_neg (fun z => absurd h0 (by rw [z]; decide))]
    rw [ec, ef]
    refine ⟨fun q hq hq2 => ?_, Or.inl ⟨?_, rfl⟩⟩
    · rw [e]
      show ¬ Int32.ofNat n = Int32.ofNat q
      rw [ix_eq (by omega) (by omega)]; omega
    · rw [e, ix_lt', Int32.toInt_sub, ix_int (by omega)]
      have e1 : (10000 : Int32).toInt = 10000 := by decide
      have e0 : (0 : Int32).toInt = 0 := by decide
      rw [e1, e0, Int.bmod_def]
      split <;> omega
  · rcases sq_val5 h1 h0 with rfl | rfl | rfl | rfl | rfl
    · refine ⟨fun q hq hq2 => ?_, Or.inr ⟨by decide, by decide, by decide, fc.1.symm⟩⟩
      show ¬ Int32.ofNat 10000 = Int32.ofNat q
      rw [ix_eq (by omega) (by omega)]; omega
    · refine ⟨fun q hq hq2 => ?_, Or.inr ⟨by decide, by decide, by decide, fc.2.1.symm⟩⟩
      show ¬ Int32.ofNat 10001 = Int32.ofNat q
      rw [ix_eq (by omega) (by omega)]; omega
    · refine ⟨fun q hq hq2 => ?_, Or.inr ⟨by decide, by decide, by decide, fc.2.2.1.symm⟩⟩
      show ¬ Int32.ofNat 10002 = Int32.ofNat q
      rw [ix_eq (by omega) (by omega)]; omega
    · refine ⟨fun q hq hq2 => ?_, Or.inr ⟨by decide, by decide, by decide, fc.2.2.2.1.symm⟩⟩
      show ¬ Int32.ofNat 10003 = Int32.ofNat q
      rw [ix_eq (by omega) (by omega)]; omega
    · refine ⟨fun q hq hq2 => ?_, Or.inr ⟨by decide, by decide, by decide, fc.2.2.2.2.symm⟩⟩
      show ¬ Int32.ofNat 10004 = Int32.ofNat q
      rw [ix_eq (by omega) (by omega)]; omega
/-- the class's row of bits for the model's stack -/
def sq_rl (p : Nat) (st bs : List Int32) (left right : Int32) : Prop := (p = 0 ∧ st = bs) ∨ (p = 1 ∧ st = right :: bs) ∨ (p = 2 ∧ st = right :: left :: bs)
def sq_01 (bs : List Int32) : Prop := ∀ b ∈ bs, b = 0 ∨ b = 1
theorem cz_so {s : am_S} {m : Nat → Int32} {r v to : Nat} (fc : sq_fc (s.1 23) m v) (hr : r < 8) (hto : s.1 21 r = Int32.ofNat to) (ht : to ≤ 200) (hcd : ∀ k, k < to → s.1 22 k = sq_cm (m (96 + k))) :
    ∀ (l k n p : Nat) (st bs : List Int32) (left right : Int32) (f : Nat), sq_ck m l k n p → bs.length = n → n ≤ 9 → sq_01 bs → sq_rl p st bs left right → k + l = to → l < f →
      F_X7_holds_17_23_b16 f (Int32.ofNat r) (Int32.ofNat (sq_tb bs)) left right (Int32.ofNat k) s = some (sq_tr (sq_ev m v l k st), s) := by
  intro l
  induction l with
  | zero =>
    intro k n p st bs left right f hc hl hn h01 hrl hk hf
    obtain ⟨rfl, rfl⟩ := hc
    obtain ⟨f, rfl⟩ : ∃ g, f = g + 1 := ⟨f - 1, by omega⟩
    obtain ⟨x, q, rfl⟩ := sq_len bs (by omega)
    have hq : q = [] := List.eq_nil_of_length_eq_zero (by have : q.length + 1 = 1 := hl; omega)
    subst hq
    have hst : st = [x] := by
      rcases hrl with ⟨-, h⟩ | ⟨h, -⟩ | ⟨h, -⟩
      · exact h
      · omega
      · omega
    subst hst
    rw [F_X7_holds_17_23_b16, if_pos ((ix_in (by omega)).mpr hr), ix_nat (by omega), hto, if_pos ((ix_le (by omega) (by omega)).mpr (by omega))]
    rcases h01 x (by simp) with rfl | rfl
    · rfl
    · rfl
  | succ l ih =>
    intro k n p st bs left right f hc hl hn h01 hrl hk hf
    obtain ⟨f, rfl⟩ : ∃ g, f = g + 1 := ⟨f - 1, by omega⟩
    rw [sq_ev]
    rw [sq_ck] at hc
    have hkd := hcd k (by omega)
    generalize m (96 + k) = c at hc hkd ⊢
    have htb := sq_tb_1 (r := bs) (by omega)
    rcases hc with ⟨⟨ha, hb⟩, hp2, hc⟩ | ⟨ha, hp0, hn1, hc⟩ | ⟨ha, hp0, hn1, hc⟩ | ⟨ha, hp0, hn1, hc⟩
    · obtain ⟨hne, hv⟩ := cz_val fc ha hb
      have h10 : ¬ c ≤ -10 := by
        rw [ix_lt'] at ha; rw [ix_le']
        have e1 : (-6 : Int32).toInt = -6 := by decide
        have e2 : (-10 : Int32).toInt = -10 := by decide
        rw [e1] at ha; rw [e2]; omega
      have es : sq_s1 m v c st = sq_fa m v c :: st := if_neg h10
      rw [cz_v1 hr hto (by omega) ht hkd hne hv, es]
      refine ih (k + 1) n (p + 1) _ bs right (sq_fa m v c) f hc hl hn h01 ?_ (by omega) (by omega)
      rcases hrl with ⟨h, rfl⟩ | ⟨h, rfl⟩ | ⟨h, rfl⟩
      · exact Or.inr (Or.inl ⟨by omega, rfl⟩)
      · exact Or.inr (Or.inr ⟨by omega, rfl⟩)
      · omega
    · subst hp0; subst ha
      have hst : st = bs := by
        rcases hrl with ⟨-, h⟩ | ⟨h, -⟩ | ⟨h, -⟩
        · exact h
        · omega
        · omega
      subst hst
      obtain ⟨x, q, rfl⟩ := sq_len st (by omega)
      have hq : q.length + 1 = n := hl
      have hq5 : sq_tb q < 512 := Nat.lt_of_lt_of_le (sq_tb_lt q) (Nat.pow_le_pow_right (n := 2) (j := 9) (by decide) (by omega))
      obtain ⟨g0, g1⟩ := sq_t_not _ hq5
      have es : sq_s1 m v (-20) (x :: q) = (1 - x) :: q := by
        unfold sq_s1; rw [if_pos (by decide), if_pos rfl]
      rw [cz_o10020 hr hto (by omega) ht (hkd.trans (by decide)), es]
      have e : Int32.ofNat (sq_tb (x :: q)) ^^^ 1 = Int32.ofNat (sq_tb ((1 - x) :: q)) := by
        rcases h01 x (by simp) with rfl | rfl
        · exact g0
        · exact g1
      rw [e]
      refine ih (k + 1) n 0 _ ((1 - x) :: q) left right f hc hl hn ?_ (Or.inl ⟨rfl, rfl⟩) (by omega) (by omega)
      intro b hb
      rcases List.mem_cons.mp hb with rfl | hb
      · rcases h01 x (by simp) with rfl | rfl
        · exact Or.inr (by decide)
        · exact Or.inl (by decide)
      · exact h01 b (by simp [hb])
    · subst hp0
      have hst : st = bs := by
        rcases hrl with ⟨-, h⟩ | ⟨h, -⟩ | ⟨h, -⟩
        · exact h
        · omega
        · omega
      subst hst
      obtain ⟨y, q1, rfl⟩ := sq_len st (by omega)
      obtain ⟨x, q, rfl⟩ := sq_len q1 (by have : q1.length + 1 = n := hl; omega)
      have hq : q.length + 1 + 1 = n := hl
      have hq5 : sq_tb q < 256 := Nat.lt_of_lt_of_le (sq_tb_lt q) (Nat.pow_le_pow_right (n := 2) (j := 8) (by decide) (by omega))
      have hy := h01 y (by simp)
      have hx := h01 x (by simp)
      have h01q : sq_01 q := fun b hb => h01 b (by simp [hb])
      have es : sq_s1 m v c (y :: x :: q) = sq_ho c x y :: q := by
        unfold sq_s1
        rcases ha with rfl | rfl
        · rw [if_pos (by decide), if_neg (by decide)]
        · rw [if_pos (by decide), if_neg (by decide)]
      have eh : sq_ho c x y = 0 ∨ sq_ho c x y = 1 := by
        unfold sq_ho
        repeat' split
        all_goals first | exact Or.inl rfl | exact Or.inr rfl
      have fin : F_X7_holds_17_23_b16 f (Int32.ofNat r) (Int32.ofNat (sq_tb (sq_ho c x y :: q))) left right (Int32.ofNat (k + 1)) s = some (sq_tr (sq_ev m v l (k + 1) (sq_ho c x y :: q)), s) := by
        refine ih (k + 1) (n - 1) 0 _ (sq_ho c x y :: q) left right f hc (by show q.length + 1 = _; omega) (by omega) ?_ (Or.inl ⟨rfl, rfl⟩) (by omega) (by omega)
        intro b hb
        rcases List.mem_cons.mp hb with rfl | hb
        · exact eh
        · exact h01q b hb
      rw [es, ← fin]
      rcases ha with rfl | rfl
      · rw [cz_o10021 hr hto (by omega) ht (hkd.trans (by decide))]
        have g := sq_t_and _ hq5
        rcases hx with rfl | rfl <;> rcases hy with rfl | rfl
        · exact congrArg (fun z => F_X7_holds_17_23_b16 f (Int32.ofNat r) z left right (Int32.ofNat (k + 1)) s) (g 0 (by omega) 0 (by omega))
        · exact congrArg (fun z => F_X7_holds_17_23_b16 f (Int32.ofNat r) z left right (Int32.ofNat (k + 1)) s) (g 0 (by omega) 1 (by omega))
        · exact congrArg (fun z => F_X7_holds_17_23_b16 f (Int32.ofNat r) z left right (Int32.ofNat (k + 1)) s) (g 1 (by omega) 0 (by omega))
        · exact congrArg (fun z => F_X7_holds_17_23_b16 f (Int32.ofNat r) z left right (Int32.ofNat (k + 1)) s) (g 1 (by omega) 1 (by omega))
      · rw [cz_o10022 hr hto (by omega) ht (hkd.trans (by decide))]
        have g := sq_t_or _ hq5
        rcases hx with rfl | rfl <;> rcases hy with rfl | rfl
        · exact congrArg (fun z => F_X7_holds_17_23_b16 f (Int32.ofNat r) z left right (Int32.ofNat (k + 1)) s) (g 0 (by omega) 0 (by omega))
        · exact congrArg (fun z => F_X7_holds_17_23_b16 f (Int32.ofNat r) z left right (Int32.ofNat (k + 1)) s) (g 0 (by omega) 1 (by omega))
        · exact congrArg (fun z => F_X7_holds_17_23_b16 f (Int32.ofNat r) z left right (Int32.ofNat (k + 1)) s) (g 1 (by omega) 0 (by omega))
        · exact congrArg (fun z => F_X7_holds_17_23_b16 f (Int32.ofNat r) z left right (Int32.ofNat (k + 1)) s) (g 1 (by omega) 1 (by omega))
    · subst hp0
      have hst : st = right :: left :: bs := by
        rcases hrl with ⟨h, -⟩ | ⟨h, -⟩ | ⟨-, h⟩
        · omega
        · omega
        · exact h
      subst hst
      have hq5 : sq_tb bs < 512 := Nat.lt_of_lt_of_le (sq_tb_lt bs) (Nat.pow_le_pow_right (n := 2) (j := 9) (by decide) (by omega))
      obtain ⟨g0, g1⟩ := sq_t_sh _ hq5
      have es : sq_s1 m v c (right :: left :: bs) = sq_ho c left right :: bs := by
        unfold sq_s1
        rcases ha with rfl | rfl | rfl
        · rw [if_pos (by decide), if_neg (by decide)]
        · rw [if_pos (by decide), if_neg (by decide)]
        · rw [if_pos (by decide), if_neg (by decide)]
      have eh : sq_ho c left right = 0 ∨ sq_ho c left right = 1 := by
        unfold sq_ho
        repeat' split
        all_goals first | exact Or.inl rfl | exact Or.inr rfl
      have fin : F_X7_holds_17_23_b16 f (Int32.ofNat r) (Int32.ofNat (sq_tb (sq_ho c left right :: bs))) left right (Int32.ofNat (k + 1)) s = some (sq_tr (sq_ev m v l (k + 1) (sq_ho c left right :: bs)), s) := by
        refine ih (k + 1) (n + 1) 0 _ (sq_ho c left right :: bs) left right f hc (by show bs.length + 1 = _; omega) (by omega) ?_ (Or.inl ⟨rfl, rfl⟩) (by omega) (by omega)
        intro b hb
        rcases List.mem_cons.mp hb with rfl | hb
        · exact eh
        · exact h01 b hb
      have et : ∀ z : Int32, z = 0 ∨ z = 1 → (Int32.ofNat (sq_tb bs) <<< ((1 : Int32) &&& 31)) ||| z = Int32.ofNat (sq_tb (z :: bs)) := by
        rintro z (rfl | rfl)
        · exact g0
        · exact g1
      rw [es, ← fin, ← et _ eh]
      rcases ha with rfl | rfl | rfl
      · rw [cz_o10010 hr hto (by omega) ht (hkd.trans (by decide))]; rfl
      · rw [cz_o10011 hr hto (by omega) ht (hkd.trans (by decide))]; rfl
      · rw [cz_o10012 hr hto (by omega) ht (hkd.trans (by decide))]; rfl
