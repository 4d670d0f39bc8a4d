/-! LAYER 2: what holds of the row m, and how the class holds it (its sea begins at the cell c) -/
def sq_csn (m : Nat → Int32) : Nat → Nat
  | 0 => 0
  | n + 1 => sq_csn m n ||| (if m (24 + 5 * n + 4) = 0 then 0 else 2 ^ n)
def sq_cs (m : Nat → Int32) : Nat := sq_csn m 6
/-- where the code of rule r begins -/
def sq_en (m : Nat → Int32) (r : Nat) : Nat := match r with
  | 0 => 0
  | q + 1 => (m (72 + 3 * q + 2)).toNatClampNeg
def sq_rn (m : Nat → Int32) : Nat := (m 1).toNatClampNeg
/-- a class's code of a model's code -/
def sq_cm (c : Int32) : Int32 := if 0 ≤ c then c else if -14 < c then 9999 - c else 10000 - c
/-- a row of code: n truths, p values wait -/
def sq_ck (m : Nat → Int32) : Nat → Nat → Nat → Nat → Prop
  | 0, _, n, p => n = 1 ∧ p = 0
  | l + 1, k, n, p =>
    ((-6 < m (96 + k) ∧ m (96 + k) < 10000) ∧ p < 2 ∧ sq_ck m l (k + 1) n (p + 1)) ∨
    (m (96 + k) = -20 ∧ p = 0 ∧ 1 ≤ n ∧ sq_ck m l (k + 1) n 0) ∨
    ((m (96 + k) = -21 ∨ m (96 + k) = -22) ∧ p = 0 ∧ 2 ≤ n ∧ sq_ck m l (k + 1) (n - 1) 0) ∨
    ((m (96 + k) = -11 ∨ m (96 + k) = -12 ∨ m (96 + k) = -13) ∧ p = 2 ∧ n < 9 ∧ sq_ck m l (k + 1) (n + 1) 0)
def sq_OkR (m : Nat → Int32) : Prop := (∃ n, n ≤ 8 ∧ m 1 = Int32.ofNat n) ∧ (∀ r, r < sq_rn m → sq_N (m (72 + 3 * r)) 5 ∧ sq_N (m (72 + 3 * r + 1)) 2 ∧ sq_N (m (72 + 3 * r + 2)) 200 ∧ sq_en m r ≤ sq_en m (r + 1) ∧ (sq_en m r = sq_en m (r + 1) ∨ sq_ck m (sq_en m (r + 1) - sq_en m r) (sq_en m r) 0 0))
def sq_Ok (m : Nat → Int32) : Prop :=
  (∃ c, c ≤ 6 ∧ m 0 = Int32.ofNat c ∧ ∀ v, v < 6 → c ≤ v → m (24 + 5 * v + 4) = 0) ∧
  (∃ t e, t ≤ e ∧ 1 ≤ e ∧ e ≤ 16 ∧ m 3 = Int32.ofNat t ∧ m 2 = Int32.ofNat e) ∧ sq_N (m 5) 9 ∧ sq_N (m 6) 6 ∧ (∀ j, j < 16 → sq_N (m (8 + j)) 2) ∧
  (∀ v, v < 6 → sq_N (m (24 + 5 * v)) 5 ∧ sq_N (m (24 + 5 * v + 1)) 9 ∧ sq_N (m (24 + 5 * v + 2)) 9 ∧ sq_N (m (24 + 5 * v + 3)) 15 ∧ sq_N (m (24 + 5 * v + 4)) 1) ∧
  (∀ r, r < 6 → sq_N (m (54 + 3 * r)) 15 ∧ sq_N (m (54 + 3 * r + 1)) 15 ∧ sq_N (m (54 + 3 * r + 2)) 15) ∧ sq_OkR m
/-- the class's rules at the cell q -/
def sq_RR (x : Nat → Nat → Int32) (q : Nat) (m : Nat → Int32) : Prop :=
  x q 0 = m 1 ∧ x q 1 = Int32.ofNat (sq_en m (sq_rn m)) ∧
  (∀ r, r < sq_rn m → x (q + 1) r = m (72 + 3 * r) ∧ x (q + 2) r = m (72 + 3 * r + 1) ∧ x (q + 3) r = Int32.ofNat (sq_en m r) ∧ x (q + 4) r = Int32.ofNat (sq_en m (r + 1))) ∧
  ∀ k, k < sq_en m (sq_rn m) → x (q + 5) k = sq_cm (m (96 + k))
def sq_R (x : Nat → Nat → Int32) (c : Nat) (m : Nat → Int32) : Prop :=
  x c 0 = m 3 ∧ x c 1 = m 2 ∧ x c 2 = m 5 ∧ x c 3 = m 4 ∧ x c 4 = m 7 ∧ x c 5 = m 0 ∧ x c 6 = Int32.ofNat (sq_cs m) ∧ x c 7 = m 6 ∧
  (∀ j, j < 16 → x (c + 1) j = m (8 + j)) ∧
  (∀ v, v < 6 → x (c + 2) v = m (24 + 5 * v) ∧ x (c + 3) v = m (24 + 5 * v + 1) ∧ x (c + 4) v = m (24 + 5 * v + 2) ∧ x (c + 5) v = m (24 + 5 * v + 3)) ∧
  (∀ r, r < 6 → x (c + 6) r = m (54 + 3 * r) ∧ x (c + 7) r = m (54 + 3 * r + 1) ∧ x (c + 8) r = m (54 + 3 * r + 2)) ∧
  sq_RR x (c + 9) m
theorem ix_up {m : Nat → Int32} {k j : Nat} {x : Int32} : upd m k x j = if j = k then x else m j := rfl
theorem ix_upn {m : Nat → Int32} {k j : Nat} {x : Int32} (h : j ≠ k) : upd m k x j = m j := if_neg h
theorem ix_ups {m : Nat → Int32} {k : Nat} {x : Int32} : upd m k x k = x := if_pos rfl
theorem sq_csn_t (m : Nat → Int32) (v : Nat) : ∀ n, (sq_csn m n).testBit v = decide (v < n ∧ m (24 + 5 * v + 4) ≠ 0) := by
  intro n
  induction n with
  | zero => simp [sq_csn]
  | succ n ih =>
    rw [sq_csn, Nat.testBit_or, ih]
    by_cases hm : m (24 + 5 * n + 4) = 0
    · rw [if_pos hm, Nat.zero_testBit, Bool.or_false]
      by_cases hv : v = n
      · subst hv; simp [hm]
      · congr 1; apply propext; constructor
        · rintro ⟨h1, h2⟩; exact ⟨by omega, h2⟩
        · rintro ⟨h1, h2⟩; exact ⟨by omega, h2⟩
    · rw [if_neg hm, Nat.testBit_two_pow]
      by_cases hv : v = n
      · subst hv; simp [hm]
      · have e : decide (n = v) = false := decide_eq_false (fun z => hv z.symm)
        rw [e, Bool.or_false]
        congr 1; apply propext; constructor
        · rintro ⟨h1, h2⟩; exact ⟨by omega, h2⟩
        · rintro ⟨h1, h2⟩; exact ⟨by omega, h2⟩
theorem sq_csn_lt (m : Nat → Int32) : ∀ n, sq_csn m n < 2 ^ n := by
  intro n
  induction n with
  | zero => simp [sq_csn]
  | succ n ih =>
    rw [sq_csn]
    refine Nat.or_lt_two_pow ?_ ?_
    · exact Nat.lt_of_lt_of_le ih (Nat.pow_le_pow_right (by decide) (by omega))
    · split
      · exact Nat.two_pow_pos _
      · exact Nat.pow_lt_pow_right (by decide) (by omega)
theorem sq_cs_lt (m : Nat → Int32) : sq_cs m < 64 := sq_csn_lt m 6
theorem sq_cs_t (m : Nat → Int32) {v : Nat} (hv : v < 6) : (sq_cs m).testBit v = decide (m (24 + 5 * v + 4) ≠ 0) := by
  unfold sq_cs; rw [sq_csn_t]; simp [hv]
theorem sq_cs_e {m : Nat → Int32} {x : Nat} (hx : x < 64) (h : ∀ v, v < 6 → x.testBit v = decide (m (24 + 5 * v + 4) ≠ 0)) : sq_cs m = x := by
  apply Nat.eq_of_testBit_eq
  intro v
  by_cases hv : v < 6
  · rw [sq_cs_t m hv, h v hv]
  · rw [Nat.testBit_lt_two_pow (Nat.lt_of_lt_of_le (sq_cs_lt m) (Nat.pow_le_pow_right (n := 2) (i := 6) (by decide) (by omega))), Nat.testBit_lt_two_pow (Nat.lt_of_lt_of_le hx (Nat.pow_le_pow_right (n := 2) (i := 6) (by decide) (by omega)))]
/-! bits of a set of six -/
theorem sq_bit : ∀ x, x < 64 → ∀ v, v < 6 → ((Int32.ofNat x >>> (Int32.ofNat v &&& 31)) &&& 1) = if x.testBit v then 1 else 0 := by decide +kernel
theorem sq_bor : ∀ x, x < 64 → ∀ v, v < 6 → (Int32.ofNat x ||| ((1 : Int32) <<< (Int32.ofNat v &&& 31))) = Int32.ofNat (x ||| 2 ^ v) := by decide +kernel
theorem sq_bnd : ∀ x, x < 64 → ∀ v, v < 6 → (Int32.ofNat x &&& (((1 : Int32) <<< (Int32.ofNat v &&& 31)) ^^^ (-1 : Int32))) = Int32.ofNat (x &&& (63 ^^^ 2 ^ v)) := by decide +kernel
theorem sq_bor_t : ∀ x, x < 64 → ∀ v, v < 6 → x ||| 2 ^ v < 64 ∧ ∀ u, u < 6 → (x ||| 2 ^ v).testBit u = (decide (u = v) || x.testBit u) := by decide +kernel
theorem sq_bnd_t : ∀ x, x < 64 → ∀ v, v < 6 → x &&& (63 ^^^ 2 ^ v) < 64 ∧ ∀ u, u < 6 → (x &&& (63 ^^^ 2 ^ v)).testBit u = (!decide (u = v) && x.testBit u) := by decide +kernel
theorem sq_cs_1 {m : Nat → Int32} {v : Nat} (hv : v < 6) : sq_cs (upd m (24 + 5 * v + 4) 1) = sq_cs m ||| 2 ^ v := by
  obtain ⟨h1, h2⟩ := sq_bor_t (sq_cs m) (sq_cs_lt m) v hv
  refine sq_cs_e h1 (fun u hu => ?_)
  rw [h2 u hu, sq_cs_t m hu, ix_up]
  by_cases h : u = v
  · subst h; simp
  · rw [if_neg (by omega)]; simp [h]
theorem sq_cs_0 {m : Nat → Int32} {v : Nat} (hv : v < 6) : sq_cs (upd m (24 + 5 * v + 4) 0) = sq_cs m &&& (63 ^^^ 2 ^ v) := by
  obtain ⟨h1, h2⟩ := sq_bnd_t (sq_cs m) (sq_cs_lt m) v hv
  refine sq_cs_e h1 (fun u hu => ?_)
  rw [h2 u hu, sq_cs_t m hu, ix_up]
  by_cases h : u = v
  · subst h; simp
  · rw [if_neg (by omega)]; simp [h]
theorem sq_cs_c {m m' : Nat → Int32} (h : ∀ v, v < 6 → m' (24 + 5 * v + 4) = m (24 + 5 * v + 4)) : sq_cs m' = sq_cs m :=
  sq_cs_e (sq_cs_lt m) (fun v hv => by rw [sq_cs_t m hv, h v hv])
/-! what the rules rest on -/
theorem sq_en_c {m m' : Nat → Int32} (h : ∀ j, 72 ≤ j → m' j = m j) (r : Nat) : sq_en m' r = sq_en m r := by
  cases r with
  | zero => rfl
  | succ q => show (m' _).toNatClampNeg = (m _).toNatClampNeg; rw [h _ (by omega)]
theorem sq_ck_c {m m' : Nat → Int32} (h : ∀ j, 72 ≤ j → m' j = m j) : ∀ l k n p, sq_ck m l k n p → sq_ck m' l k n p := by
  intro l
  induction l with
  | zero => intro k n p h1; exact h1
  | succ l ih =>
    intro k n p h1
    rw [sq_ck] at h1 ⊢
    rw [h (96 + k) (by omega)]
    rcases h1 with ⟨a, b, c⟩ | ⟨a, b, b2, c⟩ | ⟨a, b, b2, c⟩ | ⟨a, b, b2, c⟩
    · exact Or.inl ⟨a, b, ih _ _ _ c⟩
    · exact Or.inr (Or.inl ⟨a, b, b2, ih _ _ _ c⟩)
    · exact Or.inr (Or.inr (Or.inl ⟨a, b, b2, ih _ _ _ c⟩))
    · exact Or.inr (Or.inr (Or.inr ⟨a, b, b2, ih _ _ _ c⟩))
theorem sq_OkR_c {m m' : Nat → Int32} (h1 : m' 1 = m 1) (h : ∀ j, 72 ≤ j → m' j = m j) (ok : sq_OkR m) : sq_OkR m' := by
  obtain ⟨a, b⟩ := ok
  have e : sq_rn m' = sq_rn m := by unfold sq_rn; rw [h1]
  refine ⟨by rw [h1]; exact a, fun r hr => ?_⟩
  rw [e] at hr
  obtain ⟨b1, b2, b3, b4, b5⟩ := b r hr
  rw [h _ (by omega), h _ (by omega), h _ (by omega), sq_en_c h, sq_en_c h]
  exact ⟨b1, b2, b3, b4, b5.imp id (sq_ck_c h _ _ _ _)⟩
theorem sq_RR_c {x x' : Nat → Nat → Int32} {q : Nat} {m m' : Nat → Int32} (h1 : m' 1 = m 1) (h : ∀ j, 72 ≤ j → m' j = m j) (hx : ∀ k, q ≤ k → k < q + 6 → x' k = x k) (r : sq_RR x q m) : sq_RR x' q m' := by
  obtain ⟨a, a2, b, c⟩ := r
  have e : sq_rn m' = sq_rn m := by unfold sq_rn; rw [h1]
  refine ⟨by rw [h1, hx q (by omega) (by omega)]; exact a, by rw [e, sq_en_c h, hx q (by omega) (by omega)]; exact a2, fun r hr => ?_, fun k hk => ?_⟩
  · rw [e] at hr
    rw [hx _ (by omega) (by omega), hx _ (by omega) (by omega), hx _ (by omega) (by omega), hx _ (by omega) (by omega), h _ (by omega), h _ (by omega), sq_en_c h, sq_en_c h]
    exact b r hr
  · rw [e, sq_en_c h] at hk
    rw [hx _ (by omega) (by omega), h _ (by omega)]
    exact c k hk
