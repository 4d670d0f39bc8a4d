/-! LAYER 2: the will of a voice: conditions run on a stack (the model) and on bits (the class) (written by wip/whole/l2/gen34.py) -/
def sq_fa (m : Nat → Int32) (v : Nat) (c : Int32) : Int32 := if c = -5 then Int32.ofNat v else if c = -4 then m (24 + 5 * v + 3) else if c = -3 then m (24 + 5 * v + 2) else if c = -2 then m (24 + 5 * v + 1) else if c = -1 then m 3 else c
def sq_ho (c x y : Int32) : Int32 := if c = -21 then (if x = 1 then (if y = 1 then 1 else 0) else 0) else if c = -13 then (if x ≤ y then 0 else 1) else if c = -12 then (if x = y then 1 else 0) else if c = -11 then (if y ≤ x then 0 else 1) else (if x = 1 then 1 else if y = 1 then 1 else 0)
def sq_s1 (m : Nat → Int32) (v : Nat) (c : Int32) (st : List Int32) : List Int32 := if c ≤ -10 then (if c = -20 then (match st with
    | x :: r => (1 - x) :: r
    | [] => []) else (match st with
    | y :: x :: r => sq_ho c x y :: r
    | _ => [])) else sq_fa m v c :: st
def sq_ev (m : Nat → Int32) (v : Nat) : Nat → Nat → List Int32 → List Int32
  | 0, _, st => st
  | l + 1, k, st => sq_ev m v l (k + 1) (sq_s1 m v (m (96 + k)) st)
def sq_tr : List Int32 → Int32
  | [] => 1
  | x :: _ => if x = 1 then 1 else 0
def sq_so (m : Nat → Int32) (v a b : Nat) : Int32 := sq_tr (sq_ev m v (b - a) a [])
def sq_wl (m : Nat → Int32) (v : Nat) : Nat → Nat → Int32
  | 0, _ => 0
  | l + 1, r => if (m (72 + 3 * r) = 0 ∨ m (24 + 5 * v) = m (72 + 3 * r) ∨ (m (24 + 5 * v) = 3 ∧ m (72 + 3 * r) = 2) ∨ (m (24 + 5 * v) = 5 ∧ m (72 + 3 * r) = 4)) ∧ sq_so m v (sq_en m r) (sq_en m (r + 1)) = 1 then m (72 + 3 * r + 1) else sq_wl m v l (r + 1)
def sq_will (m : Nat → Int32) (v : Nat) : Int32 := sq_wl m v (sq_rn m) 0
theorem mz_ho {c x y : Int32} {s : am_S} : F_X12_isHolding c x y s = some (sq_ho c x y, s) := by
  unfold F_X12_isHolding sq_ho
  repeat' split
  all_goals rfl
theorem mz_fa {s : am_S} {v : Nat} (hv : v < 6) {c : Int32} : F_X12_fact_82 c (Int32.ofNat v) s = some (sq_fa (s.1 83) v c, s) := by
  unfold F_X12_fact_82 sq_fa
  rw [mz_its1 hv, mz_its2 hv, mz_its3 hv]
  repeat' split
  all_goals first | rfl | (exfalso; rename_i h; exact h (by decide))
def sq_stk (x : Nat → Int32) : List Int32 → Prop
  | [] => True
  | a :: r => x r.length = a ∧ sq_stk x r
theorem sq_stk_up {x : Nat → Int32} {j : Nat} {a : Int32} : ∀ {r : List Int32}, r.length ≤ j → sq_stk x r → sq_stk (upd x j a) r
  | [], _, _ => trivial
  | b :: r, h, h1 => by
    have h2 : r.length + 1 ≤ j := h
    exact ⟨by rw [ix_upn (by omega)]; exact h1.1, sq_stk_up (by omega) h1.2⟩
theorem ix_addm {a : Nat} (h : 1 ≤ a) : Int32.ofNat a + (-1) = Int32.ofNat (a - 1) := by
  rw [← ix_subL a 1 h, Int32.sub_eq_add_neg]
theorem sq_len : ∀ (st : List Int32), 1 ≤ st.length → ∃ x r, st = x :: r
  | x :: r, _ => ⟨x, r, rfl⟩
theorem mz_so {v to : Nat} (hv : v < 6) : ∀ (l k n p : Nat) (st : List Int32) (s : am_S) (f : Nat), sq_ck (s.1 83) l k n p → st.length = n + p → n ≤ 9 → p ≤ 2 → sq_stk (s.1 86) st → k + l = to → to ≤ 200 → l < f → ∃ s', F_X12_isSo_82_b6 f (Int32.ofNat to) (Int32.ofNat v) (Int32.ofNat st.length) (Int32.ofNat k) s = some (sq_tr (sq_ev (s.1 83) v l k st), s') ∧ ix_Fr (fun q => q == 86) s s' := by
  intro l
  induction l with
  | zero =>
    intro k n p st s f hc hl hn hp hst hk hto hf
    obtain ⟨rfl, rfl⟩ := hc
    obtain ⟨f, rfl⟩ : ∃ g, f = g + 1 := ⟨f - 1, by omega⟩
    obtain ⟨x, r, rfl⟩ := sq_len st (by omega)
    have hr : r.length = 0 := by have : r.length + 1 = 1 := hl; omega
    have hr2 : r = [] := List.eq_nil_of_length_eq_zero hr
    subst hr2
    refine ⟨s, ?_, ix_Fr.rf⟩
    rw [F_X12_isSo_82_b6, if_pos ((ix_le (by omega) (by omega)).mpr (by omega)), show Int32.ofNat [x].length = 1 from rfl, if_neg (by decide), if_pos (by decide)]
    have e : s.1 86 0 = x := hst.1
    show (if s.1 86 0 = 1 then _ else _) = some ((if x = 1 then 1 else 0), s)
    rw [e]
    split <;> rfl
  | succ l ih =>
    intro k n p st s f hc hl hn hp hst hk hto hf
    obtain ⟨f, rfl⟩ : ∃ g, f = g + 1 := ⟨f - 1, by omega⟩
    rw [F_X12_isSo_82_b6, if_neg (by rw [ix_le (by omega) (by omega)]; omega), ix_Ladd, if_pos ((ix_in (by omega)).mpr (by omega)), ix_nat (by omega), ix_b1, sq_ev]
    rw [sq_ck] at hc
    generalize hcv : s.1 83 (96 + k) = c at hc ⊢
    rcases hc with ⟨⟨ha, hb⟩, hp2, hc⟩ | ⟨ha, hp0, hn1, hc⟩ | ⟨ha, hp0, hn1, hc⟩ | ⟨ha, hp0, hn1, hc⟩
    · have h10 : ¬ c ≤ -10 := by rw [ix_lt'] at ha; rw [ix_le']; have e1 : (-6 : Int32).toInt = -6 := by decide
                                 have e2 : (-10 : Int32).toInt = -10 := by decide
                                 rw [e1] at ha; rw [e2]; omega
      have es : sq_s1 (s.1 83) v c st = sq_fa (s.1 83) v c :: st := if_neg h10
      rw [if_neg h10, mz_fa hv, ix_b1]
      dsimp only
      rw [if_pos ((ix_in (by omega)).mpr (by omega)), ix_nat (by omega), ix_b1, F_X12_isSo_82_b122, ix_addL, ix_addL, es]
      have e83 : (am_sI s 86 st.length (sq_fa (s.1 83) v c)).1 83 = s.1 83 := ix_sIn (by decide)
      obtain ⟨s', h1, h2⟩ := ih (k + 1) n (p + 1) (sq_fa (s.1 83) v c :: st) (am_sI s 86 st.length (sq_fa (s.1 83) v c)) f (by rw [e83]; exact hc) (by show st.length + 1 = _; omega) hn (by omega) ⟨by rw [ix_sI1, if_pos rfl], by rw [ix_sIf]; exact sq_stk_up (Nat.le_refl _) hst⟩ (by omega) hto (by omega)
      rw [e83] at h1
      exact ⟨s', h1, (ix_Fr.I (by rfl)).tr h2⟩
    · subst hp0; subst ha
      obtain ⟨x, r, rfl⟩ := sq_len st (by omega)
      have hr : r.length + 1 = n := hl
      have es : sq_s1 (s.1 83) v (-20) (x :: r) = (1 - x) :: r := by
        unfold sq_s1; rw [if_pos (by decide), if_pos rfl]
      have e1 : Int32.ofNat (x :: r).length - 1 = Int32.ofNat r.length := ix_sub (r.length + 1) 1 (by omega)
      rw [if_pos (by decide), if_pos rfl, e1, if_pos ((ix_in (by omega)).mpr (by omega)), if_pos ((ix_in (by omega)).mpr (by omega)), ix_nat (by omega), ix_b1, F_X12_isSo_82_b122, ix_addL, es, hst.1]
      have e83 : (am_sI s 86 r.length (1 - x)).1 83 = s.1 83 := ix_sIn (by decide)
      obtain ⟨s', h1, h2⟩ := ih (k + 1) n 0 ((1 - x) :: r) (am_sI s 86 r.length (1 - x)) f (by rw [e83]; exact hc) (by show r.length + 1 = _; omega) hn (by omega) ⟨by rw [ix_sI1, if_pos rfl], by rw [ix_sIf]; exact sq_stk_up (Nat.le_refl _) hst.2⟩ (by omega) hto (by omega)
      rw [e83] at h1
      exact ⟨s', h1, (ix_Fr.I (by rfl)).tr h2⟩
    · have h10 : c ≤ -10 ∧ c ≠ -20 := by
        rcases ha with rfl | rfl
        · exact ⟨by decide, by decide⟩
        · exact ⟨by decide, by decide⟩
      subst hp0
      obtain ⟨y, r1, rfl⟩ := sq_len st (by omega)
      obtain ⟨x, r, rfl⟩ := sq_len r1 (by have : r1.length + 1 = _ := hl; omega)
      have hr : r.length + 1 + 1 = n + 0 := hl
      have es : sq_s1 (s.1 83) v c (y :: x :: r) = sq_ho c x y :: r := by
        unfold sq_s1; rw [if_pos h10.1, if_neg h10.2]
      have e1 : Int32.ofNat (y :: x :: r).length + (-1) = Int32.ofNat (r.length + 1) := ix_addm (a := r.length + 1 + 1) (by omega)
      have e2 : Int32.ofNat (r.length + 1) - 1 = Int32.ofNat r.length := ix_sub (r.length + 1) 1 (by omega)
      rw [if_pos h10.1, if_neg h10.2, e1, e2, if_pos ((ix_in (by omega)).mpr (by omega)), if_pos ((ix_in (by omega)).mpr (by omega)), ix_nat (by omega), ix_nat (by omega), mz_ho, ix_b1, es]
      have ex : s.1 86 r.length = x := hst.2.1
      have ey : s.1 86 (r.length + 1) = y := hst.1
      dsimp only
      rw [ex, ey]
      have e83 : (am_sI s 86 r.length (sq_ho c x y)).1 83 = s.1 83 := ix_sIn (by decide)
      have e01 : sq_ho c x y = 0 ∨ sq_ho c x y = 1 := by
        unfold sq_ho
        repeat' split
        all_goals first | exact Or.inl rfl | exact Or.inr rfl
      obtain ⟨s', h1, h2⟩ := ih (k + 1) (n - 1) 0 (sq_ho c x y :: r) (am_sI s 86 r.length (sq_ho c x y)) f (by rw [e83]; exact hc) (by show r.length + 1 = _; omega) (by omega) (by omega) ⟨by rw [ix_sI1, if_pos rfl], by rw [ix_sIf]; exact sq_stk_up (Nat.le_refl _) hst.2.2⟩ (by omega) hto (by omega)
      rw [e83] at h1
      refine ⟨s', ?_, (ix_Fr.I (by rfl)).tr h2⟩
      have h1' : F_X12_isSo_82_b6 f (Int32.ofNat to) (Int32.ofNat v) (Int32.ofNat (r.length + 1)) (Int32.ofNat (k + 1)) (am_sI s 86 r.length (sq_ho c x y)) = _ := h1
      rcases e01 with e0 | e0
      · rw [e0] at h1' ⊢
        rw [if_pos rfl, F_X12_isSo_82_b121, if_pos ((ix_in (by omega)).mpr (by omega)), ix_nat (by omega), ix_b1, F_X12_isSo_82_b122, ix_addL]
        exact h1'
      · rw [e0] at h1' ⊢
        rw [if_neg (by decide), F_X12_isSo_82_b121, if_pos ((ix_in (by omega)).mpr (by omega)), ix_nat (by omega), ix_b1, F_X12_isSo_82_b122, ix_addL]
        exact h1'
    · have h10 : c ≤ -10 ∧ c ≠ -20 := by
        rcases ha with rfl | rfl | rfl
        · exact ⟨by decide, by decide⟩
        · exact ⟨by decide, by decide⟩
        · exact ⟨by decide, by decide⟩
      subst hp0
      obtain ⟨y, r1, rfl⟩ := sq_len st (by omega)
      obtain ⟨x, r, rfl⟩ := sq_len r1 (by have : r1.length + 1 = _ := hl; omega)
      have hr : r.length + 1 + 1 = n + 2 := hl
      have es : sq_s1 (s.1 83) v c (y :: x :: r) = sq_ho c x y :: r := by
        unfold sq_s1; rw [if_pos h10.1, if_neg h10.2]
      have e1 : Int32.ofNat (y :: x :: r).length + (-1) = Int32.ofNat (r.length + 1) := ix_addm (a := r.length + 1 + 1) (by omega)
      have e2 : Int32.ofNat (r.length + 1) - 1 = Int32.ofNat r.length := ix_sub (r.length + 1) 1 (by omega)
      rw [if_pos h10.1, if_neg h10.2, e1, e2, if_pos ((ix_in (by omega)).mpr (by omega)), if_pos ((ix_in (by omega)).mpr (by omega)), ix_nat (by omega), ix_nat (by omega), mz_ho, ix_b1, es]
      have ex : s.1 86 r.length = x := hst.2.1
      have ey : s.1 86 (r.length + 1) = y := hst.1
      dsimp only
      rw [ex, ey]
      have e83 : (am_sI s 86 r.length (sq_ho c x y)).1 83 = s.1 83 := ix_sIn (by decide)
      have e01 : sq_ho c x y = 0 ∨ sq_ho c x y = 1 := by
        unfold sq_ho
        repeat' split
        all_goals first | exact Or.inl rfl | exact Or.inr rfl
      obtain ⟨s', h1, h2⟩ := ih (k + 1) (n + 1) 0 (sq_ho c x y :: r) (am_sI s 86 r.length (sq_ho c x y)) f (by rw [e83]; exact hc) (by show r.length + 1 = _; omega) (by omega) (by omega) ⟨by rw [ix_sI1, if_pos rfl], by rw [ix_sIf]; exact sq_stk_up (Nat.le_refl _) hst.2.2⟩ (by omega) hto (by omega)
      rw [e83] at h1
      refine ⟨s', ?_, (ix_Fr.I (by rfl)).tr h2⟩
      have h1' : F_X12_isSo_82_b6 f (Int32.ofNat to) (Int32.ofNat v) (Int32.ofNat (r.length + 1)) (Int32.ofNat (k + 1)) (am_sI s 86 r.length (sq_ho c x y)) = _ := h1
      rcases e01 with e0 | e0
      · rw [e0] at h1' ⊢
        rw [if_pos rfl, F_X12_isSo_82_b121, if_pos ((ix_in (by omega)).mpr (by omega)), ix_nat (by omega), ix_b1, F_X12_isSo_82_b122, ix_addL]
        exact h1'
      · rw [e0] at h1' ⊢
        rw [if_neg (by decide), F_X12_isSo_82_b121, if_pos ((ix_in (by omega)).mpr (by omega)), ix_nat (by omega), ix_b1, F_X12_isSo_82_b122, ix_addL]
        exact h1'
