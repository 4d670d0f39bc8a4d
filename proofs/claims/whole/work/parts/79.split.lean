/-! LAYER 2: the class's row of tokens (written by hand) -/
def sq_tp (T : Nat → Int32) (n : Nat) : Nat → Nat
  | 0 => sq_nx T n 0
  | k + 1 => sq_nx T n (sq_te T n (sq_tp T n k))
def sq_eb (T : Nat → Int32) (n : Nat) : Nat → Nat
  | 0 => 0
  | k + 1 => sq_te T n (sq_tp T n k)
theorem sq_tp_x {T : Nat → Int32} {n : Nat} (c : Nat) : sq_tp T n c = sq_nx T n (sq_eb T n c) := by cases c <;> rfl
theorem sq_ru_end {T : Nat → Int32} {k : Nat} : ∀ l p, sq_ru T k l p < p + l → sq_srt (T (sq_ru T k l p)) ≠ k := by
  intro l
  induction l with
  | zero => intro p h; rw [sq_ru] at h; omega
  | succ l ih =>
    intro p h
    rw [sq_ru] at h ⊢
    by_cases hs : sq_srt (T p) = k
    · rw [if_pos hs] at h ⊢; exact ih (p + 1) (by omega)
    · rw [if_neg hs]; exact hs
theorem sq_te_in {T : Nat → Int32} {n t q : Nat} (ht : t < n) (h1 : t < q) (h2 : q < sq_te T n t) : sq_srt (T q) = sq_srt (T (q - 1)) ∧ sq_srt (T q) ≠ 3 := by
  unfold sq_te at h2
  rw [if_pos ht] at h2
  by_cases hs : sq_srt (T t) = 1 ∨ sq_srt (T t) = 2
  · rw [if_pos hs] at h2
    obtain ⟨a1, a2, a3⟩ := sq_ru_le (T := T) (k := sq_srt (T t)) (n - (t + 1)) (t + 1)
    have e1 := a3 q (by omega) h2
    have e2 : sq_srt (T (q - 1)) = sq_srt (T t) := by
      by_cases hq : q - 1 = t
      · rw [hq]
      · exact a3 (q - 1) (by omega) (by omega)
    rw [e1, e2]; exact ⟨rfl, by omega⟩
  · rw [if_neg hs] at h2; omega
theorem sq_te_at {T : Nat → Int32} {n t : Nat} (ht : t < n) (h0 : sq_srt (T t) ≠ 0) (h2 : sq_te T n t < n) (h3 : sq_srt (T (sq_te T n t)) ≠ 3) : sq_srt (T (sq_te T n t - 1)) ≠ sq_srt (T (sq_te T n t)) := by
  by_cases hs : sq_srt (T t) = 1 ∨ sq_srt (T t) = 2
  · have e : sq_te T n t = sq_ru T (sq_srt (T t)) (n - (t + 1)) (t + 1) := by unfold sq_te; rw [if_pos ht, if_pos hs]
    obtain ⟨a1, a2, a3⟩ := sq_ru_le (T := T) (k := sq_srt (T t)) (n - (t + 1)) (t + 1)
    have hm := sq_ru_end (T := T) (k := sq_srt (T t)) (n - (t + 1)) (t + 1) (by rw [← e]; omega)
    rw [← e] at a1 a3 hm
    have e2 : sq_srt (T (sq_te T n t - 1)) = sq_srt (T t) := by
      by_cases hq : sq_te T n t - 1 = t
      · rw [hq]
      · exact a3 _ (by omega) (by omega)
    rw [e2]; exact fun z => hm z.symm
  · have e : sq_te T n t = t + 1 := by unfold sq_te; rw [if_pos ht, if_neg hs]
    have h4 := sq_srt_lt (c := T t)
    rw [e] at h3 ⊢
    rw [Nat.add_sub_cancel]
    intro z
    have h5 : sq_srt (T t) = 3 := by omega
    exact h3 (z.symm.trans h5)
theorem sq_sk_end {T : Nat → Int32} : ∀ l p, sq_sk T l p < p + l → sq_srt (T (sq_sk T l p)) ≠ 0 := by
  intro l
  induction l with
  | zero => intro p h; rw [sq_sk] at h; omega
  | succ l ih =>
    intro p h
    rw [sq_sk] at h ⊢
    by_cases hs : sq_srt (T p) = 0
    · rw [if_pos hs] at h ⊢; exact ih (p + 1) (by omega)
    · rw [if_neg hs]; exact hs
theorem sq_nx_0 {T : Nat → Int32} {n p : Nat} (hp : p ≤ n) (h : sq_nx T n p < n) : sq_srt (T (sq_nx T n p)) ≠ 0 := sq_sk_end (n - p) p (by unfold sq_nx at h; omega)
theorem sq_nx_s {T : Nat → Int32} {n p : Nat} (hp : p < n) (h : sq_srt (T p) = 0) : sq_nx T n p = sq_nx T n (p + 1) := by
  unfold sq_nx
  rw [show n - p = (n - (p + 1)) + 1 by omega, sq_sk, if_pos h]
theorem sq_nx_q {T : Nat → Int32} {n p : Nat} (hp : p < n) (h : sq_srt (T p) ≠ 0) : sq_nx T n p = p := by
  unfold sq_nx
  rw [show n - p = (n - (p + 1)) + 1 by omega, sq_sk, if_neg h]
theorem sq_nx_n {T : Nat → Int32} {n : Nat} : sq_nx T n n = n := by
  unfold sq_nx
  rw [Nat.sub_self]; rfl
/-- the class's row so far: c tokens -/
def sq_CK (T : Nat → Int32) (n c : Nat) (s : am_S) : Prop := s.1 40 0 = Int32.ofNat n ∧ s.1 41 = T ∧ s.1 40 2 = Int32.ofNat c ∧ ∀ k, k < c → s.1 42 k = (if sq_tp T n k < n then sq_cd T n (sq_tp T n k) else 10054) ∧ s.1 43 k = Int32.ofNat (sq_tp T n k)
def sq_pT (k j : Nat) : Bool := k == 42 || k == 43 || (k == 40 && j == 2)
theorem cz_addToken {T : Nat → Int32} {n c q : Nat} {x : Int32} {s : am_S} (h : sq_CK T n c s) (hc : c < 201) (hq : sq_tp T n c = q) (hx : x = if q < n then sq_cd T n q else 10054) : ∃ s', F_X6_addToken_40 x (Int32.ofNat q) s = some s' ∧ sq_CK T n (c + 1) s' ∧ ix_F2 sq_pT s s' := by
  obtain ⟨h0, h1, h2, h3⟩ := h
  have hi : am_in (Int32.ofNat c) 201 := (ix_in (by omega)).mpr (by omega)
  have hnc : (Int32.ofNat c).toNatClampNeg = c := ix_nat (by omega)
  obtain ⟨t1, e1⟩ : ∃ t1, t1 = am_sI s 42 c x := ⟨_, rfl⟩
  obtain ⟨t2, e2⟩ : ∃ t2, t2 = am_sI t1 43 c (Int32.ofNat q) := ⟨_, rfl⟩
  obtain ⟨t3, e3⟩ : ∃ t3, t3 = am_sI t2 40 2 (Int32.ofNat (c + 1)) := ⟨_, rfl⟩
  have g1 : t1.1 40 2 = Int32.ofNat c := by rw [e1, ix_sIn (by decide)]; exact h2
  have g2 : t2.1 40 2 = Int32.ofNat c := by rw [e2, ix_sIn (by decide)]; exact g1
  refine ⟨t3, ?_, ⟨?_, ?_, ?_, fun k hk => ?_⟩, ?_⟩
  · rw [F_X6_addToken_40, h2, if_neg (by rw [ix_Lle (by omega) (by omega)]; omega), if_pos hi]
    simp only [hnc]
    rw [ix_b1, ← e1, g1, if_pos hi, ix_b1]
    simp only [hnc]
    rw [← e2, g2, ix_addL, ix_b1, ← e3]
  · rw [e3, ix_sIj (by decide), e2, ix_sIn (by decide), e1, ix_sIn (by decide)]; exact h0
  · rw [e3, ix_sIn (by decide), e2, ix_sIn (by decide), e1, ix_sIn (by decide)]; exact h1
  · rw [e3, ix_sIs]
  · have a42 : t3.1 42 k = if k = c then x else s.1 42 k := by rw [e3, ix_sIn (by decide), e2, ix_sIn (by decide), e1, ix_sI1]
    have a43 : t3.1 43 k = if k = c then Int32.ofNat q else s.1 43 k := by rw [e3, ix_sIn (by decide), e2, ix_sI1, e1, ix_sIn (by decide)]
    rw [a42, a43]
    by_cases hkc : k = c
    · rw [if_pos hkc, if_pos hkc, hkc, hq]; exact ⟨hx, rfl⟩
    · rw [if_neg hkc, if_neg hkc]; exact h3 k (by omega)
  · rw [e3, e2, e1]; exact ((ix_F2.I (by rfl)).tr (ix_F2.I (by rfl))).tr (ix_F2.I (by rfl))
