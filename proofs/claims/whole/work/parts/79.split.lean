/-! LAYER 2: the class's row of tokens (written by hand) -/
def sq_tp (T : Nat → Int32) (n : Nat) : Nat → Nat
  | 0 => sq_nx T n 0
  | k + 1 => sq_nx T n (sq_te T n (sq_tp T n k))
def sq_eb (T : Nat → Int32) (n : Nat) : Nat → Nat
  | 0 => 0
  | k + 1 => sq_te T n (sq_tp T n k)
theorem sq_tp_x {T : Nat → Int32} {n : Nat} (c : Nat) : sq_tp T n c = sq_nx T n (sq_eb T n c) := by cases c <;> rfl
theorem sq_ru_end {T : Nat → Int32} {k : Nat} : ∀ l p, sq_ru T k l p < p + l → sq_srt (T (sq_ru T k l p)) ≠ k := by
  intro l
  induction l with
  | zero => intro p h; rw [sq_ru] at h; omega
  | succ l ih =>
    intro p h
    rw [sq_ru] at h ⊢
    by_cases hs : sq_srt (T p) = k
    · rw [if_pos hs] at h ⊢; exact ih (p + 1) (by omega)
    · rw [if_neg hs]; exact hs
theorem sq_te_in {T : Nat → Int32} {n t q : Nat} (ht : t < n) (h1 : t < q) (h2 : q < sq_te T n t) : sq_srt (T q) = sq_srt (T (q - 1)) ∧ sq_srt (T q) ≠ 3 := by
  unfold sq_te at h2
  rw [if_pos ht] at h2
  by_cases hs : sq_srt (T t) = 1 ∨ sq_srt (T t) = 2
  · rw [if_pos hs] at h2
    obtain ⟨a1, a2, a3⟩ := sq_ru_le (T := T) (k := sq_srt (T t)) (n - (t + 1)) (t + 1)
    have e1 := a3 q (by omega) h2
    have e2 : sq_srt (T (q - 1)) = sq_srt (T t) := by
      by_cases hq : q - 1 = t
      · rw [hq]
      · exact a3 (q - 1) (by omega) (by omega)
    rw [e1, e2]; exact ⟨rfl, by omega⟩
  · rw [if_neg hs] at h2; omega
theorem sq_te_at {T : Nat → Int32} {n t : Nat} (ht : t < n) (h0 : sq_srt (T t) ≠ 0) (h2 : sq_te T n t < n) (h3 : sq_srt (T (sq_te T n t)) ≠ 3) : sq_srt (T (sq_te T n t - 1)) ≠ sq_srt (T (sq_te T n t)) := by
  by_cases hs : sq_srt (T t) = 1 ∨ sq_srt (T t) = 2
  · have e : sq_te T n t = sq_ru T (sq_srt (T t)) (n - (t + 1)) (t + 1) := by unfold sq_te; rw [if_pos ht, if_pos hs]
    obtain ⟨a1, a2, a3⟩ := sq_ru_le (T := T) (k := sq_srt (T t)) (n - (t + 1)) (t + 1)
    have hm := sq_ru_end (T := T) (k := sq_srt (T t)) (n - (t + 1)) (t + 1) (by rw [← e]; omega)
    rw [← e] at a1 a3 hm
    have e2 : sq_srt (T (sq_te T n t - 1)) = sq_srt (T t) := by
      by_cases hq : sq_te T n t - 1 = t
      · rw [hq]
      · exact a3 _ (by omega) (by omega)
    rw [e2]; exact fun z => hm z.symm
  · have e : sq_te T n t = t + 1 := by unfold sq_te; rw [if_pos ht, if_neg hs]
    have h4 := sq_srt_lt (c := T t)
    rw [e] at h3 ⊢
    rw [Nat.add_sub_cancel]
    intro z
    have h5 : sq_srt (T t) = 3 := by omega
    exact h3 (z.symm.trans h5)
theorem sq_sk_end {T : Nat → Int32} : ∀ l p, sq_sk T l p < p + l → sq_srt (T (sq_sk T l p)) ≠ 0 := by
  intro l
  induction l with
  | zero => intro p h; rw [sq_sk] at h; omega
  | succ l ih =>
    intro p h
    rw [sq_sk] at h ⊢
    by_cases hs : sq_srt (T p) = 0
    · rw [if_pos hs] at h ⊢; exact ih (p + 1) (by omega)
    · rw [if_neg hs]; exact hs
theorem sq_nx_0 {T : Nat → Int32} {n p : Nat} (hp : p ≤ n) (h : sq_nx T n p < n) : sq_srt (T (sq_nx T n p)) ≠ 0 := sq_sk_end (n - p) p (by unfold sq_nx at h; omega)
theorem sq_nx_s {T : Nat → Int32} {n p : Nat} (hp : p < n) (h : sq_srt (T p) = 0) : sq_nx T n p = sq_nx T n (p + 1) := by
  unfold sq_nx
  rw [show n - p = (n - (p + 1)) + 1 by omega, sq_sk, if_pos h]
theorem sq_nx_q {T : Nat → Int32} {n p : Nat} (hp : p < n) (h : sq_srt (T p) ≠ 0) : sq_nx T n p = p := by
  unfold sq_nx
  rw [show n - p = (n - (p + 1)) + 1 by omega, sq_sk, if_neg h]
theorem sq_nx_n {T : Nat → Int32} {n : Nat} : sq_nx T n n = n := by
  unfold sq_nx
  rw [Nat.sub_self]; rfl
/-- the class's row so far: c tokens -/
def sq_CK (T : Nat → Int32) (n c : Nat) (s : am_S) : Prop := s.1 40 0 = Int32.ofNat n ∧ s.1 41 = T ∧ s.1 40 2 = Int32.ofNat c ∧ ∀ k, k < c → s.1 42 k = (if sq_tp T n k < n then sq_cd T n (sq_tp T n k) else 10054) ∧ s.1 43 k = Int32.ofNat (sq_tp T n k)
def sq_pT (k j : Nat) : Bool := k == 42 || k == 43 || (k == 40 && j == 2)
theorem cz_addToken {T : Nat → Int32} {n c q : Nat} {x : Int32} {s : am_S} (h : sq_CK T n c s) (hc : c < 201) (hq : sq_tp T n c = q) (hx : x = if q < n then sq_cd T n q else 10054) : ∃ s', F_X6_addToken_40 x (Int32.ofNat q) s = some s' ∧ sq_CK T n (c + 1) s' ∧ ix_F2 sq_pT s s' := by
  obtain ⟨h0, h1, h2, h3⟩ := h
  have hi : am_in (Int32.ofNat c) 201 := (ix_in (by omega)).mpr (by omega)
  have hnc : (Int32.ofNat c).toNatClampNeg = c := ix_nat (by omega)
  obtain ⟨t1, e1⟩ : ∃ t1, t1 = am_sI s 42 c x := ⟨_, rfl⟩
  obtain ⟨t2, e2⟩ : ∃ t2, t2 = am_sI t1 43 c (Int32.ofNat q) := ⟨_, rfl⟩
  obtain ⟨t3, e3⟩ : ∃ t3, t3 = am_sI t2 40 2 (Int32.ofNat (c + 1)) := ⟨_, rfl⟩
  have g1 : t1.1 40 2 = Int32.ofNat c := by rw [e1, ix_sIn (by decide)]; exact h2
  have g2 : t2.1 40 2 = Int32.ofNat c := by rw [e2, ix_sIn (by decide)]; exact g1
  refine ⟨t3, ?_, ⟨?_, ?_, ?_, fun k hk => ?_⟩, ?_⟩
  · rw [F_X6_addToken_40, h2, if_neg (by rw [ix_Lle (by omega) (by omega)]; omega), if_pos hi]
    simp only [hnc]
    rw [ix_b1, ← e1, g1, if_pos hi, ix_b1]
    simp only [hnc]
    rw [← e2, g2, ix_addL, ix_b1, ← e3]
  · rw [e3, ix_sIj (by decide), e2, ix_sIn (by decide), e1, ix_sIn (by decide)]; exact h0
  · rw [e3, ix_sIn (by decide), e2, ix_sIn (by decide), e1, ix_sIn (by decide)]; exact h1
  · rw [e3, ix_sIs]
  · have a42 : t3.1 42 k = if k = c then x else s.1 42 k := by rw [e3, ix_sIn (by decide), e2, ix_sIn (by decide), e1, ix_sI1]
    have a43 : t3.1 43 k = if k = c then Int32.ofNat q else s.1 43 k := by rw [e3, ix_sIn (by decide), e2, ix_sI1, e1, ix_sIn (by decide)]
    rw [a42, a43]
    by_cases hkc : k = c
    · rw [if_pos hkc, if_pos hkc, hkc, hq]; exact ⟨hx, rfl⟩
    · rw [if_neg hkc, if_neg hkc]; exact h3 k (by omega)
  · rw [e3, e2, e1]; exact ((ix_F2.I (by rfl)).tr (ix_F2.I (by rfl))).tr (ix_F2.I (by rfl))
theorem sq_te_le {T : Nat → Int32} {n p : Nat} (hp : p ≤ n) : sq_te T n p ≤ n := by
  unfold sq_te
  by_cases h : p < n
  · rw [if_pos h]
    by_cases hs : sq_srt (T p) = 1 ∨ sq_srt (T p) = 2
    · rw [if_pos hs]
      have := (sq_ru_le (T := T) (k := sq_srt (T p)) (n - (p + 1)) (p + 1)).2.1
      omega
    · rw [if_neg hs]; omega
  · rw [if_neg h]; exact hp
theorem sq_te_gt {T : Nat → Int32} {n p : Nat} (hp : p < n) : p < sq_te T n p := by
  unfold sq_te
  rw [if_pos hp]
  by_cases hs : sq_srt (T p) = 1 ∨ sq_srt (T p) = 2
  · rw [if_pos hs]
    have := (sq_ru_le (T := T) (k := sq_srt (T p)) (n - (p + 1)) (p + 1)).1
    omega
  · rw [if_neg hs]; omega
theorem sq_tp_le {T : Nat → Int32} {n : Nat} : ∀ c, sq_tp T n c ≤ n ∧ sq_eb T n c ≤ n := by
  intro c
  induction c with
  | zero => exact ⟨(sq_nx_le (Nat.zero_le n)).2, Nat.zero_le n⟩
  | succ c ih =>
    have h := sq_te_le (T := T) ih.1
    exact ⟨(sq_nx_le h).2, h⟩
theorem cz_splitL {T : Nat → Int32} {n : Nat} (hn : n ≤ 200) : ∀ (l q f : Nat) (s : am_S) (c : Nat), q + l = n → l < f → sq_CK T n c s → c ≤ q → (∀ k, k < c → sq_tp T n k < n) → (q < sq_eb T n c → ∃ k, c = k + 1 ∧ sq_tp T n k < q) → (sq_eb T n c ≤ q → sq_nx T n q = sq_tp T n c ∧ ∀ i, sq_eb T n c ≤ i → i < q → sq_srt (T i) = 0) → ∃ s' c', F_X6_splitUp_40_b7 f (Int32.ofNat q) s = some s' ∧ sq_CK T n (c' + 1) s' ∧ c' ≤ n ∧ (∀ k, k < c' → sq_tp T n k < n) ∧ sq_tp T n c' = n ∧ ix_F2 sq_pT s s' := by
  intro l
  induction l with
  | zero =>
    intro q f s c hq hf hC hc hk hin hout
    obtain ⟨f, rfl⟩ : ∃ g, f = g + 1 := ⟨f - 1, by omega⟩
    have hqn : q = n := by omega
    subst hqn
    have ht : sq_tp T q c = q := by rw [← (hout (sq_tp_le c).2).1]; exact sq_nx_n
    obtain ⟨s', a1, a2, a3⟩ := cz_addToken (x := 10054) hC (by omega) ht (by rw [if_neg (by omega)])
    refine ⟨s', c, ?_, a2, hc, hk, ht, a3⟩
    rw [F_X6_splitUp_40_b7, hC.1, if_pos (by rw [ix_le (by omega) (by omega)]; omega), a1, ix_b1]
  | succ l ih =>
    intro q f s c hq hf hC hc hk hin hout
    obtain ⟨f, rfl⟩ : ∃ g, f = g + 1 := ⟨f - 1, by omega⟩
    have hqn : q < n := by omega
    have hi : am_in (Int32.ofNat q) 200 := (ix_in (by omega)).mpr (by omega)
    have hnq : (Int32.ofNat q).toNatClampNeg = q := ix_nat (by omega)
    have h4 := sq_srt_lt (c := T q)
    have z1 : ¬ (1 : Int32) = 0 := by decide
    have z0 : (0 : Int32) = 0 := rfl
    -- on, with no token here
    have hskip : (sq_srt (T q) = 0 ∨ q < sq_eb T n c) → ∃ s' c', F_X6_splitUp_40_b74 (F_X6_splitUp_40_b7 f) (Int32.ofNat q) s = some s' ∧ sq_CK T n (c' + 1) s' ∧ c' ≤ n ∧ (∀ k, k < c' → sq_tp T n k < n) ∧ sq_tp T n c' = n ∧ ix_F2 sq_pT s s' := by
      intro hor
      rw [F_X6_splitUp_40_b74, ix_addL]
      refine ih (q + 1) f s c (by omega) (by omega) hC (by omega) hk (fun h => ?_) (fun h => ?_)
      · obtain ⟨k, k1, k2⟩ := hin (by omega)
        exact ⟨k, k1, by omega⟩
      · by_cases hE : sq_eb T n c ≤ q
        · obtain ⟨o1, o2⟩ := hout hE
          have hs0 : sq_srt (T q) = 0 := hor.resolve_right (by omega)
          refine ⟨by rw [← sq_nx_s hqn hs0]; exact o1, fun i i1 i2 => ?_⟩
          by_cases hiq : i = q
          · rw [hiq]; exact hs0
          · exact o2 i i1 (by omega)
        · have hEq : sq_eb T n c = q + 1 := by omega
          exact ⟨by rw [sq_tp_x, hEq], fun i i1 i2 => by omega⟩
    -- a token begins here
    have htok : sq_srt (T q) ≠ 0 → sq_eb T n c ≤ q → ∃ s' c', F_X6_splitUp_40_b54 (F_X6_splitUp_40_b7 f) (Int32.ofNat q) (Int32.ofNat (sq_srt (T q))) 0 s = some s' ∧ sq_CK T n (c' + 1) s' ∧ c' ≤ n ∧ (∀ k, k < c' → sq_tp T n k < n) ∧ sq_tp T n c' = n ∧ ix_F2 sq_pT s s' := by
      intro h0 hE
      have htq : sq_tp T n c = q := by rw [← (hout hE).1]; exact sq_nx_q hqn h0
      have htf := cz_tokenFrom (s := s) hn hC.1 hqn
      rw [hC.2.1] at htf
      obtain ⟨s1, a1, a2, a3⟩ := cz_addToken (x := sq_cd T n q) hC (by omega) htq (by rw [if_pos hqn])
      have heb : sq_eb T n (c + 1) = sq_te T n q := by show sq_te T n (sq_tp T n c) = _; rw [htq]
      have hgt := sq_te_gt (T := T) hqn
      obtain ⟨s', c', i1, i2, i3, i4, i5, i6⟩ := ih (q + 1) f s1 (c + 1) (by omega) (by omega) a2 (by omega) (fun k hk2 => by
        by_cases hkc : k = c
        · rw [hkc, htq]; exact hqn
        · exact hk k (by omega)) (fun h => ⟨c, rfl, by rw [htq]; omega⟩) (fun h => by
        have hEq : sq_eb T n (c + 1) = q + 1 := by rw [heb] at h ⊢; omega
        exact ⟨by rw [sq_tp_x (c + 1), hEq], fun i j1 j2 => by omega⟩)
      refine ⟨s', c', ?_, i2, i3, i4, i5, a3.tr i6⟩
      rw [F_X6_splitUp_40_b54, if_neg (by rw [ix_eqL (by omega) (by omega)]; exact h0), if_pos z0, htf, ix_b1]
      dsimp only
      rw [a1, ix_b1, F_X6_splitUp_40_b74, ix_addL]
      exact i1
    have hb54 : ∀ y : Int32, (y = 0 → sq_eb T n c ≤ q ∨ sq_srt (T q) = 0) → (¬ y = 0 → sq_srt (T q) = 0 ∨ q < sq_eb T n c) → ∃ s' c', F_X6_splitUp_40_b54 (F_X6_splitUp_40_b7 f) (Int32.ofNat q) (Int32.ofNat (sq_srt (T q))) y s = some s' ∧ sq_CK T n (c' + 1) s' ∧ c' ≤ n ∧ (∀ k, k < c' → sq_tp T n k < n) ∧ sq_tp T n c' = n ∧ ix_F2 sq_pT s s' := by
      intro y hy0 hy1
      by_cases h0 : sq_srt (T q) = 0
      · have := hskip (Or.inl h0)
        rw [F_X6_splitUp_40_b54, if_pos (by rw [h0]; rfl)]
        exact this
      · by_cases hy : y = 0
        · subst hy; exact htok h0 ((hy0 rfl).resolve_right h0)
        · have := hskip (hy1 hy)
          rw [F_X6_splitUp_40_b54, if_neg (by rw [ix_eqL (by omega) (by omega)]; exact h0), if_neg hy]
          exact this
    rw [F_X6_splitUp_40_b7, hC.1, if_neg (by rw [ix_le (by omega) (by omega)]; omega), if_pos hi]
    simp only [hnq]
    rw [hC.2.1, cz_srt, ix_b1]
    dsimp only
    -- inside a token the sort is the one before, and not 3
    have hins : q < sq_eb T n c → 0 < q ∧ sq_srt (T q) = sq_srt (T (q - 1)) ∧ sq_srt (T q) ≠ 3 := by
      intro h
      obtain ⟨k, rfl, k2⟩ := hin h
      have := sq_te_in (hk k (by omega)) k2 h
      exact ⟨by omega, this⟩
    by_cases h3 : sq_srt (T q) = 3
    · rw [if_pos (by rw [h3]; rfl), F_X6_splitUp_40_b53]
      refine hb54 0 (fun _ => Or.inl ?_) (fun z => absurd rfl z)
      by_cases hE : sq_eb T n c ≤ q
      · exact hE
      · exact absurd h3 (hins (by omega)).2.2
    · rw [if_neg (by rw [ix_eqL (by omega) (by omega)]; exact h3)]
      by_cases hq0 : q = 0
      · rw [if_pos (by rw [hq0]; decide), F_X6_splitUp_40_b53]
        refine hb54 0 (fun _ => Or.inl ?_) (fun z => absurd rfl z)
        by_cases hE : sq_eb T n c ≤ q
        · exact hE
        · have := (hins (by omega)).1; omega
      · have hs : Int32.ofNat q - 1 = Int32.ofNat (q - 1) := ix_subL q 1 (by show 1 ≤ q; omega)
        have hi2 : am_in (Int32.ofNat (q - 1)) 200 := (ix_in (by omega)).mpr (by omega)
        have hnq2 : (Int32.ofNat (q - 1)).toNatClampNeg = q - 1 := ix_nat (by omega)
        have h42 := sq_srt_lt (c := T (q - 1))
        rw [if_neg (by rw [ix_leL (by omega) (by omega)]; omega), hs, if_pos hi2]
        simp only [hnq2]
        rw [hC.2.1, cz_srt, ix_b1]
        dsimp only
        by_cases he : sq_srt (T (q - 1)) = sq_srt (T q)
        · rw [if_pos (by rw [he])]
          refine hb54 1 (fun z => absurd z z1) (fun _ => ?_)
          by_cases h0 : sq_srt (T q) = 0
          · exact Or.inl h0
          · right
            by_cases hE : sq_eb T n c ≤ q
            · exfalso
              by_cases hE2 : sq_eb T n c = q
              · cases c with
                | zero => exact hq0 (show (0 : Nat) = q from hE2).symm
                | succ k =>
                  have hkn := hk k (by omega)
                  have e : sq_te T n (sq_tp T n k) = q := hE2
                  have hne0 : sq_srt (T (sq_tp T n k)) ≠ 0 := by
                    rw [sq_tp_x k]; exact sq_nx_0 (sq_tp_le k).2 (by rw [← sq_tp_x k]; exact hkn)
                  have := sq_te_at hkn hne0 (by rw [e]; exact hqn) (by rw [e]; exact h3)
                  rw [e] at this
                  exact this he
              · have := (hout hE).2 (q - 1) (by omega) (by omega)
                exact h0 (by rw [← he]; exact this)
            · omega
        · rw [if_neg (by rw [ix_eq (by omega) (by omega)]; exact he), F_X6_splitUp_40_b53]
          refine hb54 0 (fun _ => Or.inl ?_) (fun z => absurd rfl z)
          by_cases hE : sq_eb T n c ≤ q
          · exact hE
          · exact absurd (hins (by omega)).2.1.symm he
theorem cz_split {T : Nat → Int32} {n : Nat} {s : am_S} (hn : n ≤ 200) (h0 : s.1 40 0 = Int32.ofNat n) (h41 : s.1 41 = T) : ∃ s' c, F_X6_splitUp_40 s = some s' ∧ sq_CK T n (c + 1) s' ∧ c ≤ n ∧ (∀ k, k < c → sq_tp T n k < n) ∧ sq_tp T n c = n ∧ ix_F2 sq_pT s s' := by
  have hC : sq_CK T n 0 (am_sI s 40 2 0) := ⟨by rw [ix_sIj (by decide)]; exact h0, by rw [ix_sIn (by decide)]; exact h41, ix_sIs, fun k hk => by omega⟩
  obtain ⟨s', c, i1, i2, i3, i4, i5, i6⟩ := cz_splitL hn n 0 1000 _ 0 (by omega) (by omega) hC (Nat.le_refl _) (fun k hk => by omega) (fun h => absurd h (Nat.not_lt_zero _)) (fun _ => ⟨rfl, fun i _ h2 => by omega⟩)
  refine ⟨s', c, ?_, i2, i3, i4, i5, (ix_F2.I (by rfl)).tr i6⟩
  rw [F_X6_splitUp_40, ix_b1]
  exact i1
/-- the token at hand, in the class -/
theorem cz_current {T : Nat → Int32} {n c i : Nat} {s : am_S} (h : sq_CK T n (c + 1) s) (hc : c ≤ 200) (hi : i ≤ c) (h5 : s.1 40 5 = Int32.ofNat i) : F_X6_current_40 s = some (if sq_tp T n i < n then sq_cd T n (sq_tp T n i) else 10054, s) := by
  have hni : (Int32.ofNat i).toNatClampNeg = i := ix_nat (by omega)
  rw [F_X6_current_40, h.2.2.1, h5, if_neg (by rw [ix_le (by omega) (by omega)]; omega), if_pos ((ix_in (by omega)).mpr (by omega)), hni, (h.2.2.2 i (by omega)).1]
