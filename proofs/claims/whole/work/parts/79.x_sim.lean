/-! LAYER 2: class and model read alike: what stands between them, and one comparison (written by hand) -/
theorem am_sI_id {s : am_S} {k j : Nat} {v : Int32} (h : s.1 k j = v) : am_sI s k j v = s := by
  refine Prod.ext ?_ rfl
  funext a b
  rw [ix_sI]
  by_cases hh : a = k ∧ b = j
  · rw [if_pos hh, hh.1, hh.2, h]
  · rw [if_neg hh]
theorem mz_wF {s : am_S} {a : Int32} (h28 : s.1 82 28 = 1) : F_X12_wants_82 a s = some s := by
  rw [mz_wantsF h28, am_sI_id h28]
/-- the model stands at token i -/
def sq_M (T : Nat → Int32) (n i : Nat) (s : am_S) : Prop := sq_MX T n (sq_tp T n i) (sq_te T n (sq_tp T n i)) s
def sq_yM (k z j : Nat) : Bool := (z == 82 && (j == 23 || j == 24 || j == 25 || j == 27 || j == 28)) || (z == 83 && decide (96 + k ≤ j))
def sq_yC (z j : Nat) : Bool := (z == 40 && j == 5) || (z == 44 && j == 1) || z == 49
theorem sq_pM_le {k k' : Nat} {s t : am_S} (h : k ≤ k') (f : ix_F2 (sq_yM k') s t) : ix_F2 (sq_yM k) s t := f.wd (fun z j hk => by unfold sq_yM at hk ⊢; simp at hk ⊢; omega)
theorem sq_pM_q {k q : Nat} {s t : am_S} (f : ix_F2 (sq_yM k) s t) (h : q < k) : t.1 83 (96 + q) = s.1 83 (96 + q) := f.1 83 (96 + q) (by unfold sq_yM; simp; omega)
theorem sq_pM_j {k j : Nat} {s t : am_S} (f : ix_F2 (sq_yM k) s t) (h : j < 96) : t.1 83 j = s.1 83 j := f.1 83 j (by unfold sq_yM; simp; omega)
theorem sq_M_T {T : Nat → Int32} {n i : Nat} {s : am_S} (h : sq_M T n i s) : (∀ j, j < n → sq_N (T j) 255) ∧ sq_tp T n i ≤ n ∧ sq_tkL T n (sq_tp T n i) (sq_te T n (sq_tp T n i)) ∧ sq_te T n (sq_tp T n i) ≤ n ∧ n ≤ 200 := by
  have hT := sq_MX_N h
  have hp := (sq_tp_le (T := T) (n := n) i).1
  exact ⟨hT, hp, (sq_te_ok hp hT).1, sq_te_le hp, h.1⟩
theorem sq_MX_w {T : Nat → Int32} {n p e k j : Nat} {x : Int32} {s : am_S} (h : sq_MX T n p e s) (hk : k ≠ 92 ∧ (k = 82 → 25 ≤ j)) : sq_MX T n p e (am_sI s k j x) := by
  obtain ⟨hn, h22, h23, h24, hT⟩ := h
  refine ⟨hn, ?_, ?_, ?_, fun i hi => ?_⟩
  · rw [ix_sI, if_neg (by omega)]; exact h22
  · rw [ix_sI, if_neg (by omega)]; exact h23
  · rw [ix_sI, if_neg (by omega)]; exact h24
  · rw [ix_sI, if_neg (by omega)]; exact hT i hi
theorem sq_CP_i {T : Nat → Int32} {n c i : Nat} {s : am_S} (h : sq_CP T n c i s) : i ≤ c ∧ c ≤ 200 ∧ (sq_tp T n i < n → i < c) := by
  obtain ⟨h1, h2, h3, h4, h5, h6, h7⟩ := h
  refine ⟨h6, by omega, fun hh => ?_⟩
  by_cases hic : i = c
  · rw [hic, h5] at hh; omega
  · omega
theorem mz_go {T : Nat → Int32} {n i k : Nat} {s : am_S} (h : sq_M T n i s) (h28 : s.1 82 28 = 0) : ∃ s', F_X12_wants_82 1 s = some s' ∧ sq_M T n (i + 1) s' ∧ s'.1 82 28 = 0 ∧ s'.1 82 25 = s.1 82 25 ∧ s'.1 82 27 = s.1 82 27 ∧ s'.1 83 = s.1 83 ∧ ix_F2 (sq_yM k) s s' := by
  obtain ⟨hT, hp, ht, he, hn⟩ := sq_M_T h
  obtain ⟨s', i1, i2, i3, i4⟩ := mz_wants1 h he h28
  exact ⟨s', i1, i2, i3, i4.1 82 25 (by rfl), i4.1 82 27 (by rfl), funext fun q => i4.1 83 q (by unfold sq_pK2; simp), i4.wd (fun z j hk => by unfold sq_yM at hk; unfold sq_pK2; simp at hk ⊢; omega)⟩
theorem mz_no {T : Nat → Int32} {n i k : Nat} {s : am_S} (h : sq_M T n i s) (h28 : s.1 82 28 = 0) : ∃ s', F_X12_wants_82 0 s = some s' ∧ sq_M T n i s' ∧ s'.1 82 28 = 1 ∧ ix_F2 (sq_yM k) s s' :=
  ⟨_, mz_wants0 h28, sq_MX_w h ⟨by omega, fun _ => by omega⟩, ix_sIs, ix_F2.I (by rfl)⟩
theorem mz_wri {T : Nat → Int32} {n i k : Nat} {x : Int32} {s : am_S} (h : sq_M T n i s) (h28 : s.1 82 28 = 0) (h27 : s.1 82 27 = Int32.ofNat k) (hk : k < 200) : ∃ s', F_X12_writes_82 x s = some s' ∧ sq_M T n i s' ∧ s'.1 82 28 = 0 ∧ s'.1 82 27 = Int32.ofNat (k + 1) ∧ s'.1 83 (96 + k) = x ∧ ix_F2 (sq_yM k) s s' := by
  refine ⟨_, mz_writes h28 h27 hk, sq_MX_w (sq_MX_w h ⟨by omega, fun _ => by omega⟩) ⟨by omega, fun _ => by omega⟩, ?_, ix_sIs, ?_, ?_⟩
  · rw [ix_sIj (by decide), ix_sIn (by decide)]; exact h28
  · rw [ix_sIn (by decide), ix_sIs]
  · exact (ix_F2.I (by unfold sq_yM; simp)).tr (ix_F2.I (by rfl))
theorem cz_add {T : Nat → Int32} {n c i k : Nat} {x : Int32} {s : am_S} (h : sq_CP T n c i s) (h44 : s.1 44 1 = Int32.ofNat k) (hk : k < 200) : ∃ s', F_X7_addCode_44 x s = some s' ∧ sq_CP T n c i s' ∧ s'.1 44 1 = Int32.ofNat (k + 1) ∧ (∀ q, s'.1 49 q = if q = k then x else s.1 49 q) ∧ ix_F2 sq_yC s s' := by
  refine ⟨_, cz_addCode h44 hk, sq_CP_c (sq_CP_c h (by omega)) (by omega), ix_sIs, fun q => ?_, ?_⟩
  · rw [ix_sIn (by decide), ix_sI1]
  · exact (ix_F2.I (by unfold sq_yC; simp)).tr (ix_F2.I (by rfl))
/-- facts in the model's code -/
def sq_FF (f : Nat) : Int32 := [(0 : Int32), 0, 0, 0, 0, 0, -1, -2, -3, -4, -5].getD f 0
theorem sq_fm_W {T : Nat → Int32} {p e k : Nat} (h6 : 6 ≤ k) (hk : k < 11) (h : sq_is T p e k = true) : sq_fm T p e = sq_FF k := by
  have hb : ∀ k', k' < 18 → sq_is T p e k' = decide (k' = k) := by
    intro k' hk'
    by_cases he : k' = k
    · rw [he, h, decide_eq_true rfl]
    · rw [decide_eq_false he]
      cases hh : sq_is T p e k' with
      | false => rfl
      | true => exact absurd (sq_is_inj hk' (by omega) hh h) he
  unfold sq_fm
  simp only [hb 6 (by omega), hb 7 (by omega), hb 8 (by omega), hb 9 (by omega), hb 10 (by omega)]
  clear hb h
  have : ∀ k, k < 11 → 6 ≤ k → (if decide (6 = k) = true then (-1 : Int32) else if decide (7 = k) = true then -2 else if decide (8 = k) = true then -3 else if decide (9 = k) = true then -4 else if decide (10 = k) = true then -5 else 0) = sq_FF k := by decide
  exact this k hk h6
theorem sq_fm_no {T : Nat → Int32} {p e : Nat} (h : ∀ k, 6 ≤ k → k < 11 → ¬ sq_is T p e k = true) : sq_fm T p e = 0 := by
  unfold sq_fm
  rw [if_neg (h 6 (by omega) (by omega)), if_neg (h 7 (by omega) (by omega)), if_neg (h 8 (by omega) (by omega)), if_neg (h 9 (by omega) (by omega)), if_neg (h 10 (by omega) (by omega))]
def sq_vl (T : Nat → Int32) (n p : Nat) : Prop := 0 ≤ sq_cc T n p ∧ sq_cc T n p < 10005
theorem sq_FF_ok : ∀ f, f < 11 → 6 ≤ f → sq_cm (sq_FF f) = sq_WW f ∧ ¬ (0 : Int32) ≤ sq_FF f ∧ -6 < sq_FF f ∧ sq_FF f < 10000 ∧ (0 : Int32) ≤ sq_WW f ∧ sq_WW f < 10005 := by decide
theorem sq_vl_no {T : Nat → Int32} {n p : Nat} (hT : ∀ i, i < n → sq_N (T i) 255) (h1 : ∀ k, 6 ≤ k → k < 11 → ¬ sq_is T p (sq_te T n p) k = true) (h2 : ¬ (p < n ∧ sq_srt (T p) = 2 ∧ sq_te T n p - p ≤ 4)) : ¬ sq_vl T n p := by
  unfold sq_vl
  have hW : ∀ k, k < 18 → (k < 6 ∨ 11 ≤ k) → ¬ (0 ≤ sq_WW k ∧ sq_WW k < 10005) := by decide +kernel
  rcases sq_cc_x (p := p) hT with ⟨-, -, k, k1, k2, k3⟩ | ⟨-, -, -, k3⟩ | ⟨g1, g2, g3, -⟩ | ⟨-, -, -, k3⟩ | ⟨-, -, -, k3⟩ | ⟨-, k3⟩
  · rw [k3]
    refine hW k k1 ?_
    by_cases hk : 6 ≤ k ∧ k < 11
    · exact absurd k2 (h1 k hk.1 hk.2)
    · omega
  · rw [k3]; decide
  · exact absurd ⟨g1, g2, g3⟩ h2
  · rw [k3]; decide
  · rw [k3]
    rcases sq_sg_or (T p) with e | e | e | e | e | e | e
    all_goals (rw [e]; decide)
  · rw [k3]; decide
theorem mz_valueHere {T : Nat → Int32} {n i k : Nat} {s : am_S} (h : sq_M T n i s) (h28 : s.1 82 28 = 0) (h27 : s.1 82 27 = Int32.ofNat k) (hk : sq_tp T n i < n → k < 200) :
    (sq_vl T n (sq_tp T n i) ∧ sq_tp T n i < n ∧ ∃ s' y, F_X12_valueHere_82 s = some s' ∧ sq_M T n (i + 1) s' ∧ s'.1 82 28 = 0 ∧ s'.1 82 27 = Int32.ofNat (k + 1) ∧ s'.1 83 (96 + k) = y ∧ sq_cm y = sq_cc T n (sq_tp T n i) ∧ (-6 < y ∧ y < 10000) ∧ ix_F2 (sq_yM k) s s') ∨
    (¬ sq_vl T n (sq_tp T n i) ∧ ∃ s', F_X12_valueHere_82 s = some s' ∧ sq_M T n i s' ∧ s'.1 82 28 = 1 ∧ ix_F2 (sq_yM k) s s') := by
  obtain ⟨hT, hp, ht, he, hn⟩ := sq_M_T h
  have hF : F_X12_valueHere_82 s = _ := rfl
  rw [F_X12_valueHere_82, mz_factHere h ht, ix_b1, if_pos h28]
  dsimp only
  by_cases hf : ∃ f, 6 ≤ f ∧ f < 11 ∧ sq_is T (sq_tp T n i) (sq_te T n (sq_tp T n i)) f = true
  · left
    obtain ⟨f, f1, f2, f3⟩ := hf
    have hlt := (sq_is_1 (k := f) (by omega) he hT f3).1
    obtain ⟨g1, g2, g3, g4, g5, g6⟩ := sq_FF_ok f f2 f1
    have hcc : sq_cc T n (sq_tp T n i) = sq_WW f := (sq_cc_W hp hT (by omega)).mpr f3
    obtain ⟨s1, a1, a2, a3, a4, a5, a6, a7⟩ := mz_go (k := k) h h28
    obtain ⟨s2, b1, b2, b3, b4, b5, b6⟩ := mz_wri (x := sq_FF f) a2 a3 (a5.trans h27) (hk hlt)
    refine ⟨⟨by rw [hcc]; exact g5, by rw [hcc]; exact g6⟩, hlt, s2, sq_FF f, ?_, b2, b3, b4, b5, by rw [hcc]; exact g1, ⟨g3, g4⟩, a7.tr b6⟩
    rw [sq_fm_W f1 f2 f3, if_neg g2, a1, ix_b1, b1, ix_b1]
  · have hf' : ∀ k, 6 ≤ k → k < 11 → ¬ sq_is T (sq_tp T n i) (sq_te T n (sq_tp T n i)) k = true := fun k k1 k2 k3 => hf ⟨k, k1, k2, k3⟩
    rw [sq_fm_no hf', if_pos (show (0 : Int32) ≤ 0 by decide), if_pos h28]
    obtain ⟨s1, y, n1, n2, n3, n4, n5⟩ := mz_number (x1 := 9999) h ht.1 he hp
    have m28 : s1.1 82 28 = 0 := (n3.1 82 28 (by rfl)).trans h28
    have m27 : s1.1 82 27 = Int32.ofNat k := (n3.1 82 27 (by rfl)).trans h27
    have f1 : ix_F2 (sq_yM k) s s1 := n3.wd (fun z j hk => by unfold sq_yM at hk; simp at hk ⊢; omega)
    by_cases hc : sq_tp T n i < n ∧ sq_srt (T (sq_tp T n i)) = 2 ∧ sq_te T n (sq_tp T n i) - sq_tp T n i ≤ 4
    · left
      obtain ⟨y1, y2⟩ := n4 hc
      obtain ⟨w, w1, w2⟩ := sq_nu_N hT (sq_te T n (sq_tp T n i) - sq_tp T n i) (sq_tp T n i) 0 (sq_te_d hc.1 hc.2.1) hc.2.2 (Nat.pos_of_ne_zero (by simp))
      have w2' : sq_nu T (sq_te T n (sq_tp T n i) - sq_tp T n i) (sq_tp T n i) 0 = Int32.ofNat w := w2
      have hcc : sq_cc T n (sq_tp T n i) = Int32.ofNat w := by
        unfold sq_cc sq_cd sq_no
        rw [if_pos hc.1, if_neg (by rw [hc.2.1]; decide), if_pos hc.2.1, if_pos hc.2.2, w2']
      rw [w2', if_neg (by rw [ix_Llt (by omega) (by omega)]; omega)] at y2
      rw [y2] at n1
      obtain ⟨s2, a1, a2, a3, a4, a5, a6, a7⟩ := mz_go (k := k) n2 m28
      obtain ⟨s3, b1, b2, b3, b4, b5, b6⟩ := mz_wri (x := s2.1 82 25) a2 a3 (a5.trans m27) (hk hc.1)
      have e25 : s2.1 82 25 = Int32.ofNat w := by rw [a4, y1, w2']
      have w0 : (0 : Int32) ≤ Int32.ofNat w := by rw [ix_Lle (by omega) (by omega)]; omega
      refine ⟨⟨by rw [hcc]; exact w0, by rw [hcc, ix_ltL (by omega) (by omega)]; omega⟩, hc.1, s3, Int32.ofNat w, ?_, b2, b3, b4, by rw [b5, e25], by rw [hcc]; unfold sq_cm; rw [if_pos w0], ⟨?_, by rw [ix_ltL (by omega) (by omega)]; omega⟩, (f1.tr a7).tr b6⟩
      · rw [n1, a1, ix_b1, b1, ix_b1]
      · rw [ix_lt', ix_int (by omega)]
        have : (-6 : Int32).toInt = -6 := by decide
        omega
    · right
      rw [n5 hc] at n1
      obtain ⟨s2, a1, a2, a3, a4⟩ := mz_no (k := k) n2 m28
      refine ⟨sq_vl_no hT hf' hc, s2, ?_, a2, a3, f1.tr a4⟩
      rw [n1, a1, ix_b1, mz_writesF a3, ix_b1]
/-- in the failed mode nothing goes on -/
theorem mz_valueF {T : Nat → Int32} {n i : Nat} {s : am_S} (h : sq_M T n i s) (h28 : s.1 82 28 = 1) : F_X12_valueHere_82 s = some s := by
  obtain ⟨hT, hp, ht, he, hn⟩ := sq_M_T h
  have z1 : ¬ (1 : Int32) = 0 := by decide
  rw [F_X12_valueHere_82, mz_factHere h ht, ix_b1, h28, if_neg z1]
  dsimp only
  rw [if_pos (show (0 : Int32) ≤ 0 by decide), if_neg z1]
theorem sq_sgn {T : Nat → Int32} {n p : Nat} (hT : ∀ i, i < n → sq_N (T i) 255) : (10010 ≤ sq_cc T n p ∧ sq_cc T n p ≤ 10012) ↔ p < n ∧ (T p = 60 ∨ T p = 61 ∨ T p = 62) := by
  have e1 : sq_sg 60 = 10010 := by decide
  have e2 : sq_sg 61 = 10011 := by decide
  have e3 : sq_sg 62 = 10012 := by decide
  have i1 : sq_isg 60 := Or.inr (Or.inr (Or.inr (Or.inl rfl)))
  have i2 : sq_isg 61 := Or.inr (Or.inr (Or.inr (Or.inr (Or.inl rfl))))
  have i3 : sq_isg 62 := Or.inr (Or.inr (Or.inr (Or.inr (Or.inr rfl))))
  constructor
  · rintro ⟨h1, h2⟩
    obtain ⟨w, w1, w2, w3⟩ := ix_of3 (a := 10010) (b := 10012) (by omega) (by omega) h1 h2
    have hw : w = 10010 ∨ w = 10011 ∨ w = 10012 := by omega
    rcases hw with rfl | rfl | rfl
    · obtain ⟨a, b⟩ := (sq_cc_S hT i1).mp (w3.trans e1.symm); exact ⟨a, Or.inl b⟩
    · obtain ⟨a, b⟩ := (sq_cc_S hT i2).mp (w3.trans e2.symm); exact ⟨a, Or.inr (Or.inl b)⟩
    · obtain ⟨a, b⟩ := (sq_cc_S hT i3).mp (w3.trans e3.symm); exact ⟨a, Or.inr (Or.inr b)⟩
  · rintro ⟨a, b | b | b⟩
    · rw [(sq_cc_S hT i1).mpr ⟨a, b⟩]; decide
    · rw [(sq_cc_S hT i2).mpr ⟨a, b⟩]; decide
    · rw [(sq_cc_S hT i3).mpr ⟨a, b⟩]; decide
