/-! LAYER 2: rows: prove, row, alterRow, judge agree (written by hand) -/
def sq_lk (c d : Nat) (ln : Nat → Int32) : Prop := ∀ j, j < d → ∃ k, k ≤ c ∧ ln j = Int32.ofNat k
theorem sq_wal_fi {rec : (Nat → Int32) → Int32 → (Nat → Int32) → sq_Ac → sq_Ac} {md ln : Nat → Int32} {w : Int32} {d c len : Nat} (hln : sq_lk c d ln) (hrec : ∀ k w1 ln1 a, k ≤ c → sq_lk c (d + 1) ln1 → (∀ f, a.2.2.2.2 = some f → sq_lk c len f) → ∀ f, (rec (sq_ca md k).1 w1 ln1 a).2.2.2.2 = some f → sq_lk c len f) : ∀ (j k : Nat) (a : sq_Ac), k + j = c + 1 → (∀ f, a.2.2.2.2 = some f → sq_lk c len f) → ∀ f, (sq_wal rec md w ln d j k a).2.2.2.2 = some f → sq_lk c len f := by
  intro j
  induction j with
  | zero => intro k a _ h; exact h
  | succ j ih =>
    intro k a hk h
    rw [sq_wal]
    refine ih (k + 1) _ (by omega) (hrec k _ _ a (by omega) (fun i hi => ?_) h)
    by_cases hid : i = d
    · rw [hid]; exact ⟨k, by omega, ix_ups⟩
    · rw [ix_upn hid]; exact hln i (by omega)
theorem sq_wa_fi {t : Int32} {len c : Nat} : ∀ (l d : Nat) (m ln : Nat → Int32) (w : Int32) (a : sq_Ac), sq_Ok m → d + l = len → sq_tn m + l ≤ (m 2).toNatClampNeg → sq_cn m = c → sq_lk c d ln → (∀ f, a.2.2.2.2 = some f → sq_lk c len f) → ∀ f, (sq_wa t len l d m w ln a).2.2.2.2 = some f → sq_lk c len f := by
  intro l
  induction l with
  | zero =>
    intro d m ln w a ok hd ht hc hln ha f hf
    have hdl : d = len := by omega
    rw [sq_wa] at hf
    have hf' : (if w ≤ a.1 then a.2.2.2.2 else some ln) = some f := hf
    by_cases h : w ≤ a.1
    · rw [if_pos h] at hf'; exact ha f hf'
    · rw [if_neg h] at hf'
      obtain rfl := Option.some.inj hf'
      rw [← hdl]; exact hln
  | succ l ih =>
    intro d m ln w a ok hd ht hc hln ha
    obtain ⟨-, ⟨t0, e, t1, t2, t3, t4, t5⟩, -⟩ := id ok
    have ht0 : sq_tn m = t0 := by unfold sq_tn; rw [t4, ix_nat (by omega)]
    have h2 : (m 2).toNatClampNeg = e := by rw [t5, ix_nat (by omega)]
    have h32 : m 3 < m 2 := by rw [t4, t5, ix_lt (by omega) (by omega)]; omega
    have okd := sq_d_ok ok (sq_lt16 ok h32)
    have h32d := sq_d_32 ok h32
    rw [sq_wa, hc]
    refine sq_wal_fi hln (fun k w1 ln1 a1 hk hln1 ha1 => ?_) _ 0 a (by omega) ha
    obtain ⟨c1, c2, c3, -⟩ := sq_ca_ok (a := k) okd h32d
    have e2 : (sq_ca (sq_d m) k).1 2 = m 2 := by rw [c2 2 (by unfold sq_ch; omega), sq_d_n ok (by omega)]
    have e3 : sq_tn (sq_ca (sq_d m) k).1 = t0 + 1 := by
      unfold sq_tn; rw [c3, sq_d_n ok (by omega), t4, ix_addL, ix_nat (by omega)]
    have e0 : sq_cn (sq_ca (sq_d m) k).1 = c := by
      unfold sq_cn; rw [c2 0 (by unfold sq_ch; omega), sq_d_n ok (by omega)]; exact hc
    exact ih (d + 1) _ ln1 w1 a1 c1 (by omega) (by rw [e2, e3, h2]; omega) e0 hln1 ha1
theorem sq_A_fi {m : Nat → Int32} {n : Nat} {t : Int32} (ok : sq_Ok m) (hn : n ≤ 4) {f : Nat → Int32} (hf : (sq_A m n t).2.2.2.2 = some f) : sq_lk (sq_cn m) (sq_pl m n) f := by
  obtain ⟨-, ⟨t0, e, t1, t2, t3, t4, t5⟩, -⟩ := id ok
  have ht0 : sq_tn m = t0 := by unfold sq_tn; rw [t4, ix_nat (by omega)]
  have h2 : (m 2).toNatClampNeg = e := by rw [t5, ix_nat (by omega)]
  exact sq_wa_fi (t := t) (len := sq_pl m n) (sq_pl m n) 0 m (fun _ => 0) 0 (-1, 0, 5, 0, none) ok (by omega) (by unfold sq_pl; omega) rfl (fun j hj => by omega) (fun f hf => by cases hf) f hf
/-- the model's row behind the first i acts -/
def sq_rm (m : Nat → Int32) (f : Nat → Nat) : Nat → Nat → Int32
  | 0 => m
  | i + 1 => (sq_go (sq_rm m f i) (f i)).1
theorem sq_rm_ok {m : Nat → Int32} {f : Nat → Nat} {t0 e : Nat} (ok : sq_Ok m) (h3 : m 3 = Int32.ofNat t0) (h2 : m 2 = Int32.ofNat e) (he : e ≤ 16) : ∀ i, t0 + i ≤ e → sq_Ok (sq_rm m f i) ∧ (∀ j, ¬ sq_ch j → sq_rm m f i j = m j) ∧ sq_rm m f i 3 = Int32.ofNat (t0 + i) := by
  intro i
  induction i with
  | zero => intro _; exact ⟨ok, fun _ _ => rfl, h3⟩
  | succ i ih =>
    intro hi
    obtain ⟨a1, a2, a3⟩ := ih (by omega)
    have hlt : sq_rm m f i 3 < sq_rm m f i 2 := by
      rw [a3, a2 2 (by unfold sq_ch; omega), h2, ix_lt (by omega) (by omega)]; omega
    obtain ⟨b1, b2, b3, -⟩ := sq_go_ok (a := f i) a1 hlt
    refine ⟨b1, fun j hj => (b2 j hj).trans (a2 j hj), ?_⟩
    show (sq_go (sq_rm m f i) (f i)).1 3 = _
    rw [b3, a3, ix_addL]; rfl
theorem sq_rm_lt {m : Nat → Int32} {f : Nat → Nat} {t0 e : Nat} (ok : sq_Ok m) (h3 : m 3 = Int32.ofNat t0) (h2 : m 2 = Int32.ofNat e) (he : e ≤ 16) {i : Nat} (hi : t0 + i < e) : sq_rm m f i 3 < sq_rm m f i 2 := by
  obtain ⟨a1, a2, a3⟩ := sq_rm_ok (f := f) ok h3 h2 he i (by omega)
  rw [a3, a2 2 (by unfold sq_ch; omega), h2, ix_lt (by omega) (by omega)]; exact hi
def sq_rv (m : Nat → Int32) (f : Nat → Nat) (i w : Nat) : Int32 :=
  if w = 0 then Int32.ofNat (f i) else if w = 1 then (sq_go (sq_rm m f i) (f i)).2 else Int32.ofNat (sq_cs (sq_rm m f (i + 1)))
def sq_pR (k j : Nat) : Bool := k == 8 || k == 13 || k == 23 || (66 ≤ k && k < 70) || (k == 50 && j == 14)
theorem cz_wr {m : Nat → Int32} {f : Nat → Nat} {t0 e len : Nat} (ok : sq_Ok m) (h3 : m 3 = Int32.ofNat t0) (h2 : m 2 = Int32.ofNat e) (he : e ≤ 16) (hle : t0 + len ≤ e) (hl4 : len ≤ 4) (hf : ∀ j, j < len → f j ≤ sq_cn m) : ∀ (l i g : Nat) (s : am_S), i + l = len → l < g → sq_R s.1 8 (sq_rm m f i) → sq_mo (s.1 51) m → s.1 50 5 = Int32.ofNat len → (∀ j, j < len → s.1 63 j = Int32.ofNat (f j)) → (∀ k, k < i → ∀ w, w < 3 → s.1 (66 + k) w = sq_rv m f k w) → ∃ s', F_X3_writeRows_50_b6 g (Int32.ofNat i) s = some (Int32.ofNat len, s') ∧ sq_R s'.1 8 m ∧ s'.1 50 14 = Int32.ofNat len ∧ (∀ k, k < len → ∀ w, w < 3 → s'.1 (66 + k) w = sq_rv m f k w) ∧ ix_F2 sq_pR s s' := by
  intro l
  induction l with
  | zero =>
    intro i g s hl hg R mo h5 h63 hrow
    obtain ⟨g, rfl⟩ : ∃ g', g = g' + 1 := ⟨g - 1, by omega⟩
    obtain ⟨a1, a2, a3⟩ := sq_rm_ok (f := f) ok h3 h2 he i (by omega)
    have q : ∀ z, z ≠ 50 → (am_sI s 50 14 (Int32.ofNat len)).1 z = s.1 z := fun z hz => ix_sIn hz
    obtain ⟨s1, b1, b2, b3⟩ := cz_goBack (s := am_sI s 50 14 (Int32.ofNat len)) (m := m) (sq_R_fr (fun z h1 h2 => q z (by omega)) R) a2 (by rw [q 51 (by decide)]; exact mo)
    have e14 : s1.1 50 14 = Int32.ofNat len := by rw [b3.1 50 rfl, ix_sIs]
    refine ⟨s1, ?_, b2, e14, fun k hk w hw => ?_, (ix_F2.I (by rfl)).tr (b3.F2 (fun k j hk => by unfold sq_pR at hk; simp at hk ⊢; omega))⟩
    · rw [F_X3_writeRows_50_b6, h5, if_pos (by rw [ix_le (by omega) (by omega)]; omega), ix_b1, b1, ix_b1, e14]
    · rw [b3.1 (66 + k) (by simp; omega), q _ (by omega)]; exact hrow k (by omega) w hw
  | succ l ih =>
    intro i g s hl hg R mo h5 h63 hrow
    obtain ⟨g, rfl⟩ : ∃ g', g = g' + 1 := ⟨g - 1, by omega⟩
    obtain ⟨a1, a2, a3⟩ := sq_rm_ok (f := f) ok h3 h2 he i (by omega)
    have hlt := sq_rm_lt (f := f) ok h3 h2 he (i := i) (by omega)
    have hi4 : am_in (Int32.ofNat i) 4 := (ix_in (by omega)).mpr (by omega)
    have hn : (Int32.ofNat i).toNatClampNeg = i := ix_nat (by omega)
    have n0 : (0 : Int32).toNatClampNeg = 0 := rfl
    have n1 : (1 : Int32).toNatClampNeg = 1 := rfl
    have n2 : (2 : Int32).toNatClampNeg = 2 := rfl
    have w0 : am_in (0 : Int32) 3 := by decide
    have w1 : am_in (1 : Int32) 3 := by decide
    have w2 : am_in (2 : Int32) 3 := by decide
    have hcn : sq_cn (sq_rm m f i) = sq_cn m := by unfold sq_cn; rw [a2 0 (by unfold sq_ch; omega)]
    obtain ⟨s1, e1⟩ : ∃ s1, s1 = am_sI s (66 + i) 0 (Int32.ofNat (f i)) := ⟨_, rfl⟩
    have q1 : ∀ z, z ≠ 66 + i → s1.1 z = s.1 z := fun z hz => by rw [e1]; exact ix_sIn hz
    obtain ⟨s2, c1, c2, c3⟩ := cz_goBy (s := s1) (a := f i) (sq_R_fr (fun z h1 h2 => q1 z (by omega)) R) a1 hlt (by rw [hcn]; exact hf i (by omega))
    obtain ⟨s3, e3⟩ : ∃ s3, s3 = am_sI s2 (66 + i) 1 (sq_go (sq_rm m f i) (f i)).2 := ⟨_, rfl⟩
    have q3 : ∀ z, z ≠ 66 + i → s3.1 z = s2.1 z := fun z hz => by rw [e3]; exact ix_sIn hz
    have R3 : sq_R s3.1 8 (sq_rm m f (i + 1)) := sq_R_fr (fun z h1 h2 => q3 z (by omega)) c2
    obtain ⟨s4, e4⟩ : ∃ s4, s4 = am_sI s3 (66 + i) 2 (s3.1 8 6) := ⟨_, rfl⟩
    have q4 : ∀ z, z ≠ 66 + i → s4.1 z = s3.1 z := fun z hz => by rw [e4]; exact ix_sIn hz
    have g4 : ∀ z, z ≠ 66 + i → z ≠ 8 → z ≠ 13 → z ≠ 23 → s4.1 z = s.1 z := fun z h1 h2 h3 h4 => by
      rw [q4 z h1, q3 z h1, c3.1 z (by simp; omega), q1 z h1]
    have f4 : ix_F2 sq_pR s s4 := by
      have p1 : ix_F2 sq_pR s s1 := by rw [e1]; exact ix_F2.I (by unfold sq_pR; simp; omega)
      have p2 : ix_F2 sq_pR s1 s2 := c3.F2 (fun k j hk => by unfold sq_pR at hk; simp at hk ⊢; omega)
      have p3 : ix_F2 sq_pR s2 s3 := by rw [e3]; exact ix_F2.I (by unfold sq_pR; simp; omega)
      have p4 : ix_F2 sq_pR s3 s4 := by rw [e4]; exact ix_F2.I (by unfold sq_pR; simp; omega)
      exact ((p1.tr p2).tr p3).tr p4
    obtain ⟨s', i1, i2, i3, i4, i5⟩ := ih (i + 1) g s4 (by omega) (by omega) (sq_R_fr (fun z h1 h2 => q4 z (by omega)) R3) (by rw [g4 51 (by omega) (by omega) (by omega) (by omega)]; exact mo) (by rw [g4 50 (by omega) (by omega) (by omega) (by omega)]; exact h5) (by rw [g4 63 (by omega) (by omega) (by omega) (by omega)]; exact h63) (fun k hk w hw => by
      by_cases hki : k = i
      · rw [hki, e4]
        have hw3 : w = 0 ∨ w = 1 ∨ w = 2 := by omega
        rcases hw3 with rfl | rfl | rfl
        · rw [ix_sIj (by omega), e3, ix_sIj (by omega), c3.1 (66 + i) (by simp; omega), e1, ix_sIs]; rfl
        · rw [ix_sIj (by omega), e3, ix_sIs]; rfl
        · rw [ix_sIs, R3.2.2.2.2.2.2.1]; rfl
      · rw [g4 _ (by omega) (by omega) (by omega) (by omega)]
        exact hrow k (by omega) w hw)
    refine ⟨s', ?_, i2, i3, i4, f4.tr i5⟩
    have h63i : s1.1 63 i = Int32.ofNat (f i) := by rw [q1 63 (by omega)]; exact h63 i (by omega)
    rw [F_X3_writeRows_50_b6, h5, if_neg (by rw [ix_le (by omega) (by omega)]; omega), if_pos hi4, if_pos hi4, if_pos w0]
    simp only [hn, n0, n1, n2]
    rw [h63 i (by omega), ix_b1, ← e1, if_pos hi4, if_pos hi4, h63i, c1, ix_b1, if_pos w1]
    dsimp only
    rw [ix_b1, ← e3, if_pos hi4, if_pos w2, ix_b1, ← e4, ix_addL, i1]
/-- the model -/
def sq_pQ (k j : Nat) : Bool := k == 83 || k == 86 || k == 91
theorem mz_wr {m : Nat → Int32} {f : Nat → Nat} {t0 e len : Nat} {x1 : Int32} (ok : sq_Ok m) (h3 : m 3 = Int32.ofNat t0) (h2 : m 2 = Int32.ofNat e) (he : e ≤ 16) (hle : t0 + len ≤ e) (hl4 : len ≤ 4) (hf : ∀ j, j < len → f j ≤ sq_cn m) : ∀ (l i g : Nat) (s : am_S), i + l = len → l < g → s.1 83 = sq_rm m f i → (∀ q, q < 296 → s.1 85 q = m q) → s.1 82 20 = Int32.ofNat len → (∀ j, j < len → s.1 90 j = Int32.ofNat (f j)) → (∀ k, k < i → ∀ w, w < 3 → s.1 91 (3 * k + w) = sq_rv m f k w) → ∃ s', F_X12_prove_82_b25 g x1 (Int32.ofNat i) s = some (Int32.ofNat len, s') ∧ s'.1 83 = m ∧ (∀ k, k < len → ∀ w, w < 3 → s'.1 91 (3 * k + w) = sq_rv m f k w) ∧ ix_F2 sq_pQ s s' := by
  intro l
  induction l with
  | zero =>
    intro i g s hl hg h83 h85 h20 h90 hrow
    obtain ⟨g, rfl⟩ : ∃ g', g = g' + 1 := ⟨g - 1, by omega⟩
    obtain ⟨a1, a2, a3⟩ := sq_rm_ok (f := f) ok h3 h2 he i (by omega)
    obtain ⟨s1, b1, b2, b3⟩ := mz_back (s := s) (m := m) h85 (fun q hq => by rw [h83]; exact a2 q (by unfold sq_ch; omega))
    refine ⟨s1, ?_, b2, fun k hk w hw => ?_, b3.F2 (fun k j hk => by unfold sq_pQ at hk; simp at hk ⊢; omega)⟩
    · rw [F_X12_prove_82_b25, h20, if_pos (by rw [ix_le (by omega) (by omega)]; omega), b1, ix_b1, b3.1 82 rfl, h20]
    · rw [b3.1 91 rfl]; exact hrow k (by omega) w hw
  | succ l ih =>
    intro i g s hl hg h83 h85 h20 h90 hrow
    obtain ⟨g, rfl⟩ : ∃ g', g = g' + 1 := ⟨g - 1, by omega⟩
    obtain ⟨a1, a2, a3⟩ := sq_rm_ok (f := f) ok h3 h2 he i (by omega)
    have hlt := sq_rm_lt (f := f) ok h3 h2 he (i := i) (by omega)
    have hi4 : am_in (Int32.ofNat i) 4 := (ix_in (by omega)).mpr (by omega)
    have hn : (Int32.ofNat i).toNatClampNeg = i := ix_nat (by omega)
    have g0 : (3 : Int32) * Int32.ofNat i = Int32.ofNat (3 * i) := ix_Lmul i 3
    have g1 : Int32.ofNat (3 * i) + 1 = Int32.ofNat (3 * i + 1) := ix_add _ 1
    have g2 : Int32.ofNat (3 * i) + 2 = Int32.ofNat (3 * i + 2) := ix_add _ 2
    have ii : ∀ w, w < 12 → am_in (Int32.ofNat w) 12 := fun w hw => (ix_in (by omega)).mpr hw
    have nn : ∀ w, w < 12 → (Int32.ofNat w).toNatClampNeg = w := fun w hw => ix_nat (by omega)
    have hcn : sq_cn (sq_rm m f i) = sq_cn m := by unfold sq_cn; rw [a2 0 (by unfold sq_ch; omega)]
    obtain ⟨s1, e1⟩ : ∃ s1, s1 = am_sI s 91 (3 * i) (Int32.ofNat (f i)) := ⟨_, rfl⟩
    have q1 : ∀ z, z ≠ 91 → s1.1 z = s.1 z := fun z hz => by rw [e1]; exact ix_sIn hz
    have h831 : s1.1 83 = sq_rm m f i := by rw [q1 83 (by omega)]; exact h83
    obtain ⟨s2, c1, c2, c3⟩ := mz_goes (s := s1) (a := f i) (by rw [h831]; exact a1) (by rw [h831]; exact sq_lt16 a1 hlt) (by rw [h831, hcn]; exact hf i (by omega))
    rw [h831] at c1 c2
    obtain ⟨s3, e3⟩ : ∃ s3, s3 = am_sI s2 91 (3 * i + 1) (sq_go (sq_rm m f i) (f i)).2 := ⟨_, rfl⟩
    have q3 : ∀ z, z ≠ 91 → s3.1 z = s2.1 z := fun z hz => by rw [e3]; exact ix_sIn hz
    have h833 : s3.1 83 = sq_rm m f (i + 1) := by rw [q3 83 (by omega)]; exact c2
    obtain ⟨k1, -, -⟩ := sq_rm_ok (f := f) ok h3 h2 he (i + 1) (by omega)
    have hcs := mz_caught (s := s3) (by rw [h833]; exact k1)
    rw [h833] at hcs
    obtain ⟨s4, e4⟩ : ∃ s4, s4 = am_sI s3 91 (3 * i + 2) (Int32.ofNat (sq_cs (sq_rm m f (i + 1)))) := ⟨_, rfl⟩
    have q4 : ∀ z, z ≠ 91 → s4.1 z = s3.1 z := fun z hz => by rw [e4]; exact ix_sIn hz
    have g4 : ∀ z, z ≠ 91 → z ≠ 83 → z ≠ 86 → s4.1 z = s.1 z := fun z h1 h2 h3 => by
      rw [q4 z h1, q3 z h1, c3.1 z (by simp; omega), q1 z h1]
    have f4 : ix_F2 sq_pQ s s4 := by
      have p1 : ix_F2 sq_pQ s s1 := by rw [e1]; exact ix_F2.I (by rfl)
      have p2 : ix_F2 sq_pQ s1 s2 := c3.F2 (fun k j hk => by unfold sq_pQ at hk; simp at hk ⊢; omega)
      have p3 : ix_F2 sq_pQ s2 s3 := by rw [e3]; exact ix_F2.I (by rfl)
      have p4 : ix_F2 sq_pQ s3 s4 := by rw [e4]; exact ix_F2.I (by rfl)
      exact ((p1.tr p2).tr p3).tr p4
    obtain ⟨s', i1, i2, i3, i4⟩ := ih (i + 1) g s4 (by omega) (by omega) (by rw [q4 83 (by omega)]; exact h833) (by rw [g4 85 (by omega) (by omega) (by omega)]; exact h85) (by rw [g4 82 (by omega) (by omega) (by omega)]; exact h20) (by rw [g4 90 (by omega) (by omega) (by omega)]; exact h90) (fun k hk w hw => by
      by_cases hki : k = i
      · rw [hki, e4]
        have hw3 : w = 0 ∨ w = 1 ∨ w = 2 := by omega
        rcases hw3 with rfl | rfl | rfl
        · rw [ix_sIj (by omega), e3, ix_sIj (by omega), c3.1 91 rfl, e1, show 3 * i + 0 = 3 * i from rfl, ix_sIs]; rfl
        · rw [ix_sIj (by omega), e3, ix_sIs]; rfl
        · rw [ix_sIs]; rfl
      · rw [e4, ix_sIj (by omega), e3, ix_sIj (by omega), c3.1 91 rfl, e1, ix_sIj (by omega)]
        exact hrow k (by omega) w hw)
    refine ⟨s', ?_, i2, i3, f4.tr i4⟩
    have h90i : s1.1 90 i = Int32.ofNat (f i) := by rw [q1 90 (by omega)]; exact h90 i (by omega)
    rw [F_X12_prove_82_b25, h20, if_neg (by rw [ix_le (by omega) (by omega)]; omega), if_pos hi4]
    simp only [hn, g0, g1, g2, nn (3 * i) (by omega), nn (3 * i + 1) (by omega), nn (3 * i + 2) (by omega)]
    rw [if_pos (ii _ (by omega)), h90 i (by omega), ix_b1, ← e1, if_pos hi4, h90i, c1, ix_b1, if_pos (ii _ (by omega))]
    dsimp only
    rw [ix_b1, ← e3, hcs, ix_b1, if_pos (ii _ (by omega))]
    dsimp only
    rw [ix_b1, ← e4, ix_addL, i1]
/-- rows may change -/
def sq_pSR (k j : Nat) : Bool := sq_pS k j || (66 ≤ k && k < 70) || k == 91 || (k == 50 && j == 14) || (k == 82 && j == 20)
theorem jz_keepR {s t : am_S} (j : jz_J s) (f : ix_F2 sq_pSR s t) (js : jz_S t) (jR : jz_R t) : jz_J t := by
  obtain ⟨-, jK, jT, -, jH, jL, jG, jN⟩ := j
  refine ⟨js, jz_K_fr (fun k q h => f.1 k q ?_) jK, jz_T_fr (fun k q h => f.1 k q ?_) jT, jR, jz_H_fr (fun k q h => f.1 k q ?_) f.2 jH, jz_L_fr (fun k q h => f.1 k q ?_) jL, jz_G_fr (fun k q h => f.1 k q ?_) jG, jz_N_fr (fun k q h => f.1 k q ?_) jN⟩
  · rcases h with h | rfl | ⟨rfl, rfl⟩ | ⟨rfl, rfl⟩
    · unfold sq_pSR; rw [sq_pS_a h.1 h.2]; simp; omega
    all_goals rfl
  · rcases h with rfl | rfl | ⟨rfl, rfl⟩ | ⟨rfl, rfl⟩
    all_goals rfl
  · rcases h with rfl | rfl | rfl | rfl | rfl
    all_goals rfl
  · rcases h with rfl | rfl | rfl | rfl | rfl | rfl
    all_goals rfl
  · rcases h with rfl | rfl | ⟨rfl, rfl⟩ | ⟨rfl, rfl⟩
    all_goals rfl
  · rcases h with rfl | rfl
    all_goals rfl
theorem jz_S_c {s t : am_S} {p : Nat → Nat → Bool} (js : jz_S s) (f : ix_F2 p s t) (hp : ∀ k j, (8 ≤ k ∧ k < 23) ∨ k = 83 → p k j = false) : jz_S t := by
  have h83 : t.1 83 = s.1 83 := funext fun q => f.1 83 q (hp 83 q (Or.inr rfl))
  exact ⟨by rw [h83]; exact js.1, by rw [h83]; exact sq_R_fr (fun k h1 h2 => funext fun q => f.1 k q (hp k q (Or.inl ⟨h1, h2⟩))) js.2⟩
theorem ag_prove {a : Int32} : jz_A (F_X11_prove_0 a) (F_X12_prove_82 a) := by
  intro s j
  obtain ⟨ok, R⟩ := j.1
  by_cases h1 : (0 : Int32) ≤ a ∧ a ≤ 4
  rotate_left
  · exact jz_A0 (v := -1) j (by simp only [F_X11_prove_0, cz_isPlan, ix_wi_n h1, ix_b1, ix_10, ix_00, if_true, if_false]) (by simp only [F_X12_prove_82, mz_isLong, ix_wi_n h1, ix_b1, ix_10, ix_00, if_true, if_false])
  obtain ⟨n, -, hn, rfl⟩ := ix_rng (a := 0) (b := 4) (by omega) (by omega) h1
  obtain ⟨s1, sx, c1, -, h83, cA, c5, -, -, -, c2, f1, -⟩ := jz_both (t := 0) j hn
  obtain ⟨-, ⟨t0, e, t1, t2, t3, t4, t5⟩, -⟩ := id ok
  have ht0 : sq_tn (s.1 83) = t0 := by unfold sq_tn; rw [t4, ix_nat (by omega)]
  have he2 : (s.1 83 2).toNatClampNeg = e := by rw [t5, ix_nat (by omega)]
  have hle : t0 + sq_pl (s.1 83) n ≤ e := by unfold sq_pl; rw [ht0, he2]; omega
  have hl4 : sq_pl (s.1 83) n ≤ 4 := by unfold sq_pl; omega
  obtain ⟨f, hf⟩ := sq_A_go (t := 0) ok hn
  have hfi := sq_A_fi ok hn hf
  have hfk : ∀ q, q < sq_pl (s.1 83) n → (f q).toNatClampNeg ≤ sq_cn (s.1 83) ∧ f q = Int32.ofNat (f q).toNatClampNeg := by
    intro q hq
    obtain ⟨k, hk, ek⟩ := hfi q hq
    have hc := (sq_cn_ok ok).1
    rw [ek, ix_nat (by omega)]; exact ⟨hk, rfl⟩
  -- the class
  obtain ⟨s2, r1, r2, r3⟩ := cz_rem c2
  have R2 : sq_R s2.1 8 (s.1 83) := sq_R_fr (fun k h1 h2 => r3.1 k (by simp; omega)) c2
  obtain ⟨s3, w1, w2, w3, w4, w5⟩ := cz_wr (f := fun q => (f q).toNatClampNeg) ok t4 t5 t3 hle hl4 (fun q hq => (hfk q hq).1) (sq_pl (s.1 83) n) 0 1000 s2 (by omega) (by omega) R2 r2 (by rw [r3.1 50 rfl]; exact c5) (fun q hq => by rw [r3.1 63 rfl, cA.2.2.2.2.2.2 f hf q hq]; exact (hfk q hq).2) (fun k hk => by omega)
  have fc : ix_F2 sq_pSR s s3 := by
    refine ((f1.wd (fun k j hk => ?_)).tr (r3.F2 (fun k j hk => ?_))).tr (w5.wd (fun k j hk => ?_))
    · unfold sq_pSR sq_pS at hk; unfold sq_pW; simp at hk ⊢; omega
    · unfold sq_pSR sq_pS at hk; simp at hk ⊢; omega
    · unfold sq_pSR sq_pS at hk; unfold sq_pR; simp at hk ⊢; omega
  have h833 : s3.1 83 = s.1 83 := by
    have e1 : s2.1 83 = s1.1 83 := r3.1 83 rfl
    have e2 : s3.1 83 = s2.1 83 := funext fun q => w5.1 83 q (by unfold sq_pR; rfl)
    rw [e2, e1, h83]
  -- the model
  obtain ⟨s4, d1, d2, d3, d4⟩ := mz_plans (s := s3) (t := 0) (n := n) (by rw [h833]; exact ok) hn
  rw [h833] at d1 d2 d3
  obtain ⟨s5, e5⟩ : ∃ s5, s5 = am_sI s4 82 20 (Int32.ofNat (sq_pl (s.1 83) n)) := ⟨_, rfl⟩
  have q5 : ∀ z, z ≠ 82 → s5.1 z = s4.1 z := fun z hz => by rw [e5]; exact ix_sIn hz
  obtain ⟨s6, p1, p2, p3⟩ := mz_puts s5
  have h836 : s6.1 83 = s.1 83 := by rw [p3.1 83 rfl, q5 83 (by omega)]; exact d2
  obtain ⟨s7, v1, v2, v3, v4⟩ := mz_wr (f := fun q => (f q).toNatClampNeg) (x1 := Int32.ofNat n) ok t4 t5 t3 hle hl4 (fun q hq => (hfk q hq).1) (sq_pl (s.1 83) n) 0 1000 s6 (by omega) (by omega) h836 (fun q hq => by rw [p2 q hq, q5 83 (by omega), d2]) (by rw [p3.1 82 rfl, e5, ix_sIs]) (fun q hq => by rw [p3.1 90 rfl, q5 90 (by omega), (d3.2.2.2.2.2.2 f hf).2 q hq]; exact (hfk q hq).2) (fun k hk => by omega)
  have fm : ix_F2 sq_pSR s3 s7 := by
    have a1 : ix_F2 sq_pSR s3 s4 := d4.wd (fun k j hk => by unfold sq_pSR sq_pS at hk; unfold sq_pV; simp at hk ⊢; omega)
    have a2 : ix_F2 sq_pSR s4 s5 := by rw [e5]; exact ix_F2.I (by rfl)
    have a3 : ix_F2 sq_pSR s5 s6 := p3.F2 (fun k j hk => by unfold sq_pSR sq_pS at hk; simp at hk ⊢; omega)
    have a4 : ix_F2 sq_pSR s6 s7 := v4.wd (fun k j hk => by unfold sq_pSR sq_pS at hk; unfold sq_pQ; simp at hk ⊢; omega)
    exact ((a1.tr a2).tr a3).tr a4
  have gm : ∀ z, z < 82 → s7.1 z = s3.1 z := by
    intro z hz
    have a1 : s4.1 z = s3.1 z := funext fun q => d4.1 z q (by unfold sq_pV; simp; omega)
    have a4 : s7.1 z = s6.1 z := funext fun q => v4.1 z q (by unfold sq_pQ; simp; omega)
    rw [a4, p3.1 z (by simp; omega), q5 z (by omega), a1]
  refine ⟨Int32.ofNat (sq_pl (s.1 83) n), s3, s7, ?_, ?_, jz_keepR j (fc.tr fm) ⟨by rw [v2]; exact ok, by rw [v2]; exact sq_R_fr (fun k _ h => gm k (by omega)) w2⟩ ⟨sq_pl (s.1 83) n, hl4, by rw [gm 50 (by omega)]; exact w3, ?_, fun k hk w hw => by rw [gm _ (by omega), v3 k hk w hw]; exact w4 k hk w hw⟩⟩
  · have w1' : F_X3_writeRows_50_b6 1000 0 s2 = _ := w1
    simp only [F_X11_prove_0, cz_isPlan, ix_wi_p h1, ix_b1, ix_10, ix_00, if_true, if_false]
    rw [c1, ix_b1, F_X3_writeRows_50, r1, ix_b1, w1', ix_b1]
  · have v1' : F_X12_prove_82_b25 1000 (Int32.ofNat n) 0 s6 = _ := v1
    simp only [F_X12_prove_82, mz_isLong, ix_wi_p h1, ix_b1, ix_10, ix_00, if_true, if_false]
    rw [d1, ix_b1]
    dsimp only
    rw [← e5, p1, ix_b1, v1']
  · rw [v4.1 82 20 rfl, p3.1 82 rfl, e5, ix_sIs]
theorem ix_le1 {a : Int32} {n : Nat} (hn : n < 2147483648) : a ≤ Int32.ofNat n - 1 ↔ ¬ Int32.ofNat n ≤ a := by
  rw [ix_le', ix_le', Int32.toInt_sub, ix_int hn]
  have h1 : (1 : Int32).toInt = 1 := rfl
  rw [h1, Int.bmod_eq_of_le (by omega) (by omega)]
  omega
theorem cz_hasRow {a : Int32} {s : am_S} {n : Nat} (hn : n ≤ 4) (h : s.1 50 14 = Int32.ofNat n) : F_X3_hasRow_50 a s = some (ix_wi a 0 (Int32.ofNat n - 1), s) := by
  unfold F_X3_hasRow_50 ix_wi
  rw [h]
  by_cases h1 : a < 0
  · rw [if_pos h1, if_neg (fun z => absurd h1 (Int32.not_lt.mpr z.1))]
  · have h1' := Int32.not_lt.mp h1
    rw [if_neg h1]
    by_cases h2 : Int32.ofNat n ≤ a
    · rw [if_pos h2, if_neg (fun z => (ix_le1 (by omega)).mp z.2 h2)]
    · rw [if_neg h2, if_pos ⟨h1', (ix_le1 (by omega)).mpr h2⟩]
theorem mz_isRow {a w : Int32} {s : am_S} {n : Nat} (h : s.1 82 20 = Int32.ofNat n) : F_X12_isRow_82 a w s = some (if (0 ≤ a ∧ a ≤ Int32.ofNat n - 1) ∧ (0 ≤ w ∧ w ≤ 2) then 1 else 0, s) := by
  unfold F_X12_isRow_82
  rw [h, ix_mw0, ix_b1]
  dsimp only
  by_cases h1 : 0 ≤ a ∧ a ≤ Int32.ofNat n - 1
  · rw [ix_wi_p h1, if_neg (show ¬ (1 : Int32) = 0 by decide), mz_in0x2, ix_b1]
    dsimp only
    by_cases h2 : 0 ≤ w ∧ w ≤ 2
    · rw [ix_wi_p h2, if_neg (show ¬ (1 : Int32) = 0 by decide), if_pos ⟨h1, h2⟩]
    · rw [ix_wi_n h2, if_pos rfl, if_neg (fun z => h2 z.2)]
  · rw [ix_wi_n h1, if_pos rfl, if_neg (fun z => h1 z.1)]
theorem mz_isRow1 {a w : Int32} {s : am_S} {n : Nat} (h : s.1 82 20 = Int32.ofNat n) (h1 : 0 ≤ a ∧ a ≤ Int32.ofNat n - 1) (h2 : 0 ≤ w ∧ w ≤ 2) : F_X12_isRow_82 a w s = some (1, s) := by rw [mz_isRow h, if_pos ⟨h1, h2⟩]
theorem mz_isRow0 {a w : Int32} {s : am_S} {n : Nat} (h : s.1 82 20 = Int32.ofNat n) (h1 : ¬ ((0 ≤ a ∧ a ≤ Int32.ofNat n - 1) ∧ (0 ≤ w ∧ w ≤ 2))) : F_X12_isRow_82 a w s = some (0, s) := by rw [mz_isRow h, if_neg h1]
theorem sq_rowN {a : Int32} {n : Nat} (hn : n ≤ 4) (h : 0 ≤ a ∧ a ≤ Int32.ofNat n - 1) : ∃ k, k < n ∧ a = Int32.ofNat k := by
  have h1 := (ix_le1 (by omega)).mp h.2
  have h2 := ix_of h.1
  have h3 : a ≤ Int32.ofNat n := by rw [ix_le'] at h1 ⊢; omega
  obtain ⟨k, hk, ek⟩ := ix_of2 (by omega) h.1 h3
  refine ⟨k, ?_, ek⟩
  rw [ek, ix_le (by omega) (by omega)] at h1
  omega
theorem ag_row {a w : Int32} : jz_A (F_X11_row_0 a w) (F_X12_row_82 a w) := by
  intro s j
  obtain ⟨n, n1, n2, n3, n4⟩ := j.2.2.2.1
  by_cases h1 : 0 ≤ a ∧ a ≤ Int32.ofNat n - 1
  rotate_left
  · refine jz_A0 (v := -9) j ?_ ?_
    · rw [F_X11_row_0, cz_hasRow n1 n2, ix_b1, ix_wi_n h1]; rfl
    · rw [F_X12_row_82, mz_isRow0 n3 (fun z => h1 z.1), ix_b1]; rfl
  by_cases h2 : 0 ≤ w ∧ w ≤ 2
  rotate_left
  · refine jz_A0 (v := -9) j ?_ ?_
    · rw [F_X11_row_0, cz_hasRow n1 n2, ix_b1, ix_wi_p h1]
      dsimp only
      rw [if_neg (show ¬ (1 : Int32) = 0 by decide), ix_cw, ix_b1, ix_wi_n h2]; rfl
    · rw [F_X12_row_82, mz_isRow0 n3 (fun z => h2 z.2), ix_b1]; rfl
  obtain ⟨k, hk, rfl⟩ := sq_rowN n1 h1
  obtain ⟨x, -, hx, rfl⟩ := ix_rng (a := 0) (b := 2) (by omega) (by omega) h2
  have g0 : (3 : Int32) * Int32.ofNat k = Int32.ofNat (3 * k) := ix_Lmul k 3
  have e1 : (Int32.ofNat k).toNatClampNeg = k := ix_nat (by omega)
  have e2 : (Int32.ofNat x).toNatClampNeg = x := ix_nat (by omega)
  have e3 : (Int32.ofNat (3 * k + x)).toNatClampNeg = 3 * k + x := ix_nat (by omega)
  refine jz_A0 (v := s.1 (66 + k) x) j ?_ ?_
  · rw [F_X11_row_0, cz_hasRow n1 n2, ix_b1, ix_wi_p h1]
    dsimp only
    rw [if_neg (show ¬ (1 : Int32) = 0 by decide), ix_cw, ix_b1, ix_wi_p h2]
    dsimp only
    rw [if_neg (show ¬ (1 : Int32) = 0 by decide), if_pos ((ix_in (by omega)).mpr (by omega)), if_pos ((ix_in (by omega)).mpr (by omega)), e1, e2]
  · rw [F_X12_row_82, mz_isRow1 n3 h1 h2, ix_b1]
    dsimp only
    rw [if_neg (show ¬ (1 : Int32) = 0 by decide), g0, ix_add, if_pos ((ix_in (by omega)).mpr (by omega)), e3, n4 k hk x (by omega)]
theorem ag_alterRow {a w y : Int32} : jz_A (F_X11_alterRow_0 a w y) (F_X12_alterRow_82 a w y) := by
  intro s j
  obtain ⟨n, n1, n2, n3, n4⟩ := j.2.2.2.1
  by_cases h1 : 0 ≤ a ∧ a ≤ Int32.ofNat n - 1
  rotate_left
  · refine jz_A0 (v := -9) j ?_ ?_
    · rw [F_X11_alterRow_0, cz_hasRow n1 n2, ix_b1, ix_wi_n h1]; rfl
    · rw [F_X12_alterRow_82, mz_isRow0 n3 (fun z => h1 z.1), ix_b1]; rfl
  by_cases h2 : 0 ≤ w ∧ w ≤ 2
  rotate_left
  · refine jz_A0 (v := -9) j ?_ ?_
    · rw [F_X11_alterRow_0, cz_hasRow n1 n2, ix_b1, ix_wi_p h1]
      dsimp only
      rw [if_neg (show ¬ (1 : Int32) = 0 by decide), ix_cw, ix_b1, ix_wi_n h2]; rfl
    · rw [F_X12_alterRow_82, mz_isRow0 n3 (fun z => h2 z.2), ix_b1]; rfl
  obtain ⟨k, hk, rfl⟩ := sq_rowN n1 h1
  obtain ⟨x, -, hx, rfl⟩ := ix_rng (a := 0) (b := 2) (by omega) (by omega) h2
  have g0 : (3 : Int32) * Int32.ofNat k = Int32.ofNat (3 * k) := ix_Lmul k 3
  have e1 : (Int32.ofNat k).toNatClampNeg = k := ix_nat (by omega)
  have e2 : (Int32.ofNat x).toNatClampNeg = x := ix_nat (by omega)
  have e3 : (Int32.ofNat (3 * k + x)).toNatClampNeg = 3 * k + x := ix_nat (by omega)
  have i3 : am_in (Int32.ofNat x) 3 := (ix_in (by omega)).mpr (by omega)
  obtain ⟨s1, es1⟩ : ∃ s1, s1 = am_sI s (66 + k) x y := ⟨_, rfl⟩
  obtain ⟨s2, es2⟩ : ∃ s2, s2 = am_sI s1 91 (3 * k + x) y := ⟨_, rfl⟩
  have q1 : ∀ z, z ≠ 66 + k → s1.1 z = s.1 z := fun z hz => by rw [es1]; exact ix_sIn hz
  have q2 : ∀ z, z ≠ 91 → s2.1 z = s1.1 z := fun z hz => by rw [es2]; exact ix_sIn hz
  have f : ix_F2 (fun a _ => a == 66 + k || a == 91) s s2 := by
    have f1 : ix_F2 (fun a _ => a == 66 + k || a == 91) s s1 := by rw [es1]; exact ix_F2.I (by simp)
    have f2 : ix_F2 (fun a _ => a == 66 + k || a == 91) s1 s2 := by rw [es2]; exact ix_F2.I (by simp)
    exact f1.tr f2
  refine ⟨s.1 (66 + k) x, s1, s2, ?_, ?_, jz_keepR j (f.wd (fun a b hk => ?_)) (jz_S_c j.1 f (fun a b h => by simp; omega)) ⟨n, n1, by rw [q2 50 (by omega), q1 50 (by omega)]; exact n2, by rw [q2 82 (by omega), q1 82 (by omega)]; exact n3, fun k' hk' w' hw' => ?_⟩⟩
  · rw [F_X11_alterRow_0, cz_hasRow n1 n2, ix_b1, ix_wi_p h1]
    dsimp only
    rw [if_neg (show ¬ (1 : Int32) = 0 by decide), ix_cw, ix_b1, ix_wi_p h2]
    dsimp only
    rw [if_neg (show ¬ (1 : Int32) = 0 by decide), if_pos ((ix_in (by omega)).mpr (by omega)), e1, F_X11_exchange_f65, if_neg (ix_nn (by omega)), if_pos (show Int32.ofNat x < (3 : Int32) by rw [ix_ltL (by omega) (by omega)]; omega), if_pos i3, if_pos i3, e2, ix_b1, ix_b1, es1]
  · have h20 : s1.1 82 20 = Int32.ofNat n := by rw [q1 82 (by omega)]; exact n3
    rw [F_X12_alterRow_82, mz_isRow1 h20 h1 h2, ix_b1]
    dsimp only
    rw [if_neg (show ¬ (1 : Int32) = 0 by decide), g0, ix_add, if_pos ((ix_in (by omega)).mpr (by omega))]
    rw [ix_b1, if_pos ((ix_in (by omega)).mpr (by omega)), ix_b1, e3, ← es2, q1 91 (by omega), n4 k hk x (by omega)]
  · unfold sq_pSR at hk; simp at hk ⊢; omega
  · by_cases hkk : k' = k ∧ w' = x
    · obtain ⟨rfl, rfl⟩ := hkk
      rw [q2 _ (by omega), es1, ix_sIs, es2, ix_sIs]
    · rw [q2 _ (by omega), es2, ix_sIj (by omega), q1 91 (by omega), ← n4 k' hk' w' hw', es1]
      by_cases hk2 : k' = k
      · rw [hk2, ix_sIj (by omega)]
      · rw [ix_sIn (by omega)]
