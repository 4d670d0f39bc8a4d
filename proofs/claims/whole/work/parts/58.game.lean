/-! LAYER 2: game, play agree (written by wip/whole/l2/gen58.py) -/
def sq_gl (rec : (Nat → Int32) → Int32) (md : Nat → Int32) (much : Bool) : Nat → Nat → Int32 → Int32 → Int32 × Int32
  | 0, _, b, y => (b, y)
  | j + 1, k, b, y => if k = 0 ∨ (if much = true then ¬ (sq_ca md k).2 + rec (sq_ca md k).1 ≤ b else ¬ b ≤ (sq_ca md k).2 + rec (sq_ca md k).1) then sq_gl rec md much j (k + 1) ((sq_ca md k).2 + rec (sq_ca md k).1) (Int32.ofNat k) else sq_gl rec md much j (k + 1) b y
def sq_gv : Nat → (Nat → Int32) → Bool → Int32 × Int32
  | 0, _, _ => (0, -1)
  | l + 1, m, much => sq_gl (fun m1 => (sq_gv l m1 (!much)).1) (sq_d m) much (sq_cn m + 1) 0 0 (-1)
def sq_pG (d k j : Nat) : Bool := k == 8 || k == 13 || k == 23 || (53 + d ≤ k && k < 57) || (58 + d ≤ k && k < 62) || (k == 50 && j == 12 && d == 0)
theorem sq_pG_le {d e k j : Nat} (h : d ≤ e) (hk : sq_pG d k j = false) : sq_pG e k j = false := by
  unfold sq_pG at hk ⊢; simp at hk ⊢; omega
theorem cz_gl {m md : Nat → Int32} {len d : Nat} {much : Bool} {rc : Int32 → am_S → Option (Int32 × am_S)} {rec : (Nat → Int32) → Int32} (okd : sq_Ok md) (h32 : md 3 < md 2) (hmd : ∀ j, ¬ sq_ch j → md j = m j) (hd : d < 4)
    (hrc : ∀ (k : Nat) (s : am_S), k ≤ sq_cn md → sq_R s.1 8 (sq_ca md k).1 → s.1 50 5 = Int32.ofNat len → ∃ s', rc (Int32.ofNat (d + 1)) s = some (rec (sq_ca md k).1, s') ∧ sq_R s'.1 8 (sq_ca md k).1 ∧ ix_F2 (sq_pG (d + 1)) s s') :
    ∀ (j k f : Nat) (s : am_S) (b y : Int32), sq_R s.1 8 md → s.1 50 5 = Int32.ofNat len → (d = 0 → k ≠ 0 → s.1 50 12 = y) → (1 ≤ j ∨ k ≠ 0) → sq_mo (s.1 (58 + d)) md → sq_mo (s.1 (53 + d)) m → k + j = sq_cn md + 1 → j < f → ∃ s', F_X3_valueFrom_50_b60 rc f (Int32.ofNat d) (if much = true then 1 else 0) b (Int32.ofNat k) s = some ((sq_gl rec md much j k b y).1, s') ∧ sq_R s'.1 8 m ∧ (d = 0 → s'.1 50 12 = (sq_gl rec md much j k b y).2) ∧ ix_F2 (sq_pG d) s s' := by
  obtain ⟨hc, h0⟩ := sq_cn_ok okd
  have hi4 : am_in (Int32.ofNat d) 4 := (ix_in (by omega)).mpr hd
  have hnd : (Int32.ofNat d).toNatClampNeg = d := ix_nat (by omega)
  intro j
  induction j with
  | zero =>
    intro k f s b y R h5 h12 hjk hm1 hm2 hk hf
    obtain ⟨f, rfl⟩ : ∃ g, f = g + 1 := ⟨f - 1, by omega⟩
    obtain ⟨s', b1, b2, b3⟩ := cz_come_f52 hd R hmd hm2
    refine ⟨s', ?_, b2, fun h => by rw [b3.1 50 rfl]; exact h12 h (by omega), b3.F2 (fun k j hk => by unfold sq_pG at hk; simp at hk ⊢; omega)⟩
    rw [F_X3_valueFrom_50_b60, R.2.2.2.2.2.1, h0, if_pos (by rw [ix_lt (by omega) (by omega)]; omega), if_pos hi4, hnd, b1]
    rfl
  | succ j ih =>
    intro k f s b y R h5 h12 hjk hm1 hm2 hk hf
    obtain ⟨f, rfl⟩ : ∃ g, f = g + 1 := ⟨f - 1, by omega⟩
    have hkc : k ≤ sq_cn md := by omega
    obtain ⟨s7, c1, c2, c3⟩ := cz_cast R okd hkc
    have g7 : ∀ q, q ≠ 8 → q ≠ 23 → s7.1 q = s.1 q := fun q h1 h2 => c3.1 q (by simp; omega)
    obtain ⟨s8, r1, r2, r4⟩ := hrc k s7 hkc c2 (by rw [g7 50 (by omega) (by omega)]; exact h5)
    obtain ⟨k1, k2, -⟩ := sq_ca_ok (a := k) okd h32
    have m58 : sq_mo (s8.1 (58 + d)) md := sq_mo_c (fun j => by
      rw [r4.1 (58 + d) j (by unfold sq_pG; simp; omega), g7 _ (by omega) (by omega)]) hm1
    have m53 : sq_mo (s8.1 (53 + d)) m := sq_mo_c (fun j => by
      rw [r4.1 (53 + d) j (by unfold sq_pG; simp; omega), g7 _ (by omega) (by omega)]) hm2
    obtain ⟨s9, b1, b2, b3⟩ := cz_come_f57 hd r2 k2 m58
    have g9 : ∀ q, q ≠ 8 → q ≠ 13 → s9.1 q = s8.1 q := fun q h1 h2 => b3.1 q (by simp; omega)
    have f9 : ix_F2 (sq_pG d) s s9 := ((c3.F2 (fun k j hk => by unfold sq_pG at hk; simp at hk ⊢; omega)).tr (r4.wd (fun k j hk => sq_pG_le (by omega) hk))).tr (b3.F2 (fun k j hk => by unfold sq_pG at hk; simp at hk ⊢; omega))
    have h12' : s9.1 50 12 = s.1 50 12 := by rw [g9 50 (by omega) (by omega), r4.1 50 12 (by unfold sq_pG; simp; omega), g7 50 (by omega) (by omega)]
    have p58 : sq_mo (s9.1 (58 + d)) md := by rw [g9 (58 + d) (by omega) (by omega)]; exact m58
    have p53 : sq_mo (s9.1 (53 + d)) m := by rw [g9 (53 + d) (by omega) (by omega)]; exact m53
    have p5 : s9.1 50 5 = Int32.ofNat len := by rw [f9.1 50 5 (by unfold sq_pG; simp; omega)]; exact h5
    -- taken, or not
    have hyes : ∃ s', F_X3_valueFrom_50_b128 rc (F_X3_valueFrom_50_b60 rc f) (Int32.ofNat d) (if much = true then 1 else 0) (Int32.ofNat k) ((sq_ca md k).2 + rec (sq_ca md k).1) s9 = some ((sq_gl rec md much j (k + 1) ((sq_ca md k).2 + rec (sq_ca md k).1) (Int32.ofNat k)).1, s') ∧ sq_R s'.1 8 m ∧ (d = 0 → s'.1 50 12 = (sq_gl rec md much j (k + 1) ((sq_ca md k).2 + rec (sq_ca md k).1) (Int32.ofNat k)).2) ∧ ix_F2 (sq_pG d) s s' := by
      by_cases hd0 : d = 0
      · subst hd0
        have q : ∀ z, z ≠ 50 → (am_sI s9 50 12 (Int32.ofNat k)).1 z = s9.1 z := fun z hz => ix_sIn hz
        obtain ⟨s', i1, i2, i3, i4⟩ := ih (k + 1) f (am_sI s9 50 12 (Int32.ofNat k)) ((sq_ca md k).2 + rec (sq_ca md k).1) (Int32.ofNat k) (sq_R_fr (fun z h1 h2 => q z (by omega)) b2) (by rw [ix_sIj (by omega)]; exact p5) (fun _ _ => ix_sIs) (Or.inr (by omega)) (by rw [q _ (by omega)]; exact p58) (by rw [q _ (by omega)]; exact p53) (by omega) (by omega)
        refine ⟨s', ?_, i2, i3, (f9.tr (ix_F2.I (by rfl))).tr i4⟩
        rw [F_X3_valueFrom_50_b128, if_pos (show Int32.ofNat 0 = (0 : Int32) from rfl), ix_b1, F_X3_valueFrom_50_b141, ix_addL]
        exact i1
      · obtain ⟨s', i1, i2, i3, i4⟩ := ih (k + 1) f s9 ((sq_ca md k).2 + rec (sq_ca md k).1) (Int32.ofNat k) b2 p5 (fun h => absurd h hd0) (Or.inr (by omega)) p58 p53 (by omega) (by omega)
        refine ⟨s', ?_, i2, i3, f9.tr i4⟩
        rw [F_X3_valueFrom_50_b128, if_neg (by rw [ix_eqL (by omega) (by omega)]; exact hd0), F_X3_valueFrom_50_b141, ix_addL]
        exact i1
    have hno : k ≠ 0 → ∃ s', F_X3_valueFrom_50_b141 rc (F_X3_valueFrom_50_b60 rc f) (Int32.ofNat d) (if much = true then 1 else 0) b (Int32.ofNat k) s9 = some ((sq_gl rec md much j (k + 1) b y).1, s') ∧ sq_R s'.1 8 m ∧ (d = 0 → s'.1 50 12 = (sq_gl rec md much j (k + 1) b y).2) ∧ ix_F2 (sq_pG d) s s' := by
      intro hk0
      obtain ⟨s', i1, i2, i3, i4⟩ := ih (k + 1) f s9 b y b2 p5 (fun h _ => by rw [h12']; exact h12 h hk0) (Or.inr (by omega)) p58 p53 (by omega) (by omega)
      refine ⟨s', ?_, i2, i3, f9.tr i4⟩
      rw [F_X3_valueFrom_50_b141, ix_addL]
      exact i1
    rw [F_X3_valueFrom_50_b60, R.2.2.2.2.2.1, h0, if_neg (by rw [ix_lt (by omega) (by omega)]; omega), c1, ix_b1, ix_addL]
    dsimp only
    rw [r1, ix_b1, if_pos hi4, hnd]
    dsimp only
    rw [b1, ix_b1, sq_gl]
    by_cases hk0 : k = 0
    · subst hk0
      rw [if_pos (show Int32.ofNat 0 = (0 : Int32) from rfl), if_pos (Or.inl rfl)]
      exact hyes
    · rw [if_neg (by rw [ix_eqL (by omega) (by omega)]; exact hk0)]
      cases much with
      | true =>
        simp only [if_true] at hyes hno ⊢
        rw [if_neg (show ¬ (1 : Int32) = 0 by decide)]
        by_cases hv : (sq_ca md k).2 + rec (sq_ca md k).1 ≤ b
        · have hn : ¬ (k = 0 ∨ ¬ (sq_ca md k).2 + rec (sq_ca md k).1 ≤ b) := by rintro (z | z); exact hk0 z; exact z hv
          rw [if_pos hv, if_neg hn]
          exact hno hk0
        · rw [if_neg hv, if_pos (Or.inr hv)]
          exact hyes
      | false =>
        simp only [Bool.false_eq_true, if_false] at hyes hno ⊢
        rw [if_pos trivial]
        by_cases hv : b ≤ (sq_ca md k).2 + rec (sq_ca md k).1
        · have hn : ¬ (k = 0 ∨ ¬ b ≤ (sq_ca md k).2 + rec (sq_ca md k).1) := by rintro (z | z); exact hk0 z; exact z hv
          rw [if_pos hv, if_neg hn]
          exact hno hk0
        · rw [if_neg hv, if_pos (Or.inr hv)]
          exact hyes
theorem sq_par : ∀ d, d < 4 → ((Int32.ofNat d &&& (1 : Int32)) = 0 ↔ d % 2 = 0) := by decide
theorem cz_gv {len : Nat} (hlen : len ≤ 4) : ∀ (l d g : Nat) (s : am_S) (m : Nat → Int32) (much : Bool), sq_R s.1 8 m → sq_Ok m → d + l = len → sq_tn m + l ≤ (m 2).toNatClampNeg → s.1 50 5 = Int32.ofNat len → much = decide (d % 2 = 0) → l < g → ∃ s', F_X3_valueFrom_50 g (Int32.ofNat d) s = some ((sq_gv l m much).1, s') ∧ sq_R s'.1 8 m ∧ (d = 0 → 1 ≤ l → s'.1 50 12 = (sq_gv l m much).2) ∧ ix_F2 (sq_pG d) s s' := by
  intro l
  induction l with
  | zero =>
    intro d g s m much R ok hd ht h5 hmu hg
    obtain ⟨g, rfl⟩ : ∃ g', g = g' + 1 := ⟨g - 1, by omega⟩
    refine ⟨s, ?_, R, fun _ h => by omega, ix_F2.rf⟩
    rw [F_X3_valueFrom_50, F_X3_valueFrom_50_o, h5, if_neg (by rw [ix_lt (by omega) (by omega)]; omega)]
    rfl
  | succ l ih =>
    intro d g s m much R ok hd ht h5 hmu hg
    obtain ⟨g, rfl⟩ : ∃ g', g = g' + 1 := ⟨g - 1, by omega⟩
    obtain ⟨-, ⟨t0, e, t1, t2, t3, t4, t5⟩, -⟩ := id ok
    have ht0 : sq_tn m = t0 := by unfold sq_tn; rw [t4, ix_nat (by omega)]
    have h2 : (m 2).toNatClampNeg = e := by rw [t5, ix_nat (by omega)]
    have h32 : m 3 < m 2 := by rw [t4, t5, ix_lt (by omega) (by omega)]; omega
    have okd := sq_d_ok ok (sq_lt16 ok h32)
    have h32d := sq_d_32 ok h32
    have hd4 : d < 4 := by omega
    have hi4 : am_in (Int32.ofNat d) 4 := (ix_in (by omega)).mpr hd4
    have hnd : (Int32.ofNat d).toNatClampNeg = d := ix_nat (by omega)
    have hmd : ∀ j, ¬ sq_ch j → sq_d m j = m j := fun j hj => sq_d_n ok (by unfold sq_ch at hj; omega)
    have hcn : sq_cn (sq_d m) = sq_cn m := by unfold sq_cn; rw [sq_d_n ok (by omega)]
    obtain ⟨s1, a1, a2, a3⟩ := cz_save_f52 hd4 R
    have R1 : sq_R s1.1 8 m := sq_R_fr (fun k h1 h2 => a3.1 k (by simp; omega)) R
    obtain ⟨s2, d1, d2, d3⟩ := cz_driftAll R1 ok (sq_lt16 ok h32)
    obtain ⟨s3, b1, b2, b3⟩ := cz_save_f57 hd4 d2
    have R3 : sq_R s3.1 8 (sq_d m) := sq_R_fr (fun k h1 h2 => b3.1 k (by simp; omega)) d2
    have f3 : ix_F2 (sq_pG d) s s3 := ((a3.F2 (fun k j hk => by unfold sq_pG at hk; simp at hk ⊢; omega)).tr (d3.F2 (fun k j hk => by unfold sq_pG at hk; simp at hk ⊢; omega))).tr (b3.F2 (fun k j hk => by unfold sq_pG at hk; simp at hk ⊢; omega))
    have g3 : ∀ q, q ≠ 53 + d → q ≠ 58 + d → q ≠ 13 → s3.1 q = s.1 q := fun q h1 h2 h3 => by
      rw [b3.1 q (by simp; omega), d3.1 q (by simp; omega), a3.1 q (by simp; omega)]
    have hm53 : sq_mo (s3.1 (53 + d)) m := by rw [b3.1 (53 + d) (by simp), d3.1 (53 + d) (by simp; omega)]; exact a2
    obtain ⟨s', i1, i2, i3, i4⟩ := cz_gl (m := m) (len := len) (much := much) (rc := F_X3_valueFrom_50 g) (rec := fun m1 => (sq_gv l m1 (!much)).1) okd h32d hmd hd4 (fun k u hk Ru u5 => by
      obtain ⟨c1, c2, c3, -⟩ := sq_ca_ok (a := k) okd h32d
      have e2 : (sq_ca (sq_d m) k).1 2 = m 2 := by rw [c2 2 (by unfold sq_ch; omega), sq_d_n ok (by omega)]
      have e3 : sq_tn (sq_ca (sq_d m) k).1 = t0 + 1 := by
        unfold sq_tn; rw [c3, sq_d_n ok (by omega), t4, ix_addL, ix_nat (by omega)]
      obtain ⟨u', v1, v2, v3, v4⟩ := ih (d + 1) g u _ (!much) Ru c1 (by omega) (by rw [e2, e3, h2]; omega) u5 (by
        rw [hmu]
        by_cases hp : d % 2 = 0
        · rw [decide_eq_true hp, decide_eq_false (by omega)]; rfl
        · rw [decide_eq_false hp, decide_eq_true (by omega)]; rfl) (by omega)
      exact ⟨u', v1, v2, v4⟩) (sq_cn m + 1) 0 1000 s3 0 (-1) R3 (by rw [g3 50 (by omega) (by omega) (by omega)]; exact h5) (fun _ h => absurd rfl h) (Or.inl (by omega)) b2 hm53 (by rw [hcn]; omega) (by have := (sq_cn_ok ok).1; omega)
    refine ⟨s', ?_, i2, fun h _ => i3 h, f3.tr i4⟩
    have h21 : ∀ y : Int32, F_X3_valueFrom_50_b21 (F_X3_valueFrom_50 g) (Int32.ofNat d) y s = F_X3_valueFrom_50_b60 (F_X3_valueFrom_50 g) 1000 (Int32.ofNat d) y 0 0 s3 := by
      intro y
      rw [F_X3_valueFrom_50_b21, if_pos hi4]
      simp only [hnd]
      rw [a1, ix_b1, d1, ix_b1, if_pos hi4, b1, ix_b1]
    rw [F_X3_valueFrom_50, F_X3_valueFrom_50_o, h5, if_pos (by rw [ix_lt (by omega) (by omega)]; omega), h21, h21]
    have hp := sq_par d hd4
    by_cases hev : d % 2 = 0
    · rw [if_pos (hp.mpr hev)]
      have hmt : much = true := by rw [hmu]; exact decide_eq_true hev
      rw [hmt] at i1 ⊢
      exact i1
    · rw [if_neg (fun z => hev (hp.mp z))]
      have hmt : much = false := by rw [hmu]; exact decide_eq_false hev
      rw [hmt] at i1 ⊢
      exact i1
def sq_pP (d k j : Nat) : Bool := k == 83 || k == 86 || (k == 88 && decide (14 * d ≤ j)) || (k == 82 && j == 15)
theorem sq_pP_le {d e k j : Nat} (h : d ≤ e) (hk : sq_pP d k j = false) : sq_pP e k j = false := by
  unfold sq_pP at hk ⊢; simp at hk ⊢; omega
theorem mz_gl {m : Nat → Int32} {n d : Nat} {much : Bool} {rc : Int32 → Int32 → Int32 → am_S → Option (Int32 × am_S)} {rec : (Nat → Int32) → Int32} (ok : sq_Ok m) (h32 : m 3 < m 2) (hd : d < 4)
    (hrc : ∀ (k : Nat) (s : am_S), k ≤ sq_cn m → s.1 83 = (sq_go m k).1 → ∃ s', rc (Int32.ofNat (d + 1)) (Int32.ofNat n) (if (!much) = true then 1 else 0) s = some (rec (sq_go m k).1, s') ∧ s'.1 83 = (sq_go m k).1 ∧ ix_F2 (sq_pP (d + 1)) s s') :
    ∀ (j k f : Nat) (s : am_S) (b y : Int32), s.1 83 = m → (k = 0 → y = -1) → (k ≠ 0 → sq_N y 6) → k + j = sq_cn m + 1 → j < f → ∃ s', F_X12_played_82_b23 rc f (Int32.ofNat d) (Int32.ofNat n) (if much = true then 1 else 0) b y (Int32.ofNat k) s = some ((sq_gl rec (sq_d m) much j k b y).1, s') ∧ s'.1 83 = m ∧ s'.1 82 15 = (sq_gl rec (sq_d m) much j k b y).2 ∧ ix_F2 (sq_pP d) s s' := by
  obtain ⟨hc, h0⟩ := sq_cn_ok ok
  intro j
  induction j with
  | zero =>
    intro k f s b y h83 hy0 hy1 hk hf
    obtain ⟨f, rfl⟩ : ∃ g, f = g + 1 := ⟨f - 1, by omega⟩
    have e0 : s.1 83 (0 : Int32).toNatClampNeg = Int32.ofNat (sq_cn m) := by rw [h83]; exact h0
    refine ⟨am_sI s 82 15 y, ?_, by rw [ix_83 (by decide)]; exact h83, ix_sIs, ix_F2.I (by unfold sq_pP; simp)⟩
    rw [F_X12_played_82_b23, if_pos ix_k0, e0, if_pos (by rw [ix_lt (by omega) (by omega)]; omega), ix_b1]
    rfl
  | succ j ih =>
    intro k f s b y h83 hy0 hy1 hk hf
    obtain ⟨f, rfl⟩ : ∃ g, f = g + 1 := ⟨f - 1, by omega⟩
    have hkc : k ≤ sq_cn m := by omega
    have e0 : s.1 83 (0 : Int32).toNatClampNeg = Int32.ofNat (sq_cn m) := by rw [h83]; exact h0
    obtain ⟨s1, a1, a2, a3⟩ := mz_saves hd s
    rw [h83] at a2
    have h831 : s1.1 83 = m := (funext fun q => a3.1 83 q (by rfl)).trans h83
    obtain ⟨s3, g1, g2, g3⟩ := mz_goes (s := s1) (a := k) (by rw [h831]; exact ok) (by rw [h831]; exact sq_lt16 ok h32) (by rw [h831]; exact hkc)
    rw [h831] at g1 g2
    have f1 : ix_F2 (sq_pP d) s s1 := a3.wd (fun k j hk => by unfold sq_pP at hk; simp at hk ⊢; omega)
    have f3 : ix_F2 (sq_pP d) s1 s3 := g3.F2 (fun k j hk => by unfold sq_pP at hk; simp at hk ⊢; omega)
    obtain ⟨s4, r1, r2, r4⟩ := hrc k s3 hkc g2
    obtain ⟨k1, k2, -⟩ := sq_go_ok (a := k) ok h32
    have hsv : sq_sv (s4.1 88) d m := by
      have hq : ∀ q, q < 14 * d + 14 → s4.1 88 q = s1.1 88 q := fun q hq => by
        rw [r4.1 88 q (by unfold sq_pP; simp; omega), g3.1 88 rfl]
      obtain ⟨b1, b2, b3⟩ := a2
      exact ⟨fun v hv => by rw [hq _ (by omega), hq _ (by omega)]; exact b1 v hv, by rw [hq _ (by omega)]; exact b2, by rw [hq _ (by omega)]; exact b3⟩
    obtain ⟨s5, t1, t2, t3⟩ := mz_takes (s := s4) hd hsv (fun q hq => by rw [r2]; exact k2 q hq)
    have f5 : ix_F2 (sq_pP d) s s5 := ((f1.tr f3).tr (r4.wd (fun k j hk => sq_pP_le (by omega) hk))).tr (t3.F2 (fun k j hk => by unfold sq_pP at hk; simp at hk ⊢; omega))
    -- taken, or not
    have hyes : ∃ s', F_X12_played_82_b100 rc (F_X12_played_82_b23 rc f) (Int32.ofNat d) (Int32.ofNat n) (if much = true then 1 else 0) b y (Int32.ofNat k) ((sq_go m k).2 + rec (sq_go m k).1) s5 = some ((sq_gl rec (sq_d m) much j (k + 1) ((sq_go m k).2 + rec (sq_go m k).1) (Int32.ofNat k)).1, s') ∧ s'.1 83 = m ∧ s'.1 82 15 = (sq_gl rec (sq_d m) much j (k + 1) ((sq_go m k).2 + rec (sq_go m k).1) (Int32.ofNat k)).2 ∧ ix_F2 (sq_pP d) s s' := by
      obtain ⟨s', i1, i2, i3, i4⟩ := ih (k + 1) f s5 ((sq_go m k).2 + rec (sq_go m k).1) (Int32.ofNat k) t2 (fun h => by omega) (fun _ => ⟨k, by omega, rfl⟩) (by omega) (by omega)
      refine ⟨s', ?_, i2, i3, f5.tr i4⟩
      rw [F_X12_played_82_b100, F_X12_played_82_b105, if_neg (show ¬ (1 : Int32) = 0 by decide), F_X12_played_82_b119, if_neg (show ¬ (1 : Int32) = 0 by decide), F_X12_played_82_b133, ix_addL]
      exact i1
    have hno : k ≠ 0 → ∃ s', F_X12_played_82_b104 rc (F_X12_played_82_b23 rc f) (Int32.ofNat d) (Int32.ofNat n) (if much = true then 1 else 0) b y (Int32.ofNat k) ((sq_go m k).2 + rec (sq_go m k).1) s5 = some ((sq_gl rec (sq_d m) much j (k + 1) b y).1, s') ∧ s'.1 83 = m ∧ s'.1 82 15 = (sq_gl rec (sq_d m) much j (k + 1) b y).2 ∧ ix_F2 (sq_pP d) s s' := by
      intro hk0
      obtain ⟨s', i1, i2, i3, i4⟩ := ih (k + 1) f s5 b y t2 (fun h => by omega) (fun _ => hy1 hk0) (by omega) (by omega)
      refine ⟨s', ?_, i2, i3, f5.tr i4⟩
      rw [F_X12_played_82_b104, F_X12_played_82_b105, if_pos rfl, F_X12_played_82_b119, if_pos rfl, F_X12_played_82_b133, ix_addL]
      exact i1
    have h63 : ∀ z : Int32, z = (if (!much) = true then 1 else 0) → ∃ s', F_X12_played_82_b63 rc (F_X12_played_82_b23 rc f) (Int32.ofNat d) (Int32.ofNat n) (if much = true then 1 else 0) b y (Int32.ofNat k) z (Int32.ofNat n) (Int32.ofNat d + 1) (sq_go m k).2 s3 = some ((sq_gl rec (sq_d m) much (j + 1) k b y).1, s') ∧ s'.1 83 = m ∧ s'.1 82 15 = (sq_gl rec (sq_d m) much (j + 1) k b y).2 ∧ ix_F2 (sq_pP d) s s' := by
      intro z hz
      have hgo : sq_ca (sq_d m) k = sq_go m k := rfl
      rw [F_X12_played_82_b63, hz, ix_addL, r1, ix_b1, sq_gl, hgo]
      dsimp only
      rw [t1, ix_b1]
      by_cases hk0 : k = 0
      · rw [if_pos (Or.inl hk0), hy0 hk0, if_pos (by decide)]
        rw [hy0 hk0] at hyes
        exact hyes
      · obtain ⟨y0, hy0', ey⟩ := hy1 hk0
        rw [if_neg (show ¬ y < 0 by rw [ey]; exact ix_nn (by omega))]
        cases much with
        | true =>
          simp only [if_true] at hyes hno ⊢
          rw [if_neg (show ¬ (1 : Int32) = 0 by decide)]
          by_cases hv : (sq_go m k).2 + rec (sq_go m k).1 ≤ b
          · have hn : ¬ (k = 0 ∨ ¬ (sq_go m k).2 + rec (sq_go m k).1 ≤ b) := by rintro (z | z); exact hk0 z; exact z hv
            rw [if_pos hv, if_neg hn]
            exact hno hk0
          · rw [if_neg hv, if_pos (Or.inr hv)]
            exact hyes
        | false =>
          simp only [Bool.false_eq_true, if_false] at hyes hno ⊢
          rw [if_pos trivial]
          by_cases hv : b ≤ (sq_go m k).2 + rec (sq_go m k).1
          · have hn : ¬ (k = 0 ∨ ¬ b ≤ (sq_go m k).2 + rec (sq_go m k).1) := by rintro (z | z); exact hk0 z; exact z hv
            rw [if_pos hv, if_neg hn]
            exact hno hk0
          · rw [if_neg hv, if_pos (Or.inr hv)]
            exact hyes
    rw [F_X12_played_82_b23, if_pos ix_k0, e0, if_neg (by rw [ix_lt (by omega) (by omega)]; omega), a1, ix_b1, g1, ix_b1]
    dsimp only
    cases much with
    | true => rw [if_neg (by decide)]; exact h63 0 rfl
    | false => rw [if_pos (by decide)]; exact h63 1 rfl
theorem mz_gv {n : Nat} (hn4 : n ≤ 4) : ∀ (l d g : Nat) (s : am_S) (m : Nat → Int32) (much : Bool), s.1 83 = m → sq_Ok m → d ≤ n → l = min (n - d) ((m 2).toNatClampNeg - sq_tn m) → l < g → ∃ s', F_X12_played_82 g (Int32.ofNat d) (Int32.ofNat n) (if much = true then 1 else 0) s = some ((sq_gv l m much).1, s') ∧ s'.1 83 = m ∧ (1 ≤ l → s'.1 82 15 = (sq_gv l m much).2) ∧ ix_F2 (sq_pP d) s s' := by
  intro l
  induction l with
  | zero =>
    intro d g s m much h83 ok hdn hl hg
    obtain ⟨g, rfl⟩ : ∃ g', g = g' + 1 := ⟨g - 1, by omega⟩
    obtain ⟨-, ⟨t0, e, t1, t2, t3, t4, t5⟩, -⟩ := id ok
    have ht0 : sq_tn m = t0 := by unfold sq_tn; rw [t4, ix_nat (by omega)]
    have h2 : (m 2).toNatClampNeg = e := by rw [t5, ix_nat (by omega)]
    refine ⟨s, ?_, h83, fun h => by omega, ix_F2.rf⟩
    rw [F_X12_played_82, F_X12_played_82_o]
    by_cases hdn2 : d = n
    · rw [if_pos (by rw [ix_eq (by omega) (by omega)]; exact hdn2)]; rfl
    · have h32 : ¬ s.1 83 3 < s.1 83 2 := by rw [h83, t4, t5, ix_lt (by omega) (by omega)]; omega
      rw [if_neg (by rw [ix_eq (by omega) (by omega)]; exact hdn2), mz_over, if_neg h32, ix_b1, if_neg (show ¬ (1 : Int32) = 0 by decide)]
      rfl
  | succ l ih =>
    intro d g s m much h83 ok hdn hl hg
    obtain ⟨g, rfl⟩ : ∃ g', g = g' + 1 := ⟨g - 1, by omega⟩
    obtain ⟨-, ⟨t0, e, t1, t2, t3, t4, t5⟩, -⟩ := id ok
    have ht0 : sq_tn m = t0 := by unfold sq_tn; rw [t4, ix_nat (by omega)]
    have h2 : (m 2).toNatClampNeg = e := by rw [t5, ix_nat (by omega)]
    have h32 : m 3 < m 2 := by rw [t4, t5, ix_lt (by omega) (by omega)]; omega
    obtain ⟨s', i1, i2, i3, i4⟩ := mz_gl (n := n) (much := much) (rc := F_X12_played_82 g) (rec := fun m1 => (sq_gv l m1 (!much)).1) ok h32 (show d < 4 by omega) (fun k u hk u83 => by
      obtain ⟨c1, c2, c3, -⟩ := sq_go_ok (a := k) ok h32
      have e2 : (sq_go m k).1 2 = m 2 := c2 2 (by unfold sq_ch; omega)
      have e3 : sq_tn (sq_go m k).1 = t0 + 1 := by unfold sq_tn; rw [c3, t4, ix_addL, ix_nat (by omega)]
      obtain ⟨u', v1, v2, v3, v4⟩ := ih (d + 1) g u _ (!much) u83 c1 (by omega) (by rw [e2, e3, h2]; omega) (by omega)
      exact ⟨u', v1, v2, v4⟩) (sq_cn m + 1) 0 1000 s 0 (-1) h83 (fun _ => rfl) (fun h => absurd rfl h) (by omega) (by have := (sq_cn_ok ok).1; omega)
    refine ⟨s', ?_, i2, fun _ => i3, i4⟩
    rw [F_X12_played_82, F_X12_played_82_o, if_neg (by rw [ix_eq (by omega) (by omega)]; omega), mz_over, h83, if_pos h32, ix_b1, if_pos rfl]
    exact i1
theorem cz_game {s : am_S} {m : Nat → Int32} {n : Nat} (R : sq_R s.1 8 m) (ok : sq_Ok m) (hn : n ≤ 4) : ∃ s', F_X3_valueOfGame_50 (Int32.ofNat n) s = some ((sq_gv (sq_pl m n) m true).1, s') ∧ sq_R s'.1 8 m ∧ (1 ≤ sq_pl m n → s'.1 50 12 = (sq_gv (sq_pl m n) m true).2) ∧ ix_F2 (fun k j => sq_pG 0 k j || (k == 50 && j == 5)) s s' := by
  obtain ⟨-, ⟨t0, e, t1, t2, t3, t4, t5⟩, -⟩ := id ok
  have ht0 : sq_tn m = t0 := by unfold sq_tn; rw [t4, ix_nat (by omega)]
  have h2 : (m 2).toNatClampNeg = e := by rw [t5, ix_nat (by omega)]
  obtain ⟨u, eu⟩ : ∃ u, u = am_sI (am_sI s 50 5 (Int32.ofNat (sq_pl m n))) 50 12 0 := ⟨_, rfl⟩
  have gu : ∀ q, q ≠ 50 → u.1 q = s.1 q := fun q hq => by rw [eu, ix_sIn hq, ix_sIn hq]
  obtain ⟨s', i1, i2, i3, i4⟩ := cz_gv (len := sq_pl m n) (by unfold sq_pl; omega) (sq_pl m n) 0 10 u m true (sq_R_fr (fun q h1 h2 => gu q (by omega)) R) ok (by omega) (by unfold sq_pl; omega) (by rw [eu, ix_sIj (by omega), ix_sIs]) rfl (by unfold sq_pl; omega)
  refine ⟨s', ?_, i2, fun h => i3 rfl h, ((by rw [eu]; exact (ix_F2.I (by rfl)).tr (ix_F2.I (by rfl))) : ix_F2 _ s u).tr (i4.wd (fun k j hk => by simp at hk; exact hk.1))⟩
  unfold F_X3_valueOfGame_50
  rw [cz_plen R ok hn, ix_b1, ix_b1, ix_b1]
  dsimp only
  rw [← eu]
  have i1' : F_X3_valueFrom_50 10 0 u = _ := i1
  rw [i1', ix_b1]
theorem jz_gm {s s1 s2 : am_S} {m : Nat → Int32} (j : jz_J s) (R1 : sq_R s1.1 8 m) (f1 : ix_F2 (fun k j => sq_pG 0 k j || (k == 50 && j == 5)) s s1) (f2 : ix_F2 (sq_pP 0) s1 s2) (h83 : s2.1 83 = m) (ok : sq_Ok m) : jz_J s2 := by
  refine jz_fin j R1 (f1.wd (fun k j hk => ?_)) (f2.wd (fun k j hk => ?_)) (fun k h1 h2 => funext fun q => f2.1 k q ?_) h83 ok
  · unfold sq_pS at hk; unfold sq_pG; simp at hk ⊢; omega
  · unfold sq_pS at hk; unfold sq_pP; simp at hk ⊢; omega
  · unfold sq_pP; simp; omega
theorem jz_game {s : am_S} {n : Nat} (j : jz_J s) (hn : n ≤ 4) : ∃ s1 s2, F_X3_valueOfGame_50 (Int32.ofNat n) s = some ((sq_gv (sq_pl (s.1 83) n) (s.1 83) true).1, s1) ∧ F_X12_played_82 10 0 (Int32.ofNat n) 1 s1 = some ((sq_gv (sq_pl (s.1 83) n) (s.1 83) true).1, s2) ∧ s1.1 83 = s.1 83 ∧ jz_J s2 ∧ (1 ≤ sq_pl (s.1 83) n → s1.1 50 12 = (sq_gv (sq_pl (s.1 83) n) (s.1 83) true).2 ∧ s2.1 82 15 = (sq_gv (sq_pl (s.1 83) n) (s.1 83) true).2) := by
  obtain ⟨ok, R⟩ := j.1
  obtain ⟨s1, c1, c2, c3, c4⟩ := cz_game R ok hn
  have h83 : s1.1 83 = s.1 83 := funext fun q => c4.1 83 q (by unfold sq_pG; simp)
  obtain ⟨s2, d1, d2, d3, d4⟩ := mz_gv hn (sq_pl (s.1 83) n) 0 10 s1 (s.1 83) true h83 ok (by omega) (by unfold sq_pl; rfl) (by unfold sq_pl; omega)
  exact ⟨s1, s2, c1, d1, h83, jz_gm j c2 c4 d4 d2 ok, fun h => ⟨c3 h, d3 h⟩⟩
theorem ag_game {a : Int32} : jz_A (F_X11_game_0 a) (F_X12_game_82 a) := by
  intro s j
  by_cases h1 : (1 : Int32) ≤ a ∧ a ≤ 4
  · obtain ⟨n, -, hn, rfl⟩ := ix_rng (a := 1) (b := 4) (by omega) (by omega) h1
    obtain ⟨s1, s2, c1, d1, h83, jj, -⟩ := jz_game j hn
    refine ⟨(sq_gv (sq_pl (s.1 83) n) (s.1 83) true).1, s1, s2, ?_, ?_, jj⟩
    · simp only [F_X11_game_0, cz_isGame, ix_wi_p h1, ix_b1, ix_10, ix_00, if_true, if_false]
      rw [c1]; rfl
    · simp only [F_X12_game_82, mz_in1x4, ix_wi_p h1, ix_b1, ix_10, ix_00, if_true, if_false]
      rw [d1]; rfl
  · exact jz_A0 (v := -1) j (by simp only [F_X11_game_0, cz_isGame, ix_wi_n h1, ix_b1, ix_10, ix_00, if_true, if_false]) (by simp only [F_X12_game_82, mz_in1x4, ix_wi_n h1, ix_b1, ix_10, ix_00, if_true, if_false])
theorem ag_play {a : Int32} : jz_A (F_X11_play_0 a) (F_X12_play_82 a) := by
  intro s j
  obtain ⟨ok, R⟩ := j.1
  by_cases h1 : (1 : Int32) ≤ a ∧ a ≤ 4
  rotate_left
  · exact jz_A0 (v := -1) j (by simp only [F_X11_play_0, cz_isGame, ix_wi_n h1, ix_b1, ix_10, ix_00, if_true, if_false]) (by simp only [F_X12_play_82, mz_in1x4, ix_wi_n h1, ix_b1, ix_10, ix_00, if_true, if_false])
  by_cases h : s.1 83 3 < s.1 83 2
  · obtain ⟨n, hn1, hn, rfl⟩ := ix_rng (a := 1) (b := 4) (by omega) (by omega) h1
    obtain ⟨s1, s2, c1, d1, h83, jj, hb⟩ := jz_game j hn
    obtain ⟨e, e1, e2, e3⟩ := sq_lt_tn ok h
    have hl : 1 ≤ sq_pl (s.1 83) n := by unfold sq_pl; rw [e3, ix_nat (by omega)]; omega
    obtain ⟨b1, b2⟩ := hb hl
    refine ⟨(sq_gv (sq_pl (s.1 83) n) (s.1 83) true).2, s1, s2, ?_, ?_, jj⟩
    · simp only [F_X11_play_0, cz_isGame, ix_wi_p h1, cz_over R ok, if_pos h, ix_b1, ix_10, ix_00, if_true, if_false]
      rw [c1, ix_b1, b1]
    · simp only [F_X12_play_82, mz_in1x4, ix_wi_p h1, mz_over, h83, if_pos h, ix_b1, ix_10, ix_00, if_true, if_false]
      rw [d1, ix_b1, b2]
  · exact jz_A0 (v := -3) j (by simp only [F_X11_play_0, cz_isGame, ix_wi_p h1, cz_over R ok, if_neg h, ix_b1, ix_10, ix_00, if_true, if_false]) (by simp only [F_X12_play_82, mz_in1x4, ix_wi_p h1, mz_over, if_neg h, ix_b1, ix_10, ix_00, if_true, if_false])
