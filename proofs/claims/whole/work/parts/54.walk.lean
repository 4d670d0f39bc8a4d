/-! LAYER 2: the class's walk over all plans -/
theorem sq_AC_fr {x x' : Nat → Nat → Int32} {len : Nat} {a : sq_Ac} (h : ∀ j, 8 ≤ j → j < 12 → x' 50 j = x 50 j) (h2 : ∀ j, x' 63 j = x 63 j) (hA : sq_AC x len a) : sq_AC x' len a := by
  obtain ⟨h8, h9, h5, h10, h64, h11, hf⟩ := hA
  exact ⟨(h 8 (by omega) (by omega)).trans h8, (h 9 (by omega) (by omega)).trans h9, h5, (h 10 (by omega) (by omega)).trans h10, h64, (h 11 (by omega) (by omega)).trans h11, fun f hf' j hj => (h2 j).trans (hf f hf' j hj)⟩
theorem sq_mo_c {x x' : Nat → Int32} {m : Nat → Int32} (h : ∀ j, x' j = x j) (hm : sq_mo x m) : sq_mo x' m := by
  obtain ⟨a, b, c, d⟩ := hm
  exact ⟨(h _).trans a, (h _).trans b, (h _).trans c, fun v hv => (h _).trans (d v hv)⟩
theorem cz_wal {m md ln : Nat → Int32} {w t : Int32} {len d : Nat} {rc : Int32 → Int32 → Int32 → am_S → Option am_S} {rec : (Nat → Int32) → Int32 → (Nat → Int32) → sq_Ac → sq_Ac} (okd : sq_Ok md) (h32 : md 3 < md 2) (hmd : ∀ j, ¬ sq_ch j → md j = m j) (hd : d < 4)
    (hrc : ∀ (k : Nat) (s : am_S) (a : sq_Ac), k ≤ sq_cn md → sq_R s.1 8 (sq_ca md k).1 → s.1 50 5 = Int32.ofNat len → s.1 50 6 = t → sq_AC s.1 len a → (∀ j, j < d + 1 → s.1 62 j = upd ln d (Int32.ofNat k) j) → ∃ s', rc (Int32.ofNat (d + 1)) (w + (sq_ca md k).2) (Int32.ofNat (sq_ct (upd ln d (Int32.ofNat k)) (d + 1))) s = some s' ∧ sq_R s'.1 8 (sq_ca md k).1 ∧ sq_AC s'.1 len (rec (sq_ca md k).1 (w + (sq_ca md k).2) (upd ln d (Int32.ofNat k)) a) ∧ ix_F2 (sq_pW (d + 1)) s s') :
    ∀ (j k f : Nat) (s : am_S) (a : sq_Ac), sq_R s.1 8 md → s.1 50 5 = Int32.ofNat len → s.1 50 6 = t → sq_AC s.1 len a → (∀ q, q < d → s.1 62 q = ln q) → sq_mo (s.1 (58 + d)) md → sq_mo (s.1 (53 + d)) m → k + j = sq_cn md + 1 → j < f → ∃ s', F_X3_walk_50_b51 rc f (Int32.ofNat d) w (Int32.ofNat (sq_ct ln d)) (Int32.ofNat k) s = some s' ∧ sq_R s'.1 8 m ∧ sq_AC s'.1 len (sq_wal rec md w ln d j k a) ∧ ix_F2 (sq_pW d) s s' := by
  obtain ⟨hc, h0⟩ := sq_cn_ok okd
  have hi4 : am_in (Int32.ofNat d) 4 := (ix_in (by omega)).mpr hd
  have hnd : (Int32.ofNat d).toNatClampNeg = d := ix_nat (by omega)
  intro j
  induction j with
  | zero =>
    intro k f s a R h5 h6 hA hl hm1 hm2 hk hf
    obtain ⟨f, rfl⟩ : ∃ g, f = g + 1 := ⟨f - 1, by omega⟩
    obtain ⟨s', b1, b2, b3⟩ := cz_come_f52 hd R hmd hm2
    refine ⟨s', ?_, b2, sq_AC_fr (fun j _ _ => by rw [b3.1 50 rfl]) (fun j => by rw [b3.1 63 rfl]) hA, b3.F2 (fun k j hk => by unfold sq_pW at hk; simp at hk ⊢; omega)⟩
    rw [F_X3_walk_50_b51, R.2.2.2.2.2.1, h0, if_pos (by rw [ix_lt (by omega) (by omega)]; omega), if_pos hi4, hnd, b1]
    rfl
  | succ j ih =>
    intro k f s a R h5 h6 hA hl hm1 hm2 hk hf
    obtain ⟨f, rfl⟩ : ∃ g, f = g + 1 := ⟨f - 1, by omega⟩
    have hkc : k ≤ sq_cn md := by omega
    obtain ⟨s6, e6⟩ : ∃ s6, s6 = am_sI s 62 d (Int32.ofNat k) := ⟨_, rfl⟩
    have f6 : ix_F2 (sq_pW d) s s6 := by rw [e6]; exact ix_F2.I (by unfold sq_pW; simp)
    have g6 : ∀ q, q ≠ 62 → s6.1 q = s.1 q := fun q hq => by rw [e6, ix_sIn hq]
    have R6 : sq_R s6.1 8 md := sq_R_fr (fun q h1 h2 => g6 q (by omega)) R
    obtain ⟨s7, c1, c2, c3⟩ := cz_cast R6 okd hkc
    have g7 : ∀ q, q ≠ 8 → q ≠ 23 → s7.1 q = s6.1 q := fun q h1 h2 => c3.1 q (by simp; omega)
    obtain ⟨s8, r1, r2, r3, r4⟩ := hrc k s7 a hkc c2 (by rw [g7 50 (by omega) (by omega), g6 50 (by omega)]; exact h5) (by rw [g7 50 (by omega) (by omega), g6 50 (by omega)]; exact h6) (sq_AC_fr (fun j _ _ => by rw [g7 50 (by omega) (by omega), g6 50 (by omega)]) (fun j => by rw [g7 63 (by omega) (by omega), g6 63 (by omega)]) hA) (fun q hq => by
      rw [g7 62 (by omega) (by omega), e6, ix_sI1, ix_up]
      by_cases hqd : q = d
      · rw [if_pos hqd, if_pos hqd]
      · rw [if_neg hqd, if_neg hqd]; exact hl q (by omega))
    obtain ⟨k1, k2, -⟩ := sq_ca_ok (a := k) okd h32
    have m58 : sq_mo (s8.1 (58 + d)) md := sq_mo_c (fun j => by
      rw [r4.1 (58 + d) j (by unfold sq_pW; simp; omega), g7 _ (by omega) (by omega), g6 _ (by omega)]) hm1
    have m53 : sq_mo (s8.1 (53 + d)) m := sq_mo_c (fun j => by
      rw [r4.1 (53 + d) j (by unfold sq_pW; simp; omega), g7 _ (by omega) (by omega), g6 _ (by omega)]) hm2
    obtain ⟨s9, b1, b2, b3⟩ := cz_come_f57 hd r2 k2 m58
    have g9 : ∀ q, q ≠ 8 → q ≠ 13 → s9.1 q = s8.1 q := fun q h1 h2 => b3.1 q (by simp; omega)
    have f9 : ix_F2 (sq_pW d) s s9 := ((f6.tr (c3.F2 (fun k j hk => by unfold sq_pW at hk; simp at hk ⊢; omega))).tr (r4.wd (fun k j hk => sq_pW_le (by omega) hk))).tr (b3.F2 (fun k j hk => by unfold sq_pW at hk; simp at hk ⊢; omega))
    obtain ⟨s', i1, i2, i3, i4⟩ := ih (k + 1) f s9 _ b2 (by rw [f9.1 50 5 (by unfold sq_pW; simp; omega)]; exact h5) (by rw [f9.1 50 6 (by unfold sq_pW; simp; omega)]; exact h6) (sq_AC_fr (fun j _ _ => by rw [g9 50 (by omega) (by omega)]) (fun j => by rw [g9 63 (by omega) (by omega)]) r3) (fun q hq => by rw [f9.1 62 q (by unfold sq_pW; simp; omega)]; exact hl q hq) (by rw [g9 (58 + d) (by omega) (by omega)]; exact m58) (by rw [g9 (53 + d) (by omega) (by omega)]; exact m53) (by omega) (by omega)
    refine ⟨s', ?_, i2, i3, f9.tr i4⟩
    have hstep : ∀ c : Int32, c = Int32.ofNat (sq_ct (upd ln d (Int32.ofNat k)) (d + 1)) → F_X3_walk_50_b102 rc (F_X3_walk_50_b51 rc f) (Int32.ofNat d) w (Int32.ofNat (sq_ct ln d)) (Int32.ofNat k) c (w + (sq_ca md k).2) (Int32.ofNat d + 1) s7 = some s' := by
      intro c hcc
      rw [F_X3_walk_50_b102, hcc, ix_addL, r1, ix_b1, if_pos hi4, hnd, b1, ix_b1, ix_addL]
      exact i1
    rw [F_X3_walk_50_b51, R.2.2.2.2.2.1, h0, if_neg (by rw [ix_lt (by omega) (by omega)]; omega), if_pos hi4, hnd, ix_b1, ← e6, c1, ix_b1]
    dsimp only
    have hs := sq_ct_s (ln := ln) (d := d) (k := k) (by omega)
    by_cases hk0 : k = 0
    · subst hk0
      rw [if_pos (show Int32.ofNat 0 = (0 : Int32) from rfl)]
      exact hstep _ (by rw [hs, if_pos rfl, Nat.add_zero])
    · rw [if_neg (by rw [ix_eqL (by omega) (by omega)]; exact hk0)]
      exact hstep _ (by rw [hs, if_neg hk0, ix_addL])
theorem cz_wa {t : Int32} {len : Nat} (hlen : len ≤ 4) : ∀ (l d g : Nat) (s : am_S) (m : Nat → Int32) (w : Int32) (ln : Nat → Int32) (a : sq_Ac), sq_R s.1 8 m → sq_Ok m → d + l = len → sq_tn m + l ≤ (m 2).toNatClampNeg → s.1 50 5 = Int32.ofNat len → s.1 50 6 = t → sq_AC s.1 len a → (∀ j, j < d → s.1 62 j = ln j) → l < g → ∃ s', F_X3_walk_50 g (Int32.ofNat d) w (Int32.ofNat (sq_ct ln d)) s = some s' ∧ sq_R s'.1 8 m ∧ sq_AC s'.1 len (sq_wa t len l d m w ln a) ∧ ix_F2 (sq_pW d) s s' := by
  intro l
  induction l with
  | zero =>
    intro d g s m w ln a R ok hd ht h5 h6 hA hl hg
    obtain ⟨g, rfl⟩ : ∃ g', g = g' + 1 := ⟨g - 1, by omega⟩
    have hdl : d = len := by omega
    subst hdl
    obtain ⟨s', b1, b2, b3⟩ := cz_weigh (w := w) R h6 hlen hA hl
    refine ⟨s', ?_, b3.R (fun k j h1 h2 => by simp; omega) R, b2, b3.wd (fun k j hk => by unfold sq_pW at hk; simp at hk ⊢; omega)⟩
    rw [F_X3_walk_50, F_X3_walk_50_o, h5, if_neg (by rw [ix_lt (by omega) (by omega)]; omega), b1]
    rfl
  | succ l ih =>
    intro d g s m w ln a R ok hd ht h5 h6 hA hl hg
    obtain ⟨g, rfl⟩ : ∃ g', g = g' + 1 := ⟨g - 1, by omega⟩
    obtain ⟨-, ⟨t0, e, t1, t2, t3, t4, t5⟩, -⟩ := id ok
    have ht0 : sq_tn m = t0 := by unfold sq_tn; rw [t4, ix_nat (by omega)]
    have h2 : (m 2).toNatClampNeg = e := by rw [t5, ix_nat (by omega)]
    have h32 : m 3 < m 2 := by rw [t4, t5, ix_lt (by omega) (by omega)]; omega
    have okd := sq_d_ok ok (sq_lt16 ok h32)
    have h32d := sq_d_32 ok h32
    have hd4 : d < 4 := by omega
    have hi4 : am_in (Int32.ofNat d) 4 := (ix_in (by omega)).mpr hd4
    have hnd : (Int32.ofNat d).toNatClampNeg = d := ix_nat (by omega)
    have hmd : ∀ j, ¬ sq_ch j → sq_d m j = m j := fun j hj => sq_d_n ok (by unfold sq_ch at hj; omega)
    have hcn : sq_cn (sq_d m) = sq_cn m := by unfold sq_cn; rw [sq_d_n ok (by omega)]
    obtain ⟨s1, a1, a2, a3⟩ := cz_save_f52 hd4 R
    have R1 : sq_R s1.1 8 m := sq_R_fr (fun k h1 h2 => a3.1 k (by simp; omega)) R
    obtain ⟨s2, d1, d2, d3⟩ := cz_driftAll R1 ok (sq_lt16 ok h32)
    obtain ⟨s3, b1, b2, b3⟩ := cz_save_f57 hd4 d2
    have R3 : sq_R s3.1 8 (sq_d m) := sq_R_fr (fun k h1 h2 => b3.1 k (by simp; omega)) d2
    have f3 : ix_F2 (sq_pW d) s s3 := ((a3.F2 (fun k j hk => by unfold sq_pW at hk; simp at hk ⊢; omega)).tr (d3.F2 (fun k j hk => by unfold sq_pW at hk; simp at hk ⊢; omega))).tr (b3.F2 (fun k j hk => by unfold sq_pW at hk; simp at hk ⊢; omega))
    have g3 : ∀ q, q ≠ 53 + d → q ≠ 58 + d → q ≠ 13 → s3.1 q = s.1 q := fun q h1 h2 h3 => by
      rw [b3.1 q (by simp; omega), d3.1 q (by simp; omega), a3.1 q (by simp; omega)]
    have hm53 : sq_mo (s3.1 (53 + d)) m := by rw [b3.1 (53 + d) (by simp), d3.1 (53 + d) (by simp; omega)]; exact a2
    obtain ⟨s', i1, i2, i3, i4⟩ := cz_wal (m := m) (ln := ln) (w := w) (t := t) (len := len) (rc := F_X3_walk_50 g) (rec := fun m1 w1 ln1 a1 => sq_wa t len l (d + 1) m1 w1 ln1 a1) okd h32d hmd hd4 (fun k u a' hk Ru u5 u6 uA ul => by
      obtain ⟨c1, c2, c3, -⟩ := sq_ca_ok (a := k) okd h32d
      have e2 : (sq_ca (sq_d m) k).1 2 = m 2 := by rw [c2 2 (by unfold sq_ch; omega), sq_d_n ok (by omega)]
      have e3 : sq_tn (sq_ca (sq_d m) k).1 = t0 + 1 := by
        unfold sq_tn; rw [c3, sq_d_n ok (by omega), t4, ix_addL, ix_nat (by omega)]
      exact ih (d + 1) g u _ _ _ a' Ru c1 (by omega) (by rw [e2, e3, h2]; omega) u5 u6 uA ul (by omega)) (sq_cn m + 1) 0 1000 s3 a R3 (by rw [g3 50 (by omega) (by omega) (by omega)]; exact h5) (by rw [g3 50 (by omega) (by omega) (by omega)]; exact h6) (sq_AC_fr (fun j _ _ => by rw [g3 50 (by omega) (by omega) (by omega)]) (fun j => by rw [g3 63 (by omega) (by omega) (by omega)]) hA) (fun q hq => by rw [g3 62 (by omega) (by omega) (by omega)]; exact hl q hq) b2 hm53 (by rw [hcn]; omega) (by have := (sq_cn_ok ok).1; omega)
    refine ⟨s', ?_, i2, i3, f3.tr i4⟩
    rw [F_X3_walk_50, F_X3_walk_50_o, h5, if_pos (by rw [ix_lt (by omega) (by omega)]; omega), if_pos hi4]
    simp only [hnd]
    rw [a1, ix_b1, d1, ix_b1, if_pos hi4, b1, ix_b1]
    exact i1
