/-! LAYER 2: best, ith, ways, haul, bars agree -/
theorem sq_AM_fr {x x' : Nat → Nat → Int32} {len : Nat} {a : sq_Ac} (h : ∀ j, (9 ≤ j ∧ j < 13) ∨ j = 14 → x' 82 j = x 82 j) (h2 : ∀ j, x' 90 j = x 90 j) (hA : sq_AM x len a) : sq_AM x' len a := by
  obtain ⟨h8, h9, h5, h10, h64, h11, hf⟩ := hA
  exact ⟨(h 9 (by omega)).trans h8, (h 10 (by omega)).trans h9, h5, (h 11 (by omega)).trans h10, h64, (h 12 (by omega)).trans h11, fun f hf' => ⟨(h 14 (by omega)).trans (hf f hf').1, fun j hj => (h2 j).trans ((hf f hf').2 j hj)⟩⟩
theorem mz_wal {m ln : Nat → Int32} {w t : Int32} {n len d : Nat} {rc : Int32 → Int32 → Int32 → am_S → Option am_S} {rec : (Nat → Int32) → Int32 → (Nat → Int32) → sq_Ac → sq_Ac} (ok : sq_Ok m) (h32 : m 3 < m 2) (hd : d < 4)
    (hrc : ∀ (k : Nat) (s : am_S) (a : sq_Ac), k ≤ sq_cn m → s.1 83 = (sq_go m k).1 → s.1 82 13 = t → sq_AM s.1 len a → (∀ j, j < d + 1 → s.1 89 j = upd ln d (Int32.ofNat k) j ∧ sq_N (upd ln d (Int32.ofNat k) j) 6) → ∃ s', rc (Int32.ofNat (d + 1)) (Int32.ofNat n) (w + (sq_go m k).2) s = some s' ∧ s'.1 83 = (sq_go m k).1 ∧ sq_AM s'.1 len (rec (sq_ca (sq_d m) k).1 (w + (sq_ca (sq_d m) k).2) (upd ln d (Int32.ofNat k)) a) ∧ ix_F2 (sq_pV (d + 1)) s s') :
    ∀ (j k f : Nat) (s : am_S) (a : sq_Ac), s.1 83 = m → s.1 82 13 = t → sq_AM s.1 len a → (∀ q, q < d → s.1 89 q = ln q ∧ sq_N (ln q) 6) → k + j = sq_cn m + 1 → j < f → ∃ s', F_X12_plans_82_b22 rc f (Int32.ofNat d) (Int32.ofNat n) w (Int32.ofNat k) s = some s' ∧ s'.1 83 = m ∧ sq_AM s'.1 len (sq_wal rec (sq_d m) w ln d j k a) ∧ ix_F2 (sq_pV d) s s' := by
  obtain ⟨hc, h0⟩ := sq_cn_ok ok
  have hi4 : am_in (Int32.ofNat d) 4 := (ix_in (by omega)).mpr hd
  have hnd : (Int32.ofNat d).toNatClampNeg = d := ix_nat (by omega)
  intro j
  induction j with
  | zero =>
    intro k f s a h83 h13 hA hl hk hf
    obtain ⟨f, rfl⟩ : ∃ g, f = g + 1 := ⟨f - 1, by omega⟩
    have e0 : s.1 83 (0 : Int32).toNatClampNeg = Int32.ofNat (sq_cn m) := by rw [h83]; exact h0
    refine ⟨s, ?_, h83, hA, ix_F2.rf⟩
    rw [F_X12_plans_82_b22, if_pos ix_k0, e0, if_pos (by rw [ix_lt (by omega) (by omega)]; omega)]
  | succ j ih =>
    intro k f s a h83 h13 hA hl hk hf
    obtain ⟨f, rfl⟩ : ∃ g, f = g + 1 := ⟨f - 1, by omega⟩
    have hkc : k ≤ sq_cn m := by omega
    have e0 : s.1 83 (0 : Int32).toNatClampNeg = Int32.ofNat (sq_cn m) := by rw [h83]; exact h0
    obtain ⟨s1, a1, a2, a3⟩ := mz_saves hd s
    rw [h83] at a2
    have h831 : s1.1 83 = m := (funext fun q => a3.1 83 q (by rfl)).trans h83
    obtain ⟨s2, e2⟩ : ∃ s2, s2 = am_sI s1 89 d (Int32.ofNat k) := ⟨_, rfl⟩
    have h832 : s2.1 83 = m := by rw [e2, ix_83 (by decide)]; exact h831
    obtain ⟨s3, g1, g2, g3⟩ := mz_goes (s := s2) (a := k) (by rw [h832]; exact ok) (by rw [h832]; exact sq_lt16 ok h32) (by rw [h832]; exact hkc)
    rw [h832] at g1 g2
    have f1 : ix_F2 (sq_pV d) s s1 := a3.wd (fun k j hk => by unfold sq_pV at hk; simp at hk ⊢; omega)
    have f2 : ix_F2 (sq_pV d) s1 s2 := by rw [e2]; exact ix_F2.I (by unfold sq_pV; simp)
    have f3 : ix_F2 (sq_pV d) s2 s3 := g3.F2 (fun k j hk => by unfold sq_pV at hk; simp at hk ⊢; omega)
    have q3 : ∀ q, q ≠ 83 → q ≠ 86 → q ≠ 88 → q ≠ 89 → s3.1 q = s.1 q := fun q h1 h2 h3 h4 => by
      rw [g3.1 q (by simp; omega), e2, ix_sIn h4]
      exact funext fun j => a3.1 q j (by simp; omega)
    obtain ⟨s4, r1, r2, r3, r4⟩ := hrc k s3 a hkc g2 (by rw [q3 82 (by omega) (by omega) (by omega) (by omega)]; exact h13) (sq_AM_fr (fun j _ => by rw [q3 82 (by omega) (by omega) (by omega) (by omega)]) (fun j => by rw [q3 90 (by omega) (by omega) (by omega) (by omega)]) hA) (fun q hq => by
      rw [g3.1 89 rfl, e2, ix_sI1, ix_up, a3.1 89 q rfl]
      by_cases hqd : q = d
      · rw [if_pos hqd, if_pos hqd]; exact ⟨rfl, k, by omega, rfl⟩
      · rw [if_neg hqd, if_neg hqd]; exact hl q (by omega))
    obtain ⟨k1, k2, -⟩ := sq_go_ok (a := k) ok h32
    have hsv : sq_sv (s4.1 88) d m := by
      have hq : ∀ q, q < 14 * d + 14 → s4.1 88 q = s1.1 88 q := fun q hq => by
        rw [r4.1 88 q (by unfold sq_pV; simp; omega), g3.1 88 rfl, e2, ix_sIn (by decide)]
      obtain ⟨b1, b2, b3⟩ := a2
      exact ⟨fun v hv => by rw [hq _ (by omega), hq _ (by omega)]; exact b1 v hv, by rw [hq _ (by omega)]; exact b2, by rw [hq _ (by omega)]; exact b3⟩
    obtain ⟨s5, t1, t2, t3⟩ := mz_takes (s := s4) hd hsv (fun q hq => by rw [r2]; exact k2 q hq)
    have f5 : ix_F2 (sq_pV d) s s5 := (((f1.tr f2).tr f3).tr (r4.wd (fun k j hk => sq_pV_le (by omega) hk))).tr (t3.F2 (fun k j hk => by unfold sq_pV at hk; simp at hk ⊢; omega))
    obtain ⟨s', i1, i2, i3, i4⟩ := ih (k + 1) f s5 _ t2 (by rw [f5.1 82 13 (by unfold sq_pV; simp)]; exact h13) (sq_AM_fr (fun j _ => by rw [t3.1 82 rfl]) (fun j => by rw [t3.1 90 rfl]) r3) (fun q hq => by rw [f5.1 89 q (by unfold sq_pV; simp; omega)]; exact hl q hq) (by omega) (by omega)
    refine ⟨s', ?_, i2, i3, f5.tr i4⟩
    rw [F_X12_plans_82_b22, if_pos ix_k0, e0, if_neg (by rw [ix_lt (by omega) (by omega)]; omega), a1, ix_b1, if_pos hi4, hnd, ix_b1, ← e2, g1, ix_b1, ix_addL]
    dsimp only
    rw [r1, ix_b1, t1, ix_b1, ix_addL, i1]
theorem mz_wa {t : Int32} {n len : Nat} (hlen : len ≤ 4) (hn4 : n ≤ 4) : ∀ (l d g : Nat) (s : am_S) (m : Nat → Int32) (w : Int32) (ln : Nat → Int32) (a : sq_Ac), s.1 83 = m → sq_Ok m → d + l = len → d ≤ n → l = min (n - d) ((m 2).toNatClampNeg - sq_tn m) → s.1 82 13 = t → sq_AM s.1 len a → (∀ j, j < d → s.1 89 j = ln j ∧ sq_N (ln j) 6) → l < g → ∃ s', F_X12_plans_82 g (Int32.ofNat d) (Int32.ofNat n) w s = some s' ∧ s'.1 83 = m ∧ sq_AM s'.1 len (sq_wa t len l d m w ln a) ∧ ix_F2 (sq_pV d) s s' := by
  intro l
  induction l with
  | zero =>
    intro d g s m w ln a h83 ok hd hdn hl h13 hA hln hg
    obtain ⟨g, rfl⟩ : ∃ g', g = g' + 1 := ⟨g - 1, by omega⟩
    have hdl : d = len := by omega
    subst hdl
    subst h83
    obtain ⟨-, ⟨t0, e, t1, t2, t3, t4, t5⟩, -⟩ := id ok
    have ht0 : sq_tn (s.1 83) = t0 := by unfold sq_tn; rw [t4, ix_nat (by omega)]
    have h2 : (s.1 83 2).toNatClampNeg = e := by rw [t5, ix_nat (by omega)]
    obtain ⟨s', b1, b2, b3⟩ := mz_ended (w := w) ok h13 hlen hA hln
    have f3 : ix_F2 (sq_pV d) s s' := b3.wd (fun k j hk => by unfold sq_pV at hk; simp at hk ⊢; omega)
    refine ⟨s', ?_, funext fun j => b3.1 83 j rfl, b2, f3⟩
    have hb : F_X12_plans_82_b12 (F_X12_plans_82 g) (Int32.ofNat d) w s = some s' := by rw [F_X12_plans_82_b12, b1]; rfl
    rw [F_X12_plans_82, F_X12_plans_82_o]
    by_cases hdn2 : d = n
    · rw [if_pos (by rw [ix_eq (by omega) (by omega)]; exact hdn2), hb]
    · have h32 : ¬ s.1 83 3 < s.1 83 2 := by rw [t4, t5, ix_lt (by omega) (by omega)]; omega
      rw [if_neg (by rw [ix_eq (by omega) (by omega)]; exact hdn2), mz_over, if_neg h32, ix_b1, if_neg (show ¬ (1 : Int32) = 0 by decide), hb]
  | succ l ih =>
    intro d g s m w ln a h83 ok hd hdn hl h13 hA hln hg
    obtain ⟨g, rfl⟩ : ∃ g', g = g' + 1 := ⟨g - 1, by omega⟩
    obtain ⟨-, ⟨t0, e, t1, t2, t3, t4, t5⟩, -⟩ := id ok
    have ht0 : sq_tn m = t0 := by unfold sq_tn; rw [t4, ix_nat (by omega)]
    have h2 : (m 2).toNatClampNeg = e := by rw [t5, ix_nat (by omega)]
    have h32 : m 3 < m 2 := by rw [t4, t5, ix_lt (by omega) (by omega)]; omega
    obtain ⟨s', i1, i2, i3, i4⟩ := mz_wal (ln := ln) (w := w) (t := t) (n := n) (len := len) (rc := F_X12_plans_82 g) (rec := fun m1 w1 ln1 a1 => sq_wa t len l (d + 1) m1 w1 ln1 a1) ok h32 (show d < 4 by omega) (fun k u a' hk u83 u13 uA ul => by
      obtain ⟨c1, c2, c3, -⟩ := sq_go_ok (a := k) ok h32
      have e2 : (sq_go m k).1 2 = m 2 := c2 2 (by unfold sq_ch; omega)
      have e3 : sq_tn (sq_go m k).1 = t0 + 1 := by unfold sq_tn; rw [c3, t4, ix_addL, ix_nat (by omega)]
      exact ih (d + 1) g u _ _ _ a' u83 c1 (by omega) (by omega) (by rw [e2, e3, h2]; omega) u13 uA ul (by omega)) (sq_cn m + 1) 0 1000 s a h83 h13 hA hln (by omega) (by have := (sq_cn_ok ok).1; omega)
    refine ⟨s', ?_, i2, i3, i4⟩
    rw [F_X12_plans_82, F_X12_plans_82_o, if_neg (by rw [ix_eq (by omega) (by omega)]; omega), mz_over, h83, if_pos h32, ix_b1, if_pos rfl]
    exact i1
/-- how long plans of n are -/
def sq_pl (m : Nat → Int32) (n : Nat) : Nat := min n ((m 2).toNatClampNeg - sq_tn m)
def sq_A (m : Nat → Int32) (n : Nat) (t : Int32) : sq_Ac := sq_wa t (sq_pl m n) (sq_pl m n) 0 m 0 (fun _ => 0) (-1, 0, 5, 0, none)
theorem sq_A_go {m : Nat → Int32} {n : Nat} {t : Int32} (ok : sq_Ok m) (hn : n ≤ 4) : ∃ f, (sq_A m n t).2.2.2.2 = some f := by
  obtain ⟨-, ⟨t0, e, t1, t2, t3, t4, t5⟩, -⟩ := id ok
  have ht0 : sq_tn m = t0 := by unfold sq_tn; rw [t4, ix_nat (by omega)]
  have h2 : (m 2).toNatClampNeg = e := by rw [t5, ix_nat (by omega)]
  have h := sq_wa_go (t := t) (len := sq_pl m n) (sq_pl m n) 0 0 m (fun _ => 0) (-1, 0, 5, 0, none) ok (by unfold sq_pl; omega) (by unfold sq_pl; omega) (Or.inr rfl)
  have h' : (sq_A m n t).2.2.2.2 ≠ none := h
  cases hA : (sq_A m n t).2.2.2.2 with
  | none => exact absurd hA h'
  | some f => exact ⟨f, rfl⟩
theorem sq_plen : ∀ n, n ≤ 4 → ∀ e, e ≤ 16 → ∀ t, t ≤ e → (if (0 : Int32) < (if (Int32.ofNat e - Int32.ofNat t) < (if (4 : Int32) < Int32.ofNat n then (4 : Int32) else Int32.ofNat n) then (Int32.ofNat e - Int32.ofNat t) else (if (4 : Int32) < Int32.ofNat n then (4 : Int32) else Int32.ofNat n)) then (if (Int32.ofNat e - Int32.ofNat t) < (if (4 : Int32) < Int32.ofNat n then (4 : Int32) else Int32.ofNat n) then (Int32.ofNat e - Int32.ofNat t) else (if (4 : Int32) < Int32.ofNat n then (4 : Int32) else Int32.ofNat n)) else (0 : Int32)) = Int32.ofNat (min n (e - t)) := by decide +kernel
theorem cz_plen {s : am_S} {m : Nat → Int32} {n : Nat} (R : sq_R s.1 8 m) (ok : sq_Ok m) (hn : n ≤ 4) : F_X3_planLength_50 (Int32.ofNat n) s = some (Int32.ofNat (sq_pl m n), s) := by
  obtain ⟨-, ⟨t0, e, t1, t2, t3, t4, t5⟩, -⟩ := id ok
  have ht0 : sq_tn m = t0 := by unfold sq_tn; rw [t4, ix_nat (by omega)]
  have h2 : (m 2).toNatClampNeg = e := by rw [t5, ix_nat (by omega)]
  unfold F_X3_planLength_50 sq_pl
  rw [R.1, R.2.1, t4, t5, sq_plen n hn e t3 t0 t1, ht0, ix_nat (by omega)]
theorem cz_search {s : am_S} {m : Nat → Int32} {n : Nat} {t : Int32} (R : sq_R s.1 8 m) (ok : sq_Ok m) (hn : n ≤ 4) : ∃ s', F_X3_search_50 (Int32.ofNat n) t s = some s' ∧ sq_R s'.1 8 m ∧ sq_AC s'.1 (sq_pl m n) (sq_A m n t) ∧ s'.1 50 5 = Int32.ofNat (sq_pl m n) ∧ ix_F2 (fun k j => sq_pW 0 k j || (k == 50 && (j == 5 || j == 6))) s s' := by
  obtain ⟨-, ⟨t0, e, t1, t2, t3, t4, t5⟩, -⟩ := id ok
  have ht0 : sq_tn m = t0 := by unfold sq_tn; rw [t4, ix_nat (by omega)]
  have h2 : (m 2).toNatClampNeg = e := by rw [t5, ix_nat (by omega)]
  obtain ⟨u, eu⟩ : ∃ u, u = am_sI (am_sI (am_sI (am_sI (am_sI (am_sI s 50 5 (Int32.ofNat (sq_pl m n))) 50 6 t) 50 8 (-1)) 50 9 0) 50 10 (-3)) 50 11 0 := ⟨_, rfl⟩
  have fu : ix_F2 (fun k j => sq_pW 0 k j || (k == 50 && (j == 5 || j == 6))) s u := by
    rw [eu]; exact (((((ix_F2.I (by rfl)).tr (ix_F2.I (by rfl))).tr (ix_F2.I (by rfl))).tr (ix_F2.I (by rfl))).tr (ix_F2.I (by rfl))).tr (ix_F2.I (by rfl))
  have gu : ∀ q, q ≠ 50 → u.1 q = s.1 q := fun q hq => by rw [eu, ix_sIn hq, ix_sIn hq, ix_sIn hq, ix_sIn hq, ix_sIn hq, ix_sIn hq]
  have h5u : u.1 50 5 = Int32.ofNat (sq_pl m n) := by rw [eu, ix_sIj (by omega), ix_sIj (by omega), ix_sIj (by omega), ix_sIj (by omega), ix_sIj (by omega), ix_sIs]
  obtain ⟨s', i1, i2, i3, i4⟩ := cz_wa (t := t) (len := sq_pl m n) (by unfold sq_pl; omega) (sq_pl m n) 0 10 u m 0 (fun _ => 0) (-1, 0, 5, 0, none) (sq_R_fr (fun q h1 h2 => gu q (by omega)) R) ok (by omega) (by unfold sq_pl; omega) h5u (by rw [eu, ix_sIj (by omega), ix_sIj (by omega), ix_sIj (by omega), ix_sIj (by omega), ix_sIs]) ⟨by rw [eu, ix_sIj (by omega), ix_sIj (by omega), ix_sIj (by omega), ix_sIs], by rw [eu, ix_sIj (by omega), ix_sIj (by omega), ix_sIs], by show 5 ≤ 5; omega, by rw [eu, ix_sIj (by omega), ix_sIs]; rfl, by show 0 < 64; omega, by rw [eu, ix_sIs]; rfl, fun f hf => by cases hf⟩ (fun j hj => by omega) (by unfold sq_pl; omega)
  refine ⟨s', ?_, i2, i3, by rw [i4.1 50 5 (by rfl)]; exact h5u, fu.tr (i4.wd (fun k j hk => by simp at hk; exact hk.1))⟩
  unfold F_X3_search_50
  rw [cz_plen R ok hn, ix_b1, ix_b1, ix_b1, ix_b1, ix_b1, ix_b1, ix_b1]
  dsimp only
  rw [← eu]
  have i1' : F_X3_walk_50 10 0 0 0 u = some s' := i1
  rw [i1', ix_b1]
theorem mz_plans {s : am_S} {n : Nat} {t : Int32} (ok : sq_Ok (s.1 83)) (hn : n ≤ 4) : ∃ s', F_X12_plansOf_82 (Int32.ofNat n) t s = some (Int32.ofNat (sq_pl (s.1 83) n), s') ∧ s'.1 83 = s.1 83 ∧ sq_AM s'.1 (sq_pl (s.1 83) n) (sq_A (s.1 83) n t) ∧ ix_F2 (fun k j => sq_pV 0 k j || (k == 82 && j == 13)) s s' := by
  obtain ⟨u, eu⟩ : ∃ u, u = am_sI (am_sI (am_sI (am_sI (am_sI s 82 9 (-1)) 82 10 0) 82 11 5) 82 12 0) 82 13 t := ⟨_, rfl⟩
  have fu : ix_F2 (fun k j => sq_pV 0 k j || (k == 82 && j == 13)) s u := by
    rw [eu]; exact ((((ix_F2.I (by rfl)).tr (ix_F2.I (by rfl))).tr (ix_F2.I (by rfl))).tr (ix_F2.I (by rfl))).tr (ix_F2.I (by rfl))
  have h83 : u.1 83 = s.1 83 := by rw [eu, ix_83 (by decide), ix_83 (by decide), ix_83 (by decide), ix_83 (by decide), ix_83 (by decide)]
  obtain ⟨s', i1, i2, i3, i4⟩ := mz_wa (t := t) (n := n) (len := sq_pl (s.1 83) n) (by unfold sq_pl; omega) hn (sq_pl (s.1 83) n) 0 10 u (s.1 83) 0 (fun _ => 0) (-1, 0, 5, 0, none) h83 ok (by omega) (by omega) (by unfold sq_pl; rfl) (by rw [eu, ix_sIs]) ⟨by rw [eu, ix_sIj (by omega), ix_sIj (by omega), ix_sIj (by omega), ix_sIj (by omega), ix_sIs], by rw [eu, ix_sIj (by omega), ix_sIj (by omega), ix_sIj (by omega), ix_sIs], by show 5 ≤ 5; omega, by rw [eu, ix_sIj (by omega), ix_sIj (by omega), ix_sIs]; rfl, by show 0 < 64; omega, by rw [eu, ix_sIj (by omega), ix_sIs]; rfl, fun f hf => by cases hf⟩ (fun j hj => by omega) (by unfold sq_pl; omega)
  obtain ⟨f, hf⟩ := sq_A_go (t := t) ok hn
  refine ⟨s', ?_, i2, i3, fu.tr (i4.wd (fun k j hk => by simp at hk; exact hk.1))⟩
  unfold F_X12_plansOf_82
  rw [ix_b1, ix_b1, ix_b1, ix_b1, ix_b1, ← eu]
  have i1' : F_X12_plans_82 10 0 (Int32.ofNat n) 0 u = some s' := i1
  rw [i1', ix_b1, (i3.2.2.2.2.2.2 f hf).1]
theorem jz_pl {s s1 s2 : am_S} {m : Nat → Int32} (j : jz_J s) (R1 : sq_R s1.1 8 m) (f1 : ix_F2 (fun k j => sq_pW 0 k j || (k == 50 && (j == 5 || j == 6))) s s1) (f2 : ix_F2 (fun k j => sq_pV 0 k j || (k == 82 && j == 13)) s1 s2) (h83 : s2.1 83 = m) (ok : sq_Ok m) : jz_J s2 := by
  refine jz_fin j R1 (f1.wd (fun k j hk => ?_)) (f2.wd (fun k j hk => ?_)) (fun k h1 h2 => funext fun q => f2.1 k q ?_) h83 ok
  · unfold sq_pS at hk; unfold sq_pW; simp at hk ⊢; omega
  · unfold sq_pS at hk; unfold sq_pV; simp at hk ⊢; omega
  · unfold sq_pV; simp; omega
/-- the search and the plans, one behind the other -/
theorem jz_both {s : am_S} {n : Nat} {t : Int32} (j : jz_J s) (hn : n ≤ 4) : ∃ s1 s2, F_X3_search_50 (Int32.ofNat n) t s = some s1 ∧ F_X12_plansOf_82 (Int32.ofNat n) t s1 = some (Int32.ofNat (sq_pl (s.1 83) n), s2) ∧ s1.1 83 = s.1 83 ∧ sq_AC s1.1 (sq_pl (s.1 83) n) (sq_A (s.1 83) n t) ∧ s1.1 50 5 = Int32.ofNat (sq_pl (s.1 83) n) ∧ sq_AM s2.1 (sq_pl (s.1 83) n) (sq_A (s.1 83) n t) ∧ jz_J s2 ∧ s2.1 83 = s.1 83 ∧ sq_R s1.1 8 (s.1 83) ∧ ix_F2 (fun k j => sq_pW 0 k j || (k == 50 && (j == 5 || j == 6))) s s1 ∧ ix_F2 (fun k j => sq_pV 0 k j || (k == 82 && j == 13)) s1 s2 := by
  obtain ⟨ok, R⟩ := j.1
  obtain ⟨s1, c1, c2, c3, c4, c5⟩ := cz_search (t := t) R ok hn
  have h83 : s1.1 83 = s.1 83 := funext fun q => c5.1 83 q (by unfold sq_pW; simp)
  obtain ⟨s2, d1, d2, d3, d4⟩ := mz_plans (s := s1) (t := t) (n := n) (by rw [h83]; exact ok) hn
  rw [h83] at d1 d2 d3
  exact ⟨s1, s2, c1, d1, h83, c3, c4, d3, jz_pl j c2 c5 d4 d2 ok, d2, c2, c5, d4⟩
