/-! LAYER 2: the model's walk over all plans -/
def sq_sv (x : Nat → Int32) (d : Nat) (m : Nat → Int32) : Prop := (∀ v, v < 6 → x (14 * d + v) = m (24 + 5 * v + 3) ∧ x (14 * d + 6 + v) = m (24 + 5 * v + 4)) ∧ x (14 * d + 12) = m 3 ∧ x (14 * d + 13) = m 4
theorem mz_savesL {d : Nat} (hd : d < 4) : ∀ (l v f : Nat) (s : am_S), v + l = 6 → l < f → (∀ u, u < v → s.1 88 (14 * d + u) = s.1 83 (24 + 5 * u + 3) ∧ s.1 88 (14 * d + 6 + u) = s.1 83 (24 + 5 * u + 4)) → ∃ s', F_X12_saves_82_b2 f (Int32.ofNat d) (Int32.ofNat v) s = some s' ∧ sq_sv (s'.1 88) d (s.1 83) ∧ ix_F2 (fun k j => k == 88 && decide (14 * d ≤ j)) s s' := by
  have ii : ∀ w, w < 70 → am_in (Int32.ofNat w) 70 := fun w hw => (ix_in (by omega)).mpr hw
  have nn : ∀ w, w < 70 → (Int32.ofNat w).toNatClampNeg = w := fun w hw => ix_nat (by omega)
  intro l
  induction l with
  | zero =>
    intro v f s hl hf hs
    obtain ⟨f, rfl⟩ : ∃ g, f = g + 1 := ⟨f - 1, by omega⟩
    have e12 : (14 : Int32) * Int32.ofNat d + 12 = Int32.ofNat (14 * d + 12) := by rw [ix_Lmul, ix_addL]
    have e13 : (14 : Int32) * Int32.ofNat d + 13 = Int32.ofNat (14 * d + 13) := by rw [ix_Lmul, ix_addL]
    have i3 : ∀ t : am_S, t.1 83 (3 : Int32).toNatClampNeg = t.1 83 3 := fun _ => rfl
    have i4 : ∀ t : am_S, t.1 83 (4 : Int32).toNatClampNeg = t.1 83 4 := fun _ => rfl
    refine ⟨am_sI (am_sI s 88 (14 * d + 12) (s.1 83 3)) 88 (14 * d + 13) (s.1 83 4), ?_, ⟨fun u hu => ?_, ?_, ?_⟩, (ix_F2.I (by simp)).tr (ix_F2.I (by simp))⟩
    · rw [F_X12_saves_82_b2, if_pos (by rw [ix_Lle (by omega) (by omega)]; omega), if_pos ix_k3, e12, e13, if_pos (ii _ (by omega)), nn _ (by omega), i3, ix_b1, if_pos ix_k4, if_pos (ii _ (by omega)), nn _ (by omega), i4, ix_83 (by decide)]
      rfl
    · rw [ix_sIj (by omega), ix_sIj (by omega), ix_sIj (by omega), ix_sIj (by omega)]
      exact hs u (by omega)
    · rw [ix_sIj (by omega), ix_sIs]
    · rw [ix_sIs]
  | succ l ih =>
    intro v f s hl hf hs
    obtain ⟨f, rfl⟩ : ∃ g, f = g + 1 := ⟨f - 1, by omega⟩
    have hv : v < 6 := by omega
    have ev : (14 : Int32) * Int32.ofNat d + Int32.ofNat v = Int32.ofNat (14 * d + v) := by rw [ix_Lmul, ix_add]
    have e6 : (14 : Int32) * Int32.ofNat d + 6 + Int32.ofNat v = Int32.ofNat (14 * d + 6 + v) := by rw [ix_Lmul, ix_addL, ix_add]
    obtain ⟨s1, e1⟩ : ∃ s1, s1 = am_sI s 88 (14 * d + v) (s.1 83 (24 + 5 * v + 3)) := ⟨_, rfl⟩
    obtain ⟨s2, e2⟩ : ∃ s2, s2 = am_sI s1 88 (14 * d + 6 + v) (s.1 83 (24 + 5 * v + 4)) := ⟨_, rfl⟩
    have h831 : s1.1 83 = s.1 83 := by rw [e1, ix_83 (by decide)]
    have h832 : s2.1 83 = s.1 83 := by rw [e2, ix_83 (by decide), h831]
    obtain ⟨s', i1, i2, i3⟩ := ih (v + 1) f s2 (by omega) (by omega) (fun u hu => by
      rw [h832]
      by_cases huv : u = v
      · subst huv
        rw [e2, ix_sIs, ix_sIj (by omega), e1, ix_sIs]
        exact ⟨rfl, rfl⟩
      · rw [e2, ix_sIj (by omega), ix_sIj (by omega), e1, ix_sIj (by omega), ix_sIj (by omega)]
        exact hs u (by omega))
    rw [h832] at i2
    refine ⟨s', ?_, i2, (((by rw [e1]; exact ix_F2.I (by simp)) : ix_F2 _ s s1).tr (by rw [e2]; exact ix_F2.I (by simp; omega))).tr i3⟩
    rw [F_X12_saves_82_b2, if_neg (by rw [ix_Lle (by omega) (by omega)]; omega), mz_its3 hv, ix_b1, ev, e6, if_pos (ii _ (by omega)), nn _ (by omega), ix_b1]
    dsimp only
    rw [← e1, mz_its4 hv, ix_b1, if_pos (ii _ (by omega)), nn _ (by omega), ix_b1, h831]
    dsimp only
    rw [← e2, ix_addL, i1]
theorem mz_saves {d : Nat} (hd : d < 4) (s : am_S) : ∃ s', F_X12_saves_82 (Int32.ofNat d) s = some s' ∧ sq_sv (s'.1 88) d (s.1 83) ∧ ix_F2 (fun k j => k == 88 && decide (14 * d ≤ j)) s s' := mz_savesL hd 6 0 1000 s (by omega) (by omega) (fun u hu => by omega)
theorem mz_takesL {d : Nat} {m : Nat → Int32} (hd : d < 4) : ∀ (l v f : Nat) (s : am_S), v + l = 6 → l < f → sq_sv (s.1 88) d m → (∀ j, ¬ sq_ch j → s.1 83 j = m j) → (∀ u, u < v → s.1 83 (24 + 5 * u + 3) = m (24 + 5 * u + 3) ∧ s.1 83 (24 + 5 * u + 4) = m (24 + 5 * u + 4)) → ∃ s', F_X12_takesBack_82_b2 f (Int32.ofNat d) (Int32.ofNat v) s = some s' ∧ s'.1 83 = m ∧ ix_Fr (fun k => k == 83) s s' := by
  have ii : ∀ w, w < 70 → am_in (Int32.ofNat w) 70 := fun w hw => (ix_in (by omega)).mpr hw
  have nn : ∀ w, w < 70 → (Int32.ofNat w).toNatClampNeg = w := fun w hw => ix_nat (by omega)
  have jj : ∀ w, w < 296 → am_in (Int32.ofNat w) 296 := fun w hw => (ix_in (by omega)).mpr hw
  have n2 : ∀ w, w < 296 → (Int32.ofNat w).toNatClampNeg = w := fun w hw => ix_nat (by omega)
  intro l
  induction l with
  | zero =>
    intro v f s hl hf hsv hm hs
    obtain ⟨f, rfl⟩ : ∃ g, f = g + 1 := ⟨f - 1, by omega⟩
    have e12 : (14 : Int32) * Int32.ofNat d + 12 = Int32.ofNat (14 * d + 12) := by rw [ix_Lmul, ix_addL]
    have e13 : (14 : Int32) * Int32.ofNat d + 13 = Int32.ofNat (14 * d + 13) := by rw [ix_Lmul, ix_addL]
    have n3 : (3 : Int32).toNatClampNeg = 3 := rfl
    have n4 : (4 : Int32).toNatClampNeg = 4 := rfl
    refine ⟨am_sI (am_sI s 83 3 (m 3)) 83 4 (m 4), ?_, ?_, (ix_Fr.I (by rfl)).tr (ix_Fr.I (by rfl))⟩
    · rw [F_X12_takesBack_82_b2, if_pos (by rw [ix_Lle (by omega) (by omega)]; omega), e12, e13, if_pos (ii _ (by omega)), if_pos ix_k3, nn _ (by omega), n3, hsv.2.1, ix_b1, if_pos (ii _ (by omega)), if_pos ix_k4, nn _ (by omega), n4, ix_sIn (k := 83) (k1 := 88) (by decide), hsv.2.2]
      rfl
    · funext j
      rw [ix_sIf, ix_sIf, ix_up, ix_up]
      by_cases h4 : j = 4
      · subst h4; rw [if_pos rfl]
      · rw [if_neg h4]
        by_cases h3 : j = 3
        · subst h3; rw [if_pos rfl]
        · rw [if_neg h3]
          by_cases hc : sq_ch j
          · unfold sq_ch at hc
            rcases hc with ⟨h1, h2, h5⟩ | h | h
            · rcases h5 with h5 | h5
              · have e : j = 24 + 5 * ((j - 27) / 5) + 3 := by omega
                rw [e]; exact (hs _ (by omega)).1
              · have e : j = 24 + 5 * ((j - 28) / 5) + 4 := by omega
                rw [e]; exact (hs _ (by omega)).2
            · exact absurd h h3
            · exact absurd h h4
          · exact hm j hc
  | succ l ih =>
    intro v f s hl hf hsv hm hs
    obtain ⟨f, rfl⟩ : ∃ g, f = g + 1 := ⟨f - 1, by omega⟩
    have hv : v < 6 := by omega
    have ev : (14 : Int32) * Int32.ofNat d + Int32.ofNat v = Int32.ofNat (14 * d + v) := by rw [ix_Lmul, ix_add]
    have e6 : (14 : Int32) * Int32.ofNat d + 6 + Int32.ofNat v = Int32.ofNat (14 * d + 6 + v) := by rw [ix_Lmul, ix_addL, ix_add]
    have a3 : ∀ t, F_X12_at (Int32.ofNat v) 3 t = some (Int32.ofNat (24 + 5 * v + 3), t) := fun t => mz_at (w := 3)
    have a4 : ∀ t, F_X12_at (Int32.ofNat v) 4 t = some (Int32.ofNat (24 + 5 * v + 4), t) := fun t => mz_at (w := 4)
    obtain ⟨q0, q1⟩ := hsv.1 v hv
    obtain ⟨s1, e1⟩ : ∃ s1, s1 = am_sI s 83 (24 + 5 * v + 3) (m (24 + 5 * v + 3)) := ⟨_, rfl⟩
    obtain ⟨s2, e2⟩ : ∃ s2, s2 = am_sI s1 83 (24 + 5 * v + 4) (m (24 + 5 * v + 4)) := ⟨_, rfl⟩
    have h881 : s1.1 88 = s.1 88 := by rw [e1, ix_sIn (by decide)]
    have h882 : s2.1 88 = s.1 88 := by rw [e2, ix_sIn (by decide), h881]
    obtain ⟨s', i1, i2, i3⟩ := ih (v + 1) f s2 (by omega) (by omega) (by rw [h882]; exact hsv) (fun j hj => by
      unfold sq_ch at hj
      rw [e2, ix_sIj (by omega), e1, ix_sIj (by omega)]
      exact hm j (by unfold sq_ch; omega)) (fun u hu => by
      by_cases huv : u = v
      · subst huv
        rw [e2, ix_sIs, ix_sIj (by omega), e1, ix_sIs]
        exact ⟨rfl, rfl⟩
      · rw [e2, ix_sIj (by omega), ix_sIj (by omega), e1, ix_sIj (by omega), ix_sIj (by omega)]
        exact hs u (by omega))
    refine ⟨s', ?_, i2, (((by rw [e1]; exact ix_Fr.I (by rfl)) : ix_Fr _ s s1).tr (by rw [e2]; exact ix_Fr.I (by rfl))).tr i3⟩
    rw [F_X12_takesBack_82_b2, if_neg (by rw [ix_Lle (by omega) (by omega)]; omega), a3, ix_b1, ev, e6, if_pos (ii _ (by omega)), if_pos (jj _ (by omega)), nn _ (by omega), n2 _ (by omega)]
    dsimp only
    rw [q0, ix_b1, ← e1, a4, ix_b1, if_pos (ii _ (by omega)), if_pos (jj _ (by omega)), nn _ (by omega), n2 _ (by omega)]
    dsimp only
    rw [h881, q1, ix_b1, ← e2, ix_addL, i1]
theorem mz_takes {d : Nat} {m : Nat → Int32} {s : am_S} (hd : d < 4) (hsv : sq_sv (s.1 88) d m) (hm : ∀ j, ¬ sq_ch j → s.1 83 j = m j) : ∃ s', F_X12_takesBack_82 (Int32.ofNat d) s = some s' ∧ s'.1 83 = m ∧ ix_Fr (fun k => k == 83) s s' := mz_takesL hd 6 0 1000 s (by omega) (by omega) hsv hm (fun u hu => by omega)
/-- what the model's walk from a depth on may touch -/
def sq_pV (d k j : Nat) : Bool := k == 83 || k == 86 || (k == 88 && decide (14 * d ≤ j)) || (k == 89 && decide (d ≤ j)) || k == 90 || (k == 82 && ((9 ≤ j && j < 13) || j == 14))
theorem sq_pV_le {d e k j : Nat} (h : d ≤ e) (hk : sq_pV d k j = false) : sq_pV e k j = false := by
  unfold sq_pV at hk ⊢; simp at hk ⊢; omega
/-- the acts that aren't 0 are counted, and what is caught is weighed -/
theorem mz_count {t : Int32} {w : Int32} {len : Nat} {ln : Nat → Int32} (hl : len ≤ 4) : ∀ (l k f : Nat) (s : am_S) (mo wy : Int32) (few ev : Nat) (fi : Option (Nat → Int32)), sq_Ok (s.1 83) → (∀ j, j < len → s.1 89 j = ln j ∧ sq_N (ln j) 6) → k + l = len → l < f → s.1 82 13 = t → sq_AM s.1 len (mo, wy, few, ev, fi) → ∃ s', F_X12_ended_82_b75 f (Int32.ofNat len) w (Int32.ofNat (sq_ct ln k)) (Int32.ofNat k) s = some s' ∧ sq_AM s'.1 len (mo, wy, (if (t &&& (Int32.ofNat (sq_cs (s.1 83)) ^^^ (-1 : Int32))) = 0 then (if sq_ct ln len < few then sq_ct ln len else few) else few), ev ||| sq_cs (s.1 83), fi) ∧ ix_F2 (fun k j => k == 82 && (9 ≤ j && j < 13)) s s' := by
  intro l
  induction l with
  | zero =>
    intro k f s mo wy few ev fi ok hln hk hf ht hA
    obtain ⟨f, rfl⟩ : ∃ g, f = g + 1 := ⟨f - 1, by omega⟩
    have hkl : k = len := by omega
    subst hkl
    obtain ⟨h8, h9, h5, h10, h64, h11, hfi⟩ := hA
    have hct := sq_ct_le ln k
    have h5' : few ≤ 5 := h5
    obtain ⟨o1, o2⟩ := sq_or64 ev h64 (sq_cs (s.1 83)) (sq_cs_lt _)
    obtain ⟨s1, e1⟩ : ∃ s1, s1 = am_sI s 82 12 (Int32.ofNat (ev ||| sq_cs (s.1 83))) := ⟨_, rfl⟩
    have q13 : s1.1 82 13 = t := by rw [e1, ix_sIj (by omega)]; exact ht
    have q11 : s1.1 82 11 = Int32.ofNat few := by rw [e1, ix_sIj (by omega)]; exact h10
    -- whatever few becomes
    have hw : ∀ x : Nat, x ≤ 5 → sq_AM (am_sI s1 82 11 (Int32.ofNat x)).1 k (mo, wy, x, ev ||| sq_cs (s.1 83), fi) ∧ ix_F2 (fun k j => k == 82 && (9 ≤ j && j < 13)) s (am_sI s1 82 11 (Int32.ofNat x)) := fun x hx => by
      refine ⟨⟨by rw [ix_sIj (by omega), e1, ix_sIj (by omega)]; exact h8, by rw [ix_sIj (by omega), e1, ix_sIj (by omega)]; exact h9, hx, by rw [ix_sIs], o2, by rw [ix_sIj (by omega), e1, ix_sIs], fun f hf => ⟨by rw [ix_sIj (by omega), e1, ix_sIj (by omega)]; exact (hfi f hf).1, fun j hj => by rw [ix_sIj (by omega), e1, ix_sIj (by omega)]; exact (hfi f hf).2 j hj⟩⟩, ?_⟩
      exact ((by rw [e1]; exact ix_F2.I (by rfl)) : ix_F2 _ s s1).tr (ix_F2.I (by rfl))
    have h11' : s.1 82 12 = Int32.ofNat ev := h11
    rw [F_X12_ended_82_b75, if_pos (by rw [ix_le (by omega) (by omega)]; omega), mz_caught ok, ix_b1]
    dsimp only
    rw [h11', o1, ix_b1, ← e1, q13, q11]
    by_cases ha : (t &&& (Int32.ofNat (sq_cs (s.1 83)) ^^^ (-1 : Int32))) = 0
    · rw [if_pos ha, if_pos ha]
      by_cases hle : few ≤ sq_ct ln k
      · rw [if_pos ((ix_le (by omega) (by omega)).mpr hle), if_neg (show ¬ sq_ct ln k < few by omega)]
        exact ⟨_, rfl, hw few h5⟩
      · rw [if_neg (by rw [ix_le (by omega) (by omega)]; exact hle), if_pos (show sq_ct ln k < few by omega)]
        exact ⟨_, rfl, hw _ (by omega)⟩
    · rw [if_neg ha, if_neg ha]
      exact ⟨_, rfl, hw few h5⟩
  | succ l ih =>
    intro k f s mo wy few ev fi ok hln hk hf ht hA
    obtain ⟨f, rfl⟩ : ∃ g, f = g + 1 := ⟨f - 1, by omega⟩
    obtain ⟨e89, ⟨n, hn, en⟩⟩ := hln k (by omega)
    rw [F_X12_ended_82_b75, if_neg (by rw [ix_le (by omega) (by omega)]; omega), if_pos ((ix_in (by omega)).mpr (by omega)), ix_nat (by omega), e89, F_X12_ended_82_b97, F_X12_ended_82_b97, ix_addL, ix_addL, ix_addL, Nat.add_zero]
    have hi := ih (k + 1) f s mo wy few ev fi ok hln (by omega) (by omega) ht hA
    have hs : sq_ct ln (k + 1) = sq_ct ln k + (if ln k = 0 then 0 else 1) := rfl
    rw [hs, en] at hi
    rw [en]
    by_cases h0 : n = 0
    · subst h0
      rw [if_pos (by decide)]
      rw [if_pos (by decide)] at hi
      exact hi
    · rw [if_neg (by rw [ix_leL (by omega) (by omega)]; omega)]
      rw [if_neg (by rw [ix_eqL (by omega) (by omega)]; exact h0)] at hi
      exact hi
theorem mz_firstL {len : Nat} {w : Int32} (hl : len ≤ 4) : ∀ (l k f : Nat) (s : am_S), k + l = len → l < f → (∀ j, j < k → s.1 90 j = s.1 89 j) → ∃ s', F_X12_ended_82_b25 f (Int32.ofNat len) w (Int32.ofNat k) s = F_X12_ended_82_b48 (Int32.ofNat len) w s' ∧ (∀ j, j < len → s'.1 90 j = s.1 89 j) ∧ ix_Fr (fun k => k == 90) s s' := by
  intro l
  induction l with
  | zero =>
    intro k f s hk hf hs
    obtain ⟨f, rfl⟩ : ∃ g, f = g + 1 := ⟨f - 1, by omega⟩
    refine ⟨s, ?_, fun j hj => hs j (by omega), ix_Fr.rf⟩
    rw [F_X12_ended_82_b25, if_pos (by rw [ix_le (by omega) (by omega)]; omega)]
  | succ l ih =>
    intro k f s hk hf hs
    obtain ⟨f, rfl⟩ : ∃ g, f = g + 1 := ⟨f - 1, by omega⟩
    have hi : am_in (Int32.ofNat k) 4 := (ix_in (by omega)).mpr (by omega)
    have h89 : (am_sI s 90 k (s.1 89 k)).1 89 = s.1 89 := ix_sIn (by decide)
    obtain ⟨s', i1, i2, i3⟩ := ih (k + 1) f (am_sI s 90 k (s.1 89 k)) (by omega) (by omega) (fun j hj => by
      rw [h89, ix_sI1]
      by_cases h : j = k
      · rw [if_pos h, h]
      · rw [if_neg h]; exact hs j (by omega))
    refine ⟨s', ?_, fun j hj => by rw [i2 j hj, h89], (ix_Fr.I (by rfl)).tr i3⟩
    rw [F_X12_ended_82_b25, if_neg (by rw [ix_le (by omega) (by omega)]; omega), if_pos hi, if_pos hi, ix_nat (by omega), ix_b1, ix_addL, i1]
theorem mz_ended {s : am_S} {t w : Int32} {len : Nat} {ln : Nat → Int32} {a : sq_Ac} (ok : sq_Ok (s.1 83)) (ht : s.1 82 13 = t) (hl : len ≤ 4) (hA : sq_AM s.1 len a) (hln : ∀ j, j < len → s.1 89 j = ln j ∧ sq_N (ln j) 6) : ∃ s', F_X12_ended_82 (Int32.ofNat len) w s = some s' ∧ sq_AM s'.1 len (sq_we t len (s.1 83) w ln a) ∧ ix_F2 (fun k j => k == 90 || (k == 82 && ((9 ≤ j && j < 13) || j == 14))) s s' := by
  obtain ⟨h8, h9, h5, h10, h64, h11, hf⟩ := hA
  -- from the count of the best on
  have hmid : ∀ (u : am_S) (mo wy : Int32) (fi : Option (Nat → Int32)), u.1 83 = s.1 83 → (∀ j, u.1 89 j = s.1 89 j) → u.1 82 13 = t → u.1 82 9 = mo → u.1 82 10 = wy → u.1 82 11 = s.1 82 11 → u.1 82 12 = s.1 82 12 → (∀ f, fi = some f → u.1 82 14 = Int32.ofNat len ∧ ∀ j, j < len → u.1 90 j = f j) → ∃ s', F_X12_ended_82_b48 (Int32.ofNat len) w u = some s' ∧ sq_AM s'.1 len (mo, (if w = mo then wy + 1 else wy), (sq_we t len (s.1 83) w ln a).2.2.1, a.2.2.2.1 ||| sq_cs (s.1 83), fi) ∧ ix_F2 (fun k j => k == 90 || (k == 82 && ((9 ≤ j && j < 13) || j == 14))) u s' := by
    intro u mo wy fi g83 g89 gt g9 g10 g11 g12 gf
    have hgo : ∀ y : Int32, ∃ s', F_X12_ended_82_b66 (Int32.ofNat len) w y (u.1 82 10) u = some s' ∧ sq_AM s'.1 len (mo, wy + y, (sq_we t len (s.1 83) w ln a).2.2.1, a.2.2.2.1 ||| sq_cs (s.1 83), fi) ∧ ix_F2 (fun k j => k == 90 || (k == 82 && ((9 ≤ j && j < 13) || j == 14))) u s' := by
      intro y
      obtain ⟨u1, e1⟩ : ∃ u1, u1 = am_sI u 82 10 (wy + y) := ⟨_, rfl⟩
      have p83 : u1.1 83 = s.1 83 := by rw [e1, ix_83 (by decide)]; exact g83
      obtain ⟨s', c1, c2, c3⟩ := mz_count (t := t) (w := w) (ln := ln) hl len 0 1000 u1 mo (wy + y) a.2.2.1 a.2.2.2.1 fi (by rw [p83]; exact ok) (fun j hj => by rw [e1, ix_sIn (by decide), g89]; exact hln j hj) (by omega) (by omega) (by rw [e1, ix_sIj (by omega)]; exact gt) ⟨by rw [e1, ix_sIj (by omega)]; exact g9, by rw [e1, ix_sIs], h5, by rw [e1, ix_sIj (by omega), g11]; exact h10, h64, by rw [e1, ix_sIj (by omega), g12]; exact h11, fun f hf => ⟨by rw [e1, ix_sIj (by omega)]; exact (gf f hf).1, fun j hj => by rw [e1, ix_sIj (by omega)]; exact (gf f hf).2 j hj⟩⟩
      rw [p83] at c2
      refine ⟨s', ?_, c2, ((by rw [e1]; exact ix_F2.I (by rfl)) : ix_F2 _ u u1).tr (c3.wd (fun k j hk => by simp at hk ⊢; omega))⟩
      have c1' : F_X12_ended_82_b75 1000 (Int32.ofNat len) w 0 0 u1 = some s' := c1
      rw [F_X12_ended_82_b66, g10, ix_b1, ← e1, c1']
    rw [F_X12_ended_82_b48, g9]
    by_cases hw : w = mo
    · rw [if_pos hw, if_pos hw]; exact hgo 1
    · rw [if_neg hw, if_neg hw]
      have := hgo 0
      rw [Int32.add_zero] at this
      exact this
  unfold F_X12_ended_82
  rw [h8]
  by_cases hw : w ≤ a.1
  · rw [if_pos hw]
    obtain ⟨s', b1, b2, b3⟩ := hmid s a.1 a.2.1 a.2.2.2.2 rfl (fun _ => rfl) ht h8 h9 rfl rfl hf
    refine ⟨s', b1, ?_, b3⟩
    have e : sq_we t len (s.1 83) w ln a = (a.1, (if w = a.1 then a.2.1 + 1 else a.2.1), (sq_we t len (s.1 83) w ln a).2.2.1, a.2.2.2.1 ||| sq_cs (s.1 83), a.2.2.2.2) := by
      unfold sq_we
      simp only [if_pos hw]
    rw [e]; exact b2
  · rw [if_neg hw, ix_b1, ix_b1, ix_b1]
    obtain ⟨u, eu⟩ : ∃ u, u = am_sI (am_sI (am_sI s 82 9 w) 82 10 0) 82 14 (Int32.ofNat len) := ⟨_, rfl⟩
    rw [← eu]
    have fu : ix_F2 (fun k j => k == 90 || (k == 82 && ((9 ≤ j && j < 13) || j == 14))) s u := by
      rw [eu]; exact ((ix_F2.I (by rfl)).tr (ix_F2.I (by rfl))).tr (ix_F2.I (by rfl))
    obtain ⟨u2, k1, k2, k3⟩ := mz_firstL (w := w) hl len 0 1000 u (by omega) (by omega) (fun j hj => by omega)
    have k1' : F_X12_ended_82_b25 1000 (Int32.ofNat len) w 0 u = _ := k1
    have k82 : u2.1 82 = u.1 82 := k3.1 82 rfl
    have u89 : ∀ j, u.1 89 j = s.1 89 j := fun j => fu.1 89 j rfl
    obtain ⟨s', b1, b2, b3⟩ := hmid u2 w 0 (some ln) (by rw [k3.1 83 rfl]; exact funext fun j => fu.1 83 j rfl) (fun j => by rw [k3.1 89 rfl]; exact u89 j) (by rw [k82, fu.1 82 13 rfl]; exact ht) (by rw [k82, eu, ix_sIj (by omega), ix_sIj (by omega), ix_sIs]) (by rw [k82, eu, ix_sIj (by omega), ix_sIs]) (by rw [k82, eu, ix_sIj (by omega), ix_sIj (by omega), ix_sIj (by omega)]) (by rw [k82, eu, ix_sIj (by omega), ix_sIj (by omega), ix_sIj (by omega)]) (fun f hf => by
      cases hf
      exact ⟨by rw [k82, eu, ix_sIs], fun j hj => by rw [k2 j hj, u89]; exact (hln j hj).1⟩)
    refine ⟨s', k1'.trans b1, ?_, (fu.tr (k3.F2 (fun k j hk => by simp at hk ⊢; omega))).tr b3⟩
    have e : sq_we t len (s.1 83) w ln a = (w, (if w = w then 0 + 1 else 0), (sq_we t len (s.1 83) w ln a).2.2.1, a.2.2.2.1 ||| sq_cs (s.1 83), some ln) := by
      unfold sq_we
      simp only [if_neg hw]
    rw [e]; exact b2
