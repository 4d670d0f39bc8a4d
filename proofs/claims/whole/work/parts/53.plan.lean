/-! LAYER 2: plans: what is found of them -/
/-- most, how many, fewest casts (5: none), ever caught, the first -/
abbrev sq_Ac : Type := Int32 × Int32 × Nat × Nat × Option (Nat → Int32)
def sq_ct (ln : Nat → Int32) : Nat → Nat
  | 0 => 0
  | d + 1 => sq_ct ln d + (if ln d = 0 then 0 else 1)
def sq_we (t : Int32) (len : Nat) (m : Nat → Int32) (w : Int32) (ln : Nat → Int32) (a : sq_Ac) : sq_Ac :=
  (if w ≤ a.1 then a.1 else w,
   (if w = (if w ≤ a.1 then a.1 else w) then (if w ≤ a.1 then a.2.1 else 0) + 1 else (if w ≤ a.1 then a.2.1 else 0)),
   (if (t &&& (Int32.ofNat (sq_cs m) ^^^ (-1 : Int32))) = 0 then (if sq_ct ln len < a.2.2.1 then sq_ct ln len else a.2.2.1) else a.2.2.1),
   a.2.2.2.1 ||| sq_cs m,
   if w ≤ a.1 then a.2.2.2.2 else some ln)
def sq_wal (rec : (Nat → Int32) → Int32 → (Nat → Int32) → sq_Ac → sq_Ac) (md : Nat → Int32) (w : Int32) (ln : Nat → Int32) (d : Nat) : Nat → Nat → sq_Ac → sq_Ac
  | 0, _, a => a
  | j + 1, k, a => sq_wal rec md w ln d j (k + 1) (rec (sq_ca md k).1 (w + (sq_ca md k).2) (upd ln d (Int32.ofNat k)) a)
def sq_wa (t : Int32) (len : Nat) : Nat → Nat → (Nat → Int32) → Int32 → (Nat → Int32) → sq_Ac → sq_Ac
  | 0, _, m, w, ln, a => sq_we t len m w ln a
  | l + 1, d, m, w, ln, a => sq_wal (fun m1 w1 ln1 a1 => sq_wa t len l (d + 1) m1 w1 ln1 a1) (sq_d m) w ln d (sq_cn m + 1) 0 a
theorem sq_ct_le (ln : Nat → Int32) : ∀ d, sq_ct ln d ≤ d := by
  intro d
  induction d with
  | zero => exact Nat.le_refl _
  | succ d ih => rw [sq_ct]; split <;> omega
theorem sq_ct_c {ln ln' : Nat → Int32} : ∀ d, (∀ j, j < d → ln' j = ln j) → sq_ct ln' d = sq_ct ln d := by
  intro d
  induction d with
  | zero => intro _; rfl
  | succ d ih => intro h; rw [sq_ct, sq_ct, ih (fun j hj => h j (by omega)), h d (by omega)]
theorem sq_ct_s {ln : Nat → Int32} {d k : Nat} (hk : k < 100) : sq_ct (upd ln d (Int32.ofNat k)) (d + 1) = sq_ct ln d + (if k = 0 then 0 else 1) := by
  rw [sq_ct, ix_ups, sq_ct_c d (fun j hj => ix_upn (by omega))]
  by_cases h : k = 0
  · subst h; rfl
  · rw [if_neg h, if_neg (by rw [ix_eqL (by omega) (by omega)]; exact h)]
/-- a first one is found -/
def sq_Go (a : sq_Ac) : Prop := a.2.2.2.2 ≠ none ∨ a.1 = -1
theorem sq_we_go {t : Int32} {len n : Nat} {m : Nat → Int32} {ln : Nat → Int32} {a : sq_Ac} (h : sq_Go a) (hn : n < 100000) : (sq_we t len m (Int32.ofNat n) ln a).2.2.2.2 ≠ none := by
  unfold sq_we
  dsimp only
  by_cases hw : Int32.ofNat n ≤ a.1
  · rw [if_pos hw]
    rcases h with h | h
    · exact h
    · rw [h] at hw
      exfalso
      rw [ix_le', ix_int (by omega)] at hw
      have e : (-1 : Int32).toInt = -1 := by decide
      rw [e] at hw; omega
  · rw [if_neg hw]; exact fun z => by cases z
theorem sq_wal_go {rec : (Nat → Int32) → Int32 → (Nat → Int32) → sq_Ac → sq_Ac} {md ln : Nat → Int32} {d n : Nat} (okd : sq_Ok md) (h32 : md 3 < md 2) (hrec : ∀ k n1 a, k ≤ 100 → n1 ≤ n + 108 → sq_Go a → (rec (sq_ca md k).1 (Int32.ofNat n1) (upd ln d (Int32.ofNat k)) a).2.2.2.2 ≠ none) : ∀ (j k : Nat) (a : sq_Ac), k + j ≤ 100 → sq_Go a → (1 ≤ j ∨ a.2.2.2.2 ≠ none) → (sq_wal rec md (Int32.ofNat n) ln d j k a).2.2.2.2 ≠ none := by
  intro j
  induction j with
  | zero => intro k a _ _ h; rcases h with h | h; · omega
            · exact h
  | succ j ih =>
    intro k a hk hg _
    rw [sq_wal]
    obtain ⟨-, -, -, w, hw, ew⟩ := sq_ca_ok (a := k) okd h32
    rw [ew, ix_add]
    have h1 := hrec k (n + w) a (by omega) (by omega) hg
    exact ih (k + 1) _ (by omega) (Or.inl h1) (Or.inr h1)
theorem sq_wa_go {t : Int32} {len : Nat} : ∀ (l d n : Nat) (m ln : Nat → Int32) (a : sq_Ac), sq_Ok m → sq_tn m + l ≤ (m 2).toNatClampNeg → n + 108 * l < 100000 → sq_Go a → (sq_wa t len l d m (Int32.ofNat n) ln a).2.2.2.2 ≠ none := by
  intro l
  induction l with
  | zero => intro d n m ln a ok _ hn hg; exact sq_we_go hg (by omega)
  | succ l ih =>
    intro d n m ln a ok ht hn hg
    obtain ⟨-, ⟨t0, e, t1, t2, t3, t4, t5⟩, -⟩ := id ok
    have ht0 : sq_tn m = t0 := by unfold sq_tn; rw [t4, ix_nat (by omega)]
    have h2 : (m 2).toNatClampNeg = e := by rw [t5, ix_nat (by omega)]
    have h32 : m 3 < m 2 := by rw [t4, t5, ix_lt (by omega) (by omega)]; omega
    have okd := sq_d_ok ok (sq_lt16 ok h32)
    have h32d := sq_d_32 ok h32
    rw [sq_wa]
    refine sq_wal_go okd h32d (fun k n1 a1 _ hn1 hg1 => ?_) _ 0 a (by have := (sq_cn_ok ok).1; omega) hg (Or.inl (by omega))
    obtain ⟨c1, c2, c3, -⟩ := sq_ca_ok (a := k) okd h32d
    refine ih (d + 1) n1 _ _ a1 c1 ?_ (by omega) hg1
    have e2 : (sq_ca (sq_d m) k).1 2 = m 2 := by rw [c2 2 (by unfold sq_ch; omega), sq_d_n ok (by omega)]
    have e3 : sq_tn (sq_ca (sq_d m) k).1 = t0 + 1 := by
      unfold sq_tn; rw [c3, sq_d_n ok (by omega), t4, ix_addL, ix_nat (by omega)]
    rw [e2, e3, h2]; omega
/-- how the class holds it -/
def sq_AC (x : Nat → Nat → Int32) (len : Nat) (a : sq_Ac) : Prop := x 50 8 = a.1 ∧ x 50 9 = a.2.1 ∧ a.2.2.1 ≤ 5 ∧ x 50 10 = (if a.2.2.1 = 5 then -3 else Int32.ofNat a.2.2.1) ∧ a.2.2.2.1 < 64 ∧ x 50 11 = Int32.ofNat a.2.2.2.1 ∧ ∀ f, a.2.2.2.2 = some f → ∀ j, j < len → x 63 j = f j
/-- how the model holds it -/
def sq_AM (x : Nat → Nat → Int32) (len : Nat) (a : sq_Ac) : Prop := x 82 9 = a.1 ∧ x 82 10 = a.2.1 ∧ a.2.2.1 ≤ 5 ∧ x 82 11 = Int32.ofNat a.2.2.1 ∧ a.2.2.2.1 < 64 ∧ x 82 12 = Int32.ofNat a.2.2.2.1 ∧ ∀ f, a.2.2.2.2 = some f → x 82 14 = Int32.ofNat len ∧ ∀ j, j < len → x 90 j = f j
theorem sq_or64 : ∀ a, a < 64 → ∀ b, b < 64 → Int32.ofNat a ||| Int32.ofNat b = Int32.ofNat (a ||| b) ∧ a ||| b < 64 := by decide +kernel
/-- what the class's walk from a depth on may touch -/
def sq_pW (d k j : Nat) : Bool := k == 8 || k == 13 || k == 23 || (53 + d ≤ k && k < 57) || (58 + d ≤ k && k < 62) || (k == 62 && decide (d ≤ j)) || k == 63 || (k == 50 && (8 ≤ j && j < 12))
theorem sq_pW_le {d e k j : Nat} (h : d ≤ e) (hk : sq_pW d k j = false) : sq_pW e k j = false := by
  unfold sq_pW at hk ⊢; simp at hk ⊢; omega
theorem ix_F2.wd {p q : Nat → Nat → Bool} {s t : am_S} (h : ix_F2 p s t) (hq : ∀ k j, q k j = false → p k j = false) : ix_F2 q s t := ⟨fun k j hk => h.1 k j (hq k j hk), h.2⟩
theorem ix_F2.C {p : Nat → Nat → Bool} {s : am_S} {a b sp dp n : Nat} (h : ∀ j, dp ≤ j → j < dp + n → p b j = true) : ix_F2 p s (am_sC s a b sp dp n) := by
  refine ⟨fun k1 j1 hk => ?_, rfl⟩
  rw [ix_sC, if_neg]
  rintro ⟨rfl, h1, h2⟩
  rw [h j1 h1 h2] at hk; cases hk
theorem ix_F2.R {p : Nat → Nat → Bool} {s t : am_S} {m : Nat → Int32} (h : ix_F2 p s t) (hp : ∀ k j, 8 ≤ k → k < 23 → p k j = false) (R : sq_R s.1 8 m) : sq_R t.1 8 m := sq_R_fr (fun k h1 h2 => funext fun j => h.1 k j (hp k j h1 h2)) R
theorem cz_weigh {s : am_S} {m : Nat → Int32} {t w : Int32} {len : Nat} {ln : Nat → Int32} {a : sq_Ac} (R : sq_R s.1 8 m) (ht : s.1 50 6 = t) (hl : len ≤ 4) (hA : sq_AC s.1 len a) (hln : ∀ j, j < len → s.1 62 j = ln j) : ∃ s', F_X3_weigh_50 w (Int32.ofNat (sq_ct ln len)) s = some s' ∧ sq_AC s'.1 len (sq_we t len m w ln a) ∧ ix_F2 (fun k j => k == 63 || (k == 50 && (8 ≤ j && j < 12))) s s' := by
  obtain ⟨h8, h9, h5, h10, h64, h11, hf⟩ := hA
  have hct := sq_ct_le ln len
  have hcs := sq_cs_lt m
  obtain ⟨o1, o2⟩ := sq_or64 a.2.2.2.1 h64 (sq_cs m) hcs
  -- the last part
  have hend : ∀ u : am_S, u.1 8 6 = Int32.ofNat (sq_cs m) → u.1 50 6 = t → u.1 50 10 = s.1 50 10 → u.1 50 11 = s.1 50 11 → ∃ s', F_X3_weigh_50_b50 (Int32.ofNat (sq_ct ln len)) u = some s' ∧ s'.1 50 8 = u.1 50 8 ∧ s'.1 50 9 = u.1 50 9 ∧ s'.1 50 10 = (if (sq_we t len m w ln a).2.2.1 = 5 then -3 else Int32.ofNat (sq_we t len m w ln a).2.2.1) ∧ s'.1 50 11 = Int32.ofNat (a.2.2.2.1 ||| sq_cs m) ∧ (∀ j, s'.1 63 j = u.1 63 j) ∧ ix_F2 (fun k j => k == 63 || (k == 50 && (8 ≤ j && j < 12))) u s' := by
    intro u g6 gt g10 g11
    obtain ⟨u1, e1⟩ : ∃ u1, u1 = am_sI u 50 11 (Int32.ofNat (a.2.2.2.1 ||| sq_cs m)) := ⟨_, rfl⟩
    have q6 : u1.1 8 6 = Int32.ofNat (sq_cs m) := by rw [e1, ix_sIj (by omega)]; exact g6
    have qt : u1.1 50 6 = t := by rw [e1, ix_sIj (by omega)]; exact gt
    have q10 : u1.1 50 10 = (if a.2.2.1 = 5 then -3 else Int32.ofNat a.2.2.1) := by rw [e1, ix_sIj (by omega), g10]; exact h10
    have f1 : ix_F2 (fun k j => k == 63 || (k == 50 && (8 ≤ j && j < 12))) u u1 := by rw [e1]; exact ix_F2.I (by rfl)
    have hb : F_X3_weigh_50_b50 (Int32.ofNat (sq_ct ln len)) u = if (t &&& (Int32.ofNat (sq_cs m) ^^^ (-1 : Int32))) = 0 then (if a.2.2.1 ≤ sq_ct ln len then some u1 else some (am_sI u1 50 10 (Int32.ofNat (sq_ct ln len)))) else some u1 := by
      rw [F_X3_weigh_50_b50, g11, h11, g6, o1, ix_b1, ← e1, qt, q6, q10]
      by_cases ha : (t &&& (Int32.ofNat (sq_cs m) ^^^ (-1 : Int32))) = 0
      · rw [if_pos ha, if_pos ha]
        by_cases h5' : a.2.2.1 = 5
        · rw [if_pos h5', if_pos rfl, if_neg (show ¬ a.2.2.1 ≤ sq_ct ln len by omega)]; rfl
        · rw [if_neg h5', if_neg (by rw [← Int32.toInt_inj, ix_int (by omega)]; have e : (-3 : Int32).toInt = -3 := by decide
                                     rw [e]; omega)]
          by_cases hle : a.2.2.1 ≤ sq_ct ln len
          · rw [if_pos ((ix_le (by omega) (by omega)).mpr hle), if_pos hle]
          · rw [if_neg (by rw [ix_le (by omega) (by omega)]; exact hle), if_neg hle]; rfl
      · rw [if_neg ha, if_neg ha]
    have hfe : (sq_we t len m w ln a).2.2.1 = if (t &&& (Int32.ofNat (sq_cs m) ^^^ (-1 : Int32))) = 0 then (if a.2.2.1 ≤ sq_ct ln len then a.2.2.1 else sq_ct ln len) else a.2.2.1 := by
      show (if _ then (if _ then _ else _) else _) = _
      by_cases hle : a.2.2.1 ≤ sq_ct ln len
      · rw [if_neg (show ¬ sq_ct ln len < a.2.2.1 by omega), if_pos hle]
      · rw [if_pos (show sq_ct ln len < a.2.2.1 by omega), if_neg hle]
    rw [hb, hfe]
    by_cases ha : (t &&& (Int32.ofNat (sq_cs m) ^^^ (-1 : Int32))) = 0
    · rw [if_pos ha, if_pos ha]
      by_cases hle : a.2.2.1 ≤ sq_ct ln len
      · rw [if_pos hle, if_pos hle]
        refine ⟨u1, rfl, by rw [e1, ix_sIj (by omega)], by rw [e1, ix_sIj (by omega)], q10, by rw [e1, ix_sIs], fun j => by rw [e1, ix_sIj (by omega)], f1⟩
      · rw [if_neg hle, if_neg hle]
        refine ⟨_, rfl, by rw [ix_sIj (by omega), e1, ix_sIj (by omega)], by rw [ix_sIj (by omega), e1, ix_sIj (by omega)], ?_, by rw [ix_sIj (by omega), e1, ix_sIs], fun j => by rw [ix_sIj (by omega), e1, ix_sIj (by omega)], f1.tr (ix_F2.I (by rfl))⟩
        rw [ix_sIs, if_neg (by omega)]
    · rw [if_neg ha, if_neg ha]
      refine ⟨u1, rfl, by rw [e1, ix_sIj (by omega)], by rw [e1, ix_sIj (by omega)], q10, by rw [e1, ix_sIs], fun j => by rw [e1, ix_sIj (by omega)], f1⟩
  have hfew : (sq_we t len m w ln a).2.2.1 ≤ 5 := by
    show (if _ then (if _ then _ else _) else _) ≤ 5
    repeat' split
    all_goals omega
  -- the middle part
  have hmid : ∀ (u : am_S) (mo wy : Int32) (fi : Option (Nat → Int32)), u.1 8 6 = Int32.ofNat (sq_cs m) → u.1 50 6 = t → u.1 50 10 = s.1 50 10 → u.1 50 11 = s.1 50 11 → u.1 50 8 = mo → u.1 50 9 = wy → (∀ f, fi = some f → ∀ j, j < len → u.1 63 j = f j) → ∃ s', F_X3_weigh_50_b32 w (Int32.ofNat (sq_ct ln len)) u = some s' ∧ sq_AC s'.1 len (mo, (if w = mo then wy + 1 else wy), (sq_we t len m w ln a).2.2.1, a.2.2.2.1 ||| sq_cs m, fi) ∧ ix_F2 (fun k j => k == 63 || (k == 50 && (8 ≤ j && j < 12))) u s' := by
    intro u mo wy fi g6 gt g10 g11 g8 g9 gf
    rw [F_X3_weigh_50_b32, g8]
    by_cases hw : w = mo
    · rw [if_pos hw, if_pos hw, ix_b1, g9]
      obtain ⟨s', b1, b2, b3, b4, b5, b6, b7⟩ := hend (am_sI u 50 9 (wy + 1)) (by rw [ix_sIj (by omega)]; exact g6) (by rw [ix_sIj (by omega)]; exact gt) (by rw [ix_sIj (by omega)]; exact g10) (by rw [ix_sIj (by omega)]; exact g11)
      refine ⟨s', b1, ⟨?_, ?_, hfew, b4, o2, b5, fun f hf j hj => ?_⟩, (ix_F2.I (by rfl)).tr b7⟩
      · rw [b2, ix_sIj (by omega)]; exact g8
      · rw [b3, ix_sIs]
      · rw [b6, ix_sIj (by omega)]; exact gf f hf j hj
    · rw [if_neg hw, if_neg hw]
      obtain ⟨s', b1, b2, b3, b4, b5, b6, b7⟩ := hend u g6 gt g10 g11
      exact ⟨s', b1, ⟨b2.trans g8, b3.trans g9, hfew, b4, o2, b5, fun f hf j hj => (b6 j).trans (gf f hf j hj)⟩, b7⟩
  have r6 : s.1 8 6 = Int32.ofNat (sq_cs m) := R.2.2.2.2.2.2.1
  unfold F_X3_weigh_50
  rw [h8]
  by_cases hw : w ≤ a.1
  · rw [if_pos hw]
    obtain ⟨s', b1, b2, b3⟩ := hmid s a.1 a.2.1 a.2.2.2.2 r6 ht rfl rfl h8 h9 hf
    refine ⟨s', b1, ?_, b3⟩
    have e : sq_we t len m w ln a = (a.1, (if w = a.1 then a.2.1 + 1 else a.2.1), (sq_we t len m w ln a).2.2.1, a.2.2.2.1 ||| sq_cs m, a.2.2.2.2) := by
      unfold sq_we
      simp only [if_pos hw]
    rw [e]; exact b2
  · rw [if_neg hw, ix_b1, ix_b1, if_pos (by decide), ix_b1]
    obtain ⟨z0, z1, z2, z3, z6⟩ := ix_z9
    have z4 : (4 : Int32).toNatClampNeg = 4 := by decide
    rw [z0, z4]
    obtain ⟨u, eu⟩ : ∃ u, u = am_sC (am_sI (am_sI s 50 8 w) 50 9 0) 62 63 0 0 4 := ⟨_, rfl⟩
    rw [← eu]
    have fu : ix_F2 (fun k j => k == 63 || (k == 50 && (8 ≤ j && j < 12))) s u := by
      rw [eu]; exact ((ix_F2.I (by rfl)).tr (ix_F2.I (by rfl))).tr (ix_F2.C (fun j _ _ => rfl))
    obtain ⟨s', b1, b2, b3⟩ := hmid u w 0 (some ln) (by rw [fu.1 8 6 rfl]; exact r6) (by rw [fu.1 50 6 rfl]; exact ht) (by rw [eu, ix_sC, if_neg (by omega), ix_sIj (by omega), ix_sIj (by omega)]) (by rw [eu, ix_sC, if_neg (by omega), ix_sIj (by omega), ix_sIj (by omega)]) (by rw [eu, ix_sC, if_neg (by omega), ix_sIj (by omega), ix_sIs]) (by rw [eu, ix_sC, if_neg (by omega), ix_sIs]) (fun f hf j hj => by
      cases hf
      rw [eu, ix_sC, if_pos (by omega), ix_sIj (by omega), ix_sIj (by omega), show 0 + (j - 0) = j by omega]
      exact hln j hj)
    refine ⟨s', b1, ?_, fu.tr b3⟩
    have e : sq_we t len m w ln a = (w, (if w = w then 0 + 1 else 0), (sq_we t len m w ln a).2.2.1, a.2.2.2.1 ||| sq_cs m, some ln) := by
      unfold sq_we
      simp only [if_neg hw]
    rw [e]; exact b2
