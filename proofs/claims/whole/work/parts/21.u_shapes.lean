/-! what stands behind the two constructors (written by wip/whole/gen_21.py) -/
def am_SH : List (Nat × Nat) := [(11, 12), (22, 6), (10, 0), (0, 0), (5, 0), (4, 0), (1, 0), (2, 0), (8, 19), (20, 16), (20, 6), (20, 6), (20, 6), (20, 6), (20, 6), (20, 6), (20, 6), (7, 7), (20, 8), (20, 8), (20, 8), (20, 8), (20, 200), (20, 5), (8, 19), (20, 16), (20, 6), (20, 6), (20, 6), (20, 6), (20, 6), (20, 6), (20, 6), (7, 7), (20, 8), (20, 8), (20, 8), (20, 8), (20, 200), (20, 5), (6, 7), (20, 200), (20, 201), (20, 201), (7, 7), (20, 8), (20, 8), (20, 8), (20, 8), (20, 200), (3, 16), (20, 9), (23, 4), (20, 9), (20, 9), (20, 9), (20, 9), (23, 4), (20, 9), (20, 9), (20, 9), (20, 9), (20, 4), (20, 4), (20, 6), (23, 4), (20, 3), (20, 3), (20, 3), (20, 3), (9, 5), (20, 30), (20, 4), (20, 4), (24, 4), (21, 40), (21, 40), (21, 40), (21, 40), (20, 4), (20, 4), (20, 4), (12, 41), (20, 296), (20, 296), (20, 296), (20, 200), (20, 6), (20, 70), (20, 4), (20, 4), (20, 12), (20, 200), (20, 4), (20, 4), (20, 160), (20, 4), (20, 4), (20, 4), (20, 30)]
def am_RFL : List (Nat × Nat × Nat) := [(0, 0, 8), (0, 1, 24), (0, 3, 40), (0, 4, 50), (0, 5, 70), (0, 6, 72), (0, 7, 73), (0, 8, 74), (0, 9, 79), (0, 10, 80), (0, 11, 81), (1, 0, 2), (1, 1, 3), (1, 2, 4), (1, 3, 5), (1, 4, 6), (1, 5, 7), (8, 8, 9), (8, 9, 10), (8, 10, 11), (8, 11, 12), (8, 12, 13), (8, 13, 14), (8, 14, 15), (8, 15, 16), (8, 16, 17), (8, 17, 1), (8, 18, 23), (17, 2, 18), (17, 3, 19), (17, 4, 20), (17, 5, 21), (17, 6, 22), (24, 8, 25), (24, 9, 26), (24, 10, 27), (24, 11, 28), (24, 12, 29), (24, 13, 30), (24, 14, 31), (24, 15, 32), (24, 16, 33), (24, 17, 1), (24, 18, 39), (33, 2, 34), (33, 3, 35), (33, 4, 36), (33, 5, 37), (33, 6, 38), (40, 1, 41), (40, 3, 42), (40, 4, 43), (40, 6, 44), (44, 2, 45), (44, 3, 46), (44, 4, 47), (44, 5, 48), (44, 6, 49), (50, 0, 8), (50, 1, 51), (50, 2, 52), (50, 3, 57), (50, 4, 62), (50, 7, 63), (50, 13, 64), (50, 15, 65), (52, 0, 53), (52, 1, 54), (52, 2, 55), (52, 3, 56), (57, 0, 58), (57, 1, 59), (57, 2, 60), (57, 3, 61), (65, 0, 66), (65, 1, 67), (65, 2, 68), (65, 3, 69), (70, 4, 71), (74, 0, 75), (74, 1, 76), (74, 2, 77), (74, 3, 78), (82, 0, 83), (82, 1, 84), (82, 2, 85), (82, 4, 86), (82, 5, 87), (82, 6, 88), (82, 7, 89), (82, 8, 90), (82, 19, 91), (82, 21, 92), (82, 29, 93), (82, 30, 94), (82, 31, 95), (82, 32, 96), (82, 33, 97), (82, 34, 98), (82, 35, 99)]
def am_RFok (RF : Nat → Nat → Option Nat) : Prop := ∀ z ∈ am_RFL, RF z.1 z.2.1 = some z.2.2
def am_hp (RF : Nat → Nat → Option Nat) (s : am_S) : am_H := (am_SH, RF, s.1, s.2)
def am_gfK (o x k : Nat) : Option (Nat × Nat) := match am_fld o x with
  | some (c, j) => match am_SH[k]? with
    | some (t, _) => if t = c ∧ c < 13 then some (j, am_fk c j) else none
    | none => none
  | none => none
theorem am_SHlt {k : Nat} {z : Nat × Nat} (h : am_SH[k]? = some z) : k < 1000000 := by
  have h1 := (List.getElem?_eq_some_iff.mp h).1
  have h2 : am_SH.length = 100 := rfl
  omega
section AQ3
variable {sc : Option (Nat × (Nat → Int32))} {d pc : Nat} {M : am_Me} {L S : List Value} {r : am_R1} {RF : Nat → Nat → Option Nat} {s : am_S}
theorem am_gfK_s {o x k j t : Nat} (h : am_gfK o x k = some (j, t)) : ∃ c n, am_fld o x = some (c, j) ∧ am_SH[k]? = some (c, n) ∧ c < 13 ∧ am_fk c j = t := by
  unfold am_gfK at h
  split at h
  · rename_i c0 j0 hf
    split at h
    · rename_i t0 n0 hs
      split at h
      · rename_i hc
        obtain ⟨rfl, hc2⟩ := hc
        cases h
        exact ⟨t0, n0, hf, hs, hc2, rfl⟩
      · cases h
    · cases h
  · cases h
theorem aq_getI {x k j t : Nat} (hd : decode M.2.2.1 pc = .ok (.getfield x, 3)) (hk : am_gfK M.1 x k = some (j, t)) (ht : t < 2) (kk : am_Q sc d M (pc + 3, L, .int (s.1 k j) :: S, am_hp RF s) r) : am_Q sc d M (pc, L, .ref k :: S, am_hp RF s) r := by
  obtain ⟨c, n, h1, h2, h3, h4⟩ := am_gfK_s hk
  refine am_Qh (q := (pc + 3, L, .int (s.1 k j) :: S, am_hp RF s)) hd rfl rfl ?_ kk
  have e : am_gf M.1 x k (am_hp RF s) = some (.int (s.1 k j)) := by
    simp only [am_gf, h1]
    rw [if_neg (by omega)]
    simp only [am_hp, h2]
    rw [if_pos ⟨trivial, h3⟩, if_neg (by omega), if_pos (by omega)]
  simp only [am_he, e, Option.map_some]
theorem aq_getR {x k j y : Nat} (hd : decode M.2.2.1 pc = .ok (.getfield x, 3)) (hk : am_gfK M.1 x k = some (j, 2)) (hr : RF k j = some y) (kk : am_Q sc d M (pc + 3, L, .ref y :: S, am_hp RF s) r) : am_Q sc d M (pc, L, .ref k :: S, am_hp RF s) r := by
  obtain ⟨c, n, h1, h2, h3, h4⟩ := am_gfK_s hk
  refine am_Qh (q := (pc + 3, L, .ref y :: S, am_hp RF s)) hd rfl rfl ?_ kk
  have e : am_gf M.1 x k (am_hp RF s) = some (.ref y) := by
    simp only [am_gf, h1]
    rw [if_neg (by omega)]
    simp only [am_hp, h2]
    rw [if_pos ⟨trivial, h3⟩, if_pos h4, hr]
    rfl
  simp only [am_he, e, Option.map_some]
theorem aq_putI {x k j : Nat} {v : Int32} (hd : decode M.2.2.1 pc = .ok (.putfield x, 3)) (hk : am_gfK M.1 x k = some (j, 0)) (kk : am_Q sc d M (pc + 3, L, S, am_hp RF (am_sI s k j v)) r) : am_Q sc d M (pc, L, .int v :: .ref k :: S, am_hp RF s) r := by
  obtain ⟨c, n, h1, h2, h3, h4⟩ := am_gfK_s hk
  refine am_Qh (q := (pc + 3, L, S, am_hp RF (am_sI s k j v))) hd rfl rfl ?_ kk
  have e : am_pf M x k (.int v) (am_hp RF s) = some (am_hp RF (am_sI s k j v)) := by
    simp only [am_pf, h1, am_hp, h2]
    rw [if_pos ⟨trivial, h3⟩, if_pos (Or.inl h4)]
    rfl
  simp only [am_he, e, Option.map_some]
theorem aq_putZ {x k j : Nat} {v : Int32} (hd : decode M.2.2.1 pc = .ok (.putfield x, 3)) (hk : am_gfK M.1 x k = some (j, 1)) (hv : v = 0 ∨ v = 1) (kk : am_Q sc d M (pc + 3, L, S, am_hp RF (am_sI s k j v)) r) : am_Q sc d M (pc, L, .int v :: .ref k :: S, am_hp RF s) r := by
  obtain ⟨c, n, h1, h2, h3, h4⟩ := am_gfK_s hk
  refine am_Qh (q := (pc + 3, L, S, am_hp RF (am_sI s k j v))) hd rfl rfl ?_ kk
  have e : am_pf M x k (.int v) (am_hp RF s) = some (am_hp RF (am_sI s k j v)) := by
    simp only [am_pf, h1, am_hp, h2]
    rw [if_pos ⟨trivial, h3⟩, if_pos (Or.inr ⟨h4, hv⟩)]
    rfl
  simp only [am_he, e, Option.map_some]
theorem aq_getSv {x i : Nat} {h : am_H} (hd : decode M.2.2.1 pc = .ok (.getfield x, 3)) (hk : am_fld M.1 x = some (13, 0)) (hi : i < 18) (kk : am_Q sc d M (pc + 3, L, .ref (1000040 + i) :: S, h) r) : am_Q sc d M (pc, L, .ref (1000010 + i) :: S, h) r := by
  refine am_Qh (q := (pc + 3, L, .ref (1000040 + i) :: S, h)) hd rfl rfl ?_ kk
  have e : am_gf M.1 x (1000010 + i) h = some (.ref (1000040 + i)) := by
    simp only [am_gf, hk, if_true]
    rw [if_pos (by omega), show 1000010 + i + 30 = 1000040 + i by omega]
  simp only [am_he, e, Option.map_some]
theorem aq_getSc {x i : Nat} {h : am_H} (hd : decode M.2.2.1 pc = .ok (.getfield x, 3)) (hk : am_fld M.1 x = some (13, 1)) (hi : i < 18) (kk : am_Q sc d M (pc + 3, L, .int 0 :: S, h) r) : am_Q sc d M (pc, L, .ref (1000010 + i) :: S, h) r := by
  refine am_Qh (q := (pc + 3, L, .int 0 :: S, h)) hd rfl rfl ?_ kk
  have e : am_gf M.1 x (1000010 + i) h = some (.int 0) := by
    simp only [am_gf, hk, if_true]
    rw [if_pos (by omega), if_neg (by omega)]
  simp only [am_he, e, Option.map_some]
theorem aq_gets {x : Nat} {v : Value} {h : am_H} (hd : decode M.2.2.1 pc = .ok (.getstatic x, 3)) (hk : am_gs M.1 x = some v) (kk : am_Q sc d M (pc + 3, L, v :: S, h) r) : am_Q sc d M (pc, L, S, h) r :=
  am_Qh (q := (pc + 3, L, v :: S, h)) hd rfl rfl (by simp only [am_he, hk, Option.map_some]) kk
theorem aq_alen {k t n : Nat} {v : Int32} (hd : decode M.2.2.1 pc = .ok (.arraylength, 1)) (hk : am_SH[k]? = some (t, n)) (ht : 20 ≤ t ∧ t < 25) (hv : Int32.ofNat n = v) (kk : am_Q sc d M (pc + 1, L, .int v :: S, am_hp RF s) r) : am_Q sc d M (pc, L, .ref k :: S, am_hp RF s) r := by
  subst hv
  have hl := am_SHlt hk
  refine am_Qh (q := (pc + 1, L, .int (Int32.ofNat n) :: S, am_hp RF s)) hd rfl rfl ?_ kk
  have e : am_alen sc (am_hp RF s) k = some n := by
    unfold am_alen
    rw [if_neg (by omega), if_neg (by omega), if_neg (by omega)]
    simp only [am_hp, hk]
    rw [if_pos ht]
  simp only [am_he, e, Option.map_some]
theorem aq_alenK {v : Int32} {h : am_H} (hd : decode M.2.2.1 pc = .ok (.arraylength, 1)) (hv : v = 6) (kk : am_Q sc d M (pc + 1, L, .int v :: S, h) r) : am_Q sc d M (pc, L, .ref 1000001 :: S, h) r := by
  subst hv
  exact am_Qh (q := (pc + 1, L, .int 6 :: S, h)) hd rfl rfl (by simp only [am_he, am_alen]; rfl) kk
theorem aq_alenX {n : Nat} {xs : Nat → Int32} {h : am_H} (hd : decode M.2.2.1 pc = .ok (.arraylength, 1)) (kk : am_Q (some (n, xs)) d M (pc + 1, L, .int (Int32.ofNat n) :: S, h) r) : am_Q (some (n, xs)) d M (pc, L, .ref 1000000 :: S, h) r :=
  am_Qh (q := (pc + 1, L, .int (Int32.ofNat n) :: S, h)) hd rfl rfl (by simp only [am_he, am_alen]; rfl) kk
theorem aq_alenS {i : Nat} {bs : List Int32} {h : am_H} (hd : decode M.2.2.1 pc = .ok (.arraylength, 1)) (hb : am_sB[i]? = some bs) (kk : am_Q sc d M (pc + 1, L, .int (Int32.ofNat bs.length) :: S, h) r) : am_Q sc d M (pc, L, .ref (1000040 + i) :: S, h) r := by
  refine am_Qh (q := (pc + 1, L, .int (Int32.ofNat bs.length) :: S, h)) hd rfl rfl ?_ kk
  have e : am_alen sc h (1000040 + i) = some bs.length := by
    unfold am_alen
    rw [if_neg (by omega), if_neg (by omega), if_pos (by omega), show 1000040 + i - 1000040 = i by omega, hb]
    rfl
  simp only [am_he, e, Option.map_some]
theorem aq_iald {k n : Nat} {i : Int32} (hd : decode M.2.2.1 pc = .ok (.iaload, 1)) (hk : am_SH[k]? = some (20, n)) (hi : am_in i n) (kk : am_Q sc d M (pc + 1, L, .int (s.1 k i.toNatClampNeg) :: S, am_hp RF s) r) : am_Q sc d M (pc, L, .int i :: .ref k :: S, am_hp RF s) r := by
  have hl := am_SHlt hk
  refine am_Qh (q := (pc + 1, L, .int (s.1 k i.toNatClampNeg) :: S, am_hp RF s)) hd rfl rfl ?_ kk
  have e : am_irow sc (am_hp RF s) k = some (n, s.1 k) := by
    unfold am_irow
    rw [if_neg (by omega), if_neg (by omega)]
    simp only [am_hp, hk, if_true]
  simp only [am_he, e]
  rw [if_neg hi]
theorem aq_ialdK {i : Int32} {h : am_H} (hd : decode M.2.2.1 pc = .ok (.iaload, 1)) (hi : am_in i 6) (kk : am_Q sc d M (pc + 1, L, .int (am_KA i.toNatClampNeg) :: S, h) r) : am_Q sc d M (pc, L, .int i :: .ref 1000001 :: S, h) r := by
  refine am_Qh (q := (pc + 1, L, .int (am_KA i.toNatClampNeg) :: S, h)) hd rfl rfl ?_ kk
  have e : am_irow sc h 1000001 = some (6, am_KA) := by
    unfold am_irow
    rw [if_neg (by omega), if_pos rfl]
  simp only [am_he, e]
  rw [if_neg hi]
theorem aq_ialdX {i : Int32} {n : Nat} {xs : Nat → Int32} {h : am_H} (hd : decode M.2.2.1 pc = .ok (.iaload, 1)) (hi : am_in i n) (kk : am_Q (some (n, xs)) d M (pc + 1, L, .int (xs i.toNatClampNeg) :: S, h) r) : am_Q (some (n, xs)) d M (pc, L, .int i :: .ref 1000000 :: S, h) r := by
  refine am_Qh (q := (pc + 1, L, .int (xs i.toNatClampNeg) :: S, h)) hd rfl rfl ?_ kk
  have e : am_irow (some (n, xs)) h 1000000 = some (n, xs) := by
    unfold am_irow
    rw [if_pos rfl]
  simp only [am_he, e]
  rw [if_neg hi]
theorem aq_iast {k n : Nat} {i v : Int32} (hd : decode M.2.2.1 pc = .ok (.iastore, 1)) (hk : am_SH[k]? = some (20, n)) (hi : am_in i n) (kk : am_Q sc d M (pc + 1, L, S, am_hp RF (am_sI s k i.toNatClampNeg v)) r) : am_Q sc d M (pc, L, .int v :: .int i :: .ref k :: S, am_hp RF s) r := by
  refine am_Qh (q := (pc + 1, L, S, am_hp RF (am_sI s k i.toNatClampNeg v))) hd rfl rfl ?_ kk
  simp only [am_he, am_hp, hk]
  rw [if_pos ⟨trivial, hi⟩]
  rfl
theorem aq_lald {k n : Nat} {i : Int32} (hd : decode M.2.2.1 pc = .ok (.laload, 1)) (hk : am_SH[k]? = some (21, n)) (hi : am_in i n) (kk : am_Q sc d M (pc + 1, L, .long (s.2 k i.toNatClampNeg) :: S, am_hp RF s) r) : am_Q sc d M (pc, L, .int i :: .ref k :: S, am_hp RF s) r := by
  refine am_Qh (q := (pc + 1, L, .long (s.2 k i.toNatClampNeg) :: S, am_hp RF s)) hd rfl rfl ?_ kk
  simp only [am_he, am_hp, hk]
  rw [if_pos ⟨trivial, hi⟩]
theorem aq_last {k n : Nat} {i : Int32} {v : Int64} (hd : decode M.2.2.1 pc = .ok (.lastore, 1)) (hk : am_SH[k]? = some (21, n)) (hi : am_in i n) (kk : am_Q sc d M (pc + 1, L, S, am_hp RF (am_sL s k i.toNatClampNeg v)) r) : am_Q sc d M (pc, L, .long v :: .int i :: .ref k :: S, am_hp RF s) r := by
  refine am_Qh (q := (pc + 1, L, S, am_hp RF (am_sL s k i.toNatClampNeg v))) hd rfl rfl ?_ kk
  simp only [am_he, am_hp, hk]
  rw [if_pos ⟨trivial, hi⟩]
  rfl
theorem aq_aald {k t n y : Nat} {i : Int32} (hd : decode M.2.2.1 pc = .ok (.aaload, 1)) (hk : am_SH[k]? = some (t, n)) (ht : 22 ≤ t ∧ t < 25) (hi : am_in i n) (hr : RF k i.toNatClampNeg = some y) (kk : am_Q sc d M (pc + 1, L, .ref y :: S, am_hp RF s) r) : am_Q sc d M (pc, L, .int i :: .ref k :: S, am_hp RF s) r := by
  refine am_Qh (q := (pc + 1, L, .ref y :: S, am_hp RF s)) hd rfl rfl ?_ kk
  simp only [am_he, am_hp, hk]
  rw [if_pos ⟨ht.1, ht.2, hi⟩, hr]
  rfl
theorem am_byt_s {i : Nat} : am_byt (1000040 + i) = am_sB[i]? := by
  unfold am_byt
  rw [if_pos (Nat.le_add_right _ _), Nat.add_sub_cancel_left]
theorem aq_bald {i0 : Nat} {bs : List Int32} {i : Int32} {h : am_H} (hd : decode M.2.2.1 pc = .ok (.baload, 1)) (hb : am_sB[i0]? = some bs) (hi : am_in i bs.length) (kk : am_Q sc d M (pc + 1, L, .int (bs.getD i.toNatClampNeg 0) :: S, h) r) : am_Q sc d M (pc, L, .int i :: .ref (1000040 + i0) :: S, h) r := by
  refine am_Qh (q := (pc + 1, L, .int (bs.getD i.toNatClampNeg 0) :: S, h)) hd rfl rfl ?_ kk
  simp only [am_he, am_byt_s, hb]
  rw [if_neg hi]
theorem aq_copy {x a b n0 n1 : Nat} {sp dp n : Int32} (hd : decode M.2.2.1 pc = .ok (.invokestatic x, 3)) (hk : am_mk M.1 x = none) (hac : am_ac M.1 x = true) (hs : (S.map Value.category).sum ≤ 8) (ha : am_SH[a]? = some (20, n0)) (hb : am_SH[b]? = some (20, n1)) (hc : ¬ sp < 0 ∧ ¬ dp < 0 ∧ ¬ n < 0 ∧ sp.toNatClampNeg + n.toNatClampNeg ≤ n0 ∧ dp.toNatClampNeg + n.toNatClampNeg ≤ n1)
    (kk : am_Q sc d M (pc + 3, L, S, am_hp RF (am_sC s a b sp.toNatClampNeg dp.toNatClampNeg n.toNatClampNeg)) r) : am_Q sc d M (pc, L, .int n :: .int dp :: .ref b :: .int sp :: .ref a :: S, am_hp RF s) r := by
  refine am_Qh (q := (pc + 3, L, S, am_hp RF (am_sC s a b sp.toNatClampNeg dp.toNatClampNeg n.toNatClampNeg))) hd rfl rfl ?_ kk
  simp only [am_he, hk]
  rw [if_pos ⟨hac, hs⟩]
  simp only [am_hp, ha, hb]
  rw [if_pos ⟨trivial, trivial, hc⟩]
  rfl
theorem aq_max {x : Nat} {a b : Int32} {h : am_H} (hd : decode M.2.2.1 pc = .ok (.invokestatic x, 3)) (hk : am_mk M.1 x = some 0) (hs : (S.map Value.category).sum ≤ 8) (kk : am_Q sc d M (pc + 3, L, .int (if a < b then b else a) :: S, h) r) : am_Q sc d M (pc, L, .int b :: .int a :: S, h) r :=
  am_Qh (q := (pc + 3, L, .int (if a < b then b else a) :: S, h)) hd rfl rfl (by simp only [am_he, hk, am_ma, if_pos hs]; rfl) kk
theorem aq_min {x : Nat} {a b : Int32} {h : am_H} (hd : decode M.2.2.1 pc = .ok (.invokestatic x, 3)) (hk : am_mk M.1 x = some 1) (hs : (S.map Value.category).sum ≤ 8) (kk : am_Q sc d M (pc + 3, L, .int (if b < a then b else a) :: S, h) r) : am_Q sc d M (pc, L, .int b :: .int a :: S, h) r :=
  am_Qh (q := (pc + 3, L, .int (if b < a then b else a) :: S, h)) hd rfl rfl (by simp only [am_he, hk, am_ma, if_pos hs]; rfl) kk
theorem aq_abs {x : Nat} {a : Int32} {h : am_H} (hd : decode M.2.2.1 pc = .ok (.invokestatic x, 3)) (hk : am_mk M.1 x = some 2) (hs : (S.map Value.category).sum ≤ 8) (kk : am_Q sc d M (pc + 3, L, .int (if 0 ≤ a then a else 0 - a) :: S, h) r) : am_Q sc d M (pc, L, .int a :: S, h) r :=
  am_Qh (q := (pc + 3, L, .int (if 0 ≤ a then a else 0 - a) :: S, h)) hd rfl rfl (by simp only [am_he, hk, am_ma, if_pos hs]; rfl) kk
theorem aq_ireturn {t : FieldType} {v : Int32} {h : am_H} (hd : decode M.2.2.1 pc = .ok (.ireturn, 1)) (hM : M.2.2.2.2 = some t) (ht : t = .int ∨ t = .boolean ∨ t = .byte ∨ t = .char ∨ t = .short) (hn : narrow t (.int v) = .int v) : am_Q sc d M (pc, L, [.int v], h) (.int v, h) :=
  am_Qr hd rfl rfl rfl (by simp only [am_re, hM]; rw [if_pos ⟨hn, ht⟩])
theorem aq_lreturn {v : Int64} {h : am_H} (hd : decode M.2.2.1 pc = .ok (.lreturn, 1)) (hM : M.2.2.2.2 = some .long) : am_Q sc d M (pc, L, [.long v], h) (.long v, h) :=
  am_Qr hd rfl rfl rfl (by simp only [am_re, hM])
theorem aq_areturn {v : Nat} {c : String} {h : am_H} (hd : decode M.2.2.1 pc = .ok (.areturn, 1)) (hM : M.2.2.2.2 = some (.object c)) : am_Q sc d M (pc, L, [.ref v], h) (.ref v, h) :=
  am_Qr hd rfl rfl rfl (by simp only [am_re, hM])
theorem aq_return {h : am_H} (hd : decode M.2.2.1 pc = .ok (.return_, 1)) (hM : M.2.2.2.2 = none) : am_Q sc d M (pc, L, [], h) (.null, h) :=
  am_Qr hd rfl rfl rfl (by simp only [am_re, hM])
theorem am_he_st {x : Nat} {h : am_H} (hk : am_mk M.1 x = none) (hac : am_ac M.1 x = false) : am_he sc M (.invokestatic x) pc L S h = none := by
  simp only [am_he, hk, hac]
  split
  · simp
  · rfl
theorem am_he_sp {x : Nat} {h : am_H} (hac : am_oi M.1 x = false) : am_he sc M (.invokespecial x) pc L S h = none := by
  simp only [am_he, hac]
  split
  · simp
  · rfl
/-- a call of a static method: whom, with what (n values from the top), and behind it -/
theorem aq_static {x n : Nat} {N : am_Me} {a S1 : List Value} {h : am_H} {v1 : Value} {h1 : am_H} {S2 : List Value} (hd : decode M.2.2.1 pc = .ok (.invokestatic x, 3)) (hc : am_ct M.1 x = some (n, N) ∧ am_mk M.1 x = none ∧ am_ac M.1 x = false) (ha : (S.take n).reverse = a) (hdr : S.drop n = S1) (hn : (S.take n).length = n) (hs : (S1.map Value.category).sum ≤ 8) (hl : (am_sl a).length ≤ N.2.2.2.1)
    (k1 : am_Q sc d N (0, am_L0 N a, [], h) (v1, h1)) (hr : am_ret N v1 S1 = S2) (k2 : am_Q sc (d + 1) M (pc + 3, L, S2, h1) r) : am_Q sc (d + 1) M (pc, L, S, h) r := by
  subst ha; subst hdr; subst hr
  refine am_Qc hd rfl rfl (am_he_st hc.2.1 hc.2.2) (fun call => ?_) k1 k2
  simp only [am_ca, hc.1]
  rw [if_pos ⟨hn, hs, hl⟩]
theorem aq_virt {x n k c : Nat} {N : am_Me} {a S1 : List Value} {h : am_H} {v1 : Value} {h1 : am_H} {S2 : List Value} (hd : decode M.2.2.1 pc = .ok (.invokevirtual x, 3)) (hc : am_nv M.1 x = some n ∧ am_cv M.1 x c = some N) (hk : am_cls h k = some c) (hdr : S.drop n = .ref k :: S1) (ha : .ref k :: (S.take n).reverse = a) (hn : (S.take n).length = n) (hs : (S1.map Value.category).sum ≤ 8) (hl : (am_sl a).length ≤ N.2.2.2.1)
    (k1 : am_Q sc d N (0, am_L0 N a, [], h) (v1, h1)) (hr : am_ret N v1 S1 = S2) (k2 : am_Q sc (d + 1) M (pc + 3, L, S2, h1) r) : am_Q sc (d + 1) M (pc, L, S, h) r := by
  subst ha; subst hr
  refine am_Qc hd rfl rfl rfl (fun call => ?_) k1 k2
  simp only [am_ca, hc.1, hdr, hk, hc.2]
  rw [if_pos ⟨hn, hs, hl⟩]
theorem aq_spec {x n k t m : Nat} {N : am_Me} {a S1 : List Value} {h : am_H} {v1 : Value} {h1 : am_H} {S2 : List Value} (hd : decode M.2.2.1 pc = .ok (.invokespecial x, 3)) (hc : am_cp M.1 x = some (n, N) ∧ am_oi M.1 x = false) (hk : h.1[k]? = some (t, m)) (ht : t < 13) (hdr : S.drop n = .ref k :: S1) (ha : .ref k :: (S.take n).reverse = a) (hn : (S.take n).length = n) (hs : (S1.map Value.category).sum ≤ 8) (hl : (am_sl a).length ≤ N.2.2.2.1)
    (k1 : am_Q sc d N (0, am_L0 N a, [], h) (v1, h1)) (hr : am_ret N v1 S1 = S2) (k2 : am_Q sc (d + 1) M (pc + 3, L, S2, h1) r) : am_Q sc (d + 1) M (pc, L, S, h) r := by
  subst ha; subst hr
  refine am_Qc hd rfl rfl (am_he_sp hc.2) (fun call => ?_) k1 k2
  simp only [am_ca, hc.1, hdr, hk]
  rw [if_pos ⟨ht, hn, hs, hl⟩]
theorem am_cls_c {k c n : Nat} (hk : am_SH[k]? = some (c, n)) (hc : c < 13) : am_cls (am_hp RF s) k = some c := by
  have hl := am_SHlt hk
  unfold am_cls
  rw [if_neg (by omega)]
  simp only [am_hp, hk]
  rw [if_pos hc]
theorem am_cls_s {i : Nat} {h : am_H} (hi : i < 18) : am_cls h (1000010 + i) = some 13 := by
  unfold am_cls
  rw [if_pos (by omega)]
theorem am_in_lt {i : Int32} {n : Nat} (h : am_in i n) : i.toNatClampNeg < n := Nat.not_le.mp fun z => h (Or.inr z)
end AQ3
