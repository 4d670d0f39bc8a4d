/-! LAYER 2: what holds between two calls -/
theorem sq_en_d {m m' : Nat → Int32} (h : ∀ j, j < 296 → m' j = m j) {r : Nat} (hr : r ≤ 8) : sq_en m' r = sq_en m r := by
  cases r with
  | zero => rfl
  | succ q => show (m' _).toNatClampNeg = (m _).toNatClampNeg; rw [h _ (by omega)]
theorem sq_ck_d {m m' : Nat → Int32} (h : ∀ j, j < 296 → m' j = m j) : ∀ l k n p, k + l ≤ 200 → sq_ck m l k n p → sq_ck m' l k n p := by
  intro l
  induction l with
  | zero => intro k n p _ h1; exact h1
  | succ l ih =>
    intro k n p hk h1
    rw [sq_ck] at h1 ⊢
    rw [h (96 + k) (by omega)]
    rcases h1 with ⟨a, b, c⟩ | ⟨a, b, b2, c⟩ | ⟨a, b, b2, c⟩ | ⟨a, b, b2, c⟩
    · exact Or.inl ⟨a, b, ih _ _ _ (by omega) c⟩
    · exact Or.inr (Or.inl ⟨a, b, b2, ih _ _ _ (by omega) c⟩)
    · exact Or.inr (Or.inr (Or.inl ⟨a, b, b2, ih _ _ _ (by omega) c⟩))
    · exact Or.inr (Or.inr (Or.inr ⟨a, b, b2, ih _ _ _ (by omega) c⟩))
theorem sq_OkR_d {m m' : Nat → Int32} (h : ∀ j, j < 296 → m' j = m j) (ok : sq_OkR m) : sq_OkR m' := by
  have hn := (sq_rn_ok ok).1
  obtain ⟨a, b⟩ := id ok
  have e : sq_rn m' = sq_rn m := by unfold sq_rn; rw [h 1 (by omega)]
  refine ⟨by rw [h 1 (by omega)]; exact a, fun r hr => ?_⟩
  rw [e] at hr
  obtain ⟨b1, b2, b3, b4, b5⟩ := b r hr
  have hen := (sq_en_ok ok hr).1
  rw [h _ (by omega), h _ (by omega), h _ (by omega), sq_en_d h (by omega), sq_en_d h (by omega)]
  exact ⟨b1, b2, b3, b4, b5.imp id (sq_ck_d h _ _ _ _ (by omega))⟩
theorem sq_Ok_d {m m' : Nat → Int32} (h : ∀ j, j < 296 → m' j = m j) (ok : sq_Ok m) : sq_Ok m' := by
  obtain ⟨⟨c, c1, c2, c3⟩, ⟨t, e, t1, t2, t3, t4, t5⟩, a5, a6, a8, a24, a54, aR⟩ := ok
  refine ⟨⟨c, c1, by rw [h 0 (by omega)]; exact c2, fun v h1 h2 => by rw [h _ (by omega)]; exact c3 v h1 h2⟩, ⟨t, e, t1, t2, t3, by rw [h 3 (by omega)]; exact t4, by rw [h 2 (by omega)]; exact t5⟩, by rw [h 5 (by omega)]; exact a5, by rw [h 6 (by omega)]; exact a6, fun j hj => by rw [h _ (by omega)]; exact a8 j hj, fun v hv => ?_, fun r hr => ?_, sq_OkR_d h aR⟩
  · rw [h _ (by omega), h _ (by omega), h _ (by omega), h _ (by omega), h _ (by omega)]; exact a24 v hv
  · rw [h _ (by omega), h _ (by omega), h _ (by omega)]; exact a54 r hr
theorem sq_RR_d {x : Nat → Nat → Int32} {q : Nat} {m m' : Nat → Int32} (ok : sq_OkR m) (h : ∀ j, j < 296 → m' j = m j) (r : sq_RR x q m) : sq_RR x q m' := by
  have hn := (sq_rn_ok ok).1
  have hen : sq_en m (sq_rn m) ≤ 200 := by
    rcases Nat.eq_zero_or_pos (sq_rn m) with h0 | h0
    · rw [h0]; exact Nat.zero_le _
    · have := (sq_en_ok ok (r := sq_rn m - 1) (by omega)).1
      rwa [show sq_rn m - 1 + 1 = sq_rn m by omega] at this
  obtain ⟨a, a2, b, c⟩ := r
  have e : sq_rn m' = sq_rn m := by unfold sq_rn; rw [h 1 (by omega)]
  refine ⟨by rw [h 1 (by omega)]; exact a, by rw [e, sq_en_d h (by omega)]; exact a2, fun r hr => ?_, fun k hk => ?_⟩
  · rw [e] at hr
    rw [h _ (by omega), h _ (by omega), sq_en_d h (by omega), sq_en_d h (by omega)]
    exact b r hr
  · rw [e, sq_en_d h (by omega)] at hk
    rw [h _ (by omega)]
    exact c k hk
theorem sq_R_d {x : Nat → Nat → Int32} {c : Nat} {m m' : Nat → Int32} (ok : sq_Ok m) (h : ∀ j, j < 296 → m' j = m j) (R : sq_R x c m) : sq_R x c m' := by
  obtain ⟨a0, a1, a2, a3, a4, a5, a6, a7, a8, a9, a10, a11⟩ := R
  have ec : sq_cs m' = sq_cs m := sq_cs_c (fun u hu => h _ (by omega))
  refine ⟨by rw [h 3 (by omega)]; exact a0, by rw [h 2 (by omega)]; exact a1, by rw [h 5 (by omega)]; exact a2, by rw [h 4 (by omega)]; exact a3, by rw [h 7 (by omega)]; exact a4, by rw [h 0 (by omega)]; exact a5, by rw [ec]; exact a6, by rw [h 6 (by omega)]; exact a7, fun j hj => by rw [h _ (by omega)]; exact a8 j hj, fun v hv => ?_, fun r hr => ?_, sq_RR_d ok.2.2.2.2.2.2.2 h a11⟩
  · rw [h _ (by omega), h _ (by omega), h _ (by omega), h _ (by omega)]; exact a9 v hv
  · rw [h _ (by omega), h _ (by omega), h _ (by omega)]; exact a10 r hr
/-- places that may differ -/
def ix_F2 (p : Nat → Nat → Bool) (s t : am_S) : Prop := (∀ k j, p k j = false → t.1 k j = s.1 k j) ∧ t.2 = s.2
theorem ix_F2.rf {p : Nat → Nat → Bool} {s : am_S} : ix_F2 p s s := ⟨fun _ _ _ => rfl, rfl⟩
theorem ix_F2.tr {p : Nat → Nat → Bool} {s t u : am_S} (h : ix_F2 p s t) (h2 : ix_F2 p t u) : ix_F2 p s u := ⟨fun k j hk => (h2.1 k j hk).trans (h.1 k j hk), h2.2.trans h.2⟩
theorem ix_F2.I {p : Nat → Nat → Bool} {s : am_S} {k j : Nat} {v : Int32} (h : p k j = true) : ix_F2 p s (am_sI s k j v) := by
  refine ⟨fun k1 j1 hk => ?_, rfl⟩
  rw [ix_sI, if_neg]
  rintro ⟨rfl, rfl⟩
  rw [h] at hk; cases hk
theorem ix_Fr.F2 {p : Nat → Bool} {q : Nat → Nat → Bool} {s t : am_S} (h : ix_Fr p s t) (hq : ∀ k j, q k j = false → p k = false) : ix_F2 q s t := ⟨fun k j hk => congrFun (h.1 k (hq k j hk)) j, h.2⟩
/-- what asking and what changes the sea alone may touch -/
def sq_pS (k j : Nat) : Bool := (8 ≤ k && k < 24) || k == 39 || (k == 40 && j != 0) || (42 ≤ k && k < 50) || (k == 50 && j != 14) || (51 ≤ k && k < 64) || k == 65 || (k == 70 && j != 3) || k == 83 || k == 85 || k == 86 || (88 ≤ k && k < 91) || (k == 82 && !(j == 3 || j == 20 || j == 22 || j == 36))
def jz_S (s : am_S) : Prop := sq_Ok (s.1 83) ∧ sq_R s.1 8 (s.1 83)
def jz_K (s : am_S) : Prop := s.1 82 3 = s.1 0 2 ∧ (s.1 0 2 = 0 ∨ (s.1 0 2 = 1 ∧ sq_Ok (s.1 84) ∧ sq_R s.1 24 (s.1 84)))
def jz_T (s : am_S) : Prop := ∃ n, n ≤ 200 ∧ s.1 40 0 = Int32.ofNat n ∧ s.1 82 22 = Int32.ofNat n ∧ ∀ i, i < n → s.1 41 i = s.1 92 i ∧ sq_N (s.1 41 i) 255
def jz_R (s : am_S) : Prop := ∃ n, n ≤ 4 ∧ s.1 50 14 = Int32.ofNat n ∧ s.1 82 20 = Int32.ofNat n ∧ ∀ k, k < n → ∀ w, w < 3 → s.1 (66 + k) w = s.1 91 (3 * k + w)
def jz_H (s : am_S) : Prop := ∀ q, q < 4 → s.1 72 q = s.1 93 q ∧ (s.1 72 q = -1 ∨ sq_N (s.1 72 q) 4) ∧ s.1 73 q = s.1 94 q ∧ sq_N (s.1 73 q) 40 ∧ ∀ i, i < 40 → (s.2 (75 + q) i).toInt32 = s.1 95 (40 * q + i)
def jz_L (s : am_S) : Prop := ∀ q, q < 4 → (s.1 79 q = 0 ∧ s.1 96 q = 1 ∧ s.1 80 q = s.1 97 q ∧ sq_N (s.1 80 q) 5) ∨ (s.1 79 q = 1 ∧ s.1 96 q = 2 ∧ s.1 80 q = s.1 98 q ∧ sq_N (s.1 80 q) 4 ∧ s.1 81 q = s.1 97 q) ∨ (s.1 79 q = 2 ∧ s.1 96 q = 0)
def jz_G (s : am_S) : Prop := ∃ b, b ≤ 1000 ∧ s.1 82 36 = Int32.ofNat b ∧ s.1 70 3 = Int32.ofNat (min b 30) ∧ ∀ i, i < min b 30 → s.1 71 i = s.1 99 i
/-- the nets of the voices, as they were left -/
def jz_N (s : am_S) : Prop := ∀ v, v < 6 → s.1 64 v = s.1 87 v
def jz_J (s : am_S) : Prop := jz_S s ∧ jz_K s ∧ jz_T s ∧ jz_R s ∧ jz_H s ∧ jz_L s ∧ jz_G s ∧ jz_N s
theorem jz_K_fr {s t : am_S} (h : ∀ k j, (24 ≤ k ∧ k < 39) ∨ k = 84 ∨ (k = 0 ∧ j = 2) ∨ (k = 82 ∧ j = 3) → t.1 k j = s.1 k j) (j : jz_K s) : jz_K t := by
  have h84 : t.1 84 = s.1 84 := funext fun q => h 84 q (by omega)
  have hr : ∀ k, 24 ≤ k → k < 39 → t.1 k = s.1 k := fun k h1 h2 => funext fun q => h k q (by omega)
  obtain ⟨a, b⟩ := j
  refine ⟨by rw [h 82 3 (by omega), h 0 2 (by omega)]; exact a, ?_⟩
  rw [h 0 2 (by omega), h84]
  refine b.imp id (fun ⟨b1, b2, b3⟩ => ⟨b1, b2, ?_⟩)
  obtain ⟨a0, a1, a2, a3, a4, a5, a6, a7, a8, a9, a10, a11⟩ := b3
  have e8 := hr 24 (by omega) (by omega)
  refine ⟨by rw [e8]; exact a0, by rw [e8]; exact a1, by rw [e8]; exact a2, by rw [e8]; exact a3, by rw [e8]; exact a4, by rw [e8]; exact a5, by rw [e8]; exact a6, by rw [e8]; exact a7, ?_, ?_, ?_, sq_RR_c rfl (fun _ _ => rfl) (fun k h1 h2 => hr k (by omega) (by omega)) a11⟩
  · rw [hr (24 + 1) (by omega) (by omega)]; exact a8
  · rw [hr (24 + 2) (by omega) (by omega), hr (24 + 3) (by omega) (by omega), hr (24 + 4) (by omega) (by omega), hr (24 + 5) (by omega) (by omega)]; exact a9
  · rw [hr (24 + 6) (by omega) (by omega), hr (24 + 7) (by omega) (by omega), hr (24 + 8) (by omega) (by omega)]; exact a10
theorem jz_T_fr {s t : am_S} (h : ∀ k j, k = 41 ∨ k = 92 ∨ (k = 40 ∧ j = 0) ∨ (k = 82 ∧ j = 22) → t.1 k j = s.1 k j) (j : jz_T s) : jz_T t := by
  obtain ⟨n, h1, h2, h3, h4⟩ := j
  exact ⟨n, h1, by rw [h 40 0 (by omega)]; exact h2, by rw [h 82 22 (by omega)]; exact h3, fun i hi => by rw [h 41 i (by omega), h 92 i (by omega)]; exact h4 i hi⟩
theorem jz_R_fr {s t : am_S} (h : ∀ k j, (66 ≤ k ∧ k < 70) ∨ k = 91 ∨ (k = 50 ∧ j = 14) ∨ (k = 82 ∧ j = 20) → t.1 k j = s.1 k j) (j : jz_R s) : jz_R t := by
  obtain ⟨n, h1, h2, h3, h4⟩ := j
  exact ⟨n, h1, by rw [h 50 14 (by omega)]; exact h2, by rw [h 82 20 (by omega)]; exact h3, fun k hk w hw => by rw [h (66 + k) w (by omega), h 91 _ (by omega)]; exact h4 k hk w hw⟩
theorem jz_H_fr {s t : am_S} (h : ∀ k j, k = 72 ∨ k = 73 ∨ k = 93 ∨ k = 94 ∨ k = 95 → t.1 k j = s.1 k j) (h2 : t.2 = s.2) (j : jz_H s) : jz_H t := by
  intro q hq
  rw [h 72 q (by omega), h 73 q (by omega), h 93 q (by omega), h 94 q (by omega), h2]
  obtain ⟨a, b, c, d, e⟩ := j q hq
  exact ⟨a, b, c, d, fun i hi => by rw [h 95 _ (by omega)]; exact e i hi⟩
theorem jz_L_fr {s t : am_S} (h : ∀ k j, k = 79 ∨ k = 80 ∨ k = 81 ∨ k = 96 ∨ k = 97 ∨ k = 98 → t.1 k j = s.1 k j) (j : jz_L s) : jz_L t := by
  intro q hq
  rw [h 79 q (by omega), h 80 q (by omega), h 81 q (by omega), h 96 q (by omega), h 97 q (by omega), h 98 q (by omega)]
  exact j q hq
theorem jz_G_fr {s t : am_S} (h : ∀ k j, k = 71 ∨ k = 99 ∨ (k = 70 ∧ j = 3) ∨ (k = 82 ∧ j = 36) → t.1 k j = s.1 k j) (j : jz_G s) : jz_G t := by
  obtain ⟨b, h1, h2, h3, h4⟩ := j
  exact ⟨b, h1, by rw [h 82 36 (by omega)]; exact h2, by rw [h 70 3 (by omega)]; exact h3, fun i hi => by rw [h 71 i (by omega), h 99 i (by omega)]; exact h4 i hi⟩
theorem jz_N_fr {s t : am_S} (h : ∀ k j, k = 64 ∨ k = 87 → t.1 k j = s.1 k j) (j : jz_N s) : jz_N t := by
  intro v hv
  rw [h 64 v (by omega), h 87 v (by omega)]
  exact j v hv
theorem sq_pS_a {k j : Nat} (h : 24 ≤ k) (h2 : k < 39) : sq_pS k j = false := by
  unfold sq_pS; simp; omega
theorem sq_pS_b {k j : Nat} (h : 66 ≤ k) (h2 : k < 70) : sq_pS k j = false := by
  unfold sq_pS; simp; omega
theorem jz_keep {s t : am_S} (j : jz_J s) (f : ix_F2 sq_pS s t) (js : jz_S t) : jz_J t := by
  obtain ⟨-, jK, jT, jR, jH, jL, jG, jN⟩ := j
  refine ⟨js, jz_K_fr (fun k q h => f.1 k q ?_) jK, jz_T_fr (fun k q h => f.1 k q ?_) jT, jz_R_fr (fun k q h => f.1 k q ?_) jR, jz_H_fr (fun k q h => f.1 k q ?_) f.2 jH, jz_L_fr (fun k q h => f.1 k q ?_) jL, jz_G_fr (fun k q h => f.1 k q ?_) jG, jz_N_fr (fun k q h => f.1 k q ?_) jN⟩
  · rcases h with h | rfl | ⟨rfl, rfl⟩ | ⟨rfl, rfl⟩
    · exact sq_pS_a h.1 h.2
    all_goals rfl
  · rcases h with rfl | rfl | ⟨rfl, rfl⟩ | ⟨rfl, rfl⟩
    all_goals rfl
  · rcases h with h | rfl | ⟨rfl, rfl⟩ | ⟨rfl, rfl⟩
    · exact sq_pS_b h.1 h.2
    all_goals rfl
  · rcases h with rfl | rfl | rfl | rfl | rfl
    all_goals rfl
  · rcases h with rfl | rfl | rfl | rfl | rfl | rfl
    all_goals rfl
  · rcases h with rfl | rfl | ⟨rfl, rfl⟩ | ⟨rfl, rfl⟩
    all_goals rfl
  · rcases h with rfl | rfl
    all_goals rfl
