/-! LAYER 2: apart agrees (written by wip/whole/l2/gen52.py) -/
def sq_ap (m net : Nat → Int32) (v : Nat) : Nat → Nat → Bool
  | 0, _ => true
  | l + 1, u => !(decide (net u = net v) && sq_od m v u) && sq_ap m net v l (u + 1)
def sq_cpl (rec : (Nat → Int32) → Bool × (Nat → Int32)) (m : Nat → Int32) (v : Nat) : Nat → Nat → (Nat → Int32) → Bool × (Nat → Int32)
  | 0, _, net => (false, net)
  | j + 1, k, net => if sq_ap m (upd net v (Int32.ofNat k)) v v 0 = true then (if (rec (upd net v (Int32.ofNat k))).1 = true then (true, (rec (upd net v (Int32.ofNat k))).2) else sq_cpl rec m v j (k + 1) (rec (upd net v (Int32.ofNat k))).2) else sq_cpl rec m v j (k + 1) (upd net v (Int32.ofNat k))
def sq_cp (m : Nat → Int32) (nets : Nat) : Nat → Nat → (Nat → Int32) → Bool × (Nat → Int32)
  | 0, _, net => (true, net)
  | l + 1, v, net => sq_cpl (fun n => sq_cp m nets l (v + 1) n) m v nets 0 net
def sq_pa (m : Nat → Int32) : Nat → Nat → (Nat → Int32) → Nat × (Nat → Int32)
  | 0, nets, net => (nets, (sq_cp m nets (sq_cn m) 0 net).2)
  | l + 1, nets, net => if (sq_cp m nets (sq_cn m) 0 net).1 = true then (nets, (sq_cp m nets (sq_cn m) 0 net).2) else sq_pa m l (nets + 1) (sq_cp m nets (sq_cn m) 0 net).2
/-- so many nets do for so many voices -/
theorem sq_free : ∀ (v : Nat), v < 1000 → ∀ (f : Nat → Int32), ∃ k, k ≤ v ∧ ∀ u, u < v → f u ≠ Int32.ofNat k := by
  intro v
  induction v with
  | zero => intro _ f; exact ⟨0, Nat.le_refl _, fun u hu => absurd hu (Nat.not_lt_zero _)⟩
  | succ v ih =>
    intro hv f
    obtain ⟨k, hk, h⟩ := ih (by omega) (fun u => if f u = Int32.ofNat (v + 1) then f v else f u)
    by_cases hf : f v = Int32.ofNat k
    · refine ⟨v + 1, Nat.le_refl _, fun u hu => ?_⟩
      by_cases huv : u = v
      · subst huv
        rw [hf]; intro z
        rw [ix_eq (by omega) (by omega)] at z; omega
      · intro z
        refine h u (by omega) ?_
        show (if f u = Int32.ofNat (v + 1) then f v else f u) = _
        rw [if_pos z]; exact hf
    · refine ⟨k, by omega, fun u hu => ?_⟩
      by_cases huv : u = v
      · subst huv; exact hf
      · intro z
        refine h u (by omega) ?_
        show (if f u = Int32.ofNat (v + 1) then f v else f u) = _
        rw [if_neg (by rw [z, ix_eq (by omega) (by omega)]; omega)]; exact z
theorem sq_ap_t {m net : Nat → Int32} {v : Nat} : ∀ l u, (∀ q, u ≤ q → q < u + l → net q ≠ net v) → sq_ap m net v l u = true := by
  intro l
  induction l with
  | zero => intro u _; rfl
  | succ l ih =>
    intro u h
    rw [sq_ap, decide_eq_false (h u (by omega) (by omega)), ih (u + 1) (fun q h1 h2 => h q (by omega) (by omega))]
    rfl
theorem sq_cpl_t {rec : (Nat → Int32) → Bool × (Nat → Int32)} {m : Nat → Int32} {v : Nat} (hrec : ∀ n, (rec n).1 = true) : ∀ (j k : Nat) (net : Nat → Int32), (∃ q, k ≤ q ∧ q < k + j ∧ ∀ u, u < v → net u ≠ Int32.ofNat q) → (sq_cpl rec m v j k net).1 = true := by
  intro j
  induction j with
  | zero => intro k net ⟨q, h1, h2, _⟩; omega
  | succ j ih =>
    intro k net ⟨q, h1, h2, h3⟩
    rw [sq_cpl]
    by_cases ha : sq_ap m (upd net v (Int32.ofNat k)) v v 0 = true
    · rw [if_pos ha, if_pos (hrec _)]
    · rw [if_neg ha]
      refine ih (k + 1) _ ⟨q, ?_, by omega, fun u hu => by rw [ix_upn (by omega)]; exact h3 u hu⟩
      rcases Nat.lt_or_ge k q with h | h
      · omega
      · exfalso
        have hq : q = k := by omega
        subst hq
        apply ha
        refine sq_ap_t v 0 (fun u _ hu => ?_)
        rw [ix_upn (by omega), ix_ups]
        exact h3 u (by omega)
theorem sq_cp_t {m : Nat → Int32} {nets : Nat} (hn : nets ≤ 6) : ∀ (l v : Nat) (net : Nat → Int32), v + l ≤ nets → (sq_cp m nets l v net).1 = true := by
  intro l
  induction l with
  | zero => intro v net _; rfl
  | succ l ih =>
    intro v net h
    rw [sq_cp]
    refine sq_cpl_t (fun n => ih (v + 1) n (by omega)) nets 0 net ?_
    obtain ⟨k, hk, h2⟩ := sq_free v (by omega) net
    exact ⟨k, by omega, by omega, h2⟩
theorem jz_nets {s t : am_S} (j : jz_J s) (f : ∀ k, k ≠ 64 → k ≠ 87 → t.1 k = s.1 k) (f2 : t.2 = s.2) (hN : jz_N t) : jz_J t := by
  obtain ⟨⟨ok, R⟩, jK, jT, jR, jH, jL, jG, -⟩ := j
  have g : ∀ k q, k ≠ 64 → k ≠ 87 → t.1 k q = s.1 k q := fun k q h1 h2 => by rw [f k h1 h2]
  refine ⟨⟨by rw [f 83 (by omega) (by omega)]; exact ok, ?_⟩, jz_K_fr (fun k q h => g k q (by omega) (by omega)) jK, jz_T_fr (fun k q h => g k q (by omega) (by omega)) jT, jz_R_fr (fun k q h => g k q (by omega) (by omega)) jR, jz_H_fr (fun k q h => g k q (by omega) (by omega)) f2 jH, jz_L_fr (fun k q h => g k q (by omega) (by omega)) jL, jz_G_fr (fun k q h => g k q (by omega) (by omega)) jG, hN⟩
  rw [f 83 (by omega) (by omega)]
  exact sq_R_fr (fun k h1 h2 => f k (by omega) (by omega)) R
theorem cz_ap {m net : Nat → Int32} {v : Nat} (ok : sq_Ok m) (hv : v < 6) : ∀ (l u f : Nat) (s : am_S), sq_R s.1 8 m → (∀ q, q < 6 → s.1 64 q = net q) → u + l = v → l < f → F_X3_isAtPeace_50_b2 f (Int32.ofNat v) (Int32.ofNat u) s = some (if sq_ap m net v l u = true then 1 else 0, s) := by
  intro l
  induction l with
  | zero =>
    intro u f s R hn hl hf
    obtain ⟨f, rfl⟩ : ∃ g, f = g + 1 := ⟨f - 1, by omega⟩
    rw [F_X3_isAtPeace_50_b2, if_pos (by rw [ix_le (by omega) (by omega)]; omega)]
    rfl
  | succ l ih =>
    intro u f s R hn hl hf
    obtain ⟨f, rfl⟩ : ∃ g, f = g + 1 := ⟨f - 1, by omega⟩
    have e1 : (Int32.ofNat v).toNatClampNeg = v := ix_nat (by omega)
    have e2 : (Int32.ofNat u).toNatClampNeg = u := ix_nat (by omega)
    rw [F_X3_isAtPeace_50_b2, if_neg (by rw [ix_le (by omega) (by omega)]; omega), if_pos (cz_inv (by omega)), if_pos (cz_inv hv)]
    simp only [e1, e2]
    rw [hn u (by omega), hn v hv, cz_quar R ok hv (by omega), ix_b1, F_X3_isAtPeace_50_b33, ix_addL, ih (u + 1) f s R hn (by omega) (by omega), sq_ap]
    by_cases h : net u = net v
    · rw [if_pos h, decide_eq_true h]
      by_cases h2 : sq_od m v u = true
      · rw [if_pos h2, h2]; rfl
      · rw [if_neg h2, Bool.eq_false_iff.mpr h2]; rfl
    · rw [if_neg h, decide_eq_false h]; rfl
theorem cz_cpl {m : Nat → Int32} {nets v : Nat} {rc : Int32 → Int32 → am_S → Option (Int32 × am_S)} {rec : (Nat → Int32) → Bool × (Nat → Int32)} (ok : sq_Ok m) (hv : v < 6) (hn6 : nets ≤ 6) (hrc : ∀ (s : am_S) (net : Nat → Int32), sq_R s.1 8 m → (∀ q, q < 6 → s.1 64 q = net q) → ∃ s', rc (Int32.ofNat (v + 1)) (Int32.ofNat nets) s = some (if (rec net).1 = true then 1 else 0, s') ∧ (∀ q, q < 6 → s'.1 64 q = (rec net).2 q) ∧ ix_Fr (fun q => q == 64) s s') :
    ∀ (j k f : Nat) (s : am_S) (net : Nat → Int32), sq_R s.1 8 m → (∀ q, q < 6 → s.1 64 q = net q) → k + j = nets → j < f → ∃ s', F_X3_canPutFrom_50_b15 rc f (Int32.ofNat v) (Int32.ofNat nets) (Int32.ofNat k) s = some (if (sq_cpl rec m v j k net).1 = true then 1 else 0, s') ∧ (∀ q, q < 6 → s'.1 64 q = (sq_cpl rec m v j k net).2 q) ∧ ix_Fr (fun q => q == 64) s s' := by
  intro j
  induction j with
  | zero =>
    intro k f s net R hn hl hf
    obtain ⟨f, rfl⟩ : ∃ g, f = g + 1 := ⟨f - 1, by omega⟩
    refine ⟨s, ?_, hn, ix_Fr.rf⟩
    rw [F_X3_canPutFrom_50_b15, if_pos (by rw [ix_le (by omega) (by omega)]; omega)]
    rfl
  | succ j ih =>
    intro k f s net R hn hl hf
    obtain ⟨f, rfl⟩ : ∃ g, f = g + 1 := ⟨f - 1, by omega⟩
    obtain ⟨s1, e1⟩ : ∃ s1, s1 = am_sI s 64 v (Int32.ofNat k) := ⟨_, rfl⟩
    have f1 : ix_Fr (fun q => q == 64) s s1 := by rw [e1]; exact ix_Fr.I (by rfl)
    have n1 : ∀ q, q < 6 → s1.1 64 q = upd net v (Int32.ofNat k) q := fun q hq => by rw [e1, ix_sI1, ix_up, hn q hq]
    have R1 : sq_R s1.1 8 m := sq_R_fr (fun k h1 h2 => f1.1 k (by simp; omega)) R
    have ha : F_X3_isAtPeace_50 (Int32.ofNat v) s1 = some (if sq_ap m (upd net v (Int32.ofNat k)) v v 0 = true then 1 else 0, s1) := cz_ap ok hv v 0 1000 s1 R1 n1 (by omega) (by omega)
    rw [F_X3_canPutFrom_50_b15, if_neg (by rw [ix_le (by omega) (by omega)]; omega), if_pos (cz_inv hv), ix_nat (by omega), ix_b1, ← e1, ha, ix_b1, sq_cpl, F_X3_canPutFrom_50_b48, ix_addL]
    dsimp only
    by_cases hp : sq_ap m (upd net v (Int32.ofNat k)) v v 0 = true
    · obtain ⟨s2, r1, r2, r3⟩ := hrc s1 _ R1 n1
      rw [if_pos hp, if_neg (by decide), if_pos hp, ix_addL, r1, ix_b1]
      dsimp only
      by_cases hq : (rec (upd net v (Int32.ofNat k))).1 = true
      · rw [if_pos hq, if_neg (by decide), if_pos hq]
        exact ⟨s2, rfl, r2, f1.tr r3⟩
      · rw [if_neg hq, if_pos rfl, if_neg hq, F_X3_canPutFrom_50_b48, ix_addL]
        obtain ⟨s', i1, i2, i3⟩ := ih (k + 1) f s2 _ (sq_R_fr (fun k h1 h2 => r3.1 k (by simp; omega)) R1) r2 (by omega) (by omega)
        exact ⟨s', i1, i2, (f1.tr r3).tr i3⟩
    · rw [if_neg hp, if_pos rfl, if_neg hp]
      obtain ⟨s', i1, i2, i3⟩ := ih (k + 1) f s1 _ R1 n1 (by omega) (by omega)
      exact ⟨s', i1, i2, f1.tr i3⟩
theorem cz_cp {m : Nat → Int32} {nets : Nat} (ok : sq_Ok m) (hn6 : nets ≤ 6) : ∀ (l v d : Nat) (s : am_S) (net : Nat → Int32), sq_R s.1 8 m → (∀ q, q < 6 → s.1 64 q = net q) → v + l = sq_cn m → l < d → ∃ s', F_X3_canPutFrom_50 d (Int32.ofNat v) (Int32.ofNat nets) s = some (if (sq_cp m nets l v net).1 = true then 1 else 0, s') ∧ (∀ q, q < 6 → s'.1 64 q = (sq_cp m nets l v net).2 q) ∧ ix_Fr (fun q => q == 64) s s' := by
  obtain ⟨hc, h0⟩ := sq_cn_ok ok
  intro l
  induction l with
  | zero =>
    intro v d s net R hn hl hd
    obtain ⟨d, rfl⟩ : ∃ g, d = g + 1 := ⟨d - 1, by omega⟩
    refine ⟨s, ?_, hn, ix_Fr.rf⟩
    rw [F_X3_canPutFrom_50, F_X3_canPutFrom_50_o, R.2.2.2.2.2.1, h0, if_neg (by rw [ix_lt (by omega) (by omega)]; omega)]
    rfl
  | succ l ih =>
    intro v d s net R hn hl hd
    obtain ⟨d, rfl⟩ : ∃ g, d = g + 1 := ⟨d - 1, by omega⟩
    rw [F_X3_canPutFrom_50, F_X3_canPutFrom_50_o, R.2.2.2.2.2.1, h0, if_pos (by rw [ix_lt (by omega) (by omega)]; omega)]
    exact cz_cpl (rec := fun n => sq_cp m nets l (v + 1) n) ok (show v < 6 by omega) hn6 (fun t n Rt hnt => ih (v + 1) d t n Rt hnt (by omega) (by omega)) nets 0 1000 s net R hn (by omega) (by omega)
theorem mz_ap {net : Nat → Int32} {v : Nat} (hv : v < 6) : ∀ (l u f : Nat) (s : am_S) (b : Bool), sq_Ok (s.1 83) → (∀ q, q < 6 → s.1 87 q = net q) → u + l = v → l < f → F_X12_isApart_82_b4 f (Int32.ofNat v) (if b = true then 1 else 0) (Int32.ofNat u) s = some (if (b && sq_ap (s.1 83) net v l u) = true then 1 else 0, s) := by
  intro l
  induction l with
  | zero =>
    intro u f s b ok hn hl hf
    obtain ⟨f, rfl⟩ : ∃ g, f = g + 1 := ⟨f - 1, by omega⟩
    rw [F_X12_isApart_82_b4, if_pos (by rw [ix_le (by omega) (by omega)]; omega), sq_ap, Bool.and_true]
    cases b <;> rfl
  | succ l ih =>
    intro u f s b ok hn hl hf
    obtain ⟨f, rfl⟩ : ∃ g, f = g + 1 := ⟨f - 1, by omega⟩
    have e1 : (Int32.ofNat v).toNatClampNeg = v := ix_nat (by omega)
    have e2 : (Int32.ofNat u).toNatClampNeg = u := ix_nat (by omega)
    have ht := ih (u + 1) f s true ok hn (by omega) (by omega)
    have hff := ih (u + 1) f s false ok hn (by omega) (by omega)
    simp only [if_true, Bool.true_and] at ht
    simp only [Bool.false_and, Bool.false_eq_true, if_false] at hff
    have e37 : F_X12_isApart_82_b37 (F_X12_isApart_82_b4 f) (Int32.ofNat v) (Int32.ofNat u) s = some (if sq_ap (s.1 83) net v l (u + 1) = true then 1 else 0, s) := by
      rw [F_X12_isApart_82_b37, F_X12_isApart_82_b42, ix_addL, ht]
    have e41 : F_X12_isApart_82_b41 (F_X12_isApart_82_b4 f) (Int32.ofNat v) (Int32.ofNat u) s = some (0, s) := by
      rw [F_X12_isApart_82_b41, F_X12_isApart_82_b42, ix_addL, hff]
    rw [F_X12_isApart_82_b4, if_neg (by rw [ix_le (by omega) (by omega)]; omega), if_pos (cz_inv (show u < 6 by omega)), if_pos (cz_inv hv)]
    simp only [e1, e2]
    rw [hn u (by omega), hn v hv, mz_odds (show u < 6 by omega) hv, ix_b1, e37, e41, sq_ap, sq_od_s ok (show u < 6 by omega) hv]
    cases b with
    | false => rfl
    | true =>
      rw [if_neg (by decide)]
      by_cases h : net u = net v
      · rw [if_pos h, decide_eq_true h]
        by_cases h2 : sq_od (s.1 83) v u = true
        · rw [if_pos h2, h2]; rfl
        · rw [if_neg h2, Bool.eq_false_iff.mpr h2]; rfl
      · rw [if_neg h, decide_eq_false h]; rfl
theorem mz_cpl {m : Nat → Int32} {nets v : Nat} {rc : Int32 → Int32 → am_S → Option (Int32 × am_S)} {rec : (Nat → Int32) → Bool × (Nat → Int32)} (ok : sq_Ok m) (hv : v < 6) (hn6 : nets ≤ 6) (hrc : ∀ (s : am_S) (net : Nat → Int32), s.1 83 = m → (∀ q, q < 6 → s.1 87 q = net q) → ∃ s', rc (Int32.ofNat (v + 1)) (Int32.ofNat nets) s = some (if (rec net).1 = true then 1 else 0, s') ∧ (∀ q, q < 6 → s'.1 87 q = (rec net).2 q) ∧ ix_Fr (fun q => q == 87) s s') :
    ∀ (j k f : Nat) (s : am_S) (net : Nat → Int32), s.1 83 = m → (∀ q, q < 6 → s.1 87 q = net q) → k + j = nets → j < f → ∃ s', F_X12_areIn_82_b14 rc f (Int32.ofNat v) (Int32.ofNat nets) (Int32.ofNat k) s = some (if (sq_cpl rec m v j k net).1 = true then 1 else 0, s') ∧ (∀ q, q < 6 → s'.1 87 q = (sq_cpl rec m v j k net).2 q) ∧ ix_Fr (fun q => q == 87) s s' := by
  intro j
  induction j with
  | zero =>
    intro k f s net R hn hl hf
    obtain ⟨f, rfl⟩ : ∃ g, f = g + 1 := ⟨f - 1, by omega⟩
    refine ⟨s, ?_, hn, ix_Fr.rf⟩
    rw [F_X12_areIn_82_b14, if_pos (by rw [ix_le (by omega) (by omega)]; omega)]
    rfl
  | succ j ih =>
    intro k f s net R hn hl hf
    obtain ⟨f, rfl⟩ : ∃ g, f = g + 1 := ⟨f - 1, by omega⟩
    obtain ⟨s1, e1⟩ : ∃ s1, s1 = am_sI s 87 v (Int32.ofNat k) := ⟨_, rfl⟩
    have f1 : ix_Fr (fun q => q == 87) s s1 := by rw [e1]; exact ix_Fr.I (by rfl)
    have n1 : ∀ q, q < 6 → s1.1 87 q = upd net v (Int32.ofNat k) q := fun q hq => by rw [e1, ix_sI1, ix_up, hn q hq]
    have R1 : s1.1 83 = m := (f1.1 83 rfl).trans R
    have ha : F_X12_isApart_82 (Int32.ofNat v) s1 = some (if sq_ap m (upd net v (Int32.ofNat k)) v v 0 = true then 1 else 0, s1) := by
      have h := mz_ap hv v 0 1000 s1 true (by rw [R1]; exact ok) n1 (by omega) (by omega)
      rw [Bool.true_and, R1] at h
      exact h
    rw [F_X12_areIn_82_b14, if_neg (by rw [ix_le (by omega) (by omega)]; omega), if_pos (cz_inv hv), ix_nat (by omega), ix_b1, ← e1, ha, ix_b1, sq_cpl, F_X12_areIn_82_b47, ix_addL]
    dsimp only
    by_cases hp : sq_ap m (upd net v (Int32.ofNat k)) v v 0 = true
    · obtain ⟨s2, r1, r2, r3⟩ := hrc s1 _ R1 n1
      rw [if_pos hp, if_neg (by decide), if_pos hp, ix_addL, r1, ix_b1]
      dsimp only
      by_cases hq : (rec (upd net v (Int32.ofNat k))).1 = true
      · rw [if_pos hq, if_neg (by decide), if_pos hq]
        exact ⟨s2, rfl, r2, f1.tr r3⟩
      · rw [if_neg hq, if_pos rfl, if_neg hq, F_X12_areIn_82_b47, ix_addL]
        obtain ⟨s', i1, i2, i3⟩ := ih (k + 1) f s2 _ ((r3.1 83 rfl).trans R1) r2 (by omega) (by omega)
        exact ⟨s', i1, i2, (f1.tr r3).tr i3⟩
    · rw [if_neg hp, if_pos rfl, if_neg hp]
      obtain ⟨s', i1, i2, i3⟩ := ih (k + 1) f s1 _ R1 n1 (by omega) (by omega)
      exact ⟨s', i1, i2, f1.tr i3⟩
theorem mz_cp {m : Nat → Int32} {nets : Nat} (ok : sq_Ok m) (hn6 : nets ≤ 6) : ∀ (l v d : Nat) (s : am_S) (net : Nat → Int32), s.1 83 = m → (∀ q, q < 6 → s.1 87 q = net q) → v + l = sq_cn m → l < d → ∃ s', F_X12_areIn_82 d (Int32.ofNat v) (Int32.ofNat nets) s = some (if (sq_cp m nets l v net).1 = true then 1 else 0, s') ∧ (∀ q, q < 6 → s'.1 87 q = (sq_cp m nets l v net).2 q) ∧ ix_Fr (fun q => q == 87) s s' := by
  obtain ⟨hc, h0⟩ := sq_cn_ok ok
  intro l
  induction l with
  | zero =>
    intro v d s net R hn hl hd
    obtain ⟨d, rfl⟩ : ∃ g, d = g + 1 := ⟨d - 1, by omega⟩
    refine ⟨s, ?_, hn, ix_Fr.rf⟩
    have e0 : s.1 83 (0 : Int32).toNatClampNeg = Int32.ofNat (sq_cn m) := by rw [R]; exact h0
    rw [F_X12_areIn_82, F_X12_areIn_82_o, if_pos ix_k0, e0, if_pos (by rw [ix_eq (by omega) (by omega)]; omega)]
    rfl
  | succ l ih =>
    intro v d s net R hn hl hd
    obtain ⟨d, rfl⟩ : ∃ g, d = g + 1 := ⟨d - 1, by omega⟩
    have e0 : s.1 83 (0 : Int32).toNatClampNeg = Int32.ofNat (sq_cn m) := by rw [R]; exact h0
    rw [F_X12_areIn_82, F_X12_areIn_82_o, if_pos ix_k0, e0, if_neg (by rw [ix_eq (by omega) (by omega)]; omega)]
    exact mz_cpl (rec := fun n => sq_cp m nets l (v + 1) n) ok (show v < 6 by omega) hn6 (fun t n Rt hnt => ih (v + 1) d t n Rt hnt (by omega) (by omega)) nets 0 1000 s net R hn (by omega) (by omega)
theorem cz_pa {m : Nat → Int32} (ok : sq_Ok m) : ∀ (l nets f : Nat) (s : am_S) (net : Nat → Int32), sq_R s.1 8 m → (∀ q, q < 6 → s.1 64 q = net q) → nets + l = sq_cn m → l < f → ∃ s', F_X3_putApart_50_b2 f (Int32.ofNat nets) s = some (Int32.ofNat (sq_pa m l nets net).1, s') ∧ (∀ q, q < 6 → s'.1 64 q = (sq_pa m l nets net).2 q) ∧ ix_Fr (fun q => q == 64) s s' := by
  obtain ⟨hc, h0⟩ := sq_cn_ok ok
  intro l
  induction l with
  | zero =>
    intro nets f s net R hn hl hf
    obtain ⟨f, rfl⟩ : ∃ g, f = g + 1 := ⟨f - 1, by omega⟩
    obtain ⟨s1, i1, i2, i3⟩ := cz_cp (nets := nets) ok (by omega) (sq_cn m) 0 10 s net R hn (by omega) (by omega)
    have hnets : nets = sq_cn m := by omega
    have i1' : F_X3_canPutFrom_50 10 0 (Int32.ofNat nets) s = _ := i1
    have R1 : sq_R s1.1 8 m := sq_R_fr (fun k h1 h2 => i3.1 k (by simp; omega)) R
    refine ⟨s1, ?_, i2, i3⟩
    rw [F_X3_putApart_50_b2, R.2.2.2.2.2.1, h0, if_pos (by rw [ix_le (by omega) (by omega)]; omega), ← hnets, i1', ix_b1]
    dsimp only
    rw [R1.2.2.2.2.2.1, h0, ← hnets]
    rfl
  | succ l ih =>
    intro nets f s net R hn hl hf
    obtain ⟨f, rfl⟩ : ∃ g, f = g + 1 := ⟨f - 1, by omega⟩
    obtain ⟨s1, i1, i2, i3⟩ := cz_cp (nets := nets) ok (by omega) (sq_cn m) 0 10 s net R hn (by omega) (by omega)
    have i1' : F_X3_canPutFrom_50 10 0 (Int32.ofNat nets) s = _ := i1
    have R1 : sq_R s1.1 8 m := sq_R_fr (fun k h1 h2 => i3.1 k (by simp; omega)) R
    rw [F_X3_putApart_50_b2, R.2.2.2.2.2.1, h0, if_neg (by rw [ix_le (by omega) (by omega)]; omega), i1', ix_b1, sq_pa, ix_addL]
    dsimp only
    by_cases h : (sq_cp m nets (sq_cn m) 0 net).1 = true
    · rw [if_pos h, if_neg (by decide), if_pos h]
      exact ⟨s1, rfl, i2, i3⟩
    · rw [if_neg h, if_pos rfl, if_neg h]
      obtain ⟨s', j1, j2, j3⟩ := ih (nets + 1) f s1 _ R1 i2 (by omega) (by omega)
      exact ⟨s', j1, j2, i3.tr j3⟩
/-- what is answered of a row of nets -/
theorem mz_pa {m : Nat → Int32} {w : Int32} (ok : sq_Ok m) (hw : w = -1 ∨ am_in w 6) : ∀ (l nets f : Nat) (s : am_S) (net : Nat → Int32), s.1 83 = m → (∀ q, q < 6 → s.1 87 q = net q) → nets + l = sq_cn m → l < f → ∃ s', F_X12_apart_82_b17 f w (Int32.ofNat nets) s = some (if w = -1 then Int32.ofNat (sq_pa m l nets net).1 else (sq_pa m l nets net).2 w.toNatClampNeg, s') ∧ (∀ q, q < 6 → s'.1 87 q = (sq_pa m l nets net).2 q) ∧ ix_Fr (fun q => q == 87) s s' := by
  obtain ⟨hc, h0⟩ := sq_cn_ok ok
  intro l
  induction l with
  | zero =>
    intro nets f s net R hn hl hf
    obtain ⟨f, rfl⟩ : ∃ g, f = g + 1 := ⟨f - 1, by omega⟩
    obtain ⟨s1, i1, i2, i3⟩ := mz_cp (nets := nets) ok (by omega) (sq_cn m) 0 10 s net R hn (by omega) (by omega)
    have i1' : F_X12_areIn_82 10 0 (Int32.ofNat nets) s = _ := i1
    refine ⟨s1, ?_, i2, i3⟩
    rw [F_X12_apart_82_b17, i1', ix_b1, if_pos (sq_cp_t (by omega) (sq_cn m) 0 net (by omega)), if_neg (show ¬ (1 : Int32) = 0 by decide)]
    dsimp only
    rcases hw with rfl | hw
    · rfl
    · by_cases h1 : w = -1
      · rw [if_pos h1, if_pos h1]; rfl
      · rw [if_neg h1, if_pos hw, if_neg h1, i2 _ (ix_inx.mp hw).2]; rfl
  | succ l ih =>
    intro nets f s net R hn hl hf
    obtain ⟨f, rfl⟩ : ∃ g, f = g + 1 := ⟨f - 1, by omega⟩
    obtain ⟨s1, i1, i2, i3⟩ := mz_cp (nets := nets) ok (by omega) (sq_cn m) 0 10 s net R hn (by omega) (by omega)
    have i1' : F_X12_areIn_82 10 0 (Int32.ofNat nets) s = _ := i1
    rw [F_X12_apart_82_b17, i1', ix_b1, sq_pa, ix_addL]
    dsimp only
    by_cases h : (sq_cp m nets (sq_cn m) 0 net).1 = true
    · rw [if_pos h, if_neg (by decide), if_pos h]
      refine ⟨s1, ?_, i2, i3⟩
      rcases hw with rfl | hw
      · rfl
      · by_cases h1 : w = -1
        · rw [if_pos h1, if_pos h1]
        · rw [if_neg h1, if_pos hw, if_neg h1, i2 _ (ix_inx.mp hw).2]
    · rw [if_neg h, if_pos rfl, if_neg h]
      obtain ⟨s', j1, j2, j3⟩ := ih (nets + 1) f s1 _ ((i3.1 83 rfl).trans R) i2 (by omega) (by omega)
      exact ⟨s', j1, j2, i3.tr j3⟩
theorem ag_apart {w : Int32} : jz_A (F_X11_apart_0 w) (F_X12_apart_82 w) := by
  intro s j
  obtain ⟨ok, R⟩ := j.1
  obtain ⟨hc, h0⟩ := sq_cn_ok ok
  have hN := j.2.2.2.2.2.2.2
  obtain ⟨s1, c1, c2, c3⟩ := cz_pa ok (sq_cn (s.1 83)) 0 1000 s (s.1 87) R hN (by omega) (by omega)
  have h83 : s1.1 83 = s.1 83 := c3.1 83 rfl
  have c1' : F_X3_putApart_50 s = _ := c1
  have main : (w = -1 ∨ am_in w 6) → ∃ v s1 s2, F_X11_apart_0_b18 w s = some (v, s1) ∧ s1.1 83 = s.1 83 ∧ F_X12_apart_82_b15 w s1 = some (v, s2) ∧ jz_J s2 := by
    intro hw
    obtain ⟨s2, d1, d2, d3⟩ := mz_pa (w := w) ok hw (sq_cn (s.1 83)) 0 1000 s1 (s.1 87) h83 (fun q _ => by rw [c3.1 87 rfl]) (by omega) (by omega)
    refine ⟨_, s1, s2, ?_, h83, d1, jz_nets j (fun k h1 h2 => (d3.1 k (by simp; exact h2)).trans (c3.1 k (by simp; exact h1))) (d3.2.trans c3.2) ?_⟩
    · unfold F_X11_apart_0_b18
      rw [c1', ix_b1]
      dsimp only
      rcases hw with rfl | hw
      · rfl
      · by_cases h1 : w = -1
        · rw [if_pos h1, if_pos h1]
        · rw [if_neg h1, if_pos hw, if_neg h1, c2 _ (ix_inx.mp hw).2]
    · intro q hq
      rw [d3.1 64 rfl, c2 q hq, d2 q hq]
  by_cases h1 : w = -1
  · obtain ⟨v, t1, t2, m1, m2, m3, m4⟩ := main (Or.inl h1)
    refine ⟨v, t1, t2, ?_, ?_, m4⟩
    · unfold F_X11_apart_0; rw [if_pos h1]; exact m1
    · unfold F_X12_apart_82; rw [if_pos h1]; exact m3
  · by_cases h2 : 0 ≤ w ∧ w < s.1 83 0
    · obtain ⟨x, hx, hx6, rfl⟩ := sq_isv ok h2
      obtain ⟨v, t1, t2, m1, m2, m3, m4⟩ := main (Or.inr (cz_inv hx6))
      refine ⟨v, t1, t2, ?_, ?_, m4⟩
      · unfold F_X11_apart_0; rw [if_neg h1, cz_has R, if_pos h2, ix_b1, if_neg (show ¬ (1 : Int32) = 0 by decide)]; exact m1
      · unfold F_X12_apart_82; rw [if_neg h1, mz_isVoice (by rw [m2]; exact ok), m2, if_pos h2, ix_b1, if_neg (show ¬ (1 : Int32) = 0 by decide)]; exact m3
    · refine jz_A0 (v := -1) j ?_ ?_
      · unfold F_X11_apart_0; rw [if_neg h1, cz_has R, if_neg h2]; rfl
      · unfold F_X12_apart_82; rw [if_neg h1, mz_isVoice ok, if_neg h2]; rfl
