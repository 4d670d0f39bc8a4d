/-! LAYER 3: the sea, the kept one and the rest, as the constructors leave them (written by hand) -/
theorem am_bm {A B C : Type} {x : Option A} {f : A → Option B} {g : A → C} {g' : B → C} {c : C × C → Bool} (h : (x.bind fun r => (f r).map fun q => (g r, g' q)).map c = some true) : ∃ r q, x = some r ∧ f r = some q ∧ c (g r, g' q) = true := by
  cases x with
  | none => cases h
  | some r =>
    cases hf : f r with
    | none => simp [hf] at h
    | some q => exact ⟨r, q, rfl, hf, by simpa [hf] using h⟩
theorem am_two_x : ∃ r1 r2, am_run none 3000 40 mX11_init (0, am_L0 mX11_init [.ref 0], [], am_hA) = some r1 ∧ am_run none 3000 40 mX12_init (0, am_L0 mX12_init [.ref 82], [], am_new r1.2 12 (am_nf 12)) = some r2 ∧ am_check r1.2 r2.2 = true :=
  am_bm (g := Prod.snd) (g' := Prod.snd) (c := fun q => am_check q.1 q.2) am_two_ok
theorem am_check_x {h1 h2 : am_H} (h : am_check h1 h2 = true) : h1.1.length = 82 ∧ h2.1 = am_SH ∧ am_RFok h2.2.1 ∧ (∀ k j, k < 100 → j < am_sz k → h2.2.2.1 k j = am_E k j) ∧ (∀ q j, q < 4 → j < 40 → h2.2.2.2 (75 + q) j = 0) := by
  unfold am_check at h
  simp only [Bool.and_eq_true, List.all_eq_true, beq_iff_eq, List.mem_range] at h
  obtain ⟨⟨⟨⟨a, b⟩, c⟩, d⟩, e⟩ := h
  exact ⟨a, b, fun z hz => c z hz, fun k j hk hj => d k hk j hj, fun q j hq hj => e q hq j hj⟩
theorem sq_NE {x : Int32} {b : Nat} (n : Nat) (hn : n ≤ b) (h : x = Int32.ofNat n) : sq_N x b := ⟨n, hn, h⟩
theorem am_E_ok : sq_Ok (am_E 83) := by
  have h8 : ∀ j, j < 16 → am_E 83 (8 + j) = 1 := by decide
  have h24 : ∀ j, 24 ≤ j → am_E 83 j = 0 := by
    intro j hj
    unfold am_E
    rw [if_neg (by omega), if_neg (by omega), if_neg (by omega), if_neg (by omega), if_pos rfl, if_neg (by omega), if_neg (by omega), if_neg (by omega)]
  have z : (0 : Int32) = Int32.ofNat 0 := rfl
  refine ⟨⟨0, by omega, rfl, fun v _ _ => h24 _ (by omega)⟩, ⟨0, 12, by omega, by omega, by omega, rfl, rfl⟩, ⟨2, by omega, rfl⟩, ⟨0, by omega, rfl⟩, fun j hj => ⟨1, by omega, h8 j hj⟩, fun v hv => ?_, fun r hr => ?_, ⟨0, by omega, rfl⟩, fun r hr => ?_⟩
  · rw [h24 _ (by omega), h24 _ (by omega), h24 _ (by omega), h24 _ (by omega), h24 _ (by omega)]
    exact ⟨⟨0, by omega, z⟩, ⟨0, by omega, z⟩, ⟨0, by omega, z⟩, ⟨0, by omega, z⟩, ⟨0, by omega, z⟩⟩
  · rw [h24 _ (by omega), h24 _ (by omega), h24 _ (by omega)]
    exact ⟨⟨0, by omega, z⟩, ⟨0, by omega, z⟩, ⟨0, by omega, z⟩⟩
  · have : sq_rn (am_E 83) = 0 := rfl
    omega
theorem am_E_R {x : Nat → Nat → Int32} (e : ∀ k j, k < 100 → j < am_sz k → x k j = am_E k j) : sq_R x 8 (am_E 83) := by
  have h24 : ∀ j, 24 ≤ j → am_E 83 j = 0 := by
    intro j hj
    unfold am_E
    rw [if_neg (by omega), if_neg (by omega), if_neg (by omega), if_neg (by omega), if_pos rfl, if_neg (by omega), if_neg (by omega), if_neg (by omega)]
  have e8 : ∀ j, j < 8 → x 8 j = am_E 8 j := fun j hj => e 8 j (by omega) (by have : am_sz 8 = 19 := rfl; omega)
  have h9 : ∀ j, j < 16 → am_E 9 j = am_E 83 (8 + j) := by decide
  have hz : ∀ k, 10 ≤ k → k < 23 → ∀ j, am_E k j = 0 := by
    intro k h1 h2 j
    unfold am_E
    rw [if_neg (by omega), if_neg (by omega), if_neg (by omega), if_neg (by omega), if_neg (by omega)]
  have s6 : ∀ k, 10 ≤ k → k < 17 → am_sz k = 6 := by
    have : ∀ k, k < 17 → 10 ≤ k → am_sz k = 6 := by decide
    exact fun k h1 h2 => this k h2 h1
  have hv : ∀ k v, 10 ≤ k → k < 17 → v < 6 → x k v = 0 := fun k v h1 h2 h3 => by
    rw [e k v (by omega) (by rw [s6 k h1 h2]; exact h3), hz k h1 (by omega)]
  have hcs : sq_cs (am_E 83) = 0 := by decide
  refine ⟨?_, ?_, ?_, ?_, ?_, ?_, ?_, ?_, fun j hj => ?_, fun v hv6 => ?_, fun r hr => ?_, ?_, ?_, fun r hr => ?_, fun k hk => ?_⟩
  · rw [e8 0 (by omega)]; rfl
  · rw [e8 1 (by omega)]; rfl
  · rw [e8 2 (by omega)]; rfl
  · rw [e8 3 (by omega)]; rfl
  · rw [e8 4 (by omega)]; rfl
  · rw [e8 5 (by omega)]; rfl
  · rw [e8 6 (by omega), hcs]; rfl
  · rw [e8 7 (by omega)]; rfl
  · rw [← h9 j hj]; exact e 9 j (by omega) (by have : am_sz 9 = 16 := rfl; omega)
  · rw [hv _ v (by omega) (by omega) hv6, hv _ v (by omega) (by omega) hv6, hv _ v (by omega) (by omega) hv6, hv _ v (by omega) (by omega) hv6, h24 _ (by omega), h24 _ (by omega), h24 _ (by omega), h24 _ (by omega)]
    exact ⟨rfl, rfl, rfl, rfl⟩
  · rw [hv _ r (by omega) (by omega) hr, hv _ r (by omega) (by omega) hr, hv _ r (by omega) (by omega) hr, h24 _ (by omega), h24 _ (by omega), h24 _ (by omega)]
    exact ⟨rfl, rfl, rfl⟩
  · rw [e 17 0 (by omega) (by decide), hz 17 (by omega) (by omega)]; rfl
  · rw [e 17 1 (by omega) (by decide), hz 17 (by omega) (by omega)]; rfl
  · have : sq_rn (am_E 83) = 0 := rfl
    omega
  · have : sq_en (am_E 83) (sq_rn (am_E 83)) = 0 := rfl
    omega
theorem am_E_J {s : am_S} (e : ∀ k j, k < 100 → j < am_sz k → s.1 k j = am_E k j) (el : ∀ q j, q < 4 → j < 40 → s.2 (75 + q) j = 0) : jz_J s := by
  have h83 : ∀ j, j < 296 → s.1 83 j = am_E 83 j := fun j hj => e 83 j (by omega) (by have : am_sz 83 = 296 := rfl; omega)
  have z4 : ∀ k, (k = 72 ∨ k = 73 ∨ k = 79 ∨ k = 93 ∨ k = 94 ∨ k = 96) → am_sz k = 4 := by
    rintro k (rfl | rfl | rfl | rfl | rfl | rfl) <;> rfl
  refine ⟨⟨sq_Ok_d h83 am_E_ok, sq_R_d am_E_ok h83 (am_E_R e)⟩, ⟨?_, Or.inl ?_⟩, ⟨0, by omega, ?_, ?_, fun i hi => by omega⟩, ⟨0, by omega, ?_, ?_, fun i hi => by omega⟩, fun q hq => ⟨?_, Or.inl ?_, ?_, ⟨0, by omega, ?_⟩, fun i hi => ?_⟩, fun q hq => Or.inr (Or.inr ⟨?_, ?_⟩), ⟨0, by omega, ?_, ?_, fun i hi => absurd hi (by omega)⟩, fun v hv => ?_⟩
  · rw [e 82 3 (by omega) (by decide), e 0 2 (by omega) (by decide)]; rfl
  · rw [e 0 2 (by omega) (by decide)]; rfl
  · rw [e 40 0 (by omega) (by decide)]; rfl
  · rw [e 82 22 (by omega) (by decide)]; rfl
  · rw [e 50 14 (by omega) (by decide)]; rfl
  · rw [e 82 20 (by omega) (by decide)]; rfl
  · rw [e 72 q (by omega) (by rw [z4 72 (by omega)]; exact hq), e 93 q (by omega) (by rw [z4 93 (by omega)]; exact hq)]; rfl
  · rw [e 72 q (by omega) (by rw [z4 72 (by omega)]; exact hq)]; rfl
  · rw [e 73 q (by omega) (by rw [z4 73 (by omega)]; exact hq), e 94 q (by omega) (by rw [z4 94 (by omega)]; exact hq)]; rfl
  · rw [e 73 q (by omega) (by rw [z4 73 (by omega)]; exact hq)]; rfl
  · rw [el q i hq hi, e 95 (40 * q + i) (by omega) (by have : am_sz 95 = 160 := rfl; omega)]; rfl
  · rw [e 79 q (by omega) (by rw [z4 79 (by omega)]; exact hq)]; rfl
  · rw [e 96 q (by omega) (by rw [z4 96 (by omega)]; exact hq)]; rfl
  · rw [e 82 36 (by omega) (by decide)]; rfl
  · rw [e 70 3 (by omega) (by decide)]; rfl
  · rw [e 64 v (by omega) (by have : am_sz 64 = 6 := rfl; omega), e 87 v (by omega) (by have : am_sz 87 = 6 := rfl; omega)]; rfl
/-- the law's run from its head -/
theorem am_law_one {L : Nat} {xs : Nat → Int32} (hrules : jz_A F_X11_rules_0 F_X12_rules_82) (hL : L < 1000000) : ∃ n h1, am_run (some (L, xs)) n 44 mL_law (0, am_L0 mL_law [.ref 1000000], [], am_h0) = some (.int 1, h1) ∧ h1.1 = am_SH := by
  obtain ⟨r1, r2, e1, e2, hch⟩ := am_two_x
  obtain ⟨c1, c2, c3, c4, c5⟩ := am_check_x hch
  have j := am_E_J (s := (r2.2.2.2.1, r2.2.2.2.2)) c4 c5
  obtain ⟨s'', hs⟩ := la_loop (xs := xs) hrules hL (L + 1) 0 _ j (by omega) (by omega)
  have hh : r2.2 = am_hp r2.2.2.1 (r2.2.2.2.1, r2.2.2.2.2) := by
    unfold am_hp; rw [← c2]
  have q18 : am_Q (some (L, xs)) 44 mL_law (18, [.ref 1000000, .ref 0, .ref 82, .int 0], [], r2.2) (.int 1, am_hp r2.2.2.1 s'') := by
    rw [hh]; exact T_L_law_b18 c3 (by omega) (L + 1) 0 _ (1, s'') hs
  have k1 : am_Q (some (L, xs)) 43 mX11_init (0, am_L0 mX11_init [.ref 0], [], am_hA) (r1.1, r1.2) := am_Q_le ⟨3000, am_run_sc _ _ _ _ _ e1⟩ (by omega : 40 ≤ 43)
  have k2 : am_Q (some (L, xs)) 43 mX12_init (0, am_L0 mX12_init [.ref 82], [], am_new r1.2 12 (am_nf 12)) (r2.1, r2.2) := am_Q_le ⟨3000, am_run_sc _ _ _ _ _ e2⟩ (by omega : 40 ≤ 43)
  have q8 : am_Q (some (L, xs)) 44 mL_law (8, [.ref 1000000, .ref 0, .null, .null], [], r1.2) (.int 1, am_hp r2.2.2.1 s'') := by
    refine am_Qh (q := (11, [.ref 1000000, .ref 0, .null, .null], [.ref r1.2.1.length], am_new r1.2 12 (am_nf 12))) dL_law_8 rfl rfl rfl ?_
    rw [c1]
    refine am_Qp (q := (12, [.ref 1000000, .ref 0, .null, .null], [.ref 82, .ref 82])) dL_law_11 rfl rfl ?_
    refine aq_spec (n := 0) (k := 82) (t := 12) (m := am_nf 12) (N := mX12_init) dL_law_12 ⟨rfl, rfl⟩ ?_ (by omega) rfl rfl rfl (by decide) (by decide) k2 rfl ?_
    · show (r1.2.1 ++ [(12, am_nf 12)])[82]? = _
      rw [List.getElem?_append_right (by omega), c1]; rfl
    refine am_Qp (q := (16, [.ref 1000000, .ref 0, .ref 82, .null], [])) dL_law_15 rfl rfl ?_
    refine am_Qp (q := (17, [.ref 1000000, .ref 0, .ref 82, .null], [.int 0])) dL_law_16 rfl rfl ?_
    exact am_Qp (q := (18, [.ref 1000000, .ref 0, .ref 82, .int 0], [])) dL_law_17 rfl rfl q18
  have q0 : am_Q (some (L, xs)) 44 mL_law (0, am_L0 mL_law [.ref 1000000], [], am_h0) (.int 1, am_hp r2.2.2.1 s'') := by
    refine am_Qh (q := (3, [.ref 1000000, .null, .null, .null], [.ref 0], am_hA)) dL_law_0 rfl rfl rfl ?_
    refine am_Qp (q := (4, [.ref 1000000, .null, .null, .null], [.ref 0, .ref 0])) dL_law_3 rfl rfl ?_
    refine aq_spec (n := 0) (k := 0) (t := 11) (m := am_nf 11) (N := mX11_init) dL_law_4 ⟨rfl, rfl⟩ rfl (by omega) rfl rfl rfl (by decide) (by decide) k1 rfl ?_
    exact am_Qp (q := (8, [.ref 1000000, .ref 0, .null, .null], [])) dL_law_7 rfl rfl q8
  obtain ⟨n, hn⟩ := q0
  exact ⟨n, _, hn, rfl⟩
