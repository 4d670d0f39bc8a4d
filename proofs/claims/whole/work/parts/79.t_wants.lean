/-! LAYER 2: what the model's parser wants, and writes (written by hand) -/
def sq_pK2 (k j : Nat) : Bool := k == 82 && (j == 23 || j == 24 || j == 28)
theorem sq_MX_28 {T : Nat → Int32} {n p e : Nat} {x : Int32} {s : am_S} (h : sq_MX T n p e s) : sq_MX T n p e (am_sI s 82 28 x) := by
  obtain ⟨hn, h22, h23, h24, hT⟩ := h
  exact ⟨hn, by rw [ix_sIj (by decide)]; exact h22, by rw [ix_sIj (by decide)]; exact h23, by rw [ix_sIj (by decide)]; exact h24, fun i hi => by rw [ix_sIn (by decide)]; exact hT i hi⟩
theorem mz_wants1 {T : Nat → Int32} {n p e : Nat} {s : am_S} (h : sq_MX T n p e s) (he : e ≤ n) (h28 : s.1 82 28 = 0) : ∃ s', F_X12_wants_82 1 s = some s' ∧ sq_MX T n (sq_nx T n e) (sq_te T n (sq_nx T n e)) s' ∧ s'.1 82 28 = 0 ∧ ix_F2 sq_pK2 s s' := by
  obtain ⟨s', i1, i2, i3⟩ := mz_token (sq_MX_28 (x := 0) h) he
  refine ⟨s', ?_, i2, by rw [i3.1 82 28 (by rfl), ix_sIs], (ix_F2.I (by rfl)).tr (i3.wd (fun k j hk => by unfold sq_pK2 at hk; unfold sq_pK; simp at hk ⊢; omega))⟩
  rw [F_X12_wants_82, h28, if_pos (show (0 : Int32) = 0 from rfl), if_neg (show ¬ (1 : Int32) = 0 by decide), F_X12_wants_82_b17, if_pos (Or.inl rfl), ix_b1, ix_sIs, if_pos (show (0 : Int32) = 0 from rfl), i1, ix_b1]
theorem mz_wants0 {s : am_S} (h28 : s.1 82 28 = 0) : F_X12_wants_82 0 s = some (am_sI s 82 28 1) := by
  rw [F_X12_wants_82, h28, if_pos (show (0 : Int32) = 0 from rfl), if_pos (show (0 : Int32) = 0 from rfl), F_X12_wants_82_b12, F_X12_wants_82_b17, if_pos (Or.inr rfl), ix_b1, ix_sIs, if_neg (show ¬ (1 : Int32) = 0 by decide)]
theorem mz_wantsF {s : am_S} {a : Int32} (h28 : s.1 82 28 = 1) : F_X12_wants_82 a s = some (am_sI s 82 28 1) := by
  rw [F_X12_wants_82, h28, if_neg (show ¬ (1 : Int32) = 0 by decide), F_X12_wants_82_b12, F_X12_wants_82_b17, if_pos (Or.inr rfl), ix_b1, ix_sIs, if_neg (show ¬ (1 : Int32) = 0 by decide)]
theorem mz_writesF {s : am_S} {a : Int32} (h28 : s.1 82 28 = 1) : F_X12_writes_82 a s = some s := by
  rw [F_X12_writes_82, h28, if_neg (show ¬ (1 : Int32) = 0 by decide)]
theorem mz_writes {s : am_S} {a : Int32} {c : Nat} (h28 : s.1 82 28 = 0) (h27 : s.1 82 27 = Int32.ofNat c) (hc : c < 200) : F_X12_writes_82 a s = some (am_sI (am_sI s 83 (96 + c) a) 82 27 (Int32.ofNat (c + 1))) := by
  have hi : am_in (Int32.ofNat (96 + c)) 296 := (ix_in (by omega)).mpr (by omega)
  have hn : (Int32.ofNat (96 + c)).toNatClampNeg = 96 + c := ix_nat (by omega)
  have g : (96 : Int32) + Int32.ofNat c = Int32.ofNat (96 + c) := ix_Ladd c 96
  rw [F_X12_writes_82, h28, if_pos (show (0 : Int32) = 0 from rfl), h27, g, if_pos hi]
  simp only [hn]
  rw [ix_b1, ix_sIn (by decide), h27, ix_addL, ix_b1]
