/-! soundness of the abstract machine: instructions that touch locals and stack alone (written by wip/whole/p08.py) -/
theorem am_ii_s {f : Int32 → Int32 → Int32} {pc : Nat} {L S : List Value} {qq : am_P} (hq : am_ii f pc L S = some qq) : ∃ xx yy S1, S = .int yy :: .int xx :: S1 ∧ qq = (pc + 1, L, .int (f xx yy) :: S1) := by
  unfold am_ii at hq
  split at hq
  · cases hq; exact ⟨_, _, _, rfl, rfl⟩
  · cases hq
theorem am_i1_s {f : Int32 → Value} {pc : Nat} {L S : List Value} {qq : am_P} (hq : am_i1 f pc L S = some qq) : ∃ xx S1, S = .int xx :: S1 ∧ qq = (pc + 1, L, f xx :: S1) := by
  unfold am_i1 at hq
  split at hq
  · cases hq; exact ⟨_, _, rfl, rfl⟩
  · cases hq
theorem am_ll_s {f : Int64 → Int64 → Value} {pc : Nat} {L S : List Value} {qq : am_P} (hq : am_ll f pc L S = some qq) : ∃ xx yy S1, S = .long yy :: .long xx :: S1 ∧ qq = (pc + 1, L, f xx yy :: S1) := by
  unfold am_ll at hq
  split at hq
  · cases hq; exact ⟨_, _, _, rfl, rfl⟩
  · cases hq
theorem am_li_s {f : Int64 → Int32 → Int64} {pc : Nat} {L S : List Value} {qq : am_P} (hq : am_li f pc L S = some qq) : ∃ xx yy S1, S = .int yy :: .long xx :: S1 ∧ qq = (pc + 1, L, .long (f xx yy) :: S1) := by
  unfold am_li at hq
  split at hq
  · cases hq; exact ⟨_, _, _, rfl, rfl⟩
  · cases hq
theorem am_ild_s {n k pc : Nat} {L S : List Value} {qq : am_P} (hq : am_ild n k pc L S = some qq) : ∃ xx, L[k]? = some (.int xx) ∧ qq = (pc + n, L, .int xx :: S) := by
  unfold am_ild at hq
  split at hq
  · rename_i xx hx; cases hq; exact ⟨xx, hx, rfl⟩
  · cases hq
theorem am_lld_s {n k pc : Nat} {L S : List Value} {qq : am_P} (hq : am_lld n k pc L S = some qq) : ∃ xx, L[k]? = some (.long xx) ∧ qq = (pc + n, L, .long xx :: S) := by
  unfold am_lld at hq
  split at hq
  · rename_i xx hx; cases hq; exact ⟨xx, hx, rfl⟩
  · cases hq
theorem am_ald_s {n k pc : Nat} {L S : List Value} {qq : am_P} (hq : am_ald n k pc L S = some qq) : ∃ xx, L[k]? = some (.ref xx) ∧ qq = (pc + n, L, .ref xx :: S) := by
  unfold am_ald at hq
  split at hq
  · rename_i xx hx; cases hq; exact ⟨xx, hx, rfl⟩
  · cases hq
theorem am_ist_s {n k pc : Nat} {L S : List Value} {qq : am_P} (hq : am_ist n k pc L S = some qq) : ∃ xx S1 L1, S = .int xx :: S1 ∧ am_st L k (.int xx) = some L1 ∧ qq = (pc + n, L1, S1) := by
  unfold am_ist at hq
  split at hq
  · obtain ⟨L1, h1, h2⟩ := Option.map_eq_some_iff.mp hq
    exact ⟨_, _, L1, rfl, h1, h2.symm⟩
  · cases hq
theorem am_ast_s {n k pc : Nat} {L S : List Value} {qq : am_P} (hq : am_ast n k pc L S = some qq) : ∃ xx S1 L1, S = .ref xx :: S1 ∧ am_st L k (.ref xx) = some L1 ∧ qq = (pc + n, L1, S1) := by
  unfold am_ast at hq
  split at hq
  · obtain ⟨L1, h1, h2⟩ := Option.map_eq_some_iff.mp hq
    exact ⟨_, _, L1, rfl, h1, h2.symm⟩
  · cases hq
theorem am_lst_s {n k pc : Nat} {L S : List Value} {qq : am_P} (hq : am_lst n k pc L S = some qq) : ∃ xx S1 L1, S = .long xx :: S1 ∧ am_st2 L k (.long xx) = some L1 ∧ qq = (pc + n, L1, S1) := by
  unfold am_lst at hq
  split at hq
  · obtain ⟨L1, h1, h2⟩ := Option.map_eq_some_iff.mp hq
    exact ⟨_, _, L1, rfl, h1, h2.symm⟩
  · cases hq
theorem am_br_s {b : Bool} {pc : Nat} {off : Int} {L S : List Value} {qq : am_P} (hq : am_br b pc off L S = some qq) : (pc : Int) + off = (am_tg pc off : Int) ∧ qq = (if b = true then am_tg pc off else pc + 3, L, S) := by
  unfold am_br at hq
  split at hq
  · rename_i h0; cases hq; exact ⟨by unfold am_tg; omega, rfl⟩
  · cases hq
theorem am_ok_ext {n k : Nat} (h : 1000000 ≤ k) : am_ok n (.ref k) := Or.inr h
theorem am_tg_eq {pc : Nat} {off : Int} (h : 0 ≤ (pc : Int) + off) : (pc : Int) + off = (am_tg pc off : Int) := by unfold am_tg; omega
theorem am_st_lt {L L1 : List Value} {i : Nat} {v : Value} (h : am_st L i v = some L1) : i < L.length := by
  unfold am_st at h
  split at h
  · assumption
  · cases h
theorem am_st2_lt {L L1 : List Value} {i : Nat} {v : Value} (h : am_st2 L i v = some L1) : i + 1 < L.length := by
  unfold am_st2 at h
  split at h
  · assumption
  · cases h
section PU
variable {p : Program} {l : Launch} {e : Env} {R : Room} {s : State} {m : MethodId} {args : Array Value} {below : List Frame} {meth : Method} {c : Code} {H : Heap} {locs : List Loc} {cells slots : Nat} {Q : State → Prop} {cc : ByteArray} {pc : Nat} {ls : Array Slot}
set_option maxHeartbeats 4000000 in
theorem am_W_pu {o : Nat} {i : Instr} {len : Nat} {L S : List Value} {qq : am_P} {ρ : Nat → Nat} {n nL : Nat}
    (hexec : p.tables.exec = Jvm.exec) (hb : c.code = cc) (hown : s.vm.findClass (am_R o) = some m.cls)
    (hci : ∀ x v, am_ci o x = some v → (Jvm.Cond.constant (am_R o) x v).before args s = true) (hcl : ∀ x v, am_cl o x = some v → (Jvm.Cond.constantLong (am_R o) x v).before args s = true)
    (hstr : ∀ x k, am_cs o x = some k → ∃ tx, vk_R (am_R o) x tx (ρ (1000010 + k)) s)
    (hd : decode cc pc = .ok (i, len)) (hl : am_lok i len = true) (hq : am_pu o i pc L S = some qq)
    (hL : am_lr ρ ls nL L) (okL : am_oks n L)
    (kk : ∀ ls', am_lr ρ ls' nL qq.2.1 → W p l e R s m args below meth c H locs cells slots Q (F0 m qq.1 ls' (qq.2.2.map (am_v ρ)))) :
    W p l e R s m args below meth c H locs cells slots Q (F0 m pc ls (S.map (am_v ρ))) := by
  have hnL := hL.2.1
  cases i
  case iconst nn =>
    obtain rfl : len = _ := by simpa [am_lok, am_len] using hl
    simp only [am_pu] at hq; cases hq
    exact lv_iconst hexec hb hd rfl (kk _ hL)
  case bipush nn =>
    obtain rfl : len = _ := by simpa [am_lok, am_len] using hl
    simp only [am_pu] at hq; cases hq
    exact lv_bipush hexec hb hd rfl (kk _ hL)
  case sipush nn =>
    obtain rfl : len = _ := by simpa [am_lok, am_len] using hl
    simp only [am_pu] at hq; cases hq
    exact lv_sipush hexec hb hd rfl (kk _ hL)
  case lconst nn =>
    obtain rfl : len = _ := by simpa [am_lok, am_len] using hl
    simp only [am_pu] at hq; cases hq
    exact lv_lconst hexec hb hd rfl (kk _ hL)
  case ldc xi =>
    obtain rfl : len = _ := by simpa [am_lok, am_len] using hl
    simp only [am_pu] at hq
    split at hq
    · rename_i vv hv; cases hq
      exact lv_ldc hexec hb hown (hci _ _ hv) hd (kk _ hL)
    · obtain ⟨kz, hk, hk2⟩ := Option.map_eq_some_iff.mp hq
      cases hk2
      obtain ⟨tx, hZ⟩ := hstr _ _ hk
      exact va_ldcS hexec hb hown hZ hd (kk _ hL)
  case ldc_w xi =>
    obtain rfl : len = _ := by simpa [am_lok, am_len] using hl
    simp only [am_pu] at hq
    obtain ⟨kz, hk, hk2⟩ := Option.map_eq_some_iff.mp hq
    cases hk2
    exact lv_ldcw hexec hb hown (hci _ _ hk) hd (kk _ hL)
  case ldc2_w xi =>
    obtain rfl : len = _ := by simpa [am_lok, am_len] using hl
    simp only [am_pu] at hq
    obtain ⟨kz, hk, hk2⟩ := Option.map_eq_some_iff.mp hq
    cases hk2
    exact lv_ldc2 hexec hb hown (hcl _ _ hk) hd (kk _ hL)
  case iload_n kz =>
    obtain rfl : len = _ := by simpa [am_lok, am_len] using hl
    simp only [am_pu] at hq
    obtain ⟨xx, hx, rfl⟩ := am_ild_s hq
    exact lv_iload_n hexec hb hd rfl (hL.2.2 _ _ hx (by simp)) (kk _ hL)
  case iload kz =>
    obtain rfl : len = _ := by simpa [am_lok, am_len] using hl
    simp only [am_pu] at hq
    obtain ⟨xx, hx, rfl⟩ := am_ild_s hq
    exact lv_iload hexec hb hd (hL.2.2 _ _ hx (by simp)) (kk _ hL)
  case lload_n kz =>
    obtain rfl : len = _ := by simpa [am_lok, am_len] using hl
    simp only [am_pu] at hq
    obtain ⟨xx, hx, rfl⟩ := am_lld_s hq
    exact lv_lload_n hexec hb hd rfl (hL.2.2 _ _ hx (by simp)) (kk _ hL)
  case lload kz =>
    obtain rfl : len = _ := by simpa [am_lok, am_len] using hl
    simp only [am_pu] at hq
    obtain ⟨xx, hx, rfl⟩ := am_lld_s hq
    exact lv_lload hexec hb hd (hL.2.2 _ _ hx (by simp)) (kk _ hL)
  case aload_n kz =>
    obtain rfl : len = _ := by simpa [am_lok, am_len] using hl
    simp only [am_pu] at hq
    obtain ⟨xx, hx, rfl⟩ := am_ald_s hq
    exact lv_aload_n hexec hb hd rfl (hL.2.2 _ _ hx (by simp)) (kk _ hL)
  case aload kz =>
    obtain rfl : len = _ := by simpa [am_lok, am_len] using hl
    simp only [am_pu] at hq
    obtain ⟨xx, hx, rfl⟩ := am_ald_s hq
    exact lv_aload hexec hb hd (hL.2.2 _ _ hx (by simp)) (kk _ hL)
  case istore_n kz =>
    obtain rfl : len = _ := by simpa [am_lok, am_len] using hl
    simp only [am_pu] at hq
    obtain ⟨xx, S1, L1, rfl, hs, rfl⟩ := am_ist_s hq
    have hlt := am_st_lt hs
    exact lv_istore_n hexec hb hd rfl (am_lr_has hL) (by omega) rfl (fun ls1 hz => kk ls1 (am_st_lr hL okL hs hz))
  case istore kz =>
    obtain rfl : len = _ := by simpa [am_lok, am_len] using hl
    simp only [am_pu] at hq
    obtain ⟨xx, S1, L1, rfl, hs, rfl⟩ := am_ist_s hq
    have hlt := am_st_lt hs
    exact lv_istore hexec hb hd (am_lr_has hL) (by omega) rfl (fun ls1 hz => kk ls1 (am_st_lr hL okL hs hz))
  case lstore_n kz =>
    obtain rfl : len = _ := by simpa [am_lok, am_len] using hl
    simp only [am_pu] at hq
    obtain ⟨xx, S1, L1, rfl, hs, rfl⟩ := am_lst_s hq
    have hlt := am_st2_lt hs
    exact lv_lstore_n hexec hb hd rfl (am_lr_has hL) (by omega) rfl (fun ls1 hz => kk ls1 (am_st2_lr hL okL hs hz))
  case lstore kz =>
    obtain rfl : len = _ := by simpa [am_lok, am_len] using hl
    simp only [am_pu] at hq
    obtain ⟨xx, S1, L1, rfl, hs, rfl⟩ := am_lst_s hq
    have hlt := am_st2_lt hs
    exact lv_lstore hexec hb hd (am_lr_has hL) (by omega) rfl (fun ls1 hz => kk ls1 (am_st2_lr hL okL hs hz))
  case astore_n kz =>
    obtain rfl : len = _ := by simpa [am_lok, am_len] using hl
    simp only [am_pu] at hq
    obtain ⟨xx, S1, L1, rfl, hs, rfl⟩ := am_ast_s hq
    have hlt := am_st_lt hs
    exact lv_astore_n hexec hb hd rfl (am_lr_has hL) (by omega) rfl (fun ls1 hz => kk ls1 (am_st_lr hL okL hs hz))
  case astore kz =>
    obtain rfl : len = _ := by simpa [am_lok, am_len] using hl
    simp only [am_pu] at hq
    obtain ⟨xx, S1, L1, rfl, hs, rfl⟩ := am_ast_s hq
    have hlt := am_st_lt hs
    exact lv_astore hexec hb hd (am_lr_has hL) (by omega) rfl (fun ls1 hz => kk ls1 (am_st_lr hL okL hs hz))
  case iinc kz nn =>
    obtain rfl : len = _ := by simpa [am_lok, am_len] using hl
    simp only [am_pu] at hq
    split at hq
    · rename_i xx hx
      obtain ⟨L1, hs, hk2⟩ := Option.map_eq_some_iff.mp hq
      cases hk2
      have hlt := am_st_lt hs
      obtain ⟨jz, hj⟩ := List.getElem?_of_mem (am_lv_mem.mpr ⟨_, hx, by simp, rfl⟩ : (kz, am_v ρ (.int xx)) ∈ am_lv ρ L)
      exact lv_iinc hexec hb hd (am_lr_has hL) hj rfl (by omega) rfl (fun ls1 hz => kk ls1 (am_st_lr hL okL hs hz))
    · cases hq
  case iadd =>
    obtain rfl : len = _ := by simpa [am_lok, am_len] using hl
    simp only [am_pu] at hq
    obtain ⟨xx, yy, S1, rfl, rfl⟩ := am_ii_s hq
    exact lv_iadd hexec hb hd (kk _ hL)
  case isub =>
    obtain rfl : len = _ := by simpa [am_lok, am_len] using hl
    simp only [am_pu] at hq
    obtain ⟨xx, yy, S1, rfl, rfl⟩ := am_ii_s hq
    exact lv_isub hexec hb hd (kk _ hL)
  case imul =>
    obtain rfl : len = _ := by simpa [am_lok, am_len] using hl
    simp only [am_pu] at hq
    obtain ⟨xx, yy, S1, rfl, rfl⟩ := am_ii_s hq
    exact lv_imul hexec hb hd (kk _ hL)
  case iand =>
    obtain rfl : len = _ := by simpa [am_lok, am_len] using hl
    simp only [am_pu] at hq
    obtain ⟨xx, yy, S1, rfl, rfl⟩ := am_ii_s hq
    exact lv_iand hexec hb hd (kk _ hL)
  case ior =>
    obtain rfl : len = _ := by simpa [am_lok, am_len] using hl
    simp only [am_pu] at hq
    obtain ⟨xx, yy, S1, rfl, rfl⟩ := am_ii_s hq
    exact lv_ior hexec hb hd (kk _ hL)
  case ixor =>
    obtain rfl : len = _ := by simpa [am_lok, am_len] using hl
    simp only [am_pu] at hq
    obtain ⟨xx, yy, S1, rfl, rfl⟩ := am_ii_s hq
    exact lv_ixor hexec hb hd (kk _ hL)
  case ishl =>
    obtain rfl : len = _ := by simpa [am_lok, am_len] using hl
    simp only [am_pu] at hq
    obtain ⟨xx, yy, S1, rfl, rfl⟩ := am_ii_s hq
    exact lv_ishl hexec hb hd (kk _ hL)
  case ishr =>
    obtain rfl : len = _ := by simpa [am_lok, am_len] using hl
    simp only [am_pu] at hq
    obtain ⟨xx, yy, S1, rfl, rfl⟩ := am_ii_s hq
    exact lv_ishr hexec hb hd (kk _ hL)
  case iushr =>
    obtain rfl : len = _ := by simpa [am_lok, am_len] using hl
    simp only [am_pu] at hq
    obtain ⟨xx, yy, S1, rfl, rfl⟩ := am_ii_s hq
    exact lv_iushr hexec hb hd rfl (kk _ hL)
  case idiv =>
    obtain rfl : len = _ := by simpa [am_lok, am_len] using hl
    simp only [am_pu] at hq
    split at hq
    · split at hq
      · cases hq
      · rename_i hne; cases hq
        exact lv_idiv hexec hb hd hne (kk _ hL)
    · cases hq
  case irem =>
    obtain rfl : len = _ := by simpa [am_lok, am_len] using hl
    simp only [am_pu] at hq
    split at hq
    · split at hq
      · cases hq
      · rename_i hne; cases hq
        exact lv_irem hexec hb hd hne (kk _ hL)
    · cases hq
  case ineg =>
    obtain rfl : len = _ := by simpa [am_lok, am_len] using hl
    simp only [am_pu] at hq
    obtain ⟨xx, S1, rfl, rfl⟩ := am_i1_s hq
    exact lv_ineg hexec hb hd (kk _ hL)
  case i2l =>
    obtain rfl : len = _ := by simpa [am_lok, am_len] using hl
    simp only [am_pu] at hq
    obtain ⟨xx, S1, rfl, rfl⟩ := am_i1_s hq
    exact lv_i2l hexec hb hd rfl (kk _ hL)
  case i2b =>
    obtain rfl : len = _ := by simpa [am_lok, am_len] using hl
    simp only [am_pu] at hq
    obtain ⟨xx, S1, rfl, rfl⟩ := am_i1_s hq
    exact lv_i2b hexec hb hd rfl (kk _ hL)
  case i2s =>
    obtain rfl : len = _ := by simpa [am_lok, am_len] using hl
    simp only [am_pu] at hq
    obtain ⟨xx, S1, rfl, rfl⟩ := am_i1_s hq
    exact lv_i2s hexec hb hd rfl (kk _ hL)
  case i2c =>
    obtain rfl : len = _ := by simpa [am_lok, am_len] using hl
    simp only [am_pu] at hq
    obtain ⟨xx, S1, rfl, rfl⟩ := am_i1_s hq
    exact lv_i2c hexec hb hd rfl (kk _ hL)
  case l2i =>
    obtain rfl : len = _ := by simpa [am_lok, am_len] using hl
    simp only [am_pu] at hq
    split at hq
    · cases hq; exact lv_l2i hexec hb hd rfl (kk _ hL)
    · cases hq
  case ladd =>
    obtain rfl : len = _ := by simpa [am_lok, am_len] using hl
    simp only [am_pu] at hq
    obtain ⟨xx, yy, S1, rfl, rfl⟩ := am_ll_s hq
    exact lv_ladd hexec hb hd (kk _ hL)
  case lmul =>
    obtain rfl : len = _ := by simpa [am_lok, am_len] using hl
    simp only [am_pu] at hq
    obtain ⟨xx, yy, S1, rfl, rfl⟩ := am_ll_s hq
    exact lv_lmul hexec hb hd (kk _ hL)
  case land =>
    obtain rfl : len = _ := by simpa [am_lok, am_len] using hl
    simp only [am_pu] at hq
    obtain ⟨xx, yy, S1, rfl, rfl⟩ := am_ll_s hq
    exact lv_land hexec hb hd (kk _ hL)
  case lor =>
    obtain rfl : len = _ := by simpa [am_lok, am_len] using hl
    simp only [am_pu] at hq
    obtain ⟨xx, yy, S1, rfl, rfl⟩ := am_ll_s hq
    exact lv_lor hexec hb hd (kk _ hL)
  case lcmp =>
    obtain rfl : len = _ := by simpa [am_lok, am_len] using hl
    simp only [am_pu] at hq
    obtain ⟨xx, yy, S1, rfl, rfl⟩ := am_ll_s hq
    exact W.lcmp hexec hb hd (kk _ hL)
  case lshl =>
    obtain rfl : len = _ := by simpa [am_lok, am_len] using hl
    simp only [am_pu] at hq
    obtain ⟨xx, yy, S1, rfl, rfl⟩ := am_li_s hq
    exact lv_lshl hexec hb hd rfl (kk _ hL)
  case lshr =>
    obtain rfl : len = _ := by simpa [am_lok, am_len] using hl
    simp only [am_pu] at hq
    obtain ⟨xx, yy, S1, rfl, rfl⟩ := am_li_s hq
    exact lv_lshr hexec hb hd rfl (kk _ hL)
  case lushr =>
    obtain rfl : len = _ := by simpa [am_lok, am_len] using hl
    simp only [am_pu] at hq
    obtain ⟨xx, yy, S1, rfl, rfl⟩ := am_li_s hq
    exact lv_lushr hexec hb hd rfl (kk _ hL)
  case dup =>
    obtain rfl : len = _ := by simpa [am_lok, am_len] using hl
    simp only [am_pu] at hq
    split at hq
    · split at hq
      · rename_i hv; cases hq
        exact lv_dup hexec hb hd (by rw [am_v_cat]; exact hv) (kk _ hL)
      · cases hq
    · cases hq
  case dup2 =>
    obtain rfl : len = _ := by simpa [am_lok, am_len] using hl
    simp only [am_pu] at hq
    split at hq
    · split at hq
      · rename_i hv; cases hq
        exact lv_dup2_11 hexec hb hd (by rw [am_v_cat]; exact hv.1) (by rw [am_v_cat]; exact hv.2) (kk _ hL)
      · cases hq
    · cases hq
  case pop =>
    obtain rfl : len = _ := by simpa [am_lok, am_len] using hl
    simp only [am_pu] at hq
    split at hq
    · split at hq
      · rename_i hv; cases hq
        exact lv_pop hexec hb hd (by rw [am_v_cat]; exact hv) (kk _ hL)
      · cases hq
    · cases hq
  case ifCond cz off =>
    obtain rfl : len = _ := by simpa [am_lok, am_len] using hl
    simp only [am_pu] at hq
    split at hq
    · rename_i xx S1
      obtain ⟨ht, rfl⟩ := am_br_s hq
      have k1 := kk _ hL
      cases cz
      · refine lv_if_eq hexec hb hd ht (fun hz => ?_) (fun hz => ?_)
        · rw [if_pos (show am_cmp .eq xx 0 = true from decide_eq_true hz)] at k1; exact k1
        · rw [if_neg (by simp only [am_cmp, decide_eq_true_eq]; exact hz)] at k1; exact k1
      · refine lv_if_ne hexec hb hd ht (fun hz => ?_) (fun hz => ?_)
        · rw [if_pos (show am_cmp .ne xx 0 = true from decide_eq_true hz)] at k1; exact k1
        · rw [if_neg (by simp [am_cmp, hz])] at k1; exact k1
      · refine lv_if_lt hexec hb hd ht (fun hz => ?_) (fun hz => ?_)
        · rw [if_pos (show am_cmp .lt xx 0 = true from decide_eq_true hz)] at k1; exact k1
        · rw [if_neg (by simp only [am_cmp, decide_eq_true_eq]; exact hz)] at k1; exact k1
      · refine lv_if_ge hexec hb hd ht (fun hz => ?_) (fun hz => ?_)
        · rw [if_pos (show am_cmp .ge xx 0 = true from decide_eq_true hz)] at k1; exact k1
        · rw [if_neg (by simp only [am_cmp, decide_eq_true_eq]; exact hz)] at k1; exact k1
      · refine lv_if_gt hexec hb hd ht (fun hz => ?_) (fun hz => ?_)
        · rw [if_pos (show am_cmp .gt xx 0 = true from decide_eq_true hz)] at k1; exact k1
        · rw [if_neg (by simp only [am_cmp, decide_eq_true_eq]; exact hz)] at k1; exact k1
      · refine lv_if_le hexec hb hd ht (fun hz => ?_) (fun hz => ?_)
        · rw [if_pos (show am_cmp .le xx 0 = true from decide_eq_true hz)] at k1; exact k1
        · rw [if_neg (by simp only [am_cmp, decide_eq_true_eq]; exact hz)] at k1; exact k1
    · cases hq
  case if_icmp cz off =>
    obtain rfl : len = _ := by simpa [am_lok, am_len] using hl
    simp only [am_pu] at hq
    split at hq
    · rename_i yy xx S1
      obtain ⟨ht, rfl⟩ := am_br_s hq
      have k1 := kk _ hL
      cases cz
      · refine lv_icmp_eq hexec hb hd ht (fun hz => ?_) (fun hz => ?_)
        · rw [if_pos (show am_cmp .eq xx yy = true from decide_eq_true hz)] at k1; exact k1
        · rw [if_neg (by simp only [am_cmp, decide_eq_true_eq]; exact hz)] at k1; exact k1
      · refine lv_icmp_ne hexec hb hd ht (fun hz => ?_) (fun hz => ?_)
        · rw [if_pos (show am_cmp .ne xx yy = true from decide_eq_true hz)] at k1; exact k1
        · rw [if_neg (by simp [am_cmp, hz])] at k1; exact k1
      · refine lv_icmp_lt hexec hb hd ht (fun hz => ?_) (fun hz => ?_)
        · rw [if_pos (show am_cmp .lt xx yy = true from decide_eq_true hz)] at k1; exact k1
        · rw [if_neg (by simp only [am_cmp, decide_eq_true_eq]; exact hz)] at k1; exact k1
      · refine lv_icmp_ge hexec hb hd ht (fun hz => ?_) (fun hz => ?_)
        · rw [if_pos (show am_cmp .ge xx yy = true from decide_eq_true hz)] at k1; exact k1
        · rw [if_neg (by simp only [am_cmp, decide_eq_true_eq]; exact hz)] at k1; exact k1
      · refine lv_icmp_gt hexec hb hd ht (fun hz => ?_) (fun hz => ?_)
        · rw [if_pos (show am_cmp .gt xx yy = true from decide_eq_true hz)] at k1; exact k1
        · rw [if_neg (by simp only [am_cmp, decide_eq_true_eq]; exact hz)] at k1; exact k1
      · refine lv_icmp_le hexec hb hd ht (fun hz => ?_) (fun hz => ?_)
        · rw [if_pos (show am_cmp .le xx yy = true from decide_eq_true hz)] at k1; exact k1
        · rw [if_neg (by simp only [am_cmp, decide_eq_true_eq]; exact hz)] at k1; exact k1
    · cases hq
  case goto off =>
    obtain rfl : len = _ := by simpa [am_lok, am_len] using hl
    simp only [am_pu] at hq
    split at hq
    · rename_i h0; cases hq
      exact lv_goto (tgt := am_tg pc off) hexec hb hd (by unfold am_tg; omega) (kk _ hL)
    · cases hq
  case tableswitch dflt lo hi offs =>
    simp only [am_pu] at hq
    split at hq
    · rename_i xx S1
      obtain ⟨tz, ht, hk2⟩ := Option.map_eq_some_iff.mp hq
      cases hk2
      unfold am_tsw at ht
      split at ht
      · rename_i hout
        split at ht
        · cases ht
          exact lv_tableOut hexec hb hd hout (by unfold am_tg; omega) (kk _ hL)
        · cases ht
      · rename_i hout
        split at ht
        · rename_i off ho
          split at ht
          · cases ht
            exact lv_tableIn hexec hb hd (fun hz => hout (Or.inl hz)) (fun hz => hout (Or.inr hz)) ho (by unfold am_tg; omega) (kk _ hL)
          · cases ht
        · cases ht
    · cases hq
  case lookupswitch dflt ps =>
    simp only [am_pu] at hq
    split at hq
    · rename_i xx S1
      obtain ⟨tz, ht, hk2⟩ := Option.map_eq_some_iff.mp hq
      cases hk2
      unfold am_lsw at ht
      split at ht
      · rename_i hp
        cases ht
        have h0 := hp.2
        exact lv_lookup (off := Op.lookupswitch.offset ps.toList dflt xx.toInt) (tgt := am_tg pc (Op.lookupswitch.offset ps.toList dflt xx.toInt)) hexec hb hd hp.1 rfl (am_tg_eq h0) (kk _ hL)
      · cases ht
    · cases hq
  all_goals (exact absurd hq (by simp [am_pu]))
end PU
set_option maxHeartbeats 4000000 in
theorem am_pu_ok {o : Nat} {i : Instr} {pc : Nat} {L S : List Value} {qq : am_P} {n : Nat} (hq : am_pu o i pc L S = some qq) (okL : am_oks n L) (okS : am_oks n S) : am_oks n qq.2.1 ∧ am_oks n qq.2.2 := by
  cases i
  case iconst nn =>
    simp only [am_pu] at hq; cases hq
    exact ⟨okL, am_oks_cons.mpr ⟨trivial, okS⟩⟩
  case bipush nn =>
    simp only [am_pu] at hq; cases hq
    exact ⟨okL, am_oks_cons.mpr ⟨trivial, okS⟩⟩
  case sipush nn =>
    simp only [am_pu] at hq; cases hq
    exact ⟨okL, am_oks_cons.mpr ⟨trivial, okS⟩⟩
  case lconst nn =>
    simp only [am_pu] at hq; cases hq
    exact ⟨okL, am_oks_cons.mpr ⟨trivial, okS⟩⟩
  case ldc xi =>
    simp only [am_pu] at hq
    split at hq
    · cases hq; exact ⟨okL, am_oks_cons.mpr ⟨trivial, okS⟩⟩
    · obtain ⟨kz, hk, hk2⟩ := Option.map_eq_some_iff.mp hq
      cases hk2
      exact ⟨okL, am_oks_cons.mpr ⟨am_ok_ext (by omega), okS⟩⟩
  case ldc_w xi =>
    simp only [am_pu] at hq
    obtain ⟨kz, hk, hk2⟩ := Option.map_eq_some_iff.mp hq
    cases hk2
    exact ⟨okL, am_oks_cons.mpr ⟨trivial, okS⟩⟩
  case ldc2_w xi =>
    simp only [am_pu] at hq
    obtain ⟨kz, hk, hk2⟩ := Option.map_eq_some_iff.mp hq
    cases hk2
    exact ⟨okL, am_oks_cons.mpr ⟨trivial, okS⟩⟩
  case iload_n kz =>
    simp only [am_pu] at hq
    obtain ⟨xx, hx, rfl⟩ := am_ild_s hq
    exact ⟨okL, am_oks_cons.mpr ⟨okL _ (List.mem_of_getElem? hx), okS⟩⟩
  case iload kz =>
    simp only [am_pu] at hq
    obtain ⟨xx, hx, rfl⟩ := am_ild_s hq
    exact ⟨okL, am_oks_cons.mpr ⟨okL _ (List.mem_of_getElem? hx), okS⟩⟩
  case lload_n kz =>
    simp only [am_pu] at hq
    obtain ⟨xx, hx, rfl⟩ := am_lld_s hq
    exact ⟨okL, am_oks_cons.mpr ⟨okL _ (List.mem_of_getElem? hx), okS⟩⟩
  case lload kz =>
    simp only [am_pu] at hq
    obtain ⟨xx, hx, rfl⟩ := am_lld_s hq
    exact ⟨okL, am_oks_cons.mpr ⟨okL _ (List.mem_of_getElem? hx), okS⟩⟩
  case aload_n kz =>
    simp only [am_pu] at hq
    obtain ⟨xx, hx, rfl⟩ := am_ald_s hq
    exact ⟨okL, am_oks_cons.mpr ⟨okL _ (List.mem_of_getElem? hx), okS⟩⟩
  case aload kz =>
    simp only [am_pu] at hq
    obtain ⟨xx, hx, rfl⟩ := am_ald_s hq
    exact ⟨okL, am_oks_cons.mpr ⟨okL _ (List.mem_of_getElem? hx), okS⟩⟩
  case istore_n kz =>
    simp only [am_pu] at hq
    obtain ⟨xx, S1, L1, rfl, hs, rfl⟩ := am_ist_s hq
    exact ⟨am_st_ok hs okL (am_oks_cons.mp okS).1, (am_oks_cons.mp okS).2⟩
  case istore kz =>
    simp only [am_pu] at hq
    obtain ⟨xx, S1, L1, rfl, hs, rfl⟩ := am_ist_s hq
    exact ⟨am_st_ok hs okL (am_oks_cons.mp okS).1, (am_oks_cons.mp okS).2⟩
  case lstore_n kz =>
    simp only [am_pu] at hq
    obtain ⟨xx, S1, L1, rfl, hs, rfl⟩ := am_lst_s hq
    exact ⟨am_st2_ok hs okL (am_oks_cons.mp okS).1, (am_oks_cons.mp okS).2⟩
  case lstore kz =>
    simp only [am_pu] at hq
    obtain ⟨xx, S1, L1, rfl, hs, rfl⟩ := am_lst_s hq
    exact ⟨am_st2_ok hs okL (am_oks_cons.mp okS).1, (am_oks_cons.mp okS).2⟩
  case astore_n kz =>
    simp only [am_pu] at hq
    obtain ⟨xx, S1, L1, rfl, hs, rfl⟩ := am_ast_s hq
    exact ⟨am_st_ok hs okL (am_oks_cons.mp okS).1, (am_oks_cons.mp okS).2⟩
  case astore kz =>
    simp only [am_pu] at hq
    obtain ⟨xx, S1, L1, rfl, hs, rfl⟩ := am_ast_s hq
    exact ⟨am_st_ok hs okL (am_oks_cons.mp okS).1, (am_oks_cons.mp okS).2⟩
  case iinc kz nn =>
    simp only [am_pu] at hq
    split at hq
    · obtain ⟨L1, hs, hk2⟩ := Option.map_eq_some_iff.mp hq
      cases hk2
      exact ⟨am_st_ok hs okL trivial, okS⟩
    · cases hq
  case iadd =>
    simp only [am_pu] at hq
    obtain ⟨xx, yy, S1, rfl, rfl⟩ := am_ii_s hq
    exact ⟨okL, am_oks_cons.mpr ⟨trivial, (am_oks_cons.mp (am_oks_cons.mp okS).2).2⟩⟩
  case isub =>
    simp only [am_pu] at hq
    obtain ⟨xx, yy, S1, rfl, rfl⟩ := am_ii_s hq
    exact ⟨okL, am_oks_cons.mpr ⟨trivial, (am_oks_cons.mp (am_oks_cons.mp okS).2).2⟩⟩
  case imul =>
    simp only [am_pu] at hq
    obtain ⟨xx, yy, S1, rfl, rfl⟩ := am_ii_s hq
    exact ⟨okL, am_oks_cons.mpr ⟨trivial, (am_oks_cons.mp (am_oks_cons.mp okS).2).2⟩⟩
  case iand =>
    simp only [am_pu] at hq
    obtain ⟨xx, yy, S1, rfl, rfl⟩ := am_ii_s hq
    exact ⟨okL, am_oks_cons.mpr ⟨trivial, (am_oks_cons.mp (am_oks_cons.mp okS).2).2⟩⟩
  case ior =>
    simp only [am_pu] at hq
    obtain ⟨xx, yy, S1, rfl, rfl⟩ := am_ii_s hq
    exact ⟨okL, am_oks_cons.mpr ⟨trivial, (am_oks_cons.mp (am_oks_cons.mp okS).2).2⟩⟩
  case ixor =>
    simp only [am_pu] at hq
    obtain ⟨xx, yy, S1, rfl, rfl⟩ := am_ii_s hq
    exact ⟨okL, am_oks_cons.mpr ⟨trivial, (am_oks_cons.mp (am_oks_cons.mp okS).2).2⟩⟩
  case ishl =>
    simp only [am_pu] at hq
    obtain ⟨xx, yy, S1, rfl, rfl⟩ := am_ii_s hq
    exact ⟨okL, am_oks_cons.mpr ⟨trivial, (am_oks_cons.mp (am_oks_cons.mp okS).2).2⟩⟩
  case ishr =>
    simp only [am_pu] at hq
    obtain ⟨xx, yy, S1, rfl, rfl⟩ := am_ii_s hq
    exact ⟨okL, am_oks_cons.mpr ⟨trivial, (am_oks_cons.mp (am_oks_cons.mp okS).2).2⟩⟩
  case iushr =>
    simp only [am_pu] at hq
    obtain ⟨xx, yy, S1, rfl, rfl⟩ := am_ii_s hq
    exact ⟨okL, am_oks_cons.mpr ⟨trivial, (am_oks_cons.mp (am_oks_cons.mp okS).2).2⟩⟩
  case ladd =>
    simp only [am_pu] at hq
    obtain ⟨xx, yy, S1, rfl, rfl⟩ := am_ll_s hq
    exact ⟨okL, am_oks_cons.mpr ⟨trivial, (am_oks_cons.mp (am_oks_cons.mp okS).2).2⟩⟩
  case lmul =>
    simp only [am_pu] at hq
    obtain ⟨xx, yy, S1, rfl, rfl⟩ := am_ll_s hq
    exact ⟨okL, am_oks_cons.mpr ⟨trivial, (am_oks_cons.mp (am_oks_cons.mp okS).2).2⟩⟩
  case land =>
    simp only [am_pu] at hq
    obtain ⟨xx, yy, S1, rfl, rfl⟩ := am_ll_s hq
    exact ⟨okL, am_oks_cons.mpr ⟨trivial, (am_oks_cons.mp (am_oks_cons.mp okS).2).2⟩⟩
  case lor =>
    simp only [am_pu] at hq
    obtain ⟨xx, yy, S1, rfl, rfl⟩ := am_ll_s hq
    exact ⟨okL, am_oks_cons.mpr ⟨trivial, (am_oks_cons.mp (am_oks_cons.mp okS).2).2⟩⟩
  case lcmp =>
    simp only [am_pu] at hq
    obtain ⟨xx, yy, S1, rfl, rfl⟩ := am_ll_s hq
    exact ⟨okL, am_oks_cons.mpr ⟨trivial, (am_oks_cons.mp (am_oks_cons.mp okS).2).2⟩⟩
  case lshl =>
    simp only [am_pu] at hq
    obtain ⟨xx, yy, S1, rfl, rfl⟩ := am_li_s hq
    exact ⟨okL, am_oks_cons.mpr ⟨trivial, (am_oks_cons.mp (am_oks_cons.mp okS).2).2⟩⟩
  case lshr =>
    simp only [am_pu] at hq
    obtain ⟨xx, yy, S1, rfl, rfl⟩ := am_li_s hq
    exact ⟨okL, am_oks_cons.mpr ⟨trivial, (am_oks_cons.mp (am_oks_cons.mp okS).2).2⟩⟩
  case lushr =>
    simp only [am_pu] at hq
    obtain ⟨xx, yy, S1, rfl, rfl⟩ := am_li_s hq
    exact ⟨okL, am_oks_cons.mpr ⟨trivial, (am_oks_cons.mp (am_oks_cons.mp okS).2).2⟩⟩
  case idiv =>
    simp only [am_pu] at hq
    split at hq
    · split at hq
      · cases hq
      · cases hq; exact ⟨okL, am_oks_cons.mpr ⟨trivial, (am_oks_cons.mp (am_oks_cons.mp okS).2).2⟩⟩
    · cases hq
  case irem =>
    simp only [am_pu] at hq
    split at hq
    · split at hq
      · cases hq
      · cases hq; exact ⟨okL, am_oks_cons.mpr ⟨trivial, (am_oks_cons.mp (am_oks_cons.mp okS).2).2⟩⟩
    · cases hq
  case ineg =>
    simp only [am_pu] at hq
    obtain ⟨xx, S1, rfl, rfl⟩ := am_i1_s hq
    exact ⟨okL, am_oks_cons.mpr ⟨trivial, (am_oks_cons.mp okS).2⟩⟩
  case i2l =>
    simp only [am_pu] at hq
    obtain ⟨xx, S1, rfl, rfl⟩ := am_i1_s hq
    exact ⟨okL, am_oks_cons.mpr ⟨trivial, (am_oks_cons.mp okS).2⟩⟩
  case i2b =>
    simp only [am_pu] at hq
    obtain ⟨xx, S1, rfl, rfl⟩ := am_i1_s hq
    exact ⟨okL, am_oks_cons.mpr ⟨trivial, (am_oks_cons.mp okS).2⟩⟩
  case i2s =>
    simp only [am_pu] at hq
    obtain ⟨xx, S1, rfl, rfl⟩ := am_i1_s hq
    exact ⟨okL, am_oks_cons.mpr ⟨trivial, (am_oks_cons.mp okS).2⟩⟩
  case i2c =>
    simp only [am_pu] at hq
    obtain ⟨xx, S1, rfl, rfl⟩ := am_i1_s hq
    exact ⟨okL, am_oks_cons.mpr ⟨trivial, (am_oks_cons.mp okS).2⟩⟩
  case l2i =>
    simp only [am_pu] at hq
    split at hq
    · cases hq; exact ⟨okL, am_oks_cons.mpr ⟨trivial, (am_oks_cons.mp okS).2⟩⟩
    · cases hq
  case dup =>
    simp only [am_pu] at hq
    split at hq
    · split at hq
      · cases hq; exact ⟨okL, am_oks_cons.mpr ⟨(am_oks_cons.mp okS).1, okS⟩⟩
      · cases hq
    · cases hq
  case dup2 =>
    simp only [am_pu] at hq
    split at hq
    · split at hq
      · cases hq; exact ⟨okL, am_oks_cons.mpr ⟨(am_oks_cons.mp okS).1, am_oks_cons.mpr ⟨(am_oks_cons.mp (am_oks_cons.mp okS).2).1, okS⟩⟩⟩
      · cases hq
    · cases hq
  case pop =>
    simp only [am_pu] at hq
    split at hq
    · split at hq
      · cases hq; exact ⟨okL, (am_oks_cons.mp okS).2⟩
      · cases hq
    · cases hq
  case ifCond cz off =>
    simp only [am_pu] at hq
    split at hq
    · obtain ⟨ht, rfl⟩ := am_br_s hq; exact ⟨okL, (am_oks_cons.mp okS).2⟩
    · cases hq
  case if_icmp cz off =>
    simp only [am_pu] at hq
    split at hq
    · obtain ⟨ht, rfl⟩ := am_br_s hq; exact ⟨okL, (am_oks_cons.mp (am_oks_cons.mp okS).2).2⟩
    · cases hq
  case goto off =>
    simp only [am_pu] at hq
    split at hq
    · cases hq; exact ⟨okL, okS⟩
    · cases hq
  case tableswitch dflt lo hi offs =>
    simp only [am_pu] at hq
    split at hq
    · obtain ⟨tz, ht, hk2⟩ := Option.map_eq_some_iff.mp hq
      cases hk2; exact ⟨okL, (am_oks_cons.mp okS).2⟩
    · cases hq
  case lookupswitch dflt ps =>
    simp only [am_pu] at hq
    split at hq
    · obtain ⟨tz, ht, hk2⟩ := Option.map_eq_some_iff.mp hq
      cases hk2; exact ⟨okL, (am_oks_cons.mp okS).2⟩
    · cases hq
  all_goals (exact absurd hq (by simp [am_pu]))
