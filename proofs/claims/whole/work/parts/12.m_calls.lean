/-! calls: from the tables to the machine -/
theorem am_gi {ws : List Jvm.Cond} (h : ∀ w ∈ ws, w ∈ am_TG) : GoodIn am_TG ws := fun w hw => ⟨h w hw, good_of_word (List.mem_filter.mp (h w hw)).2⟩
/-- of a method that may be called -/
def am_Good (N : am_Me) : Prop := plainName N.2.1.cls = true ∧ N.2.2.2.1 ≤ 40 ∧ am_R N.1 = N.2.1.cls ∧ am_wc N ∈ am_TG
theorem am_dM_s {n : Nat} {N : am_Me} (h : am_dM n N = true) (hw : am_wc N ∈ am_TG) : am_Good N ∧ N.2.1.cls ≠ "java/lang/invoke/MethodHandle" ∧ N.2.1.cls ≠ "java/lang/invoke/VarHandle" ∧ (parseMethodDescriptor N.2.1.desc).map (fun d => d.parameters.length) = some n := by
  simp only [am_dM, Bool.and_eq_true, decide_eq_true_eq] at h
  exact ⟨⟨h.1.1.1.1.1, h.1.1.1.1.2, h.1.1.1.2, hw⟩, h.1.1.2, h.1.2, h.2⟩
def am_rm (d mc ms : Nat) : Room := { frames := d + 1, cells := mc, slots := ms, locals := 60 * d + 60 }
/-- the shape of the heap only grows -/
theorem am_he_mono {sc : Option (Nat × (Nat → Int32))} {M : am_Me} {i : Instr} {pc : Nat} {L S : List Value} {h : am_H} {qq : am_C} (hq : am_he sc M i pc L S h = some qq) : qq.2.1 = L ∧ h.1.length ≤ qq.2.2.2.1.length ∧ am_sm h.1 ≤ am_sm qq.2.2.2.1 := by
  cases i
  case getfield x =>
    simp only [am_he] at hq
    split at hq
    · obtain ⟨v, hv, rfl⟩ := Option.map_eq_some_iff.mp hq
      exact ⟨rfl, Nat.le_refl _, Nat.le_refl _⟩
    · cases hq
  case putfield x =>
    simp only [am_he] at hq
    split at hq
    · obtain ⟨h1, hv, rfl⟩ := Option.map_eq_some_iff.mp hq
      have e : h1.1 = h.1 := by
        unfold am_pf at hv
        split at hv
        · split at hv
          · split at hv
            · split at hv
              · split at hv
                · cases hv; rfl
                · cases hv
              · split at hv
                · cases hv; rfl
                · cases hv
              · cases hv
            · cases hv
          · cases hv
        · cases hv
      dsimp only
      rw [e]
      exact ⟨rfl, Nat.le_refl _, Nat.le_refl _⟩
    · cases hq
  case getstatic x =>
    simp only [am_he] at hq
    obtain ⟨v, hv, rfl⟩ := Option.map_eq_some_iff.mp hq
    exact ⟨rfl, Nat.le_refl _, Nat.le_refl _⟩
  case arraylength =>
    simp only [am_he] at hq
    split at hq
    · obtain ⟨v, hv, rfl⟩ := Option.map_eq_some_iff.mp hq
      exact ⟨rfl, Nat.le_refl _, Nat.le_refl _⟩
    · cases hq
  case iaload =>
    simp only [am_he] at hq
    split at hq
    · split at hq
      · split at hq
        · cases hq
        · cases hq; exact ⟨rfl, Nat.le_refl _, Nat.le_refl _⟩
      · cases hq
    · cases hq
  case iastore =>
    simp only [am_he] at hq
    split at hq
    · split at hq
      · split at hq
        · cases hq; exact ⟨rfl, Nat.le_refl _, Nat.le_refl _⟩
        · cases hq
      · cases hq
    · cases hq
  case laload =>
    simp only [am_he] at hq
    split at hq
    · split at hq
      · split at hq
        · cases hq; exact ⟨rfl, Nat.le_refl _, Nat.le_refl _⟩
        · cases hq
      · cases hq
    · cases hq
  case lastore =>
    simp only [am_he] at hq
    split at hq
    · split at hq
      · split at hq
        · cases hq; exact ⟨rfl, Nat.le_refl _, Nat.le_refl _⟩
        · cases hq
      · cases hq
    · cases hq
  case aaload =>
    simp only [am_he] at hq
    split at hq
    · split at hq
      · split at hq
        · obtain ⟨v, hv, rfl⟩ := Option.map_eq_some_iff.mp hq
          exact ⟨rfl, Nat.le_refl _, Nat.le_refl _⟩
        · cases hq
      · cases hq
    · cases hq
  case aastore =>
    simp only [am_he] at hq
    split at hq
    · split at hq
      · split at hq
        · cases hq; exact ⟨rfl, Nat.le_refl _, Nat.le_refl _⟩
        · cases hq
      · cases hq
    · cases hq
  case baload =>
    simp only [am_he] at hq
    split at hq
    · split at hq
      · split at hq
        · cases hq
        · cases hq; exact ⟨rfl, Nat.le_refl _, Nat.le_refl _⟩
      · cases hq
    · cases hq
  case new x =>
    simp only [am_he] at hq
    obtain ⟨v, hv, rfl⟩ := Option.map_eq_some_iff.mp hq
    dsimp only
    rw [am_sm_new]
    exact ⟨rfl, by simp [am_new], by omega⟩
  case newarray t =>
    simp only [am_he] at hq
    split at hq
    · split at hq
      · cases hq
      · split at hq
        · cases hq
          dsimp only
          rw [am_sm_new]
          exact ⟨rfl, by simp [am_new], by omega⟩
        · cases hq
    · cases hq
  case anewarray x =>
    simp only [am_he] at hq
    split at hq
    · split at hq
      · cases hq
      · split at hq
        · split at hq
          · cases hq
            dsimp only
            rw [am_sm_new]
            exact ⟨rfl, by simp [am_new], by omega⟩
          · cases hq
        · cases hq
    · cases hq
  case multianewarray x dd =>
    simp only [am_he] at hq
    split at hq
    · split at hq
      · split at hq
        · split at hq
          · cases hq
            refine ⟨rfl, by simp [am_mna], ?_⟩
            simp only [am_mna, am_sm, List.map_append, List.sum_append]
            omega
          · cases hq
        · cases hq
      · cases hq
    · cases hq
  case invokespecial x =>
    simp only [am_he] at hq
    split at hq
    · split at hq
      · cases hq; exact ⟨rfl, Nat.le_refl _, Nat.le_refl _⟩
      · cases hq
    · cases hq
  case invokestatic x =>
    simp only [am_he] at hq
    split at hq
    · unfold am_ma at hq
      split at hq
      · split at hq
        · split at hq
          · cases hq; exact ⟨rfl, Nat.le_refl _, Nat.le_refl _⟩
          · cases hq
        · cases hq
      · split at hq
        · split at hq
          · split at hq
            · cases hq; exact ⟨rfl, Nat.le_refl _, Nat.le_refl _⟩
            · cases hq; exact ⟨rfl, Nat.le_refl _, Nat.le_refl _⟩
          · cases hq
        · cases hq
    · split at hq
      · split at hq
        · split at hq
          · split at hq
            · cases hq; exact ⟨rfl, Nat.le_refl _, Nat.le_refl _⟩
            · cases hq
          · cases hq
        · cases hq
      · cases hq
  all_goals (exact absurd hq (by simp [am_he]))
/-- what a call says: whom, with what, and what it leaves -/
theorem am_ca_s {call : am_Me → List Value → am_H → Option am_R1} {M : am_Me} {i : Instr} {pc : Nat} {L S : List Value} {h : am_H} {qq : am_C} (hq : am_ca call M i pc L S h = some qq) : ∃ N a S1 r1, call N a h = some r1 ∧ qq = (pc + 3, L, am_ret N r1.1 S1, r1.2) := by
  unfold am_ca at hq
  split at hq <;> first | (cases hq; done) | skip
  all_goals (repeat' (split at hq <;> first | (cases hq; done) | skip))
  all_goals (obtain ⟨r1, hr, rfl⟩ := Option.map_eq_some_iff.mp hq; exact ⟨_, _, _, r1, hr, rfl⟩)
theorem am_mono {sc : Option (Nat × (Nat → Int32))} : ∀ (n d : Nat) (M : am_Me) (cc : am_C) (r : am_R1), am_run sc n d M cc = some r → cc.2.2.2.1.length ≤ r.2.1.length ∧ am_sm cc.2.2.2.1 ≤ am_sm r.2.1 := by
  intro n
  induction n with
  | zero => intro d M cc r h; simp [am_run] at h
  | succ n ih =>
    intro d M cc r h
    obtain ⟨pc, L, S, hh⟩ := cc
    rw [am_run] at h
    unfold am_step at h
    dsimp only at h ⊢
    cases hd : decode M.2.2.1 pc with
    | error e => rw [hd] at h; simp at h
    | ok il =>
      obtain ⟨i, len⟩ := il
      rw [hd] at h
      dsimp only at h
      by_cases hl : am_lok i len = true
      · rw [if_pos hl] at h
        cases hp : am_pu M.1 i pc L S with
        | some q1 =>
          rw [hp] at h
          exact ih _ _ _ _ h
        | none =>
          rw [hp] at h
          dsimp only at h
          cases hhe : am_he sc M i pc L S hh with
          | some q1 =>
            rw [hhe] at h
            obtain ⟨-, m1, m2⟩ := am_he_mono hhe
            obtain ⟨m3, m4⟩ := ih _ _ _ _ h
            exact ⟨Nat.le_trans m1 m3, Nat.le_trans m2 m4⟩
          | none =>
            rw [hhe] at h
            dsimp only at h
            cases hca : am_ca (am_dn d (fun e N a h => am_run sc n e N (0, am_L0 N a, [], h))) M i pc L S hh with
            | some q1 =>
              rw [hca] at h
              obtain ⟨N, a, S1, r1, hr, rfl⟩ := am_ca_s hca
              obtain ⟨m3, m4⟩ := ih _ _ _ _ h
              cases d with
              | zero => simp [am_dn] at hr
              | succ e =>
                obtain ⟨m1, m2⟩ := ih _ _ _ _ hr
                exact ⟨Nat.le_trans m1 m3, Nat.le_trans m2 m4⟩
            | none =>
              rw [hca] at h
              dsimp only at h
              cases hre : am_re M i S hh with
              | none => rw [hre] at h; simp at h
              | some r0 =>
                rw [hre] at h
                simp only [Option.map_some, Option.some.injEq] at h
                subst h
                have e : r0.2 = hh := by
                  unfold am_re at hre
                  split at hre <;> first | (cases hre; done) | skip
                  all_goals (repeat' (split at hre <;> first | (cases hre; done) | skip))
                  all_goals (cases hre; rfl)
                rw [e]
                exact ⟨Nat.le_refl _, Nat.le_refl _⟩
      · rw [if_neg hl] at h
        simp at h
