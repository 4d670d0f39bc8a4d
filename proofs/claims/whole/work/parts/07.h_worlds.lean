/-! the abstract machine's values and locals, as the machine holds them -/
def am_v (ρ : Nat → Nat) (v : Value) : Value := match v with
  | .ref k => .ref (ρ k)
  | .retAddr _ => if ρ 1000100 = 0 then .null else .ref (ρ 1000100 - 1)
  | v => v
theorem am_v_cat (ρ : Nat → Nat) (v : Value) : (am_v ρ v).category = v.category := by
  cases v <;> first | rfl | skip
  show (if ρ 1000100 = 0 then Value.null else .ref (ρ 1000100 - 1)).category = 1
  split <;> rfl
theorem am_v_sum (ρ : Nat → Nat) (S : List Value) : ((S.map (am_v ρ)).map fun v => v.category).sum = (S.map Value.category).sum := by
  induction S with
  | nil => rfl
  | cons v S ih => simp only [List.map_cons, List.sum_cons, am_v_cat]; rw [ih]
/-- what a value may be, with n cells: a reference is one of them, or lies outside -/
def am_ok (n : Nat) (v : Value) : Prop := match v with
  | .int _ => True
  | .long _ => True
  | .null => True
  | .ref k => k < n ∨ 1000000 ≤ k
  | .retAddr _ => True
  | _ => False
def am_oks (n : Nat) (L : List Value) : Prop := ∀ v ∈ L, am_ok n v
theorem am_ok_le {n k : Nat} {v : Value} (h : am_ok n v) (hk : n ≤ k) : am_ok k v := by
  cases v <;> first | exact h | skip
  rcases h with h | h
  · exact Or.inl (Nat.lt_of_lt_of_le h hk)
  · exact Or.inr h
theorem am_oks_le {n k : Nat} {L : List Value} (h : am_oks n L) (hk : n ≤ k) : am_oks k L := fun v hv => am_ok_le (h v hv) hk
theorem am_oks_cons {n : Nat} {v : Value} {L : List Value} : am_oks n (v :: L) ↔ am_ok n v ∧ am_oks n L := by
  simp only [am_oks, List.mem_cons, forall_eq_or_imp]
theorem am_oks_nil {n : Nat} : am_oks n [] := fun v h => by cases h
/-- two placings of the cells that are alike so far -/
def am_ag (n : Nat) (ρ ρ' : Nat → Nat) : Prop := ∀ k, k < n ∨ 1000000 ≤ k → ρ' k = ρ k
theorem am_ag_rf (n : Nat) (ρ : Nat → Nat) : am_ag n ρ ρ := fun _ _ => rfl
theorem am_ag_tr {n n' : Nat} {ρ ρ' ρ'' : Nat → Nat} (h : am_ag n ρ ρ') (h' : am_ag n' ρ' ρ'') (hn : n ≤ n') : am_ag n ρ ρ'' := fun k hk => by
  rw [h' k (by omega), h k hk]
theorem am_v_ag {n : Nat} {ρ ρ' : Nat → Nat} (h : am_ag n ρ ρ') {v : Value} (hv : am_ok n v) : am_v ρ' v = am_v ρ v := by
  cases v <;> first | rfl | skip
  · simp only [am_v, h _ hv]
  · simp only [am_v, h 1000100 (Or.inr (by omega))]
theorem am_vs_ag {n : Nat} {ρ ρ' : Nat → Nat} (h : am_ag n ρ ρ') {S : List Value} (hS : am_oks n S) : S.map (am_v ρ') = S.map (am_v ρ) :=
  List.map_congr_left fun v hv => am_v_ag h (hS v hv)
/-- the locals -/
def am_lr (ρ : Nat → Nat) (ls : Array Slot) (nL : Nat) (L : List Value) : Prop := lv_has ls nL [] ∧ L.length = nL ∧ ∀ (i : Nat) (v : Value), L[i]? = some v → v ≠ .null → ls[i]? = some (.val (am_v ρ v))
def am_lv (ρ : Nat → Nat) (L : List Value) : List (Nat × Value) := (List.range L.length).filterMap (fun i => (L[i]?).bind (fun v => if v = Value.null then none else some (i, am_v ρ v)))
theorem am_lv_mem {ρ : Nat → Nat} {L : List Value} {i : Nat} {w : Value} : (i, w) ∈ am_lv ρ L ↔ ∃ v, L[i]? = some v ∧ v ≠ .null ∧ w = am_v ρ v := by
  unfold am_lv
  rw [List.mem_filterMap]
  constructor
  · rintro ⟨j, -, hj⟩
    cases hL : L[j]? with
    | none => rw [hL] at hj; cases hj
    | some v =>
      rw [hL, Option.bind_some] at hj
      by_cases hn : v = Value.null
      · rw [if_pos hn] at hj; cases hj
      · rw [if_neg hn] at hj
        cases hj
        exact ⟨v, hL, hn, rfl⟩
  · rintro ⟨v, hL, hn, rfl⟩
    refine ⟨i, List.mem_range.mpr (List.getElem?_eq_some_iff.mp hL).1, ?_⟩
    rw [hL, Option.bind_some, if_neg hn]
theorem am_lr_has {ρ : Nat → Nat} {ls : Array Slot} {nL : Nat} {L : List Value} (h : am_lr ρ ls nL L) : lv_has ls nL (am_lv ρ L) := by
  refine ⟨h.1.1, h.1.2.1, fun q hq => ?_⟩
  obtain ⟨v, h1, h2, h3⟩ := am_lv_mem.mp hq
  rw [h3]
  exact h.2.2 _ _ h1 h2
theorem am_lr_ag {n : Nat} {ρ ρ' : Nat → Nat} (h : am_ag n ρ ρ') {ls : Array Slot} {nL : Nat} {L : List Value} (hL : am_oks n L) (hl : am_lr ρ ls nL L) : am_lr ρ' ls nL L :=
  ⟨hl.1, hl.2.1, fun i v h1 h2 => by rw [am_v_ag h (hL v (List.mem_of_getElem? h1))]; exact hl.2.2 i v h1 h2⟩
theorem am_cl0_len (L : List Value) (i : Nat) : (am_cl0 L i).length = L.length := by
  unfold am_cl0
  cases i with
  | zero => rfl
  | succ j => dsimp only; split <;> simp
theorem am_cl0_get {L : List Value} {i j : Nat} {v : Value} (h : (am_cl0 L i)[j]? = some v) (hn : v ≠ .null) : L[j]? = some v ∧ (j + 1 = i → ∀ x, v ≠ .long x) := by
  unfold am_cl0 at h
  cases i with
  | zero => exact ⟨h, fun q => by omega⟩
  | succ k =>
    dsimp only at h
    split at h
    · rename_i x hx
      by_cases hj : j = k
      · subst hj
        rw [List.getElem?_set_self (List.getElem?_eq_some_iff.mp hx).1] at h
        cases h
        exact absurd rfl hn
      · rw [List.getElem?_set_ne (Ne.symm hj)] at h
        exact ⟨h, fun q => by omega⟩
    · rename_i hx
      refine ⟨h, fun q x e => ?_⟩
      have : j = k := by omega
      subst this
      subst e
      exact hx x h
theorem am_st_lr {n : Nat} {ρ : Nat → Nat} {ls ls' : Array Slot} {nL i : Nat} {L L1 : List Value} {v : Value} (h : am_lr ρ ls nL L) (hL : am_oks n L) (hs : am_st L i v = some L1) (h1 : lv_has ls' nL ((i, am_v ρ v) :: (am_lv ρ L).filter (fun q => !(q.1 == i) && !(q.1 + 1 == i && q.2.category == 2)))) : am_lr ρ ls' nL L1 := by
  unfold am_st at hs
  split at hs
  · rename_i hi
    cases hs
    refine ⟨⟨h1.1, h1.2.1, fun q hq => by cases hq⟩, by rw [List.length_set, am_cl0_len]; exact h.2.1, fun j w hj hw => ?_⟩
    by_cases hji : j = i
    · subst hji
      rw [List.getElem?_set_self (by rw [am_cl0_len]; exact hi)] at hj
      cases hj
      exact h1.2.2 (j, am_v ρ v) List.mem_cons_self
    · rw [List.getElem?_set_ne (Ne.symm hji)] at hj
      obtain ⟨g1, g2⟩ := am_cl0_get hj hw
      refine h1.2.2 (j, am_v ρ w) (List.mem_cons_of_mem _ (List.mem_filter.mpr ⟨am_lv_mem.mpr ⟨w, g1, hw, rfl⟩, ?_⟩))
      have hok := hL w (List.mem_of_getElem? g1)
      simp only [am_v_cat, Bool.and_eq_true, Bool.not_eq_true', beq_eq_false_iff_ne, ne_eq, Bool.and_eq_false_imp, beq_iff_eq]
      refine ⟨hji, fun q => ?_⟩
      cases w <;> first | (simp [Value.category]; done) | (exact hok.elim) | skip
      exact absurd rfl (g2 q _)
  · cases hs
theorem am_st2_lr {n : Nat} {ρ : Nat → Nat} {ls ls' : Array Slot} {nL i : Nat} {L L1 : List Value} {v : Value} (h : am_lr ρ ls nL L) (hL : am_oks n L) (hs : am_st2 L i v = some L1) (h1 : lv_has ls' nL ((i, am_v ρ v) :: (am_lv ρ L).filter (fun q => !(q.1 == i) && (!(q.1 == i + 1) && !(q.1 + 1 == i && q.2.category == 2))))) : am_lr ρ ls' nL L1 := by
  unfold am_st2 at hs
  split at hs
  · rename_i hi
    cases hs
    refine ⟨⟨h1.1, h1.2.1, fun q hq => by cases hq⟩, by rw [List.length_set, List.length_set, am_cl0_len]; exact h.2.1, fun j w hj hw => ?_⟩
    by_cases hj2 : j = i + 1
    · subst hj2
      rw [List.getElem?_set_self (by rw [List.length_set, am_cl0_len]; exact hi)] at hj
      cases hj
      exact absurd rfl hw
    rw [List.getElem?_set_ne (Ne.symm hj2)] at hj
    by_cases hji : j = i
    · subst hji
      rw [List.getElem?_set_self (by rw [am_cl0_len]; omega)] at hj
      cases hj
      exact h1.2.2 (j, am_v ρ v) List.mem_cons_self
    · rw [List.getElem?_set_ne (Ne.symm hji)] at hj
      obtain ⟨g1, g2⟩ := am_cl0_get hj hw
      refine h1.2.2 (j, am_v ρ w) (List.mem_cons_of_mem _ (List.mem_filter.mpr ⟨am_lv_mem.mpr ⟨w, g1, hw, rfl⟩, ?_⟩))
      have hok := hL w (List.mem_of_getElem? g1)
      simp only [am_v_cat, Bool.and_eq_true, Bool.not_eq_true', beq_eq_false_iff_ne, ne_eq, Bool.and_eq_false_imp, beq_iff_eq]
      refine ⟨hji, hj2, fun q => ?_⟩
      cases w <;> first | (simp [Value.category]; done) | (exact hok.elim) | skip
      exact absurd rfl (g2 q _)
  · cases hs
theorem am_st_ok {n i : Nat} {L L1 : List Value} {v : Value} (hs : am_st L i v = some L1) (hL : am_oks n L) (hv : am_ok n v) : am_oks n L1 := by
  unfold am_st at hs
  split at hs
  · cases hs
    intro w hw
    rcases List.mem_or_eq_of_mem_set hw with h | h
    · by_cases hn : w = .null
      · subst hn; trivial
      · obtain ⟨j, hj⟩ := List.getElem?_of_mem h
        exact hL w (List.mem_of_getElem? (am_cl0_get hj hn).1)
    · rw [h]; exact hv
  · cases hs
theorem am_st2_ok {n i : Nat} {L L1 : List Value} {v : Value} (hs : am_st2 L i v = some L1) (hL : am_oks n L) (hv : am_ok n v) : am_oks n L1 := by
  unfold am_st2 at hs
  split at hs
  · cases hs
    intro w hw
    rcases List.mem_or_eq_of_mem_set hw with h | h
    · rcases List.mem_or_eq_of_mem_set h with h | h
      · by_cases hn : w = .null
        · subst hn; trivial
        · obtain ⟨j, hj⟩ := List.getElem?_of_mem h
          exact hL w (List.mem_of_getElem? (am_cl0_get hj hn).1)
      · rw [h]; exact hv
    · rw [h]; trivial
  · cases hs
/-- a method's locals as it begins -/
theorem am_sl_get (ρ : Nat → Nat) : ∀ (a : List Value) (i : Nat) (v : Value), (am_sl a)[i]? = some v → v ≠ .null → (lg_sl (a.map (am_v ρ)))[i]? = some (.val (am_v ρ v))
  | [], i, v, h, _ => by simp [am_sl] at h
  | w :: a, i, v, h, hn => by
    have hcons : lg_sl ((w :: a).map (am_v ρ)) = (if (am_v ρ w).category = 2 then [.val (am_v ρ w), .second] else [.val (am_v ρ w)]) ++ lg_sl (a.map (am_v ρ)) := by simp [lg_sl]
    rw [hcons, am_v_cat]
    unfold am_sl at h
    by_cases hc : w.category = 2
    · rw [if_pos hc] at h ⊢
      match i, h with
      | 0, h => simp at h; subst h; rfl
      | 1, h => simp at h; exact absurd h.symm hn
      | i + 2, h => exact am_sl_get ρ a i v (by simpa using h) hn
    · rw [if_neg hc] at h ⊢
      match i, h with
      | 0, h => simp at h; subst h; rfl
      | i + 1, h => exact am_sl_get ρ a i v (by simpa using h) hn
theorem am_sl_len (ρ : Nat → Nat) (a : List Value) : (lg_sl (a.map (am_v ρ))).length = (am_sl a).length := by
  induction a with
  | nil => rfl
  | cons w a ih =>
    have hcons : lg_sl ((w :: a).map (am_v ρ)) = (if (am_v ρ w).category = 2 then [.val (am_v ρ w), .second] else [.val (am_v ρ w)]) ++ lg_sl (a.map (am_v ρ)) := by simp [lg_sl]
    rw [hcons, am_v_cat]
    unfold am_sl
    by_cases hc : w.category = 2
    · rw [if_pos hc, if_pos hc]; simp [ih]
    · rw [if_neg hc, if_neg hc]; simp [ih]
theorem am_sl_ok {n : Nat} {a : List Value} (h : am_oks n a) : am_oks n (am_sl a) := by
  induction a with
  | nil => exact am_oks_nil
  | cons w a ih =>
    obtain ⟨h1, h2⟩ := am_oks_cons.mp h
    unfold am_sl
    split
    · exact am_oks_cons.mpr ⟨h1, am_oks_cons.mpr ⟨trivial, ih h2⟩⟩
    · exact am_oks_cons.mpr ⟨h1, ih h2⟩
theorem am_L0_ok {n : Nat} {a : List Value} (M : am_Me) (h : am_oks n a) : am_oks n (am_L0 M a) := by
  intro v hv
  rcases List.mem_append.mp hv with hv | hv
  · exact am_sl_ok h v hv
  · rw [(List.mem_replicate.mp hv).2]; trivial
theorem am_L0_lr (ρ : Nat → Nat) (M : am_Me) (a : List Value) (hl : (am_sl a).length ≤ M.2.2.2.1) : am_lr ρ (lg_sl (a.map (am_v ρ)) ++ List.replicate (M.2.2.2.1 - (lg_sl (a.map (am_v ρ))).length) Slot.unset).toArray M.2.2.2.1 (am_L0 M a) := by
  have h1 := lv_entry (a.map (am_v ρ)) (n := M.2.2.2.1) (by rw [am_sl_len]; exact hl)
  refine ⟨⟨h1.1, h1.2.1, fun q hq => by cases hq⟩, by simp [am_L0]; omega, fun i v h hn => ?_⟩
  have hi : i < (am_sl a).length := by
    rcases Nat.lt_or_ge i (am_sl a).length with q | q
    · exact q
    · unfold am_L0 at h
      rw [List.getElem?_append_right q] at h
      have := (List.mem_replicate.mp (List.mem_of_getElem? h)).2
      exact absurd this hn
  unfold am_L0 at h
  rw [List.getElem?_append_left hi] at h
  have g := am_sl_get ρ a i v h hn
  rw [List.getElem?_toArray, List.getElem?_append_left (by rw [am_sl_len]; exact hi)]
  exact g
