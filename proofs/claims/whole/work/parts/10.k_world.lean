/-! the abstract machine's cells as a world of the machine; what stays through a whole run -/
def am_fv (ρ : Nat → Nat) (h : am_H) (c k j : Nat) : Value := if am_fk c j = 2 then va_rf ((h.2.1 k j).map ρ) else .int (h.2.2.1 k j)
def am_en (κ : Nat → ClassId) (ρ : Nat → Nat) (h : am_H) (k : Nat) (tn : Nat × Nat) : va_E :=
  if tn.1 < 13 then .inr (tn.1, (List.range (am_nf tn.1)).map (am_fv ρ h tn.1 k))
  else .inl (κ tn.1, tn.2, if tn.1 = 20 then .inl (h.2.2.1 k) else if tn.1 = 21 then .inr (.inl (h.2.2.2 k)) else .inr (.inr (.inr (.inr (fun j => (h.2.1 k j).map ρ)))))
def am_ws (κ : Nat → ClassId) (ρ : Nat → Nat) (h : am_H) : va_W := h.1.mapIdx (fun k tn => (ρ k, am_en κ ρ h k tn))
theorem am_ws_get {κ : Nat → ClassId} {ρ : Nat → Nat} {h : am_H} {k : Nat} {tn : Nat × Nat} (hk : h.1[k]? = some tn) : (am_ws κ ρ h)[k]? = some (ρ k, am_en κ ρ h k tn) := by
  unfold am_ws
  rw [List.getElem?_mapIdx, hk]
  rfl
theorem am_ws_len {κ : Nat → ClassId} {ρ : Nat → Nat} {h : am_H} : (am_ws κ ρ h).length = h.1.length := by simp [am_ws]
theorem am_ws_set {κ : Nat → ClassId} {ρ : Nat → Nat} {h h' : am_H} {k : Nat} {tn : Nat × Nat} (hk : h.1[k]? = some tn) (h1 : h'.1 = h.1) (ho : ∀ j tz, j ≠ k → am_en κ ρ h' j tz = am_en κ ρ h j tz) : (am_ws κ ρ h).set k (ρ k, am_en κ ρ h' k tn) = am_ws κ ρ h' := by
  apply List.ext_getElem?
  intro j
  by_cases hj : j = k
  · subst hj
    rw [List.getElem?_set_self (by rw [am_ws_len]; exact (List.getElem?_eq_some_iff.mp hk).1), am_ws_get (h := h') (by rw [h1]; exact hk)]
  · rw [List.getElem?_set_ne (Ne.symm hj)]
    unfold am_ws
    rw [List.getElem?_mapIdx, List.getElem?_mapIdx, h1]
    cases h.1[j]? with
    | none => rfl
    | some tz => simp only [Option.map_some, ho j tz hj]
theorem am_en_eq {κ : Nat → ClassId} {ρ : Nat → Nat} {h h' : am_H} {k : Nat} {tn : Nat × Nat} (a1 : h'.2.1 k = h.2.1 k) (a2 : h'.2.2.1 k = h.2.2.1 k) (a3 : h'.2.2.2 k = h.2.2.2 k) : am_en κ ρ h' k tn = am_en κ ρ h k tn := by
  have e : am_fv ρ h' tn.1 k = am_fv ρ h tn.1 k := by funext j; simp only [am_fv, a1, a2]
  simp only [am_en, a1, a2, a3, e]
/-- the references of the heap are cells, or lie outside -/
def am_okh (h : am_H) : Prop := ∀ k j y, h.2.1 k j = some y → y < h.1.length ∨ 1000000 ≤ y
theorem am_map_ag {n : Nat} {ρ ρ' : Nat → Nat} (ha : am_ag n ρ ρ') {r : Option Nat} (hr : ∀ y, r = some y → y < n ∨ 1000000 ≤ y) : r.map ρ' = r.map ρ := by
  cases r with
  | none => rfl
  | some y => simp only [Option.map_some, ha y (hr y rfl)]
theorem am_en_ag {κ : Nat → ClassId} {n : Nat} {ρ ρ' : Nat → Nat} (ha : am_ag n ρ ρ') {h : am_H} {k : Nat} {tn : Nat × Nat} (hr : ∀ j y, h.2.1 k j = some y → y < n ∨ 1000000 ≤ y) : am_en κ ρ' h k tn = am_en κ ρ h k tn := by
  have e : am_fv ρ' h tn.1 k = am_fv ρ h tn.1 k := by funext j; simp only [am_fv, am_map_ag ha (hr j)]
  have e2 : (fun j => (h.2.1 k j).map ρ') = (fun j => (h.2.1 k j).map ρ) := by funext j; exact am_map_ag ha (hr j)
  simp only [am_en, e, e2]
theorem am_ag_up {n : Nat} {ρ : Nat → Nat} {y : Nat} (hn : n < 1000000) : am_ag n ρ (va_up ρ n y) := by
  intro k hk
  unfold va_up
  rw [if_neg (by omega)]
theorem am_ws_new {κ : Nat → ClassId} {ρ : Nat → Nat} {h : am_H} {y t n : Nat} (ok : am_okh h) (hl : h.1.length < 1000000) : am_ws κ (va_up ρ h.1.length y) (am_new h t n) = am_ws κ ρ h ++ [(y, am_en κ (va_up ρ h.1.length y) (am_new h t n) h.1.length (t, n))] := by
  apply List.ext_getElem?
  intro j
  rcases Nat.lt_trichotomy j h.1.length with hj | hj | hj
  · rw [List.getElem?_append_left (by rw [am_ws_len]; exact hj)]
    have hg : h.1[j]? = some h.1[j] := List.getElem?_eq_getElem hj
    rw [am_ws_get hg, am_ws_get (h := am_new h t n) (tn := h.1[j]) (by simp only [am_new]; rw [List.getElem?_append_left hj, hg])]
    have hne : ¬ j = h.1.length := by omega
    rw [am_en_eq (h := h) (h' := am_new h t n) (by simp only [am_new, va_up, if_neg hne]) (by simp only [am_new, va_up, if_neg hne]) (by simp only [am_new, va_up, if_neg hne])]
    rw [am_en_ag (am_ag_up hl) (fun i z hz => ok j i z hz), am_ag_up hl j (Or.inl hj)]
  · subst hj
    rw [List.getElem?_append_right (by rw [am_ws_len]; omega), am_ws_len, Nat.sub_self]
    rw [am_ws_get (h := am_new h t n) (tn := (t, n)) (by simp only [am_new]; rw [List.getElem?_append_right (Nat.le_refl _), Nat.sub_self]; rfl)]
    simp [va_up]
  · rw [List.getElem?_eq_none (by rw [am_ws_len]; simp only [am_new, List.length_append, List.length_cons, List.length_nil]; omega), List.getElem?_eq_none (by rw [List.length_append, am_ws_len]; simp only [List.length_cons, List.length_nil]; omega)]
theorem am_okh_new {h : am_H} {t n : Nat} (ok : am_okh h) : am_okh (am_new h t n) := by
  intro k j y hy
  simp only [am_new, List.length_append, List.length_cons, List.length_nil] at hy ⊢
  unfold va_up at hy
  split at hy
  · cases hy
  · have := ok k j y hy
    omega
/-- what stays through a run -/
def am_tys (κ : Nat → ClassId) : List (ClassId × FieldType) := [(κ 20, .int), (κ 21, .long), (κ 22, .object "VoiceNets$Voice"), (κ 23, .array .int), (κ 24, .array .long)]
def am_ovL : List Jvm.Cond := [.arrayOver (.object "VoiceNets$Voice"), .arrayOver (.array .int), .arrayOver (.array .long)]
def am_casL : List Jvm.Cond := [.castable RX0 RX10, .castable RX5 RX10, .castable RX4 RX10, .castable RX1 RX10, .castable RX2 RX10]
def am_X (ρ : Nat → Nat) (sc : Nat × (Nat → Int32)) (A : Nat → Prop) (U : State) (H : Heap) : Prop :=
  (va_Z "VoiceNets" "KIND_ABOVE" "[I" (.ref (ρ 1000001)) A U H ∧ va_T .int (ρ 1000001) 6 (fun j => .int (am_KA j)) A U H) ∧
  (vk_S 18 (am_sB.map List.length) am_sB (fun i => ρ (1000010 + i)) (fun i => ρ (1000040 + i)) A U H ∧ ∀ o x k, am_cs o x = some k → ∃ tx, vk_R (am_R o) x tx (ρ (1000010 + k)) U) ∧
  (va_Z "java/lang/String" "COMPACT_STRINGS" "Z" (.int 1) A U H ∧ va_Z "jdk/internal/util/Preconditions" "SIOOBE_FORMATTER" "Ljava/util/function/BiFunction;" (am_v ρ (.retAddr 0)) A U H) ∧
  (va_X (ρ 1000000) sc.1 sc.2 U H ∧ ρ 1000000 < H.size ∧ ¬ A (ρ 1000000)) ∧
  (∀ w ∈ am_nestL, va_Nw w U) ∧ (∀ w ∈ am_ovL, w.before #[] U = true) ∧ ∀ w ∈ am_casL, va_Nw w U
theorem am_nest_form : ∀ w ∈ am_nestL, ∃ a i x h, w = Jvm.Cond.methodLinkNest a i x h := by
  intro w hw
  rcases List.mem_append.mp hw with hw | hw <;> (obtain ⟨z, -, rfl⟩ := List.mem_map.mp hw; exact ⟨_, _, _, _, rfl⟩)
theorem am_ov_form : ∀ w ∈ am_ovL, ∃ t, w = Jvm.Cond.arrayOver t := by
  intro w hw
  simp only [am_ovL, List.mem_cons, List.not_mem_nil, or_false] at hw
  rcases hw with rfl | rfl | rfl <;> exact ⟨_, rfl⟩
theorem am_cas_form : ∀ w ∈ am_casL, ∃ a b, w = Jvm.Cond.castable a b := by
  intro w hw
  simp only [am_casL, List.mem_cons, List.not_mem_nil, or_false] at hw
  rcases hw with rfl | rfl | rfl | rfl | rfl <;> exact ⟨_, _, rfl⟩
/-- behind some steps, at a callee's start -/
theorem am_X_go {ρ ρ' : Nat → Nat} {n : Nat} {sc : Nat × (Nat → Int32)} {A : Nat → Prop} {s U : State} {H : Heap} {locs : List Loc} (ha : am_ag n ρ ρ') (hX : am_X ρ sc A s s.heap) (hS : va_S A s.heap H locs) (hU : U.heap = H) (hW : s.WarmedH U.vm) : am_X ρ' sc A U U.heap := by
  obtain ⟨⟨a1, a2⟩, ⟨b1, b2⟩, ⟨c1, c2⟩, ⟨d1, d2, d3⟩, e1, f1, g1⟩ := hX
  rw [hU]
  have al := hW.alike
  have kp : ∀ a : Nat, a < s.heap.size → ¬ A a → H[a]? = s.heap[a]? := fun a h1 h2 => hS.2.1 a h1 h2
  have r1 : ρ' 1000001 = ρ 1000001 := ha _ (Or.inr (by omega))
  have r0 : ρ' 1000000 = ρ 1000000 := ha _ (Or.inr (by omega))
  have rk : (fun i => ρ' (1000010 + i)) = fun i => ρ (1000010 + i) := by funext i; exact ha _ (Or.inr (by omega))
  have rv : (fun i => ρ' (1000040 + i)) = fun i => ρ (1000040 + i) := by funext i; exact ha _ (Or.inr (by omega))
  have rr : am_v ρ' (.retAddr 0) = am_v ρ (.retAddr 0) := am_v_ag ha (show am_ok n (.retAddr 0) from trivial)
  refine ⟨⟨?_, ?_⟩, ⟨?_, ?_⟩, ⟨?_, ?_⟩, ⟨?_, ?_, ?_⟩, ?_, ?_, ?_⟩
  · rw [r1]; exact (a1.moved al).kept kp
  · rw [r1]; exact (a2.moved al).kept kp
  · rw [rk, rv]; exact (b1.moved al).kept kp
  · intro o x k hk
    obtain ⟨tx, hr⟩ := b2 o x k hk
    refine ⟨tx, ?_⟩
    rw [show ρ' (1000010 + k) = ρ (1000010 + k) from ha _ (Or.inr (by omega))]
    exact vk_R.warm hW hr
  · exact (c1.moved al).kept kp
  · rw [rr]; exact (c2.moved al).kept kp
  · rw [r0]; exact (d1.moved al).kept (hS.2.1 _ d2 d3)
  · rw [r0]; exact Nat.lt_of_lt_of_le d2 hS.1
  · rw [r0]; exact d3
  · intro w hw
    obtain ⟨a, i, x, h, rfl⟩ := am_nest_form w hw
    exact va_Nw.warmM hW (e1 _ hw)
  · intro w hw
    obtain ⟨t, rfl⟩ := am_ov_form w hw
    have h1 := f1 _ hw
    have h2 : (Jvm.Cond.arrayOver t).before #[] (s.setVm U.vm) = true := by rw [Jvm.Cond.arrayOver_setVmC al t]; exact h1
    exact h2
  · intro w hw
    obtain ⟨a, b, rfl⟩ := am_cas_form w hw
    exact va_Nw.warmC hW (g1 _ hw)
theorem am_X_blind {ρ : Nat → Nat} {sc : Nat × (Nat → Int32)} {A : Nat → Prop} {U U' : State} (hh : U'.heap = U.heap) (hv : U'.vm = U.vm) (h : am_X ρ sc A U U.heap) : am_X ρ sc A U' U'.heap :=
  am_X_go (n := 0) (locs := []) (am_ag_rf 0 ρ) h (va_S.rf (A := A)) hh (by rw [hv]; exact State.WarmedH.refl U)
