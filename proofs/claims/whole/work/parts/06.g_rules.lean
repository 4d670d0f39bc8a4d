/-! the abstract machine's rules -/
set_option maxHeartbeats 4000000 in
theorem am_ca_re {call : am_Me → List Value → am_H → Option am_R1} {M : am_Me} {i : Instr} {pc : Nat} {L S : List Value} {h : am_H} {r : am_R1} (hr : am_re M i S h = some r) : am_ca call M i pc L S h = none := by
  cases i <;> first | rfl | (simp [am_re] at hr)
theorem am_ca_mono {call call' : am_Me → List Value → am_H → Option am_R1} {M : am_Me} {i : Instr} {pc : Nat} {L S : List Value} {h : am_H} {q : am_C} (hc : ∀ N a h r, call N a h = some r → call' N a h = some r) (hq : am_ca call M i pc L S h = some q) : am_ca call' M i pc L S h = some q := by
  have key : ∀ (N : am_Me) (a : List Value) (h : am_H) (f : am_R1 → am_C) (q : am_C), (call N a h).map f = some q → (call' N a h).map f = some q := by
    intro N a h f q hm
    cases hcc : call N a h with
    | none => rw [hcc] at hm; simp at hm
    | some r => rw [hcc] at hm; rw [hc N a h r hcc]; exact hm
  unfold am_ca at hq ⊢
  split at hq <;> first | (simp at hq; done) | skip
  · rename_i x
    cases h1 : am_nv M.1 x with
    | none => rw [h1] at hq; simp at hq
    | some n =>
      rw [h1] at hq
      simp only at hq ⊢
      split at hq <;> first | (simp at hq; done) | skip
      rename_i k S1 hS
      split at hq <;> first | (simp at hq; done) | skip
      rename_i c hcl
      split at hq <;> first | (simp at hq; done) | skip
      rename_i N hN
      split at hq <;> first | (simp at hq; done) | skip
      rename_i hif
      simp only [hif, and_self, if_true]
      exact key _ _ _ _ _ hq
  · rename_i x
    cases h1 : am_ct M.1 x with
    | none => rw [h1] at hq; simp at hq
    | some nN =>
      rw [h1] at hq
      obtain ⟨n, N⟩ := nN
      simp only at hq ⊢
      split at hq <;> first | (simp at hq; done) | skip
      rename_i hif
      simp only [hif, and_self, if_true]
      exact key _ _ _ _ _ hq
  · rename_i x
    cases h1 : am_cp M.1 x with
    | none => rw [h1] at hq; simp at hq
    | some nN =>
      rw [h1] at hq
      obtain ⟨n, N⟩ := nN
      simp only at hq ⊢
      split at hq <;> first | (simp at hq; done) | skip
      rename_i k S1 hS
      split at hq <;> first | (simp at hq; done) | skip
      rename_i t tn ht
      split at hq <;> first | (simp at hq; done) | skip
      rename_i hif
      simp only [hif, and_self, if_true]
      exact key _ _ _ _ _ hq
theorem am_step_mono {sc : Option (Nat × (Nat → Int32))} {call call' : am_Me → List Value → am_H → Option am_R1} {M : am_Me} {c : am_C} {x : am_R1 ⊕ am_C} (hc : ∀ N a h r, call N a h = some r → call' N a h = some r) (hx : am_step sc call M c = some x) : am_step sc call' M c = some x := by
  unfold am_step at hx ⊢
  cases hd : decode M.2.2.1 c.1 with
  | error e => rw [hd] at hx; simp at hx
  | ok il =>
    obtain ⟨i, len⟩ := il
    rw [hd] at hx
    simp only at hx ⊢
    by_cases hl : am_lok i len = true
    · rw [if_pos hl] at hx ⊢
      cases hp : am_pu M.1 i c.1 c.2.1 c.2.2.1 with
      | some q => rw [hp] at hx; exact hx
      | none =>
        rw [hp] at hx
        simp only at hx ⊢
        cases hh : am_he sc M i c.1 c.2.1 c.2.2.1 c.2.2.2 with
        | some q => rw [hh] at hx; exact hx
        | none =>
          rw [hh] at hx
          simp only at hx ⊢
          cases ha : am_ca call M i c.1 c.2.1 c.2.2.1 c.2.2.2 with
          | some q =>
            rw [ha] at hx
            rw [am_ca_mono hc ha]
            exact hx
          | none =>
            rw [ha] at hx
            simp only at hx
            cases hr : am_re M i c.2.2.1 c.2.2.2 with
            | none => rw [hr] at hx; simp at hx
            | some r =>
              rw [am_ca_re hr]
              rw [hr] at hx
              exact hx
    · rw [if_neg hl] at hx
      simp at hx
theorem am_run_s {sc : Option (Nat × (Nat → Int32))} : ∀ (n d : Nat) (M : am_Me) (c : am_C) (r : am_R1), am_run sc n d M c = some r → am_run sc (n + 1) d M c = some r := by
  intro n
  induction n with
  | zero => intro d M c r h; simp [am_run] at h
  | succ n ih =>
    intro d M c r h
    rw [am_run] at h ⊢
    cases hs : am_step sc (am_dn d (fun e N a h => am_run sc n e N (0, am_L0 N a, [], h))) M c with
    | none => rw [hs] at h; simp at h
    | some x =>
      have hs2 : am_step sc (am_dn d (fun e N a h => am_run sc (n + 1) e N (0, am_L0 N a, [], h))) M c = some x := by
        refine am_step_mono ?_ hs
        intro N a h r hr
        cases d with
        | zero => simp [am_dn] at hr
        | succ e => exact ih e N _ r hr
      rw [hs2]
      rw [hs] at h
      cases x with
      | inl y => exact h
      | inr c1 => exact ih d M c1 r h
theorem am_run_le {sc : Option (Nat × (Nat → Int32))} {n k d : Nat} {M : am_Me} {c : am_C} {r : am_R1} (h : am_run sc n d M c = some r) (hk : n ≤ k) : am_run sc k d M c = some r := by
  induction hk with
  | refl => exact h
  | step _ ih => exact am_run_s _ _ _ _ _ ih
section AQ
variable {sc : Option (Nat × (Nat → Int32))} {d pc len : Nat} {M : am_Me} {L S : List Value} {h : am_H} {r : am_R1} {i : Instr}
theorem am_Qp {q : am_P} (hd : decode M.2.2.1 pc = .ok (i, len)) (hl : am_lok i len = true) (hp : am_pu M.1 i pc L S = some q) (k : am_Q sc d M (q.1, q.2.1, q.2.2, h) r) : am_Q sc d M (pc, L, S, h) r := by
  obtain ⟨n, hn⟩ := k
  refine ⟨n + 1, ?_⟩
  rw [am_run]
  simp only [am_step, hd, hl, hp, if_true]
  exact hn
theorem am_Qh {q : am_C} (hd : decode M.2.2.1 pc = .ok (i, len)) (hl : am_lok i len = true) (hp : am_pu M.1 i pc L S = none) (hh : am_he sc M i pc L S h = some q) (k : am_Q sc d M q r) : am_Q sc d M (pc, L, S, h) r := by
  obtain ⟨n, hn⟩ := k
  refine ⟨n + 1, ?_⟩
  rw [am_run]
  simp only [am_step, hd, hl, hp, hh, if_true]
  exact hn
theorem am_Qr (hd : decode M.2.2.1 pc = .ok (i, len)) (hl : am_lok i len = true) (hp : am_pu M.1 i pc L S = none) (hh : am_he sc M i pc L S h = none) (hr : am_re M i S h = some r) : am_Q sc d M (pc, L, S, h) r := by
  refine ⟨1, ?_⟩
  rw [am_run]
  simp only [am_step, hd, hl, hp, hh, am_ca_re hr, hr, if_true, Option.map_some]
/-- a call: the callee's run, then the caller's -/
theorem am_Qc {N : am_Me} {a : List Value} {r1 : am_R1} {S1 : List Value} (hd : decode M.2.2.1 pc = .ok (i, len)) (hl : am_lok i len = true) (hp : am_pu M.1 i pc L S = none) (hh : am_he sc M i pc L S h = none)
    (hc : ∀ call : am_Me → List Value → am_H → Option am_R1, am_ca call M i pc L S h = (call N a h).map (fun r => (pc + 3, L, am_ret N r.1 S1, r.2)))
    (k1 : am_Q sc d N (0, am_L0 N a, [], h) r1) (k2 : am_Q sc (d + 1) M (pc + 3, L, am_ret N r1.1 S1, r1.2) r) : am_Q sc (d + 1) M (pc, L, S, h) r := by
  obtain ⟨n, hn⟩ := k1
  obtain ⟨n2, hn2⟩ := k2
  refine ⟨max n n2 + 1, ?_⟩
  rw [am_run]
  simp only [am_step, hd, hl, hp, hh, hc, if_true, am_dn]
  rw [am_run_le hn (Nat.le_max_left n n2)]
  exact am_run_le hn2 (Nat.le_max_right n n2)
end AQ
/-! a run that doesn't look at the script; a run with more calls open -/
theorem am_he_sc {sc : Option (Nat × (Nat → Int32))} {M : am_Me} {i : Instr} {pc : Nat} {L S : List Value} {h : am_H} {qq : am_C} (hq : am_he none M i pc L S h = some qq) : am_he sc M i pc L S h = some qq := by
  cases i <;> first | exact hq | skip
  case arraylength =>
    simp only [am_he] at hq ⊢
    split at hq <;> first | (cases hq; done) | skip
    rename_i kz S1
    obtain ⟨v, hv, h2⟩ := Option.map_eq_some_iff.mp hq
    refine Option.map_eq_some_iff.mpr ⟨v, ?_, h2⟩
    unfold am_alen at hv ⊢
    split at hv
    · cases hv
    · rename_i h0
      rw [if_neg h0]
      exact hv
  case iaload =>
    simp only [am_he] at hq ⊢
    split at hq <;> first | (cases hq; done) | skip
    rename_i iz kz S1
    split at hq <;> first | (cases hq; done) | skip
    rename_i nz fz hv
    have hv2 : am_irow sc h kz = some (nz, fz) := by
      unfold am_irow at hv ⊢
      split at hv
      · cases hv
      · rename_i h0
        rw [if_neg h0]
        exact hv
    rw [hv2]
    exact hq
theorem am_step_sc {sc : Option (Nat × (Nat → Int32))} {call : am_Me → List Value → am_H → Option am_R1} {M : am_Me} {c : am_C} {x : am_R1 ⊕ am_C} (hx : am_step none call M c = some x) : am_step sc call M c = some x := by
  unfold am_step at hx ⊢
  cases hd : decode M.2.2.1 c.1 with
  | error err => rw [hd] at hx; simp at hx
  | ok il =>
    obtain ⟨i, len⟩ := il
    rw [hd] at hx
    simp only at hx ⊢
    by_cases hl : am_lok i len = true
    · rw [if_pos hl] at hx ⊢
      cases hp : am_pu M.1 i c.1 c.2.1 c.2.2.1 with
      | some q1 => rw [hp] at hx; exact hx
      | none =>
        rw [hp] at hx
        simp only at hx ⊢
        cases hh : am_he none M i c.1 c.2.1 c.2.2.1 c.2.2.2 with
        | some q1 => rw [hh] at hx; rw [am_he_sc hh]; exact hx
        | none =>
          rw [hh] at hx
          simp only at hx
          cases hh2 : am_he sc M i c.1 c.2.1 c.2.2.1 c.2.2.2 with
          | none => exact hx
          | some q2 =>
            -- an instruction of the heap is no call and no return
            exfalso
            cases ha : am_ca call M i c.1 c.2.1 c.2.2.1 c.2.2.2 with
            | some q1 =>
              cases i <;> first | (simp [am_ca] at ha; done) | (cases (hh2.symm.trans hh))
            | none =>
              rw [ha] at hx
              simp only at hx
              cases hr : am_re M i c.2.2.1 c.2.2.2 with
              | none => rw [hr] at hx; simp at hx
              | some r =>
                cases i <;> first | (simp [am_re] at hr; done) | (cases (hh2.symm.trans hh))
    · rw [if_neg hl] at hx
      simp at hx
theorem am_run_sc {sc : Option (Nat × (Nat → Int32))} : ∀ (n d : Nat) (M : am_Me) (c : am_C) (r : am_R1), am_run none n d M c = some r → am_run sc n d M c = some r := by
  intro n
  induction n with
  | zero => intro d M c r h; simp [am_run] at h
  | succ n ih =>
    intro d M c r h
    rw [am_run] at h ⊢
    cases hs : am_step none (am_dn d (fun e N a h => am_run none n e N (0, am_L0 N a, [], h))) M c with
    | none => rw [hs] at h; simp at h
    | some x =>
      have hs2 : am_step sc (am_dn d (fun e N a h => am_run sc n e N (0, am_L0 N a, [], h))) M c = some x := by
        refine am_step_mono ?_ (am_step_sc hs)
        intro N a h r hr
        cases d with
        | zero => simp [am_dn] at hr
        | succ e => exact ih e N _ r hr
      rw [hs2]
      rw [hs] at h
      cases x with
      | inl y => exact h
      | inr c1 => exact ih d M c1 r h
theorem am_run_d {sc : Option (Nat × (Nat → Int32))} : ∀ (n d : Nat) (M : am_Me) (c : am_C) (r : am_R1), am_run sc n d M c = some r → am_run sc n (d + 1) M c = some r := by
  intro n
  induction n with
  | zero => intro d M c r h; simp [am_run] at h
  | succ n ih =>
    intro d M c r h
    rw [am_run] at h ⊢
    cases hs : am_step sc (am_dn d (fun e N a h => am_run sc n e N (0, am_L0 N a, [], h))) M c with
    | none => rw [hs] at h; simp at h
    | some x =>
      have hs2 : am_step sc (am_dn (d + 1) (fun e N a h => am_run sc n e N (0, am_L0 N a, [], h))) M c = some x := by
        refine am_step_mono ?_ hs
        intro N a h r hr
        cases d with
        | zero => simp [am_dn] at hr
        | succ e => exact ih e N _ r hr
      rw [hs2]
      rw [hs] at h
      cases x with
      | inl y => exact h
      | inr c1 => exact ih d M c1 r h
