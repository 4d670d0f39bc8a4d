/-! the abstract machine is sound: a run of it is a run of the machine -/
def am_KE (p : Program) (l : Launch) (e : Env) (R : Room) (s : State) (m : MethodId) (args : Array Value) (below : List Frame) (meth : Method) (c : Code) (Q : State → Prop) (κ : Nat → ClassId) (D : va_G) (A : Nat → Prop) (ρ : Nat → Nat) (n0 : Nat) (M : am_Me) (r : am_R1) (N0 S0 : Nat) : Prop :=
  ∀ (ρ' : Nat → Nat) (H1 : Heap) (locs1 : List Loc) (cells1 slots1 pc1 len : Nat) (ls1 : Array Slot) (S1 : List Value) (i : Instr), am_ag n0 ρ ρ' → va_P D vwCl (am_ws κ ρ' r.2) H1 → va_D A (am_ws κ ρ' r.2) → va_S A s.heap H1 locs1 → am_okh r.2 → am_oks r.2.1.length S1 →
    cells1 + N0 = r.2.1.length → slots1 + S0 = am_sm r.2.1 → decode M.2.2.1 pc1 = .ok (i, len) → am_lok i len = true → am_re M i S1 r.2 = some r → W p l e R s m args below meth c H1 locs1 cells1 slots1 Q (F0 m pc1 ls1 (S1.map (am_v ρ')))
/-- what a run of n steps at most gives, in any frame -/
def am_WW (l : Launch) (sc : Nat × (Nat → Int32)) (n : Nat) : Prop :=
  ∀ {p : Program} {e : Env} {R : Room} {s : State} {m : MethodId} {args : Array Value} {below : List Frame} {meth : Method} {c : Code} {H : Heap} {locs : List Loc} {cells slots : Nat} {Q : State → Prop} {κ : Nat → ClassId} {D : va_G} {A : Nat → Prop} {ρ : Nat → Nat} {d : Nat} {M : am_Me} {pc : Nat} {L S : List Value} {h : am_H} {r : am_R1} {N0 S0 : Nat} {ls : Array Slot},
    p.tables.exec = Jvm.exec → c.code = M.2.2.1 → c.maxLocals = M.2.2.2.1 → s.vm.findClass (am_R M.1) = some m.cls → (∀ w ∈ am_TG, w.before args s = true) → (M.2.1.name = "<init>" → meth.name = "<init>") →
    va_K D vwCl (am_tys κ) s → am_X ρ sc A s s.heap → (∀ y, s.heap.size ≤ y → A y) → d + 1 ≤ R.frames → 60 * d + 60 ≤ R.locals →
    am_run (some sc) n d M (pc, L, S, h) = some r → va_P D vwCl (am_ws κ ρ h) H → va_D A (am_ws κ ρ h) → va_S A s.heap H locs → am_okh h → am_oks h.1.length S → am_oks h.1.length L → am_lr ρ ls M.2.2.2.1 L →
    cells + N0 = h.1.length → slots + S0 = am_sm h.1 → r.2.1.length ≤ R.cells + N0 → am_sm r.2.1 ≤ R.slots + S0 → r.2.1.length < 1000000 →
    am_KE p l e R s m args below meth c Q κ D A ρ h.1.length M r N0 S0 →
    W p l e R s m args below meth c H locs cells slots Q (F0 m pc ls (S.map (am_v ρ)))
def am_Pre (sc : Nat × (Nat → Int32)) (κ : Nat → ClassId) (D : va_G) (A : Nat → Prop) (ρ : Nat → Nat) (h : am_H) : State → Prop := fun U =>
  va_P D vwCl (am_ws κ ρ h) U.heap ∧ va_D A (am_ws κ ρ h) ∧ va_K D vwCl (am_tys κ) U ∧ am_X ρ sc A U U.heap ∧ ∀ y, U.heap.size ≤ y → A y
def am_QC (κ : Nat → ClassId) (D : va_G) (A : Nat → Prop) (ρ : Nat → Nat) (h : am_H) (ret : Option FieldType) (r : am_R1) : Array Value → State → Outcome → State → Prop := fun _ st oc t =>
  ∃ ρ' : Nat → Nat, am_ag h.1.length ρ ρ' ∧ oc = .returned (ret.map (fun _ => am_v ρ' r.1)) ∧ va_P D vwCl (am_ws κ ρ' r.2) t.heap ∧ va_D A (am_ws κ ρ' r.2) ∧ am_okh r.2 ∧ am_ok r.2.1.length r.1 ∧ va_F A st t
theorem am_Pre_blind {sc : Nat × (Nat → Int32)} {κ : Nat → ClassId} {D : va_G} {A : Nat → Prop} {ρ : Nat → Nat} {h : am_H} {av : List Value} : FrameBlind (va_Pc av (am_Pre sc κ D A ρ h)) := by
  intro a U g mk hz
  obtain ⟨rfl, h1, h2, h3, h4, h5⟩ := hz
  exact ⟨rfl, h1, h2, va_K.moved (Vm.Alike.refl U.vm) h3, am_X_blind (U := U) (U' := U.calling g mk _) rfl rfl h4, h5⟩
theorem am_MM {l : Launch} {sc : Nat × (Nat → Int32)} {n : Nat} (IH : am_WW l sc n) {κ : Nat → ClassId} {D : va_G} {A : Nat → Prop} {ρ : Nat → Nat} {d : Nat} {N : am_Me} {a : List Value} {h : am_H} {r : am_R1} (hrun : am_run (some sc) n d N (0, am_L0 N a, [], h) = some r) (hg : am_Good N) (hla : (am_sl a).length ≤ N.2.2.2.1) (hmil : r.2.1.length < 1000000) (okh : am_okh h) (oka : am_oks h.1.length a) :
    Met l N.2.1 (am_wc N :: am_TG) (am_rm d (r.2.1.length - h.1.length) (am_sm r.2.1 - am_sm h.1)) (va_Pc (a.map (am_v ρ)) (am_Pre sc κ D A ρ h)) (am_QC κ D A ρ h N.2.2.2.2 r) (r.2.1.length - h.1.length) (am_sm r.2.1 - am_sm h.1) A := by
  obtain ⟨m1, m2⟩ := am_mono _ _ _ _ _ hrun
  dsimp only at m1 m2
  refine Met.ofW (cc := N.2.2.1) (maxL := N.2.2.2.1) (ret := N.2.2.2.2) hg.1 rfl ?_
  intro p e s m args below meth c s₁ B hml hv
  obtain ⟨rfl, hP, hD, hK, hX, hA⟩ := hv
  have hts0 := atoms_spec (ws := am_wc N :: am_TG) B.pre
  have hts : ∀ w ∈ am_TG, w.before (a.map (am_v ρ)).toArray s = true := fun w hw => hts0 w (List.mem_cons_of_mem _ hw)
  have hown : s.vm.findClass (am_R N.1) = some m.cls := by rw [hg.2.2.1]; exact findClass_of_methodNamed B.named
  have hlocks := B.notSynchronized
  have hret := B.returns
  have hb := B.bytes
  have hx := B.exec
  rw [lg_entry_eq]
  refine IH hx hb hml hown hts (fun hz => by rw [← hz]; exact (name_of_methodNamed B.named B.method).1) hK hX hA (Nat.le_refl _) (Nat.le_refl _) hrun hP hD va_S.rf okh am_oks_nil (am_L0_ok N oka) (am_L0_lr ρ N a hla) (N0 := h.1.length) (S0 := am_sm h.1) (Nat.zero_add _) (Nat.zero_add _) (by show _ ≤ (r.2.1.length - h.1.length) + h.1.length; omega) (by show _ ≤ (am_sm r.2.1 - am_sm h.1) + am_sm h.1; omega) hmil ?_
  intro ρ' H1 locs1 cells1 slots1 pc1 len ls1 S1 i hag hP1 hD1 hS1 ok1 okS1 hc1 hs1 hd1 hl1 hre
  obtain rfl : cells1 = r.2.1.length - h.1.length := by omega
  obtain rfl : slots1 = am_sm r.2.1 - am_sm h.1 := by omega
  have fin : ∀ (t : State) (o : Outcome), t.heap = H1 → o = .returned (N.2.2.2.2.map (fun _ => am_v ρ' r.1)) → am_ok r.2.1.length r.1 → am_QC κ D A ρ h N.2.2.2.2 r (a.map (am_v ρ)).toArray s o t := fun t o ht ho hok => ⟨ρ', hag, ho, by rw [ht]; exact hP1, hD1, ok1, hok, hS1.F ht⟩
  cases i
  case ireturn =>
    obtain rfl : len = _ := by simpa [am_lok, am_len] using hl1
    unfold am_re at hre
    dsimp only at hre
    split at hre
    · rename_i vz tz e2
      split at hre
      · rename_i hn
        have e3 := congrArg Prod.fst (Option.some.inj hre)
        dsimp only at e3
        refine W.zret hx hb (hret.trans e2) hn.1 (fun t ht _ => fin t _ ht (by rw [e2, ← e3]; rfl) (by rw [← e3]; trivial)) hS1.2.2 hd1 hlocks
      · cases hre
    · cases hre
  case lreturn =>
    obtain rfl : len = _ := by simpa [am_lok, am_len] using hl1
    unfold am_re at hre
    dsimp only at hre
    split at hre
    · rename_i vz e2
      have e3 := congrArg Prod.fst (Option.some.inj hre)
      dsimp only at e3
      exact W.lret hx hb (hret.trans e2) (fun t ht _ => fin t _ ht (by rw [e2, ← e3]; rfl) (by rw [← e3]; trivial)) hS1.2.2 hd1 hlocks
    · cases hre
  case areturn =>
    obtain rfl : len = _ := by simpa [am_lok, am_len] using hl1
    unfold am_re at hre
    dsimp only at hre
    split at hre
    · rename_i vz nz e2
      have e3 := congrArg Prod.fst (Option.some.inj hre)
      dsimp only at e3
      exact W.aret hx hb (hret.trans e2) (Or.inl ⟨_, rfl⟩) (Or.inr ⟨_, rfl⟩) (fun t ht _ => fin t _ ht (by rw [e2, ← e3]; rfl) (by rw [← e3]; exact (am_oks_cons.mp okS1).1)) hS1.2.2 hd1 hlocks
    · cases hre
  case return_ =>
    obtain rfl : len = _ := by simpa [am_lok, am_len] using hl1
    unfold am_re at hre
    dsimp only at hre
    split at hre
    · rename_i e2
      have e3 := congrArg Prod.fst (Option.some.inj hre)
      dsimp only at e3
      exact W.vret hx hb (hret.trans e2) (fun t ht _ => fin t _ ht (by rw [e2]; rfl) (by rw [← e3]; trivial)) hS1.2.2 hd1 hlocks
    · cases hre
  all_goals (exact absurd hre (by simp [am_re]))
section CG
variable {p : Program} {l : Launch} {e : Env} {R : Room} {s : State} {m : MethodId} {args : Array Value} {below : List Frame} {meth : Method} {c : Code} {H : Heap} {locs : List Loc} {cells slots : Nat} {Q : State → Prop} {ls : Array Slot}
theorem am_call_go {κ : Nat → ClassId} {D : va_G} {A : Nat → Prop} {ρ : Nat → Nat} {h : am_H} {ret : Option FieldType} {r : am_R1} {mc ms pc : Nat} {st0 rest : List Value} {av : Array Value} (hr : va_Run p l e R s m args below meth c H locs cells slots mc ms (F0 m pc ls st0) rest (am_QC κ D A ρ h ret r av) A) (hS : va_S A s.heap H locs)
    (kk : ∀ (ρ' : Nat → Nat) (H1 : Heap) (locs1 : List Loc), am_ag h.1.length ρ ρ' → va_P D vwCl (am_ws κ ρ' r.2) H1 → va_D A (am_ws κ ρ' r.2) → am_okh r.2 → am_ok r.2.1.length r.1 → va_S A s.heap H1 locs1 → W p l e R s m args below meth c H1 locs1 (cells + mc) (slots + ms) Q (F0 m (pc + 3) ls ((ret.map (fun _ => am_v ρ' r.1)).toList ++ rest))) :
    W p l e R s m args below meth c H locs cells slots Q (F0 m pc ls st0) := by
  intro T hT X
  obtain ⟨v, st₀, t, T', L, h0, X', hL, e1, e2, ⟨ρ', hag, hv, hP1, hD1, ok1, okr, hz, hk⟩, st⟩ := hr T hT X
  cases hv
  rw [h0] at hz hk
  obtain ⟨t2, a1, b1⟩ := kk ρ' T'.heap (locs ++ L) hag (by rw [e1]; exact hP1) hD1 ok1 okr
    ⟨Nat.le_trans hS.1 (by rw [e1]; exact hz), fun y h1 h2 => by rw [e1, hk y (Nat.lt_of_lt_of_le h1 hS.1) h2]; exact hS.2.1 y h1 h2, fun y hy => by
      rcases List.mem_append.mp hy with hy | hy
      · exact hS.2.2 y hy
      · exact hL y hy⟩ T' rfl X'
  exact ⟨t2, st t2 a1, b1⟩
end CG
