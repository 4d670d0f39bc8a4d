/-! calls are sound -/
theorem am_cv_s {o x c0 : Nat} {N : am_Me} (h : am_cv o x c0 = some N) : (∃ z ∈ am_vT, z.1 = o ∧ z.2.1 = x ∧ z.2.2.1 = c0 ∧ z.2.2.2.2 = N) ∨ ∃ z ∈ am_uT, z.1 = o ∧ z.2.1 = x ∧ z.2.2.1 = c0 ∧ z.2.2.2.2.1 = N := by
  unfold am_cv at h
  split at h
  · rename_i z hz
    have h3 := List.find?_some hz
    simp only [Bool.and_eq_true, beq_iff_eq] at h3
    exact Or.inl ⟨z, List.mem_of_find?_eq_some hz, h3.1.1, h3.1.2, h3.2, Option.some.inj h⟩
  · obtain ⟨z, hz, h2⟩ := Option.map_eq_some_iff.mp h
    have h3 := List.find?_some hz
    simp only [Bool.and_eq_true, beq_iff_eq] at h3
    exact Or.inr ⟨z, List.mem_of_find?_eq_some hz, h3.1.1, h3.1.2, h3.2, h2⟩
theorem am_ct_s {o x n : Nat} {N : am_Me} (h : am_ct o x = some (n, N)) : (o, x, n, N) ∈ am_tT ∨ (o, x, n, N) ∈ am_tnT := by
  unfold am_ct at h
  split at h
  · rename_i z hz
    have h3 := List.find?_some hz
    have h4 := List.mem_of_find?_eq_some hz
    simp only [Bool.and_eq_true, beq_iff_eq] at h3
    obtain ⟨a, b, cd⟩ := z
    obtain ⟨rfl, rfl⟩ := h3
    cases h
    exact Or.inl h4
  · obtain ⟨z, hz, h2⟩ := Option.map_eq_some_iff.mp h
    have h3 := List.find?_some hz
    have h4 := List.mem_of_find?_eq_some hz
    simp only [Bool.and_eq_true, beq_iff_eq] at h3
    obtain ⟨a, b, cd⟩ := z
    obtain ⟨rfl, rfl⟩ := h3
    subst h2
    exact Or.inr h4
theorem am_cp_s {o x n : Nat} {N : am_Me} (h : am_cp o x = some (n, N)) : (o, x, n, N) ∈ am_iT ∨ (o, x, n, N) ∈ am_inT ∨ ∃ z ∈ am_pT, z.1 = o ∧ z.2.1 = x ∧ z.2.2.1 = n ∧ z.2.2.2.1 = N := by
  unfold am_cp at h
  split at h
  · rename_i z hz
    have h3 := List.find?_some hz
    have h4 := List.mem_of_find?_eq_some hz
    simp only [Bool.and_eq_true, beq_iff_eq] at h3
    obtain ⟨a, b, cd⟩ := z
    obtain ⟨rfl, rfl⟩ := h3
    cases h
    exact Or.inl h4
  · split at h
    · rename_i z hz
      have h3 := List.find?_some hz
      have h4 := List.mem_of_find?_eq_some hz
      simp only [Bool.and_eq_true, beq_iff_eq] at h3
      obtain ⟨a, b, cd⟩ := z
      obtain ⟨rfl, rfl⟩ := h3
      cases h
      exact Or.inr (Or.inl h4)
    · obtain ⟨z, hz, h2⟩ := Option.map_eq_some_iff.mp h
      have h3 := List.find?_some hz
      have h4 := List.mem_of_find?_eq_some hz
      simp only [Bool.and_eq_true, beq_iff_eq] at h3
      cases h2
      exact Or.inr (Or.inr ⟨z, h4, h3.1, h3.2, rfl, rfl⟩)
theorem am_vN : ∀ z ∈ am_vT, am_nv z.1 z.2.1 = some z.2.2.2.1 := by
  have h : am_vT.all (fun z => decide (am_nv z.1 z.2.1 = some z.2.2.2.1)) = true := by decide +kernel
  intro z hz
  exact of_decide_eq_true (List.all_eq_true.mp h z hz)
theorem am_uN : ∀ z ∈ am_uT, am_nv z.1 z.2.1 = some z.2.2.2.1 := by
  have h : am_uT.all (fun z => decide (am_nv z.1 z.2.1 = some z.2.2.2.1)) = true := by decide +kernel
  intro z hz
  exact of_decide_eq_true (List.all_eq_true.mp h z hz)
section CA
variable {p : Program} {l : Launch} {e : Env} {R : Room} {s : State} {m : MethodId} {args : Array Value} {below : List Frame} {meth : Method} {c : Code} {H : Heap} {locs : List Loc} {cells slots : Nat} {Q : State → Prop} {ls : Array Slot}
/-- super.m(..), also where the superclass has it from above -/
theorem am_callSU {T : State} {locs : List Loc} {cells slots : Nat} (X : Stand p l e R s m args below meth c T locs cells slots) (hexec : p.tables.exec = Jvm.exec) {own owner : String} {index : Nat} {x y : MethodName} {bytes : ByteArray} {maxL : Nat} {ret : Option FieldType}
    (hown : s.vm.findClass own = some m.cls) (hlink : (Jvm.Cond.methodLink own index x).before args s = true) (hsame : (Jvm.Cond.sameMethod x.cls owner x.name x.desc).before args s = true) (hyx : y = ⟨owner, x.name, x.desc⟩) (hsup : (Jvm.Cond.superclass own x.cls).before args s = true) (hup : x.cls = owner ∨ (Jvm.Cond.superclass x.cls owner).before args s = true)
    (hinst : (Jvm.Cond.instanceMethod y).before args s = true) (hcode : (Jvm.Cond.code y bytes maxL ret).before args s = true) (hno : x.name ≠ "<init>")
    {W0 : Nat} {Pre : Pt → Array Value → Prop} {Post : Pt → Array Value → Option Value → Pt → Prop} (hK : Back l R p e below s args y 3 W0 Pre Post)
    {b : Addr} {cellB : Cell} {kB : Class} (hcell : T.heap[b]? = some cellB) (hobj : cellB.vm.isStatics = false) (hkB : s.vm.classes[cellB.cls]? = some kB)
    {g : JFrame} (hg : g.method = m) (hsize : g.locals.size = c.maxLocals) {argsL rest : List Value} (hlen : ∀ sig, parseMethodDescriptor y.desc = some sig → argsL.length = sig.parameters.length)
    (hstack : g.stack = argsL.reverse ++ .ref b :: rest) (hW : 2 * g.monitorRoom + (rest.map fun v => v.category).sum ≤ W0) (hdg : decode c.code g.pc = .ok (.invokespecial index, 3))
    (hpre : ∀ vm₁, s.WarmedH vm₁ → Pre ⟨T.setVm vm₁, locs, cells, slots⟩ (Value.ref b :: argsL).toArray) :
    ∃ (v : Option Value) (vm₁ : Vm) (B : Pt), s.WarmedH vm₁ ∧ Stand p l e R s m args below meth c B.U B.locs B.cells B.slots ∧ Post ⟨T.setVm vm₁, locs, cells, slots⟩ (Value.ref b :: argsL).toArray v B ∧
      ∀ target, Steps p.tables e below (B.U.setTop { g with pc := g.pc + 3, stack := v.toList ++ rest }) target → Steps p.tables e below (T.setTop g) target := by
  obtain ⟨mk, methM, hnamed, hmethM, hstM, habM⟩ := Jvm.Cond.instanceMethod_spec hinst
  obtain ⟨methM', cM, hmethM', -, -, -, -, -, -, hsigM⟩ := Jvm.Cond.code_spec hnamed hcode
  cases hmethM.symm.trans hmethM'
  obtain ⟨ps, dk, kp, hps, hdk, hkp, hsuper, -, -, hnid⟩ := Jvm.Cond.superclass_spec hown hsup
  have hn : s.methodNamed? ⟨owner, x.name, x.desc⟩ = some mk := by rw [← hyx]; exact hnamed
  have hmc : s.vm.findClass owner = some mk.cls := findClass_of_methodNamed hn
  have hsub : s.vm.isSubclass ps mk.cls = true := by
    rcases hup with hup | hup
    · rw [hup] at hps
      have hpm : ps = mk.cls := Option.some.inj (hps.symm.trans hmc)
      rw [hpm]; simp [Vm.isSubclass, Vm.isSubclassAux]
    · obtain ⟨ps2, dk2, -, hps2, hdk2, -, hsuper2, -⟩ := Jvm.Cond.superclass_spec hps hup
      have hpm : ps2 = mk.cls := Option.some.inj (hps2.symm.trans hmc)
      subst hpm
      have hlt : 0 < s.vm.classes.size := Nat.lt_of_le_of_lt (Nat.zero_le _) (Array.getElem?_eq_some_iff.mp hdk2).1
      obtain ⟨nn, hnn⟩ := Nat.exists_eq_add_of_lt hlt
      rw [Nat.zero_add] at hnn
      simp [Vm.isSubclass, hnn, Vm.isSubclassAux, hdk2, hsuper2]
  obtain ⟨vm₁, X₁, hstep₁⟩ := X.invokespecialUp hexec hown hlink hsame hn hmethM hstM habM hno hdk hnid hps hsuper hsub (a := b) (cell := cellB) hcell
    (fun z h => by rw [h] at hobj; cases hobj) hkB (g := g) hg (argsL := argsL) (rest := rest) (hlen _ hsigM) hstack hdg
  obtain ⟨v, B, X', hpost, hsteps⟩ := hK m meth c ⟨T.setVm vm₁, locs, cells, slots⟩ { g with stack := rest } (.invokespecial index) mk (Value.ref b :: argsL).toArray X₁ hg hsize hdg hW (X₁.named hnamed) (hpre vm₁ X₁.warmed)
  exact ⟨v, vm₁, B, X₁.warmed, X', hpost, fun target h => hstep₁ _ (by rw [doInvoke_state]; exact hsteps.trans h)⟩
theorem am_runSU {x y : MethodName} {bytes cc : ByteArray} {maxL nL mc ms index : Nat} {ret : Option FieldType} {ws : List Jvm.Cond} {rm : Room} {Pc : Array Value → State → Prop} {Qc : Array Value → State → Outcome → State → Prop} {free : Addr → Prop} {Ts : List Jvm.Cond} {own owner C : String} {cC : ClassId} {b : Addr} {As rest : List Value} {g : JFrame}
    (hat : ClassAt s C cC) (S : CallFix p m c cc nL s args Ts own) (hM : Met l y ws rm Pc Qc mc ms free)
    (hrc : rm.cells = mc) (hrs : rm.slots = ms) (hfr : rm.frames + 1 ≤ R.frames) (hlo : 8 + (maxL + 11) + rm.locals ≤ R.locals) (hws : ∀ w ∈ ws, ∀ (a' : Array Value) (U : State), s.WarmedH U.vm → w.before a' U = true) (hcw : Jvm.Cond.code y bytes maxL ret ∈ ws)
    (hlink : (Jvm.Cond.methodLink own index x).before args s = true) (hsame : (Jvm.Cond.sameMethod x.cls owner x.name x.desc).before args s = true) (hyx : y = ⟨owner, x.name, x.desc⟩) (hsup : (Jvm.Cond.superclass own x.cls).before args s = true) (hup : x.cls = owner ∨ (Jvm.Cond.superclass x.cls owner).before args s = true)
    (hinst : (Jvm.Cond.instanceMethod y).before args s = true) (hini : (Jvm.Cond.initialized y.cls).before args s = true) (hcode : (Jvm.Cond.code y bytes maxL ret).before args s = true) (hno : x.name ≠ "<init>") (hlen : ∀ sig, parseMethodDescriptor y.desc = some sig → As.length = sig.parameters.length)
    (hp : PreV s H C b Pc As)
    (hg : g.method = m) (hsize : g.locals.size = nL) (hstack : g.stack = As.reverse ++ .ref b :: rest) (hW : 2 * g.monitorRoom + (rest.map fun v => v.category).sum ≤ 8) (hdg : decode cc g.pc = .ok (.invokespecial index, 3)) (hf : cells + mc ≤ R.cells ∧ slots + ms ≤ R.slots) :
    va_Run p l e R s m args below meth c H locs cells slots mc ms g rest (Qc (Value.ref b :: As).toArray) (free) := by
  have hK : Back l R p e below s args y 3 8 (PreOf R mc ms Pc) (PostOf Qc mc ms free) := back_of (bytes := bytes) (maxL := maxL) (ret := ret) hM hp.1 hrc hrs hfr hlo hws hcw (fun a' U hW => word_at hW (Or.inl (by first | rfl | simp [Jvm.Cond.onTables, Jvm.Cond.keeps, Jvm.Cond.steady])) hini)
  obtain ⟨hx, hb, hml, ho, -⟩ := S
  obtain ⟨-, ⟨cellB, hcB, hoB, hclB⟩, hPc⟩ := hp
  obtain ⟨hfc, kB, hkB, -⟩ := hat
  cases hfc.symm.trans hclB
  intro T hT X
  obtain ⟨v, vm₁, ⟨U', l2, c2, s2⟩, hW₁, X', ⟨g', mk, t, L, e1, e2, hq, h1, hL, h2, h3⟩, st⟩ := am_callSU X hx (bytes := bytes) (maxL := maxL) (ret := ret) ho hlink hsame hyx hsup hup hinst hcode hno hK (by rw [hT]; exact hcB) hoB hkB hg (hsize.trans hml.symm) (argsL := As) (rest := rest) hlen hstack hW (by rw [hb]; exact hdg)
    (fun vm₁ hW₁ => ⟨hf.1, hf.2, hPc (T.setVm vm₁) hT hW₁⟩)
  dsimp only [Pt.U, Pt.locs, Pt.cells, Pt.slots] at X' e1 e2 h1 h2 h3 st
  subst h1; subst h2; subst h3
  exact ⟨v, (T.setVm vm₁).calling g' mk (Value.ref b :: As).toArray, t, U', L, hT, X', hL, e1, e2, hq, st⟩
/-- the receiver's class -/
theorem am_recv {sc : Nat × (Nat → Int32)} {κ : Nat → ClassId} {D : va_G} {A : Nat → Prop} {ρ : Nat → Nat} {h : am_H} {k c0 : Nat} (hK : va_K D vwCl (am_tys κ) s) (hX : am_X ρ sc A s s.heap) (hP : va_P D vwCl (am_ws κ ρ h) H) (hS : va_S A s.heap H locs) (hc : am_cls h k = some c0) (h14 : c0 < 14) : ∃ cellB : Cell, H[ρ k]? = some cellB ∧ cellB.vm.isStatics = false ∧ s.vm.findClass (am_R c0) = some cellB.cls := by
  unfold am_cls at hc
  split at hc
  · rename_i hk
    cases hc
    have h1 := vk_recv hX.2.1.1 (i := k - 1000010) (by omega) hS
    have e1 := am_e1 hk.1
    simp only [e1] at h1
    exact h1
  · split at hc
    · rename_i tz nz hk
      split at hc
      · rename_i hlt
        cases hc
        have hg := am_ws_get (κ := κ) (ρ := ρ) hk
        rw [am_en_obj hlt] at hg
        exact va_recv hK hP (am_clsF _ hlt) hg
      · cases hc
    · cases hc
theorem am_pre_go {sc : Nat × (Nat → Int32)} {κ : Nat → ClassId} {D : va_G} {A : Nat → Prop} {ρ : Nat → Nat} {h : am_H} {av : List Value} (hK : va_K D vwCl (am_tys κ) s) (hX : am_X ρ sc A s s.heap) (hA : ∀ y, s.heap.size ≤ y → A y) (hP : va_P D vwCl (am_ws κ ρ h) H) (hD : va_D A (am_ws κ ρ h)) (hS : va_S A s.heap H locs) : ∀ U : State, U.heap = H → s.WarmedH U.vm → va_Pc av (am_Pre sc κ D A ρ h) av.toArray U := by
  intro U hU hW
  refine ⟨rfl, by rw [hU]; exact hP, hD, va_K.moved hW.alike hK, am_X_go (am_ag_rf 0 ρ) hX hS hU hW, fun y hy => hA y (Nat.le_trans hS.1 (by rw [← hU]; exact hy))⟩
theorem am_ret_v {ρ : Nat → Nat} {N : am_Me} {v : Value} {S1 : List Value} : (N.2.2.2.2.map (fun _ => am_v ρ v)).toList ++ S1.map (am_v ρ) = (am_ret N v S1).map (am_v ρ) := by
  unfold am_ret
  cases N.2.2.2.2 <;> rfl
theorem am_ret_ok {n : Nat} {N : am_Me} {v : Value} {S1 : List Value} (h1 : am_ok n v) (h2 : am_oks n S1) : am_oks n (am_ret N v S1) := by
  unfold am_ret
  split
  · exact h2
  · exact am_oks_cons.mpr ⟨h1, h2⟩
set_option maxHeartbeats 2000000 in
theorem am_C_all {sc : Nat × (Nat → Int32)} {κ : Nat → ClassId} {D : va_G} {A : Nat → Prop} {ρ : Nat → Nat} {M : am_Me} {len pc d n0 : Nat} {L S : List Value} {h : am_H} {qq : am_C} {N0 S0 : Nat} {i : Instr} (IH : am_WW l sc n0)
    (hx : p.tables.exec = Jvm.exec) (hb : c.code = M.2.2.1) (hml : c.maxLocals = M.2.2.2.1) (hown : s.vm.findClass (am_R M.1) = some m.cls) (hts : ∀ w ∈ am_TG, w.before args s = true)
    (hK : va_K D vwCl (am_tys κ) s) (hX : am_X ρ sc A s s.heap) (hA : ∀ y, s.heap.size ≤ y → A y) (hfr : d + 1 ≤ R.frames) (hlo : 60 * d + 60 ≤ R.locals)
    (hP : va_P D vwCl (am_ws κ ρ h) H) (hD : va_D A (am_ws κ ρ h)) (hS : va_S A s.heap H locs) (okh : am_okh h) (okS : am_oks h.1.length S) (hsz : ls.size = M.2.2.2.1)
    (hc1 : cells + N0 = h.1.length) (hs1 : slots + S0 = am_sm h.1) (hrc : qq.2.2.2.1.length ≤ R.cells + N0) (hrs : am_sm qq.2.2.2.1 ≤ R.slots + S0) (hmil : qq.2.2.2.1.length < 1000000)
    (kk : am_KK p l e R s m args below meth c Q κ D A ρ h qq N0 S0 ls)
    (hd : decode M.2.2.1 pc = .ok (i, len)) (hl : am_lok i len = true) (hq : am_ca (am_dn d (fun e N a h => am_run (some sc) n0 e N (0, am_L0 N a, [], h))) M i pc L S h = some qq) : W p l e R s m args below meth c H locs cells slots Q (F0 m pc ls (S.map (am_v ρ))) := by
  -- behind the callee
  have go : ∀ {N : am_Me} {r1 : am_R1} {S1 : List Value} {mc ms : Nat} {av : Array Value}, qq = (pc + 3, L, am_ret N r1.1 S1, r1.2) → am_oks h.1.length S1 → h.1.length ≤ r1.2.1.length → am_sm h.1 ≤ am_sm r1.2.1 → mc = r1.2.1.length - h.1.length → ms = am_sm r1.2.1 - am_sm h.1 →
      va_Run p l e R s m args below meth c H locs cells slots mc ms (F0 m pc ls (S.map (am_v ρ))) (S1.map (am_v ρ)) (am_QC κ D A ρ h N.2.2.2.2 r1 av) A → W p l e R s m args below meth c H locs cells slots Q (F0 m pc ls (S.map (am_v ρ))) := by
    intro N r1 S1 mc ms av hqq ok1 m1 m2 hmc hms hr
    refine am_call_go hr hS (fun ρ' H1 locs1 hag hP1 hD1 okh1 okr hS1 => ?_)
    subst hqq
    have k1 := kk ρ' H1 locs1 (cells + mc) (slots + ms) hag hP1 hD1 hS1 okh1 (am_ret_ok okr (am_oks_le ok1 m1)) m1 (by dsimp only; omega) (by dsimp only; omega)
    dsimp only at k1
    rw [← am_ret_v, am_vs_ag hag ok1] at k1
    exact k1
  have goodw : ∀ {N : am_Me}, am_Good N → ∀ w ∈ am_wc N :: am_TG, w ∈ am_TG := by
    intro N hg w hw
    rcases List.mem_cons.mp hw with hw | hw
    · subst hw; exact hg.2.2.2
    · exact hw
  cases i
  case invokevirtual x =>
    obtain rfl : len = _ := by simpa [am_lok, am_len] using hl
    simp only [am_ca] at hq
    split at hq <;> first | (cases hq; done) | skip
    rename_i n hn
    split at hq <;> first | (cases hq; done) | skip
    rename_i kz S1 hdr
    split at hq <;> first | (cases hq; done) | skip
    rename_i c0 hc0
    split at hq <;> first | (cases hq; done) | skip
    rename_i N hN
    split at hq <;> first | (cases hq; done) | skip
    rename_i hcd
    obtain ⟨hlen, hsum0, hla⟩ := hcd
    obtain ⟨r1, hr, hqq⟩ := Option.map_eq_some_iff.mp hq
    cases d with
    | zero => simp [am_dn] at hr
    | succ dd =>
      have hr2 : am_run (some sc) n0 dd N (0, am_L0 N (.ref kz :: (S.take n).reverse), [], h) = some r1 := hr
      have hS0 : S = S.take n ++ .ref kz :: S1 := by rw [← hdr]; exact (List.take_append_drop n S).symm
      have okA : am_oks h.1.length (S.take n) := fun v hv => okS v (List.mem_of_mem_take hv)
      have okD : am_oks h.1.length (.ref kz :: S1) := fun v hv => okS v (by rw [hS0]; exact List.mem_append_right _ hv)
      have ok1 := (am_oks_cons.mp okD).2
      have oka : am_oks h.1.length (.ref kz :: (S.take n).reverse) := am_oks_cons.mpr ⟨(am_oks_cons.mp okD).1, fun v hv => okA v (List.mem_reverse.mp hv)⟩
      obtain ⟨m1, m2⟩ := am_mono _ _ _ _ _ hr2
      dsimp only at m1 m2
      have hmil2 : r1.2.1.length < 1000000 := by rw [← hqq] at hmil; exact hmil
      have hrc2 : r1.2.1.length ≤ R.cells + N0 := by rw [← hqq] at hrc; exact hrc
      have hrs2 : am_sm r1.2.1 ≤ R.slots + S0 := by rw [← hqq] at hrs; exact hrs
      have hsum : ((S1.map (am_v ρ)).map fun v => v.category).sum ≤ 8 := by rw [am_v_sum]; exact hsum0
      have hroom := lv_room (m := m) (pc := pc) (ls := ls) (rest := S.map (am_v ρ)) hsum
      have hstack : S.map (am_v ρ) = ((S.take n).reverse.map (am_v ρ)).reverse ++ .ref (ρ kz) :: S1.map (am_v ρ) := by
        rw [← List.map_reverse, List.reverse_reverse]
        rw [show (Value.ref (ρ kz) :: S1.map (am_v ρ)) = (Value.ref kz :: S1).map (am_v ρ) from rfl, ← List.map_append, ← hS0]
      rcases am_cv_s hN with ⟨z, hz, hz1, rfl, rfl, rfl⟩ | ⟨z, hz, hz1, rfl, rfl, rfl⟩ <;> rw [← hz1] at hown
      · obtain ⟨hw, hdz⟩ := am_vK _ hz
        simp only [am_vW] at hw
        simp only [am_vD, Bool.and_eq_true, decide_eq_true_eq] at hdz
        have wc := hw (am_wc z.2.2.2.2) (by simp)
        obtain ⟨hg, d1, d2, d3⟩ := am_dM_s hdz.1.1 wc
        have hnn : n = z.2.2.2.1 := Option.some.inj (hn.symm.trans (by rw [← hz1]; exact am_vN z hz))
        subst hnn
        have hM := am_MM IH hr2 hg hla hmil2 okh oka (κ := κ) (D := D) (A := A) (ρ := ρ)
        refine go hqq.symm ok1 m1 m2 rfl rfl (va_runV (C := am_R z.2.2.1) (b := ρ kz) (As := (S.take z.2.2.2.1).reverse.map (am_v ρ)) (rest := S1.map (am_v ρ)) ⟨hx, hb, hml, hown, hts⟩ hM
          (cwV z.2.2.2.1 hts (am_gi (fun w hw1 => ?_)) rfl rfl rfl ⟨hdz.1.2, d1, d2, d3⟩ ⟨by show dd + 1 + 1 ≤ _; omega, by show 8 + (z.2.2.2.2.2.2.2.1 + 11) + (60 * dd + 60) ≤ _; have h40 := hg.2.1; omega⟩)
          ⟨am_Pre_blind, am_recv hK hX hP hS hc0 hdz.2, am_pre_go hK hX hA hP hD hS⟩ rfl (by rw [List.length_map, List.length_reverse]; exact hlen) hsz hstack hroom hd ⟨by omega, by omega⟩)
        simp only [wsV, List.cons_append, List.nil_append, List.mem_cons] at hw1
        rcases hw1 with rfl | rfl | rfl | rfl | rfl | hw1
        · exact hw _ (by simp)
        · exact hw _ (by simp)
        · exact hw _ (by simp)
        · exact hw _ (by simp)
        · exact hw _ (by simp)
        · exact hw1
      · obtain ⟨hw, hdz⟩ := am_uK _ hz
        simp only [am_uW] at hw
        simp only [am_uD, am_nM, Bool.and_eq_true, decide_eq_true_eq] at hdz
        obtain ⟨⟨⟨dM, ⟨d1, d2⟩, d3⟩, hub⟩, h13⟩ := hdz
        have wc := hw (am_wc z.2.2.2.2.1) (by simp)
        obtain ⟨hg, -, -, -⟩ := am_dM_s dM wc
        have hnn : n = z.2.2.2.1 := Option.some.inj (hn.symm.trans (by rw [← hz1]; exact am_uN z hz))
        subst hnn
        have hM := am_MM IH hr2 hg hla hmil2 okh oka (κ := κ) (D := D) (A := A) (ρ := ρ)
        refine go hqq.symm ok1 m1 m2 rfl rfl (va_runU (C := am_R z.2.2.1) (owner := z.2.2.2.2.2.2) (x := z.2.2.2.2.2.1) (b := ρ kz) (As := (S.take z.2.2.2.1).reverse.map (am_v ρ)) (rest := S1.map (am_v ρ)) ⟨hx, hb, hml, hown, hts⟩ hM
          (va_cwO (b0 := (am_ub z).2.2.1) (m0 := (am_ub z).2.2.2.1) (r0 := (am_ub z).2.2.2.2) z.2.2.2.1 hts (am_gi (fun w hw1 => ?_)) rfl rfl rfl (by have h9 := hw (am_wc (am_ub z)) (by simp); unfold am_wc at h9; rw [hub] at h9; exact h9) ⟨d1, d2, d3⟩ ⟨by show dd + 1 + 1 ≤ _; omega, by show 8 + (z.2.2.2.2.1.2.2.2.1 + 11) + (60 * dd + 60) ≤ _; have h40 := hg.2.1; omega⟩)
          ⟨am_Pre_blind, am_recv hK hX hP hS hc0 (by omega), am_pre_go hK hX hA hP hD hS⟩ rfl (by rw [List.length_map, List.length_reverse]; exact hlen) hsz hstack hroom hd ⟨by omega, by omega⟩)
        simp only [va_wsO, List.cons_append, List.nil_append, List.mem_cons] at hw1
        rcases hw1 with rfl | rfl | rfl | rfl | rfl | rfl | rfl | hw1
        · exact hw _ (by simp)
        · exact hw _ (by simp)
        · exact hw _ (by simp [am_uo])
        · exact hw _ (by simp)
        · exact hw _ (by simp)
        · exact hw _ (by simp)
        · exact hw _ (by simp)
        · exact hw1
  case invokestatic x =>
    obtain rfl : len = _ := by simpa [am_lok, am_len] using hl
    simp only [am_ca] at hq
    split at hq <;> first | (cases hq; done) | skip
    rename_i n N hN
    split at hq <;> first | (cases hq; done) | skip
    rename_i hcd
    obtain ⟨hlen, hsum0, hla⟩ := hcd
    obtain ⟨r1, hr, hqq⟩ := Option.map_eq_some_iff.mp hq
    cases d with
    | zero => simp [am_dn] at hr
    | succ dd =>
      have hr2 : am_run (some sc) n0 dd N (0, am_L0 N (S.take n).reverse, [], h) = some r1 := hr
      have hS0 : S = S.take n ++ S.drop n := (List.take_append_drop n S).symm
      have ok1 : am_oks h.1.length (S.drop n) := fun v hv => okS v (List.mem_of_mem_drop hv)
      have oka : am_oks h.1.length (S.take n).reverse := fun v hv => okS v (List.mem_of_mem_take (List.mem_reverse.mp hv))
      have hstack : S.map (am_v ρ) = ((S.take n).reverse.map (am_v ρ)).reverse ++ (S.drop n).map (am_v ρ) := by
        rw [← List.map_reverse, List.reverse_reverse, ← List.map_append, ← hS0]
      obtain ⟨m1, m2⟩ := am_mono _ _ _ _ _ hr2
      dsimp only at m1 m2
      have hmil2 : r1.2.1.length < 1000000 := by rw [← hqq] at hmil; exact hmil
      have hrc2 : r1.2.1.length ≤ R.cells + N0 := by rw [← hqq] at hrc; exact hrc
      have hrs2 : am_sm r1.2.1 ≤ R.slots + S0 := by rw [← hqq] at hrs; exact hrs
      have hsum : (((S.drop n).map (am_v ρ)).map fun v => v.category).sum ≤ 8 := by rw [am_v_sum]; exact hsum0
      have hroom := lv_room (m := m) (pc := pc) (ls := ls) (rest := S.map (am_v ρ)) hsum
      rcases am_ct_s hN with hz | hz
      · obtain ⟨hw, hdz⟩ := am_tK _ hz
        simp only [am_tW] at hw
        simp only [am_tD] at hdz
        have wc := hw (am_wc N) (by simp)
        obtain ⟨hg, d1, d2, d3⟩ := am_dM_s hdz wc
        have hM := am_MM IH hr2 hg hla hmil2 okh oka (κ := κ) (D := D) (A := A) (ρ := ρ)
        refine go hqq.symm ok1 m1 m2 rfl rfl (va_runS (As := (S.take n).reverse.map (am_v ρ)) (rest := (S.drop n).map (am_v ρ)) ⟨hx, hb, hml, hown, hts⟩ hM
          (va_cwS n hts (am_gi (fun w hw1 => ?_)) rfl rfl rfl ⟨d1, d2, d3⟩ ⟨by show dd + 1 + 1 ≤ _; omega, by show 8 + (N.2.2.2.1 + 11) + (60 * dd + 60) ≤ _; have h40 := hg.2.1; omega⟩)
          ⟨am_Pre_blind, am_pre_go hK hX hA hP hD hS⟩ rfl (by rw [List.length_map, List.length_reverse]; exact hlen) hsz hstack hroom hd ⟨by omega, by omega⟩)
        simp only [va_wsS, List.cons_append, List.nil_append, List.mem_cons] at hw1
        rcases hw1 with rfl | rfl | rfl | rfl | hw1
        · exact hw _ (by simp)
        · exact hw _ (by simp)
        · exact hw _ (by simp)
        · exact hw _ (by simp)
        · exact hw1
      · obtain ⟨hw, hdz⟩ := am_tnK _ hz
        simp only [am_tnW] at hw
        simp only [am_tD] at hdz
        have wc := hw (am_wc N) (by simp)
        obtain ⟨hg, d1, d2, d3⟩ := am_dM_s hdz wc
        have hM := am_MM IH hr2 hg hla hmil2 okh oka (κ := κ) (D := D) (A := A) (ρ := ρ)
        have hnw := hX.2.2.2.2.1 (.methodLinkNest (am_R M.1) x N.2.1 "VoiceNets") (List.mem_append_left _ (List.mem_map.mpr ⟨_, hz, rfl⟩))
        exact go hqq.symm ok1 m1 m2 rfl rfl (va_runSN (As := (S.take n).reverse.map (am_v ρ)) (rest := (S.drop n).map (am_v ρ)) ⟨hx, hb, hml, hown, hts⟩ hM
          ⟨va_cnB n hts (am_gi (goodw hg)) rfl rfl rfl hnw (hts _ (hw _ (by simp))) ⟨d1, d2, d3⟩ ⟨by show dd + 1 + 1 ≤ _; omega, by show 8 + (N.2.2.2.1 + 11) + (60 * dd + 60) ≤ _; have h40 := hg.2.1; omega⟩, hts _ (hw _ (by simp)), trivial⟩
          ⟨am_Pre_blind, am_pre_go hK hX hA hP hD hS⟩ rfl (by rw [List.length_map, List.length_reverse]; exact hlen) hsz hstack hroom hd ⟨by omega, by omega⟩)
  case invokespecial x =>
    obtain rfl : len = _ := by simpa [am_lok, am_len] using hl
    simp only [am_ca] at hq
    split at hq <;> first | (cases hq; done) | skip
    rename_i n N hN
    split at hq <;> first | (cases hq; done) | skip
    rename_i kz S1 hdr
    split at hq <;> first | (cases hq; done) | skip
    rename_i tz nz hkz
    split at hq <;> first | (cases hq; done) | skip
    rename_i hcd
    obtain ⟨hlt, hlen, hsum0, hla⟩ := hcd
    obtain ⟨r1, hr, hqq⟩ := Option.map_eq_some_iff.mp hq
    cases d with
    | zero => simp [am_dn] at hr
    | succ dd =>
      have hr2 : am_run (some sc) n0 dd N (0, am_L0 N (.ref kz :: (S.take n).reverse), [], h) = some r1 := hr
      have hS0 : S = S.take n ++ .ref kz :: S1 := by rw [← hdr]; exact (List.take_append_drop n S).symm
      have okA : am_oks h.1.length (S.take n) := fun v hv => okS v (List.mem_of_mem_take hv)
      have okD : am_oks h.1.length (.ref kz :: S1) := fun v hv => okS v (by rw [hS0]; exact List.mem_append_right _ hv)
      have ok1 := (am_oks_cons.mp okD).2
      have oka : am_oks h.1.length (.ref kz :: (S.take n).reverse) := am_oks_cons.mpr ⟨(am_oks_cons.mp okD).1, fun v hv => okA v (List.mem_reverse.mp hv)⟩
      have hstack : S.map (am_v ρ) = ((S.take n).reverse.map (am_v ρ)).reverse ++ .ref (ρ kz) :: S1.map (am_v ρ) := by
        rw [← List.map_reverse, List.reverse_reverse]
        rw [show (Value.ref (ρ kz) :: S1.map (am_v ρ)) = (Value.ref kz :: S1).map (am_v ρ) from rfl, ← List.map_append, ← hS0]
      obtain ⟨m1, m2⟩ := am_mono _ _ _ _ _ hr2
      dsimp only at m1 m2
      have hmil2 : r1.2.1.length < 1000000 := by rw [← hqq] at hmil; exact hmil
      have hrc2 : r1.2.1.length ≤ R.cells + N0 := by rw [← hqq] at hrc; exact hrc
      have hrs2 : am_sm r1.2.1 ≤ R.slots + S0 := by rw [← hqq] at hrs; exact hrs
      have hsum : ((S1.map (am_v ρ)).map fun v => v.category).sum ≤ 8 := by rw [am_v_sum]; exact hsum0
      have hroom := lv_room (m := m) (pc := pc) (ls := ls) (rest := S.map (am_v ρ)) hsum
      have hgz := am_ws_get (κ := κ) (ρ := ρ) hkz
      rw [am_en_obj hlt] at hgz
      rcases am_cp_s hN with hz | hz | ⟨z, hz, hz1, rfl, rfl, rfl⟩
      · obtain ⟨hw, hdz⟩ := am_iK _ hz
        simp only [am_iW] at hw
        simp only [am_iD, Bool.and_eq_true, decide_eq_true_eq] at hdz
        have wc := hw (am_wc N) (by simp)
        obtain ⟨hg, d1, d2, d3⟩ := am_dM_s hdz.1.1 wc
        have hM := am_MM IH hr2 hg hla hmil2 okh oka (κ := κ) (D := D) (A := A) (ρ := ρ)
        exact go hqq.symm ok1 m1 m2 rfl rfl (va_runI (As := (S.take n).reverse.map (am_v ρ)) (rest := S1.map (am_v ρ)) ⟨hx, hb, hml, hown, hts⟩ hM
          (cwI n hts (am_gi (goodw hg)) (by unfold am_wc; rw [hdz.2]) rfl rfl (hts _ (hw _ (by simp))) (hts _ (hw _ (by simp))) (hts _ (hw _ (by simp))) hdz.1.2 ⟨d1, d2, d3⟩ ⟨by show dd + 1 + 1 ≤ _; omega, by show 8 + (N.2.2.2.1 + 11) + (60 * dd + 60) ≤ _; have h40 := hg.2.1; omega⟩)
          ⟨am_Pre_blind, am_pre_go hK hX hA hP hD hS⟩ rfl (by rw [List.length_map, List.length_reverse]; exact hlen) hsz hstack hroom hd ⟨by omega, by omega⟩)
      · obtain ⟨hw, hdz⟩ := am_inK _ hz
        simp only [am_inW] at hw
        simp only [am_iD, Bool.and_eq_true, decide_eq_true_eq] at hdz
        have wc := hw (am_wc N) (by simp)
        obtain ⟨hg, d1, d2, d3⟩ := am_dM_s hdz.1.1 wc
        have hM := am_MM IH hr2 hg hla hmil2 okh oka (κ := κ) (D := D) (A := A) (ρ := ρ)
        have hnw := hX.2.2.2.2.1 (.methodLinkNest (am_R M.1) x N.2.1 "VoiceNets") (List.mem_append_right _ (List.mem_map.mpr ⟨_, hz, rfl⟩))
        exact go hqq.symm ok1 m1 m2 rfl rfl (va_runIN (As := (S.take n).reverse.map (am_v ρ)) (rest := S1.map (am_v ρ)) ⟨hx, hb, hml, hown, hts⟩ hM
          ⟨va_cnB n hts (am_gi (goodw hg)) (by unfold am_wc; rw [hdz.2]) rfl rfl hnw (hts _ (hw _ (by simp))) ⟨d1, d2, d3⟩ ⟨by show dd + 1 + 1 ≤ _; omega, by show 8 + (N.2.2.2.1 + 11) + (60 * dd + 60) ≤ _; have h40 := hg.2.1; omega⟩, hdz.1.2, hts _ (hw _ (by simp))⟩
          ⟨am_Pre_blind, am_pre_go hK hX hA hP hD hS⟩ rfl (by rw [List.length_map, List.length_reverse]; exact hlen) hsz hstack hroom hd ⟨by omega, by omega⟩)
      · rw [← hz1] at hown
        obtain ⟨hw, hdz⟩ := am_pK _ hz
        simp only [am_pW] at hw
        simp only [am_pD, Bool.and_eq_true, decide_eq_true_eq] at hdz
        obtain ⟨⟨dM, hyx⟩, hno⟩ := hdz
        have wc := hw (am_wc z.2.2.2.1) (by simp)
        obtain ⟨hg, d1, d2, d3⟩ := am_dM_s dM wc
        have hM := am_MM IH hr2 hg hla hmil2 okh oka (κ := κ) (D := D) (A := A) (ρ := ρ)
        have hwn := am_gi (goodw hg)
        have hupz : z.2.2.2.2.1.cls = z.2.2.2.2.2 ∨ (Jvm.Cond.superclass z.2.2.2.2.1.cls z.2.2.2.2.2).before args s = true := by
          by_cases hcz : z.2.2.2.2.1.cls = z.2.2.2.2.2
          · exact Or.inl hcz
          · rw [if_neg hcz] at hw
            exact Or.inr (hts _ (hw _ (by simp)))
        exact go hqq.symm ok1 m1 m2 rfl rfl (am_runSU (hK.1 tz _ (am_clsF tz hlt)).2 (x := z.2.2.2.2.1) (owner := z.2.2.2.2.2) (bytes := z.2.2.2.1.2.2.1) (maxL := z.2.2.2.1.2.2.2.1) (ret := z.2.2.2.1.2.2.2.2) (As := (S.take z.2.2.1).reverse.map (am_v ρ)) (rest := S1.map (am_v ρ)) ⟨hx, hb, hml, hown, hts⟩ hM rfl rfl (by show dd + 1 + 1 ≤ _; omega) (by show 8 + (z.2.2.2.1.2.2.2.1 + 11) + (60 * dd + 60) ≤ _; have h40 := hg.2.1; omega)
          (pay_in hts hwn) List.mem_cons_self (hts _ (hw _ (by simp))) (hts _ (hw _ (by simp))) hyx (hts _ (hw _ (by simp))) hupz (hts _ (hw _ (by simp))) (hts _ (hw _ (by simp))) (hts _ wc) hno
          (fun sig hsg => by rw [List.length_map, List.length_reverse, hlen]; rw [hsg] at d3; exact (Option.some.inj d3).symm)
          ⟨am_Pre_blind, va_recv hK hP (am_clsF tz hlt) hgz, am_pre_go hK hX hA hP hD hS⟩ rfl hsz hstack hroom hd ⟨by omega, by omega⟩)
  all_goals (exact absurd hq (by simp [am_ca]))
end CA
