/-! a new two-dimensional row, walked through the machine's own text (written by hand) -/
section MNA
variable {p : Program} {l : Launch} {e : Env} {R : Room} {s : State} {m : MethodId} {args : Array Value} {below : List Frame} {meth : Method} {c : Code} {H : Heap} {locs : List Loc} {cells slots : Nat} {Q : State → Prop}
/-- what the outer row holds with i inner rows made -/
def am_2O (cO : ClassId) (N a i : Nat) : Cell := arrV cO N (fun j => if j < i then .ref (a + 1 + j) else .null)
theorem am_2O_s {cO : ClassId} {N a i : Nat} : (am_2O cO N a i).setSlot i (.ref (a + 1 + i)) = am_2O cO N a (i + 1) := by
  unfold am_2O
  rw [arrV_store]
  congr 1
  funext j
  unfold updV
  by_cases h : j = i
  · rw [if_pos h, if_pos (by omega), h]
  · rw [if_neg h]
    dsimp only
    by_cases h2 : j < i
    · rw [if_pos h2, if_pos (by omega)]
    · rw [if_neg h2, if_neg (by omega)]
/-- the state with i inner rows made -/
def am_2T (cO cI : ClassId) (N K : Nat) (v : Value) (T : State) : Nat → State
  | 0 => T.pushCell { cls := cO, slots := Array.replicate N .null, vm := .none }
  | i + 1 => ((am_2T cO cI N K v T i).pushCell { cls := cI, slots := Array.replicate K v, vm := .none }).setCell T.heap.size ((am_2O cO N T.heap.size i).setSlot i (.ref (T.heap.size + 1 + i)))
theorem am_2T_ok {cO cI : ClassId} {N K : Nat} {v : Value} {T : State} (X : Stand p l e R s m args below meth c T locs cells slots) : ∀ i, i ≤ N →
    Stand p l e R s m args below meth c (am_2T cO cI N K v T i) (locs ++ (List.range i).map fun j => ⟨T.heap.size, j⟩) (cells + (1 + i)) (slots + (N + i * K)) ∧
    (am_2T cO cI N K v T i).vm = T.vm ∧ (am_2T cO cI N K v T i).heap.size = T.heap.size + 1 + i ∧
    (am_2T cO cI N K v T i).heap[T.heap.size]? = some (am_2O cO N T.heap.size i) ∧
    (∀ j, j < i → (am_2T cO cI N K v T i).heap[T.heap.size + 1 + j]? = some (arrV cI K (fun _ => v))) ∧
    ∀ y, y < T.heap.size → (am_2T cO cI N K v T i).heap[y]? = T.heap[y]? := by
  intro i
  induction i with
  | zero =>
    intro _
    have h := X.pushed { cls := cO, slots := Array.replicate N .null, vm := .none }
    refine ⟨?_, rfl, ?_, ?_, fun j hj => absurd hj (Nat.not_lt_zero j), fun y hy => ?_⟩
    · simpa [am_2T] using h
    · simp [am_2T]
    · show (T.heap.push _)[T.heap.size]? = _
      rw [Array.getElem?_push_size, arrV_new]
      simp [am_2O]
    · show (T.heap.push _)[y]? = _
      rw [Array.getElem?_push, if_neg (Nat.ne_of_lt hy)]
  | succ i ih =>
    intro hi
    obtain ⟨h1, h2, h3, h4, h5, h6⟩ := ih (by omega)
    have x1 := h1.pushed { cls := cI, slots := Array.replicate K v, vm := .none }
    have hz : ((am_2T cO cI N K v T i).pushCell { cls := cI, slots := Array.replicate K v, vm := .none }).heap = (am_2T cO cI N K v T i).heap.push { cls := cI, slots := Array.replicate K v, vm := .none } := rfl
    have c4 : ((am_2T cO cI N K v T i).pushCell { cls := cI, slots := Array.replicate K v, vm := .none }).heap[T.heap.size]? = some (am_2O cO N T.heap.size i) := by
      rw [hz, Array.getElem?_push, if_neg (by omega)]; exact h4
    have x2 := x1.stored c4 i (.ref (T.heap.size + 1 + i))
    have hsz : ((am_2T cO cI N K v T i).heap.push { cls := cI, slots := Array.replicate K v, vm := .none }).size = T.heap.size + 1 + i + 1 := by rw [Array.size_push, h3]
    have hh : (am_2T cO cI N K v T (i + 1)).heap = ((am_2T cO cI N K v T i).heap.push { cls := cI, slots := Array.replicate K v, vm := .none }).setIfInBounds T.heap.size (am_2O cO N T.heap.size (i + 1)) := by
      rw [← am_2O_s]; rfl
    refine ⟨?_, ?_, ?_, ?_, fun j hj => ?_, fun y hy => ?_⟩
    · have e1 : locs ++ (List.range (i + 1)).map (fun j => (⟨T.heap.size, j⟩ : Loc)) = (locs ++ (List.range i).map fun j => (⟨T.heap.size, j⟩ : Loc)) ++ [⟨T.heap.size, i⟩] := by
        rw [List.range_succ, List.map_append, List.append_assoc]; rfl
      have e2 : cells + (1 + (i + 1)) = cells + (1 + i) + 1 := by omega
      have e3 : slots + (N + (i + 1) * K) = slots + (N + i * K) + (Array.replicate K v).size := by rw [Array.size_replicate, Nat.succ_mul]; omega
      rw [e1, e2, e3]
      exact x2
    · exact h2
    · rw [hh, Array.size_setIfInBounds, hsz]; omega
    · rw [hh, Array.getElem?_setIfInBounds_self, if_pos (by rw [hsz]; omega)]
    · rw [hh, Array.getElem?_setIfInBounds_ne (by omega), Array.getElem?_push]
      by_cases hji : j = i
      · rw [if_pos (by rw [h3, hji]), arrV_new]
      · rw [if_neg (by rw [h3]; omega)]
        exact h5 j (by omega)
    · rw [hh, Array.getElem?_setIfInBounds_ne (by omega), Array.getElem?_push, if_neg (by rw [h3]; omega)]
      exact h6 y hy
/-- one inner row -/
theorem am_2in {E : CtlPost} {d : Bool} {acts : List Action} {U : State} {cI x : ClassId} {kI : Class} {ty : FieldType} {k : Int32} {P : Addr → Pre} (hk : ¬ k < 0) (hkI : U.vm.classes[cI]? = some kI) (hkind : kI.kind = .array x ty) (hlimit : ¬ k.toNatClampNeg > e.platform.arrayLengthLimit) (hheap : ¬ k.toNatClampNeg * componentBytes ty > e.platform.maxHeapBytes)
    (hcells : U.heap.size < e.platform.maxCells) (hslots : U.slotsUsed + k.toNatClampNeg ≤ e.platform.maxSlots) (hfit : fits ty (defaultValue ty) = true)
    (hq : ∀ acts', P U.heap.size d acts' (U.pushCell { cls := cI, slots := Array.replicate k.toNatClampNeg (defaultValue ty) })) : wp (Op.multianewarray.make cI [k]) P E e d acts U := by
  rw [Op.multianewarray.make]
  simp only [wp_bind', Jvm.W.ite, hk, if_false, wp_pure', Jvm.W.theClass]
  refine ⟨kI, hkI, ?_⟩
  simp only [hkind]
  exact Jvm.W.newArray_of hkI hkind hlimit hheap hcells hslots hfit hq
/-- the outer row, and the inner ones -/
theorem am_2out {E : CtlPost} {d : Bool} {acts : List Action} {T : State} {g : JFrame} {cO cI x : ClassId} {kO kI : Class} {ty : FieldType} {n k : Int32} {P : Addr → Pre} (X : Stand p l e R s m args below meth c T locs cells slots) (hn : ¬ n < 0) (hk : ¬ k < 0) (hkO : T.vm.classes[cO]? = some kO) (hkindO : kO.kind = .array cI (.array ty)) (hkI : T.vm.classes[cI]? = some kI) (hkindI : kI.kind = .array x ty)
    (hb1 : n.toNatClampNeg * 4 ≤ 536870912) (hb2 : k.toNatClampNeg * componentBytes ty ≤ 536870912) (hb3 : k.toNatClampNeg ≤ 536870912) (hfit : fits ty (defaultValue ty) = true)
    (hcells : cells + (1 + n.toNatClampNeg) ≤ R.cells) (hslots : slots + (n.toNatClampNeg + n.toNatClampNeg * k.toNatClampNeg) ≤ R.slots)
    (hq : ∀ d' acts', P T.heap.size d' acts' ((am_2T cO cI n.toNatClampNeg k.toNatClampNeg (defaultValue ty) T n.toNatClampNeg).setTop g)) : wp (Op.multianewarray.make cO [n, k]) P E e d acts (T.setTop g) := by
  have hlim : ∀ q, q * 1 ≤ 536870912 → ¬ q > e.platform.arrayLengthLimit := fun q hq => by rw [Launch.admits_arrayLengthLimit X.admits]; omega
  obtain ⟨r1, r2⟩ := X.roomAbove (by omega : cells + 1 ≤ R.cells) (by omega : slots + n.toNatClampNeg ≤ R.slots)
  rw [Op.multianewarray.make]
  simp only [wp_bind', Jvm.W.ite, hn, if_false, wp_pure', Jvm.W.theClass]
  refine ⟨kO, hkO, ?_⟩
  simp only [hkindO, wp_bind']
  refine Jvm.W.newArray_of (s := T.setTop g) hkO hkindO (hlim _ (by omega)) (by rw [Launch.admits_maxHeapBytes X.admits]; show ¬ n.toNatClampNeg * 4 > 536870912; omega) (by show T.heap.size < _; omega) (by show T.slotsUsed + _ ≤ _; exact r2) rfl (fun acts' => ?_)
  have hf : List.find? (fun x : Int32 => decide (x < 0)) [k] = none := by simp [hk]
  rw [hf]
  dsimp only
  rw [ite_self, wp_bind', Std.Legacy.Range.forIn_eq_forIn_range']
  have hszr : ([:n.toNatClampNeg] : Std.Legacy.Range).size = n.toNatClampNeg := by simp [Std.Legacy.Range.size]
  rw [hszr]
  have hok := fun i hi => am_2T_ok (cO := cO) (cI := cI) (N := n.toNatClampNeg) (K := k.toNatClampNeg) (v := defaultValue ty) X i hi
  refine wp_forIn_inv (fun rest U => ∃ i, i ≤ n.toNatClampNeg ∧ rest = List.range' i (n.toNatClampNeg - i) ∧ U = (am_2T cO cI n.toNatClampNeg k.toNatClampNeg (defaultValue ty) T i).setTop g) _ _ ⟨0, Nat.zero_le _, rfl, rfl⟩ ?_ ?_
  · rintro y rest U d' acts1 P' ⟨i, hi, hr, rfl⟩ hP'
    have hcons := hr.symm
    rw [List.range'_eq_cons_iff] at hcons
    obtain ⟨rfl, hpos, hrest⟩ := hcons
    obtain ⟨h1, h2, h3, h4, h5, h6⟩ := hok i hi
    have hmul : i * k.toNatClampNeg + k.toNatClampNeg ≤ n.toNatClampNeg * k.toNatClampNeg := by
      rw [← Nat.succ_mul]; exact Nat.mul_le_mul_right _ (by omega)
    obtain ⟨q1, q2⟩ := h1.roomAbove (by omega : cells + (1 + i) + 1 ≤ R.cells) (by omega : slots + (n.toNatClampNeg + i * k.toNatClampNeg) + k.toNatClampNeg ≤ R.slots)
    rw [wp_bind']
    refine am_2in (U := (am_2T cO cI n.toNatClampNeg k.toNatClampNeg (defaultValue ty) T i).setTop g) hk (by show (am_2T cO cI n.toNatClampNeg k.toNatClampNeg (defaultValue ty) T i).vm.classes[cI]? = _; rw [h2]; exact hkI) hkindI (hlim _ (by omega)) (by rw [Launch.admits_maxHeapBytes X.admits]; omega) (by show (am_2T cO cI n.toNatClampNeg k.toNatClampNeg (defaultValue ty) T i).heap.size < _; omega) (by show (am_2T cO cI n.toNatClampNeg k.toNatClampNeg (defaultValue ty) T i).slotsUsed + _ ≤ _; exact q2) hfit (fun acts2 => ?_)
    rw [wp_bind', Jvm.W.writeLoc]
    refine ⟨am_2O cO n.toNatClampNeg T.heap.size i, ?_, ?_, ?_, ?_, ?_⟩
    · show ((am_2T cO cI n.toNatClampNeg k.toNatClampNeg (defaultValue ty) T i).heap.push _)[T.heap.size]? = _
      rw [Array.getElem?_push, if_neg (by omega)]; exact h4
    · simp [am_2O, arrV]
    · show i < (am_2O cO n.toNatClampNeg T.heap.size i).slots.size
      unfold am_2O; rw [arrV_size]; omega
    · show State.fitsSlot (am_2T cO cI n.toNatClampNeg k.toNatClampNeg (defaultValue ty) T i) cO .none i _ = true
      have hkO' : (am_2T cO cI n.toNatClampNeg k.toNatClampNeg (defaultValue ty) T i).vm.classes[cO]? = some kO := by rw [h2]; exact hkO
      simp [State.fitsSlot, State.slotType?, hkO', hkindO, fits]
    · rw [wp_pure']
      refine hP' _ _ _ ⟨i + 1, by omega, ?_, ?_⟩
      · rw [hrest, show n.toNatClampNeg - i - 1 = n.toNatClampNeg - (i + 1) by omega]
      · show _ = State.setTop (State.setCell (State.pushCell _ _) _ _) g
        rw [← h3]
        rfl
  · rintro U d' acts1 ⟨i, hi, hr, rfl⟩
    have hi2 : n.toNatClampNeg - i = 0 := by
      have := congrArg List.length hr
      simpa using this.symm
    have hi3 : i = n.toNatClampNeg := by omega
    subst hi3
    rw [wp_pure']
    exact hq _ _
theorem am_mna_row {cc : ByteArray} {pc : Nat} {rest : List Value} {own : String} {index : Nat} {ty : FieldType} {n k : Int32} {ls : Array Slot} (hexec : p.tables.exec = Jvm.exec) (hb : c.code = cc) (hown : s.vm.findClass own = some m.cls) (hclink : (Jvm.Cond.classLink own index ("[" ++ (FieldType.array ty).toString)).before args s = true) (hover : (Jvm.Cond.arrayOver (.array ty)).before args s = true) {cI : ClassId} (hfI : s.vm.findClass (FieldType.array ty).toString = some cI) (hAI : ArrOfT s cI ty)
    (hn : ¬ n < 0) (hk : ¬ k < 0) (hb1 : n.toNatClampNeg * 4 ≤ 536870912) (hb2 : k.toNatClampNeg * componentBytes ty ≤ 536870912) (hb3 : k.toNatClampNeg ≤ 536870912) (hdf : fits ty (defaultValue ty) = true) (hdd : (defaultValue ty).isDefault = true)
    (hcells : cells + (1 + n.toNatClampNeg) ≤ R.cells) (hslots : slots + (n.toNatClampNeg + n.toNatClampNeg * k.toNatClampNeg) ≤ R.slots) (hdg : decode cc pc = .ok (.multianewarray index 2, 4))
    (kk : ∀ (cO : ClassId) (H1 : Heap), s.vm.findClass ("[" ++ (FieldType.array ty).toString) = some cO → H1.size = H.size + 1 + n.toNatClampNeg → H1[H.size]? = some (vp_cell cO (n.toNatClampNeg, .inr (.inr (.inr (.inr (fun j => if j < n.toNatClampNeg then some (H.size + 1 + j) else none)))))) → (∀ j, j < n.toNatClampNeg → H1[H.size + 1 + j]? = some (arrV cI k.toNatClampNeg (fun _ => defaultValue ty))) → (∀ y, y < H.size → H1[y]? = H[y]?) →
      W p l e R s m args below meth c H1 (locs ++ (List.range n.toNatClampNeg).map fun j => ⟨H.size, j⟩) (cells + (1 + n.toNatClampNeg)) (slots + (n.toNatClampNeg + n.toNatClampNeg * k.toNatClampNeg)) Q (F0 m (pc + 4) ls (.ref H.size :: rest))) : W p l e R s m args below meth c H locs cells slots Q (F0 m pc ls (.int k :: .int n :: rest)) := by
  intro T hT X
  subst hT; subst hb
  have hpl : e.platform.magicAccessors = ({} : Platform).magicAccessors := by rw [X.admits.platform]
  obtain ⟨comp, cA, kA, hcomp, hidx, hkA, hkindA, hnameA⟩ := arrayOverA_spec hover
  obtain ⟨-, kI, hkI, compI, hkindI⟩ := hAI 0 (fun _ => .null)
  have hkI : s.vm.classes[cI]? = some kI := hkI
  obtain ⟨cc', hfcc, hcl⟩ := Cond.classLink_spec hown hclink e.platform hpl
  cases hnameA.symm.trans hfcc
  cases hcomp.symm.trans hfI
  obtain ⟨hg₁, hwarm₁, hready₁⟩ := State.classEntry (e := e) X.warmed hcl
  generalize T.vm.noted m.cls index (.cls cA) = vm₁ at hg₁ hwarm₁ hready₁
  have hal : s.vm.Alike vm₁ := hwarm₁.alike
  obtain ⟨kA₁, hkA₁, heA⟩ := hal.2.2 _ _ hkA
  have hkindA₁ : kA₁.kind = .array cI (.array ty) := by rw [heA]; exact hkindA
  obtain ⟨kI₁, hkI₁, heI⟩ := hal.2.2 _ _ hkI
  have hkindI₁ : kI₁.kind = .array compI ty := by rw [heI]; exact hkindI
  have X₁ := X.noted hwarm₁
  obtain ⟨f1, f2, f3, f4, f5, f6⟩ := am_2T_ok (cO := cA) (cI := cI) (N := n.toNatClampNeg) (K := k.toNatClampNeg) (v := defaultValue ty) X₁ n.toNatClampNeg (Nat.le_refl _)
  have f4' : (am_2T cA cI n.toNatClampNeg k.toNatClampNeg (defaultValue ty) (T.setVm vm₁) n.toNatClampNeg).heap[T.heap.size]? = some (vp_cell cA (n.toNatClampNeg, .inr (.inr (.inr (.inr (fun j => if j < n.toNatClampNeg then some (T.heap.size + 1 + j) else none)))))) := by
    rw [vp_cell_q]
    refine f4.trans ?_
    unfold am_2O
    congr 2
    funext j
    by_cases h : j < n.toNatClampNeg
    · rw [if_pos h, if_pos h]; rfl
    · rw [if_neg h, if_neg h]; rfl
  obtain ⟨t, a1, b1⟩ := kk cA _ hnameA f3 f4' f5 f6 (am_2T cA cI n.toNatClampNeg k.toNatClampNeg (defaultValue ty) (T.setVm vm₁) n.toNatClampNeg) rfl f1
  refine ⟨t, ?_, b1⟩
  refine Steps.instr (c := c) (by simpa using X.here) ?_
  simp only [hdg]
  rw [hexec]
  show wp (Op.multianewarray.sem index 2) _ _ e false [] (T.setTop (F0 m pc ls (.int k :: .int n :: rest)))
  rw [Op.multianewarray.sem]
  simp only [wp_bind']
  rw [Jvm.W.resolveClassAt_links (State.method?_setTop _ X.here.top) hg₁]
  have e0 : (T.setTop (F0 m pc ls (.int k :: .int n :: rest))).setVm vm₁ = (T.setVm vm₁).setTop (F0 m pc ls (.int k :: .int n :: rest)) := rfl
  rw [wp_bind', e0, show (2 : Nat) = [Value.int n, Value.int k].length from rfl, popN_top (s := T.setVm vm₁) (f := F0 m pc ls (.int k :: .int n :: rest)) (rest := rest) X.here.top rfl]
  simp only [List.mapM_cons, List.mapM_nil, wp_bind', wp_pure']
  refine am_2out (T := T.setVm vm₁) (g := F0 m pc ls rest) X₁ hn hk hkA₁ hkindA₁ hkI₁ hkindI₁ hb1 hb2 hb3 hdf hcells hslots (fun d' acts' => ?_)
  rw [wp_bind', Jvm.W.mark, Jvm.W.pushRef]
  refine ⟨_, State.topJava?_setTop' _ f1.here.top, fun acts => ?_⟩
  simpa [afterInstr, State.modifyTopJava_setTop, State.topJava?_setTop' _ f1.here.top] using a1
end MNA
