/-! the law, out of a run of the abstract machine (its first rows written by wip/whole/gen_18.py) -/
theorem am_ls0 : ∀ w ∈ ([.laysStatic "VoiceNets" "KIND_ABOVE" "[I", .initialized "VoiceNets"] : List Jvm.Cond), w ∈ lw_tbl := am_atL_in _ [3014, 1001] (by decide +kernel)
theorem am_ls1 : ∀ w ∈ ([.laysStatic "java/lang/String" "COMPACT_STRINGS" "Z", .initialized "java/lang/String"] : List Jvm.Cond), w ∈ lw_tbl := am_atL_in _ [3122, 1016] (by decide +kernel)
theorem am_ls2 : ∀ w ∈ ([.laysStatic "jdk/internal/util/Preconditions" "SIOOBE_FORMATTER" "Ljava/util/function/BiFunction;", .initialized "jdk/internal/util/Preconditions"] : List Jvm.Cond), w ∈ lw_tbl := am_atL_in _ [3138, 1018] (by decide +kernel)
def am_srL : List Jvm.Cond := am_sT.map (fun z => .stringRef (am_R z.1) z.2.1 (am_sS.getD z.2.2 ""))
theorem am_srK : ∀ w ∈ am_srL, w ∈ lw_tbl := am_atL_in _ [3108, 3161, 3162, 3163, 3164, 3165, 3170, 3171, 3172, 3173, 3174, 3175, 3176, 3177, 3178, 3179, 3180, 3181] (by decide +kernel)
theorem am_casK : ∀ w ∈ am_casL, w ∈ lw_tbl := am_atL_in _ [9014, 9015, 9016, 9017, 9018] (by decide +kernel)
theorem am_pz_b {args : Array Value} {s : State} (hgv : (Jvm.Cond.and given_1 narrow_1).before args s = true) {w : Jvm.Cond} {bs : List Nat} (h : am_pz w bs = true) : w.before args s = true := am_pa_b bs _ hgv (of_decide_eq_true h)
theorem am_all {n : Nat} {f : Nat → Bool} (h : (List.range n).all f = true) {i : Nat} (hi : i < n) : f i = true := List.all_eq_true.mp h i (List.mem_range.mpr hi)
/-- array classes -/
theorem am_arr_of {args : Array Value} {s : State} {ty : FieldType} (h : (Jvm.Cond.arrayClass ty).before args s = true) (hty : ∀ C, ty ≠ .object C) : ∃ cA, ArrOfT s cA ty ∧ va_RA s cA ty := by
  obtain ⟨c0, k, comp, h1, h2, h3⟩ := Jvm.Cond.arrayClass_spec h
  refine ⟨c0, fun n z => ⟨(fun k h => by cases h), k, h2, comp, h3⟩, ?_⟩
  cases ty <;> first | exact h1 | exact absurd rfl (hty _)
theorem am_arr_ofC {s : State} {C : String} (h : (Jvm.Cond.arrayOver (.object C)).before #[] s = true) : ∃ cA, ArrOfT s cA (.object C) ∧ va_RA s cA (.object C) := by
  obtain ⟨comp, c0, k, h1, h2, h3, h4, h5⟩ := Jvm.Cond.arrayOver_spec h
  exact ⟨c0, fun n z => ⟨(fun k h => by cases h), k, h3, comp, h4⟩, k, comp, h3, h4, h1, h5⟩
theorem am_arr_ofA {s : State} {t : FieldType} (h : (Jvm.Cond.arrayOver (.array t)).before #[] s = true) : ∃ cA, ArrOfT s cA (.array t) ∧ va_RA s cA (.array t) := by
  have h0 : (Jvm.Cond.arrayOver (.array t)).value #[] s none s [] = some true := by simpa [Jvm.Cond.before, Jvm.Cond.holds] using h
  simp only [Jvm.Cond.value] at h0
  obtain ⟨comp, hcomp, h1⟩ := Option.bind_eq_some_iff.mp h0
  obtain ⟨c0, hc0, h2⟩ := Option.bind_eq_some_iff.mp h1
  obtain ⟨k, hk, h3⟩ := Option.map_eq_some_iff.mp h2
  cases hkd : k.kind with
  | array a b =>
    rw [hkd] at h3
    simp only [Bool.and_eq_true, decide_eq_true_eq] at h3
    obtain ⟨hb, hf⟩ := h3
    subst hb
    exact ⟨c0, fun n z => ⟨(fun k h => by cases h), k, hk, a, hkd⟩, hf⟩
  | _ => rw [hkd] at h3; simp at h3
def am_h0 : am_H := ([], fun _ _ => none, fun _ _ => 0, fun _ _ => 0)
def am_rho (b t f : Nat) (adK adV : Nat → Nat) : Nat → Nat := fun k => if k = 1000000 then b else if k = 1000001 then t else if k < 1000028 then adK (k - 1000010) else if k < 1000058 then adV (k - 1000040) else f
theorem am_static {b L : Nat} {xs : Nat → Int32} {s : State} (hts : ∀ w ∈ lw_tbl, w.before #[Value.ref b] s = true) (hX : va_X b L xs s s.heap) (hbl : b < s.heap.size) (hgv : (Jvm.Cond.and given_1 narrow_1).before #[Value.ref b] s = true) :
    ∃ (D : va_G) (κ : Nat → ClassId) (ρ : Nat → Nat), ρ 1000000 = b ∧ va_K D vwCl (am_tys κ) s ∧ am_X ρ (L, xs) (fun y => s.heap.size ≤ y) s s.heap := by
  have hA : ∀ a : Nat, a < s.heap.size → ¬ (fun y => s.heap.size ≤ y) a := fun a h1 h2 => by dsimp only at h2; omega
  have hTG : ∀ w ∈ am_TG, w.before #[Value.ref b] s = true := fun w hw => hts w (List.mem_filter.mp hw).1
  -- the classes
  have hcl : ∀ c0 : Nat, ∃ q : ClassId × (Nat → Nat), c0 < 13 → u_Kn s (am_R c0) (am_cq c0).2.1 (am_nf c0) q.1 q.2 := by
    intro c0
    by_cases hc : c0 < 13
    · have hex : ∃ z ∈ am_nT, z.2.2 = c0 := by
        have hz : (List.range 13).all (fun c1 => am_nT.any (fun z => decide (z.2.2 = c1))) = true := by decide +kernel
        obtain ⟨z, hz1, hz2⟩ := List.any_eq_true.mp (am_all hz hc)
        exact ⟨z, hz1, of_decide_eq_true hz2⟩
      obtain ⟨z, hz, rfl⟩ := hex
      obtain ⟨hw, -⟩ := am_nK _ hz
      simp only [am_nW] at hw
      obtain ⟨cC, iS, hk⟩ := u_known hTG (am_clsW z.2.2 hc) (hTG _ (hw (.instantiable (am_R z.2.2) (am_nf z.2.2)) (by simp)))
      exact ⟨(cC, iS), fun _ => hk⟩
    · exact ⟨(0, fun _ => 0), fun hz => absurd hz hc⟩
  obtain ⟨fD, hfD⟩ := Classical.axiomOfChoice hcl
  have hov : ∀ w ∈ am_ovL, w.before #[] s = true := by
    intro w hw
    have h1 := hts w (am_ovK w hw)
    obtain ⟨t, rfl⟩ := am_ov_form w hw
    exact h1
  obtain ⟨k0, a0, r0⟩ := am_arr_of (hTG _ am_arI) (fun C h => by cases h)
  obtain ⟨k1, a1, r1⟩ := am_arr_of (hTG _ am_arJ) (fun C h => by cases h)
  obtain ⟨k2, a2, r2⟩ := am_arr_ofC (hov (.arrayOver (.object "VoiceNets$Voice")) (by simp [am_ovL]))
  obtain ⟨k3, a3, r3⟩ := am_arr_ofA (hov (.arrayOver (.array .int)) (by simp [am_ovL]))
  obtain ⟨k4, a4, r4⟩ := am_arr_ofA (hov (.arrayOver (.array .long)) (by simp [am_ovL]))
  -- KIND_ABOVE
  have hd := am_fl_d
  simp only [Bool.and_eq_true] at hd
  obtain ⟨⟨⟨⟨d1, d2⟩, d3⟩, d4⟩, d5⟩ := hd
  obtain ⟨t, ht, hT⟩ := va_Tof (N := 6) (f := fun j => .int (am_KA j)) (by decide) (am_pz_b hgv d1) (va_eqt (am_pz_b hgv d2)) (fun j hj => va_eqt (am_pz_b hgv (am_all d3 hj))) hA
  -- the strings
  have hs : ∀ i, i < 18 → (Jvm.Cond.exactly (am_tm i) "java/lang/String").before #[Value.ref b] s = true ∧ (Jvm.Cond.eq (.field (am_tm i) "java/lang/String" "coder" "B") (.int 0)).before #[Value.ref b] s = true ∧ (Jvm.Cond.arrayOf (am_tv i) .byte).before #[Value.ref b] s = true ∧ (Jvm.Cond.eq (.length (am_tv i)) (.int (Int32.ofNat ((am_sB.map List.length).getD i 0)))).before #[Value.ref b] s = true := by
    intro i hi
    have h1 := am_all am_fl_a hi
    simp only [Bool.and_eq_true] at h1
    exact ⟨am_pz_b hgv h1.1.1.1, am_pz_b hgv h1.1.1.2, am_pz_b hgv h1.1.2, am_pz_b hgv h1.2⟩
  have hne : ∀ i j, i < j → j < 18 → (Jvm.Cond.not (Jvm.Cond.eq (am_tm i) (am_tm j))).before #[Value.ref b] s = true ∨ (Jvm.Cond.not (Jvm.Cond.eq (am_tm j) (am_tm i))).before #[Value.ref b] s = true := by
    intro i j hij hj
    have h1 := am_all (am_all am_fl_c (show i < 18 by omega)) (show j - i - 1 < 17 - i by omega)
    have e1 : i + 1 + (j - i - 1) = j := by omega
    rw [e1] at h1
    have h2 := am_pz_b hgv h1
    split at h2
    · exact Or.inl h2
    · exact Or.inr h2
  obtain ⟨adK, adV, hSt, hev⟩ := vk_Sof (N := 18) (tm := am_tm) (len := am_sB.map List.length) (byt := am_sB) (by
      intro i hi
      have hz : (List.range 18).all (fun i => decide ((am_sB.map List.length).getD i 0 < 2 ^ 31)) = true := by decide +kernel
      exact of_decide_eq_true (am_all hz hi)) (fun i hi => (hs i hi).1) (fun i hi => (hs i hi).2.1) (fun i hi => (hs i hi).2.2.1) (fun i hi => (hs i hi).2.2.2)
    (fun i hi j hj => am_pz_b hgv (am_all (am_all am_fl_b hi) hj))
    (fun i j hi hj hij => by
      rcases Nat.lt_or_gt_of_ne hij with hz | hz
      · exact hne i j hz hj
      · exact (hne j i hz hi).symm) hA
  -- the statics of the JDK
  have hcs := va_Zof (hts _ (am_ls1 _ (by simp))) (hts _ (am_ls1 _ (by simp))) (va_eqi (am_pz_b hgv d4)) hA
  have hsf := va_Zqof (hts _ (am_ls2 _ (by simp))) (hts _ (am_ls2 _ (by simp))) (am_pz_b hgv d5) hA
  obtain ⟨f, hf⟩ : ∃ f : Nat, va_Z "jdk/internal/util/Preconditions" "SIOOBE_FORMATTER" "Ljava/util/function/BiFunction;" (if f = 0 then .null else .ref (f - 1)) (fun y => s.heap.size ≤ y) s s.heap := by
    rcases hsf with hz | ⟨t2, hz⟩
    · exact ⟨0, hz⟩
    · refine ⟨t2 + 1, ?_⟩
      rw [if_neg (Nat.succ_ne_zero t2), Nat.add_sub_cancel]
      exact hz
  have g0 : am_rho b t f adK adV 1000000 = b := rfl
  have g1 : am_rho b t f adK adV 1000001 = t := rfl
  have g2 : ∀ i, i < 18 → am_rho b t f adK adV (1000010 + i) = adK i := fun i hi => by
    unfold am_rho
    rw [if_neg (by omega), if_neg (by omega), if_pos (by omega), show 1000010 + i - 1000010 = i by omega]
  have g3 : ∀ i, i < 18 → am_rho b t f adK adV (1000040 + i) = adV i := fun i hi => by
    unfold am_rho
    rw [if_neg (by omega), if_neg (by omega), if_neg (by omega), if_pos (by omega), show 1000040 + i - 1000040 = i by omega]
  have g4 : am_rho b t f adK adV 1000100 = f := rfl
  refine ⟨(fun k => (fD k).1, fun k => (fD k).2), fun k => if k = 20 then k0 else if k = 21 then k1 else if k = 22 then k2 else if k = 23 then k3 else k4, am_rho b t f adK adV, g0, ⟨?_, ?_⟩, ⟨?_, ?_⟩, ⟨?_, ?_⟩, ⟨hcs, ?_⟩, ⟨?_, ?_, ?_⟩, ?_, hov, ?_⟩
  · intro c0 q hq
    have hlt : c0 < 13 := (List.getElem?_eq_some_iff.mp hq).1
    rw [am_clsF c0 hlt] at hq
    cases hq
    exact hfD c0 hlt
  · intro k q hq
    match k, hq with
    | 0, hq => cases hq; exact ⟨a0, r0⟩
    | 1, hq => cases hq; exact ⟨a1, r1⟩
    | 2, hq => cases hq; exact ⟨a2, r2⟩
    | 3, hq => cases hq; exact ⟨a3, r3⟩
    | 4, hq => cases hq; exact ⟨a4, r4⟩
    | k + 5, hq => simp [am_tys] at hq
  · rw [g1]; exact va_Zof (hts _ (am_ls0 _ (by simp))) (hts _ (am_ls0 _ (by simp))) ht hA
  · rw [g1]; exact hT
  · refine ⟨fun i hi => ?_, fun i j hi hj hij => ?_⟩
    · dsimp only
      rw [g2 i hi, g3 i hi]
      exact hSt.1 i hi
    · dsimp only at hij
      rw [g2 i hi, g2 j hj] at hij
      exact hSt.2 i j hi hj hij
  · intro o x k hk
    unfold am_cs at hk
    obtain ⟨⟨o2, x2, k2⟩, hz1, hz2⟩ := Option.map_eq_some_iff.mp hk
    have h3 := List.find?_some hz1
    have h4 := List.mem_of_find?_eq_some hz1
    simp only [Bool.and_eq_true, beq_iff_eq] at h3 hz2
    obtain ⟨rfl, rfl⟩ := h3
    subst hz2
    have hall : am_sT.all (fun z => decide (z.2.2 < 18 ∧ z.1 = 6 ∧ ((am_sT[z.2.2]?).map (fun z => z.2.1)).getD 0 = z.2.1)) = true := by decide +kernel
    obtain ⟨hk18, ho6, hxe⟩ := of_decide_eq_true (List.all_eq_true.mp hall _ h4)
    dsimp only at hk18 ho6 hxe
    refine ⟨am_sS.getD k2 "", ?_⟩
    rw [g2 k2 hk18]
    have e2 := hev k2 hk18
    unfold am_tm at e2
    rw [hxe] at e2
    subst ho6
    exact vk_R.of (hts _ (am_srK _ (List.mem_map.mpr ⟨_, h4, rfl⟩))) e2
  · show va_Z _ _ _ (if am_rho b t f adK adV 1000100 = 0 then .null else .ref (am_rho b t f adK adV 1000100 - 1)) _ _ _
    rw [g4]
    exact hf
  · rw [g0]; exact hX
  · rw [g0]; exact hbl
  · rw [g0]; exact hA b hbl
  · intro w hw
    have h1 := hts w (am_nestK w hw)
    obtain ⟨a, i, x, h, rfl⟩ := am_nest_form w hw
    exact va_Nw.of rfl h1
  · intro w hw
    have hck : ∀ w ∈ am_casL, w ∈ lw_tbl := am_casK
    have h1 := hts w (hck w hw)
    obtain ⟨a, c1, rfl⟩ := am_cas_form w hw
    exact va_Nw.of rfl h1
/-- the law, from its entry, out of a run of the abstract machine -/
theorem am_start {p : Program} {e : Env} {s : State} {m : MethodId} {below : List Frame} {meth : Method} {c : Code} (l : Launch) {b L : Nat} {xs : Nat → Int32} (C0 : lw_At p s m meth c b L xs) {n d : Nat} {h1 : am_H} (hrun : am_run (some (L, xs)) n d mL_law (0, am_L0 mL_law [.ref 1000000], [], am_h0) = some (.int 1, h1)) (hd : d ≤ 1000) (hcells : h1.1.length ≤ 600000) (hslots : am_sm h1.1 ≤ 7302250) :
    W p l e room_1 s m #[Value.ref b] below meth c s.heap [] 0 0 (lw_Z below #[Value.ref b] s) (entryFrame m ([Value.ref b] : List Value).toArray 4) := by
  obtain ⟨hx, hb, hr, hml, hown, hts, hX, hbl, hlocks, hgv⟩ := id C0
  obtain ⟨D, κ, ρ, hρ, hK, hXX⟩ := am_static hts hX hbl hgv
  have hTG : ∀ w ∈ am_TG, w.before #[Value.ref b] s = true := fun w hw => hts w (List.mem_filter.mp hw).1
  rw [lg_entry_eq]
  have e1 : ([Value.ref b] : List Value) = ([.ref 1000000] : List Value).map (am_v ρ) := by simp [am_v, hρ]
  have hl := am_L0_lr ρ mL_law [.ref 1000000] (by decide)
  rw [← e1] at hl
  refine am_main l (L, xs) n (M := mL_law) (κ := κ) (D := D) (A := fun y => s.heap.size ≤ y) (ρ := ρ) (d := d) (S := []) (h := am_h0) (N0 := 0) (S0 := 0) hx hb hml hown hTG (fun hz => absurd hz (by decide)) hK hXX (fun _ h => h) (by show d + 1 ≤ 2048; omega) (by show 60 * d + 60 ≤ 84000; omega) hrun (fun k q hq => by simp [am_ws, am_h0] at hq) ⟨fun i j q1 q2 h => by simp [am_ws, am_h0] at h, fun k q h => by simp [am_ws, am_h0] at h⟩ va_S.rf (fun k j y hy => by simp [am_h0] at hy) am_oks_nil (am_L0_ok mL_law (am_oks_cons.mpr ⟨am_ok_ext (by omega), am_oks_nil⟩)) hl rfl rfl hcells hslots (by show h1.1.length < 1000000; omega) ?_
  intro ρ' H1 locs1 cells1 slots1 pc1 len ls1 S1 i hag hP1 hD1 hS1 ok1 okS1 hc1 hs1 hd1 hl1 hre
  cases i
  case ireturn =>
    obtain rfl : len = _ := by simpa [am_lok, am_len] using hl1
    unfold am_re at hre
    dsimp only at hre
    split at hre
    · rename_i vz tz e2
      split at hre
      · have e3 := congrArg Prod.fst (Option.some.inj hre)
        cases e3
        refine va_forget (fun q hq => hS1.2.2 q hq) ?_
        refine W.widen (k := 600000) (n := 7302250) (by dsimp only at hc1; omega) (by dsimp only at hs1; omega) ?_
        exact lw_ret hx hb hr hlocks hd1
      · cases hre
    · cases hre
  case lreturn => simp only [am_re] at hre; split at hre <;> simp at hre
  case areturn => simp only [am_re] at hre; split at hre <;> simp at hre
  case return_ => simp only [am_re] at hre; split at hre <;> simp at hre
  all_goals (exact absurd hre (by simp [am_re]))
