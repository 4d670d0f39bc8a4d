/-! a run of the abstract machine is a run of the machine -/
section MN
variable {p : Program} {l : Launch} {e : Env} {R : Room} {s : State} {m : MethodId} {args : Array Value} {below : List Frame} {meth : Method} {c : Code} {H : Heap} {locs : List Loc} {cells slots : Nat} {Q : State → Prop} {ls : Array Slot}
theorem am_H_all {i : Instr} {sc : Nat × (Nat → Int32)} {κ : Nat → ClassId} {D : va_G} {A : Nat → Prop} {ρ : Nat → Nat} {M : am_Me} {len pc : Nat} {L S : List Value} {h : am_H} {qq : am_C} {N0 S0 nL : Nat}
    (hx : p.tables.exec = Jvm.exec) (hb : c.code = M.2.2.1) (hml : c.maxLocals = nL) (hown : s.vm.findClass (am_R M.1) = some m.cls) (hts : ∀ w ∈ am_TG, w.before args s = true) (hin : M.2.1.name = "<init>" → meth.name = "<init>")
    (hK : va_K D vwCl (am_tys κ) s) (hX : am_X ρ sc A s s.heap) (hA : ∀ y, s.heap.size ≤ y → A y) (hfr : 1 ≤ R.frames) (hlo : 60 ≤ R.locals)
    (hP : va_P D vwCl (am_ws κ ρ h) H) (hD : va_D A (am_ws κ ρ h)) (hS : va_S A s.heap H locs) (okh : am_okh h) (okS : am_oks h.1.length S) (hsz : ls.size = nL)
    (hc1 : cells + N0 = h.1.length) (hs1 : slots + S0 = am_sm h.1) (hrc : qq.2.2.2.1.length ≤ R.cells + N0) (hrs : am_sm qq.2.2.2.1 ≤ R.slots + S0) (hmil : qq.2.2.2.1.length < 1000000)
    (kk : am_KK p l e R s m args below meth c Q κ D A ρ h qq N0 S0 ls)
    (hd : decode M.2.2.1 pc = .ok (i, len)) (hl : am_lok i len = true) (hq : am_he (some sc) M i pc L S h = some qq) : W p l e R s m args below meth c H locs cells slots Q (F0 m pc ls (S.map (am_v ρ))) := by
  cases i
  case getfield x => exact am_H_getfield hx hb hml hown hts hin hK hX hA hfr hlo hP hD hS okh okS hsz hc1 hs1 hrc hrs hmil kk hd hl hq
  case putfield x => exact am_H_putfield hx hb hml hown hts hin hK hX hA hfr hlo hP hD hS okh okS hsz hc1 hs1 hrc hrs hmil kk hd hl hq
  case getstatic x => exact am_H_getstatic hx hb hml hown hts hin hK hX hA hfr hlo hP hD hS okh okS hsz hc1 hs1 hrc hrs hmil kk hd hl hq
  case arraylength => exact am_H_alen hx hb hml hown hts hin hK hX hA hfr hlo hP hD hS okh okS hsz hc1 hs1 hrc hrs hmil kk hd hl hq
  case iaload => exact am_H_iaload hx hb hml hown hts hin hK hX hA hfr hlo hP hD hS okh okS hsz hc1 hs1 hrc hrs hmil kk hd hl hq
  case iastore => exact am_H_iastore hx hb hml hown hts hin hK hX hA hfr hlo hP hD hS okh okS hsz hc1 hs1 hrc hrs hmil kk hd hl hq
  case laload => exact am_H_laload hx hb hml hown hts hin hK hX hA hfr hlo hP hD hS okh okS hsz hc1 hs1 hrc hrs hmil kk hd hl hq
  case lastore => exact am_H_lastore hx hb hml hown hts hin hK hX hA hfr hlo hP hD hS okh okS hsz hc1 hs1 hrc hrs hmil kk hd hl hq
  case aaload => exact am_H_aaload hx hb hml hown hts hin hK hX hA hfr hlo hP hD hS okh okS hsz hc1 hs1 hrc hrs hmil kk hd hl hq
  case aastore => exact am_H_aastore hx hb hml hown hts hin hK hX hA hfr hlo hP hD hS okh okS hsz hc1 hs1 hrc hrs hmil kk hd hl hq
  case baload => exact am_H_baload hx hb hml hown hts hin hK hX hA hfr hlo hP hD hS okh okS hsz hc1 hs1 hrc hrs hmil kk hd hl hq
  case new x => exact am_H_new hx hb hml hown hts hin hK hX hA hfr hlo hP hD hS okh okS hsz hc1 hs1 hrc hrs hmil kk hd hl hq
  case newarray t => exact am_H_newarray hx hb hml hown hts hin hK hX hA hfr hlo hP hD hS okh okS hsz hc1 hs1 hrc hrs hmil kk hd hl hq
  case anewarray x => exact am_H_anewarray hx hb hml hown hts hin hK hX hA hfr hlo hP hD hS okh okS hsz hc1 hs1 hrc hrs hmil kk hd hl hq
  case multianewarray x dd => exact am_H_mna hx hb hml hown hts hin hK hX hA hfr hlo hP hD hS okh okS hsz hc1 hs1 hrc hrs hmil kk hd hl hq
  case invokespecial x => exact am_H_objinit hx hb hml hown hts hin hK hX hA hfr hlo hP hD hS okh okS hsz hc1 hs1 hrc hrs hmil kk hd hl hq
  case invokestatic x => exact am_H_static hx hb hml hown hts hin hK hX hA hfr hlo hP hD hS okh okS hsz hc1 hs1 hrc hrs hmil kk hd hl hq
  all_goals (exact absurd hq (by simp [am_he]))
theorem am_KE_go {κ : Nat → ClassId} {D : va_G} {A : Nat → Prop} {ρ ρ' : Nat → Nat} {n0 n1 : Nat} {M : am_Me} {r : am_R1} {N0 S0 : Nat} (h : am_KE p l e R s m args below meth c Q κ D A ρ n0 M r N0 S0) (ha : am_ag n0 ρ ρ') (hn : n0 ≤ n1) : am_KE p l e R s m args below meth c Q κ D A ρ' n1 M r N0 S0 :=
  fun ρ'' H1 locs1 cells1 slots1 pc1 len ls1 S1 i hag => h ρ'' H1 locs1 cells1 slots1 pc1 len ls1 S1 i (am_ag_tr ha hag hn)
end MN
theorem am_cs_str {o : Nat} {sc : Nat × (Nat → Int32)} {A : Nat → Prop} {ρ : Nat → Nat} {s : State} (hX : am_X ρ sc A s s.heap) : ∀ x k, am_cs o x = some k → ∃ tx, vk_R (am_R o) x tx (ρ (1000010 + k)) s := hX.2.1.2 o
theorem am_ci_in {o x : Nat} {v : Int32} (h : am_ci o x = some v) : Jvm.Cond.constant (am_R o) x v ∈ am_TG := by
  unfold am_ci at h
  obtain ⟨⟨a, b, cd⟩, h1, h2⟩ := Option.map_eq_some_iff.mp h
  have h3 := List.find?_some h1
  have h4 := List.mem_of_find?_eq_some h1
  simp only [Bool.and_eq_true, beq_iff_eq] at h3 h2
  obtain ⟨rfl, rfl⟩ := h3
  subst h2
  exact (am_cK _ h4).1 _ List.mem_cons_self
theorem am_cl_in {o x : Nat} {v : Int64} (h : am_cl o x = some v) : Jvm.Cond.constantLong (am_R o) x v ∈ am_TG := by
  unfold am_cl at h
  obtain ⟨⟨a, b, cd⟩, h1, h2⟩ := Option.map_eq_some_iff.mp h
  have h3 := List.find?_some h1
  have h4 := List.mem_of_find?_eq_some h1
  simp only [Bool.and_eq_true, beq_iff_eq] at h3 h2
  obtain ⟨rfl, rfl⟩ := h3
  subst h2
  exact (am_lK _ h4).1 _ List.mem_cons_self
set_option maxHeartbeats 2000000 in
theorem am_main (l : Launch) (sc : Nat × (Nat → Int32)) : ∀ n, am_WW l sc n := by
  intro n
  induction n with
  | zero =>
    intro p e R s m args below meth c H locs cells slots Q κ D A ρ d M pc L S h r N0 S0 ls hx hb hml hown hts hin hK hX hA hfr hlo hrun
    simp [am_run] at hrun
  | succ n IH =>
    intro p e R s m args below meth c H locs cells slots Q κ D A ρ d M pc L S h r N0 S0 ls hx hb hml hown hts hin hK hX hA hfr hlo hrun hP hD hS okh okS okL hL hc1 hs1 hrc hrs hmil kend
    obtain ⟨mo1, mo2⟩ := am_mono _ _ _ _ _ hrun
    rw [am_run] at hrun
    unfold am_step at hrun
    dsimp only at hrun mo1 mo2
    cases hd : decode M.2.2.1 pc with
    | error err => rw [hd] at hrun; simp at hrun
    | ok il =>
      obtain ⟨i, len⟩ := il
      rw [hd] at hrun
      dsimp only at hrun
      by_cases hl : am_lok i len = true
      · rw [if_pos hl] at hrun
        cases hp : am_pu M.1 i pc L S with
        | some q1 =>
          rw [hp] at hrun
          obtain ⟨k1, k2⟩ := am_pu_ok hp okL okS
          exact am_W_pu hx hb hown (fun x v hv => hts _ (am_ci_in hv)) (fun x v hv => hts _ (am_cl_in hv)) (am_cs_str hX) hd hl hp hL okL (fun ls1 hL1 => IH hx hb hml hown hts hin hK hX hA hfr hlo hrun hP hD hS okh k2 k1 hL1 hc1 hs1 hrc hrs hmil kend)
        | none =>
          rw [hp] at hrun
          dsimp only at hrun
          cases hhe : am_he (some sc) M i pc L S h with
          | some q1 =>
            rw [hhe] at hrun
            obtain ⟨hLq, m1, m2⟩ := am_he_mono hhe
            obtain ⟨m3, m4⟩ := am_mono _ _ _ _ _ hrun
            refine am_H_all hx hb hml hown hts hin hK hX hA (by omega) (by omega) hP hD hS okh okS hL.1.1 hc1 hs1 (by omega) (by omega) (by omega) ?_ hd hl hhe
            intro ρ' H1 locs1 cells1 slots1 hag hP1 hD1 hS1 okh1 okS1 mle hc2 hs2
            have okL1 : am_oks q1.2.2.2.1.length q1.2.1 := by rw [hLq]; exact am_oks_le okL mle
            have hL1 : am_lr ρ' ls M.2.2.2.1 q1.2.1 := by rw [hLq]; exact am_lr_ag hag okL hL
            have hX1 : am_X ρ' sc A s s.heap := am_X_go (n := h.1.length) (locs := []) hag hX (va_S.rf (A := A)) rfl (State.WarmedH.refl s)
            exact IH hx hb hml hown hts hin hK hX1 hA hfr hlo hrun hP1 hD1 hS1 okh1 okS1 okL1 hL1 hc2 hs2 hrc hrs hmil (am_KE_go kend hag mle)
          | none =>
            rw [hhe] at hrun
            dsimp only at hrun
            cases hca : am_ca (am_dn d (fun e N a h => am_run (some sc) n e N (0, am_L0 N a, [], h))) M i pc L S h with
            | some q1 =>
              rw [hca] at hrun
              obtain ⟨m3, m4⟩ := am_mono _ _ _ _ _ hrun
              obtain ⟨N, a, S1, r1, hr, hqq⟩ := am_ca_s hca
              have hLq : q1.2.1 = L := by rw [hqq]
              refine am_C_all IH hx hb hml hown hts hK hX hA hfr hlo hP hD hS okh okS hL.1.1 hc1 hs1 (by omega) (by omega) (by omega) ?_ hd hl hca
              intro ρ' H1 locs1 cells1 slots1 hag hP1 hD1 hS1 okh1 okS1 mle hc2 hs2
              have okL1 : am_oks q1.2.2.2.1.length q1.2.1 := by rw [hLq]; exact am_oks_le okL mle
              have hL1 : am_lr ρ' ls M.2.2.2.1 q1.2.1 := by rw [hLq]; exact am_lr_ag hag okL hL
              have hX1 : am_X ρ' sc A s s.heap := am_X_go (n := h.1.length) (locs := []) hag hX (va_S.rf (A := A)) rfl (State.WarmedH.refl s)
              exact IH hx hb hml hown hts hin hK hX1 hA hfr hlo hrun hP1 hD1 hS1 okh1 okS1 okL1 hL1 hc2 hs2 hrc hrs hmil (am_KE_go kend hag mle)
            | none =>
              rw [hca] at hrun
              dsimp only at hrun
              cases hre : am_re M i S h with
              | none => rw [hre] at hrun; simp at hrun
              | some r0 =>
                rw [hre] at hrun
                simp only [Option.map_some, Option.some.injEq] at hrun
                subst hrun
                have e2 : r0.2 = h := by
                  unfold am_re at hre
                  split at hre <;> first | (cases hre; done) | skip
                  all_goals (repeat' (split at hre <;> first | (cases hre; done) | skip))
                  all_goals (cases hre; rfl)
                have kx := kend ρ H locs cells slots pc len ls S i (am_ag_rf _ _)
                rw [e2] at kx
                exact kx hP hD hS okh okS hc1 hs1 hd hl hre
      · rw [if_neg hl] at hrun
        simp at hrun
