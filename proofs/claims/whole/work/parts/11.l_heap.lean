/-! facts of the classes -/
theorem am_good_lay {C : String} {T : u_T} {N : Nat} : ∀ w ∈ u_ws C T N, goodWord w = true := by
  intro w hw
  obtain ⟨k, -, rfl⟩ := List.mem_map.mp hw
  unfold u_lay
  split <;> rfl
theorem am_in_TG {w : Jvm.Cond} (h : w ∈ lw_tbl) (hg : goodWord w = true) : w ∈ am_TG := List.mem_filter.mpr ⟨h, hg⟩
theorem am_clsF (c : Nat) (hc : c < 13) : vwCl[c]? = some (am_R c, (am_cq c).2.1, am_nf c) := by
  match c, hc with
  | 0, _ => rfl
  | 1, _ => rfl
  | 2, _ => rfl
  | 3, _ => rfl
  | 4, _ => rfl
  | 5, _ => rfl
  | 6, _ => rfl
  | 7, _ => rfl
  | 8, _ => rfl
  | 9, _ => rfl
  | 10, _ => rfl
  | 11, _ => rfl
  | 12, _ => rfl
theorem am_clsW (c : Nat) (hc : c < 13) : ∀ w ∈ u_ws (am_R c) (am_cq c).2.1 (am_nf c), w ∈ am_TG := by
  intro w hw
  refine am_in_TG ?_ (am_good_lay w hw)
  match c, hc, hw with
  | 0, _, hw => exact inX0 w hw
  | 1, _, hw => exact inX1 w hw
  | 2, _, hw => exact inX2 w hw
  | 3, _, hw => exact inX3 w hw
  | 4, _, hw => exact inX4 w hw
  | 5, _, hw => exact inX5 w hw
  | 6, _, hw => exact inX6 w hw
  | 7, _, hw => exact inX7 w hw
  | 8, _, hw => exact inX8 w hw
  | 9, _, hw => exact inX9 w hw
  | 10, _, hw => exact inX10 w hw
  | 11, _, hw => exact inX11 w hw
  | 12, _, hw => exact inX12 w hw
def am_ty0 (c : Nat) : Nat → FieldType := match c with
  | 0 => tyX0
  | 1 => tyX1
  | 2 => tyX2
  | 3 => tyX3
  | 4 => tyX4
  | 5 => tyX5
  | 6 => tyX6
  | 7 => tyX7
  | 8 => tyX8
  | 9 => tyX9
  | 10 => tyX10
  | 11 => tyX11
  | _ => tyX12
def am_isR (t : FieldType) : Bool := match t with
  | .object _ => true
  | .array _ => true
  | _ => false
theorem am_clsT (c : Nat) (hc : c < 13) : (∀ k, k < am_nf c → parseFieldDescriptor ((am_cq c).2.1 k).2.2.1 = some (am_ty0 c k)) ∧ (∀ a, a < am_nf c → ∀ b, b < am_nf c → a ≠ b → ((am_cq c).2.1 a).2.1 ≠ ((am_cq c).2.1 b).2.1) := by
  match c, hc with
  | 0, _ => exact ⟨tyX0_ok, nmX0⟩
  | 1, _ => exact ⟨tyX1_ok, nmX1⟩
  | 2, _ => exact ⟨tyX2_ok, nmX2⟩
  | 3, _ => exact ⟨tyX3_ok, nmX3⟩
  | 4, _ => exact ⟨tyX4_ok, nmX4⟩
  | 5, _ => exact ⟨tyX5_ok, nmX5⟩
  | 6, _ => exact ⟨tyX6_ok, nmX6⟩
  | 7, _ => exact ⟨tyX7_ok, nmX7⟩
  | 8, _ => exact ⟨tyX8_ok, nmX8⟩
  | 9, _ => exact ⟨tyX9_ok, nmX9⟩
  | 10, _ => exact ⟨tyX10_ok, nmX10⟩
  | 11, _ => exact ⟨tyX11_ok, nmX11⟩
  | 12, _ => exact ⟨tyX12_ok, nmX12⟩
theorem am_clsK : ∀ c, c < 13 → ∀ k, k < am_nf c → (am_fk c k = 0 → am_ty0 c k = .int ∧ ((am_cq c).2.1 k).2.2.2 = false) ∧ (am_fk c k = 1 → am_ty0 c k = .boolean ∧ ((am_cq c).2.1 k).2.2.2 = false) ∧ (am_fk c k = 2 → am_isR (am_ty0 c k) = true ∧ ((am_cq c).2.1 k).2.2.2 = true) ∧ am_fk c k < 3 := by decide +kernel
theorem am_fld_in {o x c j : Nat} (h : am_fld o x = some (c, j)) : (o, x, c, j) ∈ am_fT := by
  unfold am_fld at h
  obtain ⟨e1, h1, h2⟩ := Option.map_eq_some_iff.mp h
  have h3 := List.find?_some h1
  have h4 := List.mem_of_find?_eq_some h1
  obtain ⟨a, b, cd⟩ := e1
  simp only [Bool.and_eq_true, beq_iff_eq] at h3 h2
  obtain ⟨rfl, rfl⟩ := h3
  subst h2
  exact h4
/-- a slot of a cell becomes another value -/
theorem am_en_put {κ : Nat → ClassId} {ρ : Nat → Nat} {h h' : am_H} {k c n j : Nat} (hc : c < 13) (ho : ∀ i, i ≠ j → am_fv ρ h' c k i = am_fv ρ h c k i) : am_en κ ρ h' k (c, n) = .inr (c, ((List.range (am_nf c)).map (am_fv ρ h c k)).set j (am_fv ρ h' c k j)) := by
  unfold am_en
  rw [if_pos hc]
  congr 2
  apply List.ext_getElem?
  intro i
  by_cases hi : i = j
  · subst hi
    by_cases hl : i < am_nf c
    · rw [List.getElem?_set_self (by simpa using hl)]
      simp [hl]
    · rw [List.getElem?_eq_none (by simpa using hl), List.getElem?_eq_none (by simpa using hl)]
  · rw [List.getElem?_set_ne (Ne.symm hi)]
    simp only [List.getElem?_map]
    by_cases hl : i < am_nf c
    · simp [hl, ho i hi]
    · simp [hl]
theorem am_sm_app (a b : List (Nat × Nat)) : ((a ++ b).map Prod.snd).sum = (a.map Prod.snd).sum + (b.map Prod.snd).sum := by simp
def am_sm (l : List (Nat × Nat)) : Nat := (l.map Prod.snd).sum
theorem am_sm_new (h : am_H) (t n : Nat) : am_sm (am_new h t n).1 = am_sm h.1 + n := by simp [am_sm, am_new]
theorem am_cq_n (c : Nat) (hc : c < 13) : (am_cq c).2.2 = am_nf c := by
  unfold am_cq
  rw [List.getD_eq_getElem?_getD, am_clsF c hc]
  rfl
theorem am_en_obj {κ : Nat → ClassId} {ρ : Nat → Nat} {h : am_H} {k c n : Nat} (hc : c < 13) : am_en κ ρ h k (c, n) = .inr (c, (List.range (am_nf c)).map (am_fv ρ h c k)) := if_pos hc
theorem am_en_i {κ : Nat → ClassId} {ρ : Nat → Nat} {h : am_H} {k n : Nat} : am_en κ ρ h k (20, n) = .inl (κ 20, n, .inl (h.2.2.1 k)) := rfl
theorem am_en_l {κ : Nat → ClassId} {ρ : Nat → Nat} {h : am_H} {k n : Nat} : am_en κ ρ h k (21, n) = .inl (κ 21, n, .inr (.inl (h.2.2.2 k))) := rfl
theorem am_en_r {κ : Nat → ClassId} {ρ : Nat → Nat} {h : am_H} {k t n : Nat} (h1 : 22 ≤ t) : am_en κ ρ h k (t, n) = .inl (κ t, n, .inr (.inr (.inr (.inr (fun j => (h.2.1 k j).map ρ))))) := by
  unfold am_en
  rw [if_neg (by simp only; omega), if_neg (by simp only; omega), if_neg (by simp only; omega)]
/-- what goes on behind an instruction of the heap -/
def am_KK (p : Program) (l : Launch) (e : Env) (R : Room) (s : State) (m : MethodId) (args : Array Value) (below : List Frame) (meth : Method) (c : Code) (Q : State → Prop) (κ : Nat → ClassId) (D : va_G) (A : Nat → Prop) (ρ : Nat → Nat) (h : am_H) (qq : am_C) (N0 S0 : Nat) (ls : Array Slot) : Prop :=
  ∀ (ρ' : Nat → Nat) (H1 : Heap) (locs1 : List Loc) (cells1 slots1 : Nat), am_ag h.1.length ρ ρ' → va_P D vwCl (am_ws κ ρ' qq.2.2.2) H1 → va_D A (am_ws κ ρ' qq.2.2.2) → va_S A s.heap H1 locs1 → am_okh qq.2.2.2 → am_oks qq.2.2.2.1.length qq.2.2.1 → h.1.length ≤ qq.2.2.2.1.length →
    cells1 + N0 = qq.2.2.2.1.length → slots1 + S0 = am_sm qq.2.2.2.1 → W p l e R s m args below meth c H1 locs1 cells1 slots1 Q (F0 m qq.1 ls (qq.2.2.1.map (am_v ρ')))
section HE
variable {p : Program} {l : Launch} {e : Env} {R : Room} {s : State} {m : MethodId} {args : Array Value} {below : List Frame} {meth : Method} {c : Code} {H : Heap} {locs : List Loc} {cells slots : Nat} {Q : State → Prop} {ls : Array Slot}
set_option maxHeartbeats 400000 in
theorem am_H_getfield {x : Nat} {sc : Nat × (Nat → Int32)} {κ : Nat → ClassId} {D : va_G} {A : Nat → Prop} {ρ : Nat → Nat} {M : am_Me} {len pc : Nat} {L S : List Value} {h : am_H} {qq : am_C} {N0 S0 nL : Nat}
    (hx : p.tables.exec = Jvm.exec) (hb : c.code = M.2.2.1) (hml : c.maxLocals = nL) (hown : s.vm.findClass (am_R M.1) = some m.cls) (hts : ∀ w ∈ am_TG, w.before args s = true) (hin : M.2.1.name = "<init>" → meth.name = "<init>")
    (hK : va_K D vwCl (am_tys κ) s) (hX : am_X ρ sc A s s.heap) (hA : ∀ y, s.heap.size ≤ y → A y) (hfr : 1 ≤ R.frames) (hlo : 60 ≤ R.locals)
    (hP : va_P D vwCl (am_ws κ ρ h) H) (hD : va_D A (am_ws κ ρ h)) (hS : va_S A s.heap H locs) (okh : am_okh h) (okS : am_oks h.1.length S) (hsz : ls.size = nL)
    (hc1 : cells + N0 = h.1.length) (hs1 : slots + S0 = am_sm h.1) (hrc : qq.2.2.2.1.length ≤ R.cells + N0) (hrs : am_sm qq.2.2.2.1 ≤ R.slots + S0) (hmil : qq.2.2.2.1.length < 1000000)
    (kk : am_KK p l e R s m args below meth c Q κ D A ρ h qq N0 S0 ls)
    (hd : decode M.2.2.1 pc = .ok (.getfield x, len)) (hl : am_lok (.getfield x) len = true) (hq : am_he sc M (.getfield x) pc L S h = some qq) : W p l e R s m args below meth c H locs cells slots Q (F0 m pc ls (S.map (am_v ρ))) := by
  obtain rfl : len = _ := by simpa [am_lok, am_len] using hl
  simp only [am_he] at hq
  split at hq
  · rename_i kz S1
    obtain ⟨v, hv, rfl⟩ := Option.map_eq_some_iff.mp hq
    have okS1 := (am_oks_cons.mp okS).2
    have kv : am_ok h.1.length v → W p l e R s m args below meth c H locs cells slots Q (F0 m (pc + 3) ls (am_v ρ v :: S1.map (am_v ρ))) := fun hok => kk ρ H locs cells slots (am_ag_rf _ _) hP hD hS okh (am_oks_cons.mpr ⟨hok, okS1⟩) (Nat.le_refl _) hc1 hs1
    unfold am_gf at hv
    split at hv
    · rename_i cz jz hf
      obtain ⟨hw, hdz⟩ := am_fK _ (am_fld_in hf)
      simp only [am_fW, am_fD] at hw hdz
      split at hv
      · rename_i h13
        subst h13
        rw [if_pos rfl] at hw
        have hw1 := hts _ (hw _ List.mem_cons_self)
        split at hv
        · rename_i hk
          obtain ⟨hO, hco, hva, hT⟩ := hX.2.1.1.1 (kz - 1000010) (by omega)
          have e1 : 1000010 + (kz - 1000010) = kz := by omega
          have e2 : 1000040 + (kz - 1000010) = kz + 30 := by omega
          simp only [e1, e2] at hva hco
          split at hv
          · rename_i hj
            subst hj
            cases hv
            exact vk_getf hx hb hva hS hown hw1 (fun _ hz => hz) hd (kv (am_ok_ext (by omega)))
          · rename_i hj
            cases hv
            simp only [am_sF, if_neg hj] at hw1
            exact vk_getf hx hb hco hS hown hw1 (fun _ hz => hz) hd (kv trivial)
        · cases hv
      · rename_i h13
        rw [if_neg h13] at hw
        have hw1 := hts _ (hw _ List.mem_cons_self)
        split at hv
        · rename_i tz nz hk
          split at hv
          · rename_i hcd
            obtain ⟨rfl, hlt⟩ := hcd
            have hd2 : jz < (am_cq tz).2.2 ∧ ((am_cq tz).2.1 jz).1 = am_R tz := by
              simp only [Bool.or_eq_true, Bool.and_eq_true, decide_eq_true_eq] at hdz
              rcases hdz with hdz | hdz
              · exact absurd hdz.1 h13
              · exact ⟨hdz.1.2, hdz.2⟩
            rw [am_cq_n tz hlt] at hd2
            have hg := am_ws_get (κ := κ) (ρ := ρ) hk
            rw [am_en_obj hlt] at hg
            have hfv : am_fv ρ h tz kz jz = am_v ρ v ∧ am_ok h.1.length v := by
              split at hv
              · rename_i h2
                obtain ⟨y, hy, rfl⟩ := Option.map_eq_some_iff.mp hv
                exact ⟨by simp only [am_fv, if_pos h2, hy]; rfl, okh _ _ _ hy⟩
              · rename_i h2
                split at hv
                · cases hv
                  exact ⟨by simp only [am_fv, if_neg h2]; rfl, trivial⟩
                · cases hv
            refine va_get hx hb hts (am_clsW tz hlt) hown hK hP kz hg (am_clsF tz hlt) jz hd2.1 hw1 (fun z hz => by rw [← hd2.2]; exact hz) (v := am_v ρ v) ?_ hd (kv hfv.2)
            rw [List.getElem?_map, List.getElem?_range hd2.1, Option.map_some, hfv.1]
          · cases hv
        · cases hv
    · cases hv
  · cases hq
set_option maxHeartbeats 400000 in
theorem am_H_putfield {x : Nat} {sc : Nat × (Nat → Int32)} {κ : Nat → ClassId} {D : va_G} {A : Nat → Prop} {ρ : Nat → Nat} {M : am_Me} {len pc : Nat} {L S : List Value} {h : am_H} {qq : am_C} {N0 S0 nL : Nat}
    (hx : p.tables.exec = Jvm.exec) (hb : c.code = M.2.2.1) (hml : c.maxLocals = nL) (hown : s.vm.findClass (am_R M.1) = some m.cls) (hts : ∀ w ∈ am_TG, w.before args s = true) (hin : M.2.1.name = "<init>" → meth.name = "<init>")
    (hK : va_K D vwCl (am_tys κ) s) (hX : am_X ρ sc A s s.heap) (hA : ∀ y, s.heap.size ≤ y → A y) (hfr : 1 ≤ R.frames) (hlo : 60 ≤ R.locals)
    (hP : va_P D vwCl (am_ws κ ρ h) H) (hD : va_D A (am_ws κ ρ h)) (hS : va_S A s.heap H locs) (okh : am_okh h) (okS : am_oks h.1.length S) (hsz : ls.size = nL)
    (hc1 : cells + N0 = h.1.length) (hs1 : slots + S0 = am_sm h.1) (hrc : qq.2.2.2.1.length ≤ R.cells + N0) (hrs : am_sm qq.2.2.2.1 ≤ R.slots + S0) (hmil : qq.2.2.2.1.length < 1000000)
    (kk : am_KK p l e R s m args below meth c Q κ D A ρ h qq N0 S0 ls)
    (hd : decode M.2.2.1 pc = .ok (.putfield x, len)) (hl : am_lok (.putfield x) len = true) (hq : am_he sc M (.putfield x) pc L S h = some qq) : W p l e R s m args below meth c H locs cells slots Q (F0 m pc ls (S.map (am_v ρ))) := by
  obtain rfl : len = _ := by simpa [am_lok, am_len] using hl
  simp only [am_he] at hq
  split at hq
  · rename_i v kz S1
    obtain ⟨h1, hv, rfl⟩ := Option.map_eq_some_iff.mp hq
    have okv := (am_oks_cons.mp okS).1
    have okS1 := (am_oks_cons.mp (am_oks_cons.mp okS).2).2
    unfold am_pf at hv
    split at hv
    · rename_i cz jz hf
      obtain ⟨hw, hdz⟩ := am_fK _ (am_fld_in hf)
      simp only [am_fW, am_fD] at hw hdz
      split at hv
      · rename_i tz nz hk
        split at hv
        · rename_i hcd
          obtain ⟨rfl, hlt⟩ := hcd
          have h13 : ¬ tz = 13 := by omega
          rw [if_neg h13] at hw
          have hw1 := hts _ (hw _ List.mem_cons_self)
          have hd2 : jz < (am_cq tz).2.2 ∧ ((am_cq tz).2.1 jz).1 = am_R tz := by
            simp only [Bool.or_eq_true, Bool.and_eq_true, decide_eq_true_eq] at hdz
            rcases hdz with hdz | hdz
            · exact absurd hdz.1 h13
            · exact ⟨hdz.1.2, hdz.2⟩
          rw [am_cq_n tz hlt] at hd2
          have hg := am_ws_get (κ := κ) (ρ := ρ) hk
          rw [am_en_obj hlt] at hg
          obtain ⟨t1, t2⟩ := am_clsT tz hlt
          obtain ⟨k0, k1, k2, -⟩ := am_clsK tz hlt jz hd2.1
          split at hv
          · rename_i y
            split at hv
            · rename_i hyk
              cases hv
              have hne : ¬ am_fk tz jz = 2 := by omega
              have hfin : ((am_cq tz).2.1 jz).2.2.2 = false := by
                rcases hyk with hz | hz
                · exact (k0 hz).2
                · exact (k1 hz.1).2
              have hnf : narrow (am_ty0 tz jz) (.int y) = .int y ∧ fits (am_ty0 tz jz) (.int y) = true := by
                rcases hyk with hz | hz
                · rw [(k0 hz).1]; exact ⟨rfl, rfl⟩
                · rw [(k1 hz.1).1]
                  rcases hz.2 with rfl | rfl <;> exact ⟨rfl, rfl⟩
              have hset : (am_ws κ ρ h).set kz (ρ kz, .inr (tz, ((List.range (am_nf tz)).map (am_fv ρ h tz kz)).set jz (.int y))) = am_ws κ ρ (h.1, h.2.1, va_up h.2.2.1 kz (upd (h.2.2.1 kz) jz y), h.2.2.2) := by
                rw [← am_ws_set (h := h) (h' := (h.1, h.2.1, va_up h.2.2.1 kz (upd (h.2.2.1 kz) jz y), h.2.2.2)) hk rfl (fun j tw hj => am_en_eq rfl (by simp only [va_up, if_neg hj]) rfl)]
                rw [am_en_put (h := h) hlt (j := jz) (fun i hi => by simp only [am_fv, va_up, upd, if_neg hi, if_pos rfl])]
                simp only [am_fv, if_neg hne, va_up, upd, if_pos rfl]
              refine va_put hx hb hts (am_clsW tz hlt) (am_ty0 tz) t1 t2 hown hK hP hD hS kz hg (am_clsF tz hlt) jz hd2.1 hw1 (fun z hz => by rw [← hd2.2]; exact hz) hfin (t1 jz hd2.1) hnf.1 hnf.2 (by simpa using hd2.1) hd (fun H1 locs1 hP1 hD1 hS1 => ?_)
              rw [hset] at hP1 hD1
              exact kk ρ H1 locs1 cells slots (am_ag_rf _ _) hP1 hD1 hS1 okh okS1 (Nat.le_refl _) hc1 hs1
            · cases hv
          · rename_i y
            split at hv
            · rename_i hyk
              obtain ⟨hf2, ho, hnm⟩ := hyk
              cases hv
              obtain ⟨hr, hfin⟩ := k2 hf2
              have hnf : narrow (am_ty0 tz jz) (.ref (ρ y)) = .ref (ρ y) ∧ fits (am_ty0 tz jz) (.ref (ρ y)) = true := by
                revert hr
                cases am_ty0 tz jz <;> first | (intro hr; cases hr; done) | (intro _; exact ⟨rfl, rfl⟩)
              have hset : (am_ws κ ρ h).set kz (ρ kz, .inr (tz, ((List.range (am_nf tz)).map (am_fv ρ h tz kz)).set jz (.ref (ρ y)))) = am_ws κ ρ (h.1, va_up h.2.1 kz (va_up (h.2.1 kz) jz (some y)), h.2.2.1, h.2.2.2) := by
                rw [← am_ws_set (h := h) (h' := (h.1, va_up h.2.1 kz (va_up (h.2.1 kz) jz (some y)), h.2.2.1, h.2.2.2)) hk rfl (fun j tw hj => am_en_eq (by simp only [va_up, if_neg hj]) rfl rfl)]
                rw [am_en_put (h := h) hlt (j := jz) (fun i hi => by simp only [am_fv, va_up, if_neg hi, if_pos rfl])]
                simp only [am_fv, if_pos hf2, va_up, if_pos rfl, Option.map_some, va_rf]
              refine va_putF hx hb hts (am_clsW tz hlt) (am_ty0 tz) t1 t2 hown hK hP hD hS kz hg (am_clsF tz hlt) jz hd2.1 hw1 (fun z hz => by rw [← hd2.2]; exact hz) hfin (hin hnm) (by rw [hd2.2, ho]) (t1 jz hd2.1) hnf.1 hnf.2 (by simpa using hd2.1) hd (fun H1 locs1 hP1 hD1 hS1 => ?_)
              rw [hset] at hP1 hD1
              refine kk ρ H1 locs1 cells slots (am_ag_rf _ _) hP1 hD1 hS1 ?_ okS1 (Nat.le_refl _) hc1 hs1
              intro i j z hz
              simp only [va_up] at hz
              split at hz
              · split at hz
                · cases hz; exact okv
                · exact okh _ _ _ hz
              · exact okh _ _ _ hz
            · cases hv
          · cases hv
        · cases hv
      · cases hv
    · cases hv
  · cases hq
set_option maxHeartbeats 400000 in
theorem am_H_getstatic {x : Nat} {sc : Nat × (Nat → Int32)} {κ : Nat → ClassId} {D : va_G} {A : Nat → Prop} {ρ : Nat → Nat} {M : am_Me} {len pc : Nat} {L S : List Value} {h : am_H} {qq : am_C} {N0 S0 nL : Nat}
    (hx : p.tables.exec = Jvm.exec) (hb : c.code = M.2.2.1) (hml : c.maxLocals = nL) (hown : s.vm.findClass (am_R M.1) = some m.cls) (hts : ∀ w ∈ am_TG, w.before args s = true) (hin : M.2.1.name = "<init>" → meth.name = "<init>")
    (hK : va_K D vwCl (am_tys κ) s) (hX : am_X ρ sc A s s.heap) (hA : ∀ y, s.heap.size ≤ y → A y) (hfr : 1 ≤ R.frames) (hlo : 60 ≤ R.locals)
    (hP : va_P D vwCl (am_ws κ ρ h) H) (hD : va_D A (am_ws κ ρ h)) (hS : va_S A s.heap H locs) (okh : am_okh h) (okS : am_oks h.1.length S) (hsz : ls.size = nL)
    (hc1 : cells + N0 = h.1.length) (hs1 : slots + S0 = am_sm h.1) (hrc : qq.2.2.2.1.length ≤ R.cells + N0) (hrs : am_sm qq.2.2.2.1 ≤ R.slots + S0) (hmil : qq.2.2.2.1.length < 1000000)
    (kk : am_KK p l e R s m args below meth c Q κ D A ρ h qq N0 S0 ls)
    (hd : decode M.2.2.1 pc = .ok (.getstatic x, len)) (hl : am_lok (.getstatic x) len = true) (hq : am_he sc M (.getstatic x) pc L S h = some qq) : W p l e R s m args below meth c H locs cells slots Q (F0 m pc ls (S.map (am_v ρ))) := by
  obtain rfl : len = _ := by simpa [am_lok, am_len] using hl
  simp only [am_he] at hq
  obtain ⟨v, hv, rfl⟩ := Option.map_eq_some_iff.mp hq
  unfold am_gs at hv
  obtain ⟨e1, h1, h2⟩ := Option.map_eq_some_iff.mp hv
  have h3 := List.find?_some h1
  have h4 := List.mem_of_find?_eq_some h1
  obtain ⟨a, b, cd⟩ := e1
  simp only [Bool.and_eq_true, beq_iff_eq] at h3 h2
  obtain ⟨rfl, rfl⟩ := h3
  subst h2
  have kv : am_ok h.1.length cd → W p l e R s m args below meth c H locs cells slots Q (F0 m (pc + 3) ls (am_v ρ cd :: S.map (am_v ρ))) := fun hok => kk ρ H locs cells slots (am_ag_rf _ _) hP hD hS okh (am_oks_cons.mpr ⟨hok, okS⟩) (Nat.le_refl _) hc1 hs1
  simp only [am_gT, List.mem_cons, Prod.mk.injEq, List.not_mem_nil, or_false] at h4
  rcases h4 with ⟨ha, rfl, rfl⟩ | ⟨ha, rfl, rfl⟩ | ⟨ha, rfl, rfl⟩
  · rw [ha] at hown
    exact va_gets hx hb hX.1.1 hS hown (hts _ am_gK0) (fun _ hz => hz) hd (kv (am_ok_ext (by omega)))
  · rw [ha] at hown
    exact va_gets hx hb hX.2.2.1.1 hS hown (hts _ am_gK1) (fun _ hz => hz) hd (kv trivial)
  · rw [ha] at hown
    exact va_gets hx hb hX.2.2.1.2 hS hown (hts _ am_gK2) (fun _ hz => hz) hd (kv trivial)
end HE
