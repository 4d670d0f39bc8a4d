/-! facts of the classes -/
theorem am_good_lay {C : String} {T : u_T} {N : Nat} : ∀ w ∈ u_ws C T N, goodWord w = true := by
  intro w hw
  obtain ⟨k, -, rfl⟩ := List.mem_map.mp hw
  unfold u_lay
  split <;> rfl
theorem am_in_TG {w : Jvm.Cond} (h : w ∈ lw_tbl) (hg : goodWord w = true) : w ∈ am_TG := List.mem_filter.mpr ⟨h, hg⟩
theorem am_clsF (c : Nat) (hc : c < 13) : vwCl[c]? = some (am_R c, (am_cq c).2.1, am_nf c) := by
  match c, hc with
  | 0, _ => rfl
  | 1, _ => rfl
  | 2, _ => rfl
  | 3, _ => rfl
  | 4, _ => rfl
  | 5, _ => rfl
  | 6, _ => rfl
  | 7, _ => rfl
  | 8, _ => rfl
  | 9, _ => rfl
  | 10, _ => rfl
  | 11, _ => rfl
  | 12, _ => rfl
theorem am_clsW (c : Nat) (hc : c < 13) : ∀ w ∈ u_ws (am_R c) (am_cq c).2.1 (am_nf c), w ∈ am_TG := by
  intro w hw
  refine am_in_TG ?_ (am_good_lay w hw)
  match c, hc, hw with
  | 0, _, hw => exact inX0 w hw
  | 1, _, hw => exact inX1 w hw
  | 2, _, hw => exact inX2 w hw
  | 3, _, hw => exact inX3 w hw
  | 4, _, hw => exact inX4 w hw
  | 5, _, hw => exact inX5 w hw
  | 6, _, hw => exact inX6 w hw
  | 7, _, hw => exact inX7 w hw
  | 8, _, hw => exact inX8 w hw
  | 9, _, hw => exact inX9 w hw
  | 10, _, hw => exact inX10 w hw
  | 11, _, hw => exact inX11 w hw
  | 12, _, hw => exact inX12 w hw
def am_ty0 (c : Nat) : Nat → FieldType := match c with
  | 0 => tyX0
  | 1 => tyX1
  | 2 => tyX2
  | 3 => tyX3
  | 4 => tyX4
  | 5 => tyX5
  | 6 => tyX6
  | 7 => tyX7
  | 8 => tyX8
  | 9 => tyX9
  | 10 => tyX10
  | 11 => tyX11
  | _ => tyX12
def am_isR (t : FieldType) : Bool := match t with
  | .object _ => true
  | .array _ => true
  | _ => false
theorem am_clsT (c : Nat) (hc : c < 13) : (∀ k, k < am_nf c → parseFieldDescriptor ((am_cq c).2.1 k).2.2.1 = some (am_ty0 c k)) ∧ (∀ a, a < am_nf c → ∀ b, b < am_nf c → a ≠ b → ((am_cq c).2.1 a).2.1 ≠ ((am_cq c).2.1 b).2.1) := by
  match c, hc with
  | 0, _ => exact ⟨tyX0_ok, nmX0⟩
  | 1, _ => exact ⟨tyX1_ok, nmX1⟩
  | 2, _ => exact ⟨tyX2_ok, nmX2⟩
  | 3, _ => exact ⟨tyX3_ok, nmX3⟩
  | 4, _ => exact ⟨tyX4_ok, nmX4⟩
  | 5, _ => exact ⟨tyX5_ok, nmX5⟩
  | 6, _ => exact ⟨tyX6_ok, nmX6⟩
  | 7, _ => exact ⟨tyX7_ok, nmX7⟩
  | 8, _ => exact ⟨tyX8_ok, nmX8⟩
  | 9, _ => exact ⟨tyX9_ok, nmX9⟩
  | 10, _ => exact ⟨tyX10_ok, nmX10⟩
  | 11, _ => exact ⟨tyX11_ok, nmX11⟩
  | 12, _ => exact ⟨tyX12_ok, nmX12⟩
theorem am_clsK : ∀ c, c < 13 → ∀ k, k < am_nf c → (am_fk c k = 0 → am_ty0 c k = .int ∧ ((am_cq c).2.1 k).2.2.2 = false) ∧ (am_fk c k = 1 → am_ty0 c k = .boolean ∧ ((am_cq c).2.1 k).2.2.2 = false) ∧ (am_fk c k = 2 → am_isR (am_ty0 c k) = true ∧ ((am_cq c).2.1 k).2.2.2 = true) ∧ am_fk c k < 3 := by decide +kernel
theorem am_fld_in {o x c j : Nat} (h : am_fld o x = some (c, j)) : (o, x, c, j) ∈ am_fT := by
  unfold am_fld at h
  obtain ⟨e1, h1, h2⟩ := Option.map_eq_some_iff.mp h
  have h3 := List.find?_some h1
  have h4 := List.mem_of_find?_eq_some h1
  obtain ⟨a, b, cd⟩ := e1
  simp only [Bool.and_eq_true, beq_iff_eq] at h3 h2
  obtain ⟨rfl, rfl⟩ := h3
  subst h2
  exact h4
/-- a slot of a cell becomes another value -/
theorem am_en_put {κ : Nat → ClassId} {ρ : Nat → Nat} {h h' : am_H} {k c n j : Nat} (hc : c < 13) (ho : ∀ i, i ≠ j → am_fv ρ h' c k i = am_fv ρ h c k i) : am_en κ ρ h' k (c, n) = .inr (c, ((List.range (am_nf c)).map (am_fv ρ h c k)).set j (am_fv ρ h' c k j)) := by
  unfold am_en
  rw [if_pos hc]
  congr 2
  apply List.ext_getElem?
  intro i
  by_cases hi : i = j
  · subst hi
    by_cases hl : i < am_nf c
    · rw [List.getElem?_set_self (by simpa using hl)]
      simp [hl]
    · rw [List.getElem?_eq_none (by simpa using hl), List.getElem?_eq_none (by simpa using hl)]
  · rw [List.getElem?_set_ne (Ne.symm hi)]
    simp only [List.getElem?_map]
    by_cases hl : i < am_nf c
    · simp [hl, ho i hi]
    · simp [hl]
theorem am_sm_app (a b : List (Nat × Nat)) : ((a ++ b).map Prod.snd).sum = (a.map Prod.snd).sum + (b.map Prod.snd).sum := by simp
def am_sm (l : List (Nat × Nat)) : Nat := (l.map Prod.snd).sum
theorem am_sm_new (h : am_H) (t n : Nat) : am_sm (am_new h t n).1 = am_sm h.1 + n := by simp [am_sm, am_new]
theorem am_e1 {k : Nat} (h : 1000010 ≤ k) : 1000010 + (k - 1000010) = k := by omega
theorem am_e3 {k : Nat} (h : 1000040 ≤ k) : 1000040 + (k - 1000040) = k := by omega
theorem am_e2 {k : Nat} (h : 1000010 ≤ k) : 1000040 + (k - 1000010) = k + 30 := by omega
theorem am_cq_n (c : Nat) (hc : c < 13) : (am_cq c).2.2 = am_nf c := by
  unfold am_cq
  rw [List.getD_eq_getElem?_getD, am_clsF c hc]
  rfl
theorem am_en_obj {κ : Nat → ClassId} {ρ : Nat → Nat} {h : am_H} {k c n : Nat} (hc : c < 13) : am_en κ ρ h k (c, n) = .inr (c, (List.range (am_nf c)).map (am_fv ρ h c k)) := if_pos hc
theorem am_en_i {κ : Nat → ClassId} {ρ : Nat → Nat} {h : am_H} {k n : Nat} : am_en κ ρ h k (20, n) = .inl (κ 20, n, .inl (h.2.2.1 k)) := rfl
theorem am_en_l {κ : Nat → ClassId} {ρ : Nat → Nat} {h : am_H} {k n : Nat} : am_en κ ρ h k (21, n) = .inl (κ 21, n, .inr (.inl (h.2.2.2 k))) := rfl
theorem am_en_r {κ : Nat → ClassId} {ρ : Nat → Nat} {h : am_H} {k t n : Nat} (h1 : 22 ≤ t) : am_en κ ρ h k (t, n) = .inl (κ t, n, .inr (.inr (.inr (.inr (fun j => (h.2.1 k j).map ρ))))) := by
  unfold am_en
  rw [if_neg (by simp only; omega), if_neg (by simp only; omega), if_neg (by simp only; omega)]
/-- what goes on behind an instruction of the heap -/
def am_KK (p : Program) (l : Launch) (e : Env) (R : Room) (s : State) (m : MethodId) (args : Array Value) (below : List Frame) (meth : Method) (c : Code) (Q : State → Prop) (κ : Nat → ClassId) (D : va_G) (A : Nat → Prop) (ρ : Nat → Nat) (h : am_H) (qq : am_C) (N0 S0 : Nat) (ls : Array Slot) : Prop :=
  ∀ (ρ' : Nat → Nat) (H1 : Heap) (locs1 : List Loc) (cells1 slots1 : Nat), am_ag h.1.length ρ ρ' → va_P D vwCl (am_ws κ ρ' qq.2.2.2) H1 → va_D A (am_ws κ ρ' qq.2.2.2) → va_S A s.heap H1 locs1 → am_okh qq.2.2.2 → am_oks qq.2.2.2.1.length qq.2.2.1 → h.1.length ≤ qq.2.2.2.1.length →
    cells1 + N0 = qq.2.2.2.1.length → slots1 + S0 = am_sm qq.2.2.2.1 → W p l e R s m args below meth c H1 locs1 cells1 slots1 Q (F0 m qq.1 ls (qq.2.2.1.map (am_v ρ')))
section HE
variable {p : Program} {l : Launch} {e : Env} {R : Room} {s : State} {m : MethodId} {args : Array Value} {below : List Frame} {meth : Method} {c : Code} {H : Heap} {locs : List Loc} {cells slots : Nat} {Q : State → Prop} {ls : Array Slot}
set_option maxHeartbeats 400000 in
theorem am_H_getfield {x : Nat} {sc : Nat × (Nat → Int32)} {κ : Nat → ClassId} {D : va_G} {A : Nat → Prop} {ρ : Nat → Nat} {M : am_Me} {len pc : Nat} {L S : List Value} {h : am_H} {qq : am_C} {N0 S0 nL : Nat}
    (hx : p.tables.exec = Jvm.exec) (hb : c.code = M.2.2.1) (hml : c.maxLocals = nL) (hown : s.vm.findClass (am_R M.1) = some m.cls) (hts : ∀ w ∈ am_TG, w.before args s = true) (hin : M.2.1.name = "<init>" → meth.name = "<init>")
    (hK : va_K D vwCl (am_tys κ) s) (hX : am_X ρ sc A s s.heap) (hA : ∀ y, s.heap.size ≤ y → A y) (hfr : 1 ≤ R.frames) (hlo : 60 ≤ R.locals)
    (hP : va_P D vwCl (am_ws κ ρ h) H) (hD : va_D A (am_ws κ ρ h)) (hS : va_S A s.heap H locs) (okh : am_okh h) (okS : am_oks h.1.length S) (hsz : ls.size = nL)
    (hc1 : cells + N0 = h.1.length) (hs1 : slots + S0 = am_sm h.1) (hrc : qq.2.2.2.1.length ≤ R.cells + N0) (hrs : am_sm qq.2.2.2.1 ≤ R.slots + S0) (hmil : qq.2.2.2.1.length < 1000000)
    (kk : am_KK p l e R s m args below meth c Q κ D A ρ h qq N0 S0 ls)
    (hd : decode M.2.2.1 pc = .ok (.getfield x, len)) (hl : am_lok (.getfield x) len = true) (hq : am_he (some sc) M (.getfield x) pc L S h = some qq) : W p l e R s m args below meth c H locs cells slots Q (F0 m pc ls (S.map (am_v ρ))) := by
  obtain rfl : len = _ := by simpa [am_lok, am_len] using hl
  simp only [am_he] at hq
  split at hq
  · rename_i kz S1
    obtain ⟨v, hv, rfl⟩ := Option.map_eq_some_iff.mp hq
    have okS1 := (am_oks_cons.mp okS).2
    have kv : am_ok h.1.length v → W p l e R s m args below meth c H locs cells slots Q (F0 m (pc + 3) ls (am_v ρ v :: S1.map (am_v ρ))) := fun hok => kk ρ H locs cells slots (am_ag_rf _ _) hP hD hS okh (am_oks_cons.mpr ⟨hok, okS1⟩) (Nat.le_refl _) hc1 hs1
    unfold am_gf at hv
    split at hv
    · rename_i cz jz hf
      obtain ⟨hw, hdz⟩ := am_fK _ (am_fld_in hf)
      simp only [am_fW, am_fD] at hw hdz
      split at hv
      · rename_i h13
        subst h13
        rw [if_pos rfl] at hw
        have hw1 := hts _ (hw _ List.mem_cons_self)
        split at hv
        · rename_i hk
          obtain ⟨hO, hco, hva, hT⟩ := hX.2.1.1.1 (kz - 1000010) (by omega)
          have e1 := am_e1 hk.1
          have e2 := am_e2 hk.1
          simp only [e1, e2] at hva hco
          split at hv
          · rename_i hj
            subst hj
            cases hv
            exact vk_getf hx hb hva hS hown hw1 (fun _ hz => hz) hd (kv (am_ok_ext (by omega)))
          · rename_i hj
            cases hv
            simp only [am_sF, if_neg hj] at hw1
            exact vk_getf hx hb hco hS hown hw1 (fun _ hz => hz) hd (kv trivial)
        · cases hv
      · rename_i h13
        rw [if_neg h13] at hw
        have hw1 := hts _ (hw _ List.mem_cons_self)
        split at hv
        · rename_i tz nz hk
          split at hv
          · rename_i hcd
            obtain ⟨rfl, hlt⟩ := hcd
            have hd2 : jz < (am_cq tz).2.2 ∧ ((am_cq tz).2.1 jz).1 = am_R tz := by
              simp only [Bool.or_eq_true, Bool.and_eq_true, decide_eq_true_eq] at hdz
              rcases hdz with hdz | hdz
              · exact absurd hdz.1 h13
              · exact ⟨hdz.1.2, hdz.2⟩
            rw [am_cq_n tz hlt] at hd2
            have hg := am_ws_get (κ := κ) (ρ := ρ) hk
            rw [am_en_obj hlt] at hg
            have hfv : am_fv ρ h tz kz jz = am_v ρ v ∧ am_ok h.1.length v := by
              split at hv
              · rename_i h2
                obtain ⟨y, hy, rfl⟩ := Option.map_eq_some_iff.mp hv
                exact ⟨by simp only [am_fv, if_pos h2, hy]; rfl, okh _ _ _ hy⟩
              · rename_i h2
                split at hv
                · cases hv
                  exact ⟨by simp only [am_fv, if_neg h2]; rfl, trivial⟩
                · cases hv
            refine va_get hx hb hts (am_clsW tz hlt) hown hK hP kz hg (am_clsF tz hlt) jz hd2.1 hw1 (fun z hz => by rw [← hd2.2]; exact hz) (v := am_v ρ v) ?_ hd (kv hfv.2)
            rw [List.getElem?_map, List.getElem?_range hd2.1, Option.map_some, hfv.1]
          · cases hv
        · cases hv
    · cases hv
  · cases hq
set_option maxHeartbeats 400000 in
theorem am_H_putfield {x : Nat} {sc : Nat × (Nat → Int32)} {κ : Nat → ClassId} {D : va_G} {A : Nat → Prop} {ρ : Nat → Nat} {M : am_Me} {len pc : Nat} {L S : List Value} {h : am_H} {qq : am_C} {N0 S0 nL : Nat}
    (hx : p.tables.exec = Jvm.exec) (hb : c.code = M.2.2.1) (hml : c.maxLocals = nL) (hown : s.vm.findClass (am_R M.1) = some m.cls) (hts : ∀ w ∈ am_TG, w.before args s = true) (hin : M.2.1.name = "<init>" → meth.name = "<init>")
    (hK : va_K D vwCl (am_tys κ) s) (hX : am_X ρ sc A s s.heap) (hA : ∀ y, s.heap.size ≤ y → A y) (hfr : 1 ≤ R.frames) (hlo : 60 ≤ R.locals)
    (hP : va_P D vwCl (am_ws κ ρ h) H) (hD : va_D A (am_ws κ ρ h)) (hS : va_S A s.heap H locs) (okh : am_okh h) (okS : am_oks h.1.length S) (hsz : ls.size = nL)
    (hc1 : cells + N0 = h.1.length) (hs1 : slots + S0 = am_sm h.1) (hrc : qq.2.2.2.1.length ≤ R.cells + N0) (hrs : am_sm qq.2.2.2.1 ≤ R.slots + S0) (hmil : qq.2.2.2.1.length < 1000000)
    (kk : am_KK p l e R s m args below meth c Q κ D A ρ h qq N0 S0 ls)
    (hd : decode M.2.2.1 pc = .ok (.putfield x, len)) (hl : am_lok (.putfield x) len = true) (hq : am_he (some sc) M (.putfield x) pc L S h = some qq) : W p l e R s m args below meth c H locs cells slots Q (F0 m pc ls (S.map (am_v ρ))) := by
  obtain rfl : len = _ := by simpa [am_lok, am_len] using hl
  simp only [am_he] at hq
  split at hq
  · rename_i v kz S1
    obtain ⟨h1, hv, rfl⟩ := Option.map_eq_some_iff.mp hq
    have okv := (am_oks_cons.mp okS).1
    have okS1 := (am_oks_cons.mp (am_oks_cons.mp okS).2).2
    unfold am_pf at hv
    split at hv
    · rename_i cz jz hf
      obtain ⟨hw, hdz⟩ := am_fK _ (am_fld_in hf)
      simp only [am_fW, am_fD] at hw hdz
      split at hv
      · rename_i tz nz hk
        split at hv
        · rename_i hcd
          obtain ⟨rfl, hlt⟩ := hcd
          have h13 : ¬ tz = 13 := by omega
          rw [if_neg h13] at hw
          have hw1 := hts _ (hw _ List.mem_cons_self)
          have hd2 : jz < (am_cq tz).2.2 ∧ ((am_cq tz).2.1 jz).1 = am_R tz := by
            simp only [Bool.or_eq_true, Bool.and_eq_true, decide_eq_true_eq] at hdz
            rcases hdz with hdz | hdz
            · exact absurd hdz.1 h13
            · exact ⟨hdz.1.2, hdz.2⟩
          rw [am_cq_n tz hlt] at hd2
          have hg := am_ws_get (κ := κ) (ρ := ρ) hk
          rw [am_en_obj hlt] at hg
          obtain ⟨t1, t2⟩ := am_clsT tz hlt
          obtain ⟨k0, k1, k2, -⟩ := am_clsK tz hlt jz hd2.1
          split at hv
          · rename_i y
            split at hv
            · rename_i hyk
              cases hv
              have hne : ¬ am_fk tz jz = 2 := by omega
              have hfin : ((am_cq tz).2.1 jz).2.2.2 = false := by
                rcases hyk with hz | hz
                · exact (k0 hz).2
                · exact (k1 hz.1).2
              have hnf : narrow (am_ty0 tz jz) (.int y) = .int y ∧ fits (am_ty0 tz jz) (.int y) = true := by
                rcases hyk with hz | hz
                · rw [(k0 hz).1]; exact ⟨rfl, rfl⟩
                · rw [(k1 hz.1).1]
                  rcases hz.2 with rfl | rfl <;> exact ⟨rfl, rfl⟩
              have hset : (am_ws κ ρ h).set kz (ρ kz, .inr (tz, ((List.range (am_nf tz)).map (am_fv ρ h tz kz)).set jz (.int y))) = am_ws κ ρ (h.1, h.2.1, va_up h.2.2.1 kz (upd (h.2.2.1 kz) jz y), h.2.2.2) := by
                rw [← am_ws_set (h := h) (h' := (h.1, h.2.1, va_up h.2.2.1 kz (upd (h.2.2.1 kz) jz y), h.2.2.2)) hk rfl (fun j tw hj => am_en_eq rfl (by simp only [va_up, if_neg hj]) rfl)]
                rw [am_en_put (h := h) hlt (j := jz) (fun i hi => by simp only [am_fv, va_up, upd, if_neg hi, ↓reduceIte])]
                simp only [am_fv, if_neg hne, va_up, upd, ↓reduceIte]
              refine va_put (v := .int y) hx hb hts (am_clsW tz hlt) (am_ty0 tz) t1 t2 hown hK hP hD hS kz hg (am_clsF tz hlt) jz hd2.1 hw1 (fun z hz => by rw [← hd2.2]; exact hz) hfin (t1 jz hd2.1) hnf.1 hnf.2 (by simpa using hd2.1) hd (fun H1 locs1 hP1 hD1 hS1 => ?_)
              rw [hset] at hP1 hD1
              exact kk ρ H1 locs1 cells slots (am_ag_rf _ _) hP1 hD1 hS1 okh okS1 (Nat.le_refl _) hc1 hs1
            · cases hv
          · rename_i y
            split at hv
            · rename_i hyk
              obtain ⟨hf2, ho, hnm⟩ := hyk
              cases hv
              obtain ⟨hr, hfin⟩ := k2 hf2
              have hnf : narrow (am_ty0 tz jz) (.ref (ρ y)) = .ref (ρ y) ∧ fits (am_ty0 tz jz) (.ref (ρ y)) = true := by
                revert hr
                cases am_ty0 tz jz <;> first | (intro hr; cases hr; done) | (intro _; exact ⟨rfl, rfl⟩)
              have hset : (am_ws κ ρ h).set kz (ρ kz, .inr (tz, ((List.range (am_nf tz)).map (am_fv ρ h tz kz)).set jz (.ref (ρ y)))) = am_ws κ ρ (h.1, va_up h.2.1 kz (va_up (h.2.1 kz) jz (some y)), h.2.2.1, h.2.2.2) := by
                rw [← am_ws_set (h := h) (h' := (h.1, va_up h.2.1 kz (va_up (h.2.1 kz) jz (some y)), h.2.2.1, h.2.2.2)) hk rfl (fun j tw hj => am_en_eq (by simp only [va_up, if_neg hj]) rfl rfl)]
                rw [am_en_put (h := h) hlt (j := jz) (fun i hi => by simp only [am_fv, va_up, if_neg hi, ↓reduceIte])]
                simp only [am_fv, if_pos hf2, va_up, ↓reduceIte, Option.map_some, va_rf]
              refine va_putF (v := .ref (ρ y)) hx hb hts (am_clsW tz hlt) (am_ty0 tz) t1 t2 hown hK hP hD hS kz hg (am_clsF tz hlt) jz hd2.1 hw1 (fun z hz => by rw [← hd2.2]; exact hz) hfin (hin hnm) (by rw [hd2.2, ho]) (t1 jz hd2.1) hnf.1 hnf.2 (by simpa using hd2.1) hd (fun H1 locs1 hP1 hD1 hS1 => ?_)
              rw [hset] at hP1 hD1
              refine kk ρ H1 locs1 cells slots (am_ag_rf _ _) hP1 hD1 hS1 ?_ okS1 (Nat.le_refl _) hc1 hs1
              intro i j z hz
              simp only [va_up] at hz
              split at hz
              · simp only [va_up] at hz
                split at hz
                · cases hz; exact okv
                · exact okh _ _ _ hz
              · exact okh _ _ _ hz
            · cases hv
          · cases hv
        · cases hv
      · cases hv
    · cases hv
  · cases hq
set_option maxHeartbeats 400000 in
theorem am_H_getstatic {x : Nat} {sc : Nat × (Nat → Int32)} {κ : Nat → ClassId} {D : va_G} {A : Nat → Prop} {ρ : Nat → Nat} {M : am_Me} {len pc : Nat} {L S : List Value} {h : am_H} {qq : am_C} {N0 S0 nL : Nat}
    (hx : p.tables.exec = Jvm.exec) (hb : c.code = M.2.2.1) (hml : c.maxLocals = nL) (hown : s.vm.findClass (am_R M.1) = some m.cls) (hts : ∀ w ∈ am_TG, w.before args s = true) (hin : M.2.1.name = "<init>" → meth.name = "<init>")
    (hK : va_K D vwCl (am_tys κ) s) (hX : am_X ρ sc A s s.heap) (hA : ∀ y, s.heap.size ≤ y → A y) (hfr : 1 ≤ R.frames) (hlo : 60 ≤ R.locals)
    (hP : va_P D vwCl (am_ws κ ρ h) H) (hD : va_D A (am_ws κ ρ h)) (hS : va_S A s.heap H locs) (okh : am_okh h) (okS : am_oks h.1.length S) (hsz : ls.size = nL)
    (hc1 : cells + N0 = h.1.length) (hs1 : slots + S0 = am_sm h.1) (hrc : qq.2.2.2.1.length ≤ R.cells + N0) (hrs : am_sm qq.2.2.2.1 ≤ R.slots + S0) (hmil : qq.2.2.2.1.length < 1000000)
    (kk : am_KK p l e R s m args below meth c Q κ D A ρ h qq N0 S0 ls)
    (hd : decode M.2.2.1 pc = .ok (.getstatic x, len)) (hl : am_lok (.getstatic x) len = true) (hq : am_he (some sc) M (.getstatic x) pc L S h = some qq) : W p l e R s m args below meth c H locs cells slots Q (F0 m pc ls (S.map (am_v ρ))) := by
  obtain rfl : len = _ := by simpa [am_lok, am_len] using hl
  simp only [am_he] at hq
  obtain ⟨v, hv, rfl⟩ := Option.map_eq_some_iff.mp hq
  unfold am_gs at hv
  obtain ⟨e1, h1, h2⟩ := Option.map_eq_some_iff.mp hv
  have h3 := List.find?_some h1
  have h4 := List.mem_of_find?_eq_some h1
  obtain ⟨a, b, cd⟩ := e1
  simp only [Bool.and_eq_true, beq_iff_eq] at h3 h2
  obtain ⟨rfl, rfl⟩ := h3
  subst h2
  have kv : am_ok h.1.length cd → W p l e R s m args below meth c H locs cells slots Q (F0 m (pc + 3) ls (am_v ρ cd :: S.map (am_v ρ))) := fun hok => kk ρ H locs cells slots (am_ag_rf _ _) hP hD hS okh (am_oks_cons.mpr ⟨hok, okS⟩) (Nat.le_refl _) hc1 hs1
  simp only [am_gT, List.mem_cons, Prod.mk.injEq, List.not_mem_nil, or_false] at h4
  rcases h4 with ⟨ha, rfl, rfl⟩ | ⟨ha, rfl, rfl⟩ | ⟨ha, rfl, rfl⟩
  · rw [ha] at hown
    exact va_gets hx hb hX.1.1 hS hown (hts _ am_gK0) (fun _ hz => hz) hd (kv (am_ok_ext (by omega)))
  · rw [ha] at hown
    exact va_gets hx hb hX.2.2.1.1 hS hown (hts _ am_gK1) (fun _ hz => hz) hd (kv trivial)
  · rw [ha] at hown
    exact va_gets hx hb hX.2.2.1.2 hS hown (hts _ am_gK2) (fun _ hz => hz) hd (kv trivial)
theorem am_aald {cc : ByteArray} {pc a n : Nat} {rest : List Value} {cA : ClassId} {ty : FieldType} {f : Nat → Option Nat} {i : Int32} (hexec : p.tables.exec = Jvm.exec) (hb : c.code = cc) (hc : H[a]? = some (vp_cell cA (n, .inr (.inr (.inr (.inr f)))))) (harr : ArrOfT s cA ty) (hty : ty.isReference = true) (hin : vp_in i n) (hdg : decode cc pc = .ok (.aaload, 1))
    (kk : W p l e R s m args below meth c H locs cells slots Q (F0 m (pc + 1) ls (va_rf (f i.toNatClampNeg) :: rest))) : W p l e R s m args below meth c H locs cells slots Q (F0 m pc ls (.int i :: .ref a :: rest)) := by
  have hlt : i.toNatClampNeg < n := Nat.not_le.mp fun z => hin (Or.inr z)
  exact W.aald (v := va_rf (f i.toNatClampNeg)) (ty := ty) hexec hb hc (harr n (fun j => va_rf (f j))) hty (fun z => by cases z) (by show ¬ (i < 0 ∨ (arrV _ _ _).slots.size ≤ _); rw [arrV_size]; exact hin) (by show (arrV _ _ _).slots[_]? = _; rw [arrV_read _ _ hlt]) rfl rfl hdg kk
theorem am_fr_of (h : ∀ y, y ∈ ([] : List Nat) → False) : True := trivial
set_option maxHeartbeats 400000 in
theorem am_H_alen  {sc : Nat × (Nat → Int32)} {κ : Nat → ClassId} {D : va_G} {A : Nat → Prop} {ρ : Nat → Nat} {M : am_Me} {len pc : Nat} {L S : List Value} {h : am_H} {qq : am_C} {N0 S0 nL : Nat}
    (hx : p.tables.exec = Jvm.exec) (hb : c.code = M.2.2.1) (hml : c.maxLocals = nL) (hown : s.vm.findClass (am_R M.1) = some m.cls) (hts : ∀ w ∈ am_TG, w.before args s = true) (hin : M.2.1.name = "<init>" → meth.name = "<init>")
    (hK : va_K D vwCl (am_tys κ) s) (hX : am_X ρ sc A s s.heap) (hA : ∀ y, s.heap.size ≤ y → A y) (hfr : 1 ≤ R.frames) (hlo : 60 ≤ R.locals)
    (hP : va_P D vwCl (am_ws κ ρ h) H) (hD : va_D A (am_ws κ ρ h)) (hS : va_S A s.heap H locs) (okh : am_okh h) (okS : am_oks h.1.length S) (hsz : ls.size = nL)
    (hc1 : cells + N0 = h.1.length) (hs1 : slots + S0 = am_sm h.1) (hrc : qq.2.2.2.1.length ≤ R.cells + N0) (hrs : am_sm qq.2.2.2.1 ≤ R.slots + S0) (hmil : qq.2.2.2.1.length < 1000000)
    (kk : am_KK p l e R s m args below meth c Q κ D A ρ h qq N0 S0 ls)
    (hd : decode M.2.2.1 pc = .ok (.arraylength, len)) (hl : am_lok (.arraylength) len = true) (hq : am_he (some sc) M (.arraylength) pc L S h = some qq) : W p l e R s m args below meth c H locs cells slots Q (F0 m pc ls (S.map (am_v ρ))) := by
  obtain rfl : len = _ := by simpa [am_lok, am_len] using hl
  simp only [am_he] at hq
  split at hq
  · rename_i kz S1
    obtain ⟨n, hv, rfl⟩ := Option.map_eq_some_iff.mp hq
    have okS1 := (am_oks_cons.mp okS).2
    have kv : W p l e R s m args below meth c H locs cells slots Q (F0 m (pc + 1) ls (.int (Int32.ofNat n) :: S1.map (am_v ρ))) := kk ρ H locs cells slots (am_ag_rf _ _) hP hD hS okh (am_oks_cons.mpr ⟨trivial, okS1⟩) (Nat.le_refl _) hc1 hs1
    unfold am_alen at hv
    split at hv
    · rename_i h0
      subst h0
      cases hv
      exact va_slen hx hb hX.2.2.2.1.1 hX.2.2.2.1.2.1 hX.2.2.2.1.2.2 hS hd kv
    · split at hv
      · rename_i h1
        subst h1
        cases hv
        exact va_tlen hx hb hX.1.2 hS rfl hd kv
      · split at hv
        · rename_i hk
          obtain ⟨bs, hbs, rfl⟩ := Option.map_eq_some_iff.mp hv
          have hlt := (List.getElem?_eq_some_iff.mp hbs).1
          obtain ⟨-, -, -, hT⟩ := hX.2.1.1.1 (kz - 1000040) hlt
          have e1 := am_e3 hk
          simp only [e1] at hT
          refine va_tlen hx hb hT hS ?_ hd kv
          rw [List.getD_eq_getElem?_getD, List.getElem?_map, hbs]
          rfl
        · split at hv
          · rename_i tz nz hk
            split at hv
            · rename_i ht
              cases hv
              have hg := am_ws_get (κ := κ) (ρ := ρ) hk
              have h5 : tz = 20 ∨ tz = 21 ∨ tz = 22 ∨ tz = 23 ∨ tz = 24 := by omega
              rcases h5 with rfl | rfl | rfl | rfl | rfl
              · exact va_alen hx hb hK hP kz 0 hg rfl rfl hd kv
              · exact va_alen hx hb hK hP kz 1 hg rfl rfl hd kv
              · exact va_alen hx hb hK hP kz 2 hg rfl rfl hd kv
              · exact va_alen hx hb hK hP kz 3 hg rfl rfl hd kv
              · exact va_alen hx hb hK hP kz 4 hg rfl rfl hd kv
            · cases hv
          · cases hv
  · cases hq
set_option maxHeartbeats 400000 in
theorem am_H_iaload  {sc : Nat × (Nat → Int32)} {κ : Nat → ClassId} {D : va_G} {A : Nat → Prop} {ρ : Nat → Nat} {M : am_Me} {len pc : Nat} {L S : List Value} {h : am_H} {qq : am_C} {N0 S0 nL : Nat}
    (hx : p.tables.exec = Jvm.exec) (hb : c.code = M.2.2.1) (hml : c.maxLocals = nL) (hown : s.vm.findClass (am_R M.1) = some m.cls) (hts : ∀ w ∈ am_TG, w.before args s = true) (hin : M.2.1.name = "<init>" → meth.name = "<init>")
    (hK : va_K D vwCl (am_tys κ) s) (hX : am_X ρ sc A s s.heap) (hA : ∀ y, s.heap.size ≤ y → A y) (hfr : 1 ≤ R.frames) (hlo : 60 ≤ R.locals)
    (hP : va_P D vwCl (am_ws κ ρ h) H) (hD : va_D A (am_ws κ ρ h)) (hS : va_S A s.heap H locs) (okh : am_okh h) (okS : am_oks h.1.length S) (hsz : ls.size = nL)
    (hc1 : cells + N0 = h.1.length) (hs1 : slots + S0 = am_sm h.1) (hrc : qq.2.2.2.1.length ≤ R.cells + N0) (hrs : am_sm qq.2.2.2.1 ≤ R.slots + S0) (hmil : qq.2.2.2.1.length < 1000000)
    (kk : am_KK p l e R s m args below meth c Q κ D A ρ h qq N0 S0 ls)
    (hd : decode M.2.2.1 pc = .ok (.iaload, len)) (hl : am_lok (.iaload) len = true) (hq : am_he (some sc) M (.iaload) pc L S h = some qq) : W p l e R s m args below meth c H locs cells slots Q (F0 m pc ls (S.map (am_v ρ))) := by
  obtain rfl : len = _ := by simpa [am_lok, am_len] using hl
  simp only [am_he] at hq
  split at hq
  · rename_i i kz S1
    split at hq
    · rename_i n f hv
      split at hq
      · cases hq
      · rename_i hin1
        cases hq
        have okS1 := (am_oks_cons.mp (am_oks_cons.mp okS).2).2
        have kv : W p l e R s m args below meth c H locs cells slots Q (F0 m (pc + 1) ls (.int (f i.toNatClampNeg) :: S1.map (am_v ρ))) := kk ρ H locs cells slots (am_ag_rf _ _) hP hD hS okh (am_oks_cons.mpr ⟨trivial, okS1⟩) (Nat.le_refl _) hc1 hs1
        unfold am_irow at hv
        split at hv
        · rename_i h0
          subst h0
          cases hv
          exact va_sld hx hb hX.2.2.2.1.1 hX.2.2.2.1.2.1 hX.2.2.2.1.2.2 hS hin1 hd kv
        · split at hv
          · rename_i h1
            subst h1
            cases hv
            exact va_ti hx hb hX.1.2 hS hin1 rfl hd kv
          · split at hv
            · rename_i tz nz hk
              split at hv
              · rename_i ht
                subst ht
                cases hv
                have hg := am_ws_get (κ := κ) (ρ := ρ) hk
                rw [am_en_i] at hg
                exact va_iald hx hb hK hP kz 0 hg rfl hin1 hd kv
              · cases hv
            · cases hv
    · cases hq
  · cases hq
set_option maxHeartbeats 400000 in
theorem am_H_iastore  {sc : Nat × (Nat → Int32)} {κ : Nat → ClassId} {D : va_G} {A : Nat → Prop} {ρ : Nat → Nat} {M : am_Me} {len pc : Nat} {L S : List Value} {h : am_H} {qq : am_C} {N0 S0 nL : Nat}
    (hx : p.tables.exec = Jvm.exec) (hb : c.code = M.2.2.1) (hml : c.maxLocals = nL) (hown : s.vm.findClass (am_R M.1) = some m.cls) (hts : ∀ w ∈ am_TG, w.before args s = true) (hin : M.2.1.name = "<init>" → meth.name = "<init>")
    (hK : va_K D vwCl (am_tys κ) s) (hX : am_X ρ sc A s s.heap) (hA : ∀ y, s.heap.size ≤ y → A y) (hfr : 1 ≤ R.frames) (hlo : 60 ≤ R.locals)
    (hP : va_P D vwCl (am_ws κ ρ h) H) (hD : va_D A (am_ws κ ρ h)) (hS : va_S A s.heap H locs) (okh : am_okh h) (okS : am_oks h.1.length S) (hsz : ls.size = nL)
    (hc1 : cells + N0 = h.1.length) (hs1 : slots + S0 = am_sm h.1) (hrc : qq.2.2.2.1.length ≤ R.cells + N0) (hrs : am_sm qq.2.2.2.1 ≤ R.slots + S0) (hmil : qq.2.2.2.1.length < 1000000)
    (kk : am_KK p l e R s m args below meth c Q κ D A ρ h qq N0 S0 ls)
    (hd : decode M.2.2.1 pc = .ok (.iastore, len)) (hl : am_lok (.iastore) len = true) (hq : am_he (some sc) M (.iastore) pc L S h = some qq) : W p l e R s m args below meth c H locs cells slots Q (F0 m pc ls (S.map (am_v ρ))) := by
  obtain rfl : len = _ := by simpa [am_lok, am_len] using hl
  simp only [am_he] at hq
  split at hq
  · rename_i v i kz S1
    split at hq
    · rename_i tz nz hk
      split at hq
      · rename_i hcd
        obtain ⟨rfl, hin1⟩ := hcd
        cases hq
        have okS1 := (am_oks_cons.mp (am_oks_cons.mp (am_oks_cons.mp okS).2).2).2
        have hg := am_ws_get (κ := κ) (ρ := ρ) hk
        rw [am_en_i] at hg
        have hset : (am_ws κ ρ h).set kz (ρ kz, .inl (κ 20, nz, .inl (upd (h.2.2.1 kz) i.toNatClampNeg v))) = am_ws κ ρ (h.1, h.2.1, va_up h.2.2.1 kz (upd (h.2.2.1 kz) i.toNatClampNeg v), h.2.2.2) := by
          rw [← am_ws_set (h := h) (h' := (h.1, h.2.1, va_up h.2.2.1 kz (upd (h.2.2.1 kz) i.toNatClampNeg v), h.2.2.2)) hk rfl (fun j tw hj => am_en_eq rfl (by simp only [va_up, if_neg hj]) rfl)]
          rw [am_en_i]
          simp only [va_up, ↓reduceIte]
        refine va_iast hx hb hK hP hD hS kz 0 hg rfl hin1 hd (fun H1 locs1 hP1 hD1 hS1 => ?_)
        rw [hset] at hP1 hD1
        exact kk ρ H1 locs1 cells slots (am_ag_rf _ _) hP1 hD1 hS1 okh okS1 (Nat.le_refl _) hc1 hs1
      · cases hq
    · cases hq
  · cases hq
set_option maxHeartbeats 400000 in
theorem am_H_laload  {sc : Nat × (Nat → Int32)} {κ : Nat → ClassId} {D : va_G} {A : Nat → Prop} {ρ : Nat → Nat} {M : am_Me} {len pc : Nat} {L S : List Value} {h : am_H} {qq : am_C} {N0 S0 nL : Nat}
    (hx : p.tables.exec = Jvm.exec) (hb : c.code = M.2.2.1) (hml : c.maxLocals = nL) (hown : s.vm.findClass (am_R M.1) = some m.cls) (hts : ∀ w ∈ am_TG, w.before args s = true) (hin : M.2.1.name = "<init>" → meth.name = "<init>")
    (hK : va_K D vwCl (am_tys κ) s) (hX : am_X ρ sc A s s.heap) (hA : ∀ y, s.heap.size ≤ y → A y) (hfr : 1 ≤ R.frames) (hlo : 60 ≤ R.locals)
    (hP : va_P D vwCl (am_ws κ ρ h) H) (hD : va_D A (am_ws κ ρ h)) (hS : va_S A s.heap H locs) (okh : am_okh h) (okS : am_oks h.1.length S) (hsz : ls.size = nL)
    (hc1 : cells + N0 = h.1.length) (hs1 : slots + S0 = am_sm h.1) (hrc : qq.2.2.2.1.length ≤ R.cells + N0) (hrs : am_sm qq.2.2.2.1 ≤ R.slots + S0) (hmil : qq.2.2.2.1.length < 1000000)
    (kk : am_KK p l e R s m args below meth c Q κ D A ρ h qq N0 S0 ls)
    (hd : decode M.2.2.1 pc = .ok (.laload, len)) (hl : am_lok (.laload) len = true) (hq : am_he (some sc) M (.laload) pc L S h = some qq) : W p l e R s m args below meth c H locs cells slots Q (F0 m pc ls (S.map (am_v ρ))) := by
  obtain rfl : len = _ := by simpa [am_lok, am_len] using hl
  simp only [am_he] at hq
  split at hq
  · rename_i i kz S1
    split at hq
    · rename_i tz nz hk
      split at hq
      · rename_i hcd
        obtain ⟨rfl, hin1⟩ := hcd
        cases hq
        have okS1 := (am_oks_cons.mp (am_oks_cons.mp okS).2).2
        have hg := am_ws_get (κ := κ) (ρ := ρ) hk
        rw [am_en_l] at hg
        exact va_lald hx hb hK hP kz 1 hg rfl hin1 hd (kk ρ H locs cells slots (am_ag_rf _ _) hP hD hS okh (am_oks_cons.mpr ⟨trivial, okS1⟩) (Nat.le_refl _) hc1 hs1)
      · cases hq
    · cases hq
  · cases hq
set_option maxHeartbeats 400000 in
theorem am_H_lastore  {sc : Nat × (Nat → Int32)} {κ : Nat → ClassId} {D : va_G} {A : Nat → Prop} {ρ : Nat → Nat} {M : am_Me} {len pc : Nat} {L S : List Value} {h : am_H} {qq : am_C} {N0 S0 nL : Nat}
    (hx : p.tables.exec = Jvm.exec) (hb : c.code = M.2.2.1) (hml : c.maxLocals = nL) (hown : s.vm.findClass (am_R M.1) = some m.cls) (hts : ∀ w ∈ am_TG, w.before args s = true) (hin : M.2.1.name = "<init>" → meth.name = "<init>")
    (hK : va_K D vwCl (am_tys κ) s) (hX : am_X ρ sc A s s.heap) (hA : ∀ y, s.heap.size ≤ y → A y) (hfr : 1 ≤ R.frames) (hlo : 60 ≤ R.locals)
    (hP : va_P D vwCl (am_ws κ ρ h) H) (hD : va_D A (am_ws κ ρ h)) (hS : va_S A s.heap H locs) (okh : am_okh h) (okS : am_oks h.1.length S) (hsz : ls.size = nL)
    (hc1 : cells + N0 = h.1.length) (hs1 : slots + S0 = am_sm h.1) (hrc : qq.2.2.2.1.length ≤ R.cells + N0) (hrs : am_sm qq.2.2.2.1 ≤ R.slots + S0) (hmil : qq.2.2.2.1.length < 1000000)
    (kk : am_KK p l e R s m args below meth c Q κ D A ρ h qq N0 S0 ls)
    (hd : decode M.2.2.1 pc = .ok (.lastore, len)) (hl : am_lok (.lastore) len = true) (hq : am_he (some sc) M (.lastore) pc L S h = some qq) : W p l e R s m args below meth c H locs cells slots Q (F0 m pc ls (S.map (am_v ρ))) := by
  obtain rfl : len = _ := by simpa [am_lok, am_len] using hl
  simp only [am_he] at hq
  split at hq
  · rename_i v i kz S1
    split at hq
    · rename_i tz nz hk
      split at hq
      · rename_i hcd
        obtain ⟨rfl, hin1⟩ := hcd
        cases hq
        have okS1 := (am_oks_cons.mp (am_oks_cons.mp (am_oks_cons.mp okS).2).2).2
        have hg := am_ws_get (κ := κ) (ρ := ρ) hk
        rw [am_en_l] at hg
        have hset : (am_ws κ ρ h).set kz (ρ kz, .inl (κ 21, nz, .inr (.inl (vp_updL (h.2.2.2 kz) i.toNatClampNeg v)))) = am_ws κ ρ (h.1, h.2.1, h.2.2.1, va_up h.2.2.2 kz (vp_updL (h.2.2.2 kz) i.toNatClampNeg v)) := by
          rw [← am_ws_set (h := h) (h' := (h.1, h.2.1, h.2.2.1, va_up h.2.2.2 kz (vp_updL (h.2.2.2 kz) i.toNatClampNeg v))) hk rfl (fun j tw hj => am_en_eq rfl rfl (by simp only [va_up, if_neg hj]))]
          rw [am_en_l]
          simp only [va_up, ↓reduceIte]
        refine va_last hx hb hK hP hD hS kz 1 hg rfl hin1 hd (fun H1 locs1 hP1 hD1 hS1 => ?_)
        rw [hset] at hP1 hD1
        exact kk ρ H1 locs1 cells slots (am_ag_rf _ _) hP1 hD1 hS1 okh okS1 (Nat.le_refl _) hc1 hs1
      · cases hq
    · cases hq
  · cases hq
set_option maxHeartbeats 400000 in
theorem am_H_aaload  {sc : Nat × (Nat → Int32)} {κ : Nat → ClassId} {D : va_G} {A : Nat → Prop} {ρ : Nat → Nat} {M : am_Me} {len pc : Nat} {L S : List Value} {h : am_H} {qq : am_C} {N0 S0 nL : Nat}
    (hx : p.tables.exec = Jvm.exec) (hb : c.code = M.2.2.1) (hml : c.maxLocals = nL) (hown : s.vm.findClass (am_R M.1) = some m.cls) (hts : ∀ w ∈ am_TG, w.before args s = true) (hin : M.2.1.name = "<init>" → meth.name = "<init>")
    (hK : va_K D vwCl (am_tys κ) s) (hX : am_X ρ sc A s s.heap) (hA : ∀ y, s.heap.size ≤ y → A y) (hfr : 1 ≤ R.frames) (hlo : 60 ≤ R.locals)
    (hP : va_P D vwCl (am_ws κ ρ h) H) (hD : va_D A (am_ws κ ρ h)) (hS : va_S A s.heap H locs) (okh : am_okh h) (okS : am_oks h.1.length S) (hsz : ls.size = nL)
    (hc1 : cells + N0 = h.1.length) (hs1 : slots + S0 = am_sm h.1) (hrc : qq.2.2.2.1.length ≤ R.cells + N0) (hrs : am_sm qq.2.2.2.1 ≤ R.slots + S0) (hmil : qq.2.2.2.1.length < 1000000)
    (kk : am_KK p l e R s m args below meth c Q κ D A ρ h qq N0 S0 ls)
    (hd : decode M.2.2.1 pc = .ok (.aaload, len)) (hl : am_lok (.aaload) len = true) (hq : am_he (some sc) M (.aaload) pc L S h = some qq) : W p l e R s m args below meth c H locs cells slots Q (F0 m pc ls (S.map (am_v ρ))) := by
  obtain rfl : len = _ := by simpa [am_lok, am_len] using hl
  simp only [am_he] at hq
  split at hq
  · rename_i i kz S1
    split at hq
    · rename_i tz nz hk
      split at hq
      · rename_i hcd
        obtain ⟨ht1, ht2, hin1⟩ := hcd
        obtain ⟨y, hy, rfl⟩ := Option.map_eq_some_iff.mp hq
        have okS1 := (am_oks_cons.mp (am_oks_cons.mp okS).2).2
        have hg := am_ws_get (κ := κ) (ρ := ρ) hk
        rw [am_en_r ht1] at hg
        have kv : W p l e R s m args below meth c H locs cells slots Q (F0 m (pc + 1) ls (va_rf ((h.2.1 kz i.toNatClampNeg).map ρ) :: S1.map (am_v ρ))) := by
          rw [hy]
          exact kk ρ H locs cells slots (am_ag_rf _ _) hP hD hS okh (am_oks_cons.mpr ⟨okh _ _ _ hy, okS1⟩) (Nat.le_refl _) hc1 hs1
        have h5 : tz = 22 ∨ tz = 23 ∨ tz = 24 := by omega
        rcases h5 with rfl | rfl | rfl
        · exact am_aald hx hb (hP kz _ hg) (hK.2 2 _ rfl).1 rfl hin1 hd kv
        · exact am_aald hx hb (hP kz _ hg) (hK.2 3 _ rfl).1 rfl hin1 hd kv
        · exact am_aald hx hb (hP kz _ hg) (hK.2 4 _ rfl).1 rfl hin1 hd kv
      · cases hq
    · cases hq
  · cases hq
theorem am_cas_get (t : Nat) (ht : am_isV t = true) : t = 10 ∨ (t < 13 ∧ Jvm.Cond.castable (am_R t) RX10 ∈ am_casL) := by
  have h6 : t = 0 ∨ t = 1 ∨ t = 2 ∨ t = 4 ∨ t = 5 ∨ t = 10 := by
    simp only [am_isV, Bool.or_eq_true, beq_iff_eq] at ht
    omega
  rcases h6 with rfl | rfl | rfl | rfl | rfl | rfl
  · exact Or.inr ⟨by omega, by show Jvm.Cond.castable RX0 RX10 ∈ _; simp [am_casL]⟩
  · exact Or.inr ⟨by omega, by show Jvm.Cond.castable RX1 RX10 ∈ _; simp [am_casL]⟩
  · exact Or.inr ⟨by omega, by show Jvm.Cond.castable RX2 RX10 ∈ _; simp [am_casL]⟩
  · exact Or.inr ⟨by omega, by show Jvm.Cond.castable RX4 RX10 ∈ _; simp [am_casL]⟩
  · exact Or.inr ⟨by omega, by show Jvm.Cond.castable RX5 RX10 ∈ _; simp [am_casL]⟩
  · exact Or.inl rfl
set_option maxHeartbeats 400000 in
theorem am_H_aastore  {sc : Nat × (Nat → Int32)} {κ : Nat → ClassId} {D : va_G} {A : Nat → Prop} {ρ : Nat → Nat} {M : am_Me} {len pc : Nat} {L S : List Value} {h : am_H} {qq : am_C} {N0 S0 nL : Nat}
    (hx : p.tables.exec = Jvm.exec) (hb : c.code = M.2.2.1) (hml : c.maxLocals = nL) (hown : s.vm.findClass (am_R M.1) = some m.cls) (hts : ∀ w ∈ am_TG, w.before args s = true) (hin : M.2.1.name = "<init>" → meth.name = "<init>")
    (hK : va_K D vwCl (am_tys κ) s) (hX : am_X ρ sc A s s.heap) (hA : ∀ y, s.heap.size ≤ y → A y) (hfr : 1 ≤ R.frames) (hlo : 60 ≤ R.locals)
    (hP : va_P D vwCl (am_ws κ ρ h) H) (hD : va_D A (am_ws κ ρ h)) (hS : va_S A s.heap H locs) (okh : am_okh h) (okS : am_oks h.1.length S) (hsz : ls.size = nL)
    (hc1 : cells + N0 = h.1.length) (hs1 : slots + S0 = am_sm h.1) (hrc : qq.2.2.2.1.length ≤ R.cells + N0) (hrs : am_sm qq.2.2.2.1 ≤ R.slots + S0) (hmil : qq.2.2.2.1.length < 1000000)
    (kk : am_KK p l e R s m args below meth c Q κ D A ρ h qq N0 S0 ls)
    (hd : decode M.2.2.1 pc = .ok (.aastore, len)) (hl : am_lok (.aastore) len = true) (hq : am_he (some sc) M (.aastore) pc L S h = some qq) : W p l e R s m args below meth c H locs cells slots Q (F0 m pc ls (S.map (am_v ρ))) := by
  obtain rfl : len = _ := by simpa [am_lok, am_len] using hl
  simp only [am_he] at hq
  split at hq
  · rename_i y i kz S1
    split at hq
    · rename_i tz nz ty ny hk hy
      split at hq
      · rename_i hcd
        obtain ⟨rfl, hV, hin1⟩ := hcd
        cases hq
        have oky := (am_oks_cons.mp okS).1
        have okS1 := (am_oks_cons.mp (am_oks_cons.mp (am_oks_cons.mp okS).2).2).2
        have hg := am_ws_get (κ := κ) (ρ := ρ) hk
        rw [am_en_r (Nat.le_refl _)] at hg
        have hlt : ty < 13 := by
          rcases am_cas_get ty hV with rfl | hz
          · omega
          · exact hz.1
        have hgy := am_ws_get (κ := κ) (ρ := ρ) hy
        rw [am_en_obj hlt] at hgy
        have hset : (am_ws κ ρ h).set kz (ρ kz, .inl (κ 22, nz, .inr (.inr (.inr (.inr (va_up (fun j => (h.2.1 kz j).map ρ) i.toNatClampNeg (some (ρ y)))))))) = am_ws κ ρ (h.1, va_up h.2.1 kz (va_up (h.2.1 kz) i.toNatClampNeg (some y)), h.2.2.1, h.2.2.2) := by
          rw [← am_ws_set (h := h) (h' := (h.1, va_up h.2.1 kz (va_up (h.2.1 kz) i.toNatClampNeg (some y)), h.2.2.1, h.2.2.2)) hk rfl (fun j tw hj => am_en_eq (by simp only [va_up, if_neg hj]) rfl rfl)]
          rw [am_en_r (Nat.le_refl _)]
          congr 9
          funext j
          simp only [va_up, ↓reduceIte]
          split <;> rfl
        have kv : ∀ (H1 : Heap) (locs1 : List Loc), va_P D vwCl ((am_ws κ ρ h).set kz (ρ kz, .inl (κ 22, nz, .inr (.inr (.inr (.inr (va_up (fun j => (h.2.1 kz j).map ρ) i.toNatClampNeg (some (ρ y))))))))) H1 → va_D A ((am_ws κ ρ h).set kz (ρ kz, .inl (κ 22, nz, .inr (.inr (.inr (.inr (va_up (fun j => (h.2.1 kz j).map ρ) i.toNatClampNeg (some (ρ y))))))))) → va_S A s.heap H1 locs1 → W p l e R s m args below meth c H1 locs1 cells slots Q (F0 m (pc + 1) ls (S1.map (am_v ρ))) := by
          intro H1 locs1 hP1 hD1 hS1
          rw [hset] at hP1 hD1
          refine kk ρ H1 locs1 cells slots (am_ag_rf _ _) hP1 hD1 hS1 ?_ okS1 (Nat.le_refl _) hc1 hs1
          intro i2 j2 z hz
          simp only [va_up] at hz
          split at hz
          · simp only [va_up] at hz
            split at hz
            · cases hz; exact oky
            · exact okh _ _ _ hz
          · exact okh _ _ _ hz
        rcases am_cas_get ty hV with rfl | hz
        · exact va_astq (r := (am_R 10, (am_cq 10).2.1, am_nf 10)) hx hb hK hP hD hS kz 2 y 10 hg rfl hgy (am_clsF 10 hlt) hin1 hd kv
        · exact va_astqO (E := RX10) (r := (am_R ty, (am_cq ty).2.1, am_nf ty)) hx hb hK hP hD hS kz 2 y ty hg rfl (hX.2.2.2.2.2.2 _ hz.2) hgy (am_clsF ty hlt) hin1 hd kv
      · cases hq
    · cases hq
  · cases hq
set_option maxHeartbeats 400000 in
theorem am_H_baload  {sc : Nat × (Nat → Int32)} {κ : Nat → ClassId} {D : va_G} {A : Nat → Prop} {ρ : Nat → Nat} {M : am_Me} {len pc : Nat} {L S : List Value} {h : am_H} {qq : am_C} {N0 S0 nL : Nat}
    (hx : p.tables.exec = Jvm.exec) (hb : c.code = M.2.2.1) (hml : c.maxLocals = nL) (hown : s.vm.findClass (am_R M.1) = some m.cls) (hts : ∀ w ∈ am_TG, w.before args s = true) (hin : M.2.1.name = "<init>" → meth.name = "<init>")
    (hK : va_K D vwCl (am_tys κ) s) (hX : am_X ρ sc A s s.heap) (hA : ∀ y, s.heap.size ≤ y → A y) (hfr : 1 ≤ R.frames) (hlo : 60 ≤ R.locals)
    (hP : va_P D vwCl (am_ws κ ρ h) H) (hD : va_D A (am_ws κ ρ h)) (hS : va_S A s.heap H locs) (okh : am_okh h) (okS : am_oks h.1.length S) (hsz : ls.size = nL)
    (hc1 : cells + N0 = h.1.length) (hs1 : slots + S0 = am_sm h.1) (hrc : qq.2.2.2.1.length ≤ R.cells + N0) (hrs : am_sm qq.2.2.2.1 ≤ R.slots + S0) (hmil : qq.2.2.2.1.length < 1000000)
    (kk : am_KK p l e R s m args below meth c Q κ D A ρ h qq N0 S0 ls)
    (hd : decode M.2.2.1 pc = .ok (.baload, len)) (hl : am_lok (.baload) len = true) (hq : am_he (some sc) M (.baload) pc L S h = some qq) : W p l e R s m args below meth c H locs cells slots Q (F0 m pc ls (S.map (am_v ρ))) := by
  obtain rfl : len = _ := by simpa [am_lok, am_len] using hl
  simp only [am_he] at hq
  split at hq
  · rename_i i kz S1
    split at hq
    · rename_i bs hbs0
      split at hq
      · cases hq
      · rename_i hin1
        cases hq
        unfold am_byt at hbs0
        split at hbs0
        · rename_i hk
          have hbs := hbs0
          have okS1 := (am_oks_cons.mp (am_oks_cons.mp okS).2).2
          have hlt := (List.getElem?_eq_some_iff.mp hbs).1
          obtain ⟨-, -, -, hT⟩ := hX.2.1.1.1 (kz - 1000040) hlt
          have e1 := am_e3 hk
          simp only [e1] at hT
          have e2 : (am_sB.map List.length).getD (kz - 1000040) 0 = bs.length := by
            rw [List.getD_eq_getElem?_getD, List.getElem?_map, hbs]; rfl
          have e3 : am_sB.getD (kz - 1000040) [] = bs := by
            rw [List.getD_eq_getElem?_getD, hbs]; rfl
          simp only [e2, e3] at hT
          exact va_tb hx hb hT hS hin1 rfl hd (kk ρ H locs cells slots (am_ag_rf _ _) hP hD hS okh (am_oks_cons.mpr ⟨trivial, okS1⟩) (Nat.le_refl _) hc1 hs1)
        · cases hbs0
    · cases hq
  · cases hq
theorem am_sm_mna (h : am_H) (t n t1 n1 : Nat) : am_sm (am_mna h t n t1 n1).1 = am_sm h.1 + (n + n * n1) := by
  simp [am_sm, am_mna]
theorem am_mna_len (h : am_H) (t n t1 n1 : Nat) : (am_mna h t n t1 n1).1.length = h.1.length + (1 + n) := by
  simp [am_mna]; omega
theorem am_mna_get {h : am_H} {t n t1 n1 i : Nat} {tn : Nat × Nat} (hi : (am_mna h t n t1 n1).1[i]? = some tn) : (i < h.1.length ∧ h.1[i]? = some tn) ∨ (i = h.1.length ∧ tn = (t, n)) ∨ (∃ j, j < n ∧ i = h.1.length + 1 + j ∧ tn = (t1, n1)) := by
  simp only [am_mna] at hi
  by_cases h1 : i < h.1.length
  · rw [List.getElem?_append_left h1] at hi
    exact Or.inl ⟨h1, hi⟩
  · rw [List.getElem?_append_right (by omega)] at hi
    by_cases h2 : i = h.1.length
    · subst h2
      rw [Nat.sub_self] at hi
      exact Or.inr (Or.inl ⟨rfl, (Option.some.inj hi).symm⟩)
    · obtain ⟨j, rfl⟩ : ∃ j, i = h.1.length + 1 + j := ⟨i - h.1.length - 1, by omega⟩
      rw [show h.1.length + 1 + j - h.1.length = j + 1 by omega, List.getElem?_cons_succ, List.getElem?_replicate] at hi
      by_cases h3 : j < n
      · rw [if_pos h3] at hi
        exact Or.inr (Or.inr ⟨j, h3, rfl, (Option.some.inj hi).symm⟩)
      · rw [if_neg h3] at hi; cases hi
theorem am_okh_mna {h : am_H} {t n t1 n1 : Nat} (ok : am_okh h) : am_okh (am_mna h t n t1 n1) := by
  intro k j y hy
  rw [am_mna_len]
  simp only [am_mna] at hy
  split at hy
  · split at hy
    · cases hy; left; omega
    · cases hy
  · split at hy
    · cases hy
    · have := ok k j y hy
      omega
/-- the world behind a two-dimensional row -/
theorem am_mna_P {D : va_G} {κ : Nat → ClassId} {ρ : Nat → Nat} {A : Nat → Prop} {h : am_H} {t n t1 k : Nat} {H H1 : Heap} (hP : va_P D vwCl (am_ws κ ρ h) H) (hD : va_D A (am_ws κ ρ h)) (okh : am_okh h) (hA : ∀ y, H.size ≤ y → A y) (ht : (t = 23 ∧ t1 = 20) ∨ (t = 24 ∧ t1 = 21)) (hm : h.1.length + (1 + n) < 1000000) (z1 : H1.size = H.size + 1 + n)
    (g1 : H1[H.size]? = some (vp_cell (κ t) (n, .inr (.inr (.inr (.inr (fun j => if j < n then some (H.size + 1 + j) else none)))))))
    (g2 : ∀ j, j < n → H1[H.size + 1 + j]? = some (arrV (κ t1) k (fun _ => if t1 = 20 then .int 0 else .long 0))) (g3 : ∀ y, y < H.size → H1[y]? = H[y]?) :
    ∃ ρ', am_ag h.1.length ρ ρ' ∧ ρ' h.1.length = H.size ∧ va_P D vwCl (am_ws κ ρ' (am_mna h t n t1 k)) H1 ∧ va_D A (am_ws κ ρ' (am_mna h t n t1 k)) := by
  obtain ⟨ρ', eρ⟩ : ∃ ρ' : Nat → Nat, ρ' = fun q => if h.1.length ≤ q ∧ q < h.1.length + (1 + n) then H.size + (q - h.1.length) else ρ q := ⟨_, rfl⟩
  have ag : am_ag h.1.length ρ ρ' := by
    intro q hq
    rw [eρ]
    exact if_neg (by omega)
  have r0 : ρ' h.1.length = H.size := by
    rw [eρ]; dsimp only; rw [if_pos (by omega), Nat.sub_self]; rfl
  have r1 : ∀ j, j < n → ρ' (h.1.length + 1 + j) = H.size + 1 + j := fun j hj => by
    rw [eρ]; dsimp only; rw [if_pos (by omega)]; omega
  have old : ∀ i tn, i < h.1.length → am_en κ ρ' (am_mna h t n t1 k) i tn = am_en κ ρ h i tn := by
    intro i tn hi
    rw [am_en_eq (h := h) (h' := am_mna h t n t1 k) (by simp only [am_mna]; funext j; rw [if_neg (by omega), if_neg (by omega)]) (by simp only [am_mna]; funext j; rw [if_neg (by omega)]) (by simp only [am_mna]; funext j; rw [if_neg (by omega)])]
    exact am_en_ag ag (fun j z hz => okh i j z hz)
  have get : ∀ i q, (am_ws κ ρ' (am_mna h t n t1 k))[i]? = some q → ∃ tn, (am_mna h t n t1 k).1[i]? = some tn ∧ q = (ρ' i, am_en κ ρ' (am_mna h t n t1 k) i tn) := by
    intro i q hq
    unfold am_ws at hq
    rw [List.getElem?_mapIdx] at hq
    obtain ⟨tn, h1, h2⟩ := Option.map_eq_some_iff.mp hq
    exact ⟨tn, h1, h2.symm⟩
  have lt : ∀ i, i < h.1.length → ρ' i < H.size ∧ ρ' i = ρ i ∧ ∃ tn, (am_ws κ ρ h)[i]? = some (ρ i, am_en κ ρ h i tn) := by
    intro i hi
    have hg : h.1[i]? = some h.1[i] := List.getElem?_eq_getElem hi
    have hw := am_ws_get (κ := κ) (ρ := ρ) hg
    have e := ag i (Or.inl hi)
    exact ⟨by rw [e]; exact (hP i _ hw).lt, e, h.1[i], hw⟩
  refine ⟨ρ', ag, r0, fun i q hq => ?_, ⟨fun i j q1 q2 hq1 hq2 he => ?_, fun i q hq => ?_⟩⟩
  · obtain ⟨tn, h1, rfl⟩ := get i q hq
    rcases am_mna_get h1 with ⟨a1, a2⟩ | ⟨rfl, rfl⟩ | ⟨j, a1, rfl, rfl⟩
    · rw [old i tn a1, (lt i a1).2.1]
      have hw := hP i _ (am_ws_get (κ := κ) (ρ := ρ) a2)
      exact hw.kept (g3 _ hw.lt)
    · rw [am_en_r (by omega), r0]
      have e : (fun j => ((am_mna h t n t1 k).2.1 h.1.length j).map ρ') = fun j => if j < n then some (H.size + 1 + j) else none := by
        funext j
        simp only [am_mna, if_pos]
        by_cases hj : j < n
        · rw [if_pos hj, if_pos hj, Option.map_some, r1 j hj]
        · rw [if_neg hj, if_neg hj]; rfl
      rw [e]
      exact g1
    · rw [r1 j a1]
      rcases ht with ⟨-, rfl⟩ | ⟨-, rfl⟩
      · rw [am_en_i]
        have e : (am_mna h t n 20 k).2.2.1 (h.1.length + 1 + j) = fun _ => 0 := by
          funext z; simp only [am_mna]; rw [if_pos (by omega)]
        rw [e]
        exact g2 j a1
      · rw [am_en_l]
        have e : (am_mna h t n 21 k).2.2.2 (h.1.length + 1 + j) = fun _ => 0 := by
          funext z; simp only [am_mna]; rw [if_pos (by omega)]
        rw [e]
        exact g2 j a1
  · obtain ⟨tn1, b1, rfl⟩ := get i q1 hq1
    obtain ⟨tn2, b2, rfl⟩ := get j q2 hq2
    dsimp only at he
    have big : ∀ i tn, (am_mna h t n t1 k).1[i]? = some tn → ¬ i < h.1.length → ρ' i = H.size + (i - h.1.length) := by
      intro i tn hi hn
      rcases am_mna_get hi with ⟨a1, -⟩ | ⟨rfl, -⟩ | ⟨j, a1, rfl, -⟩
      · exact absurd a1 hn
      · rw [r0, Nat.sub_self]; rfl
      · rw [r1 j a1]; omega
    by_cases h1 : i < h.1.length
    · obtain ⟨x1, x2, u1, x3⟩ := lt i h1
      by_cases h2 : j < h.1.length
      · obtain ⟨y1, y2, u2, y3⟩ := lt j h2
        exact hD.1 i j _ _ x3 y3 (by dsimp only; rw [← x2, ← y2]; exact he)
      · rw [big j tn2 b2 h2] at he; omega
    · have e1 := big i tn1 b1 h1
      by_cases h2 : j < h.1.length
      · have := (lt j h2).1; omega
      · have e2 := big j tn2 b2 h2; omega
  · obtain ⟨tn, b1, rfl⟩ := get i q hq
    dsimp only
    rcases am_mna_get b1 with ⟨a1, -⟩ | ⟨rfl, -⟩ | ⟨j, a1, rfl, -⟩
    · obtain ⟨-, x2, u1, x3⟩ := lt i a1
      rw [x2]; exact hD.2 i _ x3
    · rw [r0]; exact hA _ (Nat.le_refl _)
    · rw [r1 j a1]; exact hA _ (by omega)
theorem am_nw_in {o x c0 : Nat} (h : am_nw o x = some c0) : (o, x, c0) ∈ am_nT := by
  unfold am_nw at h
  obtain ⟨e1, h1, h2⟩ := Option.map_eq_some_iff.mp h
  have h3 := List.find?_some h1
  have h4 := List.mem_of_find?_eq_some h1
  obtain ⟨a, b, cd⟩ := e1
  simp only [Bool.and_eq_true, beq_iff_eq] at h3 h2
  obtain ⟨rfl, rfl⟩ := h3
  subst h2
  exact h4
theorem am_na_in {o x c0 : Nat} (h : am_na o x = some c0) : (o, x, c0) ∈ am_aT := by
  unfold am_na at h
  obtain ⟨e1, h1, h2⟩ := Option.map_eq_some_iff.mp h
  have h3 := List.find?_some h1
  have h4 := List.mem_of_find?_eq_some h1
  obtain ⟨a, b, cd⟩ := e1
  simp only [Bool.and_eq_true, beq_iff_eq] at h3 h2
  obtain ⟨rfl, rfl⟩ := h3
  subst h2
  exact h4
theorem am_mk_in {o x c0 : Nat} (h : am_mk o x = some c0) : (o, x, c0) ∈ am_mT := by
  unfold am_mk at h
  obtain ⟨e1, h1, h2⟩ := Option.map_eq_some_iff.mp h
  have h3 := List.find?_some h1
  have h4 := List.mem_of_find?_eq_some h1
  obtain ⟨a, b, cd⟩ := e1
  simp only [Bool.and_eq_true, beq_iff_eq] at h3 h2
  obtain ⟨rfl, rfl⟩ := h3
  subst h2
  exact h4
theorem am_oi_in {o x : Nat} (h : am_oi o x = true) : (o, x) ∈ am_oT := by
  unfold am_oi at h
  obtain ⟨⟨a, b⟩, h1, h2⟩ := List.any_eq_true.mp h
  simp only [Bool.and_eq_true, beq_iff_eq] at h2
  obtain ⟨rfl, rfl⟩ := h2
  exact h1
theorem am_ac_in {o x : Nat} (h : am_ac o x = true) : (o, x) ∈ am_yT := by
  unfold am_ac at h
  obtain ⟨⟨a, b⟩, h1, h2⟩ := List.any_eq_true.mp h
  simp only [Bool.and_eq_true, beq_iff_eq] at h2
  obtain ⟨rfl, rfl⟩ := h2
  exact h1
def am_f0 (c0 : Nat) : List Value := (List.range (am_nf c0)).map (fun j => if am_fk c0 j = 2 then .null else .int 0)
theorem am_f0_ok (c0 : Nat) (hc : c0 < 13) : ∀ j, j < am_nf c0 → defaultValue (am_ty0 c0 j) = vp_V (am_f0 c0) j := by
  intro j hj
  have e : vp_V (am_f0 c0) j = if am_fk c0 j = 2 then .null else .int 0 := by
    unfold vp_V am_f0
    rw [List.getD_eq_getElem?_getD, List.getElem?_map, List.getElem?_range hj]
    rfl
  rw [e]
  obtain ⟨k0, k1, k2, k3⟩ := am_clsK c0 hc j hj
  have h3 : am_fk c0 j = 0 ∨ am_fk c0 j = 1 ∨ am_fk c0 j = 2 := by omega
  rcases h3 with hz | hz | hz
  · rw [(k0 hz).1, if_neg (by omega)]; rfl
  · rw [(k1 hz).1, if_neg (by omega)]; rfl
  · rw [if_pos hz]
    have hr := (k2 hz).1
    revert hr
    cases am_ty0 c0 j <;> first | (intro hr; cases hr; done) | (intro _; rfl)
theorem am_f0_en {κ : Nat → ClassId} {ρ : Nat → Nat} {h : am_H} {c0 : Nat} (hc : c0 < 13) : am_en κ ρ (am_new h c0 (am_nf c0)) h.1.length (c0, am_nf c0) = .inr (c0, am_f0 c0) := by
  rw [am_en_obj hc]
  congr 2
  unfold am_f0
  apply List.map_congr_left
  intro j _
  simp only [am_fv, am_new, va_up, ↓reduceIte, Option.map_none, va_rf]
set_option maxHeartbeats 400000 in
theorem am_H_new {x : Nat} {sc : Nat × (Nat → Int32)} {κ : Nat → ClassId} {D : va_G} {A : Nat → Prop} {ρ : Nat → Nat} {M : am_Me} {len pc : Nat} {L S : List Value} {h : am_H} {qq : am_C} {N0 S0 nL : Nat}
    (hx : p.tables.exec = Jvm.exec) (hb : c.code = M.2.2.1) (hml : c.maxLocals = nL) (hown : s.vm.findClass (am_R M.1) = some m.cls) (hts : ∀ w ∈ am_TG, w.before args s = true) (hin : M.2.1.name = "<init>" → meth.name = "<init>")
    (hK : va_K D vwCl (am_tys κ) s) (hX : am_X ρ sc A s s.heap) (hA : ∀ y, s.heap.size ≤ y → A y) (hfr : 1 ≤ R.frames) (hlo : 60 ≤ R.locals)
    (hP : va_P D vwCl (am_ws κ ρ h) H) (hD : va_D A (am_ws κ ρ h)) (hS : va_S A s.heap H locs) (okh : am_okh h) (okS : am_oks h.1.length S) (hsz : ls.size = nL)
    (hc1 : cells + N0 = h.1.length) (hs1 : slots + S0 = am_sm h.1) (hrc : qq.2.2.2.1.length ≤ R.cells + N0) (hrs : am_sm qq.2.2.2.1 ≤ R.slots + S0) (hmil : qq.2.2.2.1.length < 1000000)
    (kk : am_KK p l e R s m args below meth c Q κ D A ρ h qq N0 S0 ls)
    (hd : decode M.2.2.1 pc = .ok (.new x, len)) (hl : am_lok (.new x) len = true) (hq : am_he (some sc) M (.new x) pc L S h = some qq) : W p l e R s m args below meth c H locs cells slots Q (F0 m pc ls (S.map (am_v ρ))) := by
  obtain rfl : len = _ := by simpa [am_lok, am_len] using hl
  simp only [am_he] at hq
  obtain ⟨c0, hn, rfl⟩ := Option.map_eq_some_iff.mp hq
  obtain ⟨hw, hdz⟩ := am_nK _ (am_nw_in hn)
  have hlt : c0 < 13 := of_decide_eq_true hdz
  simp only [am_nW] at hw
  obtain ⟨t1, t2⟩ := am_clsT c0 hlt
  have e1 : (am_new h c0 (am_nf c0)).1.length = h.1.length + 1 := by simp [am_new]
  have e2 := am_sm_new h c0 (am_nf c0)
  dsimp only at hrc hrs hmil
  rw [e1] at hrc hmil
  rw [e2] at hrs
  refine va_new hx hb hts (am_clsW c0 hlt) (am_ty0 c0) t1 hown (hts _ (hw _ List.mem_cons_self)) (hts _ (hw _ (List.mem_cons_of_mem _ List.mem_cons_self))) (hts _ (hw _ (List.mem_cons_of_mem _ (List.mem_cons_of_mem _ List.mem_cons_self)))) hK hP hD hS hA (am_clsF c0 hlt) (fs := am_f0 c0) (am_f0_ok c0 hlt) (by omega) (by omega) hd (fun y H1 hP1 hD1 hS1 => ?_)
  have hset := am_ws_new (κ := κ) (ρ := ρ) (y := y) (t := c0) (n := am_nf c0) okh (by omega)
  rw [am_f0_en hlt] at hset
  rw [← hset] at hP1 hD1
  have hag := am_ag_up (n := h.1.length) (ρ := ρ) (y := y) (by omega)
  have k1 := kk (va_up ρ h.1.length y) H1 locs (cells + 1) (slots + am_nf c0) hag hP1 hD1 hS1 (am_okh_new okh) (am_oks_cons.mpr ⟨by rw [e1]; exact Or.inl (Nat.lt_succ_self _), am_oks_le okS (by rw [e1]; omega)⟩) (by rw [e1]; omega) (by dsimp only; rw [e1]; omega) (by dsimp only; rw [e2]; omega)
  dsimp only at k1
  rw [List.map_cons, am_vs_ag hag okS] at k1
  have e3 : am_v (va_up ρ h.1.length y) (.ref h.1.length) = .ref y := by simp only [am_v, va_up, ↓reduceIte]
  rw [e3] at k1
  exact k1
set_option maxHeartbeats 400000 in
theorem am_H_newarray {t : ArrayType} {sc : Nat × (Nat → Int32)} {κ : Nat → ClassId} {D : va_G} {A : Nat → Prop} {ρ : Nat → Nat} {M : am_Me} {len pc : Nat} {L S : List Value} {h : am_H} {qq : am_C} {N0 S0 nL : Nat}
    (hx : p.tables.exec = Jvm.exec) (hb : c.code = M.2.2.1) (hml : c.maxLocals = nL) (hown : s.vm.findClass (am_R M.1) = some m.cls) (hts : ∀ w ∈ am_TG, w.before args s = true) (hin : M.2.1.name = "<init>" → meth.name = "<init>")
    (hK : va_K D vwCl (am_tys κ) s) (hX : am_X ρ sc A s s.heap) (hA : ∀ y, s.heap.size ≤ y → A y) (hfr : 1 ≤ R.frames) (hlo : 60 ≤ R.locals)
    (hP : va_P D vwCl (am_ws κ ρ h) H) (hD : va_D A (am_ws κ ρ h)) (hS : va_S A s.heap H locs) (okh : am_okh h) (okS : am_oks h.1.length S) (hsz : ls.size = nL)
    (hc1 : cells + N0 = h.1.length) (hs1 : slots + S0 = am_sm h.1) (hrc : qq.2.2.2.1.length ≤ R.cells + N0) (hrs : am_sm qq.2.2.2.1 ≤ R.slots + S0) (hmil : qq.2.2.2.1.length < 1000000)
    (kk : am_KK p l e R s m args below meth c Q κ D A ρ h qq N0 S0 ls)
    (hd : decode M.2.2.1 pc = .ok (.newarray t, len)) (hl : am_lok (.newarray t) len = true) (hq : am_he (some sc) M (.newarray t) pc L S h = some qq) : W p l e R s m args below meth c H locs cells slots Q (F0 m pc ls (S.map (am_v ρ))) := by
  obtain rfl : len = _ := by simpa [am_lok, am_len] using hl
  simp only [am_he] at hq
  split at hq
  · rename_i n S1
    split at hq
    · cases hq
    · rename_i hcd
      split at hq
      · cases hq
        have okS1 := (am_oks_cons.mp okS).2
        have hn : ¬ n < 0 := fun z => hcd (Or.inl z)
        have hn2 : n.toNatClampNeg ≤ 1000 := Nat.le_of_not_lt fun z => hcd (Or.inr z)
        have e1 : (am_new h 20 n.toNatClampNeg).1.length = h.1.length + 1 := by simp [am_new]
        have e2 := am_sm_new h 20 n.toNatClampNeg
        dsimp only at hrc hrs hmil
        rw [e1] at hrc hmil
        rw [e2] at hrs
        refine va_newa (atype := .int) (ty := .int) (a0 := (n.toNatClampNeg, .inl (fun _ => 0))) hx hb (hts _ am_arI) rfl hK hP hD hS hA (fun _ => rfl) hn rfl (by show n.toNatClampNeg * 4 ≤ _; omega) (by omega) (by omega) hd (fun y cA H1 hK1 hP1 hD1 hS1 => ?_)
        have hcA : cA = κ 20 := by
          have g1 := (hK1.2 5 (cA, .int) rfl).2
          have g2 := (hK.2 0 (κ 20, .int) rfl).2
          exact Option.some.inj (g1.symm.trans g2)
        subst hcA
        have hset := am_ws_new (κ := κ) (ρ := ρ) (y := y) (t := 20) (n := n.toNatClampNeg) okh (by omega)
        rw [am_en_i] at hset
        have e4 : (am_new h 20 n.toNatClampNeg).2.2.1 h.1.length = fun _ => 0 := by simp only [am_new, va_up, ↓reduceIte]
        rw [e4] at hset
        rw [← hset] at hP1 hD1
        have hag := am_ag_up (n := h.1.length) (ρ := ρ) (y := y) (by omega)
        have k1 := kk (va_up ρ h.1.length y) H1 locs (cells + 1) (slots + n.toNatClampNeg) hag hP1 hD1 hS1 (am_okh_new okh) (am_oks_cons.mpr ⟨by rw [e1]; exact Or.inl (Nat.lt_succ_self _), am_oks_le okS1 (by rw [e1]; omega)⟩) (by rw [e1]; omega) (by dsimp only; rw [e1]; omega) (by dsimp only; rw [e2]; omega)
        dsimp only at k1
        rw [List.map_cons, am_vs_ag hag okS1] at k1
        have e3 : am_v (va_up ρ h.1.length y) (.ref h.1.length) = .ref y := by simp only [am_v, va_up, ↓reduceIte]
        rw [e3] at k1
        exact k1
      · cases hq
  · cases hq
set_option maxHeartbeats 400000 in
theorem am_H_anewarray {x : Nat} {sc : Nat × (Nat → Int32)} {κ : Nat → ClassId} {D : va_G} {A : Nat → Prop} {ρ : Nat → Nat} {M : am_Me} {len pc : Nat} {L S : List Value} {h : am_H} {qq : am_C} {N0 S0 nL : Nat}
    (hx : p.tables.exec = Jvm.exec) (hb : c.code = M.2.2.1) (hml : c.maxLocals = nL) (hown : s.vm.findClass (am_R M.1) = some m.cls) (hts : ∀ w ∈ am_TG, w.before args s = true) (hin : M.2.1.name = "<init>" → meth.name = "<init>")
    (hK : va_K D vwCl (am_tys κ) s) (hX : am_X ρ sc A s s.heap) (hA : ∀ y, s.heap.size ≤ y → A y) (hfr : 1 ≤ R.frames) (hlo : 60 ≤ R.locals)
    (hP : va_P D vwCl (am_ws κ ρ h) H) (hD : va_D A (am_ws κ ρ h)) (hS : va_S A s.heap H locs) (okh : am_okh h) (okS : am_oks h.1.length S) (hsz : ls.size = nL)
    (hc1 : cells + N0 = h.1.length) (hs1 : slots + S0 = am_sm h.1) (hrc : qq.2.2.2.1.length ≤ R.cells + N0) (hrs : am_sm qq.2.2.2.1 ≤ R.slots + S0) (hmil : qq.2.2.2.1.length < 1000000)
    (kk : am_KK p l e R s m args below meth c Q κ D A ρ h qq N0 S0 ls)
    (hd : decode M.2.2.1 pc = .ok (.anewarray x, len)) (hl : am_lok (.anewarray x) len = true) (hq : am_he (some sc) M (.anewarray x) pc L S h = some qq) : W p l e R s m args below meth c H locs cells slots Q (F0 m pc ls (S.map (am_v ρ))) := by
  obtain rfl : len = _ := by simpa [am_lok, am_len] using hl
  simp only [am_he] at hq
  split at hq
  · rename_i n S1
    split at hq
    · cases hq
    · rename_i hcd
      split at hq
      · rename_i t0 hna
        split at hq
        · rename_i ht0
          subst ht0
          cases hq
          obtain ⟨hw, -⟩ := am_aK _ (am_na_in hna)
          have okS1 := (am_oks_cons.mp okS).2
          have hn : ¬ n < 0 := fun z => hcd (Or.inl z)
          have hn2 : n.toNatClampNeg ≤ 1000 := Nat.le_of_not_lt fun z => hcd (Or.inr z)
          have e1 : (am_new h 22 n.toNatClampNeg).1.length = h.1.length + 1 := by simp [am_new]
          have e2 := am_sm_new h 22 n.toNatClampNeg
          dsimp only at hrc hrs hmil
          rw [e1] at hrc hmil
          rw [e2] at hrs
          refine va_newq (C := "VoiceNets$Voice") hx hb hown (hts _ (hw _ List.mem_cons_self)) (hX.2.2.2.2.2.1 _ (by simp [am_ovL])) hK hP hD hS hA hn rfl (by omega) (by omega) (by omega) hd (fun y cA H1 hK1 hP1 hD1 hS1 => ?_)
          have hcA : cA = κ 22 := by
            obtain ⟨_, _, -, -, -, g1⟩ := (hK1.2 5 (cA, .object "VoiceNets$Voice") rfl).2
            obtain ⟨_, _, -, -, -, g2⟩ := (hK.2 2 (κ 22, .object "VoiceNets$Voice") rfl).2
            exact Option.some.inj (g1.symm.trans g2)
          subst hcA
          have hset := am_ws_new (κ := κ) (ρ := ρ) (y := y) (t := 22) (n := n.toNatClampNeg) okh (by omega)
          rw [am_en_r (Nat.le_refl _)] at hset
          have e4 : (fun j => ((am_new h 22 n.toNatClampNeg).2.1 h.1.length j).map (va_up ρ h.1.length y)) = fun _ => none := by funext j; simp only [am_new, va_up, ↓reduceIte, Option.map_none]
          rw [e4] at hset
          rw [← hset] at hP1 hD1
          have hag := am_ag_up (n := h.1.length) (ρ := ρ) (y := y) (by omega)
          have k1 := kk (va_up ρ h.1.length y) H1 locs (cells + 1) (slots + n.toNatClampNeg) hag hP1 hD1 hS1 (am_okh_new okh) (am_oks_cons.mpr ⟨by rw [e1]; exact Or.inl (Nat.lt_succ_self _), am_oks_le okS1 (by rw [e1]; omega)⟩) (by rw [e1]; omega) (by dsimp only; rw [e1]; omega) (by dsimp only; rw [e2]; omega)
          dsimp only at k1
          rw [List.map_cons, am_vs_ag hag okS1] at k1
          have e3 : am_v (va_up ρ h.1.length y) (.ref h.1.length) = .ref y := by simp only [am_v, va_up, ↓reduceIte]
          rw [e3] at k1
          exact k1
        · cases hq
      · cases hq
  · cases hq
set_option maxHeartbeats 400000 in
theorem am_H_objinit {x : Nat} {sc : Nat × (Nat → Int32)} {κ : Nat → ClassId} {D : va_G} {A : Nat → Prop} {ρ : Nat → Nat} {M : am_Me} {len pc : Nat} {L S : List Value} {h : am_H} {qq : am_C} {N0 S0 nL : Nat}
    (hx : p.tables.exec = Jvm.exec) (hb : c.code = M.2.2.1) (hml : c.maxLocals = nL) (hown : s.vm.findClass (am_R M.1) = some m.cls) (hts : ∀ w ∈ am_TG, w.before args s = true) (hin : M.2.1.name = "<init>" → meth.name = "<init>")
    (hK : va_K D vwCl (am_tys κ) s) (hX : am_X ρ sc A s s.heap) (hA : ∀ y, s.heap.size ≤ y → A y) (hfr : 1 ≤ R.frames) (hlo : 60 ≤ R.locals)
    (hP : va_P D vwCl (am_ws κ ρ h) H) (hD : va_D A (am_ws κ ρ h)) (hS : va_S A s.heap H locs) (okh : am_okh h) (okS : am_oks h.1.length S) (hsz : ls.size = nL)
    (hc1 : cells + N0 = h.1.length) (hs1 : slots + S0 = am_sm h.1) (hrc : qq.2.2.2.1.length ≤ R.cells + N0) (hrs : am_sm qq.2.2.2.1 ≤ R.slots + S0) (hmil : qq.2.2.2.1.length < 1000000)
    (kk : am_KK p l e R s m args below meth c Q κ D A ρ h qq N0 S0 ls)
    (hd : decode M.2.2.1 pc = .ok (.invokespecial x, len)) (hl : am_lok (.invokespecial x) len = true) (hq : am_he (some sc) M (.invokespecial x) pc L S h = some qq) : W p l e R s m args below meth c H locs cells slots Q (F0 m pc ls (S.map (am_v ρ))) := by
  obtain rfl : len = _ := by simpa [am_lok, am_len] using hl
  simp only [am_he] at hq
  split at hq
  · rename_i kz S1
    split at hq
    · rename_i hcd
      cases hq
      obtain ⟨hw, -⟩ := am_oK _ (am_oi_in hcd.1)
      simp only [am_oW] at hw
      have okS1 := (am_oks_cons.mp okS).2
      have hsum : ((S1.map (am_v ρ)).map fun v => v.category).sum ≤ 8 := by rw [am_v_sum]; exact hcd.2
      have hroom := lv_room (m := m) (pc := pc) (ls := ls) (rest := am_v ρ (.ref kz) :: S1.map (am_v ρ)) hsum
      exact W.objInit hx hb hown (hts _ (hw _ List.mem_cons_self)) (hts _ (hw _ (List.mem_cons_of_mem _ List.mem_cons_self))) (hts _ (hw _ (List.mem_cons_of_mem _ (List.mem_cons_of_mem _ List.mem_cons_self)))) rfl (by rw [hml]; exact hsz) rfl hd hfr (Nat.le_trans (Nat.add_le_add_right hroom 12) (Nat.le_trans (by decide) hlo))
        (kk ρ H locs cells slots (am_ag_rf _ _) hP hD hS okh okS1 (Nat.le_refl _) hc1 hs1)
    · cases hq
  · cases hq
set_option maxHeartbeats 400000 in
theorem am_H_static {x : Nat} {sc : Nat × (Nat → Int32)} {κ : Nat → ClassId} {D : va_G} {A : Nat → Prop} {ρ : Nat → Nat} {M : am_Me} {len pc : Nat} {L S : List Value} {h : am_H} {qq : am_C} {N0 S0 nL : Nat}
    (hx : p.tables.exec = Jvm.exec) (hb : c.code = M.2.2.1) (hml : c.maxLocals = nL) (hown : s.vm.findClass (am_R M.1) = some m.cls) (hts : ∀ w ∈ am_TG, w.before args s = true) (hin : M.2.1.name = "<init>" → meth.name = "<init>")
    (hK : va_K D vwCl (am_tys κ) s) (hX : am_X ρ sc A s s.heap) (hA : ∀ y, s.heap.size ≤ y → A y) (hfr : 1 ≤ R.frames) (hlo : 60 ≤ R.locals)
    (hP : va_P D vwCl (am_ws κ ρ h) H) (hD : va_D A (am_ws κ ρ h)) (hS : va_S A s.heap H locs) (okh : am_okh h) (okS : am_oks h.1.length S) (hsz : ls.size = nL)
    (hc1 : cells + N0 = h.1.length) (hs1 : slots + S0 = am_sm h.1) (hrc : qq.2.2.2.1.length ≤ R.cells + N0) (hrs : am_sm qq.2.2.2.1 ≤ R.slots + S0) (hmil : qq.2.2.2.1.length < 1000000)
    (kk : am_KK p l e R s m args below meth c Q κ D A ρ h qq N0 S0 ls)
    (hd : decode M.2.2.1 pc = .ok (.invokestatic x, len)) (hl : am_lok (.invokestatic x) len = true) (hq : am_he (some sc) M (.invokestatic x) pc L S h = some qq) : W p l e R s m args below meth c H locs cells slots Q (F0 m pc ls (S.map (am_v ρ))) := by
  obtain rfl : len = _ := by simpa [am_lok, am_len] using hl
  simp only [am_he] at hq
  split at hq
  · rename_i kd hmk
    obtain ⟨hw, hdz⟩ := am_mK _ (am_mk_in hmk)
    have hd3 : kd < 3 := of_decide_eq_true hdz
    have hcl : cells ≤ R.cells ∧ slots ≤ R.slots := by
      unfold am_ma at hq
      split at hq
      · split at hq
        · split at hq
          · cases hq; dsimp only at hrc hrs; omega
          · cases hq
        · cases hq
      · split at hq
        · split at hq
          · split at hq
            · cases hq; dsimp only at hrc hrs; omega
            · cases hq; dsimp only at hrc hrs; omega
          · cases hq
        · cases hq
    have h3 : kd = 0 ∨ kd = 1 ∨ kd = 2 := by omega
    unfold am_ma at hq
    rcases h3 with rfl | rfl | rfl
    · rw [if_neg (by omega)] at hq
      split at hq
      · rename_i yy xx S1
        split at hq
        · rename_i hsum0
          rw [if_pos rfl] at hq
          cases hq
          have hsum : ((S1.map (am_v ρ)).map fun v => v.category).sum ≤ 8 := by rw [am_v_sum]; exact hsum0
          simp only [am_mW] at hw
          have okS1 := (am_oks_cons.mp (am_oks_cons.mp okS).2).2
          exact va_mmax hx hb (by rw [hml, hsz]) hown (hts _ (hw _ List.mem_cons_self)) (hts _ (hw _ (List.mem_cons_of_mem _ List.mem_cons_self))) (hts _ (hw _ (List.mem_cons_of_mem _ (List.mem_cons_of_mem _ List.mem_cons_self)))) (hts _ (hw _ (List.mem_cons_of_mem _ (List.mem_cons_of_mem _ (List.mem_cons_of_mem _ List.mem_cons_self))))) hfr (by omega) hcl.1 hcl.2 hd
            (kk ρ H locs cells slots (am_ag_rf _ _) hP hD hS okh (am_oks_cons.mpr ⟨trivial, okS1⟩) (Nat.le_refl _) hc1 hs1)
        · cases hq
      · cases hq
    · rw [if_neg (by omega)] at hq
      split at hq
      · rename_i yy xx S1
        split at hq
        · rename_i hsum0
          rw [if_neg (by omega)] at hq
          cases hq
          have hsum : ((S1.map (am_v ρ)).map fun v => v.category).sum ≤ 8 := by rw [am_v_sum]; exact hsum0
          simp only [am_mW] at hw
          have okS1 := (am_oks_cons.mp (am_oks_cons.mp okS).2).2
          exact va_mmin hx hb (by rw [hml, hsz]) hown (hts _ (hw _ List.mem_cons_self)) (hts _ (hw _ (List.mem_cons_of_mem _ List.mem_cons_self))) (hts _ (hw _ (List.mem_cons_of_mem _ (List.mem_cons_of_mem _ List.mem_cons_self)))) (hts _ (hw _ (List.mem_cons_of_mem _ (List.mem_cons_of_mem _ (List.mem_cons_of_mem _ List.mem_cons_self))))) hfr (by omega) hcl.1 hcl.2 hd
            (kk ρ H locs cells slots (am_ag_rf _ _) hP hD hS okh (am_oks_cons.mpr ⟨trivial, okS1⟩) (Nat.le_refl _) hc1 hs1)
        · cases hq
      · cases hq
    · rw [if_pos rfl] at hq
      split at hq
      · rename_i xx S1
        split at hq
        · rename_i hsum0
          cases hq
          have hsum : ((S1.map (am_v ρ)).map fun v => v.category).sum ≤ 8 := by rw [am_v_sum]; exact hsum0
          simp only [am_mW] at hw
          have okS1 := (am_oks_cons.mp okS).2
          exact va_mabs hx hb (by rw [hml, hsz]) hown (hts _ (hw _ List.mem_cons_self)) (hts _ (hw _ (List.mem_cons_of_mem _ List.mem_cons_self))) (hts _ (hw _ (List.mem_cons_of_mem _ (List.mem_cons_of_mem _ List.mem_cons_self)))) (hts _ (hw _ (List.mem_cons_of_mem _ (List.mem_cons_of_mem _ (List.mem_cons_of_mem _ List.mem_cons_self))))) hfr (by omega) hcl.1 hcl.2 hd
            (kk ρ H locs cells slots (am_ag_rf _ _) hP hD hS okh (am_oks_cons.mpr ⟨trivial, okS1⟩) (Nat.le_refl _) hc1 hs1)
        · cases hq
      · cases hq
  · split at hq
    · rename_i n dp bz sp az S1
      split at hq
      · rename_i hcd
        split at hq
        · rename_i t0 n0 t1 n1 ha hbz
          split at hq
          · rename_i hc6
            obtain ⟨rfl, rfl, g1, g2, g3, g4, g5⟩ := hc6
            cases hq
            obtain ⟨hw, -⟩ := am_yK _ (am_ac_in hcd.1)
            simp only [am_yW] at hw
            have hsum : ((S1.map (am_v ρ)).map fun v => v.category).sum ≤ 8 := by rw [am_v_sum]; exact hcd.2
            have okS1 := (am_oks_cons.mp (am_oks_cons.mp (am_oks_cons.mp (am_oks_cons.mp (am_oks_cons.mp okS).2).2).2).2).2
            have hg := am_ws_get (κ := κ) (ρ := ρ) ha
            rw [am_en_i] at hg
            have hgb := am_ws_get (κ := κ) (ρ := ρ) hbz
            rw [am_en_i] at hgb
            have hset : (am_ws κ ρ h).set bz (ρ bz, .inl (κ 20, n1, .inl (va_cpy (h.2.2.1 az) (h.2.2.1 bz) sp.toNatClampNeg dp.toNatClampNeg n.toNatClampNeg))) = am_ws κ ρ (h.1, h.2.1, va_up h.2.2.1 bz (va_cpy (h.2.2.1 az) (h.2.2.1 bz) sp.toNatClampNeg dp.toNatClampNeg n.toNatClampNeg), h.2.2.2) := by
              rw [← am_ws_set (h := h) (h' := (h.1, h.2.1, va_up h.2.2.1 bz (va_cpy (h.2.2.1 az) (h.2.2.1 bz) sp.toNatClampNeg dp.toNatClampNeg n.toNatClampNeg), h.2.2.2)) hbz rfl (fun j tw hj => am_en_eq rfl (by simp only [va_up, if_neg hj]) rfl)]
              rw [am_en_i]
              simp only [va_up, ↓reduceIte]
            refine va_copyi hx hb (by rw [hml, hsz]) hown (hts _ (hw _ List.mem_cons_self)) (hts _ (hw _ (List.mem_cons_of_mem _ List.mem_cons_self))) (hts _ (hw _ (List.mem_cons_of_mem _ (List.mem_cons_of_mem _ List.mem_cons_self)))) (hts _ (hw _ (List.mem_cons_of_mem _ (List.mem_cons_of_mem _ (List.mem_cons_of_mem _ List.mem_cons_self))))) hK hP hD hS az bz 0 0 (ty := .int) hg hgb rfl rfl rfl g1 g2 g3 g4 g5 (fun _ _ => rfl) hfr (Nat.le_trans (Nat.add_le_add_right hsum _) (Nat.le_trans (Nat.le_of_ble_eq_true rfl) hlo)) hd (fun H1 locs1 hP1 hD1 hS1 => ?_)
            rw [hset] at hP1 hD1
            exact kk ρ H1 locs1 cells slots (am_ag_rf _ _) hP1 hD1 hS1 okh okS1 (Nat.le_refl _) hc1 hs1
          · cases hq
        · cases hq
      · cases hq
    · cases hq
set_option maxHeartbeats 400000 in
theorem am_H_mna {x dd : Nat} {sc : Nat × (Nat → Int32)} {κ : Nat → ClassId} {D : va_G} {A : Nat → Prop} {ρ : Nat → Nat} {M : am_Me} {len pc : Nat} {L S : List Value} {h : am_H} {qq : am_C} {N0 S0 nL : Nat}
    (hx : p.tables.exec = Jvm.exec) (hb : c.code = M.2.2.1) (hml : c.maxLocals = nL) (hown : s.vm.findClass (am_R M.1) = some m.cls) (hts : ∀ w ∈ am_TG, w.before args s = true) (hin : M.2.1.name = "<init>" → meth.name = "<init>")
    (hK : va_K D vwCl (am_tys κ) s) (hX : am_X ρ sc A s s.heap) (hA : ∀ y, s.heap.size ≤ y → A y) (hfr : 1 ≤ R.frames) (hlo : 60 ≤ R.locals)
    (hP : va_P D vwCl (am_ws κ ρ h) H) (hD : va_D A (am_ws κ ρ h)) (hS : va_S A s.heap H locs) (okh : am_okh h) (okS : am_oks h.1.length S) (hsz : ls.size = nL)
    (hc1 : cells + N0 = h.1.length) (hs1 : slots + S0 = am_sm h.1) (hrc : qq.2.2.2.1.length ≤ R.cells + N0) (hrs : am_sm qq.2.2.2.1 ≤ R.slots + S0) (hmil : qq.2.2.2.1.length < 1000000)
    (kk : am_KK p l e R s m args below meth c Q κ D A ρ h qq N0 S0 ls)
    (hd : decode M.2.2.1 pc = .ok (.multianewarray x dd, len)) (hl : am_lok (.multianewarray x dd) len = true) (hq : am_he (some sc) M (.multianewarray x dd) pc L S h = some qq) : W p l e R s m args below meth c H locs cells slots Q (F0 m pc ls (S.map (am_v ρ))) := by
  obtain rfl : len = _ := by simpa [am_lok, am_len] using hl
  simp only [am_he] at hq
  split at hq
  · rename_i k n S1
    split at hq
    · rename_i hcd
      obtain ⟨rfl, hcn, hck⟩ := hcd
      split at hq
      · rename_i t0 hna
        split at hq
        · rename_i ht0
          cases hq
          obtain ⟨hw, -⟩ := am_aK _ (am_na_in hna)
          have okS1 := (am_oks_cons.mp (am_oks_cons.mp okS).2).2
          have hn : ¬ n < 0 := fun z => hcn (Or.inl z)
          have hn2 : n.toNatClampNeg ≤ 1000 := Nat.le_of_not_lt fun z => hcn (Or.inr z)
          have hk : ¬ k < 0 := fun z => hck (Or.inl z)
          have hk2 : k.toNatClampNeg ≤ 1000 := Nat.le_of_not_lt fun z => hck (Or.inr z)
          have e1 := am_mna_len h t0 n.toNatClampNeg (t0 - 3) k.toNatClampNeg
          have e2 := am_sm_mna h t0 n.toNatClampNeg (t0 - 3) k.toNatClampNeg
          dsimp only at hrc hrs hmil
          rw [e1] at hrc hmil
          rw [e2] at hrs
          have hend : ∀ (H1 : Heap), H1.size = H.size + 1 + n.toNatClampNeg → H1[H.size]? = some (vp_cell (κ t0) (n.toNatClampNeg, .inr (.inr (.inr (.inr (fun j => if j < n.toNatClampNeg then some (H.size + 1 + j) else none)))))) → (∀ j, j < n.toNatClampNeg → H1[H.size + 1 + j]? = some (arrV (κ (t0 - 3)) k.toNatClampNeg (fun _ => if t0 - 3 = 20 then .int 0 else .long 0))) → (∀ y, y < H.size → H1[y]? = H[y]?) →
              W p l e R s m args below meth c H1 (locs ++ (List.range n.toNatClampNeg).map fun j => ⟨H.size, j⟩) (cells + (1 + n.toNatClampNeg)) (slots + (n.toNatClampNeg + n.toNatClampNeg * k.toNatClampNeg)) Q (F0 m (pc + 4) ls (.ref H.size :: S1.map (am_v ρ))) := by
            intro H1 z1 g1 g2 g3
            obtain ⟨ρ', ag, r0, hP1, hD1⟩ := am_mna_P hP hD okh (fun y hy => hA y (Nat.le_trans hS.1 hy)) (by omega : (t0 = 23 ∧ t0 - 3 = 20) ∨ (t0 = 24 ∧ t0 - 3 = 21)) (by omega) z1 g1 g2 g3
            have hS1 : va_S A s.heap H1 (locs ++ (List.range n.toNatClampNeg).map fun j => (⟨H.size, j⟩ : Loc)) := by
              refine ⟨Nat.le_trans hS.1 (by omega), fun q q1 q2 => (g3 q (Nat.lt_of_lt_of_le q1 hS.1)).trans (hS.2.1 q q1 q2), fun x hx => ?_⟩
              rcases List.mem_append.mp hx with hx | hx
              · exact hS.2.2 x hx
              · obtain ⟨j, -, rfl⟩ := List.mem_map.mp hx
                exact hA _ hS.1
            have k1 := kk ρ' H1 (locs ++ (List.range n.toNatClampNeg).map fun j => (⟨H.size, j⟩ : Loc)) (cells + (1 + n.toNatClampNeg)) (slots + (n.toNatClampNeg + n.toNatClampNeg * k.toNatClampNeg)) ag hP1 hD1 hS1 (am_okh_mna okh) (am_oks_cons.mpr ⟨Or.inl (by rw [e1]; exact Nat.lt_add_of_pos_right (by omega)), am_oks_le okS1 (by rw [e1]; omega)⟩) (by rw [e1]; omega) (by dsimp only; rw [e1]; omega) (by dsimp only; rw [e2]; omega)
            dsimp only at k1
            rw [List.map_cons, am_vs_ag ag okS1] at k1
            have e3 : am_v ρ' (.ref h.1.length) = .ref H.size := by simp only [am_v, r0]
            rw [e3] at k1
            exact k1
          have hmul : n.toNatClampNeg * k.toNatClampNeg ≤ n.toNatClampNeg * k.toNatClampNeg := Nat.le_refl _
          rcases ht0 with rfl | rfl
          · have fO : s.vm.findClass ("[" ++ (FieldType.array .int).toString) = some (κ 23) := (hK.2 3 (κ 23, .array .int) rfl).2
            have fI : s.vm.findClass (FieldType.array .int).toString = some (κ 20) := (hK.2 0 (κ 20, .int) rfl).2
            refine am_mna_row (ty := .int) hx hb hown (hts _ (hw _ List.mem_cons_self)) (hX.2.2.2.2.2.1 (.arrayOver (.array .int)) (by simp [am_ovL])) fI (hK.2 0 (κ 20, .int) rfl).1 hn hk (by omega) (by show k.toNatClampNeg * 4 ≤ _; omega) (by omega) rfl rfl (by omega) (by omega) hd (fun cO H1 z0 z1 g1 g2 g3 => ?_)
            cases z0.symm.trans fO
            exact hend H1 z1 g1 g2 g3
          · have fO : s.vm.findClass ("[" ++ (FieldType.array .long).toString) = some (κ 24) := (hK.2 4 (κ 24, .array .long) rfl).2
            have fI : s.vm.findClass (FieldType.array .long).toString = some (κ 21) := (hK.2 1 (κ 21, .long) rfl).2
            refine am_mna_row (ty := .long) hx hb hown (hts _ (hw _ List.mem_cons_self)) (hX.2.2.2.2.2.1 (.arrayOver (.array .long)) (by simp [am_ovL])) fI (hK.2 1 (κ 21, .long) rfl).1 hn hk (by omega) (by show k.toNatClampNeg * 8 ≤ _; omega) (by omega) rfl rfl (by omega) (by omega) hd (fun cO H1 z0 z1 g1 g2 g3 => ?_)
            cases z0.symm.trans fO
            exact hend H1 z1 g1 g2 g3
        · cases hq
      · cases hq
    · cases hq
  · cases hq
end HE
