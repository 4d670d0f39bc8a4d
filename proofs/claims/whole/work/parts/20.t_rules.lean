/-! one-instruction rows of the abstract machine, over the fixed shapes -/
abbrev am_S : Type := (Nat → Nat → Int32) × (Nat → Nat → Int64)
def am_sI (s : am_S) (k j : Nat) (v : Int32) : am_S := (va_up s.1 k (upd (s.1 k) j v), s.2)
def am_sL (s : am_S) (k j : Nat) (v : Int64) : am_S := (s.1, va_up s.2 k (vp_updL (s.2 k) j v))
def am_sC (s : am_S) (a b sp dp n : Nat) : am_S := (va_up s.1 b (va_cpy (s.1 a) (s.1 b) sp dp n), s.2)
abbrev am_in (i : Int32) (n : Nat) : Prop := ¬ (i < 0 ∨ n ≤ i.toNatClampNeg)
theorem am_guard {α : Type} {p : Prop} {inst : Decidable p} {x : Option α} {r : α} (h : (if p then x else none) = some r) : p ∧ x = some r := by
  by_cases hp : p
  · rw [if_pos hp] at h; exact ⟨hp, h⟩
  · rw [if_neg hp] at h; cases h
theorem am_bnd {α β : Type} {x : Option α} {f : α → Option β} {r : β} (h : x.bind f = some r) : ∃ q, x = some q ∧ f q = some r := by
  cases x with
  | none => cases h
  | some q => exact ⟨q, rfl, h⟩
theorem am_Q_le {sc : Option (Nat × (Nat → Int32))} {d e : Nat} {M : am_Me} {c : am_C} {r : am_R1} (h : am_Q sc d M c r) (hd : d ≤ e) : am_Q sc e M c r := by
  obtain ⟨n, hn⟩ := h
  refine ⟨n, ?_⟩
  induction hd with
  | refl => exact hn
  | step _ ih => exact am_run_d _ _ _ _ _ ih
section AQ2
variable {sc : Option (Nat × (Nat → Int32))} {d pc : Nat} {M : am_Me} {L S : List Value} {h : am_H} {r : am_R1}
theorem aq_iconst {n : Int} {v : Int32} (hd : decode M.2.2.1 pc = .ok (.iconst n, 1)) (hv : Int32.ofInt n = v) (k : am_Q sc d M (pc + 1, L, .int v :: S, h) r) : am_Q sc d M (pc, L, S, h) r := by
  subst hv; exact am_Qp hd rfl rfl k
theorem aq_bipush {n : Int} {v : Int32} (hd : decode M.2.2.1 pc = .ok (.bipush n, 2)) (hv : (Int8.ofInt n).toInt32 = v) (k : am_Q sc d M (pc + 2, L, .int v :: S, h) r) : am_Q sc d M (pc, L, S, h) r := by
  subst hv; exact am_Qp hd rfl rfl k
theorem aq_sipush {n : Int} {v : Int32} (hd : decode M.2.2.1 pc = .ok (.sipush n, 3)) (hv : (Int16.ofInt n).toInt32 = v) (k : am_Q sc d M (pc + 3, L, .int v :: S, h) r) : am_Q sc d M (pc, L, S, h) r := by
  subst hv; exact am_Qp hd rfl rfl k
theorem aq_lconst {n : Fin 2} {v : Int64} (hd : decode M.2.2.1 pc = .ok (.lconst n, 1)) (hv : Int64.ofNat (n : Nat) = v) (k : am_Q sc d M (pc + 1, L, .long v :: S, h) r) : am_Q sc d M (pc, L, S, h) r := by
  subst hv; exact am_Qp hd rfl rfl k
theorem aq_ldcS {x q : Nat} (hd : decode M.2.2.1 pc = .ok (.ldc x, 2)) (hv : am_ci M.1 x = none ∧ am_cs M.1 x = some q) (k : am_Q sc d M (pc + 2, L, .ref (1000010 + q) :: S, h) r) : am_Q sc d M (pc, L, S, h) r :=
  am_Qp (q := (pc + 2, L, .ref (1000010 + q) :: S)) hd rfl (by simp only [am_pu, hv.1, hv.2, Option.map_some]) k
theorem aq_ldc_w {x : Nat} {v : Int32} (hd : decode M.2.2.1 pc = .ok (.ldc_w x, 3)) (hv : am_ci M.1 x = some v) (k : am_Q sc d M (pc + 3, L, .int v :: S, h) r) : am_Q sc d M (pc, L, S, h) r :=
  am_Qp (q := (pc + 3, L, .int v :: S)) hd rfl (by simp only [am_pu, hv, Option.map_some]) k
theorem aq_ldc {x : Nat} {v : Int32} (hd : decode M.2.2.1 pc = .ok (.ldc x, 2)) (hv : am_ci M.1 x = some v) (k : am_Q sc d M (pc + 2, L, .int v :: S, h) r) : am_Q sc d M (pc, L, S, h) r :=
  am_Qp (q := (pc + 2, L, .int v :: S)) hd rfl (by simp only [am_pu, hv]) k
theorem aq_ldc2 {x : Nat} {v : Int64} (hd : decode M.2.2.1 pc = .ok (.ldc2_w x, 3)) (hv : am_cl M.1 x = some v) (k : am_Q sc d M (pc + 3, L, .long v :: S, h) r) : am_Q sc d M (pc, L, S, h) r :=
  am_Qp (q := (pc + 3, L, .long v :: S)) hd rfl (by simp only [am_pu, hv, Option.map_some]) k
theorem aq_iload_n {n : Fin 4} {x : Int32} (hd : decode M.2.2.1 pc = .ok (.iload_n n, 1)) (hl : L[(n : Nat)]? = some (.int x)) (k : am_Q sc d M (pc + 1, L, .int x :: S, h) r) : am_Q sc d M (pc, L, S, h) r :=
  am_Qp (q := (pc + 1, L, .int x :: S)) hd rfl (by simp only [am_pu, am_ild, hl]) k
theorem aq_iload {n : Nat} {x : Int32} (hd : decode M.2.2.1 pc = .ok (.iload n, 2)) (hl : L[n]? = some (.int x)) (k : am_Q sc d M (pc + 2, L, .int x :: S, h) r) : am_Q sc d M (pc, L, S, h) r :=
  am_Qp (q := (pc + 2, L, .int x :: S)) hd rfl (by simp only [am_pu, am_ild, hl]) k
theorem aq_lload_n {n : Fin 4} {x : Int64} (hd : decode M.2.2.1 pc = .ok (.lload_n n, 1)) (hl : L[(n : Nat)]? = some (.long x)) (k : am_Q sc d M (pc + 1, L, .long x :: S, h) r) : am_Q sc d M (pc, L, S, h) r :=
  am_Qp (q := (pc + 1, L, .long x :: S)) hd rfl (by simp only [am_pu, am_lld, hl]) k
theorem aq_lload {n : Nat} {x : Int64} (hd : decode M.2.2.1 pc = .ok (.lload n, 2)) (hl : L[n]? = some (.long x)) (k : am_Q sc d M (pc + 2, L, .long x :: S, h) r) : am_Q sc d M (pc, L, S, h) r :=
  am_Qp (q := (pc + 2, L, .long x :: S)) hd rfl (by simp only [am_pu, am_lld, hl]) k
theorem aq_aload_n {n : Fin 4} {x : Nat} (hd : decode M.2.2.1 pc = .ok (.aload_n n, 1)) (hl : L[(n : Nat)]? = some (.ref x)) (k : am_Q sc d M (pc + 1, L, .ref x :: S, h) r) : am_Q sc d M (pc, L, S, h) r :=
  am_Qp (q := (pc + 1, L, .ref x :: S)) hd rfl (by simp only [am_pu, am_ald, hl]) k
theorem aq_aload {n : Nat} {x : Nat} (hd : decode M.2.2.1 pc = .ok (.aload n, 2)) (hl : L[n]? = some (.ref x)) (k : am_Q sc d M (pc + 2, L, .ref x :: S, h) r) : am_Q sc d M (pc, L, S, h) r :=
  am_Qp (q := (pc + 2, L, .ref x :: S)) hd rfl (by simp only [am_pu, am_ald, hl]) k
theorem aq_istore_n {n : Fin 4} {x : Int32} {L1 : List Value} (hd : decode M.2.2.1 pc = .ok (.istore_n n, 1)) (hs : am_st L (n : Nat) (.int x) = some L1) (k : am_Q sc d M (pc + 1, L1, S, h) r) : am_Q sc d M (pc, L, .int x :: S, h) r :=
  am_Qp (q := (pc + 1, L1, S)) hd rfl (by simp only [am_pu, am_ist, hs, Option.map_some]) k
theorem aq_istore {n : Nat} {x : Int32} {L1 : List Value} (hd : decode M.2.2.1 pc = .ok (.istore n, 2)) (hs : am_st L n (.int x) = some L1) (k : am_Q sc d M (pc + 2, L1, S, h) r) : am_Q sc d M (pc, L, .int x :: S, h) r :=
  am_Qp (q := (pc + 2, L1, S)) hd rfl (by simp only [am_pu, am_ist, hs, Option.map_some]) k
theorem aq_astore_n {n : Fin 4} {x : Nat} {L1 : List Value} (hd : decode M.2.2.1 pc = .ok (.astore_n n, 1)) (hs : am_st L (n : Nat) (.ref x) = some L1) (k : am_Q sc d M (pc + 1, L1, S, h) r) : am_Q sc d M (pc, L, .ref x :: S, h) r :=
  am_Qp (q := (pc + 1, L1, S)) hd rfl (by simp only [am_pu, am_ast, hs, Option.map_some]) k
theorem aq_astore {n : Nat} {x : Nat} {L1 : List Value} (hd : decode M.2.2.1 pc = .ok (.astore n, 2)) (hs : am_st L n (.ref x) = some L1) (k : am_Q sc d M (pc + 2, L1, S, h) r) : am_Q sc d M (pc, L, .ref x :: S, h) r :=
  am_Qp (q := (pc + 2, L1, S)) hd rfl (by simp only [am_pu, am_ast, hs, Option.map_some]) k
theorem aq_lstore_n {n : Fin 4} {x : Int64} {L1 : List Value} (hd : decode M.2.2.1 pc = .ok (.lstore_n n, 1)) (hs : am_st2 L (n : Nat) (.long x) = some L1) (k : am_Q sc d M (pc + 1, L1, S, h) r) : am_Q sc d M (pc, L, .long x :: S, h) r :=
  am_Qp (q := (pc + 1, L1, S)) hd rfl (by simp only [am_pu, am_lst, hs, Option.map_some]) k
theorem aq_iinc {n : Nat} {a : Int} {x v : Int32} {L1 : List Value} (hd : decode M.2.2.1 pc = .ok (.iinc n a, 3)) (hl : L[n]? = some (.int x)) (hv : Int32.ofInt a = v) (hs : am_st L n (.int (x + v)) = some L1) (k : am_Q sc d M (pc + 3, L1, S, h) r) : am_Q sc d M (pc, L, S, h) r := by
  subst hv
  exact am_Qp (q := (pc + 3, L1, S)) hd rfl (by simp only [am_pu, hl, hs, Option.map_some]) k
theorem aq_iadd {x y : Int32} (hd : decode M.2.2.1 pc = .ok (.iadd, 1)) (k : am_Q sc d M (pc + 1, L, .int (x + y) :: S, h) r) : am_Q sc d M (pc, L, .int y :: .int x :: S, h) r := am_Qp hd rfl rfl k
theorem aq_isub {x y : Int32} (hd : decode M.2.2.1 pc = .ok (.isub, 1)) (k : am_Q sc d M (pc + 1, L, .int (x - y) :: S, h) r) : am_Q sc d M (pc, L, .int y :: .int x :: S, h) r := am_Qp hd rfl rfl k
theorem aq_imul {x y : Int32} (hd : decode M.2.2.1 pc = .ok (.imul, 1)) (k : am_Q sc d M (pc + 1, L, .int (x * y) :: S, h) r) : am_Q sc d M (pc, L, .int y :: .int x :: S, h) r := am_Qp hd rfl rfl k
theorem aq_iand {x y : Int32} (hd : decode M.2.2.1 pc = .ok (.iand, 1)) (k : am_Q sc d M (pc + 1, L, .int (x &&& y) :: S, h) r) : am_Q sc d M (pc, L, .int y :: .int x :: S, h) r := am_Qp hd rfl rfl k
theorem aq_ior {x y : Int32} (hd : decode M.2.2.1 pc = .ok (.ior, 1)) (k : am_Q sc d M (pc + 1, L, .int (x ||| y) :: S, h) r) : am_Q sc d M (pc, L, .int y :: .int x :: S, h) r := am_Qp hd rfl rfl k
theorem aq_ixor {x y : Int32} (hd : decode M.2.2.1 pc = .ok (.ixor, 1)) (k : am_Q sc d M (pc + 1, L, .int (x ^^^ y) :: S, h) r) : am_Q sc d M (pc, L, .int y :: .int x :: S, h) r := am_Qp hd rfl rfl k
theorem aq_ishl {x y : Int32} (hd : decode M.2.2.1 pc = .ok (.ishl, 1)) (k : am_Q sc d M (pc + 1, L, .int (x <<< (y &&& 31)) :: S, h) r) : am_Q sc d M (pc, L, .int y :: .int x :: S, h) r := am_Qp hd rfl rfl k
theorem aq_ishr {x y : Int32} (hd : decode M.2.2.1 pc = .ok (.ishr, 1)) (k : am_Q sc d M (pc + 1, L, .int (x >>> (y &&& 31)) :: S, h) r) : am_Q sc d M (pc, L, .int y :: .int x :: S, h) r := am_Qp hd rfl rfl k
theorem aq_iushr {x y : Int32} (hd : decode M.2.2.1 pc = .ok (.iushr, 1)) (k : am_Q sc d M (pc + 1, L, .int (x.toUInt32 >>> (y.toUInt32 &&& Int32.toUInt32 31)).toInt32 :: S, h) r) : am_Q sc d M (pc, L, .int y :: .int x :: S, h) r := am_Qp hd rfl rfl k
theorem aq_idiv {x y : Int32} (hd : decode M.2.2.1 pc = .ok (.idiv, 1)) (hy : ¬ y = 0) (k : am_Q sc d M (pc + 1, L, .int (x / y) :: S, h) r) : am_Q sc d M (pc, L, .int y :: .int x :: S, h) r := am_Qp (q := (pc + 1, L, .int (x / y) :: S)) hd rfl (by simp only [am_pu, if_neg hy]) k
theorem aq_irem {x y : Int32} (hd : decode M.2.2.1 pc = .ok (.irem, 1)) (hy : ¬ y = 0) (k : am_Q sc d M (pc + 1, L, .int (x - x / y * y) :: S, h) r) : am_Q sc d M (pc, L, .int y :: .int x :: S, h) r := am_Qp (q := (pc + 1, L, .int (x - x / y * y) :: S)) hd rfl (by simp only [am_pu, if_neg hy]) k
theorem aq_ineg {x : Int32} (hd : decode M.2.2.1 pc = .ok (.ineg, 1)) (k : am_Q sc d M (pc + 1, L, .int (-x) :: S, h) r) : am_Q sc d M (pc, L, .int x :: S, h) r := am_Qp hd rfl rfl k
theorem aq_i2l {x : Int32} (hd : decode M.2.2.1 pc = .ok (.i2l, 1)) (k : am_Q sc d M (pc + 1, L, .long x.toInt64 :: S, h) r) : am_Q sc d M (pc, L, .int x :: S, h) r := am_Qp hd rfl rfl k
theorem aq_l2i {x : Int64} (hd : decode M.2.2.1 pc = .ok (.l2i, 1)) (k : am_Q sc d M (pc + 1, L, .int x.toInt32 :: S, h) r) : am_Q sc d M (pc, L, .long x :: S, h) r := am_Qp hd rfl rfl k
theorem aq_i2b {x : Int32} (hd : decode M.2.2.1 pc = .ok (.i2b, 1)) (k : am_Q sc d M (pc + 1, L, .int x.toInt8.toInt32 :: S, h) r) : am_Q sc d M (pc, L, .int x :: S, h) r := am_Qp hd rfl rfl k
theorem aq_i2s {x : Int32} (hd : decode M.2.2.1 pc = .ok (.i2s, 1)) (k : am_Q sc d M (pc + 1, L, .int x.toInt16.toInt32 :: S, h) r) : am_Q sc d M (pc, L, .int x :: S, h) r := am_Qp hd rfl rfl k
theorem aq_i2c {x : Int32} (hd : decode M.2.2.1 pc = .ok (.i2c, 1)) (k : am_Q sc d M (pc + 1, L, .int (x.toUInt32 % 65536).toInt32 :: S, h) r) : am_Q sc d M (pc, L, .int x :: S, h) r := am_Qp hd rfl rfl k
theorem aq_ladd {x y : Int64} (hd : decode M.2.2.1 pc = .ok (.ladd, 1)) (k : am_Q sc d M (pc + 1, L, .long (x + y) :: S, h) r) : am_Q sc d M (pc, L, .long y :: .long x :: S, h) r := am_Qp hd rfl rfl k
theorem aq_lmul {x y : Int64} (hd : decode M.2.2.1 pc = .ok (.lmul, 1)) (k : am_Q sc d M (pc + 1, L, .long (x * y) :: S, h) r) : am_Q sc d M (pc, L, .long y :: .long x :: S, h) r := am_Qp hd rfl rfl k
theorem aq_land {x y : Int64} (hd : decode M.2.2.1 pc = .ok (.land, 1)) (k : am_Q sc d M (pc + 1, L, .long (x &&& y) :: S, h) r) : am_Q sc d M (pc, L, .long y :: .long x :: S, h) r := am_Qp hd rfl rfl k
theorem aq_lor {x y : Int64} (hd : decode M.2.2.1 pc = .ok (.lor, 1)) (k : am_Q sc d M (pc + 1, L, .long (x ||| y) :: S, h) r) : am_Q sc d M (pc, L, .long y :: .long x :: S, h) r := am_Qp hd rfl rfl k
theorem aq_lcmp {x y : Int64} (hd : decode M.2.2.1 pc = .ok (.lcmp, 1)) (k : am_Q sc d M (pc + 1, L, .int (lg_cmp x y) :: S, h) r) : am_Q sc d M (pc, L, .long y :: .long x :: S, h) r := am_Qp hd rfl rfl k
theorem aq_lshl {x : Int64} {y : Int32} (hd : decode M.2.2.1 pc = .ok (.lshl, 1)) (k : am_Q sc d M (pc + 1, L, .long (x <<< (y.toInt64 &&& 63)) :: S, h) r) : am_Q sc d M (pc, L, .int y :: .long x :: S, h) r := am_Qp hd rfl rfl k
theorem aq_lshr {x : Int64} {y : Int32} (hd : decode M.2.2.1 pc = .ok (.lshr, 1)) (k : am_Q sc d M (pc + 1, L, .long (x >>> (y.toInt64 &&& 63)) :: S, h) r) : am_Q sc d M (pc, L, .int y :: .long x :: S, h) r := am_Qp hd rfl rfl k
theorem aq_lushr {x : Int64} {y : Int32} (hd : decode M.2.2.1 pc = .ok (.lushr, 1)) (k : am_Q sc d M (pc + 1, L, .long (x.toUInt64 >>> (y.toInt64.toUInt64 &&& Int64.toUInt64 63)).toInt64 :: S, h) r) : am_Q sc d M (pc, L, .int y :: .long x :: S, h) r := am_Qp hd rfl rfl k
theorem aq_dup {v : Value} (hd : decode M.2.2.1 pc = .ok (.dup, 1)) (hv : v.category = 1) (k : am_Q sc d M (pc + 1, L, v :: v :: S, h) r) : am_Q sc d M (pc, L, v :: S, h) r := am_Qp (q := (pc + 1, L, v :: v :: S)) hd rfl (by simp only [am_pu, if_pos hv]) k
theorem aq_dup2 {v w : Value} (hd : decode M.2.2.1 pc = .ok (.dup2, 1)) (hv : v.category = 1) (hw : w.category = 1) (k : am_Q sc d M (pc + 1, L, v :: w :: v :: w :: S, h) r) : am_Q sc d M (pc, L, v :: w :: S, h) r := am_Qp (q := (pc + 1, L, v :: w :: v :: w :: S)) hd rfl (by simp only [am_pu, if_pos (And.intro hv hw)]) k
theorem aq_pop {v : Value} (hd : decode M.2.2.1 pc = .ok (.pop, 1)) (hv : v.category = 1) (k : am_Q sc d M (pc + 1, L, S, h) r) : am_Q sc d M (pc, L, v :: S, h) r := am_Qp (q := (pc + 1, L, S)) hd rfl (by simp only [am_pu, if_pos hv]) k
theorem aq_goto {off : Int} {t : Nat} (hd : decode M.2.2.1 pc = .ok (.goto off, 3)) (ht : (pc : Int) + off = (t : Int)) (k : am_Q sc d M (t, L, S, h) r) : am_Q sc d M (pc, L, S, h) r := am_Qp (q := (t, L, S)) hd rfl (by simp only [am_pu, am_tg, ht, Int.toNat_natCast]; rw [if_pos (by omega)]) k
/-- a branch, taken or not -/
theorem aq_ifT {cz : Jvm.ClassFile.Cond} {off : Int} {x : Int32} {t : Nat} (hd : decode M.2.2.1 pc = .ok (.ifCond cz off, 3)) (ht : (pc : Int) + off = (t : Int)) (hc : am_cmp cz x 0 = true) (k : am_Q sc d M (t, L, S, h) r) : am_Q sc d M (pc, L, .int x :: S, h) r := am_Qp (q := (t, L, S)) hd rfl (by simp only [am_pu, am_br, hc, am_tg, ht, Int.toNat_natCast, if_true]; rw [if_pos (by omega)]) k
theorem aq_ifF {cz : Jvm.ClassFile.Cond} {off : Int} {x : Int32} {t : Nat} (hd : decode M.2.2.1 pc = .ok (.ifCond cz off, 3)) (ht : (pc : Int) + off = (t : Int)) (hc : am_cmp cz x 0 = false) (k : am_Q sc d M (pc + 3, L, S, h) r) : am_Q sc d M (pc, L, .int x :: S, h) r := am_Qp (q := (pc + 3, L, S)) hd rfl (by simp only [am_pu, am_br, hc, ht]; rw [if_pos (by omega)]; rfl) k
theorem aq_icT {cz : Jvm.ClassFile.Cond} {off : Int} {x y : Int32} {t : Nat} (hd : decode M.2.2.1 pc = .ok (.if_icmp cz off, 3)) (ht : (pc : Int) + off = (t : Int)) (hc : am_cmp cz x y = true) (k : am_Q sc d M (t, L, S, h) r) : am_Q sc d M (pc, L, .int y :: .int x :: S, h) r := am_Qp (q := (t, L, S)) hd rfl (by simp only [am_pu, am_br, hc, am_tg, ht, Int.toNat_natCast, if_true]; rw [if_pos (by omega)]) k
theorem aq_icF {cz : Jvm.ClassFile.Cond} {off : Int} {x y : Int32} {t : Nat} (hd : decode M.2.2.1 pc = .ok (.if_icmp cz off, 3)) (ht : (pc : Int) + off = (t : Int)) (hc : am_cmp cz x y = false) (k : am_Q sc d M (pc + 3, L, S, h) r) : am_Q sc d M (pc, L, .int y :: .int x :: S, h) r := am_Qp (q := (pc + 3, L, S)) hd rfl (by simp only [am_pu, am_br, hc, ht]; rw [if_pos (by omega)]; rfl) k
theorem aq_tsw {dflt lo hi : Int} {offs : Array Int} {len : Nat} {x : Int32} {t : Nat} (hd : decode M.2.2.1 pc = .ok (.tableswitch dflt lo hi offs, len)) (ht : am_tsw pc dflt lo hi offs x = some t) (k : am_Q sc d M (t, L, S, h) r) : am_Q sc d M (pc, L, .int x :: S, h) r := am_Qp (q := (t, L, S)) hd rfl (by simp only [am_pu, ht, Option.map_some]) k
theorem aq_lsw {dflt : Int} {ps : Array (Int × Int)} {len : Nat} {x : Int32} {t : Nat} (hd : decode M.2.2.1 pc = .ok (.lookupswitch dflt ps, len)) (ht : am_lsw pc dflt ps x = some t) (k : am_Q sc d M (t, L, S, h) r) : am_Q sc d M (pc, L, .int x :: S, h) r := am_Qp (q := (t, L, S)) hd rfl (by simp only [am_pu, ht, Option.map_some]) k
end AQ2
