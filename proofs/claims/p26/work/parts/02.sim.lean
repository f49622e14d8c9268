/-! What an instruction of the small machine stands for: m in place of o, which lies at pc, len bytes long. CT, CL: constants of the class' pool (index, value), ints and longs; FT, PT: its field links (index, class' number, slot), those that are read, those that are written, LT: its method links (index, method's number); rf, rl: frames and locals of the method's room; RO: of the callees -/
def fx_tg (pcs : List Nat) (pc : Nat) (off t : Int) : Bool := decide ((pc : Int) + off = ((pcs.getD t.toNat 0 : Nat) : Int))
def fx_tgs (pcs : List Nat) (pc : Nat) : List Int → List Int → Bool
  | [], [] => true
  | off :: r, t :: r' => fx_tg pcs pc off t && fx_tgs pcs pc r r'
  | _, _ => false
def fx_tgp (pcs : List Nat) (pc : Nat) : List (Int × Int) → List (Int × Int) → Bool
  | [], [] => true
  | (a, off) :: r, (b, t) :: r' => decide (a = b) && fx_tg pcs pc off t && fx_tgp pcs pc r r'
  | _, _ => false
def fx_nrm (CT CL : List (Nat × Int)) (FT PT : List (Nat × Nat × Nat)) (LT : List (Nat × Nat)) (pcs : List Nat) (G : fx_G) (RO : Nat → Nat × Nat) (rf rl pc len : Nat) (m o : Instr) : Bool := match m with
  | .sipush v => match o with
    | .iconst n => decide (len = 1 ∧ Int32.ofInt n = Int32.ofInt v)
    | .bipush n => decide (len = 2 ∧ (Int8.ofInt n).toInt32 = Int32.ofInt v)
    | .sipush n => decide (len = 3 ∧ (Int16.ofInt n).toInt32 = Int32.ofInt v)
    | .ldc k => decide (len = 2 ∧ (k, v) ∈ CT)
    | .ldc_w k => decide (len = 3 ∧ (k, v) ∈ CT)
    | _ => false
  | .goto_w v => match o with
    | .lconst n => decide (len = 1 ∧ Int64.ofNat (n : Nat) = Int64.ofInt v)
    | .ldc2_w k => decide (len = 3 ∧ (k, v) ∈ CL)
    | _ => false
  | .iload k => match o with
    | .iload_n n => decide (len = 1 ∧ (n : Nat) = k)
    | .iload n => decide (len = 2 ∧ n = k)
    | _ => false
  | .lload k => match o with
    | .lload_n n => decide (len = 1 ∧ (n : Nat) = k)
    | .lload n => decide (len = 2 ∧ n = k)
    | _ => false
  | .aload k => match o with
    | .aload_n n => decide (len = 1 ∧ (n : Nat) = k)
    | .aload n => decide (len = 2 ∧ n = k)
    | _ => false
  | .istore k => match o with
    | .istore_n n => decide (len = 1 ∧ (n : Nat) = k)
    | .istore n => decide (len = 2 ∧ n = k)
    | _ => false
  | .lstore k => match o with
    | .lstore_n n => decide (len = 1 ∧ (n : Nat) = k)
    | .lstore n => decide (len = 2 ∧ n = k)
    | _ => false
  | .astore k => match o with
    | .astore_n n => decide (len = 1 ∧ (n : Nat) = k)
    | .astore n => decide (len = 2 ∧ n = k)
    | _ => false
  | .ifCond c t => match o with
    | .ifCond c' off => decide (len = 3 ∧ c' = c) && fx_tg pcs pc off t
    | _ => false
  | .if_icmp c t => match o with
    | .if_icmp c' off => decide (len = 3 ∧ c' = c) && fx_tg pcs pc off t
    | _ => false
  | .goto t => match o with
    | .goto off => decide (len = 3) && fx_tg pcs pc off t
    | _ => false
  | .ifnull _ => match o with
    | .ifnull _ => decide (len = 3)
    | _ => false
  | .ifnonnull t => match o with
    | .ifnonnull off => decide (len = 3) && fx_tg pcs pc off t
    | _ => false
  | .aconst_null => decide (len = 1 ∧ o = m)
  | .areturn => decide (len = 1 ∧ o = m)
  | .tableswitch d lo hi ts => match o with
    | .tableswitch d' lo' hi' offs => decide (lo' = lo ∧ hi' = hi) && fx_tg pcs pc d' d && fx_tgs pcs pc offs.toList ts.toList
    | _ => false
  | .lookupswitch d ts => match o with
    | .lookupswitch d' ps => (ps.toList.zip (ps.toList.drop 1)).all (fun (a, next) => a.1 < next.1) && fx_tg pcs pc d' d && fx_tgp pcs pc ps.toList ts.toList
    | _ => false
  | .invokeinterface ci sl => match o with
    | .getfield k => decide (len = 3 ∧ (k, ci, sl) ∈ FT)
    | _ => false
  | .multianewarray ci sl => match o with
    | .putfield k => decide (len = 3 ∧ (k, ci, sl) ∈ PT)
    | _ => false
  | .invokestatic k => match o with
    | .invokestatic x => decide (len = 3 ∧ k < 1000000 ∧ (x, k) ∈ LT ∧ (G k).2.2.2 = none ∧ (RO k).1 + 1 ≤ rf ∧ 8 + ((G k).2.1 + 11) + (RO k).2 ≤ rl)
    | _ => false
  | .invokevirtual k => match o with
    | .invokevirtual x => decide (len = 3 ∧ k < 1000000 ∧ (x, k) ∈ LT ∧ ((G k).2.2.2).isSome = true ∧ 1 ≤ (G k).1 ∧ (RO k).1 + 1 ≤ rf ∧ 8 + ((G k).2.1 + 11) + (RO k).2 ≤ rl)
    | _ => false
  | .nop => match o with
    | .invokestatic x => decide (len = 3 ∧ (x, 1000000) ∈ LT ∧ 1 ≤ rf ∧ 8 + (nativeFrameWords "java/lang/System" "arraycopy" 5 + 11) ≤ rl)
    | _ => false
  | .swap => match o with
    | .invokestatic x => decide (len = 3 ∧ (x, 1000001) ∈ LT ∧ 1 ≤ rf ∧ 21 ≤ rl)
    | _ => false
  | .pop2 => match o with
    | .invokestatic x => decide (len = 3 ∧ (x, 1000002) ∈ LT ∧ 1 ≤ rf ∧ 21 ≤ rl)
    | _ => false
  | .iinc _ _ => decide (len = 3 ∧ o = m)
  | .iadd => decide (len = 1 ∧ o = m)
  | .isub => decide (len = 1 ∧ o = m)
  | .imul => decide (len = 1 ∧ o = m)
  | .iand => decide (len = 1 ∧ o = m)
  | .ior => decide (len = 1 ∧ o = m)
  | .ixor => decide (len = 1 ∧ o = m)
  | .ishl => decide (len = 1 ∧ o = m)
  | .ishr => decide (len = 1 ∧ o = m)
  | .iushr => decide (len = 1 ∧ o = m)
  | .idiv => decide (len = 1 ∧ o = m)
  | .irem => decide (len = 1 ∧ o = m)
  | .land => decide (len = 1 ∧ o = m)
  | .lor => decide (len = 1 ∧ o = m)
  | .lshl => decide (len = 1 ∧ o = m)
  | .lushr => decide (len = 1 ∧ o = m)
  | .lcmp => decide (len = 1 ∧ o = m)
  | .i2l => decide (len = 1 ∧ o = m)
  | .l2i => decide (len = 1 ∧ o = m)
  | .i2c => decide (len = 1 ∧ o = m)
  | .dup => decide (len = 1 ∧ o = m)
  | .dup2 => decide (len = 1 ∧ o = m)
  | .iaload => decide (len = 1 ∧ o = m)
  | .baload => decide (len = 1 ∧ o = m)
  | .caload => decide (len = 1 ∧ o = m)
  | .iastore => decide (len = 1 ∧ o = m)
  | .bastore => decide (len = 1 ∧ o = m)
  | .castore => decide (len = 1 ∧ o = m)
  | .aaload => decide (len = 1 ∧ o = m)
  | .arraylength => decide (len = 1 ∧ o = m)
  | .ireturn => decide (len = 1 ∧ o = m)
  | .return_ => decide (len = 1 ∧ o = m)
  | _ => false
/-! numbers -/
theorem fx_lt {x y : Int} (hx : fx_r x) (hy : fx_r y) : Int32.ofInt x < Int32.ofInt y ↔ x < y := by
  rw [Int32.lt_iff_toInt_lt, Int32.toInt_ofInt_of_le hx.1 hx.2, Int32.toInt_ofInt_of_le hy.1 hy.2]
theorem fx_le {x y : Int} (hx : fx_r x) (hy : fx_r y) : Int32.ofInt x ≤ Int32.ofInt y ↔ x ≤ y := by
  rw [Int32.le_iff_toInt_le, Int32.toInt_ofInt_of_le hx.1 hx.2, Int32.toInt_ofInt_of_le hy.1 hy.2]
theorem fx_eq {x y : Int} (hx : fx_r x) (hy : fx_r y) : Int32.ofInt x = Int32.ofInt y ↔ x = y := by
  rw [← Int32.toInt_inj, Int32.toInt_ofInt_of_le hx.1 hx.2, Int32.toInt_ofInt_of_le hy.1 hy.2]
theorem fx_r0 : fx_r 0 := by unfold fx_r; omega
theorem fx_ix_iff {x : Int} {n : Nat} : fx_ix x n = true ↔ 0 ≤ x ∧ x < (n : Int) ∧ x < 2147483648 := by
  simp [fx_ix, and_assoc]
theorem fx_ix_cl {x : Int} {n : Nat} (h : fx_ix x n = true) : (Int32.ofInt x).toNatClampNeg = x.toNat := by
  obtain ⟨h1, h2, h3⟩ := fx_ix_iff.mp h
  exact Int32.toNatClampNeg_ofInt_of_le (by omega) (by omega)
theorem fx_ix_in {x : Int} {n : Nat} (h : fx_ix x n = true) : vp_in (Int32.ofInt x) n := by
  obtain ⟨h1, h2, h3⟩ := fx_ix_iff.mp h
  rw [vp_in_iff, Int32.toInt_ofInt_of_le (by omega) (by omega)]
  exact ⟨h1, h2⟩

/-! the tables' words that the instructions of a class rest on -/
def fx_Tab (own : String) (TG : List Jvm.Cond) (cl : List vw_C) (CT CL : List (Nat × Int)) (FT PT : List (Nat × Nat × Nat)) (LT : List (Nat × Nat)) : Prop :=
  (∀ q ∈ CT, Jvm.Cond.constant own q.1 (Int32.ofInt q.2) ∈ TG) ∧ (∀ q ∈ CL, Jvm.Cond.constantLong own q.1 (Int64.ofInt q.2) ∈ TG) ∧
  (∀ q ∈ FT, ∃ C T N, cl[q.2.1]? = some (C, T, N) ∧ q.2.2 < N ∧ Jvm.Cond.fieldLink own q.1 (T q.2.2).1 (T q.2.2).2.1 (T q.2.2).2.2.1 ∈ TG) ∧
  (∀ q ∈ PT, ∃ C T N, cl[q.2.1]? = some (C, T, N) ∧ q.2.2 < N ∧ Jvm.Cond.fieldLink own q.1 (T q.2.2).1 (T q.2.2).2.1 (T q.2.2).2.2.1 ∈ TG ∧ (T q.2.2).2.2.2 = false ∧ parseFieldDescriptor (T q.2.2).2.2.1 = some .int) ∧
  (∀ q ∈ LT, q.2 = 1000000 → Jvm.Cond.methodLink own q.1 arraycopyName ∈ TG ∧ Jvm.Cond.native arraycopyName ∈ TG ∧ Jvm.Cond.static arraycopyName ∈ TG ∧ Jvm.Cond.initialized "java/lang/System" ∈ TG) ∧
  (∀ q ∈ LT, q.2 = 1000001 → Jvm.Cond.methodLink own q.1 Lib.Math.max.name ∈ TG ∧ Jvm.Cond.static Lib.Math.max.name ∈ TG ∧ Jvm.Cond.initialized "java/lang/Math" ∈ TG ∧ Jvm.Cond.code Lib.Math.max.name Lib.Math.max.code 2 (some .int) ∈ TG) ∧
  (∀ q ∈ LT, q.2 = 1000002 → Jvm.Cond.methodLink own q.1 Lib.Math.min.name ∈ TG ∧ Jvm.Cond.static Lib.Math.min.name ∈ TG ∧ Jvm.Cond.initialized "java/lang/Math" ∈ TG ∧ Jvm.Cond.code Lib.Math.min.name Lib.Math.min.code 2 (some .int) ∈ TG)
def fx_Cl (TG : List Jvm.Cond) (cl : List vw_C) : Prop := ∀ (ci : Nat) (C : String) (T : u_T) (N : Nat), cl[ci]? = some (C, T, N) →
  (∀ w ∈ u_ws C T N, w ∈ TG) ∧ (∃ ty : Nat → FieldType, ∀ k, k < N → parseFieldDescriptor (T k).2.2.1 = some (ty k)) ∧ (∀ a, a < N → ∀ b, b < N → a ≠ b → (T a).2.1 ≠ (T b).2.1)
def fx_Ty (tys : List (ClassId × FieldType)) (cA : Nat → ClassId) (OC : String) : Prop := tys[0]? = some (cA 0, .int) ∧ tys[1]? = some (cA 1, .boolean) ∧ tys[2]? = some (cA 2, .char) ∧ tys[3]? = some (cA 9, .object OC)
def fx_Wd (D : va_G) (cl : List vw_C) (ad : Nat → Nat) (cA : Nat → ClassId) (SH : List fx_S) (H0 : Heap) (A : Nat → Prop) (M : fx_M) (H : Heap) (locs : List Loc) : Prop :=
  va_P D cl (fx_wl ad cA SH M) H ∧ va_D A (fx_wl ad cA SH M) ∧ va_S A H0 H locs
def fx_X (ad : Nat → Nat) (SH : List fx_S) (Lx : Nat) (MX : Nat → Int) (A : Nat → Prop) (s : State) : Prop :=
  Lx < 2147483648 → Lx < 2147483648 ∧ va_X (ad SH.length) Lx (fun j => Int32.ofInt (MX j)) s s.heap ∧ ad SH.length < s.heap.size ∧ ¬ A (ad SH.length)
/-! what a step says of its start -/
theorem fx_bin_some {f : Int → Int → Int} {i i' : Nat} {ls ls' st st' : List fx_V} {M M' : fx_M} (h : fx_bin f i ls st M = some (i', ls', st', M')) : ∃ x y r, st = .inl y :: .inl x :: r ∧ i' = i + 1 ∧ ls' = ls ∧ st' = .inl (f x y) :: r ∧ M' = M := by
  unfold fx_bin at h
  split at h
  next y x r => cases h; exact ⟨x, y, r, rfl, rfl, rfl, rfl, rfl⟩
  next => cases h
theorem fx_binN_some {f : Int → Int → Int} {i i' : Nat} {ls ls' st st' : List fx_V} {M M' : fx_M} (h : fx_binN f i ls st M = some (i', ls', st', M')) : ∃ x y r, st = .inl y :: .inl x :: r ∧ ¬ Int32.ofInt y = 0 ∧ i' = i + 1 ∧ ls' = ls ∧ st' = .inl (f x y) :: r ∧ M' = M := by
  unfold fx_binN at h
  split at h
  next y x r =>
    split at h
    · cases h
    · next hz => cases h; exact ⟨x, y, r, rfl, hz, rfl, rfl, rfl, rfl⟩
  next => cases h
theorem fx_binL_some {f : Int64 → Int64 → Int64} {i i' : Nat} {ls ls' st st' : List fx_V} {M M' : fx_M} (h : fx_binL f i ls st M = some (i', ls', st', M')) : ∃ x y r, st = .inr (.inl y) :: .inr (.inl x) :: r ∧ i' = i + 1 ∧ ls' = ls ∧ st' = .inr (.inl (f x y)) :: r ∧ M' = M := by
  unfold fx_binL at h
  split at h
  next y x r => cases h; exact ⟨x, y, r, rfl, rfl, rfl, rfl, rfl⟩
  next => cases h
theorem fx_binLI_some {f : Int64 → Int32 → Int64} {i i' : Nat} {ls ls' st st' : List fx_V} {M M' : fx_M} (h : fx_binLI f i ls st M = some (i', ls', st', M')) : ∃ x y r, st = .inl y :: .inr (.inl x) :: r ∧ i' = i + 1 ∧ ls' = ls ∧ st' = .inr (.inl (f x (Int32.ofInt y))) :: r ∧ M' = M := by
  unfold fx_binLI at h
  split at h
  next y x r => cases h; exact ⟨x, y, r, rfl, rfl, rfl, rfl, rfl⟩
  next => cases h
theorem fx_ld_some {ty : Nat} {SH : List fx_S} {i i' : Nat} {ls ls' st st' : List fx_V} {M M' : fx_M} (h : fx_ld ty SH i ls st M = some (i', ls', st', M')) : ∃ x k r n, st = .inl x :: .inr (.inr (some k)) :: r ∧ SH[k]? = some (.inl (ty, n)) ∧ fx_ix x n = true ∧ i' = i + 1 ∧ ls' = ls ∧ st' = .inl (M k x.toNat) :: r ∧ M' = M := by
  unfold fx_ld at h
  split at h
  next x k r =>
    split at h
    next t n hs =>
      split at h
      next hc => obtain ⟨rfl, hi⟩ := hc; cases h; exact ⟨x, k, r, n, rfl, hs, hi, rfl, rfl, rfl, rfl⟩
      next => cases h
    next => cases h
  next => cases h
theorem fx_sd_some {ty : Nat} {SH : List fx_S} {i i' : Nat} {ls ls' st st' : List fx_V} {M M' : fx_M} (h : fx_sd ty SH i ls st M = some (i', ls', st', M')) : ∃ v x k r n, st = .inl v :: .inl x :: .inr (.inr (some k)) :: r ∧ SH[k]? = some (.inl (ty, n)) ∧ fx_ix x n = true ∧ fx_tk ty v = true ∧ i' = i + 1 ∧ ls' = ls ∧ st' = r ∧ M' = fx_set M k (fx_up (M k) x.toNat v) := by
  unfold fx_sd at h
  split at h
  next v x k r =>
    split at h
    next t n hs =>
      split at h
      next hc => obtain ⟨rfl, hi, ht⟩ := hc; cases h; exact ⟨v, x, k, _, n, rfl, hs, hi, ht, rfl, rfl, rfl, rfl⟩
      next => cases h
    next => cases h
  next => cases h
theorem fx_upd {f : Nat → Int} {x : Int} {n : Nat} (hi : fx_ix x n = true) (v : Int) : upd (fun j => Int32.ofInt (f j)) (Int32.ofInt x).toNatClampNeg (Int32.ofInt v) = fun j => Int32.ofInt (fx_up f x.toNat v j) := by
  rw [fx_ix_cl hi]
  funext j
  unfold upd fx_up
  by_cases hj : j = x.toNat <;> simp [hj]
theorem fx_nar_z {v : Int} (h : fx_tk 1 v = true) : vp_nar .boolean (Int32.ofInt v) = Int32.ofInt v := by
  simp only [fx_tk, Bool.or_eq_true, decide_eq_true_eq] at h
  rcases h with rfl | rfl <;> decide
theorem fx_char {v : Int} (h0 : 0 ≤ v) (h1 : v < 65536) : Int32.ofInt v = nI v.toNat := by
  rw [show v = ((v.toNat : Nat) : Int) by omega, Int32.ofInt_eq_ofNat]
  rfl
theorem fx_nar_c {v : Int} (h : fx_tk 2 v = true) : vp_nar .char (Int32.ofInt v) = Int32.ofInt v := by
  simp only [fx_tk, Bool.and_eq_true, decide_eq_true_eq] at h
  rw [fx_char h.1 h.2]
  have := (pk_charN (q := v.toNat) (by omega)).1
  unfold vp_nar
  rw [this]
