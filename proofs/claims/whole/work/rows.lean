section
/-! A small machine over mathematical integers: what the code does, without heap, words, room. Values: an int, a long, a reference to a numbered cell (none: unset) -/
abbrev fx_V : Type := Int ⊕ (Int64 ⊕ Option Nat)
abbrev fx_M : Type := Nat → Nat → Int
/-- a cell's shape: an array of numbers (0 int, 1 boolean, 2 char) and its length; an object, its class' number, its fields (a reference, or a number); an array of references -/
abbrev fx_S : Type := (Nat × Nat) ⊕ ((Nat × List (Option Nat)) ⊕ List Nat)
/-- of a method: how many values it takes, its locals, its answer (0 none, 1 int, 2 boolean, 3 char), its receiver's class -/
abbrev fx_G : Type := Nat → Nat × Nat × Nat × Option Nat
abbrev fx_O : Type := Option (Nat × List fx_V × List fx_V × fx_M)
def fx_r (x : Int) : Prop := -2147483648 ≤ x ∧ x < 2147483648
def fx_rb (x : Int) : Bool := decide (-2147483648 ≤ x) && decide (x < 2147483648)
theorem fx_rb_iff {x : Int} : fx_rb x = true ↔ fx_r x := by simp [fx_rb, fx_r]
def fx_div (x y : Int) : Int := (Int32.ofInt x / Int32.ofInt y).toInt
def fx_rem (x y : Int) : Int := (Int32.ofInt x - Int32.ofInt x / Int32.ofInt y * Int32.ofInt y).toInt
def fx_and (x y : Int) : Int := (Int32.ofInt x &&& Int32.ofInt y).toInt
def fx_or (x y : Int) : Int := (Int32.ofInt x ||| Int32.ofInt y).toInt
def fx_xor (x y : Int) : Int := (Int32.ofInt x ^^^ Int32.ofInt y).toInt
def fx_shl (x y : Int) : Int := (Int32.ofInt x <<< (Int32.ofInt y &&& 31)).toInt
def fx_shr (x y : Int) : Int := (Int32.ofInt x >>> (Int32.ofInt y &&& 31)).toInt
def fx_ushr (x y : Int) : Int := (((Int32.ofInt x).toUInt32 >>> ((Int32.ofInt y).toUInt32 &&& Int32.toUInt32 31)).toInt32).toInt
def fx_i2c (x : Int) : Int := (((Int32.ofInt x).toUInt32 % 65536).toInt32).toInt
def fx_cmp (c : Jvm.ClassFile.Cond) (x y : Int) : Bool := match c with
  | .eq => decide (x = y)
  | .ne => decide (x ≠ y)
  | .lt => decide (x < y)
  | .ge => decide (y ≤ x)
  | .gt => decide (y < x)
  | .le => decide (x ≤ y)
def fx_set (M : fx_M) (k : Nat) (f : Nat → Int) : fx_M := fun q => if q = k then f else M q
def fx_up (f : Nat → Int) (k : Nat) (x : Int) : Nat → Int := fun j => if j = k then x else f j
def fx_cp (f g : Nat → Int) (sp dp n : Nat) : Nat → Int := fun k => if dp ≤ k ∧ k < dp + n then f (sp + (k - dp)) else g k
/-- a place in a row of n -/
def fx_ix (x : Int) (n : Nat) : Bool := decide (0 ≤ x) && decide (x < (n : Int)) && decide (x < 2147483648)
def fx_ct : fx_V → Nat
  | .inr (.inl _) => 2
  | _ => 1
def fx_cs : List fx_V → Nat
  | [] => 0
  | v :: t => fx_ct v + fx_cs t
/-- a local of one word may be written: no long stands just ahead -/
def fx_fr (ls : List fx_V) (k : Nat) : Bool := decide (k < ls.length) && (match k with
  | 0 => true
  | k' + 1 => match ls[k']? with
    | some (.inr (.inl _)) => false
    | _ => true)
def fx_lk : List (Int × Int) → Int → Int → Int
  | [], d, _ => d
  | (a, t) :: r, d, x => if x = a then t else fx_lk r d x
def fx_bin (f : Int → Int → Int) (i : Nat) (ls st : List fx_V) (M : fx_M) : fx_O := match st with
  | .inl y :: .inl x :: r => some (i + 1, ls, .inl (f x y) :: r, M)
  | _ => none
def fx_binN (f : Int → Int → Int) (i : Nat) (ls st : List fx_V) (M : fx_M) : fx_O := match st with
  | .inl y :: .inl x :: r => if Int32.ofInt y = 0 then none else some (i + 1, ls, .inl (f x y) :: r, M)
  | _ => none
def fx_binL (f : Int64 → Int64 → Int64) (i : Nat) (ls st : List fx_V) (M : fx_M) : fx_O := match st with
  | .inr (.inl y) :: .inr (.inl x) :: r => some (i + 1, ls, .inr (.inl (f x y)) :: r, M)
  | _ => none
def fx_binLI (f : Int64 → Int32 → Int64) (i : Nat) (ls st : List fx_V) (M : fx_M) : fx_O := match st with
  | .inl y :: .inr (.inl x) :: r => some (i + 1, ls, .inr (.inl (f x (Int32.ofInt y))) :: r, M)
  | _ => none
def fx_ld (ty : Nat) (SH : List fx_S) (i : Nat) (ls st : List fx_V) (M : fx_M) : fx_O := match st with
  | .inl x :: .inr (.inr (some k)) :: r => match SH[k]? with
    | some (.inl (t, n)) => if t = ty ∧ fx_ix x n = true then some (i + 1, ls, .inl (M k x.toNat) :: r, M) else none
    | _ => none
  | _ => none
def fx_ldx (SH : List fx_S) (Lx : Nat) (MX : Nat → Int) (i : Nat) (ls st : List fx_V) (M : fx_M) : fx_O := match st with
  | .inl x :: .inr (.inr (some k)) :: r => if k = SH.length then (if fx_ix x Lx = true then some (i + 1, ls, .inl (MX x.toNat) :: r, M) else none) else fx_ld 0 SH i ls st M
  | _ => none
/-- what an array of small numbers takes -/
def fx_tk (ty : Nat) (v : Int) : Bool := match ty with
  | 0 => true
  | 1 => decide (v = 0) || decide (v = 1)
  | _ => decide (0 ≤ v) && decide (v < 65536)
def fx_sd (ty : Nat) (SH : List fx_S) (i : Nat) (ls st : List fx_V) (M : fx_M) : fx_O := match st with
  | .inl v :: .inl x :: .inr (.inr (some k)) :: r => match SH[k]? with
    | some (.inl (t, n)) => if t = ty ∧ fx_ix x n = true ∧ fx_tk ty v = true then some (i + 1, ls, r, fx_set M k (fx_up (M k) x.toNat v)) else none
    | _ => none
  | _ => none
def fx_step (SH : List fx_S) (Lx : Nat) (MX : Nat → Int) (m : Instr) (i : Nat) (ls st : List fx_V) (M : fx_M) : fx_O := match m with
  | .sipush v => some (i + 1, ls, .inl v :: st, M)
  | .goto_w v => some (i + 1, ls, .inr (.inl (Int64.ofInt v)) :: st, M)
  | .iload k => match ls[k]? with
    | some (.inl x) => some (i + 1, ls, .inl x :: st, M)
    | _ => none
  | .lload k => match ls[k]? with
    | some (.inr (.inl x)) => some (i + 1, ls, .inr (.inl x) :: st, M)
    | _ => none
  | .aload k => match ls[k]? with
    | some (.inr (.inr (some a))) => some (i + 1, ls, .inr (.inr (some a)) :: st, M)
    | _ => none
  | .istore k => match st with
    | .inl x :: r => if fx_fr ls k = true then some (i + 1, ls.set k (.inl x), r, M) else none
    | _ => none
  | .astore k => match st with
    | .inr (.inr (some a)) :: r => if fx_fr ls k = true then some (i + 1, ls.set k (.inr (.inr (some a))), r, M) else none
    | _ => none
  | .lstore k => match st with
    | .inr (.inl x) :: r => if fx_fr ls k = true ∧ k + 1 < ls.length then some (i + 1, (ls.set k (.inr (.inl x))).set (k + 1) (.inr (.inr none)), r, M) else none
    | _ => none
  | .iinc k n => match ls[k]? with
    | some (.inl x) => if fx_fr ls k = true then some (i + 1, ls.set k (.inl (x + n)), st, M) else none
    | _ => none
  | .iadd => fx_bin (fun x y => x + y) i ls st M
  | .isub => fx_bin (fun x y => x - y) i ls st M
  | .imul => fx_bin (fun x y => x * y) i ls st M
  | .iand => fx_bin fx_and i ls st M
  | .ior => fx_bin fx_or i ls st M
  | .ixor => fx_bin fx_xor i ls st M
  | .ishl => fx_bin fx_shl i ls st M
  | .ishr => fx_bin fx_shr i ls st M
  | .iushr => fx_bin fx_ushr i ls st M
  | .idiv => fx_binN fx_div i ls st M
  | .irem => fx_binN fx_rem i ls st M
  | .land => fx_binL (fun x y => x &&& y) i ls st M
  | .lor => fx_binL (fun x y => x ||| y) i ls st M
  | .lshl => fx_binLI (fun x y => x <<< (y.toInt64 &&& 63)) i ls st M
  | .lushr => fx_binLI (fun x y => (x.toUInt64 >>> (y.toInt64.toUInt64 &&& Int64.toUInt64 63)).toInt64) i ls st M
  | .lcmp => match st with
    | .inr (.inl y) :: .inr (.inl x) :: r => some (i + 1, ls, .inl (lg_cmp x y).toInt :: r, M)
    | _ => none
  | .i2l => match st with
    | .inl x :: r => some (i + 1, ls, .inr (.inl (Int32.ofInt x).toInt64) :: r, M)
    | _ => none
  | .l2i => match st with
    | .inr (.inl x) :: r => some (i + 1, ls, .inl x.toInt32.toInt :: r, M)
    | _ => none
  | .i2c => match st with
    | .inl x :: r => some (i + 1, ls, .inl (fx_i2c x) :: r, M)
    | _ => none
  | .dup => match st with
    | v :: r => if fx_ct v = 1 then some (i + 1, ls, v :: v :: r, M) else none
    | _ => none
  | .dup2 => match st with
    | v :: w :: r => if fx_ct v = 1 ∧ fx_ct w = 1 then some (i + 1, ls, v :: w :: v :: w :: r, M) else none
    | _ => none
  | .ifCond c t => match st with
    | .inl x :: r => if fx_rb x = true then some (if fx_cmp c x 0 = true then t.toNat else i + 1, ls, r, M) else none
    | _ => none
  | .if_icmp c t => match st with
    | .inl y :: .inl x :: r => if fx_rb x = true ∧ fx_rb y = true then some (if fx_cmp c x y = true then t.toNat else i + 1, ls, r, M) else none
    | _ => none
  | .goto t => some (t.toNat, ls, st, M)
  | .tableswitch d lo hi ts => match st with
    | .inl x :: r => if fx_rb x = true then (if x < lo ∨ hi < x then some (d.toNat, ls, r, M) else match ts[(x - lo).toNat]? with
      | some t => some (t.toNat, ls, r, M)
      | none => none) else none
    | _ => none
  | .lookupswitch d ts => match st with
    | .inl x :: r => if fx_rb x = true then some ((fx_lk ts.toList d x).toNat, ls, r, M) else none
    | _ => none
  | .invokeinterface ci sl => match st with
    | .inr (.inr (some k)) :: r => match SH[k]? with
      | some (.inr (.inl (cj, fs))) => if cj = ci then (match fs[sl]? with
        | some (some a) => some (i + 1, ls, .inr (.inr (some a)) :: r, M)
        | some none => some (i + 1, ls, .inl (M k sl) :: r, M)
        | none => none) else none
      | _ => none
    | _ => none
  | .multianewarray ci sl => match st with
    | .inl v :: .inr (.inr (some k)) :: r => match SH[k]? with
      | some (.inr (.inl (cj, fs))) => if cj = ci then (match fs[sl]? with
        | some none => some (i + 1, ls, r, fx_set M k (fx_up (M k) sl v))
        | _ => none) else none
      | _ => none
    | _ => none
  | .iaload => fx_ldx SH Lx MX i ls st M
  | .baload => fx_ld 1 SH i ls st M
  | .caload => fx_ld 2 SH i ls st M
  | .iastore => fx_sd 0 SH i ls st M
  | .bastore => fx_sd 1 SH i ls st M
  | .castore => fx_sd 2 SH i ls st M
  | .aaload => match st with
    | .inl x :: .inr (.inr (some k)) :: r => match SH[k]? with
      | some (.inr (.inr l)) => if fx_ix x l.length = true then (match l[x.toNat]? with
        | some a => some (i + 1, ls, .inr (.inr (some a)) :: r, M)
        | none => none) else none
      | _ => none
    | _ => none
  | .arraylength => match st with
    | .inr (.inr (some k)) :: r => if k = SH.length then (if 0 < Lx then some (i + 1, ls, .inl (Lx : Int) :: r, M) else none) else match SH[k]? with
      | some (.inl (0, n)) => some (i + 1, ls, .inl (n : Int) :: r, M)
      | _ => none
    | _ => none
  | .nop => match st with
    | .inl n :: .inl dp :: .inr (.inr (some k1)) :: .inl sp :: .inr (.inr (some k0)) :: r => match SH[k0]?, SH[k1]? with
      | some (.inl (0, n0)), some (.inl (0, n1)) => if fx_rb n = true ∧ fx_rb dp = true ∧ fx_rb sp = true ∧ 0 ≤ n ∧ 0 ≤ dp ∧ 0 ≤ sp ∧ sp + n ≤ (n0 : Int) ∧ dp + n ≤ (n1 : Int) ∧ fx_cs r ≤ 8 then
          some (i + 1, ls, r, fx_set M k1 (fx_cp (M k0) (M k1) sp.toNat dp.toNat n.toNat)) else none
      | _, _ => none
    | _ => none
  | _ => none
def fx_ret (t : Nat) (st : List fx_V) (M : fx_M) : Option (Option fx_V × fx_M) := match st with
  | [.inl x] => if t = 1 ∨ (t = 2 ∧ (x = 0 ∨ x = 1)) ∨ (t = 3 ∧ 0 ≤ x ∧ x < 65536) then some (some (.inl x), M) else none
  | _ => none
def fx_f1 (v : fx_V) : List fx_V := match v with
  | .inr (.inl _) => [v, .inr (.inr none)]
  | _ => [v]
def fx_fl (vs : List fx_V) : List fx_V := vs.flatMap fx_f1
def fx_ini (n : Nat) (vs : List fx_V) : List fx_V := fx_fl vs ++ List.replicate (n - (fx_fl vs).length) (.inr (.inr none))
/-- the receiver is an object of the class -/
def fx_rcv (SH : List fx_S) (o : Option Nat) (vs : List fx_V) : Bool := match o with
  | none => true
  | some ci => match vs with
    | .inr (.inr (some k)) :: _ => match SH[k]? with
      | some (.inr (.inl (cj, _))) => decide (cj = ci)
      | _ => false
    | _ => false
def fx_ex (C : Nat → List Instr) (G : fx_G) (SH : List fx_S) (Lx : Nat) (MX : Nat → Int) : Nat → Nat → Nat → List fx_V → List fx_V → fx_M → Option (Option fx_V × fx_M)
  | 0, _, _, _, _, _ => none
  | n + 1, j, i, ls, st, M => match (C j)[i]? with
    | some .ireturn => fx_ret (G j).2.2.1 st M
    | some .return_ => match st with
      | [] => if (G j).2.2.1 = 0 then some (none, M) else none
      | _ => none
    | some (.invokestatic k) =>
      if (G k).1 ≤ st.length ∧ fx_cs (st.drop (G k).1) ≤ 8 ∧ (fx_fl (st.take (G k).1).reverse).length ≤ (G k).2.1 then
        (match fx_ex C G SH Lx MX n k 0 (fx_ini (G k).2.1 (st.take (G k).1).reverse) [] M with
          | some (r, M') => fx_ex C G SH Lx MX n j (i + 1) ls (r.toList ++ st.drop (G k).1) M'
          | none => none) else none
    | some (.invokevirtual k) =>
      if (G k).1 ≤ st.length ∧ fx_cs (st.drop (G k).1) ≤ 8 ∧ (fx_fl (st.take (G k).1).reverse).length ≤ (G k).2.1 ∧ fx_rcv SH (G k).2.2.2 (st.take (G k).1).reverse = true then
        (match fx_ex C G SH Lx MX n k 0 (fx_ini (G k).2.1 (st.take (G k).1).reverse) [] M with
          | some (r, M') => fx_ex C G SH Lx MX n j (i + 1) ls (r.toList ++ st.drop (G k).1) M'
          | none => none) else none
    | some m => match fx_step SH Lx MX m i ls st M with
      | some (i', ls', st', M') => fx_ex C G SH Lx MX n j i' ls' st' M'
      | none => none
    | none => none
/-! values, locals, cells of the real machine -/
def fx_g (ad : Nat → Nat) : fx_V → Value
  | .inl x => .int (Int32.ofInt x)
  | .inr (.inl x) => .long x
  | .inr (.inr (some k)) => .ref (ad k)
  | .inr (.inr none) => .null
def fx_gl (ad : Nat → Nat) : fx_V → Option Value
  | .inl x => some (.int (Int32.ofInt x))
  | .inr (.inl x) => some (.long x)
  | .inr (.inr (some k)) => some (.ref (ad k))
  | .inr (.inr none) => none
theorem fx_gl_some {ad : Nat → Nat} {v : fx_V} {w : Value} (h : fx_gl ad v = some w) : w = fx_g ad v := by
  rcases v with x | x | (_ | k) <;> simp [fx_gl] at h <;> simp [fx_g, h]
theorem fx_ct_g {ad : Nat → Nat} (v : fx_V) : (fx_g ad v).category = fx_ct v := by
  rcases v with x | x | (_ | k) <;> rfl
theorem fx_cs_g {ad : Nat → Nat} (st : List fx_V) : ((st.map (fx_g ad)).map fun v => v.category).sum = fx_cs st := by
  induction st with
  | nil => rfl
  | cons v t ih => simp only [List.map_cons, List.sum_cons, fx_ct_g, fx_cs, ih]
def fx_prs (ad : Nat → Nat) (ls : List fx_V) : List (Nat × Value) := (List.range ls.length).filterMap (fun k => ((ls[k]?).bind (fx_gl ad)).map (fun w => (k, w)))
theorem fx_prs_mem {ad : Nat → Nat} {ls : List fx_V} {q : Nat × Value} : q ∈ fx_prs ad ls ↔ ∃ v, ls[q.1]? = some v ∧ fx_gl ad v = some q.2 := by
  obtain ⟨i, w⟩ := q
  unfold fx_prs
  rw [List.mem_filterMap]
  constructor
  · rintro ⟨k, hk, h⟩
    cases hv : ls[k]? with
    | none => rw [hv] at h; simp at h
    | some v =>
      rw [hv] at h
      cases hg : fx_gl ad v with
      | none => simp [hg] at h
      | some w' =>
        simp [hg] at h
        obtain ⟨rfl, rfl⟩ := h
        exact ⟨v, hv, hg⟩
  · rintro ⟨v, hv, hg⟩
    refine ⟨i, List.mem_range.mpr (List.getElem?_eq_some_iff.mp hv).1, ?_⟩
    show ((ls[i]?).bind (fx_gl ad)).map _ = _
    have hv' : ls[i]? = some v := hv
    have hg' : fx_gl ad v = some w := hg
    rw [hv']
    simp [hg']
theorem fx_lh_sub {L : Array Slot} {n : Nat} {l l' : List (Nat × Value)} (h : lv_has L n l) (hs : ∀ q ∈ l', q ∈ l) : lv_has L n l' := ⟨h.1, h.2.1, fun q hq => h.2.2 q (hs q hq)⟩
theorem fx_lh_get {ad : Nat → Nat} {L : Array Slot} {n k : Nat} {ls : List fx_V} {v : fx_V} {w : Value} (h : lv_has L n (fx_prs ad ls)) (hv : ls[k]? = some v) (hg : fx_gl ad v = some w) : L[k]? = some (.val w) := h.2.2 (k, w) (fx_prs_mem.mpr ⟨v, hv, hg⟩)
theorem fx_lh_set {ad : Nat → Nat} {L : Array Slot} {n k : Nat} {ls : List fx_V} {v : fx_V} {w : Value} (hg : fx_gl ad v = some w) (hf : fx_fr ls k = true)
    (h : lv_has L n ((k, w) :: (fx_prs ad ls).filter (fun q => !(q.1 == k) && !(q.1 + 1 == k && q.2.category == 2)))) : lv_has L n (fx_prs ad (ls.set k v)) := by
  refine fx_lh_sub h fun q hq => ?_
  obtain ⟨u, hu, hgu⟩ := fx_prs_mem.mp hq
  simp only [fx_fr, Bool.and_eq_true, decide_eq_true_eq] at hf
  by_cases hk : q.1 = k
  · rw [hk, List.getElem?_set_self hf.1] at hu
    cases hu
    rw [hg] at hgu
    cases hgu
    rw [← hk]
    exact List.mem_cons_self
  · rw [List.getElem?_set_ne (Ne.symm hk)] at hu
    refine List.mem_cons_of_mem _ (List.mem_filter.mpr ⟨fx_prs_mem.mpr ⟨u, hu, hgu⟩, ?_⟩)
    simp only [Bool.and_eq_true, Bool.not_eq_true', beq_eq_false_iff_ne, ne_eq, Bool.and_eq_false_iff]
    refine ⟨hk, ?_⟩
    by_cases h1 : q.1 + 1 = k
    · right
      intro hc
      rw [fx_gl_some hgu, fx_ct_g] at hc
      obtain ⟨-, hf2⟩ := hf
      subst h1
      simp only [hu] at hf2
      rcases u with x | x | x <;> simp [fx_ct] at hc hf2
    · exact Or.inl h1
theorem fx_lh_set2 {ad : Nat → Nat} {L : Array Slot} {n k : Nat} {ls : List fx_V} {x : Int64} (hf : fx_fr ls k = true) (hk1 : k + 1 < ls.length)
    (h : lv_has L n ((k, Value.long x) :: (fx_prs ad ls).filter (fun q => !(q.1 == k) && (!(q.1 == k + 1) && !(q.1 + 1 == k && q.2.category == 2))))) : lv_has L n (fx_prs ad ((ls.set k (.inr (.inl x))).set (k + 1) (.inr (.inr none)))) := by
  refine fx_lh_sub h fun q hq => ?_
  obtain ⟨u, hu, hgu⟩ := fx_prs_mem.mp hq
  simp only [fx_fr, Bool.and_eq_true, decide_eq_true_eq] at hf
  by_cases hk2 : q.1 = k + 1
  · rw [hk2, List.getElem?_set_self (by simpa using hk1)] at hu
    cases hu
    simp [fx_gl] at hgu
  · rw [List.getElem?_set_ne (Ne.symm hk2)] at hu
    by_cases hk : q.1 = k
    · rw [hk, List.getElem?_set_self hf.1] at hu
      cases hu
      simp [fx_gl] at hgu
      obtain ⟨i, w⟩ := q
      simp only at hk hgu
      subst hk hgu
      exact List.mem_cons_self
    · rw [List.getElem?_set_ne (Ne.symm hk)] at hu
      refine List.mem_cons_of_mem _ (List.mem_filter.mpr ⟨fx_prs_mem.mpr ⟨u, hu, hgu⟩, ?_⟩)
      simp only [Bool.and_eq_true, Bool.not_eq_true', beq_eq_false_iff_ne, ne_eq, Bool.and_eq_false_iff]
      refine ⟨hk, hk2, ?_⟩
      by_cases h1 : q.1 + 1 = k
      · right
        intro hc
        rw [fx_gl_some hgu, fx_ct_g] at hc
        obtain ⟨-, hf2⟩ := hf
        subst h1
        simp only [hu] at hf2
        rcases u with x | x | x <;> simp [fx_ct] at hc hf2
      · exact Or.inl h1
def fx_ce (ad : Nat → Nat) (cA : Nat → ClassId) (M : fx_M) (k : Nat) : fx_S → va_E
  | .inl (t, n) => .inl (cA t, (n, .inl (fun j => Int32.ofInt (M k j))))
  | .inr (.inl (ci, fs)) => .inr (ci, fs.zipIdx.map (fun q => match q.1 with
    | some r => .ref (ad r)
    | none => .int (Int32.ofInt (M k q.2))))
  | .inr (.inr l) => .inl (cA 9, (l.length, .inr (.inr (.inr (.inr (fun j => (l[j]?).map ad))))))
def fx_wl (ad : Nat → Nat) (cA : Nat → ClassId) (SH : List fx_S) (M : fx_M) : va_W := SH.zipIdx.map (fun q => (ad q.2, fx_ce ad cA M q.2 q.1))
theorem fx_wl_at {ad : Nat → Nat} {cA : Nat → ClassId} {SH : List fx_S} {M : fx_M} (k : Nat) : (fx_wl ad cA SH M)[k]? = (SH[k]?).map (fun e => (ad k, fx_ce ad cA M k e)) := by
  unfold fx_wl
  rw [List.getElem?_map, List.getElem?_zipIdx]
  cases SH[k]? <;> simp
theorem fx_wl_get {ad : Nat → Nat} {cA : Nat → ClassId} {SH : List fx_S} {M : fx_M} {k : Nat} {e : fx_S} (h : SH[k]? = some e) : (fx_wl ad cA SH M)[k]? = some (ad k, fx_ce ad cA M k e) := by rw [fx_wl_at, h]; rfl
theorem fx_ce_ne {ad : Nat → Nat} {cA : Nat → ClassId} {M : fx_M} {k q : Nat} {f : Nat → Int} (h : q ≠ k) (e : fx_S) : fx_ce ad cA (fx_set M k f) q e = fx_ce ad cA M q e := by
  rcases e with ⟨t, n⟩ | ⟨ci, fs⟩ | l <;> simp [fx_ce, fx_set, h]
theorem fx_wl_set {ad : Nat → Nat} {cA : Nat → ClassId} {SH : List fx_S} {M : fx_M} {k : Nat} {e : fx_S} {f : Nat → Int} {x : va_E} (h : SH[k]? = some e) (hx : x = fx_ce ad cA (fx_set M k f) k e) : (fx_wl ad cA SH M).set k (ad k, x) = fx_wl ad cA SH (fx_set M k f) := by
  refine List.ext_getElem? fun q => ?_
  by_cases hq : q = k
  · subst hq
    have hl : q < (fx_wl ad cA SH M).length := (List.getElem?_eq_some_iff.mp (fx_wl_get (ad := ad) (cA := cA) (M := M) h)).1
    rw [List.getElem?_set_self hl, fx_wl_get h, hx]
  · rw [List.getElem?_set_ne (Ne.symm hq), fx_wl_at, fx_wl_at]
    cases SH[q]? with
    | none => rfl
    | some e' => simp [fx_ce_ne hq]
theorem fx_wl_len {ad : Nat → Nat} {cA : Nat → ClassId} {SH : List fx_S} {M : fx_M} : (fx_wl ad cA SH M).length = SH.length := by simp [fx_wl]
def fx_A (ad : Nat → Nat) (N : Nat) : Nat → Prop := fun q => ∃ k, k < N ∧ q = ad k
theorem fx_D_any {A : Nat → Prop} {ad : Nat → Nat} {cA : Nat → ClassId} {SH : List fx_S} {M M' : fx_M} (h : va_D A (fx_wl ad cA SH M)) : va_D A (fx_wl ad cA SH M') := by
  have key : ∀ (k : Nat) (q : Nat × va_E), (fx_wl ad cA SH M')[k]? = some q → ∃ q', (fx_wl ad cA SH M)[k]? = some q' ∧ q'.1 = q.1 := by
    intro k q hk
    rw [fx_wl_at] at hk ⊢
    cases hs : SH[k]? with
    | none => rw [hs] at hk; cases hk
    | some e =>
      rw [hs] at hk
      cases hk
      exact ⟨_, rfl, rfl⟩
  refine ⟨fun i j p q hi hj hpq => ?_, fun k q hk => ?_⟩
  · obtain ⟨p', h1, h2⟩ := key i p hi
    obtain ⟨q', h3, h4⟩ := key j q hj
    exact h.1 i j p' q' h1 h3 (h2.trans (hpq.trans h4.symm))
  · obtain ⟨q', h1, h2⟩ := key k q hk
    rw [← h2]
    exact h.2 k q' h1
theorem fx_A_of {A : Nat → Prop} {ad : Nat → Nat} {cA : Nat → ClassId} {SH : List fx_S} {M : fx_M} (h : va_D A (fx_wl ad cA SH M)) {q : Nat} (hq : fx_A ad SH.length q) : A q := by
  obtain ⟨k, hk, rfl⟩ := hq
  exact h.2 k (ad k, fx_ce ad cA M k SH[k]) (fx_wl_get (List.getElem?_eq_getElem hk))
theorem fx_D_self {A : Nat → Prop} {ad : Nat → Nat} {cA : Nat → ClassId} {SH : List fx_S} {M : fx_M} (h : va_D A (fx_wl ad cA SH M)) : va_D (fx_A ad SH.length) (fx_wl ad cA SH M) := by
  refine ⟨h.1, fun k q hk => ?_⟩
  have hl := (List.getElem?_eq_some_iff.mp hk).1
  rw [fx_wl_len] at hl
  rw [fx_wl_get (List.getElem?_eq_getElem hl)] at hk
  cases hk
  exact ⟨k, hl, rfl⟩
end
section
/-! What an instruction of the small machine stands for: m in place of o, which lies at pc, len bytes long. CT, CL: constants of the class' pool (index, value), ints and longs; FT, PT: its field links (index, class' number, slot), those that are read, those that are written, LT: its method links (index, method's number); rf, rl: frames and locals of the method's room; RO: of the callees -/
def fx_tg (pcs : List Nat) (pc : Nat) (off t : Int) : Bool := decide ((pc : Int) + off = ((pcs.getD t.toNat 0 : Nat) : Int))
def fx_tgs (pcs : List Nat) (pc : Nat) : List Int → List Int → Bool
  | [], [] => true
  | off :: r, t :: r' => fx_tg pcs pc off t && fx_tgs pcs pc r r'
  | _, _ => false
def fx_tgp (pcs : List Nat) (pc : Nat) : List (Int × Int) → List (Int × Int) → Bool
  | [], [] => true
  | (a, off) :: r, (b, t) :: r' => decide (a = b) && fx_tg pcs pc off t && fx_tgp pcs pc r r'
  | _, _ => false
def fx_nrm (CT CL : List (Nat × Int)) (FT PT : List (Nat × Nat × Nat)) (LT : List (Nat × Nat)) (pcs : List Nat) (G : fx_G) (RO : Nat → Nat × Nat) (rf rl pc len : Nat) (m o : Instr) : Bool := match m with
  | .sipush v => match o with
    | .iconst n => decide (len = 1 ∧ Int32.ofInt n = Int32.ofInt v)
    | .bipush n => decide (len = 2 ∧ (Int8.ofInt n).toInt32 = Int32.ofInt v)
    | .sipush n => decide (len = 3 ∧ (Int16.ofInt n).toInt32 = Int32.ofInt v)
    | .ldc k => decide (len = 2 ∧ (k, v) ∈ CT)
    | .ldc_w k => decide (len = 3 ∧ (k, v) ∈ CT)
    | _ => false
  | .goto_w v => match o with
    | .lconst n => decide (len = 1 ∧ Int64.ofNat (n : Nat) = Int64.ofInt v)
    | .ldc2_w k => decide (len = 3 ∧ (k, v) ∈ CL)
    | _ => false
  | .iload k => match o with
    | .iload_n n => decide (len = 1 ∧ (n : Nat) = k)
    | .iload n => decide (len = 2 ∧ n = k)
    | _ => false
  | .lload k => match o with
    | .lload_n n => decide (len = 1 ∧ (n : Nat) = k)
    | .lload n => decide (len = 2 ∧ n = k)
    | _ => false
  | .aload k => match o with
    | .aload_n n => decide (len = 1 ∧ (n : Nat) = k)
    | .aload n => decide (len = 2 ∧ n = k)
    | _ => false
  | .istore k => match o with
    | .istore_n n => decide (len = 1 ∧ (n : Nat) = k)
    | .istore n => decide (len = 2 ∧ n = k)
    | _ => false
  | .lstore k => match o with
    | .lstore_n n => decide (len = 1 ∧ (n : Nat) = k)
    | .lstore n => decide (len = 2 ∧ n = k)
    | _ => false
  | .astore k => match o with
    | .astore_n n => decide (len = 1 ∧ (n : Nat) = k)
    | .astore n => decide (len = 2 ∧ n = k)
    | _ => false
  | .ifCond c t => match o with
    | .ifCond c' off => decide (len = 3 ∧ c' = c) && fx_tg pcs pc off t
    | _ => false
  | .if_icmp c t => match o with
    | .if_icmp c' off => decide (len = 3 ∧ c' = c) && fx_tg pcs pc off t
    | _ => false
  | .goto t => match o with
    | .goto off => decide (len = 3) && fx_tg pcs pc off t
    | _ => false
  | .tableswitch d lo hi ts => match o with
    | .tableswitch d' lo' hi' offs => decide (lo' = lo ∧ hi' = hi) && fx_tg pcs pc d' d && fx_tgs pcs pc offs.toList ts.toList
    | _ => false
  | .lookupswitch d ts => match o with
    | .lookupswitch d' ps => (ps.toList.zip (ps.toList.drop 1)).all (fun (a, next) => a.1 < next.1) && fx_tg pcs pc d' d && fx_tgp pcs pc ps.toList ts.toList
    | _ => false
  | .invokeinterface ci sl => match o with
    | .getfield k => decide (len = 3 ∧ (k, ci, sl) ∈ FT)
    | _ => false
  | .multianewarray ci sl => match o with
    | .putfield k => decide (len = 3 ∧ (k, ci, sl) ∈ PT)
    | _ => false
  | .invokestatic k => match o with
    | .invokestatic x => decide (len = 3 ∧ k ≠ 1000000 ∧ (x, k) ∈ LT ∧ (G k).2.2.2 = none ∧ (RO k).1 + 1 ≤ rf ∧ 8 + ((G k).2.1 + 11) + (RO k).2 ≤ rl)
    | _ => false
  | .invokevirtual k => match o with
    | .invokevirtual x => decide (len = 3 ∧ k ≠ 1000000 ∧ (x, k) ∈ LT ∧ ((G k).2.2.2).isSome = true ∧ 1 ≤ (G k).1 ∧ (RO k).1 + 1 ≤ rf ∧ 8 + ((G k).2.1 + 11) + (RO k).2 ≤ rl)
    | _ => false
  | .nop => match o with
    | .invokestatic x => decide (len = 3 ∧ (x, 1000000) ∈ LT ∧ 1 ≤ rf ∧ 8 + (nativeFrameWords "java/lang/System" "arraycopy" 5 + 11) ≤ rl)
    | _ => false
  | .iinc _ _ => decide (len = 3 ∧ o = m)
  | .iadd => decide (len = 1 ∧ o = m)
  | .isub => decide (len = 1 ∧ o = m)
  | .imul => decide (len = 1 ∧ o = m)
  | .iand => decide (len = 1 ∧ o = m)
  | .ior => decide (len = 1 ∧ o = m)
  | .ixor => decide (len = 1 ∧ o = m)
  | .ishl => decide (len = 1 ∧ o = m)
  | .ishr => decide (len = 1 ∧ o = m)
  | .iushr => decide (len = 1 ∧ o = m)
  | .idiv => decide (len = 1 ∧ o = m)
  | .irem => decide (len = 1 ∧ o = m)
  | .land => decide (len = 1 ∧ o = m)
  | .lor => decide (len = 1 ∧ o = m)
  | .lshl => decide (len = 1 ∧ o = m)
  | .lushr => decide (len = 1 ∧ o = m)
  | .lcmp => decide (len = 1 ∧ o = m)
  | .i2l => decide (len = 1 ∧ o = m)
  | .l2i => decide (len = 1 ∧ o = m)
  | .i2c => decide (len = 1 ∧ o = m)
  | .dup => decide (len = 1 ∧ o = m)
  | .dup2 => decide (len = 1 ∧ o = m)
  | .iaload => decide (len = 1 ∧ o = m)
  | .baload => decide (len = 1 ∧ o = m)
  | .caload => decide (len = 1 ∧ o = m)
  | .iastore => decide (len = 1 ∧ o = m)
  | .bastore => decide (len = 1 ∧ o = m)
  | .castore => decide (len = 1 ∧ o = m)
  | .aaload => decide (len = 1 ∧ o = m)
  | .arraylength => decide (len = 1 ∧ o = m)
  | .ireturn => decide (len = 1 ∧ o = m)
  | .return_ => decide (len = 1 ∧ o = m)
  | _ => false
/-! numbers -/
theorem fx_lt {x y : Int} (hx : fx_r x) (hy : fx_r y) : Int32.ofInt x < Int32.ofInt y ↔ x < y := by
  rw [Int32.lt_iff_toInt_lt, Int32.toInt_ofInt_of_le hx.1 hx.2, Int32.toInt_ofInt_of_le hy.1 hy.2]
theorem fx_le {x y : Int} (hx : fx_r x) (hy : fx_r y) : Int32.ofInt x ≤ Int32.ofInt y ↔ x ≤ y := by
  rw [Int32.le_iff_toInt_le, Int32.toInt_ofInt_of_le hx.1 hx.2, Int32.toInt_ofInt_of_le hy.1 hy.2]
theorem fx_eq {x y : Int} (hx : fx_r x) (hy : fx_r y) : Int32.ofInt x = Int32.ofInt y ↔ x = y := by
  rw [← Int32.toInt_inj, Int32.toInt_ofInt_of_le hx.1 hx.2, Int32.toInt_ofInt_of_le hy.1 hy.2]
theorem fx_r0 : fx_r 0 := by unfold fx_r; omega
theorem fx_ix_iff {x : Int} {n : Nat} : fx_ix x n = true ↔ 0 ≤ x ∧ x < (n : Int) ∧ x < 2147483648 := by
  simp [fx_ix, and_assoc]
theorem fx_ix_cl {x : Int} {n : Nat} (h : fx_ix x n = true) : (Int32.ofInt x).toNatClampNeg = x.toNat := by
  obtain ⟨h1, h2, h3⟩ := fx_ix_iff.mp h
  exact Int32.toNatClampNeg_ofInt_of_le (by omega) (by omega)
theorem fx_ix_in {x : Int} {n : Nat} (h : fx_ix x n = true) : vp_in (Int32.ofInt x) n := by
  obtain ⟨h1, h2, h3⟩ := fx_ix_iff.mp h
  rw [vp_in_iff, Int32.toInt_ofInt_of_le (by omega) (by omega)]
  exact ⟨h1, h2⟩

/-! the tables' words that the instructions of a class rest on -/
def fx_Tab (own : String) (TG : List Jvm.Cond) (cl : List vw_C) (CT CL : List (Nat × Int)) (FT PT : List (Nat × Nat × Nat)) (LT : List (Nat × Nat)) : Prop :=
  (∀ q ∈ CT, Jvm.Cond.constant own q.1 (Int32.ofInt q.2) ∈ TG) ∧ (∀ q ∈ CL, Jvm.Cond.constantLong own q.1 (Int64.ofInt q.2) ∈ TG) ∧
  (∀ q ∈ FT, ∃ C T N, cl[q.2.1]? = some (C, T, N) ∧ q.2.2 < N ∧ Jvm.Cond.fieldLink own q.1 (T q.2.2).1 (T q.2.2).2.1 (T q.2.2).2.2.1 ∈ TG) ∧
  (∀ q ∈ PT, ∃ C T N, cl[q.2.1]? = some (C, T, N) ∧ q.2.2 < N ∧ Jvm.Cond.fieldLink own q.1 (T q.2.2).1 (T q.2.2).2.1 (T q.2.2).2.2.1 ∈ TG ∧ (T q.2.2).2.2.2 = false ∧ parseFieldDescriptor (T q.2.2).2.2.1 = some .int) ∧
  (∀ q ∈ LT, q.2 = 1000000 → Jvm.Cond.methodLink own q.1 arraycopyName ∈ TG ∧ Jvm.Cond.native arraycopyName ∈ TG ∧ Jvm.Cond.static arraycopyName ∈ TG ∧ Jvm.Cond.initialized "java/lang/System" ∈ TG)
def fx_Cl (TG : List Jvm.Cond) (cl : List vw_C) : Prop := ∀ (ci : Nat) (C : String) (T : u_T) (N : Nat), cl[ci]? = some (C, T, N) →
  (∀ w ∈ u_ws C T N, w ∈ TG) ∧ (∃ ty : Nat → FieldType, ∀ k, k < N → parseFieldDescriptor (T k).2.2.1 = some (ty k)) ∧ (∀ a, a < N → ∀ b, b < N → a ≠ b → (T a).2.1 ≠ (T b).2.1)
def fx_Ty (tys : List (ClassId × FieldType)) (cA : Nat → ClassId) (OC : String) : Prop := tys[0]? = some (cA 0, .int) ∧ tys[1]? = some (cA 1, .boolean) ∧ tys[2]? = some (cA 2, .char) ∧ tys[3]? = some (cA 9, .object OC)
def fx_Wd (D : va_G) (cl : List vw_C) (ad : Nat → Nat) (cA : Nat → ClassId) (SH : List fx_S) (H0 : Heap) (A : Nat → Prop) (M : fx_M) (H : Heap) (locs : List Loc) : Prop :=
  va_P D cl (fx_wl ad cA SH M) H ∧ va_D A (fx_wl ad cA SH M) ∧ va_S A H0 H locs
def fx_X (ad : Nat → Nat) (SH : List fx_S) (Lx : Nat) (MX : Nat → Int) (A : Nat → Prop) (s : State) : Prop :=
  0 < Lx → Lx < 2147483648 ∧ va_X (ad SH.length) Lx (fun j => Int32.ofInt (MX j)) s s.heap ∧ ad SH.length < s.heap.size ∧ ¬ A (ad SH.length)
/-! what a step says of its start -/
theorem fx_bin_some {f : Int → Int → Int} {i i' : Nat} {ls ls' st st' : List fx_V} {M M' : fx_M} (h : fx_bin f i ls st M = some (i', ls', st', M')) : ∃ x y r, st = .inl y :: .inl x :: r ∧ i' = i + 1 ∧ ls' = ls ∧ st' = .inl (f x y) :: r ∧ M' = M := by
  unfold fx_bin at h
  split at h
  next y x r => cases h; exact ⟨x, y, r, rfl, rfl, rfl, rfl, rfl⟩
  next => cases h
theorem fx_binN_some {f : Int → Int → Int} {i i' : Nat} {ls ls' st st' : List fx_V} {M M' : fx_M} (h : fx_binN f i ls st M = some (i', ls', st', M')) : ∃ x y r, st = .inl y :: .inl x :: r ∧ ¬ Int32.ofInt y = 0 ∧ i' = i + 1 ∧ ls' = ls ∧ st' = .inl (f x y) :: r ∧ M' = M := by
  unfold fx_binN at h
  split at h
  next y x r =>
    split at h
    · cases h
    · next hz => cases h; exact ⟨x, y, r, rfl, hz, rfl, rfl, rfl, rfl⟩
  next => cases h
theorem fx_binL_some {f : Int64 → Int64 → Int64} {i i' : Nat} {ls ls' st st' : List fx_V} {M M' : fx_M} (h : fx_binL f i ls st M = some (i', ls', st', M')) : ∃ x y r, st = .inr (.inl y) :: .inr (.inl x) :: r ∧ i' = i + 1 ∧ ls' = ls ∧ st' = .inr (.inl (f x y)) :: r ∧ M' = M := by
  unfold fx_binL at h
  split at h
  next y x r => cases h; exact ⟨x, y, r, rfl, rfl, rfl, rfl, rfl⟩
  next => cases h
theorem fx_binLI_some {f : Int64 → Int32 → Int64} {i i' : Nat} {ls ls' st st' : List fx_V} {M M' : fx_M} (h : fx_binLI f i ls st M = some (i', ls', st', M')) : ∃ x y r, st = .inl y :: .inr (.inl x) :: r ∧ i' = i + 1 ∧ ls' = ls ∧ st' = .inr (.inl (f x (Int32.ofInt y))) :: r ∧ M' = M := by
  unfold fx_binLI at h
  split at h
  next y x r => cases h; exact ⟨x, y, r, rfl, rfl, rfl, rfl, rfl⟩
  next => cases h
theorem fx_ld_some {ty : Nat} {SH : List fx_S} {i i' : Nat} {ls ls' st st' : List fx_V} {M M' : fx_M} (h : fx_ld ty SH i ls st M = some (i', ls', st', M')) : ∃ x k r n, st = .inl x :: .inr (.inr (some k)) :: r ∧ SH[k]? = some (.inl (ty, n)) ∧ fx_ix x n = true ∧ i' = i + 1 ∧ ls' = ls ∧ st' = .inl (M k x.toNat) :: r ∧ M' = M := by
  unfold fx_ld at h
  split at h
  next x k r =>
    split at h
    next t n hs =>
      split at h
      next hc => obtain ⟨rfl, hi⟩ := hc; cases h; exact ⟨x, k, r, n, rfl, hs, hi, rfl, rfl, rfl, rfl⟩
      next => cases h
    next => cases h
  next => cases h
theorem fx_sd_some {ty : Nat} {SH : List fx_S} {i i' : Nat} {ls ls' st st' : List fx_V} {M M' : fx_M} (h : fx_sd ty SH i ls st M = some (i', ls', st', M')) : ∃ v x k r n, st = .inl v :: .inl x :: .inr (.inr (some k)) :: r ∧ SH[k]? = some (.inl (ty, n)) ∧ fx_ix x n = true ∧ fx_tk ty v = true ∧ i' = i + 1 ∧ ls' = ls ∧ st' = r ∧ M' = fx_set M k (fx_up (M k) x.toNat v) := by
  unfold fx_sd at h
  split at h
  next v x k r =>
    split at h
    next t n hs =>
      split at h
      next hc => obtain ⟨rfl, hi, ht⟩ := hc; cases h; exact ⟨v, x, k, _, n, rfl, hs, hi, ht, rfl, rfl, rfl, rfl⟩
      next => cases h
    next => cases h
  next => cases h
theorem fx_upd {f : Nat → Int} {x : Int} {n : Nat} (hi : fx_ix x n = true) (v : Int) : upd (fun j => Int32.ofInt (f j)) (Int32.ofInt x).toNatClampNeg (Int32.ofInt v) = fun j => Int32.ofInt (fx_up f x.toNat v j) := by
  rw [fx_ix_cl hi]
  funext j
  unfold upd fx_up
  by_cases hj : j = x.toNat <;> simp [hj]
theorem fx_nar_z {v : Int} (h : fx_tk 1 v = true) : vp_nar .boolean (Int32.ofInt v) = Int32.ofInt v := by
  simp only [fx_tk, Bool.or_eq_true, decide_eq_true_eq] at h
  rcases h with rfl | rfl <;> decide
theorem fx_char {v : Int} (h0 : 0 ≤ v) (h1 : v < 65536) : Int32.ofInt v = nI v.toNat := by
  rw [show v = ((v.toNat : Nat) : Int) by omega, Int32.ofInt_eq_ofNat]
  rfl
theorem fx_nar_c {v : Int} (h : fx_tk 2 v = true) : vp_nar .char (Int32.ofInt v) = Int32.ofInt v := by
  simp only [fx_tk, Bool.and_eq_true, decide_eq_true_eq] at h
  rw [fx_char h.1 h.2]
  have := (pk_charN (q := v.toNat) (by omega)).1
  unfold vp_nar
  rw [this]
end
section
section FXS
variable {p : Program} {l : Launch} {e : Env} {R : Room} {s : State} {m : MethodId} {args : Array Value} {below : List Frame} {meth : Method} {c : Code} {H : Heap} {locs : List Loc} {cells slots : Nat} {Q : State → Prop}
variable {cc : ByteArray} {nL rf rl len : Nat} {own OC : String} {TG : List Jvm.Cond} {cl : List vw_C} {CT CL : List (Nat × Int)} {FT PT : List (Nat × Nat × Nat)} {LT : List (Nat × Nat)} {pcs : List Nat} {G : fx_G} {RO : Nat → Nat × Nat}
variable {D : va_G} {tys : List (ClassId × FieldType)} {ad : Nat → Nat} {cA : Nat → ClassId} {SH : List fx_S} {Lx : Nat} {MX : Nat → Int} {A : Nat → Prop}
set_option maxHeartbeats 4000000 in
theorem fx_if_W (hx : p.tables.exec = Jvm.exec) (hb : c.code = cc) {cd : Jvm.ClassFile.Cond} {x : Int} {pc tgt : Nat} {off : Int} {L : Array Slot} {rest : List Value} (hr : fx_r x) (hd : decode cc pc = .ok (.ifCond cd off, 3)) (ht : (pc : Int) + off = (tgt : Int))
    (k : W p l e R s m args below meth c H locs cells slots Q (F0 m (if fx_cmp cd x 0 = true then tgt else pc + 3) L rest)) : W p l e R s m args below meth c H locs cells slots Q (F0 m pc L (.int (Int32.ofInt x) :: rest)) := by
  have e0 : (0 : Int32) = Int32.ofInt 0 := rfl
  cases cd <;> simp only [fx_cmp, decide_eq_true_eq] at k
  · refine lv_if_eq hx hb hd ht (fun h => ?_) (fun h => ?_) <;> rw [e0, fx_eq hr fx_r0] at h
    · rwa [if_pos h] at k
    · rwa [if_neg h] at k
  · refine lv_if_ne hx hb hd ht (fun h => ?_) (fun h => ?_) <;> rw [e0] at h <;> rw [fx_eq hr fx_r0] at h
    · rwa [if_pos h] at k
    · rwa [if_neg (fun q => q h)] at k
  · refine lv_if_lt hx hb hd ht (fun h => ?_) (fun h => ?_) <;> rw [e0, fx_lt hr fx_r0] at h
    · rwa [if_pos h] at k
    · rwa [if_neg h] at k
  · refine lv_if_ge hx hb hd ht (fun h => ?_) (fun h => ?_) <;> rw [e0, fx_le fx_r0 hr] at h
    · rwa [if_pos h] at k
    · rwa [if_neg h] at k
  · refine lv_if_gt hx hb hd ht (fun h => ?_) (fun h => ?_) <;> rw [e0, fx_lt fx_r0 hr] at h
    · rwa [if_pos h] at k
    · rwa [if_neg h] at k
  · refine lv_if_le hx hb hd ht (fun h => ?_) (fun h => ?_) <;> rw [e0, fx_le hr fx_r0] at h
    · rwa [if_pos h] at k
    · rwa [if_neg h] at k
set_option maxHeartbeats 4000000 in
theorem fx_icmp_W (hx : p.tables.exec = Jvm.exec) (hb : c.code = cc) {cd : Jvm.ClassFile.Cond} {x y : Int} {pc tgt : Nat} {off : Int} {L : Array Slot} {rest : List Value} (hr : fx_r x) (hy : fx_r y) (hd : decode cc pc = .ok (.if_icmp cd off, 3)) (ht : (pc : Int) + off = (tgt : Int))
    (k : W p l e R s m args below meth c H locs cells slots Q (F0 m (if fx_cmp cd x y = true then tgt else pc + 3) L rest)) : W p l e R s m args below meth c H locs cells slots Q (F0 m pc L (.int (Int32.ofInt y) :: .int (Int32.ofInt x) :: rest)) := by
  cases cd <;> simp only [fx_cmp, decide_eq_true_eq] at k
  · refine lv_icmp_eq hx hb hd ht (fun h => ?_) (fun h => ?_) <;> rw [fx_eq hr hy] at h
    · rwa [if_pos h] at k
    · rwa [if_neg h] at k
  · refine lv_icmp_ne hx hb hd ht (fun h => ?_) (fun h => ?_) <;> rw [fx_eq hr hy] at h
    · rwa [if_pos h] at k
    · rwa [if_neg (fun q => q h)] at k
  · refine lv_icmp_lt hx hb hd ht (fun h => ?_) (fun h => ?_) <;> rw [fx_lt hr hy] at h
    · rwa [if_pos h] at k
    · rwa [if_neg h] at k
  · refine lv_icmp_ge hx hb hd ht (fun h => ?_) (fun h => ?_) <;> rw [fx_le hy hr] at h
    · rwa [if_pos h] at k
    · rwa [if_neg h] at k
  · refine lv_icmp_gt hx hb hd ht (fun h => ?_) (fun h => ?_) <;> rw [fx_lt hy hr] at h
    · rwa [if_pos h] at k
    · rwa [if_neg h] at k
  · refine lv_icmp_le hx hb hd ht (fun h => ?_) (fun h => ?_) <;> rw [fx_le hr hy] at h
    · rwa [if_pos h] at k
    · rwa [if_neg h] at k
theorem fx_tgs_get {pc : Nat} : ∀ {os ts : List Int} (_ : fx_tgs pcs pc os ts = true) {k : Nat} {t : Int}, ts[k]? = some t → ∃ off, os[k]? = some off ∧ (pc : Int) + off = ((pcs.getD t.toNat 0 : Nat) : Int)
  | [], [], _, k, t, ht => by simp at ht
  | [], _ :: _, h, _, _, _ => by simp [fx_tgs] at h
  | _ :: _, [], h, _, _, _ => by simp [fx_tgs] at h
  | off :: r, t' :: r', h, k, t, ht => by
    simp only [fx_tgs, Bool.and_eq_true, fx_tg, decide_eq_true_eq] at h
    cases k with
    | zero =>
      simp only [List.getElem?_cons_zero, Option.some.injEq] at ht
      subst ht
      exact ⟨off, rfl, h.1⟩
    | succ k =>
      simp only [List.getElem?_cons_succ] at ht
      obtain ⟨o, h1, h2⟩ := fx_tgs_get h.2 ht
      exact ⟨o, by simpa using h1, h2⟩
theorem fx_tgp_lk {pc : Nat} {d' d : Int} (hd : (pc : Int) + d' = ((pcs.getD d.toNat 0 : Nat) : Int)) {x : Int} : ∀ {os ts : List (Int × Int)} (_ : fx_tgp pcs pc os ts = true), (pc : Int) + Op.lookupswitch.offset os d' x = ((pcs.getD (fx_lk ts d x).toNat 0 : Nat) : Int)
  | [], [], _ => by simpa [Op.lookupswitch.offset, fx_lk] using hd
  | [], _ :: _, h => by simp [fx_tgp] at h
  | _ :: _, [], h => by simp [fx_tgp] at h
  | (a, off) :: r, (b, t) :: r', h => by
    simp only [fx_tgp, Bool.and_eq_true, fx_tg, decide_eq_true_eq] at h
    obtain ⟨⟨rfl, h1⟩, h2⟩ := h
    have ih := fx_tgp_lk hd (x := x) h2
    by_cases hxa : x = a
    · subst hxa
      simpa [Op.lookupswitch.offset, fx_lk] using h1
    · have hax : ¬ a = x := fun q => hxa q.symm
      simpa [Op.lookupswitch.offset, fx_lk, hxa, hax] using ih

theorem fx_ce_fld {ad : Nat → Nat} {cA : Nat → ClassId} {M : fx_M} {k sl ci : Nat} {v : Int} {fs : List (Option Nat)} (h : fs[sl]? = some none) : (Sum.inr (ci, (fs.zipIdx.map (fun q => match q.1 with
    | some r => Value.ref (ad r)
    | none => .int (Int32.ofInt (M k q.2)))).set sl (.int (Int32.ofInt v))) : va_E) = fx_ce ad cA (fx_set M k (fx_up (M k) sl v)) k (.inr (.inl (ci, fs))) := by
  have hfl : sl < fs.length := (List.getElem?_eq_some_iff.mp h).1
  show Sum.inr _ = Sum.inr _
  congr 2
  refine List.ext_getElem? fun q => ?_
  by_cases hq : q = sl
  · subst hq
    rw [List.getElem?_set_self (by simpa using hfl), List.getElem?_map, List.getElem?_zipIdx, h]
    simp [fx_set, fx_up]
  · rw [List.getElem?_set_ne (Ne.symm hq), List.getElem?_map, List.getElem?_map, List.getElem?_zipIdx]
    rcases fs[q]? with _ | _ | a
    · rfl
    · simp [fx_set, fx_up, hq]
    · rfl
theorem fx_ce_cp {ad : Nat → Nat} {cA : Nat → ClassId} {M : fx_M} {k n1 : Nat} (f : Nat → Int) (sp dp n : Nat) : (Sum.inl (cA 0, (n1, Sum.inl (va_cpy (fun j => Int32.ofInt (f j)) (fun j => Int32.ofInt (M k j)) sp dp n))) : va_E) = fx_ce ad cA (fx_set M k (fx_cp f (M k) sp dp n)) k (.inl (0, n1)) := by
  show Sum.inl _ = Sum.inl _
  congr 3
  refine congrArg Sum.inl ?_
  funext j
  simp only [va_cpy, fx_set, fx_cp, if_true]
  split <;> rfl
set_option maxHeartbeats 16000000 in
set_option maxRecDepth 4000 in
theorem fx_step_W {o mm : Instr} {i i' pc : Nat} {ls ls' st st' : List fx_V} {M M' : fx_M} {L : Array Slot} (hx : p.tables.exec = Jvm.exec) (hb : c.code = cc) (hml : c.maxLocals = nL) (hown : s.vm.findClass own = some m.cls) (hts : ∀ w ∈ TG, w.before args s = true)
    (hT : fx_Tab own TG cl CT CL FT PT LT) (hcl : fx_Cl TG cl) (hty : fx_Ty tys cA OC) (hrf : rf ≤ R.frames) (hrl : rl ≤ R.locals) (hK : va_K D cl tys s) (hW : fx_Wd D cl ad cA SH s.heap A M H locs) (hX : fx_X ad SH Lx MX A s)
    (hl : lv_has L nL (fx_prs ad ls)) (hlen : ls.length = nL) (hd : decode cc pc = .ok (o, len)) (hn : fx_nrm CT CL FT PT LT pcs G RO rf rl pc len mm o = true) (hpc1 : pcs.getD (i + 1) 0 = pc + len)
    (hs : fx_step SH Lx MX mm i ls st M = some (i', ls', st', M'))
    (kk : ∀ (H' : Heap) (locs' : List Loc) (L' : Array Slot), fx_Wd D cl ad cA SH s.heap A M' H' locs' → lv_has L' nL (fx_prs ad ls') → ls'.length = nL → W p l e R s m args below meth c H' locs' cells slots Q (F0 m (pcs.getD i' 0) L' (st'.map (fx_g ad)))) :
    W p l e R s m args below meth c H locs cells slots Q (F0 m pc L (st.map (fx_g ad))) := by
  obtain ⟨hCT, hCL, hFT, hPT, hLT⟩ := hT
  obtain ⟨ht0, ht1, ht2, ht3⟩ := hty
  cases mm <;> simp only [fx_nrm, Bool.false_eq_true] at hn
  all_goals simp only [fx_step] at hs
  case iadd =>
    simp only [decide_eq_true_eq] at hn
    obtain ⟨rfl, rfl⟩ := hn
    obtain ⟨x, y, r, rfl, rfl, rfl, rfl, rfl⟩ := fx_bin_some hs
    have K := kk _ _ _ hW hl hlen
    rw [hpc1] at K
    refine lv_iadd hx hb hd ?_
    rw [← Int32.ofInt_add]
    exact K
  case isub =>
    simp only [decide_eq_true_eq] at hn
    obtain ⟨rfl, rfl⟩ := hn
    obtain ⟨x, y, r, rfl, rfl, rfl, rfl, rfl⟩ := fx_bin_some hs
    have K := kk _ _ _ hW hl hlen
    rw [hpc1] at K
    refine lv_isub hx hb hd ?_
    rw [← Int32.ofInt_sub]
    exact K
  case imul =>
    simp only [decide_eq_true_eq] at hn
    obtain ⟨rfl, rfl⟩ := hn
    obtain ⟨x, y, r, rfl, rfl, rfl, rfl, rfl⟩ := fx_bin_some hs
    have K := kk _ _ _ hW hl hlen
    rw [hpc1] at K
    refine lv_imul hx hb hd ?_
    rw [← Int32.ofInt_mul]
    exact K
  case iand =>
    simp only [decide_eq_true_eq] at hn
    obtain ⟨rfl, rfl⟩ := hn
    obtain ⟨x, y, r, rfl, rfl, rfl, rfl, rfl⟩ := fx_bin_some hs
    have K := kk _ _ _ hW hl hlen
    rw [hpc1] at K
    refine lv_iand hx hb hd ?_
    rw [← Int32.ofInt_toInt (Int32.ofInt x &&& Int32.ofInt y)]
    exact K
  case ior =>
    simp only [decide_eq_true_eq] at hn
    obtain ⟨rfl, rfl⟩ := hn
    obtain ⟨x, y, r, rfl, rfl, rfl, rfl, rfl⟩ := fx_bin_some hs
    have K := kk _ _ _ hW hl hlen
    rw [hpc1] at K
    refine lv_ior hx hb hd ?_
    rw [← Int32.ofInt_toInt (Int32.ofInt x ||| Int32.ofInt y)]
    exact K
  case ixor =>
    simp only [decide_eq_true_eq] at hn
    obtain ⟨rfl, rfl⟩ := hn
    obtain ⟨x, y, r, rfl, rfl, rfl, rfl, rfl⟩ := fx_bin_some hs
    have K := kk _ _ _ hW hl hlen
    rw [hpc1] at K
    refine lv_ixor hx hb hd ?_
    rw [← Int32.ofInt_toInt (Int32.ofInt x ^^^ Int32.ofInt y)]
    exact K
  case ishl =>
    simp only [decide_eq_true_eq] at hn
    obtain ⟨rfl, rfl⟩ := hn
    obtain ⟨x, y, r, rfl, rfl, rfl, rfl, rfl⟩ := fx_bin_some hs
    have K := kk _ _ _ hW hl hlen
    rw [hpc1] at K
    refine lv_ishl hx hb hd ?_
    rw [← Int32.ofInt_toInt (Int32.ofInt x <<< (Int32.ofInt y &&& 31))]
    exact K
  case ishr =>
    simp only [decide_eq_true_eq] at hn
    obtain ⟨rfl, rfl⟩ := hn
    obtain ⟨x, y, r, rfl, rfl, rfl, rfl, rfl⟩ := fx_bin_some hs
    have K := kk _ _ _ hW hl hlen
    rw [hpc1] at K
    refine lv_ishr hx hb hd ?_
    rw [← Int32.ofInt_toInt (Int32.ofInt x >>> (Int32.ofInt y &&& 31))]
    exact K
  case iushr =>
    simp only [decide_eq_true_eq] at hn
    obtain ⟨rfl, rfl⟩ := hn
    obtain ⟨x, y, r, rfl, rfl, rfl, rfl, rfl⟩ := fx_bin_some hs
    have K := kk _ _ _ hW hl hlen
    rw [hpc1] at K
    exact lv_iushr hx hb hd (v := Int32.ofInt (fx_ushr x y)) (Int32.ofInt_toInt _).symm K
  case idiv =>
    simp only [decide_eq_true_eq] at hn
    obtain ⟨rfl, rfl⟩ := hn
    obtain ⟨x, y, r, rfl, hz, rfl, rfl, rfl, rfl⟩ := fx_binN_some hs
    have K := kk _ _ _ hW hl hlen
    rw [hpc1] at K
    refine lv_idiv hx hb hd hz ?_
    rw [← Int32.ofInt_toInt (Int32.ofInt x / Int32.ofInt y)]
    exact K
  case irem =>
    simp only [decide_eq_true_eq] at hn
    obtain ⟨rfl, rfl⟩ := hn
    obtain ⟨x, y, r, rfl, hz, rfl, rfl, rfl, rfl⟩ := fx_binN_some hs
    have K := kk _ _ _ hW hl hlen
    rw [hpc1] at K
    refine lv_irem hx hb hd hz ?_
    rw [← Int32.ofInt_toInt (Int32.ofInt x - Int32.ofInt x / Int32.ofInt y * Int32.ofInt y)]
    exact K
  case land =>
    simp only [decide_eq_true_eq] at hn
    obtain ⟨rfl, rfl⟩ := hn
    obtain ⟨x, y, r, rfl, rfl, rfl, rfl, rfl⟩ := fx_binL_some hs
    have K := kk _ _ _ hW hl hlen
    rw [hpc1] at K
    exact lv_land hx hb hd K
  case lor =>
    simp only [decide_eq_true_eq] at hn
    obtain ⟨rfl, rfl⟩ := hn
    obtain ⟨x, y, r, rfl, rfl, rfl, rfl, rfl⟩ := fx_binL_some hs
    have K := kk _ _ _ hW hl hlen
    rw [hpc1] at K
    exact lv_lor hx hb hd K
  case lshl =>
    simp only [decide_eq_true_eq] at hn
    obtain ⟨rfl, rfl⟩ := hn
    obtain ⟨x, y, r, rfl, rfl, rfl, rfl, rfl⟩ := fx_binLI_some hs
    have K := kk _ _ _ hW hl hlen
    rw [hpc1] at K
    exact lv_lshl hx hb hd rfl K
  case lushr =>
    simp only [decide_eq_true_eq] at hn
    obtain ⟨rfl, rfl⟩ := hn
    obtain ⟨x, y, r, rfl, rfl, rfl, rfl, rfl⟩ := fx_binLI_some hs
    have K := kk _ _ _ hW hl hlen
    rw [hpc1] at K
    exact lv_lushr hx hb hd rfl K
  case lcmp =>
    simp only [decide_eq_true_eq] at hn
    obtain ⟨rfl, rfl⟩ := hn
    split at hs
    next y x r =>
      cases hs
      have K := kk _ _ _ hW hl hlen
      rw [hpc1] at K
      refine W.lcmp hx hb hd ?_
      rw [← Int32.ofInt_toInt (lg_cmp x y)]
      exact K
    next => cases hs
  case i2l =>
    simp only [decide_eq_true_eq] at hn
    obtain ⟨rfl, rfl⟩ := hn
    split at hs
    next x r =>
      cases hs
      have K := kk _ _ _ hW hl hlen
      rw [hpc1] at K
      exact lv_i2l hx hb hd rfl K
    next => cases hs
  case l2i =>
    simp only [decide_eq_true_eq] at hn
    obtain ⟨rfl, rfl⟩ := hn
    split at hs
    next x r =>
      cases hs
      have K := kk _ _ _ hW hl hlen
      rw [hpc1] at K
      exact lv_l2i hx hb hd (Int32.ofInt_toInt _).symm K
    next => cases hs
  case i2c =>
    simp only [decide_eq_true_eq] at hn
    obtain ⟨rfl, rfl⟩ := hn
    split at hs
    next x r =>
      cases hs
      have K := kk _ _ _ hW hl hlen
      rw [hpc1] at K
      exact lv_i2c hx hb hd (v := Int32.ofInt (fx_i2c x)) (Int32.ofInt_toInt _).symm K
    next => cases hs
  case dup =>
    simp only [decide_eq_true_eq] at hn
    obtain ⟨rfl, rfl⟩ := hn
    split at hs
    next v r =>
      split at hs
      next hv =>
        cases hs
        have K := kk _ _ _ hW hl hlen
        rw [hpc1] at K
        exact lv_dup hx hb hd ((fx_ct_g v).trans hv) K
      next => cases hs
    next => cases hs
  case dup2 =>
    simp only [decide_eq_true_eq] at hn
    obtain ⟨rfl, rfl⟩ := hn
    split at hs
    next v w r =>
      split at hs
      next hv =>
        cases hs
        have K := kk _ _ _ hW hl hlen
        rw [hpc1] at K
        exact lv_dup2_11 hx hb hd ((fx_ct_g v).trans hv.1) ((fx_ct_g w).trans hv.2) K
      next => cases hs
    next => cases hs
  case sipush =>
    rename_i v
    cases hs
    have K := kk _ _ _ hW hl hlen
    rw [hpc1] at K
    split at hn
    · simp only [decide_eq_true_eq] at hn; obtain ⟨rfl, h2⟩ := hn; exact lv_iconst hx hb hd h2 K
    · simp only [decide_eq_true_eq] at hn; obtain ⟨rfl, h2⟩ := hn; exact lv_bipush hx hb hd h2 K
    · simp only [decide_eq_true_eq] at hn; obtain ⟨rfl, h2⟩ := hn; exact lv_sipush hx hb hd h2 K
    · simp only [decide_eq_true_eq] at hn; obtain ⟨rfl, h2⟩ := hn; exact lv_ldc hx hb hown (hts _ (hCT _ h2)) hd K
    · simp only [decide_eq_true_eq] at hn; obtain ⟨rfl, h2⟩ := hn; exact lv_ldcw hx hb hown (hts _ (hCT _ h2)) hd K
    · cases hn
  case goto_w =>
    rename_i v
    cases hs
    have K := kk _ _ _ hW hl hlen
    rw [hpc1] at K
    split at hn
    · simp only [decide_eq_true_eq] at hn; obtain ⟨rfl, h2⟩ := hn; exact lv_lconst hx hb hd h2 K
    · simp only [decide_eq_true_eq] at hn; obtain ⟨rfl, h2⟩ := hn; exact lv_ldc2 hx hb hown (hts _ (hCL _ h2)) hd K
    · cases hn
  case iload =>
    split at hs
    next x hk =>
      cases hs
      have K := kk _ _ _ hW hl hlen
      rw [hpc1] at K
      have hg := fx_lh_get hl hk rfl
      split at hn
      · simp only [decide_eq_true_eq] at hn; obtain ⟨rfl, h2⟩ := hn; exact lv_iload_n hx hb hd h2 hg K
      · simp only [decide_eq_true_eq] at hn; obtain ⟨rfl, rfl⟩ := hn; exact lv_iload hx hb hd hg K
      · cases hn
    next => cases hs
  case lload =>
    split at hs
    next x hk =>
      cases hs
      have K := kk _ _ _ hW hl hlen
      rw [hpc1] at K
      have hg := fx_lh_get hl hk rfl
      split at hn
      · simp only [decide_eq_true_eq] at hn; obtain ⟨rfl, h2⟩ := hn; exact lv_lload_n hx hb hd h2 hg K
      · simp only [decide_eq_true_eq] at hn; obtain ⟨rfl, rfl⟩ := hn; exact lv_lload hx hb hd hg K
      · cases hn
    next => cases hs
  case aload =>
    split at hs
    next x hk =>
      cases hs
      have K := kk _ _ _ hW hl hlen
      rw [hpc1] at K
      have hg := fx_lh_get hl hk rfl
      split at hn
      · simp only [decide_eq_true_eq] at hn; obtain ⟨rfl, h2⟩ := hn; exact lv_aload_n hx hb hd h2 hg K
      · simp only [decide_eq_true_eq] at hn; obtain ⟨rfl, rfl⟩ := hn; exact lv_aload hx hb hd hg K
      · cases hn
    next => cases hs
  case istore =>
    rename_i k0
    split at hs
    next x r =>
      split at hs
      next hf =>
        cases hs
        have hk : k0 < nL := by rw [← hlen]; exact of_decide_eq_true ((Bool.and_eq_true _ _).mp hf).1
        split at hn
        · simp only [decide_eq_true_eq] at hn; obtain ⟨rfl, h2⟩ := hn; refine lv_istore_n hx hb hd h2 hl hk rfl (fun L' hl' => ?_); rw [← hpc1]; exact kk _ _ _ hW (fx_lh_set rfl hf hl') (by rw [List.length_set]; exact hlen)
        · simp only [decide_eq_true_eq] at hn; obtain ⟨rfl, rfl⟩ := hn; refine lv_istore hx hb hd hl hk rfl (fun L' hl' => ?_); rw [← hpc1]; exact kk _ _ _ hW (fx_lh_set rfl hf hl') (by rw [List.length_set]; exact hlen)
        · cases hn
      next => cases hs
    next => cases hs
  case astore =>
    rename_i k0
    split at hs
    next x r =>
      split at hs
      next hf =>
        cases hs
        have hk : k0 < nL := by rw [← hlen]; exact of_decide_eq_true ((Bool.and_eq_true _ _).mp hf).1
        split at hn
        · simp only [decide_eq_true_eq] at hn; obtain ⟨rfl, h2⟩ := hn; refine lv_astore_n hx hb hd h2 hl hk rfl (fun L' hl' => ?_); rw [← hpc1]; exact kk _ _ _ hW (fx_lh_set rfl hf hl') (by rw [List.length_set]; exact hlen)
        · simp only [decide_eq_true_eq] at hn; obtain ⟨rfl, rfl⟩ := hn; refine lv_astore hx hb hd hl hk rfl (fun L' hl' => ?_); rw [← hpc1]; exact kk _ _ _ hW (fx_lh_set rfl hf hl') (by rw [List.length_set]; exact hlen)
        · cases hn
      next => cases hs
    next => cases hs
  case lstore =>
    rename_i k0
    split at hs
    next x r =>
      split at hs
      next hf =>
        cases hs
        have hk : k0 + 1 < nL := by rw [← hlen]; exact hf.2
        split at hn
        · simp only [decide_eq_true_eq] at hn; obtain ⟨rfl, h2⟩ := hn; refine lv_lstore_n hx hb hd h2 hl hk rfl (fun L' hl' => ?_); rw [← hpc1]; exact kk _ _ _ hW (fx_lh_set2 hf.1 hf.2 hl') (by rw [List.length_set, List.length_set]; exact hlen)
        · simp only [decide_eq_true_eq] at hn; obtain ⟨rfl, rfl⟩ := hn; refine lv_lstore hx hb hd hl hk rfl (fun L' hl' => ?_); rw [← hpc1]; exact kk _ _ _ hW (fx_lh_set2 hf.1 hf.2 hl') (by rw [List.length_set, List.length_set]; exact hlen)
        · cases hn
      next => cases hs
    next => cases hs
  case iinc =>
    simp only [decide_eq_true_eq] at hn
    obtain ⟨rfl, rfl⟩ := hn
    rename_i k0 n0
    split at hs
    next x hk =>
      split at hs
      next hf =>
        cases hs
        have hkl : k0 < nL := by rw [← hlen]; exact of_decide_eq_true ((Bool.and_eq_true _ _).mp hf).1
        obtain ⟨z, hz⟩ := List.getElem?_of_mem (fx_prs_mem.mpr ⟨_, hk, rfl⟩ : (k0, Value.int (Int32.ofInt x)) ∈ fx_prs ad ls)
        refine lv_iinc hx hb hd hl hz (v := Int32.ofInt (x + n0)) (by rw [Int32.ofInt_add]) hkl rfl (fun L' hl' => ?_)
        rw [← hpc1]
        exact kk _ _ _ hW (fx_lh_set rfl hf hl') (by rw [List.length_set]; exact hlen)
      next => cases hs
    next => cases hs
  case ifCond =>
    rename_i cd t
    split at hs
    next x r =>
      split at hs
      next hr =>
        cases hs
        have K := kk _ _ _ hW hl hlen
        split at hn
        · simp only [Bool.and_eq_true, decide_eq_true_eq, fx_tg] at hn
          obtain ⟨⟨rfl, rfl⟩, ht⟩ := hn
          refine fx_if_W hx hb (fx_rb_iff.mp hr) hd ht ?_
          rw [← hpc1, ← apply_ite (fun z => pcs.getD z 0)]
          exact K
        · cases hn
      next => cases hs
    next => cases hs
  case if_icmp =>
    rename_i cd t
    split at hs
    next y x r =>
      split at hs
      next hr =>
        cases hs
        have K := kk _ _ _ hW hl hlen
        split at hn
        · simp only [Bool.and_eq_true, decide_eq_true_eq, fx_tg] at hn
          obtain ⟨⟨rfl, rfl⟩, ht⟩ := hn
          refine fx_icmp_W hx hb (fx_rb_iff.mp hr.1) (fx_rb_iff.mp hr.2) hd ht ?_
          rw [← hpc1, ← apply_ite (fun z => pcs.getD z 0)]
          exact K
        · cases hn
      next => cases hs
    next => cases hs
  case goto =>
    cases hs
    have K := kk _ _ _ hW hl hlen
    split at hn
    · simp only [Bool.and_eq_true, decide_eq_true_eq, fx_tg] at hn
      obtain ⟨rfl, ht⟩ := hn
      exact lv_goto hx hb hd ht K
    · cases hn
  case tableswitch =>
    rename_i d lo hi ts
    split at hs
    next x r =>
      split at hs
      next hr =>
        have hr := fx_rb_iff.mp hr
        have ex : (Int32.ofInt x).toInt = x := Int32.toInt_ofInt_of_le hr.1 hr.2
        split at hn
        · simp only [Bool.and_eq_true, decide_eq_true_eq, fx_tg] at hn
          obtain ⟨⟨⟨rfl, rfl⟩, hdt⟩, htt⟩ := hn
          split at hs
          next hc =>
            cases hs
            exact lv_tableOut hx hb hd (by rw [ex]; exact hc) hdt (kk _ _ _ hW hl hlen)
          next hc =>
            split at hs
            next t ht =>
              cases hs
              obtain ⟨off, h1, h2⟩ := fx_tgs_get htt (k := (x - _).toNat) (by rw [Array.getElem?_toList]; exact ht)
              exact lv_tableIn hx hb hd (by rw [ex]; omega) (by rw [ex]; omega) (by rw [ex, ← Array.getElem?_toList]; exact h1) h2 (kk _ _ _ hW hl hlen)
            next => cases hs
        · cases hn
      next => cases hs
    next => cases hs
  case lookupswitch =>
    rename_i d ts
    split at hs
    next x r =>
      split at hs
      next hr =>
        cases hs
        have hr := fx_rb_iff.mp hr
        have ex : (Int32.ofInt x).toInt = x := Int32.toInt_ofInt_of_le hr.1 hr.2
        split at hn
        · simp only [Bool.and_eq_true, fx_tg] at hn
          obtain ⟨⟨hz, hdt⟩, htt⟩ := hn
          simp only [decide_eq_true_eq] at hdt
          exact lv_lookup hx hb hd hz rfl (by rw [ex]; exact fx_tgp_lk hdt htt) (kk _ _ _ hW hl hlen)
        · cases hn
      next => cases hs
    next => cases hs
  case baload =>
    simp only [decide_eq_true_eq] at hn
    obtain ⟨rfl, rfl⟩ := hn
    obtain ⟨x, k, r, n, rfl, hk, hi, rfl, rfl, rfl, rfl⟩ := fx_ld_some hs
    have K := kk _ _ _ hW hl hlen
    rw [hpc1] at K
    refine va_zald hx hb hK hW.1 k 1 (fx_wl_get hk) ht1 (fx_ix_in hi) hd ?_
    rw [fx_ix_cl hi]
    exact K
  case caload =>
    simp only [decide_eq_true_eq] at hn
    obtain ⟨rfl, rfl⟩ := hn
    obtain ⟨x, k, r, n, rfl, hk, hi, rfl, rfl, rfl, rfl⟩ := fx_ld_some hs
    have K := kk _ _ _ hW hl hlen
    rw [hpc1] at K
    refine va_cald hx hb hK hW.1 k 2 (fx_wl_get hk) ht2 (fx_ix_in hi) hd ?_
    rw [fx_ix_cl hi]
    exact K
  case iaload =>
    simp only [decide_eq_true_eq] at hn
    obtain ⟨rfl, rfl⟩ := hn
    unfold fx_ldx at hs
    split at hs
    next x k r =>
      split at hs
      next hkx =>
        split at hs
        next hi =>
          cases hs
          subst hkx
          have K := kk _ _ _ hW hl hlen
          rw [hpc1] at K
          have hL0 : 0 < Lx := by have := fx_ix_iff.mp hi; omega
          obtain ⟨hLb, hXX, hXl, hXA⟩ := hX hL0
          refine va_sld hx hb hXX hXl hXA hW.2.2 (fx_ix_in hi) hd ?_
          rw [fx_ix_cl hi]
          exact K
        next => cases hs
      next hkx =>
        obtain ⟨x', k', r', n, he, hk, hi, rfl, rfl, rfl, rfl⟩ := fx_ld_some hs
        cases he
        have K := kk _ _ _ hW hl hlen
        rw [hpc1] at K
        refine va_iald hx hb hK hW.1 k 0 (fx_wl_get hk) ht0 (fx_ix_in hi) hd ?_
        rw [fx_ix_cl hi]
        exact K
    next => cases hs
  case iastore =>
    simp only [decide_eq_true_eq] at hn
    obtain ⟨rfl, rfl⟩ := hn
    obtain ⟨v, x, k, r, n, rfl, hk, hi, ht, rfl, rfl, rfl, rfl⟩ := fx_sd_some hs
    refine va_iast hx hb hK hW.1 hW.2.1 hW.2.2 k 0 (fx_wl_get hk) ht0 (fx_ix_in hi) hd (fun H1 locs1 hP hD hS => ?_)
    rw [← hpc1]
    rw [fx_wl_set (f := fx_up (M k) x.toNat v) hk (by rw [fx_upd hi]; simp [fx_ce, fx_set])] at hP hD
    exact kk _ _ _ ⟨hP, hD, hS⟩ hl hlen
  case bastore =>
    simp only [decide_eq_true_eq] at hn
    obtain ⟨rfl, rfl⟩ := hn
    obtain ⟨v, x, k, r, n, rfl, hk, hi, ht, rfl, rfl, rfl, rfl⟩ := fx_sd_some hs
    refine va_zast hx hb hK hW.1 hW.2.1 hW.2.2 k 1 (fx_wl_get hk) ht1 (fx_ix_in hi) hd (fun H1 locs1 hP hD hS => ?_)
    rw [← hpc1]
    rw [fx_nar_z ht] at hP hD
    rw [fx_wl_set (f := fx_up (M k) x.toNat v) hk (by rw [fx_upd hi]; simp [fx_ce, fx_set])] at hP hD
    exact kk _ _ _ ⟨hP, hD, hS⟩ hl hlen
  case castore =>
    simp only [decide_eq_true_eq] at hn
    obtain ⟨rfl, rfl⟩ := hn
    obtain ⟨v, x, k, r, n, rfl, hk, hi, ht, rfl, rfl, rfl, rfl⟩ := fx_sd_some hs
    refine va_cast hx hb hK hW.1 hW.2.1 hW.2.2 k 2 (fx_wl_get hk) ht2 (fx_ix_in hi) hd (fun H1 locs1 hP hD hS => ?_)
    rw [← hpc1]
    rw [fx_nar_c ht] at hP hD
    rw [fx_wl_set (f := fx_up (M k) x.toNat v) hk (by rw [fx_upd hi]; simp [fx_ce, fx_set])] at hP hD
    exact kk _ _ _ ⟨hP, hD, hS⟩ hl hlen
  case aaload =>
    simp only [decide_eq_true_eq] at hn
    obtain ⟨rfl, rfl⟩ := hn
    split at hs
    next x k r =>
      split at hs
      next li hk =>
        split at hs
        next hi =>
          split at hs
          next a ha =>
            cases hs
            have K := kk _ _ _ hW hl hlen
            rw [hpc1] at K
            refine va_aldq hx hb hK hW.1 k 3 (fx_wl_get hk) ht3 (fx_ix_in hi) hd ?_
            rw [fx_ix_cl hi, ha]
            exact K
          next => cases hs
        next => cases hs
      next => cases hs
    next => cases hs
  case arraylength =>
    simp only [decide_eq_true_eq] at hn
    obtain ⟨rfl, rfl⟩ := hn
    split at hs
    next k r =>
      split at hs
      next hkx =>
        split at hs
        next hL0 =>
          cases hs
          subst hkx
          have K := kk _ _ _ hW hl hlen
          rw [hpc1] at K
          obtain ⟨hLb, hXX, hXl, hXA⟩ := hX hL0
          refine va_slen hx hb hXX hXl hXA hW.2.2 hd ?_
          rw [← Int32.ofInt_eq_ofNat]
          exact K
        next => cases hs
      next hkx =>
        split at hs
        next n hk =>
          cases hs
          have K := kk _ _ _ hW hl hlen
          rw [hpc1] at K
          exact va_alen hx hb hK hW.1 k 0 (fx_wl_get hk) ht0 Int32.ofInt_eq_ofNat.symm hd K
        next => cases hs
    next => cases hs
  case invokeinterface =>
    rename_i ci sl
    split at hs
    next k r =>
      split at hs
      next cj fs hk =>
        split at hs
        next hc =>
          subst hc
          split at hn
          · simp only [decide_eq_true_eq] at hn
            obtain ⟨rfl, hq⟩ := hn
            obtain ⟨C, T, N, hcj, hslN, hlink⟩ := hFT _ hq
            obtain ⟨hu, -, -⟩ := hcl _ _ _ _ hcj
            have key : ∀ (o : Option Nat), fs[sl]? = some o → ∀ w, w = (match o with | some r => Value.ref (ad r) | none => .int (Int32.ofInt (M k sl))) → W p l e R s m args below meth c H locs cells slots Q (F0 m (pc + 3) L (w :: r.map (fx_g ad))) → W p l e R s m args below meth c H locs cells slots Q (F0 m pc L (.ref (ad k) :: r.map (fx_g ad))) := by
              intro o ho w hw K
              refine va_get (cl := cl) (C := C) (T := T) (N := N) hx hb hts hu hown hK hW.1 k (fx_wl_get hk) hcj sl hslN (hts _ hlink) (fun _ h9 => h9) (v := w) ?_ hd K
              rw [List.getElem?_map, List.getElem?_zipIdx, ho, hw]
              simp
              rcases o with _ | o <;> rfl
            split at hs
            next a ha =>
              cases hs
              have K := kk _ _ _ hW hl hlen
              rw [hpc1] at K
              exact key _ ha _ rfl K
            next ha =>
              cases hs
              have K := kk _ _ _ hW hl hlen
              rw [hpc1] at K
              exact key _ ha _ rfl K
            next => cases hs
          · cases hn
        next => cases hs
      next => cases hs
    next => cases hs
  case multianewarray =>
    rename_i ci sl
    split at hs
    next v k r =>
      split at hs
      next cj fs hk =>
        split at hs
        next hc =>
          subst hc
          split at hn
          · simp only [decide_eq_true_eq] at hn
            obtain ⟨rfl, hq⟩ := hn
            obtain ⟨C, T, N, hcj, hslN, hlink, hfin, hpi⟩ := hPT _ hq
            obtain ⟨hu, ⟨ty0, hty0⟩, hnm⟩ := hcl _ _ _ _ hcj
            split at hs
            next ha =>
              cases hs
              have hfl : sl < fs.length := (List.getElem?_eq_some_iff.mp ha).1
              refine va_put (cl := cl) (C := C) (T := T) (N := N) hx hb hts hu ty0 hty0 hnm hown hK hW.1 hW.2.1 hW.2.2 k (fx_wl_get hk) hcj sl hslN (hts _ hlink) (fun _ h9 => h9) hfin hpi (v := .int (Int32.ofInt v)) rfl rfl (by simp [hfl]) hd (fun H1 locs1 hP hD hS => ?_)
              rw [← hpc1]
              have ew := fx_wl_set (ad := ad) (cA := cA) (f := fx_up (M k) sl v) hk (fx_ce_fld (ad := ad) (cA := cA) ha)
              exact kk _ _ _ ⟨Eq.mp (congrArg (fun z => va_P D cl z H1) ew) hP, Eq.mp (congrArg (fun z => va_D A z) ew) hD, hS⟩ hl hlen
            next => cases hs
          · cases hn
        next => cases hs
      next => cases hs
    next => cases hs
  case nop =>
    split at hs
    next n dp k1 sp k0 r =>
      split at hs
      next n0 n1 hk0 hk1 =>
        split at hs
        next hc =>
          obtain ⟨q1, q2, q3, q4, q5, q6, q7, q8, q9⟩ := hc
          cases hs
          have q1 := fx_rb_iff.mp q1
          have q2 := fx_rb_iff.mp q2
          have q3 := fx_rb_iff.mp q3
          split at hn
          · simp only [decide_eq_true_eq] at hn
            obtain ⟨rfl, hq, h1f, h1l⟩ := hn
            obtain ⟨w1, w2, w3, w4⟩ := hLT _ hq rfl
            have cl0 : ∀ z : Int, fx_r z → (Int32.ofInt z).toNatClampNeg = z.toNat := fun z hz => Int32.toNatClampNeg_ofInt_of_le hz.1 hz.2
            have ng : ∀ z : Int, fx_r z → 0 ≤ z → ¬ Int32.ofInt z < 0 := fun z hz h0 h => by rw [show (0 : Int32) = Int32.ofInt 0 from rfl, fx_lt hz fx_r0] at h; omega
            refine va_copyi hx hb (hml.trans hl.1.symm) hown (hts _ w1) (hts _ w2) (hts _ w3) (hts _ w4) hK hW.1 hW.2.1 hW.2.2 k0 k1 0 0 (fx_wl_get hk0) (fx_wl_get hk1) ht0 ht0 rfl (ng _ q3 q6) (ng _ q2 q5) (ng _ q1 q4) (by rw [cl0 _ q3, cl0 _ q1]; omega) (by rw [cl0 _ q2, cl0 _ q1]; omega) (fun _ _ => rfl) (by omega) ?_ hd (fun H1 locs1 hP hD hS => ?_)
            · rw [fx_cs_g]; omega
            · rw [← hpc1]
              rw [cl0 _ q1, cl0 _ q2, cl0 _ q3] at hP hD
              rw [fx_wl_set (f := fx_cp (M k0) (M k1) sp.toNat dp.toNat n.toNat) hk1 (fx_ce_cp _ _ _ _)] at hP hD
              exact kk _ _ _ ⟨hP, hD, hS⟩ hl hlen
          · cases hn
        next => cases hs
      next => cases hs
    next => cases hs
  all_goals cases hs
end FXS
end
section
/-! calls: a run of the small machine is a run of the real one, and gives each method's contract -/
def fx_rt (t : Nat) : Option FieldType := match t with
  | 1 => some .int
  | 2 => some .boolean
  | 3 => some .char
  | _ => none
def fx_end (b : ByteArray) (pc t : Nat) (r : Option fx_V) : Prop := match r with
  | none => decode b pc = .ok (.return_, 1) ∧ t = 0
  | some (.inl x) => decode b pc = .ok (.ireturn, 1) ∧ (t = 1 ∨ (t = 2 ∧ (x = 0 ∨ x = 1)) ∨ (t = 3 ∧ 0 ≤ x ∧ x < 65536))
  | _ => False
def fx_PW (D : va_G) (cl : List vw_C) (tys : List (ClassId × FieldType)) (ad : Nat → Nat) (cA : Nat → ClassId) (SH : List fx_S) (Lx : Nat) (MX : Nat → Int) (M : fx_M) (U : State) : Prop :=
  va_P D cl (fx_wl ad cA SH M) U.heap ∧ va_K D cl tys U ∧ va_D (fx_A ad SH.length) (fx_wl ad cA SH M) ∧ fx_X ad SH Lx MX (fx_A ad SH.length) U
def fx_Q (D : va_G) (cl : List vw_C) (ad : Nat → Nat) (cA : Nat → ClassId) (SH : List fx_S) (r : Option fx_V) (M' : fx_M) : Array Value → State → Outcome → State → Prop := fun _ st oc t =>
  oc = .returned (r.map (fx_g ad)) ∧ va_P D cl (fx_wl ad cA SH M') t.heap ∧ va_F (fx_A ad SH.length) st t
def fx_ws (TG : List Jvm.Cond) (G : fx_G) (yM : Nat → MethodName) (bM : Nat → ByteArray) (k : Nat) : List Jvm.Cond := Jvm.Cond.code (yM k) (bM k) (G k).2.1 (fx_rt (G k).2.2.1) :: TG
def fx_rm (RO : Nat → Nat × Nat) (k : Nat) : Room := { frames := (RO k).1, cells := 0, slots := 0, locals := (RO k).2 }
/-- what is known of a method that is called -/
def fx_MF (TG : List Jvm.Cond) (cl : List vw_C) (G : fx_G) (yM : Nat → MethodName) (bM : Nat → ByteArray) (PC : Nat → List Nat) (k : Nat) : Prop :=
  plainName (yM k).cls = true ∧ (PC k).getD 0 0 = 0 ∧ Jvm.Cond.code (yM k) (bM k) (G k).2.1 (fx_rt (G k).2.2.1) ∈ TG ∧ Jvm.Cond.initialized (yM k).cls ∈ TG ∧ ((yM k).cls ≠ "java/lang/invoke/MethodHandle" ∧ (yM k).cls ≠ "java/lang/invoke/VarHandle") ∧
  (match (G k).2.2.2 with
    | some ci => (parseMethodDescriptor (yM k).desc).map (fun d => d.parameters.length) = some ((G k).1 - 1) ∧ Jvm.Cond.instanceMethod (yM k) ∈ TG ∧ Jvm.Cond.selects (yM k).cls (yM k) (yM k) ∈ TG ∧ ∃ T N, cl[ci]? = some ((yM k).cls, T, N)
    | none => (parseMethodDescriptor (yM k).desc).map (fun d => d.parameters.length) = some (G k).1 ∧ Jvm.Cond.static (yM k) ∈ TG)
/-- the program's data and the tables' words -/
def fx_PO (TG : List Jvm.Cond) (cl : List vw_C) (C : Nat → List Instr) (G : fx_G) (yM : Nat → MethodName) (bM : Nat → ByteArray) (PC : Nat → List Nat) (RO : Nat → Nat × Nat) (CT CL : String → List (Nat × Int)) (FT PT : String → List (Nat × Nat × Nat)) (LT : String → List (Nat × Nat)) : Prop :=
  (∀ w ∈ TG, goodWord w = true) ∧ fx_Cl TG cl ∧
  (∀ (j i : Nat) (mm : Instr), (C j)[i]? = some mm → fx_Tab (yM j).cls TG cl (CT (yM j).cls) (CL (yM j).cls) (FT (yM j).cls) (PT (yM j).cls) (LT (yM j).cls) ∧ ∃ (o : Instr) (len : Nat), decode (bM j) ((PC j).getD i 0) = .ok (o, len) ∧ (PC j).getD (i + 1) 0 = (PC j).getD i 0 + len ∧
    fx_nrm (CT (yM j).cls) (CL (yM j).cls) (FT (yM j).cls) (PT (yM j).cls) (LT (yM j).cls) (PC j) G RO (RO j).1 (RO j).2 ((PC j).getD i 0) len mm o = true) ∧
  (∀ (own : String) (idx k : Nat), (idx, k) ∈ LT own → k ≠ 1000000 → fx_MF TG cl G yM bM PC k ∧ (Jvm.Cond.methodLink own idx (yM k) ∈ TG ∨ ((G k).2.2.2 = none ∧ ∃ host, Jvm.Cond.methodLinkNest own idx (yM k) host ∈ TG)))
theorem fx_goodIn {TG ws : List Jvm.Cond} (hg : ∀ w ∈ TG, goodWord w = true) (h : ∀ w ∈ ws, w ∈ TG) : GoodIn TG ws := fun w hw => ⟨h w hw, good_of_word (hg w (h w hw))⟩
theorem fx_fl_g {ad : Nat → Nat} (vs : List fx_V) : (lg_sl (vs.map (fx_g ad))).length = (fx_fl vs).length := by
  induction vs with
  | nil => rfl
  | cons v t ih =>
    have h1 : lg_sl ((v :: t).map (fx_g ad)) = (if (fx_g ad v).category = 2 then [Slot.val (fx_g ad v), .second] else [.val (fx_g ad v)]) ++ lg_sl (t.map (fx_g ad)) := rfl
    have h2 : fx_fl (v :: t) = fx_f1 v ++ fx_fl t := rfl
    rw [h1, h2, List.length_append, List.length_append, ih, fx_ct_g]
    rcases v with x | x | x <;> simp [fx_ct, fx_f1]
theorem fx_ini_len {n : Nat} {vs : List fx_V} (h : (fx_fl vs).length ≤ n) : (fx_ini n vs).length = n := by
  simp only [fx_ini, List.length_append, List.length_replicate]
  omega
theorem fx_fl_args {ad : Nat → Nat} : ∀ (vs : List fx_V) (o i : Nat) (v : fx_V) (w : Value), (fx_fl vs)[i]? = some v → fx_gl ad v = some w → (o + i, w) ∈ lv_args o (vs.map (fx_g ad))
  | [], o, i, v, w, h, _ => by simp [fx_fl] at h
  | u :: t, o, i, v, w, h, hg => by
    have h2 : fx_fl (u :: t) = fx_f1 u ++ fx_fl t := rfl
    have h3 : lv_args o ((u :: t).map (fx_g ad)) = (o, fx_g ad u) :: lv_args (if (fx_g ad u).category = 2 then o + 2 else o + 1) (t.map (fx_g ad)) := rfl
    rw [h2] at h
    rw [h3, fx_ct_g]
    by_cases hc : fx_ct u = 2
    · rcases u with x | x | x
      · simp [fx_ct] at hc
      · rw [if_pos hc]
        simp only [fx_f1] at h
        match i, h with
        | 0, h =>
          simp only [List.cons_append, List.getElem?_cons_zero, Option.some.injEq] at h
          subst h
          rw [fx_gl_some hg]
          exact List.mem_cons_self
        | 1, h =>
          simp only [List.cons_append, List.nil_append, List.getElem?_cons_succ, List.getElem?_cons_zero, Option.some.injEq] at h
          subst h
          simp [fx_gl] at hg
        | i + 2, h =>
          simp only [List.cons_append, List.nil_append, List.getElem?_cons_succ] at h
          have := fx_fl_args t (o + 2) i v w h hg
          rw [show o + (i + 2) = o + 2 + i by omega]
          exact List.mem_cons_of_mem _ this
      · simp [fx_ct] at hc
    · rw [if_neg hc]
      have h4 : (u :: fx_fl t)[i]? = some v := by
        rcases u with x | x | x
        · exact h
        · exact absurd rfl hc
        · exact h
      match i, h4 with
      | 0, h4 =>
        simp only [List.getElem?_cons_zero, Option.some.injEq] at h4
        subst h4
        rw [fx_gl_some hg]
        exact List.mem_cons_self
      | i + 1, h4 =>
        simp only [List.getElem?_cons_succ] at h4
        have := fx_fl_args t (o + 1) i v w h4 hg
        rw [show o + (i + 1) = o + 1 + i by omega]
        exact List.mem_cons_of_mem _ this
theorem fx_ini_prs {ad : Nat → Nat} {n : Nat} {vs : List fx_V} : ∀ q ∈ fx_prs ad (fx_ini n vs), q ∈ lv_args 0 (vs.map (fx_g ad)) := by
  intro q hq
  obtain ⟨v, hv, hg⟩ := fx_prs_mem.mp hq
  unfold fx_ini at hv
  by_cases hl : q.1 < (fx_fl vs).length
  · rw [List.getElem?_append_left hl] at hv
    have := fx_fl_args vs 0 q.1 v q.2 hv hg
    rwa [Nat.zero_add] at this
  · rw [List.getElem?_append_right (by omega)] at hv
    have hv2 := List.mem_of_getElem? hv
    rw [List.mem_replicate] at hv2
    rw [hv2.2] at hg
    simp [fx_gl] at hg
section FXC
variable {p : Program} {l : Launch} {e : Env} {R : Room} {s : State} {m : MethodId} {args : Array Value} {below : List Frame} {meth : Method} {c : Code} {H : Heap} {locs : List Loc} {cells slots : Nat} {Q : State → Prop}
variable {D : va_G} {cl : List vw_C} {tys : List (ClassId × FieldType)} {ad : Nat → Nat} {cA : Nat → ClassId} {SH : List fx_S} {Lx : Nat} {MX : Nat → Int} {A : Nat → Prop}
variable {TG : List Jvm.Cond} {C : Nat → List Instr} {G : fx_G} {yM : Nat → MethodName} {bM : Nat → ByteArray} {PC : Nat → List Nat} {RO : Nat → Nat × Nat} {CT CL : String → List (Nat × Int)} {FT PT : String → List (Nat × Nat × Nat)} {LT : String → List (Nat × Nat)}
/-- behind a call -/
theorem fx_cont {pc : Nat} {L : Array Slot} {st0 rest : List Value} {M M' : fx_M} {r : Option fx_V} {a : Array Value} (hr : va_Run p l e R s m args below meth c H locs cells slots 0 0 (F0 m pc L st0) rest (fx_Q D cl ad cA SH r M' a) (fx_A ad SH.length)) (hW : fx_Wd D cl ad cA SH s.heap A M H locs)
    (kk : ∀ (H1 : Heap) (locs1 : List Loc), fx_Wd D cl ad cA SH s.heap A M' H1 locs1 → W p l e R s m args below meth c H1 locs1 cells slots Q (F0 m (pc + 3) L ((r.map (fx_g ad)).toList ++ rest))) : W p l e R s m args below meth c H locs cells slots Q (F0 m pc L st0) := by
  intro T hT X
  obtain ⟨v, st₀, t, T', Lc, h0, X', hL, e1, e2, ⟨hv, hp, hz, hk⟩, st⟩ := hr T hT X
  cases hv
  obtain ⟨hP, hD, hS⟩ := hW
  have hAA : ∀ q, fx_A ad SH.length q → A q := fun q h => fx_A_of hD h
  rw [h0] at hz hk
  have hS1 : va_S A s.heap T'.heap (locs ++ Lc) := by
    refine ⟨Nat.le_trans hS.1 (by rw [e1]; exact hz), fun q h1 h2 => ?_, fun q hq => ?_⟩
    · rw [e1, hk q (Nat.lt_of_lt_of_le h1 hS.1) (fun z => h2 (hAA q z))]
      exact hS.2.1 q h1 h2
    · rcases List.mem_append.mp hq with h | h
      · exact hS.2.2 q h
      · exact hAA _ (hL q h)
  obtain ⟨t2, a1, b1⟩ := kk T'.heap (locs ++ Lc) ⟨by rw [e1]; exact hp, fx_D_any hD, hS1⟩ T' rfl X'
  exact ⟨t2, st t2 a1, b1⟩
theorem fx_X_moved {u U : State} (hvm : u.vm.Alike U.vm) (hh : U.heap = u.heap) (h : fx_X ad SH Lx MX A u) : fx_X ad SH Lx MX A U := by
  intro h0
  obtain ⟨h1, h2, h3, h4⟩ := h h0
  exact ⟨h1, by rw [hh]; exact va_X.moved hvm h2, by rw [hh]; exact h3, h4⟩
/-- the script lies where it lay -/
theorem fx_X_at {U : State} (hvm : s.vm.Alike U.vm) (hU : U.heap = H) (hS : va_S A s.heap H locs) (hAA : ∀ q, fx_A ad SH.length q → A q) (h : fx_X ad SH Lx MX A s) : fx_X ad SH Lx MX (fx_A ad SH.length) U := by
  intro h0
  obtain ⟨h1, h2, h3, h4⟩ := h h0
  exact ⟨h1, by rw [hU]; exact va_X.moved hvm (h2.kept (hS.2.1 _ h3 h4)), by rw [hU]; exact Nat.lt_of_lt_of_le h3 hS.1, fun z => h4 (hAA _ z)⟩
theorem fx_blind {vs : List Value} {M : fx_M} : FrameBlind (va_Pc vs (fx_PW D cl tys ad cA SH Lx MX M)) := by
  intro a U g mk h
  obtain ⟨h1, h2, h3, h4, h5⟩ := h
  exact ⟨h1, h2, va_K.moved (u := U) (U := U.calling g mk a) (Vm.Alike.refl U.vm) h3, h4, fx_X_moved (u := U) (U := U.calling g mk a) (Vm.Alike.refl U.vm) rfl h5⟩
theorem fx_pre {vs : List Value} {M : fx_M} (hK : va_K D cl tys s) (hW : fx_Wd D cl ad cA SH s.heap A M H locs) (hX : fx_X ad SH Lx MX A s) : ∀ U : State, U.heap = H → s.WarmedH U.vm → va_Pc vs (fx_PW D cl tys ad cA SH Lx MX M) vs.toArray U := by
  intro U hU hw
  obtain ⟨hP, hD, hS⟩ := hW
  exact ⟨rfl, by rw [hU]; exact hP, va_K.moved hw.alike hK, fx_D_self hD, fx_X_at hw.alike hU hS (fun q h => fx_A_of hD h) hX⟩
theorem fx_end_of {b : ByteArray} {pc t : Nat} {st : List fx_V} {M M' : fx_M} {r : Option fx_V} (hd : decode b pc = .ok (.ireturn, 1)) (h : fx_ret t st M = some (r, M')) : fx_end b pc t r ∧ M' = M ∧ st = r.toList := by
  unfold fx_ret at h
  split at h
  next x =>
    split at h
    next hc => cases h; exact ⟨⟨hd, hc⟩, rfl, rfl⟩
    next => cases h
  next => cases h
def fx_SIM (D : va_G) (cl : List vw_C) (tys : List (ClassId × FieldType)) (cA : Nat → ClassId) (ad : Nat → Nat) (SH : List fx_S) (Lx : Nat) (MX : Nat → Int) (TG : List Jvm.Cond) (C : Nat → List Instr) (G : fx_G) (yM : Nat → MethodName) (bM : Nat → ByteArray) (PC : Nat → List Nat) (RO : Nat → Nat × Nat) (l : Launch) (n : Nat) : Prop :=
  ∀ (j i : Nat) (ls st : List fx_V) (M : fx_M) (r : Option fx_V) (M' : fx_M), fx_ex C G SH Lx MX n j i ls st M = some (r, M') →
  ∀ {p : Program} {e : Env} {R : Room} {s : State} {m : MethodId} {args : Array Value} {below : List Frame} {meth : Method} {c : Code} {H : Heap} {locs : List Loc} {cells slots : Nat} {Q : State → Prop} {A : Nat → Prop} {L : Array Slot},
  p.tables.exec = Jvm.exec → c.code = bM j → c.maxLocals = ls.length → s.vm.findClass (yM j).cls = some m.cls → (∀ w ∈ TG, w.before args s = true) → (RO j).1 ≤ R.frames → (RO j).2 ≤ R.locals → (cells ≤ R.cells ∧ slots ≤ R.slots) → va_K D cl tys s → fx_Wd D cl ad cA SH s.heap A M H locs → fx_X ad SH Lx MX A s → lv_has L ls.length (fx_prs ad ls) →
  (∀ (H' : Heap) (locs' : List Loc) (L' : Array Slot) (pc' : Nat), fx_Wd D cl ad cA SH s.heap A M' H' locs' → fx_end (bM j) pc' (G j).2.2.1 r → W p l e R s m args below meth c H' locs' cells slots Q (F0 m pc' L' (r.toList.map (fx_g ad)))) →
  W p l e R s m args below meth c H locs cells slots Q (F0 m ((PC j).getD i 0) L (st.map (fx_g ad)))
set_option maxHeartbeats 4000000 in
theorem fx_con {n k : Nat} {vs : List fx_V} {M M' : fx_M} {r : Option fx_V} (hn : fx_SIM D cl tys cA ad SH Lx MX TG C G yM bM PC RO l n) (hk : fx_MF TG cl G yM bM PC k) (hlen : (fx_fl vs).length ≤ (G k).2.1) (h : fx_ex C G SH Lx MX n k 0 (fx_ini (G k).2.1 vs) [] M = some (r, M')) :
    Met l (yM k) (fx_ws TG G yM bM k) (fx_rm RO k) (va_Pc (vs.map (fx_g ad)) (fx_PW D cl tys ad cA SH Lx MX M)) (fx_Q D cl ad cA SH r M') 0 0 (fx_A ad SH.length) := by
  refine Met.ofW (cc := bM k) (maxL := (G k).2.1) (ret := fx_rt (G k).2.2.1) hk.1 rfl ?_
  intro p e s m args below meth c s₁ B hml hv
  obtain ⟨rfl, hP, hK, hD, hX⟩ := hv
  have hx := B.exec
  have hb := B.bytes
  have hr := B.returns
  have hts0 := atoms_spec (ws := fx_ws TG G yM bM k) B.pre
  have hts : ∀ w ∈ TG, w.before (vs.map (fx_g ad)).toArray s = true := fun w hw => hts0 w (List.mem_cons_of_mem _ hw)
  have hown : s.vm.findClass (yM k).cls = some m.cls := findClass_of_methodNamed B.named
  have hlocks := B.notSynchronized
  have hl := lv_entry (vs.map (fx_g ad)) (n := (G k).2.1) (by rw [fx_fl_g]; exact hlen)
  rw [lg_entry_eq]
  generalize (lg_sl (vs.map (fx_g ad)) ++ List.replicate ((G k).2.1 - (lg_sl (vs.map (fx_g ad))).length) Slot.unset).toArray = L at hl ⊢
  have hil := fx_ini_len hlen
  have hl' : lv_has L (fx_ini (G k).2.1 vs).length (fx_prs ad (fx_ini (G k).2.1 vs)) := by
    rw [hil]
    exact fx_lh_sub hl fx_ini_prs
  have key := hn k 0 _ _ M r M' h (p := p) (e := e) (R := (headSpec (fx_ws TG G yM bM k) (fx_rm RO k)).room) (s := s) (m := m) (args := (vs.map (fx_g ad)).toArray) (below := below) (meth := meth) (c := c) (H := s.heap) (locs := []) (cells := 0) (slots := 0)
    (Q := MQ below (fx_Q D cl ad cA SH r M') (vs.map (fx_g ad)).toArray s 0 0 (fx_A ad SH.length)) (A := fx_A ad SH.length) (L := L) hx hb (hml.trans hil.symm) hown hts (Nat.le_refl _) (Nat.le_refl _) ⟨Nat.zero_le _, Nat.zero_le _⟩ hK ⟨hP, hD, va_S.rf⟩ hX hl' ?_
  · rw [hk.2.1] at key
    exact key
  · intro H' locs' L' pc' hW' he
    have hq : ∀ (v : Option Value), v = r.map (fx_g ad) → ∀ t : State, t.heap = H' → s.WarmedH t.vm → fx_Q D cl ad cA SH r M' (vs.map (fx_g ad)).toArray s (.returned v) t := fun v hv t ht hw => ⟨by rw [hv], by rw [ht]; exact hW'.1, hW'.2.2.F ht⟩
    rcases r with _ | x | x | x
    · obtain ⟨hd, ht⟩ := he
      rw [ht] at hr
      exact W.vret hx hb hr (hq _ rfl) hW'.2.2.2.2 hd
    · obtain ⟨hd, ht⟩ := he
      rcases ht with ht | ⟨ht, hv⟩ | ⟨ht, h0, h1⟩
      · rw [ht] at hr
        exact W.iret hx hb hr (hq _ rfl) hW'.2.2.2.2 hd
      · rw [ht] at hr
        exact W.zret hx hb hr (by rcases hv with rfl | rfl <;> decide) (hq _ rfl) hW'.2.2.2.2 hd
      · rw [ht] at hr
        exact W.zret hx hb hr (by rw [fx_char h0 h1]; exact (pk_charN (by omega)).1) (hq _ rfl) hW'.2.2.2.2 hd
    · exact he.elim
    · exact he.elim
theorem fx_rcv_some {ci : Nat} {vs : List fx_V} (h : fx_rcv SH (some ci) vs = true) : ∃ kr As fs, vs = .inr (.inr (some kr)) :: As ∧ SH[kr]? = some (.inr (.inl (ci, fs))) := by
  unfold fx_rcv at h
  split at h
  next h0 => cases h0
  next ci' h0 =>
    cases h0
    split at h
    next kr As =>
      split at h
      next cj fs hs =>
        rw [of_decide_eq_true h] at hs
        exact ⟨kr, As, fs, rfl, hs⟩
      next => cases h
    next => cases h
set_option maxHeartbeats 8000000 in
theorem fx_sim (hPO : fx_PO TG cl C G yM bM PC RO CT CL FT PT LT) {OC : String} (hty : fx_Ty tys cA OC) (l : Launch) : ∀ n, fx_SIM D cl tys cA ad SH Lx MX TG C G yM bM PC RO l n := by
  obtain ⟨hgood, hCl, hI, hLk⟩ := hPO
  intro n
  induction n with
  | zero => intro j i ls st M r M' h; cases h
  | succ n ih =>
    intro j i ls st M r M' h p e R s m args below meth c H locs cells slots Q A L hx hb hml hown hts hrf hrl hcs hK hW hX hl fin
    unfold fx_ex at h
    cases hmm : (C j)[i]? with
    | none => rw [hmm] at h; cases h
    | some mm =>
      rw [hmm] at h
      obtain ⟨hTab, o, len, hd, hpc1, hn⟩ := hI j i mm hmm
      have step : ∀ (i' : Nat) (ls' st' : List fx_V) (M1 : fx_M), fx_step SH Lx MX mm i ls st M = some (i', ls', st', M1) → fx_ex C G SH Lx MX n j i' ls' st' M1 = some (r, M') → W p l e R s m args below meth c H locs cells slots Q (F0 m ((PC j).getD i 0) L (st.map (fx_g ad))) := by
        intro i' ls' st' M1 hs hr
        refine fx_step_W hx hb hml hown hts hTab hCl hty hrf hrl hK hW hX hl rfl hd hn hpc1 hs (fun H' locs' L' hW' hl' hlen' => ?_)
        exact ih j i' ls' st' M1 r M' hr hx hb (hml.trans hlen'.symm) hown hts hrf hrl hcs hK hW' hX (by rw [hlen']; exact hl') fin
      split at h
      next heq =>
        cases heq
        simp only [fx_nrm, decide_eq_true_eq] at hn
        obtain ⟨rfl, rfl⟩ := hn
        obtain ⟨he, rfl, rfl⟩ := fx_end_of hd h
        exact fin H locs L _ hW he
      next heq =>
        cases heq
        simp only [fx_nrm, decide_eq_true_eq] at hn
        obtain ⟨rfl, rfl⟩ := hn
        split at h
        next =>
          split at h
          next ht => cases h; exact fin H locs L _ hW ⟨hd, ht⟩
          next => cases h
        next => cases h
      next k heq =>
        cases heq
        split at h
        next hc =>
          obtain ⟨hc1, hc2, hc3⟩ := hc
          split at h
          next r1 M1 hex =>
            simp only [fx_nrm] at hn
            split at hn
            next x =>
              simp only [decide_eq_true_eq] at hn
              obtain ⟨rfl, hk6, hxk, hrec, hfr, hlo⟩ := hn
              obtain ⟨hMF, hlink⟩ := hLk _ _ _ hxk hk6
              have hcon := fx_con (l := l) ih hMF hc3 hex
              obtain ⟨f1, f2, f3, f4, f5, f6⟩ := hMF
              rw [hrec] at f6
              obtain ⟨f7, f8⟩ := f6
              have hst : st.map (fx_g ad) = ((st.take (G k).1).reverse.map (fx_g ad)).reverse ++ (st.drop (G k).1).map (fx_g ad) := by
                rw [← List.map_reverse, List.reverse_reverse, ← List.map_append, List.take_append_drop]
              have hrun : va_Run p l e R s m args below meth c H locs cells slots 0 0 (F0 m ((PC j).getD i 0) L (st.map (fx_g ad))) ((st.drop (G k).1).map (fx_g ad)) (fx_Q D cl ad cA SH r1 M1 ((st.take (G k).1).reverse.map (fx_g ad)).toArray) (fx_A ad SH.length) := by
                rcases hlink with hlink | ⟨-, host, hlink⟩
                · exact va_runS (Ts := TG) ⟨hx, hb, hml, hown, hts⟩ hcon (va_cwS (G k).1 hts (fx_goodIn hgood (by intro w hw; simp only [va_wsS, fx_ws, List.cons_append, List.nil_append, List.mem_cons] at hw; rcases hw with rfl | rfl | rfl | rfl | hw <;> assumption)) rfl rfl rfl ⟨f5.1, f5.2, f7⟩ ⟨Nat.le_trans hfr hrf, Nat.le_trans hlo hrl⟩) ⟨fx_blind, fx_pre hK hW hX⟩ rfl (by simp; omega) hl.1 hst (lv_room (by rw [fx_cs_g]; exact hc2)) hd hcs
                · exact va_runSN (Ts := TG) ⟨hx, hb, hml, hown, hts⟩ hcon ⟨va_cnB (G k).1 hts (fx_goodIn hgood (by intro w hw; simp only [fx_ws, List.mem_cons] at hw; rcases hw with rfl | hw <;> assumption)) rfl rfl rfl (va_Nw.of rfl (hts _ hlink)) (hts _ f4) ⟨f5.1, f5.2, f7⟩ ⟨Nat.le_trans hfr hrf, Nat.le_trans hlo hrl⟩, hts _ f8, trivial⟩ ⟨fx_blind, fx_pre hK hW hX⟩ rfl (by simp; omega) hl.1 hst (lv_room (by rw [fx_cs_g]; exact hc2)) hd hcs
              refine fx_cont hrun hW (fun H1 locs1 hW1 => ?_)
              have K := ih j (i + 1) ls _ M1 r M' h hx hb hml hown hts hrf hrl hcs hK hW1 hX hl fin
              rw [hpc1, List.map_append] at K
              rcases r1 with _ | v <;> exact K
            next => cases hn
          next => cases h
        next => cases h
      next k heq =>
        cases heq
        split at h
        next hc =>
          obtain ⟨hc1, hc2, hc3, hc4⟩ := hc
          split at h
          next r1 M1 hex =>
            simp only [fx_nrm] at hn
            split at hn
            next x =>
              simp only [decide_eq_true_eq] at hn
              obtain ⟨rfl, hk6, hxk, hrec, hn1, hfr, hlo⟩ := hn
              obtain ⟨hMF, hlink⟩ := hLk _ _ _ hxk hk6
              have hcon := fx_con (l := l) ih hMF hc3 hex
              obtain ⟨f1, f2, f3, f4, f5, f6⟩ := hMF
              obtain ⟨ci, hci⟩ := Option.isSome_iff_exists.mp hrec
              rw [hci] at hc4 f6
              have hst : st.map (fx_g ad) = ((st.take (G k).1).reverse.map (fx_g ad)).reverse ++ (st.drop (G k).1).map (fx_g ad) := by
                rw [← List.map_reverse, List.reverse_reverse, ← List.map_append, List.take_append_drop]
              have hvl : (st.take (G k).1).reverse.length = (G k).1 := by simp; omega
              generalize (st.take (G k).1).reverse = vs at hc3 hc4 hex hcon hst hvl
              obtain ⟨kr, As, fs, rfl, hSHk⟩ := fx_rcv_some hc4
              obtain ⟨f7, f8, f9, T0, N0, hcl0⟩ := f6
              rcases hlink with hlink | ⟨hno, -⟩
              · have hst2 : st.map (fx_g ad) = (As.map (fx_g ad)).reverse ++ .ref (ad kr) :: (st.drop (G k).1).map (fx_g ad) := by
                  rw [hst]
                  simp [fx_g]
                have hrun : va_Run p l e R s m args below meth c H locs cells slots 0 0 (F0 m ((PC j).getD i 0) L (st.map (fx_g ad))) ((st.drop (G k).1).map (fx_g ad)) (fx_Q D cl ad cA SH r1 M1 (Value.ref (ad kr) :: As.map (fx_g ad)).toArray) (fx_A ad SH.length) := by
                  refine va_runV (Ts := TG) (b := ad kr) ⟨hx, hb, hml, hown, hts⟩ hcon (cwV ((G k).1 - 1) hts (fx_goodIn hgood (by intro w hw; simp only [wsV, fx_ws, List.cons_append, List.nil_append, List.mem_cons] at hw; rcases hw with rfl | rfl | rfl | rfl | rfl | hw <;> assumption)) rfl rfl rfl ⟨rfl, f5.1, f5.2, f7⟩ ⟨Nat.le_trans hfr hrf, Nat.le_trans hlo hrl⟩) ⟨fx_blind, ?_, fx_pre hK hW hX⟩ rfl ?_ hl.1 hst2 (lv_room (by rw [fx_cs_g]; exact hc2)) hd hcs
                  · exact va_recv (q0 := kr) hK hW.1 hcl0 (fx_wl_get hSHk)
                  · simp only [List.length_map]
                    simp only [List.length_cons] at hvl
                    omega
                refine fx_cont hrun hW (fun H1 locs1 hW1 => ?_)
                have K := ih j (i + 1) ls _ M1 r M' h hx hb hml hown hts hrf hrl hcs hK hW1 hX hl fin
                rw [hpc1, List.map_append] at K
                rcases r1 with _ | v <;> exact K
              · rw [hci] at hno
                cases hno
            next => cases hn
          next => cases h
        next => cases h
      next _ _ _ _ _ heq =>
        cases heq
        split at h
        next i' ls' st' M1 hs => exact step i' ls' st' M1 hs h
        next => cases h
      next heq => cases heq
end FXC
end
