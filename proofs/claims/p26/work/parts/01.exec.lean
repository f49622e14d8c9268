/-! A small machine over mathematical integers: what the code does, without heap, words, room. Values: an int, a long, a reference to a numbered cell (none: unset) -/
abbrev fx_V : Type := Int ⊕ (Int64 ⊕ Option Nat)
abbrev fx_M : Type := Nat → Nat → Int
/-- a cell's shape: an array of numbers (0 int, 1 boolean, 2 char) and its length; an object, its class' number, its fields (a reference, or a number); an array of references -/
abbrev fx_S : Type := (Nat × Nat) ⊕ ((Nat × List (Option Nat)) ⊕ List Nat)
/-- of a method: how many values it takes, its locals, its answer (0 none, 1 int, 2 boolean, 3 char, 4 a strip), its receiver's class -/
abbrev fx_G : Type := Nat → Nat × Nat × Nat × Option Nat
abbrev fx_O : Type := Option (Nat × List fx_V × List fx_V × fx_M)
def fx_r (x : Int) : Prop := -2147483648 ≤ x ∧ x < 2147483648
def fx_rb (x : Int) : Bool := decide (-2147483648 ≤ x) && decide (x < 2147483648)
theorem fx_rb_iff {x : Int} : fx_rb x = true ↔ fx_r x := by simp [fx_rb, fx_r]
def fx_div (x y : Int) : Int := (Int32.ofInt x / Int32.ofInt y).toInt
def fx_rem (x y : Int) : Int := (Int32.ofInt x - Int32.ofInt x / Int32.ofInt y * Int32.ofInt y).toInt
def fx_and (x y : Int) : Int := (Int32.ofInt x &&& Int32.ofInt y).toInt
def fx_or (x y : Int) : Int := (Int32.ofInt x ||| Int32.ofInt y).toInt
def fx_xor (x y : Int) : Int := (Int32.ofInt x ^^^ Int32.ofInt y).toInt
def fx_shl (x y : Int) : Int := (Int32.ofInt x <<< (Int32.ofInt y &&& 31)).toInt
def fx_shr (x y : Int) : Int := (Int32.ofInt x >>> (Int32.ofInt y &&& 31)).toInt
def fx_ushr (x y : Int) : Int := (((Int32.ofInt x).toUInt32 >>> ((Int32.ofInt y).toUInt32 &&& Int32.toUInt32 31)).toInt32).toInt
def fx_i2c (x : Int) : Int := (((Int32.ofInt x).toUInt32 % 65536).toInt32).toInt
def fx_cmp (c : Jvm.ClassFile.Cond) (x y : Int) : Bool := match c with
  | .eq => decide (x = y)
  | .ne => decide (x ≠ y)
  | .lt => decide (x < y)
  | .ge => decide (y ≤ x)
  | .gt => decide (y < x)
  | .le => decide (x ≤ y)
def fx_set (M : fx_M) (k : Nat) (f : Nat → Int) : fx_M := fun q => if q = k then f else M q
def fx_up (f : Nat → Int) (k : Nat) (x : Int) : Nat → Int := fun j => if j = k then x else f j
def fx_cp (f g : Nat → Int) (sp dp n : Nat) : Nat → Int := fun k => if dp ≤ k ∧ k < dp + n then f (sp + (k - dp)) else g k
/-- a place in a row of n -/
def fx_ix (x : Int) (n : Nat) : Bool := decide (0 ≤ x) && decide (x < (n : Int)) && decide (x < 2147483648)
def fx_ct : fx_V → Nat
  | .inr (.inl _) => 2
  | _ => 1
def fx_cs : List fx_V → Nat
  | [] => 0
  | v :: t => fx_ct v + fx_cs t
/-- a local of one word may be written: no long stands just ahead -/
def fx_fr (ls : List fx_V) (k : Nat) : Bool := decide (k < ls.length) && (match k with
  | 0 => true
  | k' + 1 => match ls[k']? with
    | some (.inr (.inl _)) => false
    | _ => true)
def fx_lk : List (Int × Int) → Int → Int → Int
  | [], d, _ => d
  | (a, t) :: r, d, x => if x = a then t else fx_lk r d x
def fx_bin (f : Int → Int → Int) (i : Nat) (ls st : List fx_V) (M : fx_M) : fx_O := match st with
  | .inl y :: .inl x :: r => some (i + 1, ls, .inl (f x y) :: r, M)
  | _ => none
def fx_binN (f : Int → Int → Int) (i : Nat) (ls st : List fx_V) (M : fx_M) : fx_O := match st with
  | .inl y :: .inl x :: r => if Int32.ofInt y = 0 then none else some (i + 1, ls, .inl (f x y) :: r, M)
  | _ => none
def fx_binL (f : Int64 → Int64 → Int64) (i : Nat) (ls st : List fx_V) (M : fx_M) : fx_O := match st with
  | .inr (.inl y) :: .inr (.inl x) :: r => some (i + 1, ls, .inr (.inl (f x y)) :: r, M)
  | _ => none
def fx_binLI (f : Int64 → Int32 → Int64) (i : Nat) (ls st : List fx_V) (M : fx_M) : fx_O := match st with
  | .inl y :: .inr (.inl x) :: r => some (i + 1, ls, .inr (.inl (f x (Int32.ofInt y))) :: r, M)
  | _ => none
def fx_ld (ty : Nat) (SH : List fx_S) (i : Nat) (ls st : List fx_V) (M : fx_M) : fx_O := match st with
  | .inl x :: .inr (.inr (some k)) :: r => match SH[k]? with
    | some (.inl (t, n)) => if t = ty ∧ fx_ix x n = true then some (i + 1, ls, .inl (M k x.toNat) :: r, M) else none
    | _ => none
  | _ => none
def fx_ldx (SH : List fx_S) (Lx : Nat) (MX : Nat → Int) (i : Nat) (ls st : List fx_V) (M : fx_M) : fx_O := match st with
  | .inl x :: .inr (.inr (some k)) :: r => if k = SH.length then (if fx_ix x Lx = true ∧ Lx < 2147483648 then some (i + 1, ls, .inl (MX x.toNat) :: r, M) else none) else fx_ld 0 SH i ls st M
  | _ => none
/-- what an array of small numbers takes -/
def fx_tk (ty : Nat) (v : Int) : Bool := match ty with
  | 0 => true
  | 1 => decide (v = 0) || decide (v = 1)
  | _ => decide (0 ≤ v) && decide (v < 65536)
def fx_sd (ty : Nat) (SH : List fx_S) (i : Nat) (ls st : List fx_V) (M : fx_M) : fx_O := match st with
  | .inl v :: .inl x :: .inr (.inr (some k)) :: r => match SH[k]? with
    | some (.inl (t, n)) => if t = ty ∧ fx_ix x n = true ∧ fx_tk ty v = true then some (i + 1, ls, r, fx_set M k (fx_up (M k) x.toNat v)) else none
    | _ => none
  | _ => none
def fx_step (SH : List fx_S) (Lx : Nat) (MX : Nat → Int) (m : Instr) (i : Nat) (ls st : List fx_V) (M : fx_M) : fx_O := match m with
  | .sipush v => some (i + 1, ls, .inl v :: st, M)
  | .goto_w v => some (i + 1, ls, .inr (.inl (Int64.ofInt v)) :: st, M)
  | .iload k => match ls[k]? with
    | some (.inl x) => some (i + 1, ls, .inl x :: st, M)
    | _ => none
  | .lload k => match ls[k]? with
    | some (.inr (.inl x)) => some (i + 1, ls, .inr (.inl x) :: st, M)
    | _ => none
  | .aload k => match ls[k]? with
    | some (.inr (.inr (some a))) => some (i + 1, ls, .inr (.inr (some a)) :: st, M)
    | _ => none
  | .istore k => match st with
    | .inl x :: r => if fx_fr ls k = true then some (i + 1, ls.set k (.inl x), r, M) else none
    | _ => none
  | .astore k => match st with
    | .inr (.inr (some a)) :: r => if fx_fr ls k = true then some (i + 1, ls.set k (.inr (.inr (some a))), r, M) else none
    | _ => none
  | .lstore k => match st with
    | .inr (.inl x) :: r => if fx_fr ls k = true ∧ k + 1 < ls.length then some (i + 1, (ls.set k (.inr (.inl x))).set (k + 1) (.inr (.inr none)), r, M) else none
    | _ => none
  | .iinc k n => match ls[k]? with
    | some (.inl x) => if fx_fr ls k = true then some (i + 1, ls.set k (.inl (x + n)), st, M) else none
    | _ => none
  | .iadd => fx_bin (fun x y => x + y) i ls st M
  | .isub => fx_bin (fun x y => x - y) i ls st M
  | .imul => fx_bin (fun x y => x * y) i ls st M
  | .iand => fx_bin fx_and i ls st M
  | .ior => fx_bin fx_or i ls st M
  | .ixor => fx_bin fx_xor i ls st M
  | .ishl => fx_bin fx_shl i ls st M
  | .ishr => fx_bin fx_shr i ls st M
  | .iushr => fx_bin fx_ushr i ls st M
  | .idiv => fx_binN fx_div i ls st M
  | .irem => fx_binN fx_rem i ls st M
  | .land => fx_binL (fun x y => x &&& y) i ls st M
  | .lor => fx_binL (fun x y => x ||| y) i ls st M
  | .lshl => fx_binLI (fun x y => x <<< (y.toInt64 &&& 63)) i ls st M
  | .lushr => fx_binLI (fun x y => (x.toUInt64 >>> (y.toInt64.toUInt64 &&& Int64.toUInt64 63)).toInt64) i ls st M
  | .lcmp => match st with
    | .inr (.inl y) :: .inr (.inl x) :: r => some (i + 1, ls, .inl (lg_cmp x y).toInt :: r, M)
    | _ => none
  | .i2l => match st with
    | .inl x :: r => some (i + 1, ls, .inr (.inl (Int32.ofInt x).toInt64) :: r, M)
    | _ => none
  | .l2i => match st with
    | .inr (.inl x) :: r => some (i + 1, ls, .inl x.toInt32.toInt :: r, M)
    | _ => none
  | .i2c => match st with
    | .inl x :: r => some (i + 1, ls, .inl (fx_i2c x) :: r, M)
    | _ => none
  | .dup => match st with
    | v :: r => if fx_ct v = 1 then some (i + 1, ls, v :: v :: r, M) else none
    | _ => none
  | .dup2 => match st with
    | v :: w :: r => if fx_ct v = 1 ∧ fx_ct w = 1 then some (i + 1, ls, v :: w :: v :: w :: r, M) else none
    | _ => none
  | .ifCond c t => match st with
    | .inl x :: r => if fx_rb x = true then some (if fx_cmp c x 0 = true then t.toNat else i + 1, ls, r, M) else none
    | _ => none
  | .if_icmp c t => match st with
    | .inl y :: .inl x :: r => if fx_rb x = true ∧ fx_rb y = true then some (if fx_cmp c x y = true then t.toNat else i + 1, ls, r, M) else none
    | _ => none
  | .goto t => some (t.toNat, ls, st, M)
  | .ifnull _ => match st with
    | .inr (.inr (some _)) :: r => some (i + 1, ls, r, M)
    | _ => none
  | .ifnonnull t => match st with
    | .inr (.inr (some _)) :: r => some (t.toNat, ls, r, M)
    | _ => none
  | .tableswitch d lo hi ts => match st with
    | .inl x :: r => if fx_rb x = true then (if x < lo ∨ hi < x then some (d.toNat, ls, r, M) else match ts[(x - lo).toNat]? with
      | some t => some (t.toNat, ls, r, M)
      | none => none) else none
    | _ => none
  | .lookupswitch d ts => match st with
    | .inl x :: r => if fx_rb x = true then some ((fx_lk ts.toList d x).toNat, ls, r, M) else none
    | _ => none
  | .invokeinterface ci sl => match st with
    | .inr (.inr (some k)) :: r => match SH[k]? with
      | some (.inr (.inl (cj, fs))) => if cj = ci then (match fs[sl]? with
        | some (some a) => some (i + 1, ls, .inr (.inr (some a)) :: r, M)
        | some none => some (i + 1, ls, .inl (M k sl) :: r, M)
        | none => none) else none
      | _ => none
    | _ => none
  | .multianewarray ci sl => match st with
    | .inl v :: .inr (.inr (some k)) :: r => match SH[k]? with
      | some (.inr (.inl (cj, fs))) => if cj = ci then (match fs[sl]? with
        | some none => some (i + 1, ls, r, fx_set M k (fx_up (M k) sl v))
        | _ => none) else none
      | _ => none
    | _ => none
  | .iaload => fx_ldx SH Lx MX i ls st M
  | .baload => fx_ld 1 SH i ls st M
  | .caload => fx_ld 2 SH i ls st M
  | .iastore => fx_sd 0 SH i ls st M
  | .bastore => fx_sd 1 SH i ls st M
  | .castore => fx_sd 2 SH i ls st M
  | .aaload => match st with
    | .inl x :: .inr (.inr (some k)) :: r => match SH[k]? with
      | some (.inr (.inr l)) => if fx_ix x l.length = true then (match l[x.toNat]? with
        | some a => some (i + 1, ls, .inr (.inr (some a)) :: r, M)
        | none => none) else none
      | _ => none
    | _ => none
  | .arraylength => match st with
    | .inr (.inr (some k)) :: r => if k = SH.length then (if Lx < 2147483648 then some (i + 1, ls, .inl (Lx : Int) :: r, M) else none) else match SH[k]? with
      | some (.inl (0, n)) => some (i + 1, ls, .inl (n : Int) :: r, M)
      | _ => none
    | _ => none
  | .nop => match st with
    | .inl n :: .inl dp :: .inr (.inr (some k1)) :: .inl sp :: .inr (.inr (some k0)) :: r => match SH[k0]?, SH[k1]? with
      | some (.inl (0, n0)), some (.inl (0, n1)) => if fx_rb n = true ∧ fx_rb dp = true ∧ fx_rb sp = true ∧ 0 ≤ n ∧ 0 ≤ dp ∧ 0 ≤ sp ∧ sp + n ≤ (n0 : Int) ∧ dp + n ≤ (n1 : Int) ∧ fx_cs r ≤ 8 then
          some (i + 1, ls, r, fx_set M k1 (fx_cp (M k0) (M k1) sp.toNat dp.toNat n.toNat)) else none
      | _, _ => none
    | _ => none
  | .swap => match st with
    | .inl y :: .inl x :: r => if fx_rb x = true ∧ fx_rb y = true ∧ fx_cs r ≤ 8 then some (i + 1, ls, .inl (if x < y then y else x) :: r, M) else none
    | _ => none
  | .pop2 => match st with
    | .inl y :: .inl x :: r => if fx_rb x = true ∧ fx_rb y = true ∧ fx_cs r ≤ 8 then some (i + 1, ls, .inl (if y < x then y else x) :: r, M) else none
    | _ => none
  | _ => none
def fx_ret (t : Nat) (st : List fx_V) (M : fx_M) : Option (Option fx_V × fx_M) := match st with
  | [.inl x] => if t = 1 ∨ (t = 2 ∧ (x = 0 ∨ x = 1)) ∨ (t = 3 ∧ 0 ≤ x ∧ x < 65536) then some (some (.inl x), M) else none
  | _ => none
def fx_f1 (v : fx_V) : List fx_V := match v with
  | .inr (.inl _) => [v, .inr (.inr none)]
  | _ => [v]
def fx_fl (vs : List fx_V) : List fx_V := vs.flatMap fx_f1
def fx_ini (n : Nat) (vs : List fx_V) : List fx_V := fx_fl vs ++ List.replicate (n - (fx_fl vs).length) (.inr (.inr none))
/-- the receiver is an object of the class -/
def fx_rcv (SH : List fx_S) (o : Option Nat) (vs : List fx_V) : Bool := match o with
  | none => true
  | some ci => match vs with
    | .inr (.inr (some k)) :: _ => match SH[k]? with
      | some (.inr (.inl (cj, _))) => decide (cj = ci)
      | _ => false
    | _ => false
def fx_ex (C : Nat → List Instr) (G : fx_G) (SH : List fx_S) (Lx : Nat) (MX : Nat → Int) : Nat → Nat → Nat → List fx_V → List fx_V → fx_M → Option (Option fx_V × fx_M)
  | 0, _, _, _, _, _ => none
  | n + 1, j, i, ls, st, M => match (C j)[i]? with
    | some .ireturn => fx_ret (G j).2.2.1 st M
    | some .return_ => match st with
      | [] => if (G j).2.2.1 = 0 then some (none, M) else none
      | _ => none
    | some .areturn => match st with
      | [.inr (.inr (some a))] => if (G j).2.2.1 = 4 then some (some (.inr (.inr (some a))), M) else none
      | _ => none
    | some (.invokestatic k) =>
      if (G k).1 ≤ st.length ∧ fx_cs (st.drop (G k).1) ≤ 8 ∧ (fx_fl (st.take (G k).1).reverse).length ≤ (G k).2.1 then
        (match fx_ex C G SH Lx MX n k 0 (fx_ini (G k).2.1 (st.take (G k).1).reverse) [] M with
          | some (r, M') => fx_ex C G SH Lx MX n j (i + 1) ls (r.toList ++ st.drop (G k).1) M'
          | none => none) else none
    | some (.invokevirtual k) =>
      if (G k).1 ≤ st.length ∧ fx_cs (st.drop (G k).1) ≤ 8 ∧ (fx_fl (st.take (G k).1).reverse).length ≤ (G k).2.1 ∧ fx_rcv SH (G k).2.2.2 (st.take (G k).1).reverse = true then
        (match fx_ex C G SH Lx MX n k 0 (fx_ini (G k).2.1 (st.take (G k).1).reverse) [] M with
          | some (r, M') => fx_ex C G SH Lx MX n j (i + 1) ls (r.toList ++ st.drop (G k).1) M'
          | none => none) else none
    | some m => match fx_step SH Lx MX m i ls st M with
      | some (i', ls', st', M') => fx_ex C G SH Lx MX n j i' ls' st' M'
      | none => none
    | none => none
/-! values, locals, cells of the real machine -/
def fx_g (ad : Nat → Nat) : fx_V → Value
  | .inl x => .int (Int32.ofInt x)
  | .inr (.inl x) => .long x
  | .inr (.inr (some k)) => .ref (ad k)
  | .inr (.inr none) => .null
def fx_gl (ad : Nat → Nat) : fx_V → Option Value
  | .inl x => some (.int (Int32.ofInt x))
  | .inr (.inl x) => some (.long x)
  | .inr (.inr (some k)) => some (.ref (ad k))
  | .inr (.inr none) => none
theorem fx_gl_some {ad : Nat → Nat} {v : fx_V} {w : Value} (h : fx_gl ad v = some w) : w = fx_g ad v := by
  rcases v with x | x | (_ | k) <;> simp [fx_gl] at h <;> simp [fx_g, h]
theorem fx_ct_g {ad : Nat → Nat} (v : fx_V) : (fx_g ad v).category = fx_ct v := by
  rcases v with x | x | (_ | k) <;> rfl
theorem fx_cs_g {ad : Nat → Nat} (st : List fx_V) : ((st.map (fx_g ad)).map fun v => v.category).sum = fx_cs st := by
  induction st with
  | nil => rfl
  | cons v t ih => simp only [List.map_cons, List.sum_cons, fx_ct_g, fx_cs, ih]
def fx_prs (ad : Nat → Nat) (ls : List fx_V) : List (Nat × Value) := (List.range ls.length).filterMap (fun k => ((ls[k]?).bind (fx_gl ad)).map (fun w => (k, w)))
theorem fx_prs_mem {ad : Nat → Nat} {ls : List fx_V} {q : Nat × Value} : q ∈ fx_prs ad ls ↔ ∃ v, ls[q.1]? = some v ∧ fx_gl ad v = some q.2 := by
  obtain ⟨i, w⟩ := q
  unfold fx_prs
  rw [List.mem_filterMap]
  constructor
  · rintro ⟨k, hk, h⟩
    cases hv : ls[k]? with
    | none => rw [hv] at h; simp at h
    | some v =>
      rw [hv] at h
      cases hg : fx_gl ad v with
      | none => simp [hg] at h
      | some w' =>
        simp [hg] at h
        obtain ⟨rfl, rfl⟩ := h
        exact ⟨v, hv, hg⟩
  · rintro ⟨v, hv, hg⟩
    refine ⟨i, List.mem_range.mpr (List.getElem?_eq_some_iff.mp hv).1, ?_⟩
    show ((ls[i]?).bind (fx_gl ad)).map _ = _
    have hv' : ls[i]? = some v := hv
    have hg' : fx_gl ad v = some w := hg
    rw [hv']
    simp [hg']
theorem fx_lh_sub {L : Array Slot} {n : Nat} {l l' : List (Nat × Value)} (h : lv_has L n l) (hs : ∀ q ∈ l', q ∈ l) : lv_has L n l' := ⟨h.1, h.2.1, fun q hq => h.2.2 q (hs q hq)⟩
theorem fx_lh_get {ad : Nat → Nat} {L : Array Slot} {n k : Nat} {ls : List fx_V} {v : fx_V} {w : Value} (h : lv_has L n (fx_prs ad ls)) (hv : ls[k]? = some v) (hg : fx_gl ad v = some w) : L[k]? = some (.val w) := h.2.2 (k, w) (fx_prs_mem.mpr ⟨v, hv, hg⟩)
theorem fx_lh_set {ad : Nat → Nat} {L : Array Slot} {n k : Nat} {ls : List fx_V} {v : fx_V} {w : Value} (hg : fx_gl ad v = some w) (hf : fx_fr ls k = true)
    (h : lv_has L n ((k, w) :: (fx_prs ad ls).filter (fun q => !(q.1 == k) && !(q.1 + 1 == k && q.2.category == 2)))) : lv_has L n (fx_prs ad (ls.set k v)) := by
  refine fx_lh_sub h fun q hq => ?_
  obtain ⟨u, hu, hgu⟩ := fx_prs_mem.mp hq
  simp only [fx_fr, Bool.and_eq_true, decide_eq_true_eq] at hf
  by_cases hk : q.1 = k
  · rw [hk, List.getElem?_set_self hf.1] at hu
    cases hu
    rw [hg] at hgu
    cases hgu
    rw [← hk]
    exact List.mem_cons_self
  · rw [List.getElem?_set_ne (Ne.symm hk)] at hu
    refine List.mem_cons_of_mem _ (List.mem_filter.mpr ⟨fx_prs_mem.mpr ⟨u, hu, hgu⟩, ?_⟩)
    simp only [Bool.and_eq_true, Bool.not_eq_true', beq_eq_false_iff_ne, ne_eq, Bool.and_eq_false_iff]
    refine ⟨hk, ?_⟩
    by_cases h1 : q.1 + 1 = k
    · right
      intro hc
      rw [fx_gl_some hgu, fx_ct_g] at hc
      obtain ⟨-, hf2⟩ := hf
      subst h1
      simp only [hu] at hf2
      rcases u with x | x | x <;> simp [fx_ct] at hc hf2
    · exact Or.inl h1
theorem fx_lh_set2 {ad : Nat → Nat} {L : Array Slot} {n k : Nat} {ls : List fx_V} {x : Int64} (hf : fx_fr ls k = true) (hk1 : k + 1 < ls.length)
    (h : lv_has L n ((k, Value.long x) :: (fx_prs ad ls).filter (fun q => !(q.1 == k) && (!(q.1 == k + 1) && !(q.1 + 1 == k && q.2.category == 2))))) : lv_has L n (fx_prs ad ((ls.set k (.inr (.inl x))).set (k + 1) (.inr (.inr none)))) := by
  refine fx_lh_sub h fun q hq => ?_
  obtain ⟨u, hu, hgu⟩ := fx_prs_mem.mp hq
  simp only [fx_fr, Bool.and_eq_true, decide_eq_true_eq] at hf
  by_cases hk2 : q.1 = k + 1
  · rw [hk2, List.getElem?_set_self (by simpa using hk1)] at hu
    cases hu
    simp [fx_gl] at hgu
  · rw [List.getElem?_set_ne (Ne.symm hk2)] at hu
    by_cases hk : q.1 = k
    · rw [hk, List.getElem?_set_self hf.1] at hu
      cases hu
      simp [fx_gl] at hgu
      obtain ⟨i, w⟩ := q
      simp only at hk hgu
      subst hk hgu
      exact List.mem_cons_self
    · rw [List.getElem?_set_ne (Ne.symm hk)] at hu
      refine List.mem_cons_of_mem _ (List.mem_filter.mpr ⟨fx_prs_mem.mpr ⟨u, hu, hgu⟩, ?_⟩)
      simp only [Bool.and_eq_true, Bool.not_eq_true', beq_eq_false_iff_ne, ne_eq, Bool.and_eq_false_iff]
      refine ⟨hk, hk2, ?_⟩
      by_cases h1 : q.1 + 1 = k
      · right
        intro hc
        rw [fx_gl_some hgu, fx_ct_g] at hc
        obtain ⟨-, hf2⟩ := hf
        subst h1
        simp only [hu] at hf2
        rcases u with x | x | x <;> simp [fx_ct] at hc hf2
      · exact Or.inl h1
def fx_ce (ad : Nat → Nat) (cA : Nat → ClassId) (M : fx_M) (k : Nat) : fx_S → va_E
  | .inl (t, n) => .inl (cA t, (n, .inl (fun j => Int32.ofInt (M k j))))
  | .inr (.inl (ci, fs)) => .inr (ci, fs.zipIdx.map (fun q => match q.1 with
    | some r => .ref (ad r)
    | none => .int (Int32.ofInt (M k q.2))))
  | .inr (.inr l) => .inl (cA 9, (l.length, .inr (.inr (.inr (.inr (fun j => (l[j]?).map ad))))))
def fx_wl (ad : Nat → Nat) (cA : Nat → ClassId) (SH : List fx_S) (M : fx_M) : va_W := SH.zipIdx.map (fun q => (ad q.2, fx_ce ad cA M q.2 q.1))
theorem fx_wl_at {ad : Nat → Nat} {cA : Nat → ClassId} {SH : List fx_S} {M : fx_M} (k : Nat) : (fx_wl ad cA SH M)[k]? = (SH[k]?).map (fun e => (ad k, fx_ce ad cA M k e)) := by
  unfold fx_wl
  rw [List.getElem?_map, List.getElem?_zipIdx]
  cases SH[k]? <;> simp
theorem fx_wl_get {ad : Nat → Nat} {cA : Nat → ClassId} {SH : List fx_S} {M : fx_M} {k : Nat} {e : fx_S} (h : SH[k]? = some e) : (fx_wl ad cA SH M)[k]? = some (ad k, fx_ce ad cA M k e) := by rw [fx_wl_at, h]; rfl
theorem fx_ce_ne {ad : Nat → Nat} {cA : Nat → ClassId} {M : fx_M} {k q : Nat} {f : Nat → Int} (h : q ≠ k) (e : fx_S) : fx_ce ad cA (fx_set M k f) q e = fx_ce ad cA M q e := by
  rcases e with ⟨t, n⟩ | ⟨ci, fs⟩ | l <;> simp [fx_ce, fx_set, h]
theorem fx_wl_set {ad : Nat → Nat} {cA : Nat → ClassId} {SH : List fx_S} {M : fx_M} {k : Nat} {e : fx_S} {f : Nat → Int} {x : va_E} (h : SH[k]? = some e) (hx : x = fx_ce ad cA (fx_set M k f) k e) : (fx_wl ad cA SH M).set k (ad k, x) = fx_wl ad cA SH (fx_set M k f) := by
  refine List.ext_getElem? fun q => ?_
  by_cases hq : q = k
  · subst hq
    have hl : q < (fx_wl ad cA SH M).length := (List.getElem?_eq_some_iff.mp (fx_wl_get (ad := ad) (cA := cA) (M := M) h)).1
    rw [List.getElem?_set_self hl, fx_wl_get h, hx]
  · rw [List.getElem?_set_ne (Ne.symm hq), fx_wl_at, fx_wl_at]
    cases SH[q]? with
    | none => rfl
    | some e' => simp [fx_ce_ne hq]
theorem fx_wl_len {ad : Nat → Nat} {cA : Nat → ClassId} {SH : List fx_S} {M : fx_M} : (fx_wl ad cA SH M).length = SH.length := by simp [fx_wl]
def fx_A (ad : Nat → Nat) (N : Nat) : Nat → Prop := fun q => ∃ k, k < N ∧ q = ad k
theorem fx_D_any {A : Nat → Prop} {ad : Nat → Nat} {cA : Nat → ClassId} {SH : List fx_S} {M M' : fx_M} (h : va_D A (fx_wl ad cA SH M)) : va_D A (fx_wl ad cA SH M') := by
  have key : ∀ (k : Nat) (q : Nat × va_E), (fx_wl ad cA SH M')[k]? = some q → ∃ q', (fx_wl ad cA SH M)[k]? = some q' ∧ q'.1 = q.1 := by
    intro k q hk
    rw [fx_wl_at] at hk ⊢
    cases hs : SH[k]? with
    | none => rw [hs] at hk; cases hk
    | some e =>
      rw [hs] at hk
      cases hk
      exact ⟨_, rfl, rfl⟩
  refine ⟨fun i j p q hi hj hpq => ?_, fun k q hk => ?_⟩
  · obtain ⟨p', h1, h2⟩ := key i p hi
    obtain ⟨q', h3, h4⟩ := key j q hj
    exact h.1 i j p' q' h1 h3 (h2.trans (hpq.trans h4.symm))
  · obtain ⟨q', h1, h2⟩ := key k q hk
    rw [← h2]
    exact h.2 k q' h1
theorem fx_A_of {A : Nat → Prop} {ad : Nat → Nat} {cA : Nat → ClassId} {SH : List fx_S} {M : fx_M} (h : va_D A (fx_wl ad cA SH M)) {q : Nat} (hq : fx_A ad SH.length q) : A q := by
  obtain ⟨k, hk, rfl⟩ := hq
  exact h.2 k (ad k, fx_ce ad cA M k SH[k]) (fx_wl_get (List.getElem?_eq_getElem hk))
theorem fx_D_self {A : Nat → Prop} {ad : Nat → Nat} {cA : Nat → ClassId} {SH : List fx_S} {M : fx_M} (h : va_D A (fx_wl ad cA SH M)) : va_D (fx_A ad SH.length) (fx_wl ad cA SH M) := by
  refine ⟨h.1, fun k q hk => ?_⟩
  have hl := (List.getElem?_eq_some_iff.mp hk).1
  rw [fx_wl_len] at hl
  rw [fx_wl_get (List.getElem?_eq_getElem hl)] at hk
  cases hk
  exact ⟨k, hl, rfl⟩
