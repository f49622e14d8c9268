/-! the cells of the two objects: 0 the class' object, 1 strip, 5 trial (each with three rows behind it), 9 lines (rows 10 to 16), 17 pad (18), 19 history (20: six strips at 21, 25 .. 41), 45 slots (46: two strips at 48, 52; 47), 56 the script -/
abbrev fd_st (a : Nat) : List fx_S := [.inr (.inl (5, [some (a + 1), some (a + 2), some (a + 3)])), .inl (0, 144), .inl (0, 6), .inl (0, 24)]
abbrev fd_SH : List fx_S := [.inr (.inl (0, [some 1, some 5, some 9, some 17, some 19, some 45])),
  .inr (.inl (5, [some 2, some 3, some 4])), .inl (0, 144), .inl (0, 6), .inl (0, 24), .inr (.inl (5, [some 6, some 7, some 8])), .inl (0, 144), .inl (0, 6), .inl (0, 24),
  .inr (.inl (2, [none, some 10, some 11, some 12, some 13, some 14, some 15, some 16])), .inl (0, 144), .inl (0, 72), .inl (0, 72), .inl (0, 72), .inl (0, 72), .inl (0, 72), .inl (1, 72),
  .inr (.inl (3, [some 18, none])), .inl (2, 60),
  .inr (.inl (1, [some 20, none, none])), .inr (.inr [21, 25, 29, 33, 37, 41]),
  .inr (.inl (5, [some 22, some 23, some 24])), .inl (0, 144), .inl (0, 6), .inl (0, 24), .inr (.inl (5, [some 26, some 27, some 28])), .inl (0, 144), .inl (0, 6), .inl (0, 24),
  .inr (.inl (5, [some 30, some 31, some 32])), .inl (0, 144), .inl (0, 6), .inl (0, 24), .inr (.inl (5, [some 34, some 35, some 36])), .inl (0, 144), .inl (0, 6), .inl (0, 24),
  .inr (.inl (5, [some 38, some 39, some 40])), .inl (0, 144), .inl (0, 6), .inl (0, 24), .inr (.inl (5, [some 42, some 43, some 44])), .inl (0, 144), .inl (0, 6), .inl (0, 24),
  .inr (.inl (4, [some 46, some 47])), .inr (.inr [48, 52]), .inl (1, 2),
  .inr (.inl (5, [some 49, some 50, some 51])), .inl (0, 144), .inl (0, 6), .inl (0, 24), .inr (.inl (5, [some 53, some 54, some 55])), .inl (0, 144), .inl (0, 6), .inl (0, 24)]
/-- a strip lies at a -/
def fd_isS (a : Nat) : Prop := fd_SH[a]? = some (.inr (.inl (5, [some (a + 1), some (a + 2), some (a + 3)]))) ∧ fd_SH[a + 1]? = some (.inl (0, 144)) ∧ fd_SH[a + 2]? = some (.inl (0, 6)) ∧ fd_SH[a + 3]? = some (.inl (0, 24))
abbrev fx_u : fx_V := .inr (.inr none)
abbrev fx_f (a : Nat) : fx_V := .inr (.inr (some a))
abbrev fx_Sc : Type := Nat × (Nat → Int)
def Ev (X : fx_Sc) (j i : Nat) (ls st : List fx_V) (M : fx_M) (r : Option fx_V) (M' : fx_M) : Prop := ∃ n, fx_ex fd_C fd_G fd_SH X.1 X.2 n j i ls st M = some (r, M')
section EV
variable {C : Nat → List Instr} {G : fx_G} {SH : List fx_S} {Lx : Nat} {MX : Nat → Int}
theorem fx_ex_mono {n : Nat} : ∀ {j i : Nat} {ls st : List fx_V} {M : fx_M} {x : Option fx_V × fx_M}, fx_ex C G SH Lx MX n j i ls st M = some x → fx_ex C G SH Lx MX (n + 1) j i ls st M = some x := by
  induction n with
  | zero => intro j i ls st M x h; cases h
  | succ n ih =>
    intro j i ls st M x h
    unfold fx_ex at h ⊢
    cases hmm : (C j)[i]? with
    | none => rw [hmm] at h; cases h
    | some mm =>
      rw [hmm] at h
      split at h
      next => exact h
      next => exact h
      next => exact h
      next k =>
        split at h
        next hc =>
          rw [if_pos hc]
          split at h
          next r1 M1 hex => rw [ih hex]; exact ih h
          next => cases h
        next => cases h
      next k =>
        split at h
        next hc =>
          rw [if_pos hc]
          split at h
          next r1 M1 hex => rw [ih hex]; exact ih h
          next => cases h
        next => cases h
      next =>
        split at h
        next i' ls' st' M1 hs => exact ih h
        next => cases h
      next => cases h
theorem fx_ex_le {n m : Nat} (hnm : n ≤ m) {j i : Nat} {ls st : List fx_V} {M : fx_M} {x : Option fx_V × fx_M} (h : fx_ex C G SH Lx MX n j i ls st M = some x) : fx_ex C G SH Lx MX m j i ls st M = some x := by
  induction hnm with
  | refl => exact h
  | step _ ih => exact fx_ex_mono ih
end EV
section EVR
variable {X : fx_Sc} {j i i' : Nat} {ls ls' st st' rest : List fx_V} {M M1 M' : fx_M} {r : Option fx_V} {c : List Instr}
/-- an instruction that neither calls nor returns -/
def fx_pl (mm : Instr) : Bool := match mm with
  | .ireturn => false
  | .return_ => false
  | .areturn => false
  | .invokestatic _ => false
  | .invokevirtual _ => false
  | _ => true
theorem Ev.one {mm : Instr} (hC : fd_C j = c) (hi : c[i]? = some mm) (hp : fx_pl mm = true) (hs : fx_step fd_SH X.1 X.2 mm i ls st M = some (i', ls', st', M1)) (k : Ev X j i' ls' st' M1 r M') : Ev X j i ls st M r M' := by
  obtain ⟨n, hn⟩ := k
  refine ⟨n + 1, ?_⟩
  unfold fx_ex
  rw [hC, hi]
  cases mm <;> first | cases hp | skip
  all_goals (simp only [hs]; exact hn)
/-- some instructions of the kind, one behind another -/
def fx_run (c : List Instr) (X : fx_Sc) : Nat → Nat → List fx_V → List fx_V → fx_M → fx_O
  | 0, i, ls, st, M => some (i, ls, st, M)
  | n + 1, i, ls, st, M => match c[i]? with
    | none => none
    | some mm => if fx_pl mm = true then (match fx_step fd_SH X.1 X.2 mm i ls st M with
      | some (i', ls', st', M') => fx_run c X n i' ls' st' M'
      | none => none) else none
theorem Ev.run (n : Nat) (hC : fd_C j = c) (hs : fx_run c X n i ls st M = some (i', ls', st', M1)) (k : Ev X j i' ls' st' M1 r M') : Ev X j i ls st M r M' := by
  induction n generalizing i ls st M with
  | zero => cases hs; exact k
  | succ n ih =>
    unfold fx_run at hs
    split at hs
    next => cases hs
    next mm hi =>
      split at hs
      next hp =>
        split at hs
        next i1 ls1 st1 M2 h1 => exact Ev.one hC hi hp h1 (ih hs)
        next => cases hs
      next => cases hs
theorem Ev.ret {x : Int} (hC : fd_C j = c) (hi : c[i]? = some .ireturn) (h : fx_ret (fd_G j).2.2.1 [.inl x] M = some (some (.inl x), M)) : Ev X j i ls [.inl x] M (some (.inl x)) M := by
  refine ⟨1, ?_⟩
  unfold fx_ex
  rw [hC, hi]
  exact h
theorem Ev.retv (hC : fd_C j = c) (hi : c[i]? = some .return_) (h : (fd_G j).2.2.1 = 0) : Ev X j i ls [] M none M := by
  refine ⟨1, ?_⟩
  unfold fx_ex
  rw [hC, hi]
  simp only
  rw [if_pos h]
theorem Ev.callS {k : Nat} {vs : List fx_V} {r1 : Option fx_V} (hC : fd_C j = c) (hi : c[i]? = some (.invokestatic k)) (hg : (fd_G k).1 = vs.length) (hs : st = vs.reverse ++ rest) (hcs : fx_cs rest ≤ 8) (hfl : (fx_fl vs).length ≤ (fd_G k).2.1)
    (hc : Ev X k 0 (fx_ini (fd_G k).2.1 vs) [] M r1 M1) (kk : Ev X j (i + 1) ls (r1.toList ++ rest) M1 r M') : Ev X j i ls st M r M' := by
  obtain ⟨n1, h1⟩ := hc
  obtain ⟨n2, h2⟩ := kk
  have h1 := fx_ex_le (Nat.le_max_left n1 n2) h1
  have h2 := fx_ex_le (Nat.le_max_right n1 n2) h2
  refine ⟨max n1 n2 + 1, ?_⟩
  subst hs
  unfold fx_ex
  rw [hC, hi]
  have e1 : (vs.reverse ++ rest).drop (fd_G k).1 = rest := by rw [hg, ← List.length_reverse, List.drop_left]
  have e2 : ((vs.reverse ++ rest).take (fd_G k).1).reverse = vs := by rw [hg, ← List.length_reverse, List.take_left, List.reverse_reverse]
  simp only
  rw [e1, e2, if_pos ⟨by simp; omega, hcs, hfl⟩, h1]
  exact h2
theorem Ev.callV {k : Nat} {vs : List fx_V} {r1 : Option fx_V} (hC : fd_C j = c) (hi : c[i]? = some (.invokevirtual k)) (hg : (fd_G k).1 = vs.length) (hs : st = vs.reverse ++ rest) (hcs : fx_cs rest ≤ 8) (hfl : (fx_fl vs).length ≤ (fd_G k).2.1) (hr : fx_rcv fd_SH (fd_G k).2.2.2 vs = true)
    (hc : Ev X k 0 (fx_ini (fd_G k).2.1 vs) [] M r1 M1) (kk : Ev X j (i + 1) ls (r1.toList ++ rest) M1 r M') : Ev X j i ls st M r M' := by
  obtain ⟨n1, h1⟩ := hc
  obtain ⟨n2, h2⟩ := kk
  have h1 := fx_ex_le (Nat.le_max_left n1 n2) h1
  have h2 := fx_ex_le (Nat.le_max_right n1 n2) h2
  refine ⟨max n1 n2 + 1, ?_⟩
  subst hs
  unfold fx_ex
  rw [hC, hi]
  have e1 : (vs.reverse ++ rest).drop (fd_G k).1 = rest := by rw [hg, ← List.length_reverse, List.drop_left]
  have e2 : ((vs.reverse ++ rest).take (fd_G k).1).reverse = vs := by rw [hg, ← List.length_reverse, List.take_left, List.reverse_reverse]
  simp only
  rw [e1, e2, if_pos ⟨by simp; omega, hcs, hfl, hr⟩, h1]
  exact h2
/-! instructions with a guard -/
theorem fx_rb_of {x : Int} (h : -2147483648 ≤ x ∧ x < 2147483648) : fx_rb x = true := fx_rb_iff.mpr h
theorem Ev.ifT {cd : Jvm.ClassFile.Cond} {t : Int} {x : Int} (hC : fd_C j = c) (hi : c[i]? = some (.ifCond cd t)) (g : -2147483648 ≤ x ∧ x < 2147483648) (h : fx_cmp cd x 0 = true) (k : Ev X j t.toNat ls rest M r M') : Ev X j i ls (.inl x :: rest) M r M' :=
  Ev.one hC hi rfl (by simp only [fx_step, fx_rb_of g, h, if_true]) k
theorem Ev.ifF {cd : Jvm.ClassFile.Cond} {t : Int} {x : Int} (hC : fd_C j = c) (hi : c[i]? = some (.ifCond cd t)) (g : -2147483648 ≤ x ∧ x < 2147483648) (h : fx_cmp cd x 0 = false) (k : Ev X j (i + 1) ls rest M r M') : Ev X j i ls (.inl x :: rest) M r M' :=
  Ev.one hC hi rfl (by simp only [fx_step, fx_rb_of g, h, if_true, Bool.false_eq_true, if_false]) k
theorem Ev.icT {cd : Jvm.ClassFile.Cond} {t : Int} {x y : Int} (hC : fd_C j = c) (hi : c[i]? = some (.if_icmp cd t)) (g : -2147483648 ≤ x ∧ x < 2147483648) (g2 : -2147483648 ≤ y ∧ y < 2147483648) (h : fx_cmp cd x y = true) (k : Ev X j t.toNat ls rest M r M') : Ev X j i ls (.inl y :: .inl x :: rest) M r M' :=
  Ev.one hC hi rfl (by simp only [fx_step, fx_rb_of g, fx_rb_of g2, h, and_self, if_true]) k
theorem Ev.icF {cd : Jvm.ClassFile.Cond} {t : Int} {x y : Int} (hC : fd_C j = c) (hi : c[i]? = some (.if_icmp cd t)) (g : -2147483648 ≤ x ∧ x < 2147483648) (g2 : -2147483648 ≤ y ∧ y < 2147483648) (h : fx_cmp cd x y = false) (k : Ev X j (i + 1) ls rest M r M') : Ev X j i ls (.inl y :: .inl x :: rest) M r M' :=
  Ev.one hC hi rfl (by simp only [fx_step, fx_rb_of g, fx_rb_of g2, h, and_self, if_true, Bool.false_eq_true, if_false]) k
theorem Ev.tsO {d lo hi2 : Int} {ts : Array Int} {x : Int} (hC : fd_C j = c) (hi : c[i]? = some (.tableswitch d lo hi2 ts)) (g : -2147483648 ≤ x ∧ x < 2147483648) (h : x < lo ∨ hi2 < x) (k : Ev X j d.toNat ls rest M r M') : Ev X j i ls (.inl x :: rest) M r M' :=
  Ev.one hC hi rfl (by simp only [fx_step, fx_rb_of g, h, if_true]) k
theorem Ev.tsI {d lo hi2 : Int} {ts : Array Int} {x t : Int} (hC : fd_C j = c) (hi : c[i]? = some (.tableswitch d lo hi2 ts)) (g : -2147483648 ≤ x ∧ x < 2147483648) (h : ¬ (x < lo ∨ hi2 < x)) (ht : ts[(x - lo).toNat]? = some t) (k : Ev X j t.toNat ls rest M r M') : Ev X j i ls (.inl x :: rest) M r M' :=
  Ev.one hC hi rfl (by simp only [fx_step, fx_rb_of g, h, ht, if_true, if_false]) k
theorem Ev.lsw {d : Int} {ts : Array (Int × Int)} {x t : Int} (hC : fd_C j = c) (hi : c[i]? = some (.lookupswitch d ts)) (g : -2147483648 ≤ x ∧ x < 2147483648) (h : fx_lk ts.toList d x = t) (k : Ev X j t.toNat ls rest M r M') : Ev X j i ls (.inl x :: rest) M r M' :=
  Ev.one hC hi rfl (by simp only [fx_step, fx_rb_of g, h, if_true]) k
theorem Ev.getr {ci sl a b : Nat} {fs : List (Option Nat)} (hC : fd_C j = c) (hi : c[i]? = some (.invokeinterface ci sl)) (hk : fd_SH[a]? = some (.inr (.inl (ci, fs)))) (hf : fs[sl]? = some (some b)) (k : Ev X j (i + 1) ls (fx_f b :: rest) M r M') : Ev X j i ls (fx_f a :: rest) M r M' :=
  Ev.one hC hi rfl (by simp only [fx_step, hk, hf, if_true]) k
theorem fx_ixb {x : Int} {n : Nat} (hn : n < 2147483648) (g : 0 ≤ x ∧ x < (n : Int)) : fx_ix x n = true := fx_ix_iff.mpr ⟨g.1, g.2, by omega⟩
theorem Ev.iald {a n : Nat} {x : Int} (hC : fd_C j = c) (hi : c[i]? = some .iaload) (hk : fd_SH[a]? = some (.inl (0, n))) (hn : n < 2147483648) (g : 0 ≤ x ∧ x < (n : Int)) (k : Ev X j (i + 1) ls (.inl (M a x.toNat) :: rest) M r M') : Ev X j i ls (.inl x :: fx_f a :: rest) M r M' := by
  have ha : ¬ a = fd_SH.length := by have := (List.getElem?_eq_some_iff.mp hk).1; omega
  exact Ev.one hC hi rfl (by simp only [fx_step, fx_ldx, fx_ld, ha, hk, fx_ixb hn g, if_true, if_false, and_self]) k
theorem Ev.bald {a n : Nat} {x : Int} (hC : fd_C j = c) (hi : c[i]? = some .baload) (hk : fd_SH[a]? = some (.inl (1, n))) (hn : n < 2147483648) (g : 0 ≤ x ∧ x < (n : Int)) (k : Ev X j (i + 1) ls (.inl (M a x.toNat) :: rest) M r M') : Ev X j i ls (.inl x :: fx_f a :: rest) M r M' :=
  Ev.one hC hi rfl (by simp only [fx_step, fx_ld, hk, fx_ixb hn g, if_true, and_self]) k
theorem Ev.cald {a n : Nat} {x : Int} (hC : fd_C j = c) (hi : c[i]? = some .caload) (hk : fd_SH[a]? = some (.inl (2, n))) (hn : n < 2147483648) (g : 0 ≤ x ∧ x < (n : Int)) (k : Ev X j (i + 1) ls (.inl (M a x.toNat) :: rest) M r M') : Ev X j i ls (.inl x :: fx_f a :: rest) M r M' :=
  Ev.one hC hi rfl (by simp only [fx_step, fx_ld, hk, fx_ixb hn g, if_true, and_self]) k
theorem Ev.iast {a n : Nat} {x v : Int} (hC : fd_C j = c) (hi : c[i]? = some .iastore) (hk : fd_SH[a]? = some (.inl (0, n))) (hn : n < 2147483648) (g : 0 ≤ x ∧ x < (n : Int)) (k : Ev X j (i + 1) ls rest (fx_set M a (fx_up (M a) x.toNat v)) r M') : Ev X j i ls (.inl v :: .inl x :: fx_f a :: rest) M r M' :=
  Ev.one hC hi rfl (by simp only [fx_step, fx_sd, fx_tk, hk, fx_ixb hn g, if_true, and_self]) k
theorem Ev.bast {a n : Nat} {x v : Int} (hC : fd_C j = c) (hi : c[i]? = some .bastore) (hk : fd_SH[a]? = some (.inl (1, n))) (hn : n < 2147483648) (g : 0 ≤ x ∧ x < (n : Int)) (hv : v = 0 ∨ v = 1) (k : Ev X j (i + 1) ls rest (fx_set M a (fx_up (M a) x.toNat v)) r M') : Ev X j i ls (.inl v :: .inl x :: fx_f a :: rest) M r M' :=
  Ev.one hC hi rfl (by simp only [fx_step, fx_sd, show fx_tk 1 v = true by rcases hv with rfl | rfl <;> rfl, hk, fx_ixb hn g, if_true, and_self]) k
theorem Ev.cast {a n : Nat} {x v : Int} (hC : fd_C j = c) (hi : c[i]? = some .castore) (hk : fd_SH[a]? = some (.inl (2, n))) (hn : n < 2147483648) (g : 0 ≤ x ∧ x < (n : Int)) (hv : 0 ≤ v ∧ v < 65536) (k : Ev X j (i + 1) ls rest (fx_set M a (fx_up (M a) x.toNat v)) r M') : Ev X j i ls (.inl v :: .inl x :: fx_f a :: rest) M r M' :=
  Ev.one hC hi rfl (by simp only [fx_step, fx_sd, show fx_tk 2 v = true by simp [fx_tk, hv.1, hv.2], hk, fx_ixb hn g, if_true, and_self]) k
theorem Ev.aald {a b : Nat} {l : List Nat} {x : Int} (hC : fd_C j = c) (hi : c[i]? = some .aaload) (hk : fd_SH[a]? = some (.inr (.inr l))) (g : 0 ≤ x ∧ x < (l.length : Int)) (hl : l.length < 2147483648) (hb : l[x.toNat]? = some b) (k : Ev X j (i + 1) ls (fx_f b :: rest) M r M') : Ev X j i ls (.inl x :: fx_f a :: rest) M r M' :=
  Ev.one hC hi rfl (by simp only [fx_step, hk, fx_ixb hl g, hb, if_true]) k
theorem Ev.alen {a n : Nat} (hC : fd_C j = c) (hi : c[i]? = some .arraylength) (hk : fd_SH[a]? = some (.inl (0, n))) (k : Ev X j (i + 1) ls (.inl (n : Int) :: rest) M r M') : Ev X j i ls (fx_f a :: rest) M r M' := by
  have ha : ¬ a = fd_SH.length := by have := (List.getElem?_eq_some_iff.mp hk).1; omega
  exact Ev.one hC hi rfl (by simp only [fx_step, ha, hk, if_false]) k
theorem Ev.xald {x : Int} (hC : fd_C j = c) (hi : c[i]? = some .iaload) (hn : X.1 < 2147483648) (g : 0 ≤ x ∧ x < (X.1 : Int)) (k : Ev X j (i + 1) ls (.inl (X.2 x.toNat) :: rest) M r M') : Ev X j i ls (.inl x :: fx_f 56 :: rest) M r M' :=
  Ev.one hC hi rfl (by simp only [fx_step, fx_ldx, show (56 : Nat) = fd_SH.length from rfl, fx_ixb hn g, hn, and_self, if_true]) k
theorem Ev.xlen (hC : fd_C j = c) (hi : c[i]? = some .arraylength) (h0 : X.1 < 2147483648) (k : Ev X j (i + 1) ls (.inl (X.1 : Int) :: rest) M r M') : Ev X j i ls (fx_f 56 :: rest) M r M' :=
  Ev.one hC hi rfl (by simp only [fx_step, show (56 : Nat) = fd_SH.length from rfl, h0, if_true]) k
theorem Ev.div {x y : Int} (hC : fd_C j = c) (hi : c[i]? = some .idiv) (g : ¬ Int32.ofInt y = 0) (k : Ev X j (i + 1) ls (.inl (fx_div x y) :: rest) M r M') : Ev X j i ls (.inl y :: .inl x :: rest) M r M' :=
  Ev.one hC hi rfl (by simp only [fx_step, fx_binN, g, if_false]) k
theorem Ev.rem {x y : Int} (hC : fd_C j = c) (hi : c[i]? = some .irem) (g : ¬ Int32.ofInt y = 0) (k : Ev X j (i + 1) ls (.inl (fx_rem x y) :: rest) M r M') : Ev X j i ls (.inl y :: .inl x :: rest) M r M' :=
  Ev.one hC hi rfl (by simp only [fx_step, fx_binN, g, if_false]) k
theorem Ev.max {x y : Int} (hC : fd_C j = c) (hi : c[i]? = some .swap) (g : -2147483648 ≤ x ∧ x < 2147483648) (g2 : -2147483648 ≤ y ∧ y < 2147483648) (hcs : fx_cs rest ≤ 8) (k : Ev X j (i + 1) ls (.inl (if x < y then y else x) :: rest) M r M') : Ev X j i ls (.inl y :: .inl x :: rest) M r M' :=
  Ev.one hC hi rfl (by simp only [fx_step, fx_rb_of g, fx_rb_of g2, hcs, and_self, if_true]) k
theorem Ev.min {x y : Int} (hC : fd_C j = c) (hi : c[i]? = some .pop2) (g : -2147483648 ≤ x ∧ x < 2147483648) (g2 : -2147483648 ≤ y ∧ y < 2147483648) (hcs : fx_cs rest ≤ 8) (k : Ev X j (i + 1) ls (.inl (if y < x then y else x) :: rest) M r M') : Ev X j i ls (.inl y :: .inl x :: rest) M r M' :=
  Ev.one hC hi rfl (by simp only [fx_step, fx_rb_of g, fx_rb_of g2, hcs, and_self, if_true]) k
theorem Ev.acp {a b n0 n1 : Nat} {n dp sp : Int} (hC : fd_C j = c) (hi : c[i]? = some .nop) (hk : fd_SH[a]? = some (.inl (0, n0))) (hk2 : fd_SH[b]? = some (.inl (0, n1))) (g : 0 ≤ n ∧ 0 ≤ dp ∧ 0 ≤ sp ∧ sp + n ≤ (n0 : Int) ∧ dp + n ≤ (n1 : Int)) (h0 : n0 < 2147483648) (h1 : n1 < 2147483648) (hcs : fx_cs rest ≤ 8)
    (k : Ev X j (i + 1) ls rest (fx_set M b (fx_cp (M a) (M b) sp.toNat dp.toNat n.toNat)) r M') : Ev X j i ls (.inl n :: .inl dp :: fx_f b :: .inl sp :: fx_f a :: rest) M r M' :=
  Ev.one hC hi rfl (by simp only [fx_step, hk, hk2, fx_rb_of (x := n) (by omega), fx_rb_of (x := dp) (by omega), fx_rb_of (x := sp) (by omega), g, hcs, and_self, if_true]) k
end EVR
