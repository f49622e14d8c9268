/-! the loops of two constructors: the small machine over a few cells -/
section EY
variable {SH : List fx_S} {j i i' : Nat} {ls ls' st st' rest : List fx_V} {M M1 M' : fx_M} {r : Option fx_V} {c : List Instr}
def Ey (SH : List fx_S) (j i : Nat) (ls st : List fx_V) (M : fx_M) (r : Option fx_V) (M' : fx_M) : Prop := ∃ n, fx_ex fd_C fd_G SH 2147483648 (fun _ => 0) n j i ls st M = some (r, M')
theorem Ey.one {mm : Instr} (hC : fd_C j = c) (hi : c[i]? = some mm) (hp : fx_pl mm = true) (hs : fx_step SH 2147483648 (fun _ => 0) mm i ls st M = some (i', ls', st', M1)) (k : Ey SH j i' ls' st' M1 r M') : Ey SH j i ls st M r M' := by
  obtain ⟨n, hn⟩ := k
  refine ⟨n + 1, ?_⟩
  unfold fx_ex
  rw [hC, hi]
  cases mm <;> first | cases hp | skip
  all_goals (simp only [hs]; exact hn)
theorem Ey.retv (hC : fd_C j = c) (hi : c[i]? = some .return_) (h : (fd_G j).2.2.1 = 0) : Ey SH j i ls [] M none M := by
  refine ⟨1, ?_⟩
  unfold fx_ex
  rw [hC, hi]
  simp only
  rw [if_pos h]
theorem Ey.icT {cd : Jvm.ClassFile.Cond} {t : Int} {x y : Int} (hC : fd_C j = c) (hi : c[i]? = some (.if_icmp cd t)) (g : -2147483648 ≤ x ∧ x < 2147483648) (g2 : -2147483648 ≤ y ∧ y < 2147483648) (h : fx_cmp cd x y = true) (k : Ey SH j t.toNat ls rest M r M') : Ey SH j i ls (.inl y :: .inl x :: rest) M r M' :=
  Ey.one hC hi rfl (by simp only [fx_step, fx_rb_of g, fx_rb_of g2, h, and_self, if_true]) k
theorem Ey.icF {cd : Jvm.ClassFile.Cond} {t : Int} {x y : Int} (hC : fd_C j = c) (hi : c[i]? = some (.if_icmp cd t)) (g : -2147483648 ≤ x ∧ x < 2147483648) (g2 : -2147483648 ≤ y ∧ y < 2147483648) (h : fx_cmp cd x y = false) (k : Ey SH j (i + 1) ls rest M r M') : Ey SH j i ls (.inl y :: .inl x :: rest) M r M' :=
  Ey.one hC hi rfl (by simp only [fx_step, fx_rb_of g, fx_rb_of g2, h, and_self, if_true, Bool.false_eq_true, if_false]) k
theorem Ey.getr {ci sl a b : Nat} {fs : List (Option Nat)} (hC : fd_C j = c) (hi : c[i]? = some (.invokeinterface ci sl)) (hk : SH[a]? = some (.inr (.inl (ci, fs)))) (hf : fs[sl]? = some (some b)) (k : Ey SH j (i + 1) ls (fx_f b :: rest) M r M') : Ey SH j i ls (fx_f a :: rest) M r M' :=
  Ey.one hC hi rfl (by simp only [fx_step, hk, hf, if_true]) k
theorem Ey.iast {a n : Nat} {x v : Int} (hC : fd_C j = c) (hi : c[i]? = some .iastore) (hk : SH[a]? = some (.inl (0, n))) (hn : n < 2147483648) (g : 0 ≤ x ∧ x < (n : Int)) (k : Ey SH j (i + 1) ls rest (fx_set M a (fx_up (M a) x.toNat v)) r M') : Ey SH j i ls (.inl v :: .inl x :: fx_f a :: rest) M r M' :=
  Ey.one hC hi rfl (by simp only [fx_step, fx_sd, fx_tk, hk, fx_ixb hn g, if_true, and_self]) k
theorem Ey.mem (h : M1 = M) (k : Ey SH j i ls st M r M') : Ey SH j i ls st M1 r M' := h ▸ k
theorem Ey.loop (N : Nat) (L : Nat → List fx_V) (Mm : Nat → fx_M) (hs : ∀ c, c < N → Ey SH j i (L (c + 1)) [] (Mm (c + 1)) r M' → Ey SH j i (L c) [] (Mm c) r M') (hx : Ey SH j i (L N) [] (Mm N) r M') : Ey SH j i (L 0) [] (Mm 0) r M' := by
  have key : ∀ n c, c + n = N → Ey SH j i (L c) [] (Mm c) r M' := by
    intro n
    induction n with
    | zero =>
      intro c hc
      have : c = N := by omega
      subst this
      exact hx
    | succ n ih =>
      intro c hc
      exact hs c (by omega) (ih (c + 1) (by omega))
  exact key N 0 (by omega)
end EY
/-- what rows hold at first -/
def q_mZ : Nat → Int := fun _ => 0
def q_mB : Nat → Int := fun k => if k < 144 then -1 else 0
def q_mH : Nat → Int := fun k => if k < 6 then (k : Int) else 0
abbrev q_SS : List fx_S := [.inr (.inl (5, [some 1, some 2, some 3])), .inl (0, 144), .inl (0, 6), .inl (0, 24)]
def q_Z : fx_M := fun _ => q_mZ
def q_MS : fx_M := fun k => [q_mZ, q_mB, q_mH, q_mZ].getD k q_mZ
theorem ey_Strip : Ey q_SS 189 0 [fx_f 0, fx_u] [] q_Z none q_MS := by
  have z1 : ∀ c : Nat, c < 144 → fx_set (fx_set q_Z 1 (fun k => if k < c then -1 else 0)) 1 (fx_up ((fx_set q_Z 1 (fun k => if k < c then -1 else 0)) 1) (c : Int).toNat (-1)) = fx_set q_Z 1 (fun k => if k < c + 1 then (-1 : Int) else 0) := by
    intro c hc
    rw [fx_ss, fx_sk]
    congr 1
    funext k
    show (if k = (c : Int).toNat then (-1 : Int) else if k < c then -1 else 0) = _
    by_cases q : k = c
    · rw [if_pos (by omega), if_pos (by omega)]
    · rw [if_neg (by omega)]
      by_cases q2 : k < c
      · rw [if_pos q2, if_pos (by omega)]
      · rw [if_neg q2, if_neg (by omega)]
  have z2 : ∀ c : Nat, c < 6 → fx_set (fx_set (fx_set q_Z 1 q_mB) 2 (fun k => if k < c then (k : Int) else 0)) 2 (fx_up ((fx_set (fx_set q_Z 1 q_mB) 2 (fun k => if k < c then (k : Int) else 0)) 2) (c : Int).toNat (c : Int)) = fx_set (fx_set q_Z 1 q_mB) 2 (fun k => if k < c + 1 then (k : Int) else 0) := by
    intro c hc
    rw [fx_ss, fx_sk]
    congr 1
    funext k
    show (if k = (c : Int).toNat then (c : Int) else if k < c then (k : Int) else 0) = _
    by_cases q : k = c
    · rw [if_pos (by omega), if_pos (by omega), q]
    · rw [if_neg (by omega)]
      by_cases q2 : k < c
      · rw [if_pos q2, if_pos (by omega)]
      · rw [if_neg q2, if_neg (by omega)]
  have fin : fx_set (fx_set q_Z 1 q_mB) 2 (fun k => if k < 6 then (k : Int) else 0) = q_MS := by
    funext k
    match k with
    | 0 => rfl
    | 1 => rfl
    | 2 => rfl
    | 3 => rfl
    | k + 4 =>
      show (if k + 4 = 2 then (fun k : Nat => if k < 6 then (k : Int) else 0) else if k + 4 = 1 then q_mB else q_mZ) = _
      rw [if_neg (by omega), if_neg (by omega)]
      rfl
  have l2 : Ey q_SS 189 14 [fx_f 0, .inl ((0 : Nat) : Int)] [] (fx_set (fx_set q_Z 1 q_mB) 2 (fun k => if k < 0 then (k : Int) else 0)) none q_MS := by
    refine Ey.loop 6 (fun c => [fx_f 0, .inl (c : Int)]) (fun c => fx_set (fx_set q_Z 1 q_mB) 2 (fun k => if k < c then (k : Int) else 0)) (fun c hc kk => ?_) ?_
    · refine Ey.one fd_e189 rfl rfl rfl (Ey.one fd_e189 rfl rfl rfl (Ey.icF fd_e189 rfl (by omega) (by omega) (decide_eq_false (by omega)) (Ey.one fd_e189 rfl rfl rfl (Ey.getr fd_e189 rfl rfl rfl (Ey.one fd_e189 rfl rfl rfl (Ey.one fd_e189 rfl rfl rfl (Ey.iast (n := 6) fd_e189 rfl rfl (by decide) (by omega) (Ey.one fd_e189 rfl rfl rfl (Ey.one fd_e189 rfl rfl rfl ?_)))))))))
      exact Ey.mem (z2 c hc) kk
    · refine Ey.one fd_e189 rfl rfl rfl (Ey.one fd_e189 rfl rfl rfl (Ey.icT fd_e189 rfl (by omega) (by omega) (by decide) (Ey.mem fin ?_)))
      exact Ey.retv fd_e189 rfl rfl
  have l1 : Ey q_SS 189 2 [fx_f 0, .inl ((0 : Nat) : Int)] [] (fx_set q_Z 1 (fun k => if k < 0 then (-1 : Int) else 0)) none q_MS := by
    refine Ey.loop 144 (fun c => [fx_f 0, .inl (c : Int)]) (fun c => fx_set q_Z 1 (fun k => if k < c then (-1 : Int) else 0)) (fun c hc kk => ?_) ?_
    · refine Ey.one fd_e189 rfl rfl rfl (Ey.one fd_e189 rfl rfl rfl (Ey.icF fd_e189 rfl (by omega) (by omega) (decide_eq_false (by omega)) (Ey.one fd_e189 rfl rfl rfl (Ey.getr fd_e189 rfl rfl rfl (Ey.one fd_e189 rfl rfl rfl (Ey.one fd_e189 rfl rfl rfl (Ey.iast (n := 144) fd_e189 rfl rfl (by decide) (by omega) (Ey.one fd_e189 rfl rfl rfl (Ey.one fd_e189 rfl rfl rfl ?_)))))))))
      exact Ey.mem (z1 c hc) kk
    · refine Ey.one fd_e189 rfl rfl rfl (Ey.one fd_e189 rfl rfl rfl (Ey.icT fd_e189 rfl (by omega) (by omega) (by decide) ?_))
      refine Ey.one fd_e189 rfl rfl rfl (Ey.one fd_e189 rfl rfl rfl ?_)
      have e : fx_set (fx_set q_Z 1 q_mB) 2 (fun k => if k < 0 then (k : Int) else 0) = fx_set q_Z 1 (fun k => if k < 144 then (-1 : Int) else 0) := by
        funext k
        match k with
        | 0 => rfl
        | 1 => rfl
        | 2 =>
          funext i
          show (if i < 0 then (i : Int) else 0) = 0
          rw [if_neg (by omega)]
        | k + 3 =>
          show (if k + 3 = 2 then (fun k : Nat => if k < 0 then (k : Int) else 0) else if k + 3 = 1 then q_mB else q_mZ) = (if k + 3 = 1 then (fun k : Nat => if k < 144 then (-1 : Int) else 0) else q_mZ)
          rw [if_neg (by omega), if_neg (by omega), if_neg (by omega)]
      exact Ey.mem e.symm l2
  refine Ey.one fd_e189 rfl rfl rfl (Ey.one fd_e189 rfl rfl rfl ?_)
  refine Ey.mem ?_ l1
  funext k
  show q_mZ = (if k = 1 then (fun k : Nat => if k < 0 then (-1 : Int) else 0) else q_mZ)
  by_cases q : k = 1
  · rw [if_pos q]
    funext i
    show (0 : Int) = if i < 0 then -1 else 0
    rw [if_neg (by omega)]
  · rw [if_neg q]
