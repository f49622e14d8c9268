/-! the law: cells, bits, folds and hands -/
section LWF
variable {X : fx_Sc} {M M' T : fx_M}
theorem ev_bits {P : Nat → Bool} : Ev X 194 0 [.inl ((pb_s P 12 : Nat) : Int), fx_u, fx_u] [] M (some (.inl ((pb_c P 12 : Nat) : Int))) M := by
  have hlt := pb_s_lt P 12
  have e : pb_c (fun i => (pb_s P 12).testBit i) 24 = pb_c P 12 := by
    rw [show (24 : Nat) = 12 + 12 from rfl, pb_c_add, pb_c_ext (P := fun i => (pb_s P 12).testBit i) (Q := P) (fun i hi => by rw [pb_s_bit]; simp [hi]), pb_c_none (P := fun i => (pb_s P 12).testBit (12 + i)) (fun i hi => by rw [pb_s_bit, decide_eq_false (by omega)]; rfl), Nat.add_zero]
  rw [← e]
  refine r194_0 ?_
  refine Ev.loop 24 (fun c => [.inl ((pb_s P 12 : Nat) : Int), .inl ((pb_c (fun i => (pb_s P 12).testBit i) c : Nat) : Int), .inl (c : Int)]) (fun _ => M) (fun c hc k => ?_) (r194_4T (by omega) (by omega) r194_17)
  refine r194_4F (by omega) (by omega) (r194_7 ?_)
  rw [pb_bit (by omega) (by omega)]
  simp only [pb_c] at k
  by_cases h : (pb_s P 12).testBit c = true
  · rw [if_pos h] at k ⊢
    exact k
  · rw [if_neg h] at k ⊢
    rw [Int.add_zero]
    exact k
theorem ev_cell {x : Nat} (hX : X.1 < 2147483648) (hx : x < 40) : ∃ c : Nat, c < 2147483648 ∧ Ev X 193 0 [fx_f 56, .inl (x : Int)] [] M (some (.inl (c : Int))) M := by
  have hb : ∀ v : Int, ∃ c : Nat, c < 2147483648 ∧ fx_and v 2147483647 = (c : Int) := by
    intro v
    have h1 : fx_and v 2147483647 = ((Int32.ofInt v).toBitVec &&& (Int32.ofInt 2147483647).toBitVec).toInt := rfl
    have h2 : ((Int32.ofInt v).toBitVec &&& (Int32.ofInt 2147483647).toBitVec).toNat < 2147483648 := by
      rw [BitVec.toNat_and]
      have : (Int32.ofInt 2147483647).toBitVec.toNat = 2147483647 := by decide
      rw [this]
      exact Nat.lt_of_le_of_lt Nat.and_le_right (by omega)
    exact ⟨_, h2, by rw [h1, pb_toInt h2]⟩
  by_cases h : (x : Int) < (X.1 : Int)
  · obtain ⟨c, h1, h2⟩ := hb (X.2 (x : Int).toNat)
    exact ⟨c, h1, r193_0F hX (by omega) h (Ev.res h2 (r193_4 hX (by omega)))⟩
  · obtain ⟨c, h1, h2⟩ := hb ((15485959 * (x : Int)) + 4858)
    exact ⟨c, h1, r193_0T hX (by omega) (by omega) (Ev.res h2 r193_8)⟩
theorem fx_and_e (P : Nat → Bool) (f : Nat) : ∃ n : Nat, n < 4096 ∧ fx_and (z_edge P (2 * f + 1) : Int) (z_edge P (2 * (f + 1)) : Int) = (n : Int) := by
  have h1 := z_edge_lt P (2 * f + 1)
  rw [pb_and (by omega)]
  have := Nat.and_le_left (n := z_edge P (2 * f + 1)) (m := z_edge P (2 * (f + 1)))
  exact ⟨_, by omega, rfl⟩
theorem law_folds (h : sC M 1) : Ev X 196 0 [fx_f 0, fx_u, fx_u, fx_u, fx_u, fx_u, fx_u, fx_u, fx_u, fx_u] [] M (some (.inl 1)) M := by
  obtain ⟨P, hP⟩ : ∃ P, P = ph M 1 := ⟨_, rfl⟩
  obtain ⟨H, hH⟩ : ∃ H, H = M 3 := ⟨_, rfl⟩
  have Hb : ∀ q, q < 6 → 0 ≤ H q ∧ H q < 6 := fun q hq => by rw [hH]; exact h.1.2.2 q hq
  have lb := z_loose_b P
  have sb := str_b P
  -- the folds
  have A : ∀ v7 v8 : fx_V, (∀ v7 v8 : fx_V, Ev X 196 20 [fx_f 0, .inl ((pb_n (z_lf P) 5 : Nat) : Int), .inl 0, .inl 0, .inl 0, .inl 1, .inl ((5 : Nat) : Int), v7, v8, fx_u] [] M (some (.inl 1)) M) → Ev X 196 20 [fx_f 0, .inl ((pb_n (z_lf P) 0 : Nat) : Int), .inl 0, .inl 0, .inl 0, .inl 1, .inl ((0 : Nat) : Int), v7, v8, fx_u] [] M (some (.inl 1)) M := by
    intro v7 v8 fin
    refine Ev.loop2 5 (fun c v w => [fx_f 0, .inl ((pb_n (z_lf P) c : Nat) : Int), .inl 0, .inl 0, .inl 0, .inl 1, .inl (c : Int), v, w, fx_u]) (fun _ => M) (fun c hc k v w => ?_) fin v7 v8
    have b1 := z_edge_lt P (2 * c + 1)
    have b2 := z_edge_lt P (2 * (c + 1))
    have a3 := ask_pan3 (X := X) h (show c < 6 by omega)
    have a2 := ask_pan2 (X := X) h (show c + 1 < 6 by omega)
    have f0 := ask_fold0 (X := X) h hc
    have f1 := ask_fold1 (X := X) h hc
    have f2 := ask_fold2 (X := X) h hc
    have f3 := ask_fold3 (X := X) h hc
    rw [← hP] at a3 a2 f0 f1 f2 f3
    have bt : Ev X 194 0 [.inl (fx_xor (z_edge P (2 * c + 1) : Int) (z_edge P (2 * (c + 1)) : Int)), fx_u, fx_u] [] M (some (.inl (z_lf P c : Int))) M := by
      rw [pb_xor (by omega) (by omega), z_lf_eq]
      exact ev_bits
    obtain ⟨n1, n2, n3⟩ := fx_and_e P c
    have e2 : fx_and (z_edge P (2 * c + 1) : Int) (fx_xor (z_edge P (2 * (c + 1)) : Int) (-1)) = (z_f0 P c : Int) := by rw [pb_andn (by omega) (by omega), z_f0_eq]
    have e3 : fx_and (z_edge P (2 * (c + 1)) : Int) (fx_xor (z_edge P (2 * c + 1) : Int) (-1)) = (z_f1 P c : Int) := by rw [pb_andn (by omega) (by omega), z_f1_eq]
    have b3 : z_f0 P c < 4096 := pb_s_lt _ 12
    have b4 : z_f1 P c < 4096 := pb_s_lt _ 12
    refine r196_20F (by omega) (by omega) (r196_23F (by omega) (by omega) (r196_25 a3 (r196_29 a2 (r196_36 bt (r196_42 f0 (r196_48F (by omega) rfl (r196_50 f1 (r196_54F (by rw [n3]; omega) rfl (r196_58 f2 (r196_62F (by rw [e2]; omega) e2.symm (r196_68 f3 (r196_72F (by rw [e3]; omega) e3.symm (r196_78 ?_)))))))))))))
    exact k _ _
  -- a hand's second faults
  have C : ∀ (c : Nat), c < 6 → ∀ (x1 x2 x3 x4 : Int) (r : Option fx_V) (M' : fx_M), Ev X 196 100 [fx_f 0, .inl x1, .inl x2, .inl x3, .inl x4, .inl 1, .inl (c : Int), .inl ((pb_s (fun q => decide (H q = (c : Int))) 6 : Nat) : Int), .inl ((pb_n (fun f => if H (f + 1) = (c : Int) then z_c1 P f else 0) 5 : Nat) : Int), .inl ((5 + 1 : Nat) : Int)] [] M r M' → Ev X 196 100 [fx_f 0, .inl x1, .inl x2, .inl x3, .inl x4, .inl 1, .inl (c : Int), .inl ((pb_s (fun q => decide (H q = (c : Int))) 6 : Nat) : Int), .inl ((pb_n (fun f => if H (f + 1) = (c : Int) then z_c1 P f else 0) 0 : Nat) : Int), .inl ((0 + 1 : Nat) : Int)] [] M r M' := by
    intro c hc x1 x2 x3 x4 r M' fin
    refine Ev.loop 5 (fun d => [fx_f 0, .inl x1, .inl x2, .inl x3, .inl x4, .inl 1, .inl (c : Int), .inl ((pb_s (fun q => decide (H q = (c : Int))) 6 : Nat) : Int), .inl ((pb_n (fun f => if H (f + 1) = (c : Int) then z_c1 P f else 0) d : Nat) : Int), .inl ((d + 1 : Nat) : Int)]) (fun _ => M) (fun d hd k => ?_) fin
    have sl := pb_s_lt (fun q => decide (H q = (c : Int))) 6
    have bit : fx_and (fx_shr ((pb_s (fun q => decide (H q = (c : Int))) 6 : Nat) : Int) ((d + 1 : Nat) : Int)) 1 = if H (d + 1) = (c : Int) then 1 else 0 := by
      rw [pb_bit (by omega) (by omega), pb_s_bit]
      by_cases q : H (d + 1) = (c : Int)
      · simp [q, hd]
      · simp [q]
    refine r196_100F (by omega) (by omega) ?_
    simp only [pb_n] at k
    by_cases q : H (d + 1) = (c : Int)
    · rw [if_pos q] at bit k
      have f3 := ask_fold3 (X := X) h hd
      rw [← hP] at f3
      refine r196_103F (by rw [bit]; omega) bit (r196_111 (z := (z_f1 P d : Int)) (M1 := M) ?_ (r196_117 (z := (z_c1 P d : Int)) (M1 := M) ev_bits (r196_118 k)))
      rw [show ((d + 1 : Nat) : Int) - 1 = (d : Int) by omega]
      exact f3
    · rw [if_neg q] at bit k
      exact r196_103T (by rw [bit]; omega) (by rw [bit]; omega) (r196_119 k)
  -- the hands
  have B : ∀ v7 v8 v9 : fx_V, (∀ v7 v8 v9 : fx_V, Ev X 196 86 [fx_f 0, .inl (z_loose P : Int), .inl 63, .inl ((pb_n (z_str P) 6 : Nat) : Int), .inl (z_loose P : Int), .inl 1, .inl ((6 : Nat) : Int), v7, v8, v9] [] M (some (.inl 1)) M) → Ev X 196 86 [fx_f 0, .inl (z_loose P : Int), .inl 0, .inl 0, .inl 0, .inl 1, .inl 0, v7, v8, v9] [] M (some (.inl 1)) M := by
    intro v7 v8 v9 fin
    have key : ∀ n c : Nat, c + n = 6 → ∀ v7 v8 v9 : fx_V, Ev X 196 86 [fx_f 0, .inl (z_loose P : Int), .inl ((pb_s (fun q => decide (H q < (c : Int))) 6 : Nat) : Int), .inl ((pb_n (fun q => if H q < (c : Int) then z_str P q else 0) 6 : Nat) : Int), .inl ((pb_n (fun f => if H (f + 1) < (c : Int) then z_lf P f else 0) 5 : Nat) : Int), .inl 1, .inl (c : Int), v7, v8, v9] [] M (some (.inl 1)) M := by
      intro n
      induction n with
      | zero =>
        intro c hc v7 v8 v9
        have : c = 6 := by omega
        subst this
        rw [hd_full (fun q hq => (Hb q hq).2), hd_all (fun q hq => (Hb q hq).2), hd_all (H := fun f => H (f + 1)) (fun q hq => (Hb (q + 1) (by omega)).2)]
        exact fin _ _ _
      | succ n ih =>
        intro c hc v7 v8 v9
        have hc6 : c < 6 := by omega
        have k := ih (c + 1) (by omega)
        have h0 := ask_hand0 (X := X) h hc6
        have h1 := ask_hand1 (X := X) h hc6
        have h2 := ask_hand2 (X := X) h hc6
        have h3 := ask_hand3 (X := X) h hc6
        rw [← hH] at h0
        rw [← hP, ← hH] at h1 h2 h3
        have pl := pb_s_lt (fun q => decide (H q < (c : Int))) 6
        have sl := pb_s_lt (fun q => decide (H q = (c : Int))) 6
        have ea : fx_and ((pb_s (fun q => decide (H q < (c : Int))) 6 : Nat) : Int) ((pb_s (fun q => decide (H q = (c : Int))) 6 : Nat) : Int) = 0 := by rw [pb_and (by omega), hd_and]; rfl
        have eo : fx_or ((pb_s (fun q => decide (H q < (c : Int))) 6 : Nat) : Int) ((pb_s (fun q => decide (H q = (c : Int))) 6 : Nat) : Int) = ((pb_s (fun q => decide (H q < ((c + 1 : Nat) : Int))) 6 : Nat) : Int) := by rw [pb_or (by omega) (by omega), hd_or]
        have es : ((pb_n (fun q => if H q < (c : Int) then z_str P q else 0) 6 : Nat) : Int) + ((pb_n (fun q => if H q = (c : Int) then z_str P q else 0) 6 : Nat) : Int) = ((pb_n (fun q => if H q < ((c + 1 : Nat) : Int) then z_str P q else 0) 6 : Nat) : Int) := by rw [← hd_step]; push_cast; rfl
        have em : ((pb_n (fun f => if H (f + 1) < (c : Int) then z_lf P f else 0) 5 : Nat) : Int) + (((pb_n (fun f => if H (f + 1) = (c : Int) then z_c0 P f else 0) 5 : Nat) : Int) + ((pb_n (fun f => if H (f + 1) = (c : Int) then z_c1 P f else 0) 5 : Nat) : Int)) = ((pb_n (fun f => if H (f + 1) < ((c + 1 : Nat) : Int) then z_lf P f else 0) 5 : Nat) : Int) := by
          have s := hd_step (z_lf P) (fun f => H (f + 1)) c 5
          have s2 : pb_n (fun f => if H (f + 1) = (c : Int) then z_lf P f else 0) 5 = pb_n (fun f => if H (f + 1) = (c : Int) then z_c0 P f else 0) 5 + pb_n (fun f => if H (f + 1) = (c : Int) then z_c1 P f else 0) 5 := by
            rw [← pb_n_a]
            refine pb_n_ext fun f _ => ?_
            by_cases q : H (f + 1) = (c : Int)
            · rw [if_pos q, if_pos q, if_pos q, z_lf_c]
            · rw [if_neg q, if_neg q, if_neg q]
          omega
        have b1 : pb_n (fun f => if H (f + 1) = (c : Int) then z_c1 P f else 0) 5 ≤ 5 * 12 := pb_n_le fun i _ => by
          have : z_c1 P i ≤ 12 := pb_c_le _ 12
          split <;> omega
        refine r196_86F (by omega) (by omega) (r196_89F (by omega) (by omega) (r196_91 h0 (r196_95 (C c hc6 _ _ _ _ _ _ (r196_100T (by omega) (by omega) (r196_124F (by rw [ea]; omega) ea (r196_128 h3 (r196_132F (by omega) rfl (r196_134 h1 (r196_147 h2 (r196_154 ?_)))))))))))
        rw [eo, es, em]
        exact k _ _ _
    have k0 := key 6 0 (by omega) v7 v8 v9
    rw [hd_0 (fun q hq => (Hb q hq).1), hd_none (fun q hq => (Hb q hq).1), hd_none (H := fun f => H (f + 1)) (fun q hq => (Hb (q + 1) (by omega)).1)] at k0
    exact k0
  have c0 := ask_cnt0 (X := X) h
  have c5 := ask_cnt5 (X := X) h
  have c3 := ask_cnt3 (X := X) h
  rw [← hP] at c0 c5 c3
  have eF : pb_n (z_lf P) 5 = z_loose P := rfl
  refine r196_0 (ask_foldN (by omega) (by omega)) (r196_12F (by omega) rfl (r196_14 (A _ _ fun v7 v8 => r196_20T (by omega) (by omega) (r196_84 ?_))))
  rw [eF]
  exact B _ _ _ fun v7 v8 v9 => r196_86T (by omega) (by omega) (r196_158F (by omega) (by omega) (r196_160F (by omega) rfl (r196_163 c0 (r196_167F (by omega) rfl (r196_168F (by omega) rfl (r196_171 c5 (r196_175F (by omega) rfl (r196_176 c3 (r196_180F (by omega) rfl r196_181)))))))))
end LWF
