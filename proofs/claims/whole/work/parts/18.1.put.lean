/-! a number is read by bytes (rows of the kit's laws, pasted) -/
theorem wb_tb (n : Nat) : (lN n).toBitVec = BitVec.ofNat 64 n := rfl
theorem wb_inj {a b : Int64} (h : a.toBitVec = b.toBitVec) : a = b := Int64.toBitVec_inj.mp h
theorem wb_tn {n : Nat} (h : n < 2 ^ 64) : (lN n).toBitVec.toNat = n := by rw [wb_tb, BitVec.toNat_ofNat, Nat.mod_eq_of_lt h]
theorem wb_of (x : Int64) : ∃ n, n < 2 ^ 64 ∧ x = lN n := ⟨x.toBitVec.toNat, x.toBitVec.isLt, wb_inj (by rw [wb_tb]; simp)⟩
theorem wb_cu : ∀ k, k < 64 → ((nI k).toInt64.toUInt64 &&& Int64.toUInt64 63) = UInt64.ofNat k := by decide +kernel
theorem wb_lt2 {a b : Nat} (h : a < b) : 2 ^ a < 2 ^ b := Nat.pow_lt_pow_right (by decide) h
theorem wb_shr {n k : Nat} (hn : n < 2 ^ 64) (hk : k < 64) : ((lN n).toUInt64 >>> ((nI k).toInt64.toUInt64 &&& Int64.toUInt64 63)).toInt64 = lN (n / 2 ^ k) := by
  rw [wb_cu k hk]
  apply wb_inj
  apply BitVec.eq_of_toNat_eq
  show ((lN n).toUInt64 >>> UInt64.ofNat k).toNat = (BitVec.ofNat 64 _).toNat
  have h1 : (UInt64.ofNat k).toNat = k := by
    show (BitVec.ofNat 64 k).toNat = k
    rw [BitVec.toNat_ofNat, Nat.mod_eq_of_lt (by omega)]
  have h2 : (lN n).toUInt64.toNat = n := wb_tn hn
  rw [UInt64.toNat_shiftRight, h1, h2, Nat.mod_eq_of_lt hk, Nat.shiftRight_eq_div_pow, BitVec.toNat_ofNat, Nat.mod_eq_of_lt (Nat.lt_of_le_of_lt (Nat.div_le_self _ _) hn)]
theorem wb_and {a b : Nat} (ha : a < 2 ^ 64) (hb : b < 2 ^ 64) : lN a &&& lN b = lN (a &&& b) := by
  apply wb_inj
  rw [Int64.toBitVec_and, wb_tb, wb_tb, wb_tb]
  apply BitVec.eq_of_toNat_eq
  rw [BitVec.toNat_and, BitVec.toNat_ofNat, BitVec.toNat_ofNat, BitVec.toNat_ofNat, Nat.mod_eq_of_lt ha, Nat.mod_eq_of_lt hb, Nat.mod_eq_of_lt (Nat.and_lt_two_pow _ hb)]
theorem wb_mask {n k : Nat} (hn : n < 2 ^ 64) (hk : k < 64) : lN n &&& lN (2 ^ k - 1) = lN (n % 2 ^ k) := by
  rw [wb_and hn (by have := wb_lt2 hk; omega), Nat.and_two_pow_sub_one_eq_mod]
theorem q_shr8 {v : Nat} (h : v < 2 ^ 64) : ((lN v).toUInt64 >>> ((Int32.ofInt 8).toInt64.toUInt64 &&& Int64.toUInt64 63)).toInt64 = lN (v / 256) := by
  rw [show Int32.ofInt 8 = nI 8 by decide +kernel]
  exact wb_shr (k := 8) h (by decide)
theorem q_m {v : Nat} (h : v < 2 ^ 64) : lN v &&& Int64.ofInt 255 = lN (v % 256) := by
  rw [show Int64.ofInt 255 = lN (2 ^ 8 - 1) by decide +kernel]
  exact wb_mask (k := 8) h (by decide)
theorem q_b {v : Nat} (h : v < 2 ^ 64) : (lN v &&& Int64.ofInt 255).toInt32.toInt = ((v % 256 : Nat) : Int) := by
  rw [q_m h, lN_i, nI_toInt (Nat.lt_trans (Nat.mod_lt v (by decide)) (by decide))]
theorem q_shr {v i : Nat} (h : v < 2 ^ 64) (hi : i < 8) : ((lN v).toUInt64 >>> ((Int32.ofInt (8 * (i : Int))).toInt64.toUInt64 &&& Int64.toUInt64 63)).toInt64 = lN (v / 256 ^ i) := by
  rw [show 8 * (i : Int) = ((8 * i : Nat) : Int) by push_cast; rfl, Int32.ofInt_eq_ofNat]
  have w := wb_shr (k := 8 * i) h (by omega)
  rw [Nat.pow_mul] at w
  exact w
theorem q_c0 {v : Nat} (h : v < 2 ^ 64) : (lg_cmp (lN v) (Int64.ofInt 0)).toInt = 0 ↔ v = 0 := by
  constructor
  · intro q
    have e := (lg_cmp_eq _ _).mp (Int32.toInt_inj.mp (q.trans (by decide : (0 : Int) = (0 : Int32).toInt)))
    have e2 : (lN v).toBitVec.toNat = (Int64.ofInt 0).toBitVec.toNat := by rw [e]
    rw [wb_tn h] at e2
    exact e2.trans (by decide)
  · intro q
    subst q
    decide +kernel
theorem q_c33 : ∀ a : Nat, a < 256 → ((lg_cmp (lN a) (Int64.ofInt 33)).toInt < 0 ↔ a < 33) := by decide +kernel
theorem q_c126 : ∀ a : Nat, a < 256 → ((lg_cmp (lN a) (Int64.ofInt 126)).toInt ≤ 0 ↔ a ≤ 126) := by decide +kernel
theorem q_i2c : ∀ a : Nat, a < 256 → fx_i2c (a : Int) = (a : Int) := by decide +kernel
theorem q_rg (x : Int32) : -2147483648 ≤ x.toInt ∧ x.toInt < 2147483648 := by
  have h1 := Int32.le_toInt x
  have h2 := Int32.toInt_lt x
  omega
def qb (v c : Nat) : Nat := v / 256 ^ c % 256
def qg (v c : Nat) : Prop := 33 ≤ qb v c ∧ qb v c ≤ 126
theorem qb_lt (v c : Nat) : qb v c < 256 := Nat.mod_lt _ (by decide)
theorem qd_lt {v : Nat} (h : v < 2 ^ 64) (c : Nat) : v / 256 ^ c < 2 ^ 64 := Nat.lt_of_le_of_lt (Nat.div_le_self _ _) h
theorem qd_s (v c : Nat) : v / 256 ^ c / 256 = v / 256 ^ (c + 1) := by rw [Nat.div_div_eq_div_mul, Nat.pow_succ]
theorem qd_0 (v : Nat) : v / 256 ^ 0 = v := by rw [Nat.pow_zero, Nat.div_one]
theorem qk_ex (v : Nat) : ∃ k, k ≤ 8 ∧ (∀ c, c < k → qg v c) ∧ (k = 8 ∨ ¬ qg v k) := by
  cases h : pb_all (fun c => decide (33 ≤ qb v c ∧ qb v c ≤ 126)) 8 with
  | true =>
    refine ⟨8, by omega, fun c hc => ?_, Or.inl rfl⟩
    exact of_decide_eq_true (p := 33 ≤ qb v c ∧ qb v c ≤ 126) (pb_all_iff.mp h c hc)
  | false =>
    obtain ⟨b, h1, h2, h3⟩ := pb_all_no h
    exact ⟨b, by omega, fun c hc => of_decide_eq_true (p := 33 ≤ qb v c ∧ qb v c ≤ 126) (h3 c hc), Or.inr (of_decide_eq_false (p := 33 ≤ qb v b ∧ qb v b ≤ 126) h2)⟩
section PUT
variable {X : fx_Sc} {M M' : fx_M}
theorem ev_many {v k : Nat} (hv : v < 2 ^ 64) (hk : k ≤ 8) (hg : ∀ c, c < k → qg v c) (hb : k = 8 ∨ ¬ qg v k) : Ev X 72 0 [.inr (.inl (lN v)), fx_u, fx_u, fx_u, fx_u, fx_u, fx_u] [] M (some (.inl (if k = 8 ∨ v / 256 ^ k = 0 then (k : Int) else 0))) M := by
  have main : Ev X 72 6 [.inr (.inl (lN v)), fx_u, .inr (.inl (lN (v / 256 ^ 0))), fx_u, .inl ((0 : Nat) : Int), .inl ((0 : Nat) : Int), fx_u] [] M (some (.inl (if k = 8 ∨ v / 256 ^ k = 0 then (k : Int) else 0))) M := by
    refine Ev.loop1 k (fun c w => [.inr (.inl (lN v)), fx_u, .inr (.inl (lN (v / 256 ^ c))), fx_u, .inl (c : Int), .inl (c : Int), w]) (fun _ => M) (fun c hc kk w => ?_) (fun w => ?_) fx_u
    · have g : 33 ≤ v / 256 ^ c % 256 ∧ v / 256 ^ c % 256 ≤ 126 := hg c hc
      have hd := qd_lt hv c
      have eb := q_b hd
      refine r72_6F (by omega) (by omega) (r72_9T (by rw [eb]; omega) (by rw [eb]; omega) ?_)
      rw [eb]
      refine r72_24F (by omega) (by omega) (r72_27T (by omega) (by omega) (r72_32 ?_))
      rw [q_shr8 hd, qd_s]
      exact kk _
    · by_cases h8 : k = 8
      · rw [if_pos (Or.inl h8)]
        exact r72_6T (by omega) (by omega) r72_39
      · have nb : ¬ (33 ≤ v / 256 ^ k % 256 ∧ v / 256 ^ k % 256 ≤ 126) := by
          rcases hb with q | q
          · exact absurd q h8
          · exact q
        have hd := qd_lt hv k
        have eb := q_b hd
        have lb : v / 256 ^ k % 256 < 256 := Nat.mod_lt _ (by decide)
        refine r72_6F (by omega) (by omega) ?_
        by_cases b0 : v / 256 ^ k % 256 = 0
        · refine r72_9F (by rw [eb]; omega) (by rw [eb]; omega) ?_
          by_cases d0 : v / 256 ^ k = 0
          · rw [if_pos (Or.inr d0)]
            exact r72_16F (q_rg _) ((q_c0 hd).mpr d0) r72_20
          · rw [if_neg (by omega)]
            exact r72_16T (q_rg _) (fun a => d0 ((q_c0 hd).mp a)) r72_22
        · rw [if_neg (by
            rintro (a | a)
            · exact h8 a
            · rw [a] at b0; exact b0 rfl)]
          refine r72_9T (by rw [eb]; omega) (by rw [eb]; omega) ?_
          rw [eb]
          by_cases lo : v / 256 ^ k % 256 < 33
          · exact r72_24T (by omega) (by omega) r72_30
          · exact r72_24F (by omega) (by omega) (r72_27F (by omega) (by omega) r72_30)
  rw [qd_0] at main
  exact r72_0 main
/-- what stands in a row behind characters were put -/
def q_ap (T : Nat → Int) (v n k d : Nat) : Nat → Int := fun j => if n ≤ j ∧ j < n + d then (qb v (n + k - 1 - j) : Int) else T j
def q_aq (T : Nat → Int) (v n k d : Nat) : Nat → Int := fun j => if n + k - d ≤ j ∧ j < n + k then (qb v (n + k - 1 - j) : Int) else T j
theorem q_ap_s {T : Nat → Int} {v n k d : Nat} (hd : d < k) : fx_up (q_ap T v n k d) (n + d) (qb v (k - 1 - d) : Int) = q_ap T v n k (d + 1) := by
  funext j
  show (if j = n + d then (qb v (k - 1 - d) : Int) else if n ≤ j ∧ j < n + d then (qb v (n + k - 1 - j) : Int) else T j) = if n ≤ j ∧ j < n + (d + 1) then (qb v (n + k - 1 - j) : Int) else T j
  by_cases q : j = n + d
  · rw [if_pos q, if_pos (by omega), show n + k - 1 - j = k - 1 - d by omega]
  · rw [if_neg q]
    by_cases q2 : n ≤ j ∧ j < n + d
    · rw [if_pos q2, if_pos (by omega)]
    · rw [if_neg q2, if_neg (by omega)]
theorem q_aq_s {T : Nat → Int} {v n k d : Nat} (hd : d < k) : fx_up (q_aq T v n k d) (n + k - 1 - d) (qb v d : Int) = q_aq T v n k (d + 1) := by
  funext j
  show (if j = n + k - 1 - d then (qb v d : Int) else if n + k - d ≤ j ∧ j < n + k then (qb v (n + k - 1 - j) : Int) else T j) = if n + k - (d + 1) ≤ j ∧ j < n + k then (qb v (n + k - 1 - j) : Int) else T j
  by_cases q : j = n + k - 1 - d
  · rw [if_pos q, if_pos (by omega), show n + k - 1 - j = d by omega]
  · rw [if_neg q]
    by_cases q2 : n + k - d ≤ j ∧ j < n + k
    · rw [if_pos q2, if_pos (by omega)]
    · rw [if_neg q2, if_neg (by omega)]
theorem q_aq_k {T : Nat → Int} {v n k : Nat} : q_aq T v n k k = q_ap T v n k k := by
  funext j
  unfold q_aq q_ap
  rw [show n + k - k = n by omega]
theorem q_aq_0 {T : Nat → Int} {v n k : Nat} : q_aq T v n k 0 = T := by
  funext j
  unfold q_aq
  rw [if_neg (by omega)]
theorem q_ap_0 {T : Nat → Int} {v n k : Nat} : q_ap T v n k 0 = T := by
  funext j
  unfold q_ap
  rw [if_neg (by omega)]
theorem ev_append {v k n : Nat} (hv : v < 2 ^ 64) (h17 : M 17 1 = (n : Int)) (hn : n + k ≤ 60) : Ev X 73 0 [fx_f 17, .inr (.inl (lN v)), fx_u, .inl (k : Int), fx_u, fx_u, fx_u] [] M none (fx_set (fx_set M 18 (q_ap (M 18) v n k k)) 17 (fx_up (M 17) 1 ((n + k : Nat) : Int))) := by
  have main : Ev X 73 18 [fx_f 17, .inr (.inl (lN v)), fx_u, .inl (k : Int), .inr (.inl (lN (v / 256 ^ 0))), fx_u, .inl ((n : Int) + k - 1 - ((0 : Nat) : Int))] [] (fx_set M 18 (q_aq (M 18) v n k 0)) none (fx_set (fx_set M 18 (q_ap (M 18) v n k k)) 17 (fx_up (M 17) 1 ((n + k : Nat) : Int))) := by
    refine Ev.loop k (fun d => [fx_f 17, .inr (.inl (lN v)), fx_u, .inl (k : Int), .inr (.inl (lN (v / 256 ^ d))), fx_u, .inl ((n : Int) + k - 1 - (d : Int))]) (fun d => fx_set M 18 (q_aq (M 18) v n k d)) (fun d hd kk => ?_) ?_
    · have hdd := qd_lt hv d
      have eb : (lN (v / 256 ^ d) &&& Int64.ofInt 255).toInt32.toInt = ((qb v d : Nat) : Int) := q_b hdd
      have lb := qb_lt v d
      have e17 : (fx_set M 18 (q_aq (M 18) v n k d)) 17 = M 17 := fx_sn (by omega)
      have en : ((n : Int) + k - 1 - (d : Int)).toNat = n + k - 1 - d := by omega
      have ex : (n : Int) + k - 1 - (d : Int) + (-1) = (n : Int) + k - 1 - ((d + 1 : Nat) : Int) := by push_cast; omega
      refine r73_18F (by rw [e17, h17]; omega) (by rw [e17, h17]; omega) (r73_22 (by rw [eb, q_i2c _ lb]; omega) ?_)
      rw [eb, q_i2c _ lb, q_shr8 hdd, qd_s, fx_ss, fx_sk, en, q_aq_s hd, ex]
      exact kk
    · have e17 : (fx_set M 18 (q_aq (M 18) v n k k)) 17 = M 17 := fx_sn (by omega)
      refine r73_18T (by rw [e17, h17]; omega) (by rw [e17, h17]; omega) (Ev.mem ?_ r73_37)
      rw [e17, h17, q_aq_k]
      rfl
  rw [qd_0, q_aq_0, fx_self] at main
  refine r73_0F (by omega) (by omega) (r73_2T (by rw [h17]; omega) (by rw [h17]; omega) (r73_9 ?_))
  rw [h17, show (n : Int) + (k : Int) - 1 = (n : Int) + k - 1 - ((0 : Nat) : Int) by omega]
  exact main
/-- the reference puts characters -/
theorem evm_puts {v k n : Nat} (hv : v < 2 ^ 64) (h15 : M 56 15 = (n : Int)) (hn : n + k ≤ 60) (hk : k ≤ 8) {w : fx_V} : Ev X 176 43 [fx_f 56, .inr (.inl (lN v)), fx_u, .inl (k : Int), .inr (.inl (lN (v / 256 ^ k))), fx_u, w, fx_u] [] M (some (.inl ((n + k : Nat) : Int))) (fx_set (fx_set M 70 (q_ap (M 70) v n k k)) 56 (fx_up (M 56) 15 ((n + k : Nat) : Int))) := by
  have main : Ev X 176 47 [fx_f 56, .inr (.inl (lN v)), fx_u, .inl (k : Int), .inr (.inl (lN (v / 256 ^ k))), fx_u, .inl ((k : Int) - 1 - ((0 : Nat) : Int)), fx_u] [] (fx_set (fx_set M 70 (q_ap (M 70) v n k 0)) 56 (fx_up (M 56) 15 ((n + 0 : Nat) : Int))) (some (.inl ((n + k : Nat) : Int))) (fx_set (fx_set M 70 (q_ap (M 70) v n k k)) 56 (fx_up (M 56) 15 ((n + k : Nat) : Int))) := by
    refine Ev.loop k (fun d => [fx_f 56, .inr (.inl (lN v)), fx_u, .inl (k : Int), .inr (.inl (lN (v / 256 ^ k))), fx_u, .inl ((k : Int) - 1 - (d : Int)), fx_u]) (fun d => fx_set (fx_set M 70 (q_ap (M 70) v n k d)) 56 (fx_up (M 56) 15 ((n + d : Nat) : Int))) (fun d hd kk => ?_) ?_
    · have ei : (k : Int) - 1 - (d : Int) = ((k - 1 - d : Nat) : Int) := by omega
      have es := q_shr (v := v) (i := k - 1 - d) hv (by omega)
      have eb : (lN (v / 256 ^ (k - 1 - d)) &&& Int64.ofInt 255).toInt32.toInt = ((qb v (k - 1 - d) : Nat) : Int) := q_b (qd_lt hv _)
      have lb := qb_lt v (k - 1 - d)
      have e15 : (fx_set (fx_set M 70 (q_ap (M 70) v n k d)) 56 (fx_up (M 56) 15 ((n + d : Nat) : Int))) 56 15 = ((n + d : Nat) : Int) := by rw [fx_sk, fx_upk]
      have e56 : (fx_set (fx_set M 70 (q_ap (M 70) v n k d)) 56 (fx_up (M 56) 15 ((n + d : Nat) : Int))) 56 = fx_up (M 56) 15 ((n + d : Nat) : Int) := fx_sk
      have e70 : (fx_set (fx_set M 70 (q_ap (M 70) v n k d)) 56 (fx_up (M 56) 15 ((n + d : Nat) : Int))) 70 = q_ap (M 70) v n k d := by rw [fx_sn (by omega), fx_sk]
      have en : ((n + d : Nat) : Int).toNat = n + d := by omega
      have ex : (k : Int) - 1 - (d : Int) + (-1) = (k : Int) - 1 - ((d + 1 : Nat) : Int) := by push_cast; omega
      refine r176_47F (by omega) (by omega) (r176_49 (by rw [ei, es, eb, q_i2c _ lb, e15]; omega) ?_)
      rw [ex]
      refine Ev.memL ?_ kk
      rw [ei, es, eb, q_i2c _ lb, fx_sn (show (56 : Nat) ≠ 70 by omega), e56, fx_upk, e70, en, q_ap_s hd, fx_upup, fx_sc (show (56 : Nat) ≠ 70 by omega), fx_ss, fx_ss]
      rfl
    · refine r176_47T (by omega) (by omega) (Ev.res ?_ r176_71)
      rw [fx_sk, fx_upk]
  rw [q_ap_0, fx_self, Nat.add_zero, ← h15, show fx_up (M 56) 15 (M 56 15) = M 56 from by
    funext j
    show (if j = 15 then M 56 15 else M 56 j) = M 56 j
    split
    next e => rw [e]
    next => rfl, fx_self] at main
  refine r176_43 ?_
  rw [show (k : Int) - 1 = (k : Int) - 1 - ((0 : Nat) : Int) by omega]
  exact main
theorem cI_pad {MM : fx_M} (h : cI M) (hr : ∀ r, r ≠ 17 → r ≠ 18 → r ≠ 56 → r ≠ 70 → MM r = M r) (h16 : MM 56 16 = M 56 16) (hp : pI MM) : cI MM :=
  ⟨sE_f h.1 (hr 2 (by omega) (by omega) (by omega) (by omega)) (hr 3 (by omega) (by omega) (by omega) (by omega)) (hr 57 (by omega) (by omega) (by omega) (by omega)), hI_f h.2.1 (fun q _ _ => hr q (by omega) (by omega) (by omega) (by omega)) (hr 60 (by omega) (by omega) (by omega) (by omega)) h16, kI_f h.2.2.1 (fun q _ _ => hr q (by omega) (by omega) (by omega) (by omega)) (hr 61 (by omega) (by omega) (by omega) (by omega)) (hr 62 (by omega) (by omega) (by omega) (by omega)), hp⟩
theorem op_put (hI : cI M) (y : Int64) : OP X M 31 176 [.inr (.inl y), fx_u, fx_u] [.inr (.inl y), fx_u, fx_u, fx_u, fx_u, fx_u, fx_u] := by
  obtain ⟨v, hv, rfl⟩ := wb_of y
  obtain ⟨k, hk, hg, hb⟩ := qk_ex v
  obtain ⟨n, n60, p17, p15, pc⟩ := hI.2.2.2
  have cm := ev_many (X := X) (M := M) hv hk hg hb
  -- the reference's first loop, up to the first character that can't stand
  have head : ∀ (M1 : fx_M) (z : Int) (M' : fx_M), (∀ w, Ev X 176 4 [fx_f 56, .inr (.inl (lN v)), fx_u, .inl (k : Int), .inr (.inl (lN (v / 256 ^ k))), fx_u, w, fx_u] [] M1 (some (.inl z)) M') → Ev X 176 0 [fx_f 56, .inr (.inl (lN v)), fx_u, fx_u, fx_u, fx_u, fx_u, fx_u] [] M1 (some (.inl z)) M' := by
    intro M1 z M' kx
    have main : Ev X 176 4 [fx_f 56, .inr (.inl (lN v)), fx_u, .inl ((0 : Nat) : Int), .inr (.inl (lN (v / 256 ^ 0))), fx_u, fx_u, fx_u] [] M1 (some (.inl z)) M' := by
      refine Ev.loop1 k (fun c w => [fx_f 56, .inr (.inl (lN v)), fx_u, .inl (c : Int), .inr (.inl (lN (v / 256 ^ c))), fx_u, w, fx_u]) (fun _ => M1) (fun c hc kk w => ?_) kx fx_u
      have g : 33 ≤ v / 256 ^ c % 256 ∧ v / 256 ^ c % 256 ≤ 126 := hg c hc
      have hd := qd_lt hv c
      have em := q_m hd
      have lb : v / 256 ^ c % 256 < 256 := Nat.mod_lt _ (by decide)
      have c33 := q_c33 _ lb
      have c126 := q_c126 _ lb
      have d0 : v / 256 ^ c ≠ 0 := fun a => by rw [a] at g; omega
      refine r176_4F (by omega) (by omega) (r176_7F (q_rg _) (fun a => d0 ((q_c0 hd).mp a)) (r176_11F (q_rg _) (by rw [em]; omega) ?_))
      rw [em]
      refine r176_19T (q_rg _) (by omega) (r176_25 ?_)
      rw [q_shr8 hd, qd_s]
      exact kk _
    rw [qd_0] at main
    exact r176_0 main
  by_cases ok : k = 8 ∨ v / 256 ^ k = 0
  · rw [if_pos ok] at cm
    have to31 : ∀ (M1 : fx_M) (z : Int) (M' : fx_M), (∀ w, Ev X 176 31 [fx_f 56, .inr (.inl (lN v)), fx_u, .inl (k : Int), .inr (.inl (lN (v / 256 ^ k))), fx_u, w, fx_u] [] M1 (some (.inl z)) M') → Ev X 176 0 [fx_f 56, .inr (.inl (lN v)), fx_u, fx_u, fx_u, fx_u, fx_u, fx_u] [] M1 (some (.inl z)) M' := by
      intro M1 z M' kx
      refine head M1 z M' fun w => ?_
      by_cases h8 : k = 8
      · exact r176_4T (by omega) (by omega) (kx w)
      · have d0 : v / 256 ^ k = 0 := by
          rcases ok with a | a
          · exact absurd a h8
          · exact a
        exact r176_4F (by omega) (by omega) (r176_7T (q_rg _) ((q_c0 (qd_lt hv k)).mpr d0) (kx w))
    by_cases k0 : k = 0
    · exact OP_read (z := -2) hI (r31_0 cm (r31_2F (by omega) (by omega) r31_5)) (frC_r M) (to31 _ _ _ fun w => r176_31F (by omega) (by omega) r176_33) (frM_r M) (by decide)
    · have c1 : ∀ z M', Ev X 31 10 [fx_f 0, .inr (.inl (lN v)), fx_u, .inl (k : Int)] [.inl (n : Int)] M (some (.inl z)) M' → Ev X 31 0 [fx_f 0, .inr (.inl (lN v)), fx_u, fx_u] [] M (some (.inl z)) M' := fun z M' kk => r31_0 cm (r31_2T (by omega) (by omega) (r31_7 (Ev.res p17 r71_0) kk))
      by_cases big : 60 < n + k
      · exact OP_read (z := -4) hI (c1 _ _ (r31_10F (by omega) (by omega) r31_14)) (frC_r M) (to31 _ _ _ fun w => r176_31T (by omega) (by omega) (r176_35F (by rw [p15]; omega) (by rw [p15]; omega) r176_41)) (frM_r M) (by decide)
      · have hnk : n + k ≤ 60 := by omega
        obtain ⟨MC, hMC⟩ : ∃ MC : fx_M, MC = fx_set (fx_set M 18 (q_ap (M 18) v n k k)) 17 (fx_up (M 17) 1 ((n + k : Nat) : Int)) := ⟨_, rfl⟩
        have C : ∀ r, r ≠ 17 → r ≠ 18 → MC r = M r := fun r r1 r2 => by rw [hMC, fx_sn r1, fx_sn r2]
        obtain ⟨MM, hMM⟩ : ∃ MM : fx_M, MM = fx_set (fx_set MC 70 (q_ap (MC 70) v n k k)) 56 (fx_up (MC 56) 15 ((n + k : Nat) : Int)) := ⟨_, rfl⟩
        have ca := ev_append (X := X) (M := M) (v := v) (k := k) (n := n) hv p17 hnk
        rw [← hMC] at ca
        have c17 : MC 17 1 = ((n + k : Nat) : Int) := by rw [hMC, fx_sk, fx_upk]
        have e15 : MC 56 15 = (n : Int) := by rw [C 56 (by omega) (by omega)]; exact p15
        have ma : ∀ w, Ev X 176 43 [fx_f 56, .inr (.inl (lN v)), fx_u, .inl (k : Int), .inr (.inl (lN (v / 256 ^ k))), fx_u, w, fx_u] [] MC (some (.inl ((n + k : Nat) : Int))) MM := fun w => by rw [hMM]; exact evm_puts hv e15 hnk hk
        have m17 : MM 17 = MC 17 := by rw [hMM, fx_sn (by omega), fx_sn (by omega)]
        have m18 : MM 18 = q_ap (M 18) v n k k := by rw [hMM, fx_sn (by omega), fx_sn (by omega), hMC, fx_sn (by omega), fx_sk]
        have m70 : MM 70 = q_ap (M 70) v n k k := by rw [hMM, fx_sn (by omega), fx_sk, C 70 (by omega) (by omega)]
        refine ⟨((n + k : Nat) : Int), MC, MM, ?_, ?_, cI_pad hI (fun r r1 r2 r3 r4 => by rw [hMM, fx_sn r3, fx_sn r4, C r r1 r2]) (by rw [hMM, fx_sk, fx_upn _ _ (by omega), C 56 (by omega) (by omega)]) ⟨n + k, hnk, by rw [m17]; exact c17, by rw [hMM, fx_sk, fx_upk], fun j hj => ?_⟩, by constructor <;> omega⟩
        · exact c1 _ _ (r31_10T (by omega) (by omega) (r31_16 ca (r31_21 (Ev.res c17 r71_0) r31_24)))
        · exact to31 _ _ _ fun w => r176_31T (by omega) (by omega) (r176_35T (by rw [e15]; omega) (by rw [e15]; omega) (ma w))
        · rw [m18, m70]
          unfold q_ap
          by_cases q : n ≤ j ∧ j < n + k
          · have g := hg (n + k - 1 - j) (by omega)
            unfold qg at g
            rw [if_pos q, if_pos q]
            omega
          · rw [if_neg q, if_neg q]
            exact pc j (by omega)
  · rw [if_neg ok] at cm
    have h8 : k ≠ 8 := fun a => ok (Or.inl a)
    have d0 : v / 256 ^ k ≠ 0 := fun a => ok (Or.inr a)
    have nb : ¬ (33 ≤ v / 256 ^ k % 256 ∧ v / 256 ^ k % 256 ≤ 126) := by
      rcases hb with q | q
      · exact absurd q h8
      · exact q
    have hd := qd_lt hv k
    have em := q_m hd
    have lb : v / 256 ^ k % 256 < 256 := Nat.mod_lt _ (by decide)
    have c33 := q_c33 _ lb
    have c126 := q_c126 _ lb
    refine OP_read (z := -2) hI (r31_0 cm (r31_2F (by omega) rfl r31_5)) (frC_r M) (head _ _ _ fun w => r176_4F (by omega) (by omega) (r176_7F (q_rg _) (fun a => d0 ((q_c0 hd).mp a)) ?_)) (frM_r M) (by decide)
    by_cases lo : v / 256 ^ k % 256 < 33
    · refine r176_11T (q_rg _) (by rw [em]; omega) ?_
      exact r176_23
    · refine r176_11F (q_rg _) (by rw [em]; omega) ?_
      rw [em]
      exact r176_19F (q_rg _) (by omega) r176_23
end PUT
