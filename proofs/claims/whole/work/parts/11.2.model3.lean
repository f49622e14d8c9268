/-! the reference: hands, sums over panels, records -/
theorem z_f0_c (P : Nat → Bool) (f : Nat) : Nat.lt (z_f0 P f) 4096 := pb_s_lt _ 12
def y_op (P : Nat → Bool) (O : Nat → Int) (w : Int) (p : Nat) : Nat := if w = 0 then z_str P p else if w = 5 then (if p = 0 then 0 else z_c0 P (p - 1) + z_c1 P (p - 1)) else z_prs O p
def pb_o (g : Nat → Nat) : Nat → Nat
  | 0 => 0
  | n + 1 => pb_o g n ||| g n
theorem pb_o_lt {g : Nat → Nat} {n b : Nat} (h : ∀ i, i < n → g i < 2 ^ b) : pb_o g n < 2 ^ b := by
  induction n with
  | zero => exact Nat.two_pow_pos b
  | succ n ih => exact Nat.or_lt_two_pow (ih (fun i hi => h i (by omega))) (h n (by omega))
theorem pb_o_ext {g h : Nat → Nat} {n : Nat} (e : ∀ i, i < n → g i = h i) : pb_o g n = pb_o h n := by
  induction n with
  | zero => rfl
  | succ n ih => rw [pb_o, pb_o, ih (fun i hi => e i (by omega)), e n (by omega)]
/-- the hands of a set of panels -/
def y_ho (H : Nat → Int) (s : Nat) : Nat := pb_o (fun p => if s.testBit p = true then 2 ^ (H p).toNat else 0) 6
def y_put (B s : Nat → Int) (n c : Nat) : Nat → Int := fun k => if 150 * n ≤ k ∧ k < 150 * n + c then s (k - 150 * n) else B k
def y_shf (B : Nat → Int) (c : Nat) : Nat → Int := fun k => if k < c then B (150 + k) else B k
/-- the memory behind record; n: how many states there were -/
def y_rec (M : fx_M) (n : Nat) : fx_M := if n < 6 then fx_set (fx_set M 60 (y_put (M 60) (M 57) n 150)) 56 (fx_up (M 56) 16 ((n : Int) + 1)) else fx_set (fx_set M 60 (y_put (y_shf (M 60) 750) (M 57) 5 150)) 56 (fx_up (M 56) 16 6)
theorem fx_upup (f : Nat → Int) (k : Nat) (x y : Int) : fx_up (fx_up f k x) k y = fx_up f k y := by
  funext q
  unfold fx_up
  split <;> rfl
theorem fx_upk (f : Nat → Int) (k : Nat) (x : Int) : fx_up f k x k = x := by simp [fx_up]
theorem fx_upn (f : Nat → Int) {k q : Nat} (x : Int) (h : q ≠ k) : fx_up f k x q = f q := by simp [fx_up, h]
section MDN
variable {X : fx_Sc} {M M' : fx_M} {j i : Nat} {ls ls' st : List fx_V} {r : Option fx_V}
theorem Ev.loop3 (N : Nat) (L : Nat → fx_V → fx_V → fx_V → List fx_V) (Mm : Nat → fx_M) (hs : ∀ c, c < N → (∀ u v w, Ev X j i (L (c + 1) u v w) [] (Mm (c + 1)) r M') → ∀ u v w, Ev X j i (L c u v w) [] (Mm c) r M') (hx : ∀ u v w, Ev X j i (L N u v w) [] (Mm N) r M') (u v w : fx_V) : Ev X j i (L 0 u v w) [] (Mm 0) r M' := by
  have key : ∀ n c, c + n = N → ∀ u v w, Ev X j i (L c u v w) [] (Mm c) r M' := by
    intro n
    induction n with
    | zero => intro c hc; rw [show c = N by omega]; exact hx
    | succ n ih => intro c hc; exact hs c (by omega) (ih (c + 1) (by omega))
  exact key N 0 (by omega) u v w
theorem evm_bf0 {f : Nat} (S : mS M) : Ev X 165 0 [.inl ((z_f0 (mh M) f : Nat) : Int), fx_u, fx_u] [] M (some (.inl ((z_c0 (mh M) f : Nat) : Int))) M := evm_bits
theorem evm_bf1 {f : Nat} (S : mS M) : Ev X 165 0 [.inl ((z_f1 (mh M) f : Nat) : Int), fx_u, fx_u] [] M (some (.inl ((z_c1 (mh M) f : Nat) : Int))) M := evm_bits
theorem evm_fa0 {p : Nat} (S : mS M) (hp : 0 < p) (h6 : p < 6) : Ev X 162 0 [fx_f 56, .inl ((p : Int) - 1), .inl 0, fx_u, fx_u] [] M (some (.inl ((z_f0 (mh M) (p - 1) : Nat) : Int))) M := by
  have e : (p : Int) - 1 = ((p - 1 : Nat) : Int) := by omega
  rw [e]
  exact Ev.res (if_pos rfl) (evm_faults (w := 0) S (by omega) (by decide))
theorem evm_fa1 {p : Nat} (S : mS M) (hp : 0 < p) (h6 : p < 6) : Ev X 162 0 [fx_f 56, .inl ((p : Int) - 1), .inl 1, fx_u, fx_u] [] M (some (.inl ((z_f1 (mh M) (p - 1) : Nat) : Int))) M := by
  have e : (p : Int) - 1 = ((p - 1 : Nat) : Int) := by omega
  rw [e]
  exact Ev.res (if_neg (by omega)) (evm_faults (w := 1) S (by omega) (by decide))
theorem evm_ofHand {h w : Int} (S : mS M) (hh : pR h) (hw : pR w) : Ev X 164 0 [fx_f 56, .inl h, .inl w, fx_u, fx_u, fx_u, fx_u, fx_u] [] M (some (.inl ((pb_n (y_oh (mh M) (fun p => M 57 (144 + p)) h w) 6 : Nat) : Int))) M := by
  refine r164_0 ?_
  refine Ev.loop3 6 (fun c u v w' => [fx_f 56, .inl h, .inl w, .inl ((pb_n (y_oh (mh M) (fun p => M 57 (144 + p)) h w) c : Nat) : Int), .inl (c : Int), u, v, w']) (fun _ => M) (fun c hc k u v w' => ?_) (fun u v w' => r164_4T (by omega) (by omega) r164_77) fx_u fx_u fx_u
  have e1 : (144 + (c : Int)).toNat = 144 + c := by omega
  have hb := S.2 c hc
  refine r164_4F (by omega) (by omega) ?_
  simp only [pb_n] at k
  by_cases ho : M 57 (144 + c) = h
  · refine r164_7F ⟨by omega, by rw [e1]; omega, hh⟩ (by rw [e1]; exact ho) ?_
    have hoh : y_oh (mh M) (fun p => M 57 (144 + p)) h w c = if w = 0 then 2 ^ c else if w = 1 then z_str (mh M) c else if w = 2 then (if 0 < c then z_c0 (mh M) (c - 1) + z_c1 (mh M) (c - 1) else 0) else (if 0 < c then z_c1 (mh M) (c - 1) else 0) := by unfold y_oh; rw [if_pos ho]
    rw [hoh] at k
    have tail : ∀ (s1 s0 : Nat), s1 = (if 0 < c then z_c1 (mh M) (c - 1) else 0) → s0 = (if 0 < c then z_c0 (mh M) (c - 1) else 0) → Ev X 164 52 [fx_f 56, .inl h, .inl w, .inl ((pb_n (y_oh (mh M) (fun p => M 57 (144 + p)) h w) c : Nat) : Int), .inl (c : Int), .inl 1, .inl (s1 : Int), .inl (s0 : Int)] [.inl ((pb_n (y_oh (mh M) (fun p => M 57 (144 + p)) h w) c : Nat) : Int)] M (some (.inl ((pb_n (y_oh (mh M) (fun p => M 57 (144 + p)) h w) 6 : Nat) : Int))) M := by
      intro s1 s0 h1 h0
      by_cases w0 : w = 0
      · rw [if_pos w0] at k
        refine r164_52F hw w0 (r164_54 ?_)
        rw [pb_shl1 c (by omega)]
        exact k _ _ _
      · rw [if_neg w0] at k
        refine r164_52T hw w0 ?_
        by_cases w1 : w = 1
        · rw [if_pos w1] at k
          exact r164_58F hw w1 (r164_61 (evm_strokesOf S hc) (r164_64 (k _ _ _)))
        · rw [if_neg w1] at k
          refine r164_58T hw w1 ?_
          by_cases w2 : w = 2
          · rw [if_pos w2] at k
            refine r164_65F hw w2 (r164_68 ?_)
            have e : (if 0 < c then z_c0 (mh M) (c - 1) + z_c1 (mh M) (c - 1) else 0) = s0 + s1 := by rw [h1, h0]; split <;> rfl
            rw [e] at k
            exact k _ _ _
          · rw [if_neg w2] at k
            refine r164_65T hw w2 (r164_72 ?_)
            rw [← h1] at k
            exact k _ _ _
    by_cases c0 : 0 < c
    · refine r164_15F (by omega) (by omega) (r164_23 (evm_fa1 S c0 hc) (r164_29 (evm_bf1 S) (r164_30F (by omega) (by omega) (r164_35F (by omega) (by omega) (r164_37 (evm_fa0 S c0 hc) (r164_43 (evm_bf0 S) (r164_44T (by omega) (by omega) ?_)))))))
      exact tail _ _ (by rw [if_pos c0]) (by rw [if_pos c0])
    · refine r164_15T (by omega) (by omega) (r164_31F (by omega) (by omega) (r164_35T (by omega) (by omega) (r164_45T (by omega) (by omega) ?_)))
      exact tail 0 0 (by rw [if_neg c0]) (by rw [if_neg c0])
  · have hoh : y_oh (mh M) (fun p => M 57 (144 + p)) h w c = 0 := by unfold y_oh; rw [if_neg ho]
    rw [hoh, Nat.add_zero] at k
    exact r164_7T ⟨by omega, by rw [e1]; omega, hh⟩ (by rw [e1]; exact ho) (r164_17 (by simp only [Int.add_zero]; exact k _ _ _))
theorem evm_ofPanels {w : Int} (S : mS M) (hi : z_inv (mO M)) (hw : pR w) : Ev X 169 0 [fx_f 56, .inl w, fx_u, fx_u, fx_u] [] M (some (.inl ((pb_n (y_op (mh M) (mO M) w) 6 : Nat) : Int))) M := by
  refine r169_0 ?_
  refine Ev.loop1 6 (fun c v => [fx_f 56, .inl w, .inl ((pb_n (y_op (mh M) (mO M) w) c : Nat) : Int), .inl (c : Int), v]) (fun _ => M) (fun c hc k v => ?_) (fun v => r169_4T (by omega) (by omega) r169_46) fx_u
  refine r169_4F (by omega) (by omega) ?_
  simp only [pb_n] at k
  have hop : y_op (mh M) (mO M) w c = if w = 0 then z_str (mh M) c else if w = 5 then (if c = 0 then 0 else z_c0 (mh M) (c - 1) + z_c1 (mh M) (c - 1)) else z_prs (mO M) c := rfl
  rw [hop] at k
  have tail : ∀ s0 : Nat, s0 = (if c = 0 then 0 else z_c0 (mh M) (c - 1) + z_c1 (mh M) (c - 1)) → w ≠ 0 → Ev X 169 34 [fx_f 56, .inl w, .inl ((pb_n (y_op (mh M) (mO M) w) c : Nat) : Int), .inl (c : Int), .inl (s0 : Int)] [.inl ((pb_n (y_op (mh M) (mO M) w) c : Nat) : Int)] M (some (.inl ((pb_n (y_op (mh M) (mO M) w) 6 : Nat) : Int))) M := by
    intro s0 h0 w0
    rw [if_neg w0] at k
    by_cases w5 : w = 5
    · rw [if_pos w5, ← h0] at k
      exact r169_34F hw w5 (r169_37 (k _))
    · rw [if_neg w5] at k
      exact r169_34T hw w5 (r169_39 (evm_pairs S hi hc) (r169_42 (k _)))
  by_cases c0 : c = 0
  · refine r169_7F (by omega) (by omega) ?_
    by_cases w0 : w = 0
    · rw [if_pos w0] at k
      exact r169_9F hw w0 (r169_30 (evm_strokesOf S hc) (r169_33 (k _)))
    · exact r169_9T hw w0 (tail 0 (by rw [if_pos c0]) w0)
  · refine r169_7T (by omega) (by omega) (r169_11 (evm_fa0 S (by omega) hc) (r169_17 (evm_bf0 S) (r169_18 (evm_fa1 S (by omega) hc) (r169_24 (evm_bf1 S) ?_))))
    by_cases w0 : w = 0
    · rw [if_pos w0] at k
      exact r169_25F hw w0 (r169_30 (evm_strokesOf S hc) (r169_33 (k _)))
    · exact r169_25T hw w0 (tail _ (by rw [if_neg c0]) w0)
theorem evm_handsOf {s : Nat} (S : mS M) (hs : s < 64) : Ev X 167 0 [fx_f 56, .inl (s : Int), fx_u, fx_u] [] M (some (.inl ((y_ho (fun p => M 57 (144 + p)) s : Nat) : Int))) M := by
  refine r167_0 ?_
  have hg : ∀ i, i < 6 → (fun p => if s.testBit p = true then 2 ^ (M 57 (144 + p)).toNat else 0) i < 2 ^ 6 := by
    intro i hi
    have hb := S.2 i hi
    show (if s.testBit i = true then 2 ^ (M 57 (144 + i)).toNat else 0) < 2 ^ 6
    split
    · exact Nat.pow_lt_pow_right (by omega) (by omega)
    · exact Nat.two_pow_pos 6
  refine Ev.loop 6 (fun c => [fx_f 56, .inl (s : Int), .inl ((pb_o (fun p => if s.testBit p = true then 2 ^ (M 57 (144 + p)).toNat else 0) c : Nat) : Int), .inl (c : Int)]) (fun _ => M) (fun c hc k => ?_) (r167_4T (by omega) (by omega) r167_29)
  have e1 : (144 + (c : Int)).toNat = 144 + c := by omega
  have hb := S.2 c hc
  have hlt : pb_o (fun p => if s.testBit p = true then 2 ^ (M 57 (144 + p)).toNat else 0) c < 2 ^ 6 := pb_o_lt fun i hi => hg i (by omega)
  have bit := pb_bit (a := s) (c := c) (by omega) (by omega)
  refine r167_4F (by omega) (by omega) ?_
  simp only [pb_o] at k
  by_cases h : s.testBit c = true
  · rw [if_pos h] at bit k
    refine r167_7F (by rw [bit]; omega) bit (r167_15 (by omega) ?_)
    have e2 : M 57 (144 + c) = ((M 57 (144 + c)).toNat : Int) := by omega
    have h2 : 2 ^ (M 57 (144 + c)).toNat ≤ 2 ^ 6 := Nat.pow_le_pow_right (by omega) (by omega)
    rw [e1, e2, pb_shl1 _ (by omega), pb_or (by omega) (by omega)]
    exact k
  · rw [if_neg h] at bit k
    refine r167_7T (by rw [bit]; omega) (by rw [bit]; omega) (r167_24 ?_)
    have := pb_or (a := pb_o (fun p => if s.testBit p = true then 2 ^ (M 57 (144 + p)).toNat else 0) c) (b := 0) (by omega) (by omega)
    rw [show ((0 : Nat) : Int) = 0 from rfl] at this
    rw [this]
    exact k
theorem evm_rec2 {n : Nat} (hn : M 56 16 = (n : Int)) (h6 : n < 6) : Ev X 119 29 [fx_f 56, .inl 0] [] M none (fx_set (fx_set M 60 (y_put (M 60) (M 57) n 150)) 56 (fx_up (M 56) 16 ((n : Int) + 1))) := by
  have e0 : M = fx_set M 60 (y_put (M 60) (M 57) n 0) := by
    have : y_put (M 60) (M 57) n 0 = M 60 := by funext k; unfold y_put; rw [if_neg (by omega)]
    rw [this, fx_self]
  have e56 : ∀ c, (fx_set M 60 (y_put (M 60) (M 57) n c)) 56 = M 56 := fun c => fx_sn (by decide)
  refine Ev.memL e0 ?_
  refine Ev.loop 150 (fun c => [fx_f 56, .inl (c : Int)]) (fun c => fx_set M 60 (y_put (M 60) (M 57) n c)) (fun c hc k => ?_) ?_
  · refine r119_29F (by omega) (by omega) (r119_32 ⟨by omega, by rw [e56, hn]; omega⟩ (Ev.memL ?_ k))
    have e2 : (150 * (M 56 16) + (c : Int)).toNat = 150 * n + c := by rw [hn]; omega
    have e3 : (c : Int).toNat = c := by omega
    rw [e56, e2, e3, fx_ss, fx_sk, fx_sn (show (57 : Nat) ≠ 60 by decide)]
    congr 1
    funext q
    unfold fx_up y_put
    by_cases h1 : q = 150 * n + c
    · rw [if_pos h1, if_pos (by omega)]
      congr 1
      omega
    · rw [if_neg h1]
      by_cases h2 : 150 * n ≤ q ∧ q < 150 * n + c
      · rw [if_pos h2, if_pos (by omega)]
      · rw [if_neg h2, if_neg (by omega)]
  · refine r119_29T (by omega) (by omega) (Ev.mem ?_ r119_47)
    rw [e56, hn]
theorem evm_record {n : Nat} (hn : M 56 16 = (n : Int)) (h6 : n ≤ 6) : Ev X 119 0 [fx_f 56, fx_u] [] M none (y_rec M n) := by
  unfold y_rec
  by_cases h : n < 6
  · rw [if_pos h]
    exact r119_0T (by omega) (by omega) (r119_27 (evm_rec2 hn h))
  · rw [if_neg h]
    have hn6 : M 56 16 = 6 := by omega
    refine r119_0F (by omega) hn6 (r119_4 ?_)
    have e0 : M = fx_set M 60 (y_shf (M 60) 0) := by
      have : y_shf (M 60) 0 = M 60 := by funext k; unfold y_shf; rw [if_neg (by omega)]
      rw [this, fx_self]
    refine Ev.memL e0 ?_
    refine Ev.loop 750 (fun c => [fx_f 56, .inl (c : Int)]) (fun c => fx_set M 60 (y_shf (M 60) c)) (fun c hc k => ?_) ?_
    · refine r119_6F (by omega) (by omega) (r119_9 ⟨by omega, by omega⟩ (Ev.memL ?_ k))
      have e2 : (150 + (c : Int)).toNat = 150 + c := by omega
      have e3 : (c : Int).toNat = c := by omega
      rw [e2, e3, fx_ss, fx_sk]
      congr 1
      funext q
      unfold fx_up y_shf
      by_cases h1 : q = c
      · rw [if_pos h1, if_neg (show ¬ 150 + c < c by omega), if_pos (show q < c + 1 by omega), h1]
      · rw [if_neg h1]
        by_cases h2 : q < c
        · rw [if_pos h2, if_pos (by omega)]
        · rw [if_neg h2, if_neg (by omega)]
    · refine r119_6T (by omega) (by omega) (r119_21 ?_)
      have e56 : (fx_set M 60 (y_shf (M 60) 750)) 56 = M 56 := fx_sn (by decide)
      rw [e56, hn6]
      refine Ev.mem ?_ (evm_rec2 (n := 5) (by rw [fx_sk, fx_upk]; rfl) (by omega))
      rw [show (fx_set (fx_set M 60 (y_shf (M 60) 750)) 56 (fx_up (M 56) 16 (6 - 1))) 60 = y_shf (M 60) 750 by rw [fx_sn (by decide), fx_sk]]
      rw [show (fx_set (fx_set M 60 (y_shf (M 60) 750)) 56 (fx_up (M 56) 16 (6 - 1))) 57 = M 57 by rw [fx_sn (by decide), fx_sn (by decide)]]
      rw [fx_sk, fx_upup, fx_sc (show (56 : Nat) ≠ 60 by decide), fx_ss, fx_ss]
      rfl
theorem evm_keepTrial : Ev X 172 0 [fx_f 56, fx_u] [] M none (fx_set M 59 (z_cpy (M 57) (M 59) 150)) := by
  refine r172_0 ?_
  have e0 : M = fx_set M 59 (z_cpy (M 57) (M 59) 0) := by
    have : z_cpy (M 57) (M 59) 0 = M 59 := by funext k; unfold z_cpy; rw [if_neg (by omega)]
    rw [this, fx_self]
  refine Ev.memL e0 ?_
  refine Ev.loop 150 (fun c => [fx_f 56, .inl (c : Int)]) (fun c => fx_set M 59 (z_cpy (M 57) (M 59) c)) (fun c hc k => ?_) (r172_2T (by omega) (by omega) r172_15)
  refine r172_2F (by omega) (by omega) (r172_5 (by omega) (Ev.memL ?_ k))
  have e3 : (c : Int).toNat = c := by omega
  rw [e3, fx_ss, fx_sk, fx_sn (show (57 : Nat) ≠ 59 by decide)]
  congr 1
  funext q
  unfold fx_up z_cpy
  by_cases h1 : q = c
  · rw [if_pos h1, if_pos (by omega), h1]
  · rw [if_neg h1]
    by_cases h2 : q < c
    · rw [if_pos h2, if_pos (by omega)]
    · rw [if_neg h2, if_neg (by omega)]
theorem evm_putBack : Ev X 173 0 [fx_f 56, fx_u] [] M none (fx_set M 57 (z_cpy (M 59) (M 57) 150)) := by
  refine r173_0 ?_
  have e0 : M = fx_set M 57 (z_cpy (M 59) (M 57) 0) := by
    have : z_cpy (M 59) (M 57) 0 = M 57 := by funext k; unfold z_cpy; rw [if_neg (by omega)]
    rw [this, fx_self]
  refine Ev.memL e0 ?_
  refine Ev.loop 150 (fun c => [fx_f 56, .inl (c : Int)]) (fun c => fx_set M 57 (z_cpy (M 59) (M 57) c)) (fun c hc k => ?_) (r173_2T (by omega) (by omega) r173_15)
  refine r173_2F (by omega) (by omega) (r173_5 (by omega) (Ev.memL ?_ k))
  have e3 : (c : Int).toNat = c := by omega
  rw [e3, fx_ss, fx_sk, fx_sn (show (59 : Nat) ≠ 57 by decide)]
  congr 1
  funext q
  unfold fx_up z_cpy
  by_cases h1 : q = c
  · rw [if_pos h1, if_pos (by omega), h1]
  · rw [if_neg h1]
    by_cases h2 : q < c
    · rw [if_pos h2, if_pos (by omega)]
    · rw [if_neg h2, if_neg (by omega)]
end MDN
