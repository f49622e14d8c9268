/-! the reference: all lines -/
def mH (M : fx_M) : Nat → Int := fun p => M 57 (144 + p)
def mQ (H : Nat → Int) (M0 M : fx_M) (n : Nat) (S : Nat → Prop) (m t : Nat) : Prop := (∀ q, q ≠ 63 → q ≠ 64 → q ≠ 66 → M q = M0 q) ∧ (∀ k, (S k → M 63 k = (n : Int) + 1) ∧ (¬ S k → M 63 k = M0 63 k)) ∧ (∀ i, i ≠ n → M 64 i = M0 64 i ∧ M 66 i = M0 66 i) ∧ M 64 n = (m : Int) ∧ M 66 n = (t : Int) ∧ ∃ w, zT H S m t w
section MLN
variable {X : fx_Sc} {M M' M0 : fx_M} {j i : Nat} {ls ls' st : List fx_V} {r : Option fx_V}
theorem evm_other {k : Nat} (hk : k < 144) (hP : zP (mO M) k) (hr : 0 ≤ M 57 k) : Ev X 151 0 [fx_f 56, .inl (k : Int)] [] M (some (.inl ((zo (mO M) k : Nat) : Int))) M := by
  refine Ev.res ?_ (r151_0 (by omega))
  have hne := hP.2
  have e : fx_div (k : Int) 24 = ((k / 24 : Nat) : Int) := pb_div (d := 24) (by omega) (by omega) (by omega)
  rw [e, show (k : Int).toNat = k by omega]
  unfold zo
  unfold mO at hne ⊢
  omega
theorem evm_marks {n k : Nat} (hk : k < 144) (hP : zP (mO M) k) (hP2 : zo (mO M) k < 144) (hr : 0 ≤ M 57 k) (hn : n < 72) (h14 : M 56 14 = (n : Int) + 1) : Ev X 150 0 [fx_f 56, .inl (k : Int)] [] M none
    (fx_set (fx_set (fx_set M 63 (fx_up (fx_up (M 63) k ((n : Int) + 1)) (zo (mO M) k) ((n : Int) + 1))) 64 (fx_up (M 64) n (M 64 n + 1))) 66 (fx_up (M 66) n (fx_or (M 66 n) (fx_shl 1 ((k / 24 : Nat) : Int))))) := by
  have ek : (k : Int).toNat = k := by omega
  have eo : ((zo (mO M) k : Nat) : Int).toNat = zo (mO M) k := by omega
  refine r150_0 (by omega) (evm_other (M := fx_set M 63 (fx_up (M 63) (k : Int).toNat (M 56 14))) hk hP hr) (Ev.mem ?_ (r150_11 ⟨?_, ?_, ?_⟩))
  · have q1 : ∀ (M : fx_M) f, (fx_set M 63 f) 56 = M 56 := fun _ _ => rfl
    have q2 : ∀ (M : fx_M) f, (fx_set M 64 f) 56 = M 56 := fun _ _ => rfl
    have q3 : ∀ (M : fx_M) f, (fx_set M 63 f) 64 = M 64 := fun _ _ => rfl
    have q4 : ∀ (M : fx_M) f, (fx_set M 64 f) 66 = M 66 := fun _ _ => rfl
    have q5 : ∀ (M : fx_M) f, (fx_set M 63 f) 66 = M 66 := fun _ _ => rfl
    have e1 : (M 56 14 - 1).toNat = n := by omega
    have e2 : fx_div (k : Int) 24 = ((k / 24 : Nat) : Int) := pb_div (d := 24) (by omega) (by omega) (by omega)
    have e3 : ∀ f, (zo (mO (fx_set M 63 f)) k : Nat) = zo (mO M) k := fun _ => rfl
    have e4 : ((n : Int) + 1 - 1).toNat = n := by omega
    simp only [q1, q2, q3, q4, q5, e1, e4, e2, fx_ss, fx_sk, e3, eo, ek, h14]
  · show 0 ≤ ((zo (mO M) k : Nat) : Int) ∧ ((zo (mO M) k : Nat) : Int) < ((144 : Nat) : Int)
    omega
  · show 0 ≤ M 56 14 - 1 ∧ M 56 14 - 1 < ((72 : Nat) : Int)
    omega
  · show 0 ≤ M 56 14 - 1 ∧ M 56 14 - 1 < ((72 : Nat) : Int)
    omega
theorem mQ_s {H : Nat → Int} {n : Nat} {S : Nat → Prop} {m t j o : Nat} (h : mQ H M0 M n S m t) (hj : j < 144) (ho : o < 144) (hjo : j ≠ o) (hp : o / 24 = j / 24) (h1 : ¬ S j) (h2 : ¬ S o) (hb : ∀ p, p < 6 → 0 ≤ H p ∧ H p < 6) :
    mQ H M0 (fx_set (fx_set (fx_set M 63 (fx_up (fx_up (M 63) j ((n : Int) + 1)) o ((n : Int) + 1))) 64 (fx_up (M 64) n (M 64 n + 1))) 66 (fx_up (M 66) n (fx_or (M 66 n) (fx_shl 1 ((j / 24 : Nat) : Int))))) n (fun k => S k ∨ k = j ∨ k = o) (m + 1) (t ||| 2 ^ (j / 24)) := by
  obtain ⟨g1, g2, g3, g4, g5, w, g7⟩ := h
  obtain ⟨g8, g9⟩ := zT_s g7 hj ho hjo hp h1 h2 hb
  have ht := g7.2.1.1
  have p1 : 2 ^ (j / 24) < 2 ^ 6 := Nat.pow_lt_pow_right (by omega) (by omega)
  refine ⟨fun q q1 q2 q3 => ?_, fun k => ⟨fun hk => ?_, fun hk => ?_⟩, fun i hi => ?_, ?_, ?_, _, g8⟩
  · rw [fx_sn q3, fx_sn q2, fx_sn q1]
    exact g1 q q1 q2 q3
  · show (if k = o then (n : Int) + 1 else if k = j then (n : Int) + 1 else M 63 k) = (n : Int) + 1
    by_cases a1 : k = o
    · rw [if_pos a1]
    · rw [if_neg a1]
      by_cases a2 : k = j
      · rw [if_pos a2]
      · rw [if_neg a2]
        exact (g2 k).1 (by rcases hk with hk | hk | hk; exact hk; exact absurd hk a2; exact absurd hk a1)
  · show (if k = o then (n : Int) + 1 else if k = j then (n : Int) + 1 else M 63 k) = M0 63 k
    rw [if_neg (fun q => hk (Or.inr (Or.inr q))), if_neg (fun q => hk (Or.inr (Or.inl q)))]
    exact (g2 k).2 (fun q => hk (Or.inl q))
  · obtain ⟨b1, b2⟩ := g3 i hi
    refine ⟨?_, ?_⟩
    · show (if i = n then _ else M 64 i) = _
      rw [if_neg hi]; exact b1
    · show (if i = n then _ else M 66 i) = _
      rw [if_neg hi]; exact b2
  · show (if n = n then M 64 n + 1 else M 64 n) = _
    rw [if_pos rfl, g4]; push_cast; rfl
  · show (if n = n then fx_or (M 66 n) (fx_shl 1 ((j / 24 : Nat) : Int)) else M 66 n) = _
    rw [if_pos rfl, g5, pb_shl1 _ (by omega), pb_or (by omega) (by omega)]
theorem mS_f (S : mS M0) (h : M 57 = M0 57) : mS M := by
  refine ⟨fun k hk => ?_, fun k hk => ?_⟩
  · rw [h]; exact S.1 k hk
  · rw [h]; exact S.2 k hk
theorem mO_f (h : M 57 = M0 57) : mO M = mO M0 := by unfold mO; rw [h]
theorem mh_P {k : Nat} (hk : k < 144) (h : 0 ≤ M 57 k) : mh M k = true ↔ zP (mO M) k := by
  unfold mh zP mO
  rw [decide_eq_true_eq]
  omega
theorem evm_followL {n a v bk : Nat} {x1 : Int} (S0 : mS M0) (hz : zr (mO M0)) (hn : n < 72) (h14 : M0 56 14 = (n : Int) + 1) : ∀ (d : Nat) (S : Nat → Prop) (u m t : Nat) (M : fx_M) (v4 : fx_V), 144 ≤ pb_c (zb S) 144 + d → zI (mO M0) a S u v → mQ (mH M0) M0 M n S m t → (bk = v ∨ (zopen (mO M0) v ∧ S bk)) →
    ∃ (S' : Nat → Prop) (u' m' t' : Nat) (M' : fx_M) (res : Int), Ev X 152 2 [fx_f 56, .inl x1, .inl (bk : Int), .inl (u : Int), v4] [] M (some (.inl res)) M' ∧ zI (mO M0) a S' u' v ∧ (∀ k, S k → S' k) ∧ mQ (mH M0) M0 M' n S' m' t' ∧ ((res = (u' : Int) ∧ zopen (mO M0) u') ∨ (res = -6 ∧ pn u' = (v : Int))) := by
  intro d
  induction d using Nat.strongRecOn with
  | ind d ih =>
    intro S u m t M v4 hd hI hQ hb
    have hu := hI.2.2.1 u hI.2.2.2.1
    have hu4 : u < 144 := hu.1.1
    have hr := pn_rg hu4
    obtain ⟨g1, g2, g3, g4, g5, w, g7⟩ := id hQ
    have e57 : M 57 = M0 57 := g1 57 (by omega) (by omega) (by omega)
    have e56 : M 56 14 = (n : Int) + 1 := by rw [g1 56 (by omega) (by omega) (by omega)]; exact h14
    have hS : mS M := mS_f S0 e57
    have hO : mO M = mO M0 := mO_f e57
    have hvS : S v := hI.2.2.2.2.1
    have hb4 : bk < 144 := by
      rcases hb with hb | ⟨-, hb⟩
      · rw [hb]; exact (hI.2.2.1 v hvS).1.1
      · exact (hI.2.2.1 bk hb).1.1
    have hvo : ∀ q : Nat, pn u = (q : Int) → zopen (mO M0) v → q ≠ v := by
      intro q hq ho hqv
      subst hqv
      exact ho u (pn_sym hu4 hq).2.2 hu.1
    by_cases hm : pn u = -1
    · have hy : y_n u = -6 := by unfold y_n; rw [if_pos hm]
      refine ⟨S, u, m, t, M, (u : Int), r152_2 (evm_neighbour hu4) ?_, hI, fun _ h => h, hQ, Or.inl ⟨rfl, fun q h1 h2 => by omega⟩⟩
      rw [hy]
      exact r152_4T (by omega) rfl r152_12
    · obtain ⟨q, hq⟩ : ∃ q : Nat, pn u = (q : Int) := ⟨(pn u).toNat, by omega⟩
      have hq4 : q < 144 := by omega
      have hy : y_n u = (q : Int) := by unfold y_n; rw [if_neg hm, hq]
      have hb0 := S0.1 q hq4
      have hhas : Ev X 118 0 [fx_f 56, .inl (q : Int)] [] M (some (.inl (if mh M q = true then 1 else 0))) M := evm_has hS hq4
      by_cases hp : mh M q = true
      · rw [if_pos hp] at hhas
        have hqP : zP (mO M0) q := by
          rw [mh_P hq4 (by rw [e57]; exact hb0.1), hO] at hp
          exact hp
        by_cases hqb : q = bk
        · have hqv : q = v := by
            rcases hb with hb | ⟨hb, hbS⟩
            · omega
            · exact zI_in hz hI hq hqP (by rw [hqb]; exact hbS)
          refine ⟨S, u, m, t, M, -6, r152_2 (evm_neighbour hu4) ?_, hI, fun _ h => h, hQ, Or.inr ⟨rfl, by rw [hq, hqv]⟩⟩
          rw [hy]
          exact r152_4F (by omega) (by omega) (r152_8 hhas (r152_11T (by omega) (by omega) (r152_14F (by omega) (by omega) r152_17)))
        · have hqv : q ≠ v := by
            rcases hb with hb | ⟨hb, -⟩
            · omega
            · exact hvo q hq hb
          obtain ⟨s1, s2, s3, s4⟩ := zI_s hz hI hq hqP hqv
          obtain ⟨o1, o2, o3, o4, -⟩ := zo_of hz hqP
          have c1 := mQ_s hQ hq4 o1.1 (Ne.symm o2) o4 s1 s2 S0.2
          have hmm : pb_c (zb (fun k => S k ∨ k = q ∨ k = zo (mO M0) q)) 144 = pb_c (zb S) 144 + 2 := zb_two hq4 o1.1 (Ne.symm o2) s1 s2
          have hle2 := pb_c_le (zb (fun k => S k ∨ k = q ∨ k = zo (mO M0) q)) 144
          obtain ⟨S', u', m', t', M', res, k1, k2, k3, k4, k5⟩ := ih (d - 2) (by omega) (fun k => S k ∨ k = q ∨ k = zo (mO M0) q) (zo (mO M0) q) (m + 1) _ _ (.inl (q : Int)) (by omega) s4 c1 (by rcases hb with hb | ⟨hb, hb2⟩; exact Or.inl hb; exact Or.inr ⟨hb, Or.inl hb2⟩)
          refine ⟨S', u', m', t', M', res, r152_2 (evm_neighbour hu4) ?_, k2, fun k hk => k3 k (Or.inl hk), k4, k5⟩
          rw [hy]
          refine r152_4F (by omega) (by omega) (r152_8 hhas (r152_11T (by omega) (by omega) (r152_14T (by omega) (by omega) (r152_19 (evm_marks (n := n) hq4 (by rw [hO]; exact hqP) (by rw [hO]; exact o1.1) (by rw [e57]; exact hb0.1) hn e56) (r152_22 (evm_other hq4 ?_ ?_) (r152_25 ?_))))))
          · exact (show zP (mO M) q by rw [hO]; exact hqP)
          · show 0 ≤ M 57 q
            rw [e57]; exact hb0.1
          · have e : ∀ f g h, zo (mO (fx_set (fx_set (fx_set M 63 f) 64 g) 66 h)) q = zo (mO M0) q := fun f g h => by
              rw [← hO]; rfl
            rw [e, hO]
            exact k1
      · rw [if_neg hp] at hhas
        refine ⟨S, u, m, t, M, (u : Int), r152_2 (evm_neighbour hu4) ?_, hI, fun _ h => h, hQ, Or.inl ⟨rfl, fun q' h1 h2 => hp ?_⟩⟩
        · rw [hy]
          exact r152_4F (by omega) (by omega) (r152_8 hhas (r152_11F (by omega) rfl r152_12))
        · rw [mh_P hq4 (by rw [e57]; exact hb0.1), hO]
          rw [show q = q' by omega]
          exact h2
end MLN
