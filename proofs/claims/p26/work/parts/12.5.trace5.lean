/-! the same for the second strip -/
section LNS5
variable {X : fx_Sc} {M M' M0 : fx_M} {j i : Nat} {ls ls' st : List fx_V} {r : Option fx_V}
theorem ev_take5 {n j o : Nat} (S : pS M 5) (hn : n < 72) (hj : j < 144) (ho : o < 144) : Ev X 45 0 [fx_f 9, fx_f 5, .inl (n : Int), .inl (j : Int), .inl (o : Int)] [] M none
    (fx_set (fx_set (fx_set (fx_set M 10 (fx_up (fx_up (M 10) j n) o n)) 11 (fx_up (M 11) n (M 11 n + 1))) 12 (fx_up (M 12) n (fx_or (M 12 n) (fx_shl 1 ((j / 24 : Nat) : Int))))) 13 (fx_up (M 13) n (fx_or (M 13 n) (fx_shl 1 (M 7 (j / 24)))))) := by
  refine r45_0 (ev_isIndex_y (by omega)) (r45_2F (by omega) (by omega) (r45_3 (ev_isPlace_y (by omega)) (r45_5F (by omega) (by omega) (r45_6 (ev_isPlace_y (by omega)) (r45_8T (by omega) (by omega) ?_)))))
  have e1 : (n : Int).toNat = n := by omega
  have e2 : (j : Int).toNat = j := by omega
  have e3 : (o : Int).toNat = o := by omega
  refine r45_10 (by omega) (ev_panelOf hj) (r45_36 (by omega) (ev_panelOf hj) (r45_48 S.1 (ev_handOf (a := 5) ?_ (by omega)) (Ev.mem ?_ (r45_49 (by omega)))))
  · exact S
  · rw [e1, e2, e3]
    simp only [fx_ss, fx_sk]
    rfl
theorem cQ_s5 {H : Nat → Int} {n : Nat} {S : Nat → Prop} {m t w j o : Nat} (h : cQ H M0 M n S m t w) (hH : H = M0 7) (hj : j < 144) (ho : o < 144) (hjo : j ≠ o) (hp : o / 24 = j / 24) (h1 : ¬ S j) (h2 : ¬ S o) (hb : ∀ p, p < 6 → 0 ≤ H p ∧ H p < 6) :
    cQ H M0 (fx_set (fx_set (fx_set (fx_set M 10 (fx_up (fx_up (M 10) j n) o n)) 11 (fx_up (M 11) n (M 11 n + 1))) 12 (fx_up (M 12) n (fx_or (M 12 n) (fx_shl 1 ((j / 24 : Nat) : Int))))) 13 (fx_up (M 13) n (fx_or (M 13 n) (fx_shl 1 (M 7 (j / 24)))))) n (fun k => S k ∨ k = j ∨ k = o) (m + 1) (t ||| 2 ^ (j / 24)) (w ||| 2 ^ zhf H j) ∧ m < 72 := by
  obtain ⟨g1, g2, g3, g4, g5, g6, g7⟩ := h
  obtain ⟨g8, g9⟩ := zT_s g7 hj ho hjo hp h1 h2 hb
  have hh := hb (j / 24) (by omega)
  have e3 : M 7 (j / 24) = ((zhf H j : Nat) : Int) := by rw [g1 7 (by omega) (by omega) (by omega) (by omega), ← hH]; unfold zhf; omega
  have hz : zhf H j < 6 := by unfold zhf; omega
  have ht := g7.2.1.1
  have hw := g7.2.2.1
  have p1 : 2 ^ (j / 24) < 2 ^ 6 := Nat.pow_lt_pow_right (by omega) (by omega)
  have p2 : 2 ^ zhf H j < 2 ^ 6 := Nat.pow_lt_pow_right (by omega) hz
  refine ⟨⟨fun q q1 q2 q3 q4 => ?_, fun k => ⟨fun hk => ?_, fun hk => ?_⟩, fun i hi => ?_, ?_, ?_, ?_, g8⟩, g9⟩
  · rw [fx_sn q4, fx_sn q3, fx_sn q2, fx_sn q1]
    exact g1 q q1 q2 q3 q4
  · show (if k = o then (n : Int) else if k = j then (n : Int) else M 10 k) = n
    by_cases a1 : k = o
    · rw [if_pos a1]
    · rw [if_neg a1]
      by_cases a2 : k = j
      · rw [if_pos a2]
      · rw [if_neg a2]
        exact (g2 k).1 (by rcases hk with hk | hk | hk; exact hk; exact absurd hk a2; exact absurd hk a1)
  · show (if k = o then (n : Int) else if k = j then (n : Int) else M 10 k) = M0 10 k
    rw [if_neg (fun q => hk (Or.inr (Or.inr q))), if_neg (fun q => hk (Or.inr (Or.inl q)))]
    exact (g2 k).2 (fun q => hk (Or.inl q))
  · obtain ⟨b1, b2, b3⟩ := g3 i hi
    refine ⟨?_, ?_, ?_⟩
    · show (if i = n then _ else M 11 i) = _
      rw [if_neg hi]; exact b1
    · show (if i = n then _ else M 12 i) = _
      rw [if_neg hi]; exact b2
    · show (if i = n then _ else M 13 i) = _
      rw [if_neg hi]; exact b3
  · show (if n = n then M 11 n + 1 else M 11 n) = _
    rw [if_pos rfl, g4]; push_cast; rfl
  · show (if n = n then fx_or (M 12 n) (fx_shl 1 ((j / 24 : Nat) : Int)) else M 12 n) = _
    rw [if_pos rfl, g5, pb_shl1 _ (by omega), pb_or (by omega) (by omega)]
  · show (if n = n then fx_or (M 13 n) (fx_shl 1 (M 7 (j / 24))) else M 13 n) = _
    rw [if_pos rfl, g6, e3, pb_shl1 _ (by omega), pb_or (by omega) (by omega)]
theorem pS_f5 (S : pS M0 5) (h1 : M 6 = M0 6) (h2 : M 7 = M0 7) : pS M 5 := by
  refine ⟨S.1, fun k hk => ?_, fun k hk => ?_⟩
  · show -1 ≤ M 6 k ∧ M 6 k < 24
    rw [h1]; exact S.2.1 k hk
  · show 0 ≤ M 7 k ∧ M 7 k < 6
    rw [h2]; exact S.2.2 k hk
theorem ph_P5 {k : Nat} (hk : k < 144) : ph M 5 k = true ↔ zP (M 6) k := by
  unfold ph zP
  rw [decide_eq_true_eq]
  exact ⟨fun h => ⟨hk, h⟩, fun h => h.2⟩
theorem ev_followL5 {n a v : Nat} {x3 : Int} (S0 : pS M0 5) (hz : zr (M0 6)) (hn : n < 72) (hM : ∀ k, zc (M0 6) a k → M0 10 k = -1) : ∀ (d : Nat) (S : Nat → Prop) (u m t w : Nat) (M : fx_M) (x5 : Int) (x6 : Nat), 144 ≤ pb_c (zb S) 144 + d → zI (M0 6) a S u v → cQ (M0 7) M0 M n S m t w → x6 ≤ m → (x5 = (u : Int) ∨ x5 = -1) →
    ∃ (S' : Nat → Prop) (u' m' t' w' : Nat) (M' : fx_M) (res : Int), Ev X 44 6 [fx_f 9, fx_f 5, .inl (n : Int), .inl x3, .inl (pn u), .inl x5, .inl (x6 : Int)] [] M (some (.inl res)) M' ∧ zI (M0 6) a S' u' v ∧ cQ (M0 7) M0 M' n S' m' t' w' ∧ (zopen (M0 6) u' ∨ pn u' = (v : Int)) ∧ (res = (u' : Int) ∨ (res = -1 ∧ x5 = -1 ∧ u' = u)) := by
  intro d
  induction d using Nat.strongRecOn with
  | ind d ih =>
    intro S u m t w M x5 x6 hd hI hQ h6 h5
    have hu := hI.2.2.1 u hI.2.2.2.1
    have hu4 : u < 144 := hu.1.1
    have hr := pn_rg hu4
    obtain ⟨g1, g2, g3, g4, g5, g6, g7⟩ := id hQ
    have hle := pb_c_le (zb S) 144
    have hT1 := g7.1
    have hS : pS M 5 := pS_f5 S0 (g1 6 (by omega) (by omega) (by omega) (by omega)) (g1 7 (by omega) (by omega) (by omega) (by omega))
    have e2 : M 6 = M0 6 := g1 6 (by omega) (by omega) (by omega) (by omega)
    have hend : ∀ i, Ev X 44 i [fx_f 9, fx_f 5, .inl (n : Int), .inl x3, .inl (pn u), .inl x5, .inl (x6 : Int)] [] M (some (.inl x5)) M → i = 6 → (zopen (M0 6) u ∨ pn u = (v : Int)) → ∃ (S' : Nat → Prop) (u' m' t' w' : Nat) (M' : fx_M) (res : Int), Ev X 44 6 [fx_f 9, fx_f 5, .inl (n : Int), .inl x3, .inl (pn u), .inl x5, .inl (x6 : Int)] [] M (some (.inl res)) M' ∧ zI (M0 6) a S' u' v ∧ cQ (M0 7) M0 M' n S' m' t' w' ∧ (zopen (M0 6) u' ∨ pn u' = (v : Int)) ∧ (res = (u' : Int) ∨ (res = -1 ∧ x5 = -1 ∧ u' = u)) := by
      intro i he hi hst
      subst hi
      exact ⟨S, u, m, t, w, M, x5, he, hI, hQ, hst, by rcases h5 with h5 | h5; exact Or.inl h5; exact Or.inr ⟨h5, h5, rfl⟩⟩
    by_cases h72 : 72 ≤ x6
    · refine hend 6 (r44_6T (by omega) (by omega) r44_36) rfl ?_
      have hall := pb_c_full (P := zb S) (n := 144) (by omega)
      by_cases hop : zopen (M0 6) u
      · exact Or.inl hop
      · right
        unfold zopen at hop
        have ⟨q, hq1, hq2⟩ : ∃ q : Nat, pn u = (q : Int) ∧ zP (M0 6) q := by
          apply Classical.byContradiction
          intro hno
          exact hop fun q h1 h2 => hno ⟨q, h1, h2⟩
        rw [hq1, zI_in hz hI hq1 hq2 (zb_t.mp (hall q hq2.1))]
    · have hgo : Ev X 83 0 [fx_f 5, .inl (pn u)] [] M (some (.inl (if (0 ≤ pn u ∧ pn u < 144) ∧ ph M 5 (pn u).toNat = true then 1 else 0))) M := ev_has hS (by constructor <;> omega)
      by_cases hp : (0 ≤ pn u ∧ pn u < 144) ∧ ph M 5 (pn u).toNat = true
      · rw [if_pos hp] at hgo
        obtain ⟨q, hq⟩ : ∃ q : Nat, pn u = (q : Int) := ⟨(pn u).toNat, by omega⟩
        have hq4 : q < 144 := by omega
        have hqP : zP (M0 6) q := by
          have h1 := hp.2
          rw [hq, show (q : Int).toNat = q by omega, ph_P5 hq4, e2] at h1
          exact h1
        by_cases hv : q = v
        · have hSq : M 10 q = (n : Int) := (g2 q).1 (by rw [hv]; exact hI.2.2.2.2.1)
          refine hend 6 (r44_6F (by omega) (by omega) (r44_9 hS.1 hgo (r44_12F (by omega) (by omega) (r44_13F ?_ ?_ r44_19)))) rfl (Or.inr (by rw [hq, hv]))
          · rw [hq, show (q : Int).toNat = q by omega, hSq]; omega
          · rw [hq, show (q : Int).toNat = q by omega, hSq]; omega
        · obtain ⟨s1, s2, s3, s4⟩ := zI_s hz hI hq hqP hv
          have hSq : M 10 q = -1 := by rw [(g2 q).2 s1]; exact hM q s3
          obtain ⟨o1, o2, o3, o4, -⟩ := zo_of hz hqP
          obtain ⟨c1, c2⟩ := cQ_s5 hQ rfl hq4 o1.1 (Ne.symm o2) o4 s1 s2 (S0.2.2)
          have hm : pb_c (zb (fun k => S k ∨ k = q ∨ k = zo (M0 6) q)) 144 = pb_c (zb S) 144 + 2 := zb_two hq4 o1.1 (Ne.symm o2) s1 s2
          have hle2 := pb_c_le (zb (fun k => S k ∨ k = q ∨ k = zo (M0 6) q)) 144
          obtain ⟨S', u', m', t', w', M', res, k1, k2, k3, k4, k5⟩ := ih (d - 2) (by omega) (fun k => S k ∨ k = q ∨ k = zo (M0 6) q) (zo (M0 6) q) (m + 1) _ _ _ ((zo (M0 6) q : Nat) : Int) (x6 + 1) (by omega) s4 c1 (by omega) (Or.inl rfl)
          refine ⟨S', u', m', t', w', M', res, ?_, k2, k3, k4, ?_⟩
          · refine r44_6F (by omega) (by omega) (r44_9 hS.1 hgo (r44_12F (by omega) (by omega) (r44_13T ?_ ?_ ?_)))
            · rw [hq, show (q : Int).toNat = q by omega, hSq]; omega
            · rw [hq, show (q : Int).toNat = q by omega, hSq]
            · have eo : (((24 * (q / 24) : Nat) : Int) + M 6 q) = ((zo (M0 6) q : Nat) : Int) := by
                have hb := hz.1 q hq4
                have hne := hqP.2
                rw [e2]; unfold zo; omega
              rw [hq]
              refine r44_21 hS.1 (Ev.res eo (ev_otherPlace hS hq4 (by rw [ph_P5 hq4, e2]; exact hqP))) (r44_24 (ev_take5 hS hn hq4 o1.1) (r44_31 (ev_neighbourOf o1.1) (r44_33 ?_)))
              exact k1
          · rcases k5 with k5 | ⟨k5, k6, -⟩
            · exact Or.inl k5
            · omega
      · rw [if_neg hp] at hgo
        refine hend 6 (r44_6F (by omega) (by omega) (r44_9 hS.1 hgo (r44_12T (by omega) rfl r44_19))) rfl (Or.inl ?_)
        intro q h1 h2
        exact hp ⟨by have := h2.1; omega, by rw [h1, show (q : Int).toNat = q by omega, ph_P5 h2.1, e2]; exact h2⟩
end LNS5

section LNT5
variable {X : fx_Sc} {M M' M0 : fx_M} {j i : Nat} {ls ls' st : List fx_V} {r : Option fx_V}
theorem ev_follow15 {n a : Nat} (S0 : pS M0 5) (hz : zr (M0 6)) (hn : n < 72) (hP : zP (M0 6) a) (hM : ∀ k, zc (M0 6) a k → M0 10 k = -1) (h11 : M0 11 n = 0) (h12 : M0 12 n = 0) (h13 : M0 13 n = 0) :
    ∃ (S : Nat → Prop) (u m t w : Nat) (M' : fx_M), Ev X 44 0 [fx_f 9, fx_f 5, .inl (n : Int), .inl (a : Int), fx_u, fx_u, fx_u] [] M0 (some (.inl (u : Int))) M' ∧ zI (M0 6) a S u a ∧ cQ (M0 7) M0 M' n S m t w ∧ (zopen (M0 6) u ∨ pn u = (a : Int)) := by
  have hc0 : cQ (M0 7) M0 M0 n (fun _ => False) 0 0 0 := by
    refine ⟨fun q _ _ _ _ => rfl, fun k => ⟨fun h => absurd h id, fun _ => rfl⟩, fun i _ => ⟨rfl, rfl, rfl⟩, h11, h12, h13, ?_, ⟨by omega, fun p => ?_⟩, ⟨by omega, fun p => ?_⟩⟩
    · have : ∀ c, pb_c (zb (fun _ => False)) c = 0 := by
        intro c
        induction c with
        | zero => rfl
        | succ c ih => rw [pb_c, ih, if_neg (fun q => zb_t.mp q)]
      rw [this]
    · simp
    · simp
  obtain ⟨o1, o2, o3, o4, -⟩ := zo_of hz hP
  obtain ⟨c1, c2⟩ := cQ_s5 hc0 rfl hP.1 o1.1 (Ne.symm o2) o4 id id S0.2.2
  have eS : (fun k => False ∨ k = a ∨ k = zo (M0 6) a) = (fun k => k = a ∨ k = zo (M0 6) a) := by
    funext k
    rw [false_or]
  rw [eS] at c1
  obtain ⟨S', u', m', t', w', M', res, k1, k2, k3, k4, k5⟩ := ev_followL5 (X := X) (x3 := (a : Int)) S0 hz hn hM 144 _ _ _ _ _ _ ((zo (M0 6) a : Nat) : Int) 1 (by omega) (zI_0 hz hP) c1 (by omega) (Or.inl rfl)
  have e5 : res = (u' : Int) := by omega
  subst e5
  refine ⟨S', u', m', t', w', M', ?_, k2, k3, k4⟩
  have ea : (a : Int).toNat = a := by omega
  have h10 := hM a (zc_self _ a)
  have ha := hP.1
  have hne := hP.2
  refine r44_0 (r44_6F (by omega) (by omega) (r44_9 S0.1 (ev_hasN S0 ha) ?_))
  rw [if_pos ((ph_P5 ha).mpr hP)]
  refine r44_12F (by omega) (by omega) (r44_13T (by rw [ea, h10]; omega) (by rw [ea, h10]) ?_)
  have eo : (((24 * (a / 24) : Nat) : Int) + M0 6 a) = ((zo (M0 6) a : Nat) : Int) := by
    have hb := hz.1 a ha
    unfold zo; omega
  exact r44_21 S0.1 (Ev.res eo (ev_otherPlace S0 ha ((ph_P5 ha).mpr hP))) (r44_24 (ev_take5 S0 hn ha o1.1) (r44_31 (ev_neighbourOf o1.1) (r44_33 k1)))
theorem ev_addLine5 {c : Nat} (S : pS M 5) (hz : zr (M 6)) (hc : c < 144) (hP : zP (M 6) c) (hno : ∀ s, s ∈ zN (M 6) c → ¬ zc (M 6) s c) (hL : cL (M 6) (M 7) M c) :
    ∃ M', Ev X 42 0 [fx_f 9, fx_f 5, .inl (c : Int), fx_u, fx_u, fx_u] [] M none M' ∧ cL (M 6) (M 7) M' (c + 1) ∧ ∀ q, q < 9 ∨ 16 < q → M' q = M q := by
  obtain ⟨n, hn⟩ : ∃ n, n = (zN (M 6) c).length := ⟨_, rfl⟩
  have h72 := (zU_two hz hP hno hL.2.2.2).1
  rw [← hn] at h72
  have h9 : M 9 0 = (n : Int) := by rw [hn]; exact hL.1
  have en : (n : Int).toNat = n := by omega
  have hM10 : ∀ k, zc (M 6) c k → M 10 k = -1 := fun k hk => (hL.2.1 k (zc_P hz hP hk).1).2 fun s hs => zc_out hz hP (hno s hs) hk
  obtain ⟨MZ, hMZ⟩ : ∃ MZ : fx_M, MZ = fx_set (fx_set (fx_set (fx_set M 9 (fx_up (M 9) 0 (M 9 0 + 1))) 11 (fx_up (M 11) n 0)) 12 (fx_up (M 12) n 0)) 13 (fx_up (M 13) n 0) := ⟨_, rfl⟩
  have z2 : MZ 6 = M 6 := by rw [hMZ]; rfl
  have z3 : MZ 7 = M 7 := by rw [hMZ]; rfl
  have z9 : MZ 9 0 = (n : Int) + 1 := by rw [hMZ]; show (if 0 = 0 then M 9 0 + 1 else M 9 0) = _; rw [if_pos rfl, h9]
  have z10 : MZ 10 = M 10 := by rw [hMZ]; rfl
  have z11 : MZ 11 = fx_up (M 11) n 0 := by rw [hMZ]; rfl
  have z12 : MZ 12 = fx_up (M 12) n 0 := by rw [hMZ]; rfl
  have z13 : MZ 13 = fx_up (M 13) n 0 := by rw [hMZ]; rfl
  have zq : ∀ q, q ≠ 9 → q ≠ 11 → q ≠ 12 → q ≠ 13 → MZ q = M q := by
    intro q a1 a2 a3 a4
    rw [hMZ, fx_sn a4, fx_sn a3, fx_sn a2, fx_sn a1]
  have SZ : pS MZ 5 := pS_f5 S z2 z3
  have f1 := ev_follow15 (X := X) (n := n) (a := c) SZ (by rw [z2]; exact hz) h72 (by rw [z2]; exact hP) (by rw [z2, z10]; exact hM10) (by rw [z11]; exact fx_upk _ _ _) (by rw [z12]; exact fx_upk _ _ _) (by rw [z13]; exact fx_upk _ _ _)
  rw [z2, z3] at f1
  obtain ⟨S1, u, m1, t1, w1, M1, k1, k2, k3, k4⟩ := f1
  have f2 := ev_followL5 (X := X) (x3 := pn c) (M0 := MZ) (a := c) SZ (by rw [z2]; exact hz) h72 (by rw [z2, z10]; exact hM10) 144 S1 c m1 t1 w1 M1 (-1) 0 (by omega) (by rw [z2]; exact zI_sym k2) (by rw [z3]; exact k3) (by omega) (Or.inr rfl)
  rw [z2, z3] at f2
  obtain ⟨S2, b, m2, t2, w2, M2, res, g1, g2, g3, g4, g5⟩ := f2
  have hu4 : u < 144 := (k2.2.2.1 u k2.2.2.2.1).1.1
  have hb4 : b < 144 := (g2.2.2.1 b g2.2.2.2.1).1.1
  have hbP := (g2.2.2.1 b g2.2.2.2.1).1
  obtain ⟨q1, q2, q3, q4, q5, q6, q7⟩ := g3
  have hurg := pn_rg hu4
  -- the way to the end of both
  have way : ∀ (MF : fx_M), Ev X 42 51 [fx_f 9, fx_f 5, .inl (c : Int), .inl (n : Int), .inl (u : Int), .inl (b : Int)] [.inl (pn u), .inl (n : Int), fx_f 16] M2 none MF → Ev X 42 0 [fx_f 9, fx_f 5, .inl (c : Int), fx_u, fx_u, fx_u] [] M none MF := by
    intro MF hk
    refine r42_0 (by rw [h9]; exact ev_isIndex_y (by omega)) (r42_5T (by omega) (by omega) ?_)
    rw [h9]
    refine r42_7 (by omega) (M1 := M1) (z := (u : Int)) ?_ (r42_33 (ev_neighbourOf hc) (r42_39 (r44_0 g1) ?_))
    · rw [en]
      rw [hMZ] at k1
      exact k1
    · rcases g5 with g5 | ⟨g5, -, g6⟩
      · rw [g5]
        exact r42_40T (by omega) (by omega) (r42_46 (ev_neighbourOf hu4) hk)
      · rw [g5]
        subst g6
        exact r42_40F (by omega) (by omega) (r42_44 (ev_neighbourOf hu4) hk)
  have fin : ∀ (x y z : Int), zRes (M 6) c y z x → (∀ k, S2 k ↔ zc (M 6) c k) → cL (M 6) (M 7) (fx_set (fx_set (fx_set M2 16 (fx_up (M2 16) n x)) 14 (fx_up (M2 14) n y)) 15 (fx_up (M2 15) n z)) (c + 1) ∧ ∀ q, q < 9 ∨ 16 < q → (fx_set (fx_set (fx_set M2 16 (fx_up (M2 16) n x)) 14 (fx_up (M2 14) n y)) 15 (fx_up (M2 15) n z)) q = M q := by
    intro x y z hx hS
    refine ⟨cL_add hz hP hno hL hn ?_ ?_ ?_ ?_, ?_⟩
    · show M2 9 0 = _
      rw [q1 9 (by omega) (by omega) (by omega) (by omega), z9]
    · intro k
      show (_ → M2 10 k = _) ∧ (_ → M2 10 k = _)
      rw [← hS k]
      refine ⟨(q2 k).1, fun h => ?_⟩
      rw [(q2 k).2 h, z10]
    · intro i hi
      obtain ⟨a1, a2, a3⟩ := q3 i hi
      show M2 11 i = _ ∧ M2 12 i = _ ∧ M2 13 i = _ ∧ (if i = n then y else M2 14 i) = _ ∧ (if i = n then z else M2 15 i) = _ ∧ (if i = n then x else M2 16 i) = _
      rw [if_neg hi, if_neg hi, if_neg hi, a1, a2, a3, z11, z12, z13, fx_upn _ _ hi, fx_upn _ _ hi, fx_upn _ _ hi, q1 14 (by omega) (by omega) (by omega) (by omega), q1 15 (by omega) (by omega) (by omega) (by omega), q1 16 (by omega) (by omega) (by omega) (by omega), zq 14 (by omega) (by omega) (by omega) (by omega), zq 15 (by omega) (by omega) (by omega) (by omega), zq 16 (by omega) (by omega) (by omega) (by omega)]
      exact ⟨rfl, rfl, rfl, rfl, rfl, rfl⟩
    · show cR (M 6) (M 7) c (M2 11 n) (M2 12 n) (M2 13 n) (if n = n then y else M2 14 n) (if n = n then z else M2 15 n) (if n = n then x else M2 16 n)
      rw [if_pos rfl, if_pos rfl, if_pos rfl]
      refine ⟨m2, t2, w2, q4, q5, q6, ?_, hx⟩
      obtain ⟨v1, v2, v3⟩ := q7
      refine ⟨?_, zps_ext hS v2, zps_ext hS v3⟩
      rw [← zb_ext hS]
      exact v1
    · intro q hq
      rw [fx_sn (by omega), fx_sn (by omega), fx_sn (by omega), q1 q (by omega) (by omega) (by omega) (by omega), zq q (by omega) (by omega) (by omega) (by omega)]
  by_cases hlp : pn u = (c : Int)
  · have hloop := zloop_of hz k2 hlp
    have hbz : zc (M 6) c b := g2.1 b g2.2.2.2.1
    have hpb : pn b = (u : Int) := by
      rcases g4 with g4 | g4
      · exact absurd g4 (hloop b hbz)
      · exact g4
    have hS := zI_loop hz g2 hpb
    obtain ⟨d1, d2⟩ := fin 1 (-6) (-6) (Or.inl ⟨hloop, rfl, rfl, rfl⟩) hS
    refine ⟨_, way _ (r42_51F (by omega) hlp ?_), d1, d2⟩
    have s1 : (fx_set M2 16 (fx_up (M2 16) (n : Int).toNat 1)) 16 (n : Int).toNat = 1 := by rw [fx_sk, fx_upk]
    have s2 : (fx_set (fx_set M2 16 (fx_up (M2 16) (n : Int).toNat 1)) 14 (fx_up ((fx_set M2 16 (fx_up (M2 16) (n : Int).toNat 1)) 14) (n : Int).toNat (-6))) 16 (n : Int).toNat = 1 := by rw [fx_sn (by omega)]; exact s1
    refine r42_53F (by rw [s1]; omega) (by rw [s1]; omega) (r42_65F (by rw [s2]; omega) (by rw [s2]; omega) (Ev.mem ?_ (r42_79 (by omega))))
    rw [en]
    rfl
  · have hou : zopen (M 6) u := by
      rcases k4 with k4 | k4
      · exact k4
      · exact absurd k4 hlp
    have hob : zopen (M 6) b := by
      rcases g4 with g4 | g4
      · exact g4
      · exact absurd hbP (hou b (pn_sym hb4 g4).2.2)
    have hS := zI_open g2 hob hou
    obtain ⟨d1, d2⟩ := fin 0 ((min b u : Nat) : Int) ((max b u : Nat) : Int) (Or.inr ⟨_, _, zends_of g2 hob hou, rfl, rfl, rfl⟩) hS
    refine ⟨_, way _ (r42_51T (by omega) hlp ?_), d1, d2⟩
    have s1 : (fx_set M2 16 (fx_up (M2 16) (n : Int).toNat 0)) 16 (n : Int).toNat = 0 := by rw [fx_sk, fx_upk]
    have s2 : (fx_set (fx_set M2 16 (fx_up (M2 16) (n : Int).toNat 0)) 14 (fx_up ((fx_set M2 16 (fx_up (M2 16) (n : Int).toNat 0)) 14) (n : Int).toNat (if (b : Int) < (u : Int) then (b : Int) else (u : Int)))) 16 (n : Int).toNat = 0 := by rw [fx_sn (by omega)]; exact s1
    refine r42_55T (by rw [s1]; omega) s1 (r42_67T (by rw [s2]; omega) s2 (Ev.mem ?_ (r42_81 (by omega))))
    have e1 : (if (b : Int) < (u : Int) then (b : Int) else (u : Int)) = ((min b u : Nat) : Int) := by split <;> omega
    have e2 : (if (u : Int) < (b : Int) then (b : Int) else (u : Int)) = ((max b u : Nat) : Int) := by split <;> omega
    rw [en, e1, e2]
    rfl
theorem ev_traceL5 : ∀ (n c : Nat) (M : fx_M), c + n = 144 → pS M 5 → zr (M 6) → cL (M 6) (M 7) M c → ∃ M', Ev X 41 9 [fx_f 9, fx_f 5, .inl (c : Int)] [] M none M' ∧ cL (M 6) (M 7) M' 144 ∧ ∀ q, q < 9 ∨ 16 < q → M' q = M q := by
  intro n
  induction n with
  | zero =>
    intro c M hc S hz hL
    have : c = 144 := by omega
    subst this
    exact ⟨M, r41_9T (by omega) (by omega) r41_28, hL, fun _ _ => rfl⟩
  | succ n ih =>
    intro c M hc S hz hL
    have ec : (c : Int).toNat = c := by omega
    have hskip : (∀ r M', Ev X 41 9 [fx_f 9, fx_f 5, .inl ((c + 1 : Nat) : Int)] [] M r M' → Ev X 41 9 [fx_f 9, fx_f 5, .inl (c : Int)] [] M r M') → (zP (M 6) c → ∃ s, s ∈ zN (M 6) c ∧ zc (M 6) s c) → ∃ M', Ev X 41 9 [fx_f 9, fx_f 5, .inl (c : Int)] [] M none M' ∧ cL (M 6) (M 7) M' 144 ∧ ∀ q, q < 9 ∨ 16 < q → M' q = M q := by
      intro hk hs
      have hL2 : cL (M 6) (M 7) M (c + 1) := by
        unfold cL
        rw [zN_n hs]
        exact hL
      obtain ⟨M', h1, h2, h3⟩ := ih (c + 1) M (by omega) S hz hL2
      exact ⟨M', hk _ _ h1, h2, h3⟩
    by_cases hp : ph M 5 c = true
    · have hP := (ph_P5 (M := M) (k := c) (by omega)).mp hp
      by_cases hm : M 10 c = -1
      · have hno : ∀ s, s ∈ zN (M 6) c → ¬ zc (M 6) s c := by
          intro s hs hz'
          obtain ⟨i, hi, -⟩ := li_mem hs
          have := (hL.2.1 c (by omega)).1 i s hi hz'
          omega
        obtain ⟨M1, a1, a2, a3⟩ := ev_addLine5 (X := X) S hz (by omega) hP hno hL
        have e2 := a3 6 (by omega)
        have e3 := a3 7 (by omega)
        obtain ⟨M', h1, h2, h3⟩ := ih (c + 1) M1 (by omega) (pS_f5 S e2 e3) (by rw [e2]; exact hz) (by rw [e2, e3]; exact a2)
        refine ⟨M', ?_, by rw [e2, e3] at h2; exact h2, fun q hq => by rw [h3 q hq, a3 q hq]⟩
        refine r41_9F (by omega) (by omega) (r41_12 S.1 (ev_hasN S (by omega)) ?_)
        rw [if_pos hp]
        exact r41_15F (by omega) (by omega) (r41_16F (by rw [ec, hm]; omega) (by rw [ec, hm]) (r41_22 a1 (r41_26 h1)))
      · have hs : ∃ s, s ∈ zN (M 6) c ∧ zc (M 6) s c := by
          apply Classical.byContradiction
          intro hno
          exact hm ((hL.2.1 c (by omega)).2 fun s h1 h2 => hno ⟨s, h1, h2⟩)
        refine hskip (fun r M' h1 => ?_) (fun _ => hs)
        obtain ⟨s, s1, s2⟩ := hs
        obtain ⟨i, hi, hil⟩ := li_mem s1
        have e10 := (hL.2.1 c (by omega)).1 i s hi s2
        have hle := pb_c_le (zb (zU (zN (M 6) c) (M 6))) 144
        have hlen := hL.2.2.2
        refine r41_9F (by omega) (by omega) (r41_12 S.1 (ev_hasN S (by omega)) ?_)
        rw [if_pos hp]
        exact r41_15F (by omega) (by omega) (r41_16T (by rw [ec, e10]; omega) (by rw [ec, e10]; omega) (r41_26 h1))
    · refine hskip (fun r M' h1 => ?_) (fun h => absurd ((ph_P5 (by omega)).mpr h) hp)
      refine r41_9F (by omega) (by omega) (r41_12 S.1 (ev_hasN S (by omega)) ?_)
      rw [if_neg hp]
      exact r41_15T (by omega) rfl (r41_26 h1)
theorem ev_trace5 (S : pS M 5) (hz : zr (M 6)) : ∃ M', Ev X 41 0 [fx_f 9, fx_f 5, fx_u] [] M none M' ∧ cL (M 6) (M 7) M' 144 ∧ ∀ q, q < 9 ∨ 16 < q → M' q = M q := by
  obtain ⟨M1, hM1⟩ : ∃ M1 : fx_M, M1 = fx_set (fx_set M 9 (fx_up (M 9) 0 0)) 10 (fun k => if k < 144 then -1 else M 10 k) := ⟨_, rfl⟩
  have e2 : M1 6 = M 6 := by rw [hM1]; rfl
  have e3 : M1 7 = M 7 := by rw [hM1]; rfl
  have hL : cL (M1 6) (M1 7) M1 0 := by
    refine ⟨?_, fun k hk => ⟨fun i s hi => (by cases hi), fun _ => ?_⟩, fun i s hi => (by cases hi), Nat.zero_le _⟩
    · rw [hM1]
      show (if 0 = 0 then (0 : Int) else M 9 0) = 0
      rw [if_pos rfl]
    · rw [hM1]
      show (if k < 144 then (-1 : Int) else M 10 k) = -1
      rw [if_pos hk]
  obtain ⟨M', h1, h2, h3⟩ := ev_traceL5 (X := X) 144 0 M1 (by omega) (pS_f5 S e2 e3) (by rw [e2]; exact hz) hL
  refine ⟨M', r41_0 (M1 := M1) ?_ (r41_7 h1), by rw [e2, e3] at h2; exact h2, fun q hq => ?_⟩
  · rw [hM1]
    exact ev_fill10
  · rw [h3 q hq, hM1, fx_sn (by omega), fx_sn (by omega)]
end LNT5
