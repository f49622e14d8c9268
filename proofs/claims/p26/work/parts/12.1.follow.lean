/-! the class: the strokes of a line, one behind another -/
theorem pb_c_full {P : Nat → Bool} {n : Nat} (h : n ≤ pb_c P n) : ∀ k, k < n → P k = true := by
  induction n with
  | zero => intro k hk; omega
  | succ n ih =>
    intro k hk
    rw [pb_c] at h
    have hle := pb_c_le P n
    by_cases hP : P n = true
    · rw [if_pos hP] at h
      by_cases hkn : k = n
      · rw [hkn]; exact hP
      · exact ih (by omega) k (by omega)
    · rw [if_neg hP] at h; omega
def zhf (H : Nat → Int) (k : Nat) : Nat := (H (k / 24)).toNat
/-- the strokes, panels and hands of a part -/
def zT (H : Nat → Int) (S : Nat → Prop) (m t w : Nat) : Prop := 2 * m = pb_c (zb S) 144 ∧ zps S (fun k => k / 24) t ∧ zps S (zhf H) w
theorem zT_s {H : Nat → Int} {S : Nat → Prop} {m t w j o : Nat} (h : zT H S m t w) (hj : j < 144) (ho : o < 144) (hjo : j ≠ o) (hp : o / 24 = j / 24) (h1 : ¬ S j) (h2 : ¬ S o) (hH : ∀ p, p < 6 → 0 ≤ H p ∧ H p < 6) :
    zT H (fun k => S k ∨ k = j ∨ k = o) (m + 1) (t ||| 2 ^ (j / 24)) (w ||| 2 ^ zhf H j) ∧ m < 72 := by
  obtain ⟨h3, h4, h5⟩ := h
  have e := zb_two hj ho hjo h1 h2
  have hle := pb_c_le (zb (fun k => S k ∨ k = j ∨ k = o)) 144
  have hb := hH (j / 24) (by omega)
  refine ⟨⟨by omega, zps_s (f := fun k => k / 24) h4 (by omega) hp, zps_s h5 (by unfold zhf; omega) (by unfold zhf; rw [hp])⟩, by omega⟩
def cQ (H : Nat → Int) (M0 M : fx_M) (n : Nat) (S : Nat → Prop) (m t w : Nat) : Prop := (∀ q, q ≠ 10 → q ≠ 11 → q ≠ 12 → q ≠ 13 → M q = M0 q) ∧ (∀ k, (S k → M 10 k = (n : Int)) ∧ (¬ S k → M 10 k = M0 10 k)) ∧ (∀ i, i ≠ n → M 11 i = M0 11 i ∧ M 12 i = M0 12 i ∧ M 13 i = M0 13 i) ∧ M 11 n = (m : Int) ∧ M 12 n = (t : Int) ∧ M 13 n = (w : Int) ∧ zT H S m t w
section LNS
variable {X : fx_Sc} {M M' M0 : fx_M} {j i : Nat} {ls ls' st : List fx_V} {r : Option fx_V}
theorem ev_take {n j o : Nat} (S : pS M 1) (hn : n < 72) (hj : j < 144) (ho : o < 144) : Ev X 45 0 [fx_f 9, fx_f 1, .inl (n : Int), .inl (j : Int), .inl (o : Int)] [] M none
    (fx_set (fx_set (fx_set (fx_set M 10 (fx_up (fx_up (M 10) j n) o n)) 11 (fx_up (M 11) n (M 11 n + 1))) 12 (fx_up (M 12) n (fx_or (M 12 n) (fx_shl 1 ((j / 24 : Nat) : Int))))) 13 (fx_up (M 13) n (fx_or (M 13 n) (fx_shl 1 (M 3 (j / 24)))))) := by
  refine r45_0 (ev_isIndex_y (by omega)) (r45_2F (by omega) (by omega) (r45_3 (ev_isPlace_y (by omega)) (r45_5F (by omega) (by omega) (r45_6 (ev_isPlace_y (by omega)) (r45_8T (by omega) (by omega) ?_)))))
  have e1 : (n : Int).toNat = n := by omega
  have e2 : (j : Int).toNat = j := by omega
  have e3 : (o : Int).toNat = o := by omega
  refine r45_10 (by omega) (ev_panelOf hj) (r45_36 (by omega) (ev_panelOf hj) (r45_48 S.1 (ev_handOf (a := 1) ?_ (by omega)) (Ev.mem ?_ (r45_49 (by omega)))))
  · exact S
  · rw [e1, e2, e3]
    simp only [fx_ss, fx_sk]
    rfl
theorem cQ_s {H : Nat → Int} {n : Nat} {S : Nat → Prop} {m t w j o : Nat} (h : cQ H M0 M n S m t w) (hH : H = M0 3) (hj : j < 144) (ho : o < 144) (hjo : j ≠ o) (hp : o / 24 = j / 24) (h1 : ¬ S j) (h2 : ¬ S o) (hb : ∀ p, p < 6 → 0 ≤ H p ∧ H p < 6) :
    cQ H M0 (fx_set (fx_set (fx_set (fx_set M 10 (fx_up (fx_up (M 10) j n) o n)) 11 (fx_up (M 11) n (M 11 n + 1))) 12 (fx_up (M 12) n (fx_or (M 12 n) (fx_shl 1 ((j / 24 : Nat) : Int))))) 13 (fx_up (M 13) n (fx_or (M 13 n) (fx_shl 1 (M 3 (j / 24)))))) n (fun k => S k ∨ k = j ∨ k = o) (m + 1) (t ||| 2 ^ (j / 24)) (w ||| 2 ^ zhf H j) ∧ m < 72 := by
  obtain ⟨g1, g2, g3, g4, g5, g6, g7⟩ := h
  obtain ⟨g8, g9⟩ := zT_s g7 hj ho hjo hp h1 h2 hb
  have hh := hb (j / 24) (by omega)
  have e3 : M 3 (j / 24) = ((zhf H j : Nat) : Int) := by rw [g1 3 (by omega) (by omega) (by omega) (by omega), ← hH]; unfold zhf; omega
  have hz : zhf H j < 6 := by unfold zhf; omega
  have ht := g7.2.1.1
  have hw := g7.2.2.1
  have p1 : 2 ^ (j / 24) < 2 ^ 6 := Nat.pow_lt_pow_right (by omega) (by omega)
  have p2 : 2 ^ zhf H j < 2 ^ 6 := Nat.pow_lt_pow_right (by omega) hz
  refine ⟨⟨fun q q1 q2 q3 q4 => ?_, fun k => ⟨fun hk => ?_, fun hk => ?_⟩, fun i hi => ?_, ?_, ?_, ?_, g8⟩, g9⟩
  · rw [fx_sn q4, fx_sn q3, fx_sn q2, fx_sn q1]
    exact g1 q q1 q2 q3 q4
  · show (if k = o then (n : Int) else if k = j then (n : Int) else M 10 k) = n
    by_cases a1 : k = o
    · rw [if_pos a1]
    · rw [if_neg a1]
      by_cases a2 : k = j
      · rw [if_pos a2]
      · rw [if_neg a2]
        exact (g2 k).1 (by rcases hk with hk | hk | hk; exact hk; exact absurd hk a2; exact absurd hk a1)
  · show (if k = o then (n : Int) else if k = j then (n : Int) else M 10 k) = M0 10 k
    rw [if_neg (fun q => hk (Or.inr (Or.inr q))), if_neg (fun q => hk (Or.inr (Or.inl q)))]
    exact (g2 k).2 (fun q => hk (Or.inl q))
  · obtain ⟨b1, b2, b3⟩ := g3 i hi
    refine ⟨?_, ?_, ?_⟩
    · show (if i = n then _ else M 11 i) = _
      rw [if_neg hi]; exact b1
    · show (if i = n then _ else M 12 i) = _
      rw [if_neg hi]; exact b2
    · show (if i = n then _ else M 13 i) = _
      rw [if_neg hi]; exact b3
  · show (if n = n then M 11 n + 1 else M 11 n) = _
    rw [if_pos rfl, g4]; push_cast; rfl
  · show (if n = n then fx_or (M 12 n) (fx_shl 1 ((j / 24 : Nat) : Int)) else M 12 n) = _
    rw [if_pos rfl, g5, pb_shl1 _ (by omega), pb_or (by omega) (by omega)]
  · show (if n = n then fx_or (M 13 n) (fx_shl 1 (M 3 (j / 24))) else M 13 n) = _
    rw [if_pos rfl, g6, e3, pb_shl1 _ (by omega), pb_or (by omega) (by omega)]
theorem zI_in {O : Nat → Int} (h : zr O) {a : Nat} {S : Nat → Prop} {u v j : Nat} (hI : zI O a S u v) (hj : pn u = (j : Int)) (hP : zP O j) (hS : S j) : j = v := by
  by_cases hv : j = v
  · exact hv
  · exact absurd hS (zI_s h hI hj hP hv).1
theorem pS_f (S : pS M0 1) (h1 : M 2 = M0 2) (h2 : M 3 = M0 3) : pS M 1 := by
  refine ⟨S.1, fun k hk => ?_, fun k hk => ?_⟩
  · show -1 ≤ M 2 k ∧ M 2 k < 24
    rw [h1]; exact S.2.1 k hk
  · show 0 ≤ M 3 k ∧ M 3 k < 6
    rw [h2]; exact S.2.2 k hk
theorem ph_P {k : Nat} (hk : k < 144) : ph M 1 k = true ↔ zP (M 2) k := by
  unfold ph zP
  rw [decide_eq_true_eq]
  exact ⟨fun h => ⟨hk, h⟩, fun h => h.2⟩
theorem ev_followL {n a v : Nat} {x3 : Int} (S0 : pS M0 1) (hz : zr (M0 2)) (hn : n < 72) (hM : ∀ k, zc (M0 2) a k → M0 10 k = -1) : ∀ (d : Nat) (S : Nat → Prop) (u m t w : Nat) (M : fx_M) (x5 : Int) (x6 : Nat), 144 ≤ pb_c (zb S) 144 + d → zI (M0 2) a S u v → cQ (M0 3) M0 M n S m t w → x6 ≤ m → (x5 = (u : Int) ∨ x5 = -1) →
    ∃ (S' : Nat → Prop) (u' m' t' w' : Nat) (M' : fx_M) (res : Int), Ev X 44 6 [fx_f 9, fx_f 1, .inl (n : Int), .inl x3, .inl (pn u), .inl x5, .inl (x6 : Int)] [] M (some (.inl res)) M' ∧ zI (M0 2) a S' u' v ∧ cQ (M0 3) M0 M' n S' m' t' w' ∧ (zopen (M0 2) u' ∨ pn u' = (v : Int)) ∧ (res = (u' : Int) ∨ (res = -1 ∧ x5 = -1 ∧ u' = u)) := by
  intro d
  induction d using Nat.strongRecOn with
  | ind d ih =>
    intro S u m t w M x5 x6 hd hI hQ h6 h5
    have hu := hI.2.2.1 u hI.2.2.2.1
    have hu4 : u < 144 := hu.1.1
    have hr := pn_rg hu4
    obtain ⟨g1, g2, g3, g4, g5, g6, g7⟩ := id hQ
    have hle := pb_c_le (zb S) 144
    have hT1 := g7.1
    have hS : pS M 1 := pS_f S0 (g1 2 (by omega) (by omega) (by omega) (by omega)) (g1 3 (by omega) (by omega) (by omega) (by omega))
    have e2 : M 2 = M0 2 := g1 2 (by omega) (by omega) (by omega) (by omega)
    have hend : ∀ i, Ev X 44 i [fx_f 9, fx_f 1, .inl (n : Int), .inl x3, .inl (pn u), .inl x5, .inl (x6 : Int)] [] M (some (.inl x5)) M → i = 6 → (zopen (M0 2) u ∨ pn u = (v : Int)) → ∃ (S' : Nat → Prop) (u' m' t' w' : Nat) (M' : fx_M) (res : Int), Ev X 44 6 [fx_f 9, fx_f 1, .inl (n : Int), .inl x3, .inl (pn u), .inl x5, .inl (x6 : Int)] [] M (some (.inl res)) M' ∧ zI (M0 2) a S' u' v ∧ cQ (M0 3) M0 M' n S' m' t' w' ∧ (zopen (M0 2) u' ∨ pn u' = (v : Int)) ∧ (res = (u' : Int) ∨ (res = -1 ∧ x5 = -1 ∧ u' = u)) := by
      intro i he hi hst
      subst hi
      exact ⟨S, u, m, t, w, M, x5, he, hI, hQ, hst, by rcases h5 with h5 | h5; exact Or.inl h5; exact Or.inr ⟨h5, h5, rfl⟩⟩
    by_cases h72 : 72 ≤ x6
    · refine hend 6 (r44_6T (by omega) (by omega) r44_36) rfl ?_
      have hall := pb_c_full (P := zb S) (n := 144) (by omega)
      by_cases hop : zopen (M0 2) u
      · exact Or.inl hop
      · right
        unfold zopen at hop
        have ⟨q, hq1, hq2⟩ : ∃ q : Nat, pn u = (q : Int) ∧ zP (M0 2) q := by
          apply Classical.byContradiction
          intro hno
          exact hop fun q h1 h2 => hno ⟨q, h1, h2⟩
        rw [hq1, zI_in hz hI hq1 hq2 (zb_t.mp (hall q hq2.1))]
    · have hgo : Ev X 83 0 [fx_f 1, .inl (pn u)] [] M (some (.inl (if (0 ≤ pn u ∧ pn u < 144) ∧ ph M 1 (pn u).toNat = true then 1 else 0))) M := ev_has hS (by constructor <;> omega)
      by_cases hp : (0 ≤ pn u ∧ pn u < 144) ∧ ph M 1 (pn u).toNat = true
      · rw [if_pos hp] at hgo
        obtain ⟨q, hq⟩ : ∃ q : Nat, pn u = (q : Int) := ⟨(pn u).toNat, by omega⟩
        have hq4 : q < 144 := by omega
        have hqP : zP (M0 2) q := by
          have h1 := hp.2
          rw [hq, show (q : Int).toNat = q by omega, ph_P hq4, e2] at h1
          exact h1
        by_cases hv : q = v
        · have hSq : M 10 q = (n : Int) := (g2 q).1 (by rw [hv]; exact hI.2.2.2.2.1)
          refine hend 6 (r44_6F (by omega) (by omega) (r44_9 hS.1 hgo (r44_12F (by omega) (by omega) (r44_13F ?_ ?_ r44_19)))) rfl (Or.inr (by rw [hq, hv]))
          · rw [hq, show (q : Int).toNat = q by omega, hSq]; omega
          · rw [hq, show (q : Int).toNat = q by omega, hSq]; omega
        · obtain ⟨s1, s2, s3, s4⟩ := zI_s hz hI hq hqP hv
          have hSq : M 10 q = -1 := by rw [(g2 q).2 s1]; exact hM q s3
          obtain ⟨o1, o2, o3, o4, -⟩ := zo_of hz hqP
          obtain ⟨c1, c2⟩ := cQ_s hQ rfl hq4 o1.1 (Ne.symm o2) o4 s1 s2 (S0.2.2)
          have hm : pb_c (zb (fun k => S k ∨ k = q ∨ k = zo (M0 2) q)) 144 = pb_c (zb S) 144 + 2 := zb_two hq4 o1.1 (Ne.symm o2) s1 s2
          have hle2 := pb_c_le (zb (fun k => S k ∨ k = q ∨ k = zo (M0 2) q)) 144
          obtain ⟨S', u', m', t', w', M', res, k1, k2, k3, k4, k5⟩ := ih (d - 2) (by omega) (fun k => S k ∨ k = q ∨ k = zo (M0 2) q) (zo (M0 2) q) (m + 1) _ _ _ ((zo (M0 2) q : Nat) : Int) (x6 + 1) (by omega) s4 c1 (by omega) (Or.inl rfl)
          refine ⟨S', u', m', t', w', M', res, ?_, k2, k3, k4, ?_⟩
          · refine r44_6F (by omega) (by omega) (r44_9 hS.1 hgo (r44_12F (by omega) (by omega) (r44_13T ?_ ?_ ?_)))
            · rw [hq, show (q : Int).toNat = q by omega, hSq]; omega
            · rw [hq, show (q : Int).toNat = q by omega, hSq]
            · have eo : (((24 * (q / 24) : Nat) : Int) + M 2 q) = ((zo (M0 2) q : Nat) : Int) := by
                have hb := hz.1 q hq4
                have hne := hqP.2
                rw [e2]; unfold zo; omega
              rw [hq]
              refine r44_21 hS.1 (Ev.res eo (ev_otherPlace hS hq4 (by rw [ph_P hq4, e2]; exact hqP))) (r44_24 (ev_take hS hn hq4 o1.1) (r44_31 (ev_neighbourOf o1.1) (r44_33 ?_)))
              exact k1
          · rcases k5 with k5 | ⟨k5, k6, -⟩
            · exact Or.inl k5
            · omega
      · rw [if_neg hp] at hgo
        refine hend 6 (r44_6F (by omega) (by omega) (r44_9 hS.1 hgo (r44_12T (by omega) rfl r44_19))) rfl (Or.inl ?_)
        intro q h1 h2
        exact hp ⟨by have := h2.1; omega, by rw [h1, show (q : Int).toNat = q by omega, ph_P h2.1, e2]; exact h2⟩
end LNS
