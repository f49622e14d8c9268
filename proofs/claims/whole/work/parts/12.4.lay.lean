/-! the reference: laying the lines -/
def mL (O H : Nat → Int) (M : fx_M) (c : Nat) : Prop := M 56 14 = ((zN O c).length : Int) ∧ (∀ k, k < 144 → (∀ i s : Nat, (zN O c)[i]? = some s → zc O s k → M 63 k = (i : Int) + 1) ∧ ((∀ s, s ∈ zN O c → ¬ zc O s k) → M 63 k = 0)) ∧
  (∀ i s : Nat, (zN O c)[i]? = some s → ∃ w : Nat, cR O H s (M 64 i) (M 66 i) (w : Int) (M 67 i) (M 68 i) (M 65 i)) ∧ 2 * (zN O c).length ≤ pb_c (zb (zU (zN O c) O)) 144
theorem mL_add {O H : Nat → Int} {M MF : fx_M} {c n : Nat} (hz : zr O) (hP : zP O c) (hno : ∀ s, s ∈ zN O c → ¬ zc O s c) (hL : mL O H M c) (hn : n = (zN O c).length) (h9 : MF 56 14 = (n : Int) + 1)
    (h10 : ∀ k, (zc O c k → MF 63 k = (n : Int) + 1) ∧ (¬ zc O c k → MF 63 k = M 63 k)) (ho : ∀ i, i ≠ n → MF 64 i = M 64 i ∧ MF 66 i = M 66 i ∧ MF 67 i = M 67 i ∧ MF 68 i = M 68 i ∧ MF 65 i = M 65 i)
    (hR : ∃ w : Nat, cR O H c (MF 64 n) (MF 66 n) (w : Int) (MF 67 n) (MF 68 n) (MF 65 n)) : mL O H MF (c + 1) := by
  obtain ⟨l1, l2, l3, l4⟩ := hL
  unfold mL
  rw [zN_y hP hno]
  refine ⟨by rw [h9, List.length_append, hn]; push_cast; rfl, fun k hk => ⟨fun i s hi hs => ?_, fun hs => ?_⟩, fun i s hi => ?_, ?_⟩
  · rcases li_app hi with ⟨q1, q2⟩ | ⟨q1, q2⟩
    · by_cases hc : zc O c k
      · exact absurd hs (zc_out hz hP (hno s (li_of q2).1) hc)
      · rw [(h10 k).2 hc]
        exact (l2 k hk).1 i s q2 hs
    · subst q2
      rw [(h10 k).1 hs, q1, hn]
  · rw [(h10 k).2 (hs c (List.mem_append.mpr (Or.inr (List.mem_singleton.mpr rfl))))]
    exact (l2 k hk).2 fun s q => hs s (List.mem_append.mpr (Or.inl q))
  · rcases li_app hi with ⟨q1, q2⟩ | ⟨q1, q2⟩
    · obtain ⟨b1, b2, b3, b4, b5⟩ := ho i (by omega)
      rw [b1, b2, b3, b4, b5]
      exact l3 i s q2
    · subst q2
      rw [q1, ← hn]
      exact hR
  · rw [List.length_append]
    exact (zU_two hz hP hno l4).2
section MLY
variable {X : fx_Sc} {M M' M0 : fx_M} {j i : Nat} {ls ls' st : List fx_V} {r : Option fx_V}
def y_fin (M : fx_M) (n : Nat) (x y z : Int) : fx_M := fx_set (fx_set (fx_set M 65 (fx_up (M 65) n x)) 67 (fx_up (M 67) n y)) 68 (fx_up (M 68) n z)
theorem y_fe (h : M 56 14 = (i : Int) + 1) : (∀ f, ((fx_set M 65 f) 56 14) - 1 = (i : Int)) ∧ (∀ f g, ((fx_set (fx_set M 65 f) 67 g) 56 14) - 1 = (i : Int)) := by
  refine ⟨fun f => ?_, fun f g => ?_⟩
  · show M 56 14 - 1 = _
    omega
  · show M 56 14 - 1 = _
    omega
theorem evm_tail {n : Nat} {c x2 x3 : Int} (hn : n < 72) (h : M 56 14 = (n : Int) + 1) (h2 : pR x2) (h3 : pR x3) (k : Ev X 149 17 [fx_f 56, .inl (c + 1), .inl x2, .inl x3] [] (y_fin M n 0 (if x2 < x3 then x2 else x3) (if x2 < x3 then x3 else x2)) r M') :
    Ev X 149 84 [fx_f 56, .inl c, .inl x2, .inl x3] [.inl (M 56 14 - 1), fx_f 65] M r M' := by
  obtain ⟨e1, e2⟩ := y_fe h
  have en : (n : Int).toNat = n := by omega
  rw [show M 56 14 - 1 = (n : Int) by omega]
  by_cases hx : x2 < x3
  · rw [if_pos hx, if_pos hx] at k
    refine r149_84F ⟨by omega, h2, h3⟩ hx ?_
    rw [e1]
    refine r149_95F ⟨by omega, h2, h3⟩ hx ?_
    rw [e2]
    refine r149_108 (by omega) ?_
    rw [en]
    exact k
  · rw [if_neg hx, if_neg hx] at k
    refine r149_84T ⟨by omega, h2, h3⟩ (by omega) ?_
    rw [e1]
    refine r149_97T ⟨by omega, h2, h3⟩ (by omega) ?_
    rw [e2]
    refine r149_110 (by omega) ?_
    rw [en]
    exact k
theorem evm_tailL {n : Nat} {c : Int} (hn : n < 72) (h : M 56 14 = (n : Int) + 1) (k : Ev X 149 17 [fx_f 56, .inl (c + 1), .inl (-6), .inl (-6)] [] (y_fin M n 1 (-6) (-6)) r M') :
    Ev X 149 82 [fx_f 56, .inl c, .inl (-6), .inl (-6)] [.inl (M 56 14 - 1), fx_f 65] M r M' := by
  obtain ⟨e1, e2⟩ := y_fe h
  have en : (n : Int).toNat = n := by omega
  rw [show M 56 14 - 1 = (n : Int) by omega]
  refine r149_82T ⟨by omega, by decide, by decide⟩ (by decide) ?_
  rw [e1]
  refine r149_97T ⟨by omega, by decide, by decide⟩ (by decide) ?_
  rw [e2]
  refine r149_110 (by omega) ?_
  rw [en]
  exact k
def y_fr (M' M : fx_M) : Prop := (∀ q, q < 56 ∨ (56 < q ∧ q < 63) ∨ 68 < q → M' q = M q) ∧ ∀ k, k ≠ 14 → M' 56 k = M 56 k
theorem evm_line {c : Nat} {v2 v3 : fx_V} (S : mS M) (hz : zr (mO M)) (hc : c < 144) (hP : zP (mO M) c) (hno : ∀ s, s ∈ zN (mO M) c → ¬ zc (mO M) s c) (hL : mL (mO M) (mH M) M c) :
    ∃ (M1 : fx_M) (x2 x3 : Int), (∀ r M', Ev X 149 17 [fx_f 56, .inl ((c + 1 : Nat) : Int), .inl x2, .inl x3] [] M1 r M' → Ev X 149 29 [fx_f 56, .inl (c : Int), v2, v3] [] M r M') ∧ mL (mO M) (mH M) M1 (c + 1) ∧ y_fr M1 M := by
  obtain ⟨n, hn⟩ : ∃ n, n = (zN (mO M) c).length := ⟨_, rfl⟩
  have h72 := (zU_two hz hP hno hL.2.2.2).1
  rw [← hn] at h72
  have h9 : M 56 14 = (n : Int) := by rw [hn]; exact hL.1
  have en : (n : Int).toNat = n := by omega
  obtain ⟨MZ, hMZ⟩ : ∃ MZ : fx_M, MZ = fx_set (fx_set (fx_set M 56 (fx_up (M 56) 14 ((n : Int) + 1))) 64 (fx_up (M 64) n 0)) 66 (fx_up (M 66) n 0) := ⟨_, rfl⟩
  have z57 : MZ 57 = M 57 := by rw [hMZ]; rfl
  have zO : mO MZ = mO M := mO_f z57
  have zH : mH MZ = mH M := by unfold mH; rw [z57]
  have z14 : MZ 56 14 = (n : Int) + 1 := by rw [hMZ]; show (if 14 = 14 then (n : Int) + 1 else M 56 14) = _; rw [if_pos rfl]
  have z56 : ∀ k, k ≠ 14 → MZ 56 k = M 56 k := by intro k hk; rw [hMZ]; show (if k = 14 then (n : Int) + 1 else M 56 k) = _; rw [if_neg hk]
  have z63 : MZ 63 = M 63 := by rw [hMZ]; rfl
  have z64 : MZ 64 = fx_up (M 64) n 0 := by rw [hMZ]; rfl
  have z66 : MZ 66 = fx_up (M 66) n 0 := by rw [hMZ]; rfl
  have zq : ∀ q, q ≠ 56 → q ≠ 64 → q ≠ 66 → MZ q = M q := by
    intro q a1 a2 a3
    rw [hMZ, fx_sn a3, fx_sn a2, fx_sn a1]
  have SZ : mS MZ := mS_f S z57
  have hb0 : 0 ≤ MZ 57 c := by rw [z57]; exact (S.1 c hc).1
  obtain ⟨o1, o2, o3, o4, -⟩ := zo_of hz hP
  have hc0 : mQ (mH MZ) MZ MZ n (fun _ => False) 0 0 := by
    refine ⟨fun q _ _ _ => rfl, fun k => ⟨fun h => absurd h id, fun _ => rfl⟩, fun i _ => ⟨rfl, rfl⟩, by rw [z64]; exact fx_upk _ _ _, by rw [z66]; exact fx_upk _ _ _, 0, ?_, ⟨by omega, fun p => ?_⟩, ⟨by omega, fun p => ?_⟩⟩
    · have : ∀ c, pb_c (zb (fun _ => False)) c = 0 := by
        intro c
        induction c with
        | zero => rfl
        | succ c ih => rw [pb_c, ih, if_neg (fun q => zb_t.mp q)]
      rw [this]
    · simp
    · simp
  have c1 := mQ_s hc0 hc o1.1 (Ne.symm o2) o4 id id SZ.2
  have eS : (fun k => False ∨ k = c ∨ k = zo (mO M) c) = (fun k => k = c ∨ k = zo (mO M) c) := by
    funext k
    rw [false_or]
  rw [eS] at c1
  have f1 := evm_followL (X := X) (x1 := (c : Int)) (bk := zo (mO M) c) (a := c) (v := zo (mO M) c) SZ (by rw [zO]; exact hz) h72 z14 144 (fun k => k = c ∨ k = zo (mO M) c) c 1 _ _ fx_u (by omega) (by rw [zO]; exact zI_sym (zI_0 hz hP)) c1 (Or.inl rfl)
  rw [zO] at f1
  obtain ⟨S1, u, m1, t1, M1, x2, k1, k2, k3, k4, k5⟩ := f1
  have e57 : M1 57 = M 57 := by rw [k4.1 57 (by omega) (by omega) (by omega), z57]
  have hmk := evm_marks (X := X) (M := MZ) (n := n) hc (by rw [zO]; exact hP) (by rw [zO]; exact o1.1) hb0 h72 z14
  rw [zO] at hmk
  have hot : ∀ (M1 : fx_M), M1 57 = M 57 → Ev X 151 0 [fx_f 56, .inl (c : Int)] [] M1 (some (.inl ((zo (mO M) c : Nat) : Int))) M1 := by
    intro M1 h
    have := evm_other (X := X) (M := M1) (k := c) hc (by rw [mO_f h]; exact hP) (by rw [h]; exact (S.1 c hc).1)
    rw [mO_f h] at this
    exact this
  have hu4 : u < 144 := (k2.2.2.1 u k2.2.2.2.1).1.1
  -- the way to the first end
  have way : ∀ r M', Ev X 149 60 [fx_f 56, .inl (c : Int), v2, v3] [.inl x2] M1 r M' → Ev X 149 29 [fx_f 56, .inl (c : Int), v2, v3] [] M r M' := by
    intro r M' hk
    refine r149_29 ⟨?_, ?_⟩ ?_ (r149_54 (hot _ ?_) (r149_59 (r152_0 k1) hk))
    · show 0 ≤ (if 14 = 14 then M 56 14 + 1 else M 56 14) - 1 ∧ (if 14 = 14 then M 56 14 + 1 else M 56 14) - 1 < ((72 : Nat) : Int)
      rw [if_pos rfl]; omega
    · show 0 ≤ (if 14 = 14 then M 56 14 + 1 else M 56 14) - 1 ∧ (if 14 = 14 then M 56 14 + 1 else M 56 14) - 1 < ((72 : Nat) : Int)
      rw [if_pos rfl]; omega
    · have q0 : ∀ f, (fx_set M 56 f) 64 = M 64 := fun _ => rfl
      have q1 : (fx_set M 56 (fx_up (M 56) 14 ((n : Int) + 1))) 56 14 - 1 = (n : Int) := by rw [fx_sk, fx_upk]; omega
      have q2 : ∀ f, (fx_set (fx_set M 56 (fx_up (M 56) 14 ((n : Int) + 1))) 64 f) 56 14 - 1 = (n : Int) := fun f => by
        show (fx_set M 56 (fx_up (M 56) 14 ((n : Int) + 1))) 56 14 - 1 = (n : Int)
        exact q1
      have q3 : ∀ f g, (fx_set (fx_set M 56 f) 64 g) 66 = M 66 := fun _ _ => rfl
      rw [h9]
      simp only [q0, q1, q2, q3, en]
      rw [← hMZ]
      exact hmk
    · show MZ 57 = M 57
      exact z57
  have fin : ∀ (S2 : Nat → Prop) (m2 t2 : Nat) (M2 : fx_M) (x y z : Int), mQ (mH MZ) MZ M2 n S2 m2 t2 → zRes (mO M) c y z x → (∀ k, S2 k ↔ zc (mO M) c k) → mL (mO M) (mH M) (y_fin M2 n x y z) (c + 1) ∧ y_fr (y_fin M2 n x y z) M := by
    intro S2 m2 t2 M2 x y z hQ hx hS
    obtain ⟨q1, q2, q3, q4, q5, w, q7⟩ := hQ
    refine ⟨mL_add hz hP hno hL hn ?_ ?_ ?_ ?_, ?_, ?_⟩
    · show M2 56 14 = _
      rw [q1 56 (by omega) (by omega) (by omega), z14]
    · intro k
      show (_ → M2 63 k = _) ∧ (_ → M2 63 k = _)
      rw [← hS k]
      refine ⟨(q2 k).1, fun h => ?_⟩
      rw [(q2 k).2 h, z63]
    · intro i hi
      obtain ⟨a1, a2⟩ := q3 i hi
      show M2 64 i = _ ∧ M2 66 i = _ ∧ (if i = n then y else M2 67 i) = _ ∧ (if i = n then z else M2 68 i) = _ ∧ (if i = n then x else M2 65 i) = _
      rw [if_neg hi, if_neg hi, if_neg hi, a1, a2, z64, z66, fx_upn _ _ hi, fx_upn _ _ hi, q1 67 (by omega) (by omega) (by omega), q1 68 (by omega) (by omega) (by omega), q1 65 (by omega) (by omega) (by omega), zq 67 (by omega) (by omega) (by omega), zq 68 (by omega) (by omega) (by omega), zq 65 (by omega) (by omega) (by omega)]
      exact ⟨rfl, rfl, rfl, rfl, rfl⟩
    · show ∃ w : Nat, cR (mO M) (mH M) c (M2 64 n) (M2 66 n) (w : Int) (if n = n then y else M2 67 n) (if n = n then z else M2 68 n) (if n = n then x else M2 65 n)
      rw [if_pos rfl, if_pos rfl, if_pos rfl]
      rw [zH] at q7
      refine ⟨w, m2, t2, w, q4, q5, rfl, ?_, hx⟩
      obtain ⟨v1, v2, v3⟩ := q7
      refine ⟨?_, zps_ext hS v2, zps_ext hS v3⟩
      rw [← zb_ext hS]
      exact v1
    · intro q hq
      unfold y_fin
      rw [fx_sn (by omega), fx_sn (by omega), fx_sn (by omega), q1 q (by omega) (by omega) (by omega), zq q (by omega) (by omega) (by omega)]
    · intro k hk
      show M2 56 k = M 56 k
      rw [q1 56 (by omega) (by omega) (by omega), z56 k hk]
  have e14 : M1 56 14 = (n : Int) + 1 := by rw [k4.1 56 (by omega) (by omega) (by omega), z14]
  rcases k5 with ⟨k5, k6⟩ | ⟨k5, k6⟩
  · -- no loop
    subst k5
    have f2 := evm_followL (X := X) (x1 := ((zo (mO M) c : Nat) : Int)) (bk := c) (a := c) (v := u) (n := n) (M0 := MZ) SZ (by rw [zO]; exact hz) h72 z14 144 S1 (zo (mO M) c) m1 t1 M1 fx_u (by omega) (by rw [zO]; exact zI_sym k2) k4 (Or.inr ⟨by rw [zO]; exact k6, k2.2.1⟩)
    rw [zO] at f2
    obtain ⟨S2, b, m2, t2, M2, x3, g1, g2, g3, g4, g5⟩ := f2
    have hb4 : b < 144 := (g2.2.2.1 b g2.2.2.2.1).1.1
    have hbP := (g2.2.2.1 b g2.2.2.2.1).1
    rcases g5 with ⟨g5, g6⟩ | ⟨g5, g6⟩
    · subst g5
      have hS := zI_open g2 g6 k6
      obtain ⟨d1, d2⟩ := fin S2 m2 t2 M2 0 ((min b u : Nat) : Int) ((max b u : Nat) : Int) g4 (Or.inr ⟨_, _, zends_of g2 g6 k6, rfl, rfl, rfl⟩) hS
      refine ⟨_, (u : Int), (b : Int), fun r M' hk => way r M' (r149_60T (by omega) (by omega) (r149_66 (hot _ e57) (r149_70 (r152_0 g1) (r149_72T (by omega) (by omega) (evm_tail h72 (by rw [g4.1 56 (by omega) (by omega) (by omega), z14]) (by constructor <;> omega) (by constructor <;> omega) ?_))))), d1, d2⟩
      have e1 : (if (u : Int) < (b : Int) then (u : Int) else (b : Int)) = ((min b u : Nat) : Int) := by split <;> omega
      have e2 : (if (u : Int) < (b : Int) then (b : Int) else (u : Int)) = ((max b u : Nat) : Int) := by split <;> omega
      rw [e1, e2]
      exact hk
    · exact absurd hbP (k6 b (pn_sym hb4 g6).2.2)
  · -- a loop
    subst k5
    have hS := zI_loop hz k2 k6
    obtain ⟨d1, d2⟩ := fin S1 m1 t1 M1 1 (-6) (-6) k4 (Or.inl ⟨zloop_of hz k2 k6, rfl, rfl, rfl⟩) hS
    refine ⟨_, -6, -6, fun r M' hk => way r M' (r149_60F (by omega) rfl (r149_64F (by omega) rfl (evm_tailL h72 e14 ?_))), d1, d2⟩
    exact hk
theorem evm_layL : ∀ (n c : Nat) (M : fx_M) (v2 v3 : fx_V), c + n = 144 → mS M → zr (mO M) → mL (mO M) (mH M) M c → ∃ M', Ev X 149 17 [fx_f 56, .inl (c : Int), v2, v3] [] M none M' ∧ mL (mO M) (mH M) M' 144 ∧ y_fr M' M := by
  intro n
  induction n with
  | zero =>
    intro c M v2 v3 hc S hz hL
    have : c = 144 := by omega
    subst this
    exact ⟨M, r149_17T (by omega) (by omega) r149_114, hL, fun _ _ => rfl, fun _ _ => rfl⟩
  | succ n ih =>
    intro c M v2 v3 hc S hz hL
    have ec : (c : Int).toNat = c := by omega
    have hc4 : c < 144 := by omega
    have hb0 := (S.1 c hc4).1
    have hskip : (∀ r M', Ev X 149 17 [fx_f 56, .inl ((c + 1 : Nat) : Int), v2, v3] [] M r M' → Ev X 149 17 [fx_f 56, .inl (c : Int), v2, v3] [] M r M') → (zP (mO M) c → ∃ s, s ∈ zN (mO M) c ∧ zc (mO M) s c) → ∃ M', Ev X 149 17 [fx_f 56, .inl (c : Int), v2, v3] [] M none M' ∧ mL (mO M) (mH M) M' 144 ∧ y_fr M' M := by
      intro hk hs
      have hL2 : mL (mO M) (mH M) M (c + 1) := by
        unfold mL
        rw [zN_n hs]
        exact hL
      obtain ⟨M', h1, h2, h3⟩ := ih (c + 1) M v2 v3 (by omega) S hz hL2
      exact ⟨M', hk _ _ h1, h2, h3⟩
    have hhas : Ev X 118 0 [fx_f 56, .inl (c : Int)] [] M (some (.inl (if mh M c = true then 1 else 0))) M := evm_has S hc4
    by_cases hp : mh M c = true
    · rw [if_pos hp] at hhas
      have hP := (mh_P hc4 hb0).mp hp
      by_cases hm : M 63 c = 0
      · have hno : ∀ s, s ∈ zN (mO M) c → ¬ zc (mO M) s c := by
          intro s hs hz'
          obtain ⟨i, hi, -⟩ := li_mem hs
          have := (hL.2.1 c hc4).1 i s hi hz'
          omega
        obtain ⟨M1, x2, x3, a1, a2, a3⟩ := evm_line (X := X) (v2 := v2) (v3 := v3) S hz hc4 hP hno hL
        have e57 : M1 57 = M 57 := a3.1 57 (by omega)
        have eO := mO_f e57
        have eH : mH M1 = mH M := by unfold mH; rw [e57]
        obtain ⟨M', h1, h2, h3⟩ := ih (c + 1) M1 (.inl x2) (.inl x3) (by omega) (mS_f S e57) (by rw [eO]; exact hz) (by rw [eO, eH]; exact a2)
        refine ⟨M', ?_, by rw [eO, eH] at h2; exact h2, fun q hq => by rw [h3.1 q hq, a3.1 q hq], fun k hk => by rw [h3.2 k hk, a3.2 k hk]⟩
        refine r149_17F (by omega) (by omega) (r149_20 hhas (r149_23F (by omega) (by omega) (r149_24F (by rw [ec, hm]; omega) (by rw [ec, hm]) (a1 _ _ h1))))
      · have hs : ∃ s, s ∈ zN (mO M) c ∧ zc (mO M) s c := by
          apply Classical.byContradiction
          intro hno
          exact hm ((hL.2.1 c hc4).2 fun s h1 h2 => hno ⟨s, h1, h2⟩)
        refine hskip (fun r M' h1 => ?_) (fun _ => hs)
        obtain ⟨s, s1, s2⟩ := hs
        obtain ⟨i, hi, hil⟩ := li_mem s1
        have e10 := (hL.2.1 c hc4).1 i s hi s2
        have hle := pb_c_le (zb (zU (zN (mO M) c) (mO M))) 144
        have hlen := hL.2.2.2
        refine r149_17F (by omega) (by omega) (r149_20 hhas (r149_23F (by omega) (by omega) (r149_24T (by rw [ec, e10]; omega) (by rw [ec, e10]; omega) (r149_112 h1))))
    · rw [if_neg hp] at hhas
      refine hskip (fun r M' h1 => ?_) (fun h => absurd ((mh_P hc4 hb0).mpr h) hp)
      exact r149_17F (by omega) (by omega) (r149_20 hhas (r149_23T (by omega) rfl (r149_112 h1)))
theorem evm_lay (S : mS M) (hz : zr (mO M)) : ∃ M', Ev X 149 0 [fx_f 56, fx_u, fx_u, fx_u] [] M none M' ∧ mL (mO M) (mH M) M' 144 ∧ y_fr M' M := by
  obtain ⟨MA, hMA⟩ : ∃ MA : fx_M, MA = fx_set M 56 (fx_up (M 56) 14 0) := ⟨_, rfl⟩
  obtain ⟨M1, hM1⟩ : ∃ M1 : fx_M, M1 = fx_set MA 63 (fun k => if k < 144 then 0 else MA 63 k) := ⟨_, rfl⟩
  have e57 : M1 57 = M 57 := by rw [hM1, hMA]; rfl
  have eO := mO_f e57
  have eH : mH M1 = mH M := by unfold mH; rw [e57]
  have hL : mL (mO M1) (mH M1) M1 0 := by
    refine ⟨?_, fun k hk => ⟨fun i s hi => (by cases hi), fun _ => ?_⟩, fun i s hi => (by cases hi), Nat.zero_le _⟩
    · rw [hM1, hMA]
      show (if 14 = 14 then (0 : Int) else M 56 14) = 0
      rw [if_pos rfl]
    · rw [hM1]
      show (if k < 144 then (0 : Int) else MA 63 k) = 0
      rw [if_pos hk]
  obtain ⟨M', h1, h2, h3⟩ := evm_layL (X := X) 144 0 M1 fx_u fx_u (by omega) (mS_f S e57) (by rw [eO]; exact hz) hL
  refine ⟨M', r149_0 ?_, by rw [eO, eH] at h2; exact h2, fun q hq => ?_, fun k hk => ?_⟩
  · rw [← hMA]
    have e0 : MA = fx_set MA 63 (fun k => if k < 0 then 0 else MA 63 k) := by
      have : (fun k => if k < 0 then (0 : Int) else MA 63 k) = MA 63 := by funext k; rw [if_neg (by omega)]
      rw [this, fx_self]
    refine Ev.memL e0 ?_
    refine Ev.loop 144 (fun c => [fx_f 56, .inl (c : Int), fx_u, fx_u]) (fun c => fx_set MA 63 (fun k => if k < c then 0 else MA 63 k)) (fun c hc k => ?_) (r149_5T (by omega) (by omega) (r149_15 (by rw [← hM1]; exact h1)))
    refine r149_5F (by omega) (by omega) (r149_8 (by omega) (Ev.memL ?_ k))
    rw [fx_ss, fx_sk, show (c : Int).toNat = c by omega]
    congr 1
    funext q
    show (if q = c then (0 : Int) else if q < c then 0 else MA 63 q) = if q < c + 1 then 0 else MA 63 q
    by_cases h1 : q = c
    · rw [if_pos h1, if_pos (by omega)]
    · rw [if_neg h1]
      by_cases h2 : q < c
      · rw [if_pos h2, if_pos (by omega)]
      · rw [if_neg h2, if_neg (by omega)]
  · rw [h3.1 q hq, hM1, hMA, fx_sn (by omega), fx_sn (by omega)]
  · rw [h3.2 k hk, hM1, hMA]
    show (if k = 14 then (0 : Int) else M 56 k) = M 56 k
    rw [if_neg hk]
end MLY
