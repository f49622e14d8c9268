/-! the class: all lines of a strip -/
noncomputable def zN (O : Nat → Int) : Nat → List Nat
  | 0 => []
  | c + 1 => if zb (fun _ => zP O c ∧ ∀ s, s ∈ zN O c → ¬ zc O s c) 0 = true then zN O c ++ [c] else zN O c
theorem zN_y {O : Nat → Int} {c : Nat} (h1 : zP O c) (h2 : ∀ s, s ∈ zN O c → ¬ zc O s c) : zN O (c + 1) = zN O c ++ [c] := by
  rw [zN, if_pos (zb_t.mpr ⟨h1, h2⟩)]
theorem zN_n {O : Nat → Int} {c : Nat} (h : zP O c → ∃ s, s ∈ zN O c ∧ zc O s c) : zN O (c + 1) = zN O c := by
  rw [zN, if_neg]
  intro q
  obtain ⟨h1, h2⟩ := zb_t.mp q
  obtain ⟨s, h3, h4⟩ := h h1
  exact h2 s h3 h4
theorem zN_in {O : Nat → Int} {c s : Nat} (h : s ∈ zN O c) : zP O s ∧ s < c := by
  induction c with
  | zero => cases h
  | succ c ih =>
    rw [zN] at h
    split at h
    next hb =>
      rcases List.mem_append.mp h with h | h
      · exact ⟨(ih h).1, by have := (ih h).2; omega⟩
      · rw [List.mem_singleton] at h
        subst h
        exact ⟨(zb_t.mp hb).1, by omega⟩
    next => exact ⟨(ih h).1, by have := (ih h).2; omega⟩
theorem zN_all {O : Nat → Int} {c k : Nat} (hk : k < c) (hP : zP O k) : ∃ s, s ∈ zN O c ∧ zc O s k := by
  induction c with
  | zero => omega
  | succ c ih =>
    by_cases h : k = c
    · subst h
      by_cases hs : ∃ s, s ∈ zN O k ∧ zc O s k
      · rw [zN_n (fun _ => hs)]; exact hs
      · rw [zN_y hP (fun s h1 h2 => hs ⟨s, h1, h2⟩)]
        exact ⟨k, List.mem_append.mpr (Or.inr (List.mem_singleton.mpr rfl)), zc_self O k⟩
    · obtain ⟨s, h1, h2⟩ := ih (by omega)
      refine ⟨s, ?_, h2⟩
      rw [zN]
      split
      next => exact List.mem_append.mpr (Or.inl h1)
      next => exact h1
theorem li_app {L : List Nat} {c i s : Nat} (h : (L ++ [c])[i]? = some s) : (i < L.length ∧ L[i]? = some s) ∨ (i = L.length ∧ s = c) := by
  rw [List.getElem?_append] at h
  split at h
  next hi => exact Or.inl ⟨hi, h⟩
  next hi =>
    right
    obtain ⟨q, hq⟩ : ∃ q, i - L.length = q := ⟨_, rfl⟩
    rw [hq] at h
    cases q with
    | zero => exact ⟨by omega, by injection h with h; exact h.symm⟩
    | succ q => cases h
theorem li_mem {L : List Nat} {s : Nat} (h : s ∈ L) : ∃ i, L[i]? = some s ∧ i < L.length := by
  obtain ⟨i, hi, e⟩ := List.mem_iff_getElem.mp h
  exact ⟨i, by rw [List.getElem?_eq_getElem hi, e], hi⟩
theorem li_of {L : List Nat} {i s : Nat} (h : L[i]? = some s) : s ∈ L ∧ i < L.length := by
  obtain ⟨hi, e⟩ := List.getElem?_eq_some_iff.mp h
  exact ⟨e ▸ List.getElem_mem hi, hi⟩
theorem pb_c_mono {P Q : Nat → Bool} {n : Nat} (h : ∀ k, P k = true → Q k = true) : pb_c P n ≤ pb_c Q n := by
  induction n with
  | zero => exact Nat.le_refl 0
  | succ n ih =>
    rw [pb_c, pb_c]
    by_cases hP : P n = true
    · rw [if_pos hP, if_pos (h n hP)]; omega
    · rw [if_neg hP]; omega
/-- the ends of a line, and if it is a loop -/
def zRes (O : Nat → Int) (a : Nat) (l g p : Int) : Prop := (zloop O a ∧ p = 1 ∧ l = -6 ∧ g = -6) ∨ ∃ u v : Nat, zends O a u v ∧ p = 0 ∧ l = (u : Int) ∧ g = (v : Int)
theorem zRes_un {O : Nat → Int} {a : Nat} {l g p l' g' p' : Int} (h : zRes O a l g p) (h' : zRes O a l' g' p') : l = l' ∧ g = g' ∧ p = p' := by
  rcases h with ⟨h1, h2, h3, h4⟩ | ⟨u, v, h1, h2, h3, h4⟩ <;> rcases h' with ⟨g1, g2, g3, g4⟩ | ⟨u', v', g1, g2, g3, g4⟩
  · omega
  · exact absurd h1 (zends_loop g1)
  · exact absurd g1 (zends_loop h1)
  · have := zends_un h1 g1
    omega
def cR (O H : Nat → Int) (s : Nat) (m t w l g p : Int) : Prop := ∃ m' t' w' : Nat, m = (m' : Int) ∧ t = (t' : Int) ∧ w = (w' : Int) ∧ zT H (zc O s) m' t' w' ∧ zRes O s l g p
def zU (L : List Nat) (O : Nat → Int) (k : Nat) : Prop := ∃ s, s ∈ L ∧ zc O s k
def cL (O H : Nat → Int) (M : fx_M) (c : Nat) : Prop := M 9 0 = ((zN O c).length : Int) ∧ (∀ k, k < 144 → (∀ i s : Nat, (zN O c)[i]? = some s → zc O s k → M 10 k = (i : Int)) ∧ ((∀ s, s ∈ zN O c → ¬ zc O s k) → M 10 k = -1)) ∧
  (∀ i s : Nat, (zN O c)[i]? = some s → cR O H s (M 11 i) (M 12 i) (M 13 i) (M 14 i) (M 15 i) (M 16 i)) ∧ 2 * (zN O c).length ≤ pb_c (zb (zU (zN O c) O)) 144
theorem zU_two {O : Nat → Int} (hz : zr O) {c : Nat} (hP : zP O c) (hno : ∀ s, s ∈ zN O c → ¬ zc O s c) (h : 2 * (zN O c).length ≤ pb_c (zb (zU (zN O c) O)) 144) : (zN O c).length < 72 ∧ 2 * ((zN O c).length + 1) ≤ pb_c (zb (zU (zN O c ++ [c]) O)) 144 := by
  obtain ⟨o1, o2, o3, o4, -⟩ := zo_of hz hP
  have h1 : ¬ zU (zN O c) O c := fun ⟨s, q1, q2⟩ => hno s q1 q2
  have h2 : ¬ zU (zN O c) O (zo O c) := fun ⟨s, q1, q2⟩ => hno s q1 (by have := (zc_cl O s _ q2).1; rwa [o3] at this)
  have e := zb_two hP.1 o1.1 (Ne.symm o2) h1 h2
  have hle := pb_c_le (zb (fun k => zU (zN O c) O k ∨ k = c ∨ k = zo O c)) 144
  have hmo : pb_c (zb (fun k => zU (zN O c) O k ∨ k = c ∨ k = zo O c)) 144 ≤ pb_c (zb (zU (zN O c ++ [c]) O)) 144 := by
    refine pb_c_mono fun k hk => zb_t.mpr ?_
    rcases zb_t.mp hk with ⟨s, q1, q2⟩ | rfl | rfl
    · exact ⟨s, List.mem_append.mpr (Or.inl q1), q2⟩
    · exact ⟨k, List.mem_append.mpr (Or.inr (List.mem_singleton.mpr rfl)), zc_self O k⟩
    · exact ⟨c, List.mem_append.mpr (Or.inr (List.mem_singleton.mpr rfl)), (zc_cl O c c (zc_self O c)).1⟩
  omega
theorem cL_add {O H : Nat → Int} {M MF : fx_M} {c n : Nat} (hz : zr O) (hP : zP O c) (hno : ∀ s, s ∈ zN O c → ¬ zc O s c) (hL : cL O H M c) (hn : n = (zN O c).length) (h9 : MF 9 0 = (n : Int) + 1)
    (h10 : ∀ k, (zc O c k → MF 10 k = (n : Int)) ∧ (¬ zc O c k → MF 10 k = M 10 k)) (ho : ∀ i, i ≠ n → MF 11 i = M 11 i ∧ MF 12 i = M 12 i ∧ MF 13 i = M 13 i ∧ MF 14 i = M 14 i ∧ MF 15 i = M 15 i ∧ MF 16 i = M 16 i)
    (hR : cR O H c (MF 11 n) (MF 12 n) (MF 13 n) (MF 14 n) (MF 15 n) (MF 16 n)) : cL O H MF (c + 1) := by
  obtain ⟨l1, l2, l3, l4⟩ := hL
  unfold cL
  rw [zN_y hP hno]
  refine ⟨by rw [h9, List.length_append, hn]; push_cast; rfl, fun k hk => ⟨fun i s hi hs => ?_, fun hs => ?_⟩, fun i s hi => ?_, ?_⟩
  · rcases li_app hi with ⟨q1, q2⟩ | ⟨q1, q2⟩
    · by_cases hc : zc O c k
      · exact absurd hs (zc_out hz hP (hno s (li_of q2).1) hc)
      · rw [(h10 k).2 hc]
        exact (l2 k hk).1 i s q2 hs
    · subst q2
      rw [(h10 k).1 hs, q1, hn]
  · rw [(h10 k).2 (hs c (List.mem_append.mpr (Or.inr (List.mem_singleton.mpr rfl))))]
    exact (l2 k hk).2 fun s q => hs s (List.mem_append.mpr (Or.inl q))
  · rcases li_app hi with ⟨q1, q2⟩ | ⟨q1, q2⟩
    · obtain ⟨b1, b2, b3, b4, b5, b6⟩ := ho i (by omega)
      rw [b1, b2, b3, b4, b5, b6]
      exact l3 i s q2
    · subst q2
      rw [q1, ← hn]
      exact hR
  · rw [List.length_append]
    exact (zU_two hz hP hno l4).2
section LNT
variable {X : fx_Sc} {M M' M0 : fx_M} {j i : Nat} {ls ls' st : List fx_V} {r : Option fx_V}
theorem ev_follow1 {n a : Nat} (S0 : pS M0 1) (hz : zr (M0 2)) (hn : n < 72) (hP : zP (M0 2) a) (hM : ∀ k, zc (M0 2) a k → M0 10 k = -1) (h11 : M0 11 n = 0) (h12 : M0 12 n = 0) (h13 : M0 13 n = 0) :
    ∃ (S : Nat → Prop) (u m t w : Nat) (M' : fx_M), Ev X 44 0 [fx_f 9, fx_f 1, .inl (n : Int), .inl (a : Int), fx_u, fx_u, fx_u] [] M0 (some (.inl (u : Int))) M' ∧ zI (M0 2) a S u a ∧ cQ (M0 3) M0 M' n S m t w ∧ (zopen (M0 2) u ∨ pn u = (a : Int)) := by
  have hc0 : cQ (M0 3) M0 M0 n (fun _ => False) 0 0 0 := by
    refine ⟨fun q _ _ _ _ => rfl, fun k => ⟨fun h => absurd h id, fun _ => rfl⟩, fun i _ => ⟨rfl, rfl, rfl⟩, h11, h12, h13, ?_, ⟨by omega, fun p => ?_⟩, ⟨by omega, fun p => ?_⟩⟩
    · have : ∀ c, pb_c (zb (fun _ => False)) c = 0 := by
        intro c
        induction c with
        | zero => rfl
        | succ c ih => rw [pb_c, ih, if_neg (fun q => zb_t.mp q)]
      rw [this]
    · simp
    · simp
  obtain ⟨o1, o2, o3, o4, -⟩ := zo_of hz hP
  obtain ⟨c1, c2⟩ := cQ_s hc0 rfl hP.1 o1.1 (Ne.symm o2) o4 id id S0.2.2
  have eS : (fun k => False ∨ k = a ∨ k = zo (M0 2) a) = (fun k => k = a ∨ k = zo (M0 2) a) := by
    funext k
    rw [false_or]
  rw [eS] at c1
  obtain ⟨S', u', m', t', w', M', res, k1, k2, k3, k4, k5⟩ := ev_followL (X := X) (x3 := (a : Int)) S0 hz hn hM 144 _ _ _ _ _ _ ((zo (M0 2) a : Nat) : Int) 1 (by omega) (zI_0 hz hP) c1 (by omega) (Or.inl rfl)
  have e5 : res = (u' : Int) := by omega
  subst e5
  refine ⟨S', u', m', t', w', M', ?_, k2, k3, k4⟩
  have ea : (a : Int).toNat = a := by omega
  have h10 := hM a (zc_self _ a)
  have ha := hP.1
  have hne := hP.2
  refine r44_0 (r44_6F (by omega) (by omega) (r44_9 S0.1 (ev_hasN S0 ha) ?_))
  rw [if_pos ((ph_P ha).mpr hP)]
  refine r44_12F (by omega) (by omega) (r44_13T (by rw [ea, h10]; omega) (by rw [ea, h10]) ?_)
  have eo : (((24 * (a / 24) : Nat) : Int) + M0 2 a) = ((zo (M0 2) a : Nat) : Int) := by
    have hb := hz.1 a ha
    unfold zo; omega
  exact r44_21 S0.1 (Ev.res eo (ev_otherPlace S0 ha ((ph_P ha).mpr hP))) (r44_24 (ev_take S0 hn ha o1.1) (r44_31 (ev_neighbourOf o1.1) (r44_33 k1)))
theorem ev_addLine {c : Nat} (S : pS M 1) (hz : zr (M 2)) (hc : c < 144) (hP : zP (M 2) c) (hno : ∀ s, s ∈ zN (M 2) c → ¬ zc (M 2) s c) (hL : cL (M 2) (M 3) M c) :
    ∃ M', Ev X 42 0 [fx_f 9, fx_f 1, .inl (c : Int), fx_u, fx_u, fx_u] [] M none M' ∧ cL (M 2) (M 3) M' (c + 1) ∧ ∀ q, q < 9 ∨ 16 < q → M' q = M q := by
  obtain ⟨n, hn⟩ : ∃ n, n = (zN (M 2) c).length := ⟨_, rfl⟩
  have h72 := (zU_two hz hP hno hL.2.2.2).1
  rw [← hn] at h72
  have h9 : M 9 0 = (n : Int) := by rw [hn]; exact hL.1
  have en : (n : Int).toNat = n := by omega
  have hM10 : ∀ k, zc (M 2) c k → M 10 k = -1 := fun k hk => (hL.2.1 k (zc_P hz hP hk).1).2 fun s hs => zc_out hz hP (hno s hs) hk
  obtain ⟨MZ, hMZ⟩ : ∃ MZ : fx_M, MZ = fx_set (fx_set (fx_set (fx_set M 9 (fx_up (M 9) 0 (M 9 0 + 1))) 11 (fx_up (M 11) n 0)) 12 (fx_up (M 12) n 0)) 13 (fx_up (M 13) n 0) := ⟨_, rfl⟩
  have z2 : MZ 2 = M 2 := by rw [hMZ]; rfl
  have z3 : MZ 3 = M 3 := by rw [hMZ]; rfl
  have z9 : MZ 9 0 = (n : Int) + 1 := by rw [hMZ]; show (if 0 = 0 then M 9 0 + 1 else M 9 0) = _; rw [if_pos rfl, h9]
  have z10 : MZ 10 = M 10 := by rw [hMZ]; rfl
  have z11 : MZ 11 = fx_up (M 11) n 0 := by rw [hMZ]; rfl
  have z12 : MZ 12 = fx_up (M 12) n 0 := by rw [hMZ]; rfl
  have z13 : MZ 13 = fx_up (M 13) n 0 := by rw [hMZ]; rfl
  have zq : ∀ q, q ≠ 9 → q ≠ 11 → q ≠ 12 → q ≠ 13 → MZ q = M q := by
    intro q a1 a2 a3 a4
    rw [hMZ, fx_sn a4, fx_sn a3, fx_sn a2, fx_sn a1]
  have SZ : pS MZ 1 := pS_f S z2 z3
  have f1 := ev_follow1 (X := X) (n := n) (a := c) SZ (by rw [z2]; exact hz) h72 (by rw [z2]; exact hP) (by rw [z2, z10]; exact hM10) (by rw [z11]; exact fx_upk _ _ _) (by rw [z12]; exact fx_upk _ _ _) (by rw [z13]; exact fx_upk _ _ _)
  rw [z2, z3] at f1
  obtain ⟨S1, u, m1, t1, w1, M1, k1, k2, k3, k4⟩ := f1
  have f2 := ev_followL (X := X) (x3 := pn c) (M0 := MZ) (a := c) SZ (by rw [z2]; exact hz) h72 (by rw [z2, z10]; exact hM10) 144 S1 c m1 t1 w1 M1 (-1) 0 (by omega) (by rw [z2]; exact zI_sym k2) (by rw [z3]; exact k3) (by omega) (Or.inr rfl)
  rw [z2, z3] at f2
  obtain ⟨S2, b, m2, t2, w2, M2, res, g1, g2, g3, g4, g5⟩ := f2
  have hu4 : u < 144 := (k2.2.2.1 u k2.2.2.2.1).1.1
  have hb4 : b < 144 := (g2.2.2.1 b g2.2.2.2.1).1.1
  have hbP := (g2.2.2.1 b g2.2.2.2.1).1
  obtain ⟨q1, q2, q3, q4, q5, q6, q7⟩ := g3
  have hurg := pn_rg hu4
  -- the way to the end of both
  have way : ∀ (MF : fx_M), Ev X 42 51 [fx_f 9, fx_f 1, .inl (c : Int), .inl (n : Int), .inl (u : Int), .inl (b : Int)] [.inl (pn u), .inl (n : Int), fx_f 16] M2 none MF → Ev X 42 0 [fx_f 9, fx_f 1, .inl (c : Int), fx_u, fx_u, fx_u] [] M none MF := by
    intro MF hk
    refine r42_0 (by rw [h9]; exact ev_isIndex_y (by omega)) (r42_5T (by omega) (by omega) ?_)
    rw [h9]
    refine r42_7 (by omega) (M1 := M1) (z := (u : Int)) ?_ (r42_33 (ev_neighbourOf hc) (r42_39 (r44_0 g1) ?_))
    · rw [en]
      rw [hMZ] at k1
      exact k1
    · rcases g5 with g5 | ⟨g5, -, g6⟩
      · rw [g5]
        exact r42_40T (by omega) (by omega) (r42_46 (ev_neighbourOf hu4) hk)
      · rw [g5]
        subst g6
        exact r42_40F (by omega) (by omega) (r42_44 (ev_neighbourOf hu4) hk)
  have fin : ∀ (x y z : Int), zRes (M 2) c y z x → (∀ k, S2 k ↔ zc (M 2) c k) → cL (M 2) (M 3) (fx_set (fx_set (fx_set M2 16 (fx_up (M2 16) n x)) 14 (fx_up (M2 14) n y)) 15 (fx_up (M2 15) n z)) (c + 1) ∧ ∀ q, q < 9 ∨ 16 < q → (fx_set (fx_set (fx_set M2 16 (fx_up (M2 16) n x)) 14 (fx_up (M2 14) n y)) 15 (fx_up (M2 15) n z)) q = M q := by
    intro x y z hx hS
    refine ⟨cL_add hz hP hno hL hn ?_ ?_ ?_ ?_, ?_⟩
    · show M2 9 0 = _
      rw [q1 9 (by omega) (by omega) (by omega) (by omega), z9]
    · intro k
      show (_ → M2 10 k = _) ∧ (_ → M2 10 k = _)
      rw [← hS k]
      refine ⟨(q2 k).1, fun h => ?_⟩
      rw [(q2 k).2 h, z10]
    · intro i hi
      obtain ⟨a1, a2, a3⟩ := q3 i hi
      show M2 11 i = _ ∧ M2 12 i = _ ∧ M2 13 i = _ ∧ (if i = n then y else M2 14 i) = _ ∧ (if i = n then z else M2 15 i) = _ ∧ (if i = n then x else M2 16 i) = _
      rw [if_neg hi, if_neg hi, if_neg hi, a1, a2, a3, z11, z12, z13, fx_upn _ _ hi, fx_upn _ _ hi, fx_upn _ _ hi, q1 14 (by omega) (by omega) (by omega) (by omega), q1 15 (by omega) (by omega) (by omega) (by omega), q1 16 (by omega) (by omega) (by omega) (by omega), zq 14 (by omega) (by omega) (by omega) (by omega), zq 15 (by omega) (by omega) (by omega) (by omega), zq 16 (by omega) (by omega) (by omega) (by omega)]
      exact ⟨rfl, rfl, rfl, rfl, rfl, rfl⟩
    · show cR (M 2) (M 3) c (M2 11 n) (M2 12 n) (M2 13 n) (if n = n then y else M2 14 n) (if n = n then z else M2 15 n) (if n = n then x else M2 16 n)
      rw [if_pos rfl, if_pos rfl, if_pos rfl]
      refine ⟨m2, t2, w2, q4, q5, q6, ?_, hx⟩
      obtain ⟨v1, v2, v3⟩ := q7
      refine ⟨?_, zps_ext hS v2, zps_ext hS v3⟩
      rw [← zb_ext hS]
      exact v1
    · intro q hq
      rw [fx_sn (by omega), fx_sn (by omega), fx_sn (by omega), q1 q (by omega) (by omega) (by omega) (by omega), zq q (by omega) (by omega) (by omega) (by omega)]
  by_cases hlp : pn u = (c : Int)
  · have hloop := zloop_of hz k2 hlp
    have hbz : zc (M 2) c b := g2.1 b g2.2.2.2.1
    have hpb : pn b = (u : Int) := by
      rcases g4 with g4 | g4
      · exact absurd g4 (hloop b hbz)
      · exact g4
    have hS := zI_loop hz g2 hpb
    obtain ⟨d1, d2⟩ := fin 1 (-6) (-6) (Or.inl ⟨hloop, rfl, rfl, rfl⟩) hS
    refine ⟨_, way _ (r42_51F (by omega) hlp ?_), d1, d2⟩
    have s1 : (fx_set M2 16 (fx_up (M2 16) (n : Int).toNat 1)) 16 (n : Int).toNat = 1 := by rw [fx_sk, fx_upk]
    have s2 : (fx_set (fx_set M2 16 (fx_up (M2 16) (n : Int).toNat 1)) 14 (fx_up ((fx_set M2 16 (fx_up (M2 16) (n : Int).toNat 1)) 14) (n : Int).toNat (-6))) 16 (n : Int).toNat = 1 := by rw [fx_sn (by omega)]; exact s1
    refine r42_53F (by rw [s1]; omega) (by rw [s1]; omega) (r42_65F (by rw [s2]; omega) (by rw [s2]; omega) (Ev.mem ?_ (r42_79 (by omega))))
    rw [en]
    rfl
  · have hou : zopen (M 2) u := by
      rcases k4 with k4 | k4
      · exact k4
      · exact absurd k4 hlp
    have hob : zopen (M 2) b := by
      rcases g4 with g4 | g4
      · exact g4
      · exact absurd hbP (hou b (pn_sym hb4 g4).2.2)
    have hS := zI_open g2 hob hou
    obtain ⟨d1, d2⟩ := fin 0 ((min b u : Nat) : Int) ((max b u : Nat) : Int) (Or.inr ⟨_, _, zends_of g2 hob hou, rfl, rfl, rfl⟩) hS
    refine ⟨_, way _ (r42_51T (by omega) hlp ?_), d1, d2⟩
    have s1 : (fx_set M2 16 (fx_up (M2 16) (n : Int).toNat 0)) 16 (n : Int).toNat = 0 := by rw [fx_sk, fx_upk]
    have s2 : (fx_set (fx_set M2 16 (fx_up (M2 16) (n : Int).toNat 0)) 14 (fx_up ((fx_set M2 16 (fx_up (M2 16) (n : Int).toNat 0)) 14) (n : Int).toNat (if (b : Int) < (u : Int) then (b : Int) else (u : Int)))) 16 (n : Int).toNat = 0 := by rw [fx_sn (by omega)]; exact s1
    refine r42_55T (by rw [s1]; omega) s1 (r42_67T (by rw [s2]; omega) s2 (Ev.mem ?_ (r42_81 (by omega))))
    have e1 : (if (b : Int) < (u : Int) then (b : Int) else (u : Int)) = ((min b u : Nat) : Int) := by split <;> omega
    have e2 : (if (u : Int) < (b : Int) then (b : Int) else (u : Int)) = ((max b u : Nat) : Int) := by split <;> omega
    rw [en, e1, e2]
    rfl
theorem ev_fill10 : Ev X 183 0 [fx_f 10, .inl (-1), fx_u, fx_u] [] M none (fx_set M 10 (fun k => if k < 144 then -1 else M 10 k)) := by
  refine r183_0 (K := 144) rfl (by omega) ?_
  have e0 : M = fx_set M 10 (fun k => if k < 0 then -1 else M 10 k) := by
    have : (fun k => if k < 0 then (-1 : Int) else M 10 k) = M 10 := by funext k; rw [if_neg (by omega)]
    rw [this, fx_self]
  refine Ev.memL e0.symm.symm ?_
  refine Ev.loop 144 (fun c => [fx_f 10, .inl (-1), .inl (c : Int), .inl ((144 : Nat) : Int)]) (fun c => fx_set M 10 (fun k => if k < c then -1 else M 10 k)) (fun c hc k => ?_) (r183_5T (by omega) (by omega) r183_14)
  refine r183_5F (by omega) (by omega) (r183_8 (K := 144) rfl (by omega) (by omega) (Ev.memL ?_ k))
  rw [fx_ss, fx_sk, show (c : Int).toNat = c by omega]
  congr 1
  funext q
  show (if q = c then (-1 : Int) else if q < c then -1 else M 10 q) = if q < c + 1 then -1 else M 10 q
  by_cases h1 : q = c
  · rw [if_pos h1, if_pos (by omega)]
  · rw [if_neg h1]
    by_cases h2 : q < c
    · rw [if_pos h2, if_pos (by omega)]
    · rw [if_neg h2, if_neg (by omega)]
theorem ev_traceL : ∀ (n c : Nat) (M : fx_M), c + n = 144 → pS M 1 → zr (M 2) → cL (M 2) (M 3) M c → ∃ M', Ev X 41 9 [fx_f 9, fx_f 1, .inl (c : Int)] [] M none M' ∧ cL (M 2) (M 3) M' 144 ∧ ∀ q, q < 9 ∨ 16 < q → M' q = M q := by
  intro n
  induction n with
  | zero =>
    intro c M hc S hz hL
    have : c = 144 := by omega
    subst this
    exact ⟨M, r41_9T (by omega) (by omega) r41_28, hL, fun _ _ => rfl⟩
  | succ n ih =>
    intro c M hc S hz hL
    have ec : (c : Int).toNat = c := by omega
    have hskip : (∀ r M', Ev X 41 9 [fx_f 9, fx_f 1, .inl ((c + 1 : Nat) : Int)] [] M r M' → Ev X 41 9 [fx_f 9, fx_f 1, .inl (c : Int)] [] M r M') → (zP (M 2) c → ∃ s, s ∈ zN (M 2) c ∧ zc (M 2) s c) → ∃ M', Ev X 41 9 [fx_f 9, fx_f 1, .inl (c : Int)] [] M none M' ∧ cL (M 2) (M 3) M' 144 ∧ ∀ q, q < 9 ∨ 16 < q → M' q = M q := by
      intro hk hs
      have hL2 : cL (M 2) (M 3) M (c + 1) := by
        unfold cL
        rw [zN_n hs]
        exact hL
      obtain ⟨M', h1, h2, h3⟩ := ih (c + 1) M (by omega) S hz hL2
      exact ⟨M', hk _ _ h1, h2, h3⟩
    by_cases hp : ph M 1 c = true
    · have hP := (ph_P (M := M) (k := c) (by omega)).mp hp
      by_cases hm : M 10 c = -1
      · have hno : ∀ s, s ∈ zN (M 2) c → ¬ zc (M 2) s c := by
          intro s hs hz'
          obtain ⟨i, hi, -⟩ := li_mem hs
          have := (hL.2.1 c (by omega)).1 i s hi hz'
          omega
        obtain ⟨M1, a1, a2, a3⟩ := ev_addLine (X := X) S hz (by omega) hP hno hL
        have e2 := a3 2 (by omega)
        have e3 := a3 3 (by omega)
        obtain ⟨M', h1, h2, h3⟩ := ih (c + 1) M1 (by omega) (pS_f S e2 e3) (by rw [e2]; exact hz) (by rw [e2, e3]; exact a2)
        refine ⟨M', ?_, by rw [e2, e3] at h2; exact h2, fun q hq => by rw [h3 q hq, a3 q hq]⟩
        refine r41_9F (by omega) (by omega) (r41_12 S.1 (ev_hasN S (by omega)) ?_)
        rw [if_pos hp]
        exact r41_15F (by omega) (by omega) (r41_16F (by rw [ec, hm]; omega) (by rw [ec, hm]) (r41_22 a1 (r41_26 h1)))
      · have hs : ∃ s, s ∈ zN (M 2) c ∧ zc (M 2) s c := by
          apply Classical.byContradiction
          intro hno
          exact hm ((hL.2.1 c (by omega)).2 fun s h1 h2 => hno ⟨s, h1, h2⟩)
        refine hskip (fun r M' h1 => ?_) (fun _ => hs)
        obtain ⟨s, s1, s2⟩ := hs
        obtain ⟨i, hi, hil⟩ := li_mem s1
        have e10 := (hL.2.1 c (by omega)).1 i s hi s2
        have hle := pb_c_le (zb (zU (zN (M 2) c) (M 2))) 144
        have hlen := hL.2.2.2
        refine r41_9F (by omega) (by omega) (r41_12 S.1 (ev_hasN S (by omega)) ?_)
        rw [if_pos hp]
        exact r41_15F (by omega) (by omega) (r41_16T (by rw [ec, e10]; omega) (by rw [ec, e10]; omega) (r41_26 h1))
    · refine hskip (fun r M' h1 => ?_) (fun h => absurd ((ph_P (by omega)).mpr h) hp)
      refine r41_9F (by omega) (by omega) (r41_12 S.1 (ev_hasN S (by omega)) ?_)
      rw [if_neg hp]
      exact r41_15T (by omega) rfl (r41_26 h1)
theorem ev_trace (S : pS M 1) (hz : zr (M 2)) : ∃ M', Ev X 41 0 [fx_f 9, fx_f 1, fx_u] [] M none M' ∧ cL (M 2) (M 3) M' 144 ∧ ∀ q, q < 9 ∨ 16 < q → M' q = M q := by
  obtain ⟨M1, hM1⟩ : ∃ M1 : fx_M, M1 = fx_set (fx_set M 9 (fx_up (M 9) 0 0)) 10 (fun k => if k < 144 then -1 else M 10 k) := ⟨_, rfl⟩
  have e2 : M1 2 = M 2 := by rw [hM1]; rfl
  have e3 : M1 3 = M 3 := by rw [hM1]; rfl
  have hL : cL (M1 2) (M1 3) M1 0 := by
    refine ⟨?_, fun k hk => ⟨fun i s hi => (by cases hi), fun _ => ?_⟩, fun i s hi => (by cases hi), Nat.zero_le _⟩
    · rw [hM1]
      show (if 0 = 0 then (0 : Int) else M 9 0) = 0
      rw [if_pos rfl]
    · rw [hM1]
      show (if k < 144 then (-1 : Int) else M 10 k) = -1
      rw [if_pos hk]
  obtain ⟨M', h1, h2, h3⟩ := ev_traceL (X := X) 144 0 M1 (by omega) (pS_f S e2 e3) (by rw [e2]; exact hz) hL
  refine ⟨M', r41_0 (M1 := M1) ?_ (r41_7 h1), by rw [e2, e3] at h2; exact h2, fun q hq => ?_⟩
  · rw [hM1]
    exact ev_fill10
  · rw [h3 q hq, hM1, fx_sn (by omega), fx_sn (by omega)]
end LNT
