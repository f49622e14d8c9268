/-! calls: a run of the small machine is a run of the real one, and gives each method's contract -/
def fx_rt (t : Nat) : Option FieldType := match t with
  | 1 => some .int
  | 2 => some .boolean
  | 3 => some .char
  | 4 => some (.object "FoldedStrips$Strip")
  | _ => none
def fx_end (b : ByteArray) (pc t : Nat) (r : Option fx_V) : Prop := match r with
  | none => decode b pc = .ok (.return_, 1) ∧ t = 0
  | some (.inl x) => decode b pc = .ok (.ireturn, 1) ∧ (t = 1 ∨ (t = 2 ∧ (x = 0 ∨ x = 1)) ∨ (t = 3 ∧ 0 ≤ x ∧ x < 65536))
  | some (.inr (.inr (some _))) => decode b pc = .ok (.areturn, 1) ∧ t = 4
  | _ => False
/-- the links to private members of a nest mate: they are handed down from call to call -/
abbrev fx_N : Type := List (String × Nat × MethodName × String)
def fx_NW (NW : fx_N) (U : State) : Prop := ∀ q ∈ NW, va_Nw (.methodLinkNest q.1 q.2.1 q.2.2.1 q.2.2.2) U
theorem fx_NW.warm {NW : fx_N} {s U : State} (hW : s.WarmedH U.vm) (h : fx_NW NW s) : fx_NW NW U := fun q hq => va_Nw.warmM hW (h q hq)
theorem fx_NW.same {NW : fx_N} {u U : State} (hv : u.vm = U.vm) (h : fx_NW NW u) : fx_NW NW U := fun q hq => va_Nw.same rfl hv (h q hq)
def fx_PW (NW : fx_N) (D : va_G) (cl : List vw_C) (tys : List (ClassId × FieldType)) (ad : Nat → Nat) (cA : Nat → ClassId) (SH : List fx_S) (Lx : Nat) (MX : Nat → Int) (M : fx_M) (U : State) : Prop :=
  va_P D cl (fx_wl ad cA SH M) U.heap ∧ va_K D cl tys U ∧ va_D (fx_A ad SH.length) (fx_wl ad cA SH M) ∧ fx_X ad SH Lx MX (fx_A ad SH.length) U ∧ fx_NW NW U
def fx_Q (D : va_G) (cl : List vw_C) (ad : Nat → Nat) (cA : Nat → ClassId) (SH : List fx_S) (r : Option fx_V) (M' : fx_M) : Array Value → State → Outcome → State → Prop := fun _ st oc t =>
  oc = .returned (r.map (fx_g ad)) ∧ va_P D cl (fx_wl ad cA SH M') t.heap ∧ va_F (fx_A ad SH.length) st t
def fx_ws (TG : List Jvm.Cond) (G : fx_G) (yM : Nat → MethodName) (bM : Nat → ByteArray) (k : Nat) : List Jvm.Cond := Jvm.Cond.code (yM k) (bM k) (G k).2.1 (fx_rt (G k).2.2.1) :: TG
def fx_rm (RO : Nat → Nat × Nat) (k : Nat) : Room := { frames := (RO k).1, cells := 0, slots := 0, locals := (RO k).2 }
/-- what is known of a method that is called -/
def fx_MF (TG : List Jvm.Cond) (cl : List vw_C) (G : fx_G) (yM : Nat → MethodName) (bM : Nat → ByteArray) (PC : Nat → List Nat) (k : Nat) : Prop :=
  plainName (yM k).cls = true ∧ (PC k).getD 0 0 = 0 ∧ Jvm.Cond.code (yM k) (bM k) (G k).2.1 (fx_rt (G k).2.2.1) ∈ TG ∧ Jvm.Cond.initialized (yM k).cls ∈ TG ∧ ((yM k).cls ≠ "java/lang/invoke/MethodHandle" ∧ (yM k).cls ≠ "java/lang/invoke/VarHandle") ∧
  (match (G k).2.2.2 with
    | some ci => (parseMethodDescriptor (yM k).desc).map (fun d => d.parameters.length) = some ((G k).1 - 1) ∧ Jvm.Cond.instanceMethod (yM k) ∈ TG ∧ Jvm.Cond.selects (yM k).cls (yM k) (yM k) ∈ TG ∧ ∃ T N, cl[ci]? = some ((yM k).cls, T, N)
    | none => (parseMethodDescriptor (yM k).desc).map (fun d => d.parameters.length) = some (G k).1 ∧ Jvm.Cond.static (yM k) ∈ TG)
/-- the program's data and the tables' words -/
def fx_PO (NW : fx_N) (TG : List Jvm.Cond) (cl : List vw_C) (C : Nat → List Instr) (G : fx_G) (yM : Nat → MethodName) (bM : Nat → ByteArray) (PC : Nat → List Nat) (RO : Nat → Nat × Nat) (CT CL : Nat → List (Nat × Int)) (FT PT : Nat → List (Nat × Nat × Nat)) (LT : Nat → List (Nat × Nat)) : Prop :=
  (∀ w ∈ TG, goodWord w = true) ∧ fx_Cl TG cl ∧
  (∀ (j i : Nat) (mm : Instr), (C j)[i]? = some mm → fx_Tab (yM j).cls TG cl (CT j) (CL j) (FT j) (PT j) (LT j) ∧ ∃ (o : Instr) (len : Nat), decode (bM j) ((PC j).getD i 0) = .ok (o, len) ∧ (PC j).getD (i + 1) 0 = (PC j).getD i 0 + len ∧
    fx_nrm (CT j) (CL j) (FT j) (PT j) (LT j) (PC j) G RO (RO j).1 (RO j).2 ((PC j).getD i 0) len mm o = true) ∧
  (∀ (j idx k : Nat), (idx, k) ∈ LT j → k < 1000000 → fx_MF TG cl G yM bM PC k ∧ (Jvm.Cond.methodLink (yM j).cls idx (yM k) ∈ TG ∨ ((G k).2.2.2 = none ∧ ∃ host, ((yM j).cls, idx, yM k, host) ∈ NW)))
theorem fx_goodIn {TG ws : List Jvm.Cond} (hg : ∀ w ∈ TG, goodWord w = true) (h : ∀ w ∈ ws, w ∈ TG) : GoodIn TG ws := fun w hw => ⟨h w hw, good_of_word (hg w (h w hw))⟩
theorem fx_fl_g {ad : Nat → Nat} (vs : List fx_V) : (lg_sl (vs.map (fx_g ad))).length = (fx_fl vs).length := by
  induction vs with
  | nil => rfl
  | cons v t ih =>
    have h1 : lg_sl ((v :: t).map (fx_g ad)) = (if (fx_g ad v).category = 2 then [Slot.val (fx_g ad v), .second] else [.val (fx_g ad v)]) ++ lg_sl (t.map (fx_g ad)) := rfl
    have h2 : fx_fl (v :: t) = fx_f1 v ++ fx_fl t := rfl
    rw [h1, h2, List.length_append, List.length_append, ih, fx_ct_g]
    rcases v with x | x | x <;> simp [fx_ct, fx_f1]
theorem fx_ini_len {n : Nat} {vs : List fx_V} (h : (fx_fl vs).length ≤ n) : (fx_ini n vs).length = n := by
  simp only [fx_ini, List.length_append, List.length_replicate]
  omega
theorem fx_fl_args {ad : Nat → Nat} : ∀ (vs : List fx_V) (o i : Nat) (v : fx_V) (w : Value), (fx_fl vs)[i]? = some v → fx_gl ad v = some w → (o + i, w) ∈ lv_args o (vs.map (fx_g ad))
  | [], o, i, v, w, h, _ => by simp [fx_fl] at h
  | u :: t, o, i, v, w, h, hg => by
    have h2 : fx_fl (u :: t) = fx_f1 u ++ fx_fl t := rfl
    have h3 : lv_args o ((u :: t).map (fx_g ad)) = (o, fx_g ad u) :: lv_args (if (fx_g ad u).category = 2 then o + 2 else o + 1) (t.map (fx_g ad)) := rfl
    rw [h2] at h
    rw [h3, fx_ct_g]
    by_cases hc : fx_ct u = 2
    · rcases u with x | x | x
      · simp [fx_ct] at hc
      · rw [if_pos hc]
        simp only [fx_f1] at h
        match i, h with
        | 0, h =>
          simp only [List.cons_append, List.getElem?_cons_zero, Option.some.injEq] at h
          subst h
          rw [fx_gl_some hg]
          exact List.mem_cons_self
        | 1, h =>
          simp only [List.cons_append, List.nil_append, List.getElem?_cons_succ, List.getElem?_cons_zero, Option.some.injEq] at h
          subst h
          simp [fx_gl] at hg
        | i + 2, h =>
          simp only [List.cons_append, List.nil_append, List.getElem?_cons_succ] at h
          have := fx_fl_args t (o + 2) i v w h hg
          rw [show o + (i + 2) = o + 2 + i by omega]
          exact List.mem_cons_of_mem _ this
      · simp [fx_ct] at hc
    · rw [if_neg hc]
      have h4 : (u :: fx_fl t)[i]? = some v := by
        rcases u with x | x | x
        · exact h
        · exact absurd rfl hc
        · exact h
      match i, h4 with
      | 0, h4 =>
        simp only [List.getElem?_cons_zero, Option.some.injEq] at h4
        subst h4
        rw [fx_gl_some hg]
        exact List.mem_cons_self
      | i + 1, h4 =>
        simp only [List.getElem?_cons_succ] at h4
        have := fx_fl_args t (o + 1) i v w h4 hg
        rw [show o + (i + 1) = o + 1 + i by omega]
        exact List.mem_cons_of_mem _ this
theorem fx_ini_prs {ad : Nat → Nat} {n : Nat} {vs : List fx_V} : ∀ q ∈ fx_prs ad (fx_ini n vs), q ∈ lv_args 0 (vs.map (fx_g ad)) := by
  intro q hq
  obtain ⟨v, hv, hg⟩ := fx_prs_mem.mp hq
  unfold fx_ini at hv
  by_cases hl : q.1 < (fx_fl vs).length
  · rw [List.getElem?_append_left hl] at hv
    have := fx_fl_args vs 0 q.1 v q.2 hv hg
    rwa [Nat.zero_add] at this
  · rw [List.getElem?_append_right (by omega)] at hv
    have hv2 := List.mem_of_getElem? hv
    rw [List.mem_replicate] at hv2
    rw [hv2.2] at hg
    simp [fx_gl] at hg
section FXC
variable {p : Program} {l : Launch} {e : Env} {R : Room} {s : State} {m : MethodId} {args : Array Value} {below : List Frame} {meth : Method} {c : Code} {H : Heap} {locs : List Loc} {cells slots : Nat} {Q : State → Prop}
variable {D : va_G} {cl : List vw_C} {tys : List (ClassId × FieldType)} {ad : Nat → Nat} {cA : Nat → ClassId} {SH : List fx_S} {Lx : Nat} {MX : Nat → Int} {A : Nat → Prop}
variable {NW : fx_N} {TG : List Jvm.Cond} {C : Nat → List Instr} {G : fx_G} {yM : Nat → MethodName} {bM : Nat → ByteArray} {PC : Nat → List Nat} {RO : Nat → Nat × Nat} {CT CL : Nat → List (Nat × Int)} {FT PT : Nat → List (Nat × Nat × Nat)} {LT : Nat → List (Nat × Nat)}
/-- behind a call -/
theorem fx_cont {pc : Nat} {L : Array Slot} {st0 rest : List Value} {M M' : fx_M} {r : Option fx_V} {a : Array Value} (hr : va_Run p l e R s m args below meth c H locs cells slots 0 0 (F0 m pc L st0) rest (fx_Q D cl ad cA SH r M' a) (fx_A ad SH.length)) (hW : fx_Wd D cl ad cA SH s.heap A M H locs)
    (kk : ∀ (H1 : Heap) (locs1 : List Loc), fx_Wd D cl ad cA SH s.heap A M' H1 locs1 → W p l e R s m args below meth c H1 locs1 cells slots Q (F0 m (pc + 3) L ((r.map (fx_g ad)).toList ++ rest))) : W p l e R s m args below meth c H locs cells slots Q (F0 m pc L st0) := by
  intro T hT X
  obtain ⟨v, st₀, t, T', Lc, h0, X', hL, e1, e2, ⟨hv, hp, hz, hk⟩, st⟩ := hr T hT X
  cases hv
  obtain ⟨hP, hD, hS⟩ := hW
  have hAA : ∀ q, fx_A ad SH.length q → A q := fun q h => fx_A_of hD h
  rw [h0] at hz hk
  have hS1 : va_S A s.heap T'.heap (locs ++ Lc) := by
    refine ⟨Nat.le_trans hS.1 (by rw [e1]; exact hz), fun q h1 h2 => ?_, fun q hq => ?_⟩
    · rw [e1, hk q (Nat.lt_of_lt_of_le h1 hS.1) (fun z => h2 (hAA q z))]
      exact hS.2.1 q h1 h2
    · rcases List.mem_append.mp hq with h | h
      · exact hS.2.2 q h
      · exact hAA _ (hL q h)
  obtain ⟨t2, a1, b1⟩ := kk T'.heap (locs ++ Lc) ⟨by rw [e1]; exact hp, fx_D_any hD, hS1⟩ T' rfl X'
  exact ⟨t2, st t2 a1, b1⟩
theorem fx_X_moved {u U : State} (hvm : u.vm.Alike U.vm) (hh : U.heap = u.heap) (h : fx_X ad SH Lx MX A u) : fx_X ad SH Lx MX A U := by
  intro h0
  obtain ⟨h1, h2, h3, h4⟩ := h h0
  exact ⟨h1, by rw [hh]; exact va_X.moved hvm h2, by rw [hh]; exact h3, h4⟩
/-- the script lies where it lay -/
theorem fx_X_at {U : State} (hvm : s.vm.Alike U.vm) (hU : U.heap = H) (hS : va_S A s.heap H locs) (hAA : ∀ q, fx_A ad SH.length q → A q) (h : fx_X ad SH Lx MX A s) : fx_X ad SH Lx MX (fx_A ad SH.length) U := by
  intro h0
  obtain ⟨h1, h2, h3, h4⟩ := h h0
  exact ⟨h1, by rw [hU]; exact va_X.moved hvm (h2.kept (hS.2.1 _ h3 h4)), by rw [hU]; exact Nat.lt_of_lt_of_le h3 hS.1, fun z => h4 (hAA _ z)⟩
theorem fx_blind {vs : List Value} {M : fx_M} : FrameBlind (va_Pc vs (fx_PW NW D cl tys ad cA SH Lx MX M)) := by
  intro a U g mk h
  obtain ⟨h1, h2, h3, h4, h5, h6⟩ := h
  exact ⟨h1, h2, va_K.moved (u := U) (U := U.calling g mk a) (Vm.Alike.refl U.vm) h3, h4, fx_X_moved (u := U) (U := U.calling g mk a) (Vm.Alike.refl U.vm) rfl h5, fx_NW.same (u := U) (U := U.calling g mk a) rfl h6⟩
theorem fx_pre {vs : List Value} {M : fx_M} (hK : va_K D cl tys s) (hW : fx_Wd D cl ad cA SH s.heap A M H locs) (hX : fx_X ad SH Lx MX A s) (hN : fx_NW NW s) : ∀ U : State, U.heap = H → s.WarmedH U.vm → va_Pc vs (fx_PW NW D cl tys ad cA SH Lx MX M) vs.toArray U := by
  intro U hU hw
  obtain ⟨hP, hD, hS⟩ := hW
  exact ⟨rfl, by rw [hU]; exact hP, va_K.moved hw.alike hK, fx_D_self hD, fx_X_at hw.alike hU hS (fun q h => fx_A_of hD h) hX, hN.warm hw⟩
theorem fx_end_of {b : ByteArray} {pc t : Nat} {st : List fx_V} {M M' : fx_M} {r : Option fx_V} (hd : decode b pc = .ok (.ireturn, 1)) (h : fx_ret t st M = some (r, M')) : fx_end b pc t r ∧ M' = M ∧ st = r.toList := by
  unfold fx_ret at h
  split at h
  next x =>
    split at h
    next hc => cases h; exact ⟨⟨hd, hc⟩, rfl, rfl⟩
    next => cases h
  next => cases h
def fx_SIM (NW : fx_N) (D : va_G) (cl : List vw_C) (tys : List (ClassId × FieldType)) (cA : Nat → ClassId) (ad : Nat → Nat) (SH : List fx_S) (Lx : Nat) (MX : Nat → Int) (TG : List Jvm.Cond) (C : Nat → List Instr) (G : fx_G) (yM : Nat → MethodName) (bM : Nat → ByteArray) (PC : Nat → List Nat) (RO : Nat → Nat × Nat) (l : Launch) (n : Nat) : Prop :=
  ∀ (j i : Nat) (ls st : List fx_V) (M : fx_M) (r : Option fx_V) (M' : fx_M), fx_ex C G SH Lx MX n j i ls st M = some (r, M') →
  ∀ {p : Program} {e : Env} {R : Room} {s : State} {m : MethodId} {args : Array Value} {below : List Frame} {meth : Method} {c : Code} {H : Heap} {locs : List Loc} {cells slots : Nat} {Q : State → Prop} {A : Nat → Prop} {L : Array Slot},
  p.tables.exec = Jvm.exec → c.code = bM j → c.maxLocals = ls.length → s.vm.findClass (yM j).cls = some m.cls → (∀ w ∈ TG, w.before args s = true) → (RO j).1 ≤ R.frames → (RO j).2 ≤ R.locals → (cells ≤ R.cells ∧ slots ≤ R.slots) → va_K D cl tys s → fx_Wd D cl ad cA SH s.heap A M H locs → fx_X ad SH Lx MX A s → fx_NW NW s → lv_has L ls.length (fx_prs ad ls) →
  (∀ (H' : Heap) (locs' : List Loc) (L' : Array Slot) (pc' : Nat), fx_Wd D cl ad cA SH s.heap A M' H' locs' → fx_end (bM j) pc' (G j).2.2.1 r → W p l e R s m args below meth c H' locs' cells slots Q (F0 m pc' L' (r.toList.map (fx_g ad)))) →
  W p l e R s m args below meth c H locs cells slots Q (F0 m ((PC j).getD i 0) L (st.map (fx_g ad)))
set_option maxHeartbeats 4000000 in
theorem fx_con {n k : Nat} {vs : List fx_V} {M M' : fx_M} {r : Option fx_V} (hn : fx_SIM NW D cl tys cA ad SH Lx MX TG C G yM bM PC RO l n) (hk : fx_MF TG cl G yM bM PC k) (hlen : (fx_fl vs).length ≤ (G k).2.1) (h : fx_ex C G SH Lx MX n k 0 (fx_ini (G k).2.1 vs) [] M = some (r, M')) :
    Met l (yM k) (fx_ws TG G yM bM k) (fx_rm RO k) (va_Pc (vs.map (fx_g ad)) (fx_PW NW D cl tys ad cA SH Lx MX M)) (fx_Q D cl ad cA SH r M') 0 0 (fx_A ad SH.length) := by
  refine Met.ofW (cc := bM k) (maxL := (G k).2.1) (ret := fx_rt (G k).2.2.1) hk.1 rfl ?_
  intro p e s m args below meth c s₁ B hml hv
  obtain ⟨rfl, hP, hK, hD, hX, hN⟩ := hv
  have hx := B.exec
  have hb := B.bytes
  have hr := B.returns
  have hts0 := atoms_spec (ws := fx_ws TG G yM bM k) B.pre
  have hts : ∀ w ∈ TG, w.before (vs.map (fx_g ad)).toArray s = true := fun w hw => hts0 w (List.mem_cons_of_mem _ hw)
  have hown : s.vm.findClass (yM k).cls = some m.cls := findClass_of_methodNamed B.named
  have hlocks := B.notSynchronized
  have hl := lv_entry (vs.map (fx_g ad)) (n := (G k).2.1) (by rw [fx_fl_g]; exact hlen)
  rw [lg_entry_eq]
  generalize (lg_sl (vs.map (fx_g ad)) ++ List.replicate ((G k).2.1 - (lg_sl (vs.map (fx_g ad))).length) Slot.unset).toArray = L at hl ⊢
  have hil := fx_ini_len hlen
  have hl' : lv_has L (fx_ini (G k).2.1 vs).length (fx_prs ad (fx_ini (G k).2.1 vs)) := by
    rw [hil]
    exact fx_lh_sub hl fx_ini_prs
  have key := hn k 0 _ _ M r M' h (p := p) (e := e) (R := (headSpec (fx_ws TG G yM bM k) (fx_rm RO k)).room) (s := s) (m := m) (args := (vs.map (fx_g ad)).toArray) (below := below) (meth := meth) (c := c) (H := s.heap) (locs := []) (cells := 0) (slots := 0)
    (Q := MQ below (fx_Q D cl ad cA SH r M') (vs.map (fx_g ad)).toArray s 0 0 (fx_A ad SH.length)) (A := fx_A ad SH.length) (L := L) hx hb (hml.trans hil.symm) hown hts (Nat.le_refl _) (Nat.le_refl _) ⟨Nat.zero_le _, Nat.zero_le _⟩ hK ⟨hP, hD, va_S.rf⟩ hX hN hl' ?_
  · rw [hk.2.1] at key
    exact key
  · intro H' locs' L' pc' hW' he
    have hq : ∀ (v : Option Value), v = r.map (fx_g ad) → ∀ t : State, t.heap = H' → s.WarmedH t.vm → fx_Q D cl ad cA SH r M' (vs.map (fx_g ad)).toArray s (.returned v) t := fun v hv t ht hw => ⟨by rw [hv], by rw [ht]; exact hW'.1, hW'.2.2.F ht⟩
    rcases r with _ | x | x | _ | x
    · obtain ⟨hd, ht⟩ := he
      rw [ht] at hr
      exact W.vret hx hb hr (hq _ rfl) hW'.2.2.2.2 hd
    · obtain ⟨hd, ht⟩ := he
      rcases ht with ht | ⟨ht, hv⟩ | ⟨ht, h0, h1⟩
      · rw [ht] at hr
        exact W.iret hx hb hr (hq _ rfl) hW'.2.2.2.2 hd
      · rw [ht] at hr
        exact W.zret hx hb hr (by rcases hv with rfl | rfl <;> decide) (hq _ rfl) hW'.2.2.2.2 hd
      · rw [ht] at hr
        exact W.zret hx hb hr (by rw [fx_char h0 h1]; exact (pk_charN (by omega)).1) (hq _ rfl) hW'.2.2.2.2 hd
    · exact he.elim
    · exact he.elim
    · obtain ⟨hd, ht⟩ := he
      rw [ht] at hr
      exact W.aret hx hb hr (Or.inl ⟨_, rfl⟩) (Or.inr ⟨_, rfl⟩) (hq _ rfl) hW'.2.2.2.2 hd
theorem fx_rcv_some {ci : Nat} {vs : List fx_V} (h : fx_rcv SH (some ci) vs = true) : ∃ kr As fs, vs = .inr (.inr (some kr)) :: As ∧ SH[kr]? = some (.inr (.inl (ci, fs))) := by
  unfold fx_rcv at h
  split at h
  next h0 => cases h0
  next ci' h0 =>
    cases h0
    split at h
    next kr As =>
      split at h
      next cj fs hs =>
        rw [of_decide_eq_true h] at hs
        exact ⟨kr, As, fs, rfl, hs⟩
      next => cases h
    next => cases h
set_option maxHeartbeats 8000000 in
theorem fx_sim (hPO : fx_PO NW TG cl C G yM bM PC RO CT CL FT PT LT) {OC : String} (hty : fx_Ty tys cA OC) (l : Launch) : ∀ n, fx_SIM NW D cl tys cA ad SH Lx MX TG C G yM bM PC RO l n := by
  obtain ⟨hgood, hCl, hI, hLk⟩ := hPO
  intro n
  induction n with
  | zero => intro j i ls st M r M' h; cases h
  | succ n ih =>
    intro j i ls st M r M' h p e R s m args below meth c H locs cells slots Q A L hx hb hml hown hts hrf hrl hcs hK hW hX hN hl fin
    unfold fx_ex at h
    cases hmm : (C j)[i]? with
    | none => rw [hmm] at h; cases h
    | some mm =>
      rw [hmm] at h
      obtain ⟨hTab, o, len, hd, hpc1, hn⟩ := hI j i mm hmm
      have step : ∀ (i' : Nat) (ls' st' : List fx_V) (M1 : fx_M), fx_step SH Lx MX mm i ls st M = some (i', ls', st', M1) → fx_ex C G SH Lx MX n j i' ls' st' M1 = some (r, M') → W p l e R s m args below meth c H locs cells slots Q (F0 m ((PC j).getD i 0) L (st.map (fx_g ad))) := by
        intro i' ls' st' M1 hs hr
        refine fx_step_W hx hb hml hown hts hTab hCl hty hrf hrl hcs hK hW hX hl rfl hd hn hpc1 hs (fun H' locs' L' hW' hl' hlen' => ?_)
        exact ih j i' ls' st' M1 r M' hr hx hb (hml.trans hlen'.symm) hown hts hrf hrl hcs hK hW' hX hN (by rw [hlen']; exact hl') fin
      split at h
      next heq =>
        cases heq
        simp only [fx_nrm, decide_eq_true_eq] at hn
        obtain ⟨rfl, rfl⟩ := hn
        obtain ⟨he, rfl, rfl⟩ := fx_end_of hd h
        exact fin H locs L _ hW he
      next heq =>
        cases heq
        simp only [fx_nrm, decide_eq_true_eq] at hn
        obtain ⟨rfl, rfl⟩ := hn
        split at h
        next =>
          split at h
          next ht => cases h; exact fin H locs L _ hW ⟨hd, ht⟩
          next => cases h
        next => cases h
      next heq =>
        cases heq
        simp only [fx_nrm, decide_eq_true_eq] at hn
        obtain ⟨rfl, rfl⟩ := hn
        split at h
        next =>
          split at h
          next ht => cases h; exact fin H locs L _ hW ⟨hd, ht⟩
          next => cases h
        next => cases h
      next k heq =>
        cases heq
        split at h
        next hc =>
          obtain ⟨hc1, hc2, hc3⟩ := hc
          split at h
          next r1 M1 hex =>
            simp only [fx_nrm] at hn
            split at hn
            next x =>
              simp only [decide_eq_true_eq] at hn
              obtain ⟨rfl, hk6, hxk, hrec, hfr, hlo⟩ := hn
              obtain ⟨hMF, hlink⟩ := hLk _ _ _ hxk hk6
              have hcon := fx_con (l := l) ih hMF hc3 hex
              obtain ⟨f1, f2, f3, f4, f5, f6⟩ := hMF
              rw [hrec] at f6
              obtain ⟨f7, f8⟩ := f6
              have hst : st.map (fx_g ad) = ((st.take (G k).1).reverse.map (fx_g ad)).reverse ++ (st.drop (G k).1).map (fx_g ad) := by
                rw [← List.map_reverse, List.reverse_reverse, ← List.map_append, List.take_append_drop]
              have hrun : va_Run p l e R s m args below meth c H locs cells slots 0 0 (F0 m ((PC j).getD i 0) L (st.map (fx_g ad))) ((st.drop (G k).1).map (fx_g ad)) (fx_Q D cl ad cA SH r1 M1 ((st.take (G k).1).reverse.map (fx_g ad)).toArray) (fx_A ad SH.length) := by
                rcases hlink with hlink | ⟨-, host, hlink⟩
                · exact va_runS (Ts := TG) ⟨hx, hb, hml, hown, hts⟩ hcon (va_cwS (G k).1 hts (fx_goodIn hgood (by intro w hw; simp only [va_wsS, fx_ws, List.cons_append, List.nil_append, List.mem_cons] at hw; rcases hw with rfl | rfl | rfl | rfl | hw <;> assumption)) rfl rfl rfl ⟨f5.1, f5.2, f7⟩ ⟨Nat.le_trans hfr hrf, Nat.le_trans hlo hrl⟩) ⟨fx_blind, fx_pre hK hW hX hN⟩ rfl (by simp; omega) hl.1 hst (lv_room (by rw [fx_cs_g]; exact hc2)) hd hcs
                · exact va_runSN (Ts := TG) ⟨hx, hb, hml, hown, hts⟩ hcon ⟨va_cnB (G k).1 hts (fx_goodIn hgood (by intro w hw; simp only [fx_ws, List.mem_cons] at hw; rcases hw with rfl | hw <;> assumption)) rfl rfl rfl (hN _ hlink) (hts _ f4) ⟨f5.1, f5.2, f7⟩ ⟨Nat.le_trans hfr hrf, Nat.le_trans hlo hrl⟩, hts _ f8, trivial⟩ ⟨fx_blind, fx_pre hK hW hX hN⟩ rfl (by simp; omega) hl.1 hst (lv_room (by rw [fx_cs_g]; exact hc2)) hd hcs
              refine fx_cont hrun hW (fun H1 locs1 hW1 => ?_)
              have K := ih j (i + 1) ls _ M1 r M' h hx hb hml hown hts hrf hrl hcs hK hW1 hX hN hl fin
              rw [hpc1, List.map_append] at K
              rcases r1 with _ | v <;> exact K
            next => cases hn
          next => cases h
        next => cases h
      next k heq =>
        cases heq
        split at h
        next hc =>
          obtain ⟨hc1, hc2, hc3, hc4⟩ := hc
          split at h
          next r1 M1 hex =>
            simp only [fx_nrm] at hn
            split at hn
            next x =>
              simp only [decide_eq_true_eq] at hn
              obtain ⟨rfl, hk6, hxk, hrec, hn1, hfr, hlo⟩ := hn
              obtain ⟨hMF, hlink⟩ := hLk _ _ _ hxk hk6
              have hcon := fx_con (l := l) ih hMF hc3 hex
              obtain ⟨f1, f2, f3, f4, f5, f6⟩ := hMF
              obtain ⟨ci, hci⟩ := Option.isSome_iff_exists.mp hrec
              rw [hci] at hc4 f6
              have hst : st.map (fx_g ad) = ((st.take (G k).1).reverse.map (fx_g ad)).reverse ++ (st.drop (G k).1).map (fx_g ad) := by
                rw [← List.map_reverse, List.reverse_reverse, ← List.map_append, List.take_append_drop]
              have hvl : (st.take (G k).1).reverse.length = (G k).1 := by simp; omega
              generalize (st.take (G k).1).reverse = vs at hc3 hc4 hex hcon hst hvl
              obtain ⟨kr, As, fs, rfl, hSHk⟩ := fx_rcv_some hc4
              obtain ⟨f7, f8, f9, T0, N0, hcl0⟩ := f6
              rcases hlink with hlink | ⟨hno, -⟩
              · have hst2 : st.map (fx_g ad) = (As.map (fx_g ad)).reverse ++ .ref (ad kr) :: (st.drop (G k).1).map (fx_g ad) := by
                  rw [hst]
                  simp [fx_g]
                have hrun : va_Run p l e R s m args below meth c H locs cells slots 0 0 (F0 m ((PC j).getD i 0) L (st.map (fx_g ad))) ((st.drop (G k).1).map (fx_g ad)) (fx_Q D cl ad cA SH r1 M1 (Value.ref (ad kr) :: As.map (fx_g ad)).toArray) (fx_A ad SH.length) := by
                  refine va_runV (Ts := TG) (b := ad kr) ⟨hx, hb, hml, hown, hts⟩ hcon (cwV ((G k).1 - 1) hts (fx_goodIn hgood (by intro w hw; simp only [wsV, fx_ws, List.cons_append, List.nil_append, List.mem_cons] at hw; rcases hw with rfl | rfl | rfl | rfl | rfl | hw <;> assumption)) rfl rfl rfl ⟨rfl, f5.1, f5.2, f7⟩ ⟨Nat.le_trans hfr hrf, Nat.le_trans hlo hrl⟩) ⟨fx_blind, ?_, fx_pre hK hW hX hN⟩ rfl ?_ hl.1 hst2 (lv_room (by rw [fx_cs_g]; exact hc2)) hd hcs
                  · exact va_recv (q0 := kr) hK hW.1 hcl0 (fx_wl_get hSHk)
                  · simp only [List.length_map]
                    simp only [List.length_cons] at hvl
                    omega
                refine fx_cont hrun hW (fun H1 locs1 hW1 => ?_)
                have K := ih j (i + 1) ls _ M1 r M' h hx hb hml hown hts hrf hrl hcs hK hW1 hX hN hl fin
                rw [hpc1, List.map_append] at K
                rcases r1 with _ | v <;> exact K
              · rw [hci] at hno
                cases hno
            next => cases hn
          next => cases h
        next => cases h
      next _ _ _ _ _ _ heq =>
        cases heq
        split at h
        next i' ls' st' M1 hs => exact step i' ls' st' M1 hs h
        next => cases h
      next heq => cases heq
end FXC
