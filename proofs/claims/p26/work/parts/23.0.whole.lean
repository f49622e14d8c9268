/-! THE CLAIM OUT OF ONE WALK OF THE LAW'S BODY. Your part is whole_start (and what it stands on); all else here is the same for every law, but numbers. -/
def R_law : String := "FoldedStripsLaw"
def lw_P (b : Addr) (xs : List Int32) (args : Array Value) (s : State) : Prop := args = #[.ref b] ∧ s.IntsAt b xs ∧ xs.length ≤ 260 ∧ (Jvm.Cond.and given_1 narrow_1).before args s = true
def lw_Q (_ : Array Value) (s : State) (o : Outcome) (t : State) : Prop := o = .returned (some (.int 1)) ∧ Framed s o t [] 600000 7302250
def lw_Z (below : List Frame) (a : Array Value) (s : State) : State → Prop := fun t => ∃ o, t.status = .running ∧ Ended t below o ∧ lw_Q a s o t
/-- the law's own end, with 1 on the stack, nothing written that was there before, its room as the claim has it -/
theorem lw_ret {p : Program} {l : Launch} {e : Env} {s : State} {m : MethodId} {below : List Frame} {meth : Method} {c : Code} {b : Nat} (hx : p.tables.exec = Jvm.exec) (hb : c.code = code) (hr : meth.sig.returnType = ret) (hlocks : meth.locks = false) {pc : Nat} {H : Heap} {ls : Array Slot} (hdg : decode code pc = .ok (.ireturn, 1)) : W p l e room_1 s m #[Value.ref b] below meth c H [] 600000 7302250 (lw_Z below #[Value.ref b] s) (F0 m pc ls [.int 1]) := by
  intro T hT X
  obtain ⟨fs, hret, hrun, hended, hW, hframe⟩ := X.leave (v := some (.int 1)) (hlocks := hlocks) (fun h => by rw [hr] at h; cases h)
  have hmeth' : T.vm.method? m = some meth := X.method'
  refine ⟨T.setFrames fs, ?_, .returned (some (.int 1)), hrun, hended, rfl, ⟨_, rfl⟩, hW, hframe⟩
  jvm_step X.here [X.here.top, hx, hb, hdg, hmeth', hr, ret, narrow_b1]
  (try refine ⟨rfl, ?_⟩); (try refine ⟨rfl, ?_⟩)
  first | (intro acts; rw [hret _ acts rfl rfl rfl]) | rw [hret _ _ rfl rfl rfl]
  exact Steps.refl _
/-- what holds at the law's entry: the machine, the code, the tables' words (any of lw_tbl by 'hts w (by decide +kernel)'), the script of L ints xs at the cell b, what the Statement gives of the start (any of its parts by flat_of_before) -/
def lw_At (p : Program) (s : State) (m : MethodId) (meth : Method) (c : Code) (b L : Nat) (xs : Nat → Int32) : Prop :=
  p.tables.exec = Jvm.exec ∧ c.code = code ∧ meth.sig.returnType = ret ∧ c.maxLocals = 5 ∧ s.vm.findClass R_law = some m.cls ∧ (∀ w ∈ lw_tbl, w.before #[Value.ref b] s = true) ∧ va_X b L xs s s.heap ∧ b < s.heap.size ∧ meth.locks = false ∧ (Jvm.Cond.and given_1 narrow_1).before #[Value.ref b] s = true
theorem dq191_0 : decode code 0 = .ok (.new 10, 3) := by decide +kernel
theorem dq191_3 : decode code 3 = .ok (.dup, 1) := by decide +kernel
theorem dq191_4 : decode code 4 = .ok (.invokespecial 67, 3) := by decide +kernel
theorem dq191_7 : decode code 7 = .ok (.astore_n 1, 1) := by decide +kernel
set_option maxHeartbeats 8000000 in
set_option maxRecDepth 100000 in
/-- YOUR PART: from the entry, for every script of at most 260 ints, the law comes to its end with true ('hflags': the launch's flags, for a law that throws: no stack traces) -/
theorem whole_start {p : Program} {e : Env} {s : State} {m : MethodId} {below : List Frame} {meth : Method} {c : Code} (l : Launch) (hflags : l.flags = flags0) {b L : Nat} {xs : Nat → Int32} (hL : L ≤ 260) (C0 : lw_At p s m meth c b L xs) : W p l e room_1 s m #[Value.ref b] below meth c s.heap [] 0 0 (lw_Z below #[Value.ref b] s) (entryFrame m ([Value.ref b] : List Value).toArray 5) := by
  obtain ⟨hx, hb, hr, hml, hown, htl, hX, hbl, hlocks, hgv⟩ := C0
  have hts : ∀ w ∈ fd_TG, w.before #[Value.ref b] s = true := fun w hw => htl w (List.mem_filter.mp hw).1
  have hA : ∀ q : Nat, s.heap.size ≤ q → (fun q : Nat => s.heap.size ≤ q) q := fun _ h => h
  have hbA : ¬ (fun q : Nat => s.heap.size ≤ q) b := Nat.not_le.mpr hbl
  obtain ⟨c0, iS0, hKn0⟩ := u_known (C := fd_R0) (T := fd_T0) (N := 6) (n := 6) hts fd_u0 (hts (.instantiable fd_R0 6) (fd_mem 20 (by decide +kernel)))
  obtain ⟨c1, iS1, hKn1⟩ := u_known (C := fd_R1) (T := fd_T1) (N := 3) (n := 3) hts fd_u1 (hts (.instantiable fd_R1 3) (fd_mem 91 (by decide +kernel)))
  obtain ⟨c2, iS2, hKn2⟩ := u_known (C := fd_R2) (T := fd_T2) (N := 8) (n := 8) hts fd_u2 (hts (.instantiable fd_R2 8) (fd_mem 45 (by decide +kernel)))
  obtain ⟨c3, iS3, hKn3⟩ := u_known (C := fd_R3) (T := fd_T3) (N := 2) (n := 2) hts fd_u3 (hts (.instantiable fd_R3 2) (fd_mem 77 (by decide +kernel)))
  obtain ⟨c4, iS4, hKn4⟩ := u_known (C := fd_R4) (T := fd_T4) (N := 2) (n := 2) hts fd_u4 (hts (.instantiable fd_R4 2) (fd_mem 110 (by decide +kernel)))
  obtain ⟨c5, iS5, hKn5⟩ := u_known (C := fd_R5) (T := fd_T5) (N := 3) (n := 3) hts fd_u5 (hts (.instantiable fd_R5 3) (fd_mem 28 (by decide +kernel)))
  obtain ⟨D, hKc⟩ : ∃ D : va_G, ∀ (k : Nat) (q : vw_C), fd_cl[k]? = some q → u_Kn s q.1 q.2.1 q.2.2 (D.1 k) (D.2 k) := by
    refine ⟨(fun k => [c0, c1, c2, c3, c4, c5].getD k c0, fun k => [iS0, iS1, iS2, iS3, iS4, iS5].getD k iS0), ?_⟩
    intro k q hq
    match k, hq with
    | 0, hq => cases hq; exact hKn0
    | 1, hq => cases hq; exact hKn1
    | 2, hq => cases hq; exact hKn2
    | 3, hq => cases hq; exact hKn3
    | 4, hq => cases hq; exact hKn4
    | 5, hq => cases hq; exact hKn5
    | k + 6, hq => simp at hq
  obtain ⟨di, ki, oi, ei1, ei2, ei3⟩ := Cond.arrayClass_spec (type := .int) (hts _ (fd_mem 43 (by decide +kernel)))
  obtain ⟨dz, kz, oz, ez1, ez2, ez3⟩ := Cond.arrayClass_spec (type := .boolean) (hts _ (fd_mem 75 (by decide +kernel)))
  obtain ⟨dc, kc, oc, ec1, ec2, ec3⟩ := Cond.arrayClass_spec (type := .char) (hts _ (fd_mem 89 (by decide +kernel)))
  have hover : (Cond.arrayOver (.object "FoldedStrips$Strip")).before #[Value.ref b] s = true := htl _ (List.mem_of_getElem? (i := 97) (by decide +kernel))
  obtain ⟨oq, dq, kq, eq1, eq2, eq3, eq4, eq5⟩ := Cond.arrayOver_spec hover
  obtain ⟨cA, hcA⟩ : ∃ cA : Nat → ClassId, cA = fun k => if k = 0 then di else if k = 1 then dz else if k = 2 then dc else dq := ⟨_, rfl⟩
  obtain ⟨tys, htys⟩ : ∃ tys : List (ClassId × FieldType), tys = [(di, .int), (dz, .boolean), (dc, .char), (dq, .object "FoldedStrips$Strip")] := ⟨_, rfl⟩
  have hty : fx_Ty tys cA "FoldedStrips$Strip" := by rw [htys, hcA]; exact ⟨rfl, rfl, rfl, rfl⟩
  have hK : va_K D fd_cl tys s := by
    refine ⟨hKc, fun k q hq => ?_⟩
    rw [htys] at hq
    match k, hq with
    | 0, hq => cases hq; exact ⟨fun n z => ⟨(fun k h => by cases h), ki, ei2, oi, ei3⟩, ei1⟩
    | 1, hq => cases hq; exact ⟨fun n z => ⟨(fun k h => by cases h), kz, ez2, oz, ez3⟩, ez1⟩
    | 2, hq => cases hq; exact ⟨fun n z => ⟨(fun k h => by cases h), kc, ec2, oc, ec3⟩, ec1⟩
    | 3, hq => cases hq; exact ⟨fun n z => ⟨(fun k h => by cases h), kq, eq3, oq, eq4⟩, kq, oq, eq3, eq4, eq1, eq5⟩
    | k + 4, hq => simp at hq
  have hE : q_E s := ⟨va_AO.of hover, va_Nw.of rfl (htl _ (List.mem_of_getElem? (i := 46) (by decide +kernel))), va_Nw.of rfl (htl _ (List.mem_of_getElem? (i := 78) (by decide +kernel))), fun q hq => va_Nw.of rfl (htl _ (fd_NWt q hq))⟩
  have hS : va_S (fun q : Nat => s.heap.size ≤ q) s.heap s.heap [] := va_S.rf
  have hP : va_P D fd_cl [] s.heap := fun k q h => by simp at h
  have hD : va_D (fun q : Nat => s.heap.size ≤ q) [] := ⟨fun i j p q h => by simp at h, fun k q h => by simp at h⟩
  have hl := lv_entry ([.ref b]) (n := 5) (Nat.le_of_ble_eq_true rfl)
  rw [lg_entry_eq]
  generalize (lg_sl ([.ref b]) ++ List.replicate (5 - (lg_sl ([.ref b])).length) Slot.unset).toArray = ls at hl ⊢
  have hl : lv_has ls 5 [(0, .ref b)] := hl
  refine q_make (own := R_law) (C := fd_R0) (T := fd_T0) (N := 6) (c_Class l hty) hx hb hml hown hts hK hE hP hD hS hA (fd_mem 19 (by decide +kernel)) (fd_mem 20 (by decide +kernel)) (fd_mem 9 (by decide +kernel)) rfl fd_u0 fd_ty0 fd_t0 (fun j hj => by rcases (show j = 0 ∨ j = 1 ∨ j = 2 ∨ j = 3 ∨ j = 4 ∨ j = 5 by omega) with rfl | rfl | rfl | rfl | rfl | rfl <;> rfl) (Or.inl (fd_mem 21 (by decide +kernel))) (fd_mem 23 (by decide +kernel)) (fd_mem 22 (by decide +kernel)) rfl rfl rfl (by decide +kernel) (Nat.le_of_ble_eq_true rfl) (Nat.le_of_ble_eq_true rfl) (Nat.le_of_ble_eq_true rfl) (Nat.le_of_ble_eq_true rfl) (Nat.le_of_ble_eq_true rfl) hl.1 dq191_0 dq191_3 dq191_4 (fun n1 f1 H locs hP hD hS => ?_)
  have hP : va_P D fd_cl (fx_wl (q_ad n1 f1) cA q_SC q_MC0) H := hP
  have hD : va_D (fun q : Nat => s.heap.size ≤ q) (fx_wl (q_ad n1 f1) cA q_SC q_MC0) := hD
  refine W.widen (k := 56) (n := 2437) (Nat.le_of_ble_eq_true rfl) (Nat.le_of_ble_eq_true rfl) ?_
  refine lv_astore_n (lv' := [(1, .ref n1), (0, .ref b)]) hx hb dq191_7 rfl hl (by decide) rfl (fun ls hl => ?_)
  rw [q_app (b := b)] at hP hD
  obtain ⟨MX, hMX⟩ : ∃ MX : Nat → Int, MX = fun j => (xs j).toInt := ⟨_, rfl⟩
  obtain ⟨M', n, hn⟩ := ev_law (X := (L, MX)) (show L < 2147483648 by omega) cI_0 rfl rfl m0_2
  have hXs : (fun j => Int32.ofInt (MX j)) = xs := by
    funext j
    rw [hMX]
    exact Int32.ofInt_toInt _
  have hsim := fx_sim (D := D) (cl := fd_cl) (tys := tys) (ad := q_gl (q_ad n1 f1) b) (cA := cA) (SH := fd_SH) (Lx := L) (MX := MX) fd_PO hty l
  have had : q_gl (q_ad n1 f1) b fd_SH.length = b := rfl
  have hXX : fx_X (q_gl (q_ad n1 f1) b) fd_SH L MX (fun q : Nat => s.heap.size ≤ q) s := by
    intro _
    rw [had, hXs]
    exact ⟨by omega, hX, hbl, hbA⟩
  have hlq : lv_has ls ([fx_f 56, fx_f 0, fx_u, fx_u, fx_u] : List fx_V).length (fx_prs (q_gl (q_ad n1 f1) b) [fx_f 56, fx_f 0, fx_u, fx_u, fx_u]) := lv_sub hl [1, 0] rfl
  refine hsim n 191 0 [fx_f 56, fx_f 0, fx_u, fx_u, fx_u] [] q_M0 (some (.inl 1)) M' hn hx hb hml hown hts (Nat.le_of_ble_eq_true rfl) (Nat.le_of_ble_eq_true rfl) ⟨(Nat.le_of_ble_eq_true rfl), (Nat.le_of_ble_eq_true rfl)⟩ hK ⟨hP, hD, hS⟩ hXX hE.2.2.2 hlq (fun H' locs' L' pc' hW he => ?_)
  refine va_forget hW.2.2.2.2 ?_
  refine W.widen (k := 600000) (n := 7302250) (Nat.le_of_ble_eq_true rfl) (Nat.le_of_ble_eq_true rfl) ?_
  exact lw_ret hx hb hr hlocks he.1
-- ===== YOUR PART ENDS =====
set_option maxHeartbeats 4000000 in
theorem lw_walk (l : Launch) (hflags : l.flags = flags0) (b : Addr) (xs : List Int32) : MetFree l x (headSpec (Jvm.Cond.code x code maxLocals ret :: tables_1) room_1) (lw_P b xs) (fun _ _ _ _ _ => True) lw_Q := by
  refine MetFree.of_bodyS (code := code) (maxLocals := maxLocals) (ret := ret) (by decide) ?_ ?_
  · intro args s m h hn
    obtain ⟨meth, c, h1, h2, h3, h4, h5, h6, -, -⟩ := Cond.code_spec hn (atoms_spec (ws := Jvm.Cond.code x code maxLocals ret :: tables_1) h _ List.mem_cons_self)
    exact ⟨meth, c, h1, h2, h3, h4, h5, h6⟩
  · intro p e s m args below meth c s₁ B hml0 hP _
    obtain ⟨rfl, hx, hbd, hgv⟩ := hP
    obtain ⟨scr, harrAt, hlist, hof, hsmall⟩ := hx
    obtain ⟨hcb, hkn, -, -⟩ := State.arrayAt?_spec harrAt
    have hown : s.vm.findClass R_law = some m.cls := findClass_of_methodNamed B.named
    have hts0 : ∀ c ∈ (Jvm.Cond.code x code maxLocals ret :: tables_1), c.before #[Value.ref b] s = true := atoms_spec (ws := Jvm.Cond.code x code maxLocals ret :: tables_1) B.pre
    have hts : ∀ w ∈ lw_tbl, w.before #[Value.ref b] s = true := k2_hts_sels lw_privs (fun w hw => hts0 w (List.mem_cons_of_mem _ hw)) lw_privs_ok
    have hml : c.maxLocals = 5 := B.maxLocals_eq (hts0 _ List.mem_cons_self)
    have X₀ : Stand p l e room_1 s m #[Value.ref b] below meth c s₁ [] 0 0 := Stand.of_body B
    have hh0 : s₁.heap = s.heap := by rw [B.state]; rfl
    have hsz : scr.slots.size = xs.length := by rw [← Array.length_toList, hlist, List.length_map]
    have hval : ∀ j : Nat, j < xs.length → scr.slots[j]? = some (.int (xs.getD j 0)) := fun j hj => by
      rw [← Array.getElem?_toList, hlist]
      simp [hj]
    have hbl : b < s.heap.size := (Array.getElem?_eq_some_iff.mp hcb).1
    have hX : va_X b xs.length (fun j => xs.getD j 0) s s.heap := ⟨scr, hcb, hof, hkn, hsz, hval⟩
    have K : W p l e room_1 s m #[Value.ref b] below meth c s₁.heap [] 0 0 (lw_Z below #[Value.ref b] s) (entryFrame m ([Value.ref b] : List Value).toArray 5) := by
      rw [hh0]
      exact whole_start l hflags hbd ⟨B.exec, B.bytes, B.returns, hml, hown, hts, hX, hbl, B.notSynchronized, hgv⟩
    obtain ⟨t, a1, o, b1, b2, b3⟩ := K s₁ rfl X₀
    exact ⟨t, o, a1, b1, b2, b3⟩
theorem lw_pre_spec {args : Array Value} {s : State} (h : (Jvm.Cond.and given_1 narrow_1).before args s = true) (hr : rest_1_c.before args s = true) : ∃ (b : Addr) (xs : List Int32), lw_P b xs args s := by
  have hs := flat_of_before _ h
  have hq := flat_of_before _ hr
  have hc : (Cond.count 1).before args s = true := hs _ (by decide +kernel)
  have harr : (Cond.arrayOf (.arg 0) .int).before args s = true := hs _ (by decide +kernel)
  have hle : (Cond.le (.length (.arg 0)) (.int 260)).before args s = true := hs _ (by decide +kernel)
  have hlen : (Cond.isInt (.length (.arg 0))).before args s = true := hq _ (by decide +kernel)
  have hall : (Cond.all (.arg 0) (.isInt (.elem (.arg 0) (.index 0)))).before args s = true := hq _ (by decide +kernel)
  obtain ⟨b, xs, hb, hx⟩ := State.ints_of_pre rfl harr hlen hall
  have hsm : xs.length < 2 ^ 31 := hx.choose_spec.2.2.2
  have hev : (Term.length (.arg 0)).eval args s none [] s = some (.int xs.length.toInt32) := hx.length_eval hb
  have hv := Cond.le_ints hev (show (Term.int 260).eval args s none [] s = some (.int 260) from rfl)
  have hd : xs.length.toInt32 ≤ 260 := by
    simpa [Cond.before, Cond.holds, hv] using hle
  have hN : xs.length ≤ 260 := (Int32.ofNat_le_ofNat hsm (by decide)).mp (show Int32.ofNat xs.length ≤ Int32.ofNat 260 from hd)
  exact ⟨b, xs, Cond.one_arg hc (show args[0]? = some (.ref b) from hb), hx, hN, h⟩
theorem lw_comes (l : Launch) (hflags : l.flags = flags0) : Comes l x (Jvm.Cond.code x code maxLocals ret :: tables_1) room_1 (fun tb e args s => Calls_1 tb e args s ∧ rest_1 tb e args s ∧ Pre_1 tb e args s)
    (fun _ _ args s o t => lw_Q args s o t) := by
  intro p e ha hc hk s m args below hf hfit hheap happ hpre
  obtain ⟨b, xs, hP⟩ := lw_pre_spec hpre.2.2 hpre.2.1
  obtain ⟨k, o, h1, h2, h3, hQ⟩ := lw_walk l hflags b xs p e ha hc hk s m args below hf ((Spec.applies_iff_loose hf).mp happ).1 hP trivial
  exact ⟨k, o, h1, h2, h3, hQ⟩
theorem lw_frame {s t : State} {o : Outcome} {args : Array Value} (h : Framed s o t [] 600000 7302250) :
    Framed s o t (fieldLocs frame_1_writes args s ++ arrayLocs frame_1_arrays args s ++ staticLocs frame_1_statics s) 600000 7302250 := h
theorem lw_limb (L : Cond) (hL : ∀ (args : Array Value) (s t : State), L.after args s (.returned (some (.int 1))) t = true) :
    ArmFor flags0 classFile x code maxLocals ret World_1 tables_1 room_1 Calls_1 rest_1 Pre_1
      (fun tb e a s o t => postC L tb e a s o t ∧ Framed s o t (fieldLocs frame_1_writes a s ++ arrayLocs frame_1_arrays a s ++ staticLocs frame_1_statics s) 600000 7302250) := by
  intro l hflags _ _ p e ha hc hk s m args below hf hfit hheap happ hpre
  obtain ⟨k, o, h1, h2, h3, rfl, hF⟩ := lw_comes l hflags p e ha hc hk s m args below hf hfit hheap happ hpre
  exact ⟨k, _, h1, h2, h3, hL args s _, lw_frame hF⟩
theorem i_vc : Claimed_1_1 ∧ Claimed_1_2 := ⟨lw_limb limb_1_1 (fun args s t => by simp [limb_1_1, Cond.after, Cond.holds, Cond.value]), lw_limb limb_1_2 (fun args s t => Cond.after_iff.mpr (by
  first | (rw [show limb_1_2 = Cond.eq .result (.int 1) from rfl, Cond.eq_ints (x := 1) (y := 1) rfl rfl]; simp; done) | (simp [limb_1_2, Cond.value, Term.eval]; done)))⟩
