/-! what constructors make: rows of the kit with the array classes known -/
theorem q_RA {U : State} {ty : FieldType} {c c' : ClassId} (h : va_RA U c ty) (h' : va_RA U c' ty) : c = c' := by
  cases ty with
  | object C =>
    obtain ⟨_, _, _, _, _, h4⟩ := h
    obtain ⟨_, _, _, _, _, h5⟩ := h'
    exact Option.some.inj (h4.symm.trans h5)
  | _ =>
    have h1 : U.vm.findClass _ = some c := h
    exact Option.some.inj (h1.symm.trans h')
theorem q_nd : ∀ (l : List Nat), l.Nodup → va_nd l = true
  | [], _ => rfl
  | a :: l, h => by
    rw [List.nodup_cons] at h
    simp only [va_nd, Bool.and_eq_true, decide_eq_true_eq]
    exact ⟨h.1, q_nd l h.2⟩
theorem q_join {A0 : Nat → Prop} {D : va_G} {cl : List vw_C} {ws w1 : va_W} {q : Nat × va_E} {H H1 : Heap} (hP : va_P D cl (ws ++ [q]) H) (hD : va_D A0 (ws ++ [q])) (hk : ∀ x : Nat, x < H.size → ¬ va_A [q] H.size x → H1[x]? = H[x]?) (hF : ∀ x, va_A [q] H.size x → A0 x) (hP1 : va_P D cl w1 H1) (hD1 : va_D (va_A [q] H.size) w1) : va_P D cl (ws ++ w1) H1 ∧ va_D A0 (ws ++ w1) := by
  refine va_join (wc := [q]) (wr := ws) hP hD [ws.length] (List.range ws.length) (by simp) ?_ (q_nd _ List.nodup_range) (fun i hi => ?_) hk hF hP1 hD1
  · refine List.ext_getElem (by simp) fun k h1 h2 => ?_
    have hl : k < ws.length := by simpa using h2
    rw [List.getElem_map, List.getElem_map, List.getElem_range, List.getElem?_append_left hl, List.getElem?_eq_getElem hl]
  · rw [List.mem_range] at hi
    rw [List.mem_singleton]
    omega
def q_E (U : State) : Prop := va_AO "FoldedStrips$Strip" U ∧ va_Nw (.methodLinkNest "FoldedStrips" 21 ⟨"FoldedStrips$Lines", "<init>", "()V"⟩ "FoldedStrips") U ∧ va_Nw (.methodLinkNest "FoldedStrips" 28 ⟨"FoldedStrips$Pad", "<init>", "()V"⟩ "FoldedStrips") U ∧ fx_NW fd_NW U
theorem q_E.warm {s U : State} (hW : s.WarmedH U.vm) (h : q_E s) : q_E U := ⟨va_AO.moved hW.alike h.1, va_Nw.warmM hW h.2.1, va_Nw.warmM hW h.2.2.1, fx_NW.warm hW h.2.2.2⟩
theorem q_E.same {u U : State} (hv : u.vm = U.vm) (h : q_E u) : q_E U := ⟨va_AO.moved (by rw [hv]; exact Vm.Alike.refl _) h.1, va_Nw.same rfl hv h.2.1, va_Nw.same rfl hv h.2.2.1, fx_NW.same hv h.2.2.2⟩
/-- a constructor's contract: k its number; fr, lo its room; ci, fs its object as it comes; wf what it leaves, at the addresses f -/
def q_MC (l : Launch) (D : va_G) (tys : List (ClassId × FieldType)) (k fr lo ci : Nat) (fs : List Value) (wf : Nat → (Nat → Nat) → va_W) (mc ms : Nat) : Prop := ∀ h0 sz : Nat,
  Met l (fd_y k) (fx_ws fd_TG fd_G fd_y fd_b k) { frames := fr, cells := mc, slots := ms, locals := lo } (va_Pc [.ref h0] (fun U => U.heap.size = sz ∧ va_P D fd_cl [(h0, .inr (ci, fs))] U.heap ∧ va_K D fd_cl tys U ∧ va_D (fun _ => True) [(h0, .inr (ci, fs))] ∧ q_E U))
    (va_Qv (fun _ : Nat → Nat => True) (fun f t => va_P D fd_cl (wf h0 f) t.heap ∧ va_D (va_A [(h0, .inr (ci, fs))] sz) (wf h0 f)) (va_A [(h0, .inr (ci, fs))] sz)) mc ms (va_A [(h0, .inr (ci, fs))] sz)
section QM
variable {p : Program} {l : Launch} {e : Env} {R : Room} {s : State} {m : MethodId} {args : Array Value} {below : List Frame} {meth : Method} {c : Code} {H : Heap} {locs : List Loc} {cells slots : Nat} {Q : State → Prop}
variable {cc : ByteArray} {pc : Nat} {ls : Array Slot} {rest : List Value} {D : va_G} {cl : List vw_C} {A : Nat → Prop} {a : Nat} {tys : List (ClassId × FieldType)} {ws : va_W} {H0 : Heap}
theorem q_newa (hexec : p.tables.exec = Jvm.exec) (hb : c.code = cc) {atype : ArrayType} (harr : (Cond.arrayClass (newarray.typeOf atype)).before args s = true) {ty : FieldType} (hty : newarray.typeOf atype = ty) (hK : va_K D cl tys s) (hP : va_P D cl ws H) (hD : va_D A ws) (hS : va_S A H0 H locs) (hA : ∀ q, H0.size ≤ q → A q)
    (t0 : Nat) {cA : ClassId} (ht : tys[t0]? = some (cA, ty)) {n : Int32} {N' : Nat} {a0 : vp_A} (ha : ∀ cA : ClassId, vp_cell cA a0 = arrV cA N' (fun _ => defaultValue ty)) (hn : ¬ n < 0) (hN : n.toNatClampNeg = N') (hbytes : N' * componentBytes ty ≤ 536870912) (hcells : cells + 1 ≤ R.cells) (hslots : slots + N' ≤ R.slots) (hdg : decode cc pc = .ok (.newarray atype, 2))
    (kk : ∀ (q : Nat) (H1 : Heap), va_P D cl (ws ++ [(q, .inl (cA, a0))]) H1 → va_D A (ws ++ [(q, .inl (cA, a0))]) → va_S A H0 H1 locs → W p l e R s m args below meth c H1 locs (cells + 1) (slots + N') Q (F0 m (pc + 2) ls (.ref q :: rest))) :
    W p l e R s m args below meth c H locs cells slots Q (F0 m pc ls (.int n :: rest)) := by
  refine va_newa hexec hb harr hty hK hP hD hS hA ha hn hN hbytes hcells hslots hdg (fun q cA' H1 hK' hP' hD' hS' => ?_)
  have h1 : (tys ++ [(cA', ty)])[tys.length]? = some (cA', ty) := by simp
  have e : cA' = cA := q_RA (hK'.2 tys.length (cA', ty) h1).2 (hK.2 t0 _ ht).2
  subst e
  exact kk q H1 hP' hD' hS'
theorem q_newq (hexec : p.tables.exec = Jvm.exec) (hb : c.code = cc) {own C : String} {index : Nat} (hown : s.vm.findClass own = some m.cls) (hclink : (Cond.classLink own index C).before args s = true) (hover : va_AO C s) (hK : va_K D cl tys s) (hP : va_P D cl ws H) (hD : va_D A ws) (hS : va_S A H0 H locs) (hA : ∀ q, H0.size ≤ q → A q)
    (t0 : Nat) {cA : ClassId} (ht : tys[t0]? = some (cA, .object C)) {n : Int32} {N' : Nat} (hn : ¬ n < 0) (hN : n.toNatClampNeg = N') (hbytes : N' * 4 ≤ 536870912) (hcells : cells + 1 ≤ R.cells) (hslots : slots + N' ≤ R.slots) (hdg : decode cc pc = .ok (.anewarray index, 3))
    (kk : ∀ (q : Nat) (H1 : Heap), va_P D cl (ws ++ [(q, .inl (cA, N', .inr (.inr (.inr (.inr (fun _ => none))))))]) H1 → va_D A (ws ++ [(q, .inl (cA, N', .inr (.inr (.inr (.inr (fun _ => none))))))]) → va_S A H0 H1 locs → W p l e R s m args below meth c H1 locs (cells + 1) (slots + N') Q (F0 m (pc + 3) ls (.ref q :: rest))) :
    W p l e R s m args below meth c H locs cells slots Q (F0 m pc ls (.int n :: rest)) := by
  refine va_newq hexec hb hown hclink hover hK hP hD hS hA hn hN hbytes hcells hslots hdg (fun q cA' H1 hK' hP' hD' hS' => ?_)
  have h1 : (tys ++ [(cA', FieldType.object C)])[tys.length]? = some (cA', .object C) := by simp
  have e : cA' = cA := q_RA (hK'.2 tys.length (cA', .object C) h1).2 (hK.2 t0 _ ht).2
  subst e
  exact kk q H1 hP' hD' hS'
/-- new, dup, invokespecial <init> -/
theorem q_make {k fr lo ci i1 i2 N mc ms nL : Nat} {fs : List Value} {wf : Nat → (Nat → Nat) → va_W} {own C : String} {T : u_T} (hM : q_MC l D tys k fr lo ci fs wf mc ms)
    (hx : p.tables.exec = Jvm.exec) (hb : c.code = cc) (hml : c.maxLocals = nL) (hown : s.vm.findClass own = some m.cls) (hts : ∀ w ∈ fd_TG, w.before args s = true) (hK : va_K D fd_cl tys s) (hE : q_E s) (hP : va_P D fd_cl ws H) (hD : va_D A ws) (hS : va_S A s.heap H locs) (hA : ∀ q, s.heap.size ≤ q → A q)
    (hcl : Cond.classLink own i1 C ∈ fd_TG) (hin : Cond.instantiable C N ∈ fd_TG) (hini : Cond.initialized C ∈ fd_TG) (hc : fd_cl[ci]? = some (C, T, N)) (hu : ∀ w ∈ u_ws C T N, w ∈ fd_TG) (ty : Nat → FieldType) (hty : ∀ k, k < N → parseFieldDescriptor (T k).2.2.1 = some (ty k)) (hfs : ∀ j, j < N → defaultValue (ty j) = vp_V fs j)
    (hlk : Cond.methodLink own i2 (fd_y k) ∈ fd_TG ∨ ∃ host, va_Nw (.methodLinkNest own i2 (fd_y k) host) s) (hcode : Cond.code (fd_y k) (fd_b k) (fd_G k).2.1 (fx_rt (fd_G k).2.2.1) ∈ fd_TG) (hinst : Cond.instanceMethod (fd_y k) ∈ fd_TG) (hyc : (fd_y k).cls = C) (hyn : (fd_y k).name = "<init>") (hret : fx_rt (fd_G k).2.2.1 = none)
    (hyd : (fd_y k).cls ≠ "java/lang/invoke/MethodHandle" ∧ (fd_y k).cls ≠ "java/lang/invoke/VarHandle" ∧ (parseMethodDescriptor (fd_y k).desc).map (fun d => d.parameters.length) = some 0)
    (hcells : cells + 1 + mc ≤ R.cells) (hslots : slots + N + ms ≤ R.slots) (hfr : fr + 1 ≤ R.frames) (hlo : 8 + ((fd_G k).2.1 + 11) + lo ≤ R.locals) (hrest : (rest.map fun v => v.category).sum ≤ 7) (hl : ls.size = nL)
    (hd1 : decode cc pc = .ok (.new i1, 3)) (hd2 : decode cc (pc + 3) = .ok (.dup, 1)) (hd3 : decode cc (pc + 3 + 1) = .ok (.invokespecial i2, 3))
    (kk : ∀ (q : Nat) (f : Nat → Nat) (H1 : Heap) (locs1 : List Loc), va_P D fd_cl (ws ++ wf q f) H1 → va_D A (ws ++ wf q f) → va_S A s.heap H1 locs1 → W p l e R s m args below meth c H1 locs1 (cells + 1 + mc) (slots + N + ms) Q (F0 m (pc + 3 + 1 + 3) ls (.ref q :: rest))) :
    W p l e R s m args below meth c H locs cells slots Q (F0 m pc ls rest) := by
  refine va_new (ci := ci) (fs := fs) hx hb hts hu ty hty hown (hts _ hcl) (hts _ hin) (hts _ hini) hK hP hD hS hA hc hfs (by omega) (by omega) hd1 (fun q H hP hD hS => ?_)
  refine lv_dup hx hb hd2 rfl ?_
  have hPc : va_P D fd_cl [(q, .inr (ci, fs))] H := hP.sub [ws.length] (by simp)
  have hDc : va_D A [(q, .inr (ci, fs))] := hD.sub [ws.length] rfl (by simp)
  have hFc := va_free (wc := [(q, .inr (ci, fs))]) hD hS hA [ws.length] (by simp)
  have hG : GoodIn fd_TG (fx_ws fd_TG fd_G fd_y fd_b k) := fx_goodIn fd_good (by
    intro w hw
    rcases List.mem_cons.mp hw with h | h
    · rw [h]; exact hcode
    · exact h)
  have hw : fx_ws fd_TG fd_G fd_y fd_b k = Cond.code (fd_y k) (fd_b k) (fd_G k).2.1 none :: fd_TG := by
    unfold fx_ws
    rw [hret]
  have hini2 : (Cond.initialized (fd_y k).cls).before args s = true := by rw [hyc]; exact hts _ hini
  have hr0 : ((Value.ref q :: rest).map fun v => v.category).sum ≤ 8 := by
    rw [List.map_cons, List.sum_cons]
    show 1 + _ ≤ 8
    omega
  have hpre : PreS s H (va_Pc [.ref q] (fun U => U.heap.size = H.size ∧ va_P D fd_cl [(q, .inr (ci, fs))] U.heap ∧ va_K D fd_cl tys U ∧ va_D (fun _ => True) [(q, .inr (ci, fs))] ∧ q_E U)) [.ref q] :=
    ⟨fun a U g mk z => by
      obtain ⟨z0, z1, z2, z3, z4, z5⟩ := z
      exact ⟨z0, z1, z2, va_K.moved (u := U) (U := U.calling g mk a) (Vm.Alike.refl U.vm) z3, z4, q_E.same (u := U) (U := U.calling g mk a) rfl z5⟩,
    fun U hU hW => ⟨rfl, by rw [hU], by rw [hU]; exact hPc, va_K.moved hW.alike hK, hDc.weaken (fun _ _ _ _ => trivial), q_E.warm hW hE⟩⟩
  have hrun : va_Run p l e R s m args below meth c H locs (cells + 1) (slots + N) mc ms (F0 m (pc + 3 + 1) ls (.ref q :: .ref q :: rest)) (.ref q :: rest) (va_Qv (fun _ : Nat → Nat => True) (fun f t => va_P D fd_cl (wf q f) t.heap ∧ va_D (va_A [(q, .inr (ci, fs))] H.size) (wf q f)) (va_A [(q, .inr (ci, fs))] H.size) [Value.ref q].toArray) (va_A [(q, .inr (ci, fs))] H.size) := by
    rcases hlk with hlk | ⟨host, hlk⟩
    · exact va_runI (As := []) (rest := .ref q :: rest) ⟨hx, hb, hml, hown, hts⟩ (hM q H.size) (cwI 0 hts hG hw rfl rfl hini2 (hts _ hlk) (hts _ hinst) hyn hyd ⟨hfr, hlo⟩) hpre rfl rfl hl rfl (lv_room hr0) hd3 ⟨by omega, by omega⟩
    · exact va_runIN (As := []) (rest := .ref q :: rest) ⟨hx, hb, hml, hown, hts⟩ (hM q H.size) ⟨va_cnB 0 hts hG hw rfl rfl hlk hini2 hyd ⟨hfr, hlo⟩, hyn, hts _ hinst⟩ hpre rfl rfl hl rfl (lv_room hr0) hd3 ⟨by omega, by omega⟩
  refine va_callv hrun hS (fun q _ h => hFc q h) hFc (fun f t H1 locs1 ht hvm hw hB hz1 hk1 hS1 => ?_)
  obtain ⟨hP1, hD1⟩ := hB
  rw [ht] at hP1
  obtain ⟨hP2, hD2⟩ := q_join hP hD hk1 hFc hP1 hD1
  exact kk q f H1 locs1 hP2 hD2 hS1
end QM
/-- addresses: the object's own, then those of what it makes -/
def q_ad (h0 : Nat) (f : Nat → Nat) : Nat → Nat
  | 0 => h0
  | k + 1 => f k
