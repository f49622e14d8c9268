section FXS
variable {p : Program} {l : Launch} {e : Env} {R : Room} {s : State} {m : MethodId} {args : Array Value} {below : List Frame} {meth : Method} {c : Code} {H : Heap} {locs : List Loc} {cells slots : Nat} {Q : State → Prop}
variable {cc : ByteArray} {nL rf rl len : Nat} {own OC : String} {TG : List Jvm.Cond} {cl : List vw_C} {CT CL : List (Nat × Int)} {FT PT : List (Nat × Nat × Nat)} {LT : List (Nat × Nat)} {pcs : List Nat} {G : fx_G} {RO : Nat → Nat × Nat}
variable {D : va_G} {tys : List (ClassId × FieldType)} {ad : Nat → Nat} {cA : Nat → ClassId} {SH : List fx_S} {Lx : Nat} {MX : Nat → Int} {A : Nat → Prop}
set_option maxHeartbeats 4000000 in
theorem fx_if_W (hx : p.tables.exec = Jvm.exec) (hb : c.code = cc) {cd : Jvm.ClassFile.Cond} {x : Int} {pc tgt : Nat} {off : Int} {L : Array Slot} {rest : List Value} (hr : fx_r x) (hd : decode cc pc = .ok (.ifCond cd off, 3)) (ht : (pc : Int) + off = (tgt : Int))
    (k : W p l e R s m args below meth c H locs cells slots Q (F0 m (if fx_cmp cd x 0 = true then tgt else pc + 3) L rest)) : W p l e R s m args below meth c H locs cells slots Q (F0 m pc L (.int (Int32.ofInt x) :: rest)) := by
  have e0 : (0 : Int32) = Int32.ofInt 0 := rfl
  cases cd <;> simp only [fx_cmp, decide_eq_true_eq] at k
  · refine lv_if_eq hx hb hd ht (fun h => ?_) (fun h => ?_) <;> rw [e0, fx_eq hr fx_r0] at h
    · rwa [if_pos h] at k
    · rwa [if_neg h] at k
  · refine lv_if_ne hx hb hd ht (fun h => ?_) (fun h => ?_) <;> rw [e0] at h <;> rw [fx_eq hr fx_r0] at h
    · rwa [if_pos h] at k
    · rwa [if_neg (fun q => q h)] at k
  · refine lv_if_lt hx hb hd ht (fun h => ?_) (fun h => ?_) <;> rw [e0, fx_lt hr fx_r0] at h
    · rwa [if_pos h] at k
    · rwa [if_neg h] at k
  · refine lv_if_ge hx hb hd ht (fun h => ?_) (fun h => ?_) <;> rw [e0, fx_le fx_r0 hr] at h
    · rwa [if_pos h] at k
    · rwa [if_neg h] at k
  · refine lv_if_gt hx hb hd ht (fun h => ?_) (fun h => ?_) <;> rw [e0, fx_lt fx_r0 hr] at h
    · rwa [if_pos h] at k
    · rwa [if_neg h] at k
  · refine lv_if_le hx hb hd ht (fun h => ?_) (fun h => ?_) <;> rw [e0, fx_le hr fx_r0] at h
    · rwa [if_pos h] at k
    · rwa [if_neg h] at k
set_option maxHeartbeats 4000000 in
theorem fx_icmp_W (hx : p.tables.exec = Jvm.exec) (hb : c.code = cc) {cd : Jvm.ClassFile.Cond} {x y : Int} {pc tgt : Nat} {off : Int} {L : Array Slot} {rest : List Value} (hr : fx_r x) (hy : fx_r y) (hd : decode cc pc = .ok (.if_icmp cd off, 3)) (ht : (pc : Int) + off = (tgt : Int))
    (k : W p l e R s m args below meth c H locs cells slots Q (F0 m (if fx_cmp cd x y = true then tgt else pc + 3) L rest)) : W p l e R s m args below meth c H locs cells slots Q (F0 m pc L (.int (Int32.ofInt y) :: .int (Int32.ofInt x) :: rest)) := by
  cases cd <;> simp only [fx_cmp, decide_eq_true_eq] at k
  · refine lv_icmp_eq hx hb hd ht (fun h => ?_) (fun h => ?_) <;> rw [fx_eq hr hy] at h
    · rwa [if_pos h] at k
    · rwa [if_neg h] at k
  · refine lv_icmp_ne hx hb hd ht (fun h => ?_) (fun h => ?_) <;> rw [fx_eq hr hy] at h
    · rwa [if_pos h] at k
    · rwa [if_neg (fun q => q h)] at k
  · refine lv_icmp_lt hx hb hd ht (fun h => ?_) (fun h => ?_) <;> rw [fx_lt hr hy] at h
    · rwa [if_pos h] at k
    · rwa [if_neg h] at k
  · refine lv_icmp_ge hx hb hd ht (fun h => ?_) (fun h => ?_) <;> rw [fx_le hy hr] at h
    · rwa [if_pos h] at k
    · rwa [if_neg h] at k
  · refine lv_icmp_gt hx hb hd ht (fun h => ?_) (fun h => ?_) <;> rw [fx_lt hy hr] at h
    · rwa [if_pos h] at k
    · rwa [if_neg h] at k
  · refine lv_icmp_le hx hb hd ht (fun h => ?_) (fun h => ?_) <;> rw [fx_le hr hy] at h
    · rwa [if_pos h] at k
    · rwa [if_neg h] at k
theorem fx_tgs_get {pc : Nat} : ∀ {os ts : List Int} (_ : fx_tgs pcs pc os ts = true) {k : Nat} {t : Int}, ts[k]? = some t → ∃ off, os[k]? = some off ∧ (pc : Int) + off = ((pcs.getD t.toNat 0 : Nat) : Int)
  | [], [], _, k, t, ht => by simp at ht
  | [], _ :: _, h, _, _, _ => by simp [fx_tgs] at h
  | _ :: _, [], h, _, _, _ => by simp [fx_tgs] at h
  | off :: r, t' :: r', h, k, t, ht => by
    simp only [fx_tgs, Bool.and_eq_true, fx_tg, decide_eq_true_eq] at h
    cases k with
    | zero =>
      simp only [List.getElem?_cons_zero, Option.some.injEq] at ht
      subst ht
      exact ⟨off, rfl, h.1⟩
    | succ k =>
      simp only [List.getElem?_cons_succ] at ht
      obtain ⟨o, h1, h2⟩ := fx_tgs_get h.2 ht
      exact ⟨o, by simpa using h1, h2⟩
theorem fx_tgp_lk {pc : Nat} {d' d : Int} (hd : (pc : Int) + d' = ((pcs.getD d.toNat 0 : Nat) : Int)) {x : Int} : ∀ {os ts : List (Int × Int)} (_ : fx_tgp pcs pc os ts = true), (pc : Int) + Op.lookupswitch.offset os d' x = ((pcs.getD (fx_lk ts d x).toNat 0 : Nat) : Int)
  | [], [], _ => by simpa [Op.lookupswitch.offset, fx_lk] using hd
  | [], _ :: _, h => by simp [fx_tgp] at h
  | _ :: _, [], h => by simp [fx_tgp] at h
  | (a, off) :: r, (b, t) :: r', h => by
    simp only [fx_tgp, Bool.and_eq_true, fx_tg, decide_eq_true_eq] at h
    obtain ⟨⟨rfl, h1⟩, h2⟩ := h
    have ih := fx_tgp_lk hd (x := x) h2
    by_cases hxa : x = a
    · subst hxa
      simpa [Op.lookupswitch.offset, fx_lk] using h1
    · have hax : ¬ a = x := fun q => hxa q.symm
      simpa [Op.lookupswitch.offset, fx_lk, hxa, hax] using ih

theorem fx_ce_fld {ad : Nat → Nat} {cA : Nat → ClassId} {M : fx_M} {k sl ci : Nat} {v : Int} {fs : List (Option Nat)} (h : fs[sl]? = some none) : (Sum.inr (ci, (fs.zipIdx.map (fun q => match q.1 with
    | some r => Value.ref (ad r)
    | none => .int (Int32.ofInt (M k q.2)))).set sl (.int (Int32.ofInt v))) : va_E) = fx_ce ad cA (fx_set M k (fx_up (M k) sl v)) k (.inr (.inl (ci, fs))) := by
  have hfl : sl < fs.length := (List.getElem?_eq_some_iff.mp h).1
  show Sum.inr _ = Sum.inr _
  congr 2
  refine List.ext_getElem? fun q => ?_
  by_cases hq : q = sl
  · subst hq
    rw [List.getElem?_set_self (by simpa using hfl), List.getElem?_map, List.getElem?_zipIdx, h]
    simp [fx_set, fx_up]
  · rw [List.getElem?_set_ne (Ne.symm hq), List.getElem?_map, List.getElem?_map, List.getElem?_zipIdx]
    rcases fs[q]? with _ | _ | a
    · rfl
    · simp [fx_set, fx_up, hq]
    · rfl
theorem fx_ce_cp {ad : Nat → Nat} {cA : Nat → ClassId} {M : fx_M} {k n1 : Nat} (f : Nat → Int) (sp dp n : Nat) : (Sum.inl (cA 0, (n1, Sum.inl (va_cpy (fun j => Int32.ofInt (f j)) (fun j => Int32.ofInt (M k j)) sp dp n))) : va_E) = fx_ce ad cA (fx_set M k (fx_cp f (M k) sp dp n)) k (.inl (0, n1)) := by
  show Sum.inl _ = Sum.inl _
  congr 3
  refine congrArg Sum.inl ?_
  funext j
  simp only [va_cpy, fx_set, fx_cp, if_true]
  split <;> rfl
set_option maxHeartbeats 16000000 in
set_option maxRecDepth 4000 in
theorem fx_step_W {o mm : Instr} {i i' pc : Nat} {ls ls' st st' : List fx_V} {M M' : fx_M} {L : Array Slot} (hx : p.tables.exec = Jvm.exec) (hb : c.code = cc) (hml : c.maxLocals = nL) (hown : s.vm.findClass own = some m.cls) (hts : ∀ w ∈ TG, w.before args s = true)
    (hT : fx_Tab own TG cl CT CL FT PT LT) (hcl : fx_Cl TG cl) (hty : fx_Ty tys cA OC) (hrf : rf ≤ R.frames) (hrl : rl ≤ R.locals) (hcs : cells ≤ R.cells ∧ slots ≤ R.slots) (hK : va_K D cl tys s) (hW : fx_Wd D cl ad cA SH s.heap A M H locs) (hX : fx_X ad SH Lx MX A s)
    (hl : lv_has L nL (fx_prs ad ls)) (hlen : ls.length = nL) (hd : decode cc pc = .ok (o, len)) (hn : fx_nrm CT CL FT PT LT pcs G RO rf rl pc len mm o = true) (hpc1 : pcs.getD (i + 1) 0 = pc + len)
    (hs : fx_step SH Lx MX mm i ls st M = some (i', ls', st', M'))
    (kk : ∀ (H' : Heap) (locs' : List Loc) (L' : Array Slot), fx_Wd D cl ad cA SH s.heap A M' H' locs' → lv_has L' nL (fx_prs ad ls') → ls'.length = nL → W p l e R s m args below meth c H' locs' cells slots Q (F0 m (pcs.getD i' 0) L' (st'.map (fx_g ad)))) :
    W p l e R s m args below meth c H locs cells slots Q (F0 m pc L (st.map (fx_g ad))) := by
  obtain ⟨hCT, hCL, hFT, hPT, hLT, hLM, hLm⟩ := hT
  obtain ⟨ht0, ht1, ht2, ht3⟩ := hty
  cases mm <;> simp only [fx_nrm, Bool.false_eq_true] at hn
  all_goals simp only [fx_step] at hs
  case iadd =>
    simp only [decide_eq_true_eq] at hn
    obtain ⟨rfl, rfl⟩ := hn
    obtain ⟨x, y, r, rfl, rfl, rfl, rfl, rfl⟩ := fx_bin_some hs
    have K := kk _ _ _ hW hl hlen
    rw [hpc1] at K
    refine lv_iadd hx hb hd ?_
    rw [← Int32.ofInt_add]
    exact K
  case isub =>
    simp only [decide_eq_true_eq] at hn
    obtain ⟨rfl, rfl⟩ := hn
    obtain ⟨x, y, r, rfl, rfl, rfl, rfl, rfl⟩ := fx_bin_some hs
    have K := kk _ _ _ hW hl hlen
    rw [hpc1] at K
    refine lv_isub hx hb hd ?_
    rw [← Int32.ofInt_sub]
    exact K
  case imul =>
    simp only [decide_eq_true_eq] at hn
    obtain ⟨rfl, rfl⟩ := hn
    obtain ⟨x, y, r, rfl, rfl, rfl, rfl, rfl⟩ := fx_bin_some hs
    have K := kk _ _ _ hW hl hlen
    rw [hpc1] at K
    refine lv_imul hx hb hd ?_
    rw [← Int32.ofInt_mul]
    exact K
  case iand =>
    simp only [decide_eq_true_eq] at hn
    obtain ⟨rfl, rfl⟩ := hn
    obtain ⟨x, y, r, rfl, rfl, rfl, rfl, rfl⟩ := fx_bin_some hs
    have K := kk _ _ _ hW hl hlen
    rw [hpc1] at K
    refine lv_iand hx hb hd ?_
    rw [← Int32.ofInt_toInt (Int32.ofInt x &&& Int32.ofInt y)]
    exact K
  case ior =>
    simp only [decide_eq_true_eq] at hn
    obtain ⟨rfl, rfl⟩ := hn
    obtain ⟨x, y, r, rfl, rfl, rfl, rfl, rfl⟩ := fx_bin_some hs
    have K := kk _ _ _ hW hl hlen
    rw [hpc1] at K
    refine lv_ior hx hb hd ?_
    rw [← Int32.ofInt_toInt (Int32.ofInt x ||| Int32.ofInt y)]
    exact K
  case ixor =>
    simp only [decide_eq_true_eq] at hn
    obtain ⟨rfl, rfl⟩ := hn
    obtain ⟨x, y, r, rfl, rfl, rfl, rfl, rfl⟩ := fx_bin_some hs
    have K := kk _ _ _ hW hl hlen
    rw [hpc1] at K
    refine lv_ixor hx hb hd ?_
    rw [← Int32.ofInt_toInt (Int32.ofInt x ^^^ Int32.ofInt y)]
    exact K
  case ishl =>
    simp only [decide_eq_true_eq] at hn
    obtain ⟨rfl, rfl⟩ := hn
    obtain ⟨x, y, r, rfl, rfl, rfl, rfl, rfl⟩ := fx_bin_some hs
    have K := kk _ _ _ hW hl hlen
    rw [hpc1] at K
    refine lv_ishl hx hb hd ?_
    rw [← Int32.ofInt_toInt (Int32.ofInt x <<< (Int32.ofInt y &&& 31))]
    exact K
  case ishr =>
    simp only [decide_eq_true_eq] at hn
    obtain ⟨rfl, rfl⟩ := hn
    obtain ⟨x, y, r, rfl, rfl, rfl, rfl, rfl⟩ := fx_bin_some hs
    have K := kk _ _ _ hW hl hlen
    rw [hpc1] at K
    refine lv_ishr hx hb hd ?_
    rw [← Int32.ofInt_toInt (Int32.ofInt x >>> (Int32.ofInt y &&& 31))]
    exact K
  case iushr =>
    simp only [decide_eq_true_eq] at hn
    obtain ⟨rfl, rfl⟩ := hn
    obtain ⟨x, y, r, rfl, rfl, rfl, rfl, rfl⟩ := fx_bin_some hs
    have K := kk _ _ _ hW hl hlen
    rw [hpc1] at K
    exact lv_iushr hx hb hd (v := Int32.ofInt (fx_ushr x y)) (Int32.ofInt_toInt _).symm K
  case idiv =>
    simp only [decide_eq_true_eq] at hn
    obtain ⟨rfl, rfl⟩ := hn
    obtain ⟨x, y, r, rfl, hz, rfl, rfl, rfl, rfl⟩ := fx_binN_some hs
    have K := kk _ _ _ hW hl hlen
    rw [hpc1] at K
    refine lv_idiv hx hb hd hz ?_
    rw [← Int32.ofInt_toInt (Int32.ofInt x / Int32.ofInt y)]
    exact K
  case irem =>
    simp only [decide_eq_true_eq] at hn
    obtain ⟨rfl, rfl⟩ := hn
    obtain ⟨x, y, r, rfl, hz, rfl, rfl, rfl, rfl⟩ := fx_binN_some hs
    have K := kk _ _ _ hW hl hlen
    rw [hpc1] at K
    refine lv_irem hx hb hd hz ?_
    rw [← Int32.ofInt_toInt (Int32.ofInt x - Int32.ofInt x / Int32.ofInt y * Int32.ofInt y)]
    exact K
  case land =>
    simp only [decide_eq_true_eq] at hn
    obtain ⟨rfl, rfl⟩ := hn
    obtain ⟨x, y, r, rfl, rfl, rfl, rfl, rfl⟩ := fx_binL_some hs
    have K := kk _ _ _ hW hl hlen
    rw [hpc1] at K
    exact lv_land hx hb hd K
  case lor =>
    simp only [decide_eq_true_eq] at hn
    obtain ⟨rfl, rfl⟩ := hn
    obtain ⟨x, y, r, rfl, rfl, rfl, rfl, rfl⟩ := fx_binL_some hs
    have K := kk _ _ _ hW hl hlen
    rw [hpc1] at K
    exact lv_lor hx hb hd K
  case lshl =>
    simp only [decide_eq_true_eq] at hn
    obtain ⟨rfl, rfl⟩ := hn
    obtain ⟨x, y, r, rfl, rfl, rfl, rfl, rfl⟩ := fx_binLI_some hs
    have K := kk _ _ _ hW hl hlen
    rw [hpc1] at K
    exact lv_lshl hx hb hd rfl K
  case lushr =>
    simp only [decide_eq_true_eq] at hn
    obtain ⟨rfl, rfl⟩ := hn
    obtain ⟨x, y, r, rfl, rfl, rfl, rfl, rfl⟩ := fx_binLI_some hs
    have K := kk _ _ _ hW hl hlen
    rw [hpc1] at K
    exact lv_lushr hx hb hd rfl K
  case lcmp =>
    simp only [decide_eq_true_eq] at hn
    obtain ⟨rfl, rfl⟩ := hn
    split at hs
    next y x r =>
      cases hs
      have K := kk _ _ _ hW hl hlen
      rw [hpc1] at K
      refine W.lcmp hx hb hd ?_
      rw [← Int32.ofInt_toInt (lg_cmp x y)]
      exact K
    next => cases hs
  case i2l =>
    simp only [decide_eq_true_eq] at hn
    obtain ⟨rfl, rfl⟩ := hn
    split at hs
    next x r =>
      cases hs
      have K := kk _ _ _ hW hl hlen
      rw [hpc1] at K
      exact lv_i2l hx hb hd rfl K
    next => cases hs
  case l2i =>
    simp only [decide_eq_true_eq] at hn
    obtain ⟨rfl, rfl⟩ := hn
    split at hs
    next x r =>
      cases hs
      have K := kk _ _ _ hW hl hlen
      rw [hpc1] at K
      exact lv_l2i hx hb hd (Int32.ofInt_toInt _).symm K
    next => cases hs
  case i2c =>
    simp only [decide_eq_true_eq] at hn
    obtain ⟨rfl, rfl⟩ := hn
    split at hs
    next x r =>
      cases hs
      have K := kk _ _ _ hW hl hlen
      rw [hpc1] at K
      exact lv_i2c hx hb hd (v := Int32.ofInt (fx_i2c x)) (Int32.ofInt_toInt _).symm K
    next => cases hs
  case dup =>
    simp only [decide_eq_true_eq] at hn
    obtain ⟨rfl, rfl⟩ := hn
    split at hs
    next v r =>
      split at hs
      next hv =>
        cases hs
        have K := kk _ _ _ hW hl hlen
        rw [hpc1] at K
        exact lv_dup hx hb hd ((fx_ct_g v).trans hv) K
      next => cases hs
    next => cases hs
  case dup2 =>
    simp only [decide_eq_true_eq] at hn
    obtain ⟨rfl, rfl⟩ := hn
    split at hs
    next v w r =>
      split at hs
      next hv =>
        cases hs
        have K := kk _ _ _ hW hl hlen
        rw [hpc1] at K
        exact lv_dup2_11 hx hb hd ((fx_ct_g v).trans hv.1) ((fx_ct_g w).trans hv.2) K
      next => cases hs
    next => cases hs
  case sipush =>
    rename_i v
    cases hs
    have K := kk _ _ _ hW hl hlen
    rw [hpc1] at K
    split at hn
    · simp only [decide_eq_true_eq] at hn; obtain ⟨rfl, h2⟩ := hn; exact lv_iconst hx hb hd h2 K
    · simp only [decide_eq_true_eq] at hn; obtain ⟨rfl, h2⟩ := hn; exact lv_bipush hx hb hd h2 K
    · simp only [decide_eq_true_eq] at hn; obtain ⟨rfl, h2⟩ := hn; exact lv_sipush hx hb hd h2 K
    · simp only [decide_eq_true_eq] at hn; obtain ⟨rfl, h2⟩ := hn; exact lv_ldc hx hb hown (hts _ (hCT _ h2)) hd K
    · simp only [decide_eq_true_eq] at hn; obtain ⟨rfl, h2⟩ := hn; exact lv_ldcw hx hb hown (hts _ (hCT _ h2)) hd K
    · cases hn
  case goto_w =>
    rename_i v
    cases hs
    have K := kk _ _ _ hW hl hlen
    rw [hpc1] at K
    split at hn
    · simp only [decide_eq_true_eq] at hn; obtain ⟨rfl, h2⟩ := hn; exact lv_lconst hx hb hd h2 K
    · simp only [decide_eq_true_eq] at hn; obtain ⟨rfl, h2⟩ := hn; exact lv_ldc2 hx hb hown (hts _ (hCL _ h2)) hd K
    · cases hn
  case iload =>
    split at hs
    next x hk =>
      cases hs
      have K := kk _ _ _ hW hl hlen
      rw [hpc1] at K
      have hg := fx_lh_get hl hk rfl
      split at hn
      · simp only [decide_eq_true_eq] at hn; obtain ⟨rfl, h2⟩ := hn; exact lv_iload_n hx hb hd h2 hg K
      · simp only [decide_eq_true_eq] at hn; obtain ⟨rfl, rfl⟩ := hn; exact lv_iload hx hb hd hg K
      · cases hn
    next => cases hs
  case lload =>
    split at hs
    next x hk =>
      cases hs
      have K := kk _ _ _ hW hl hlen
      rw [hpc1] at K
      have hg := fx_lh_get hl hk rfl
      split at hn
      · simp only [decide_eq_true_eq] at hn; obtain ⟨rfl, h2⟩ := hn; exact lv_lload_n hx hb hd h2 hg K
      · simp only [decide_eq_true_eq] at hn; obtain ⟨rfl, rfl⟩ := hn; exact lv_lload hx hb hd hg K
      · cases hn
    next => cases hs
  case aload =>
    split at hs
    next x hk =>
      cases hs
      have K := kk _ _ _ hW hl hlen
      rw [hpc1] at K
      have hg := fx_lh_get hl hk rfl
      split at hn
      · simp only [decide_eq_true_eq] at hn; obtain ⟨rfl, h2⟩ := hn; exact lv_aload_n hx hb hd h2 hg K
      · simp only [decide_eq_true_eq] at hn; obtain ⟨rfl, rfl⟩ := hn; exact lv_aload hx hb hd hg K
      · cases hn
    next => cases hs
  case istore =>
    rename_i k0
    split at hs
    next x r =>
      split at hs
      next hf =>
        cases hs
        have hk : k0 < nL := by rw [← hlen]; exact of_decide_eq_true ((Bool.and_eq_true _ _).mp hf).1
        split at hn
        · simp only [decide_eq_true_eq] at hn; obtain ⟨rfl, h2⟩ := hn; refine lv_istore_n hx hb hd h2 hl hk rfl (fun L' hl' => ?_); rw [← hpc1]; exact kk _ _ _ hW (fx_lh_set rfl hf hl') (by rw [List.length_set]; exact hlen)
        · simp only [decide_eq_true_eq] at hn; obtain ⟨rfl, rfl⟩ := hn; refine lv_istore hx hb hd hl hk rfl (fun L' hl' => ?_); rw [← hpc1]; exact kk _ _ _ hW (fx_lh_set rfl hf hl') (by rw [List.length_set]; exact hlen)
        · cases hn
      next => cases hs
    next => cases hs
  case astore =>
    rename_i k0
    split at hs
    next x r =>
      split at hs
      next hf =>
        cases hs
        have hk : k0 < nL := by rw [← hlen]; exact of_decide_eq_true ((Bool.and_eq_true _ _).mp hf).1
        split at hn
        · simp only [decide_eq_true_eq] at hn; obtain ⟨rfl, h2⟩ := hn; refine lv_astore_n hx hb hd h2 hl hk rfl (fun L' hl' => ?_); rw [← hpc1]; exact kk _ _ _ hW (fx_lh_set rfl hf hl') (by rw [List.length_set]; exact hlen)
        · simp only [decide_eq_true_eq] at hn; obtain ⟨rfl, rfl⟩ := hn; refine lv_astore hx hb hd hl hk rfl (fun L' hl' => ?_); rw [← hpc1]; exact kk _ _ _ hW (fx_lh_set rfl hf hl') (by rw [List.length_set]; exact hlen)
        · cases hn
      next => cases hs
    next => cases hs
  case lstore =>
    rename_i k0
    split at hs
    next x r =>
      split at hs
      next hf =>
        cases hs
        have hk : k0 + 1 < nL := by rw [← hlen]; exact hf.2
        split at hn
        · simp only [decide_eq_true_eq] at hn; obtain ⟨rfl, h2⟩ := hn; refine lv_lstore_n hx hb hd h2 hl hk rfl (fun L' hl' => ?_); rw [← hpc1]; exact kk _ _ _ hW (fx_lh_set2 hf.1 hf.2 hl') (by rw [List.length_set, List.length_set]; exact hlen)
        · simp only [decide_eq_true_eq] at hn; obtain ⟨rfl, rfl⟩ := hn; refine lv_lstore hx hb hd hl hk rfl (fun L' hl' => ?_); rw [← hpc1]; exact kk _ _ _ hW (fx_lh_set2 hf.1 hf.2 hl') (by rw [List.length_set, List.length_set]; exact hlen)
        · cases hn
      next => cases hs
    next => cases hs
  case iinc =>
    simp only [decide_eq_true_eq] at hn
    obtain ⟨rfl, rfl⟩ := hn
    rename_i k0 n0
    split at hs
    next x hk =>
      split at hs
      next hf =>
        cases hs
        have hkl : k0 < nL := by rw [← hlen]; exact of_decide_eq_true ((Bool.and_eq_true _ _).mp hf).1
        obtain ⟨z, hz⟩ := List.getElem?_of_mem (fx_prs_mem.mpr ⟨_, hk, rfl⟩ : (k0, Value.int (Int32.ofInt x)) ∈ fx_prs ad ls)
        refine lv_iinc hx hb hd hl hz (v := Int32.ofInt (x + n0)) (by rw [Int32.ofInt_add]) hkl rfl (fun L' hl' => ?_)
        rw [← hpc1]
        exact kk _ _ _ hW (fx_lh_set rfl hf hl') (by rw [List.length_set]; exact hlen)
      next => cases hs
    next => cases hs
  case ifCond =>
    rename_i cd t
    split at hs
    next x r =>
      split at hs
      next hr =>
        cases hs
        have K := kk _ _ _ hW hl hlen
        split at hn
        · simp only [Bool.and_eq_true, decide_eq_true_eq, fx_tg] at hn
          obtain ⟨⟨rfl, rfl⟩, ht⟩ := hn
          refine fx_if_W hx hb (fx_rb_iff.mp hr) hd ht ?_
          rw [← hpc1, ← apply_ite (fun z => pcs.getD z 0)]
          exact K
        · cases hn
      next => cases hs
    next => cases hs
  case if_icmp =>
    rename_i cd t
    split at hs
    next y x r =>
      split at hs
      next hr =>
        cases hs
        have K := kk _ _ _ hW hl hlen
        split at hn
        · simp only [Bool.and_eq_true, decide_eq_true_eq, fx_tg] at hn
          obtain ⟨⟨rfl, rfl⟩, ht⟩ := hn
          refine fx_icmp_W hx hb (fx_rb_iff.mp hr.1) (fx_rb_iff.mp hr.2) hd ht ?_
          rw [← hpc1, ← apply_ite (fun z => pcs.getD z 0)]
          exact K
        · cases hn
      next => cases hs
    next => cases hs
  case goto =>
    cases hs
    have K := kk _ _ _ hW hl hlen
    split at hn
    · simp only [Bool.and_eq_true, decide_eq_true_eq, fx_tg] at hn
      obtain ⟨rfl, ht⟩ := hn
      exact lv_goto hx hb hd ht K
    · cases hn
  case ifnull =>
    split at hs
    next a r =>
      cases hs
      have K := kk _ _ _ hW hl hlen
      rw [hpc1] at K
      split at hn
      · simp only [decide_eq_true_eq] at hn
        subst hn
        exact lv_ifnull hx hb hd K
      · cases hn
    next => cases hs
  case ifnonnull =>
    split at hs
    next a r =>
      cases hs
      have K := kk _ _ _ hW hl hlen
      split at hn
      · simp only [Bool.and_eq_true, decide_eq_true_eq, fx_tg] at hn
        obtain ⟨rfl, ht⟩ := hn
        exact lv_ifnonnull hx hb hd ht K
      · cases hn
    next => cases hs
  case tableswitch =>
    rename_i d lo hi ts
    split at hs
    next x r =>
      split at hs
      next hr =>
        have hr := fx_rb_iff.mp hr
        have ex : (Int32.ofInt x).toInt = x := Int32.toInt_ofInt_of_le hr.1 hr.2
        split at hn
        · simp only [Bool.and_eq_true, decide_eq_true_eq, fx_tg] at hn
          obtain ⟨⟨⟨rfl, rfl⟩, hdt⟩, htt⟩ := hn
          split at hs
          next hc =>
            cases hs
            exact lv_tableOut hx hb hd (by rw [ex]; exact hc) hdt (kk _ _ _ hW hl hlen)
          next hc =>
            split at hs
            next t ht =>
              cases hs
              obtain ⟨off, h1, h2⟩ := fx_tgs_get htt (k := (x - _).toNat) (by rw [Array.getElem?_toList]; exact ht)
              exact lv_tableIn hx hb hd (by rw [ex]; omega) (by rw [ex]; omega) (by rw [ex, ← Array.getElem?_toList]; exact h1) h2 (kk _ _ _ hW hl hlen)
            next => cases hs
        · cases hn
      next => cases hs
    next => cases hs
  case lookupswitch =>
    rename_i d ts
    split at hs
    next x r =>
      split at hs
      next hr =>
        cases hs
        have hr := fx_rb_iff.mp hr
        have ex : (Int32.ofInt x).toInt = x := Int32.toInt_ofInt_of_le hr.1 hr.2
        split at hn
        · simp only [Bool.and_eq_true, fx_tg] at hn
          obtain ⟨⟨hz, hdt⟩, htt⟩ := hn
          simp only [decide_eq_true_eq] at hdt
          exact lv_lookup hx hb hd hz rfl (by rw [ex]; exact fx_tgp_lk hdt htt) (kk _ _ _ hW hl hlen)
        · cases hn
      next => cases hs
    next => cases hs
  case baload =>
    simp only [decide_eq_true_eq] at hn
    obtain ⟨rfl, rfl⟩ := hn
    obtain ⟨x, k, r, n, rfl, hk, hi, rfl, rfl, rfl, rfl⟩ := fx_ld_some hs
    have K := kk _ _ _ hW hl hlen
    rw [hpc1] at K
    refine va_zald hx hb hK hW.1 k 1 (fx_wl_get hk) ht1 (fx_ix_in hi) hd ?_
    rw [fx_ix_cl hi]
    exact K
  case caload =>
    simp only [decide_eq_true_eq] at hn
    obtain ⟨rfl, rfl⟩ := hn
    obtain ⟨x, k, r, n, rfl, hk, hi, rfl, rfl, rfl, rfl⟩ := fx_ld_some hs
    have K := kk _ _ _ hW hl hlen
    rw [hpc1] at K
    refine va_cald hx hb hK hW.1 k 2 (fx_wl_get hk) ht2 (fx_ix_in hi) hd ?_
    rw [fx_ix_cl hi]
    exact K
  case iaload =>
    simp only [decide_eq_true_eq] at hn
    obtain ⟨rfl, rfl⟩ := hn
    unfold fx_ldx at hs
    split at hs
    next x k r =>
      split at hs
      next hkx =>
        split at hs
        next hi =>
          cases hs
          subst hkx
          have K := kk _ _ _ hW hl hlen
          rw [hpc1] at K
          obtain ⟨hLb, hXX, hXl, hXA⟩ := hX hi.2
          have hi := hi.1
          refine va_sld hx hb hXX hXl hXA hW.2.2 (fx_ix_in hi) hd ?_
          rw [fx_ix_cl hi]
          exact K
        next => cases hs
      next hkx =>
        obtain ⟨x', k', r', n, he, hk, hi, rfl, rfl, rfl, rfl⟩ := fx_ld_some hs
        cases he
        have K := kk _ _ _ hW hl hlen
        rw [hpc1] at K
        refine va_iald hx hb hK hW.1 k 0 (fx_wl_get hk) ht0 (fx_ix_in hi) hd ?_
        rw [fx_ix_cl hi]
        exact K
    next => cases hs
  case iastore =>
    simp only [decide_eq_true_eq] at hn
    obtain ⟨rfl, rfl⟩ := hn
    obtain ⟨v, x, k, r, n, rfl, hk, hi, ht, rfl, rfl, rfl, rfl⟩ := fx_sd_some hs
    refine va_iast hx hb hK hW.1 hW.2.1 hW.2.2 k 0 (fx_wl_get hk) ht0 (fx_ix_in hi) hd (fun H1 locs1 hP hD hS => ?_)
    rw [← hpc1]
    rw [fx_wl_set (f := fx_up (M k) x.toNat v) hk (by rw [fx_upd hi]; simp [fx_ce, fx_set])] at hP hD
    exact kk _ _ _ ⟨hP, hD, hS⟩ hl hlen
  case bastore =>
    simp only [decide_eq_true_eq] at hn
    obtain ⟨rfl, rfl⟩ := hn
    obtain ⟨v, x, k, r, n, rfl, hk, hi, ht, rfl, rfl, rfl, rfl⟩ := fx_sd_some hs
    refine va_zast hx hb hK hW.1 hW.2.1 hW.2.2 k 1 (fx_wl_get hk) ht1 (fx_ix_in hi) hd (fun H1 locs1 hP hD hS => ?_)
    rw [← hpc1]
    rw [fx_nar_z ht] at hP hD
    rw [fx_wl_set (f := fx_up (M k) x.toNat v) hk (by rw [fx_upd hi]; simp [fx_ce, fx_set])] at hP hD
    exact kk _ _ _ ⟨hP, hD, hS⟩ hl hlen
  case castore =>
    simp only [decide_eq_true_eq] at hn
    obtain ⟨rfl, rfl⟩ := hn
    obtain ⟨v, x, k, r, n, rfl, hk, hi, ht, rfl, rfl, rfl, rfl⟩ := fx_sd_some hs
    refine va_cast hx hb hK hW.1 hW.2.1 hW.2.2 k 2 (fx_wl_get hk) ht2 (fx_ix_in hi) hd (fun H1 locs1 hP hD hS => ?_)
    rw [← hpc1]
    rw [fx_nar_c ht] at hP hD
    rw [fx_wl_set (f := fx_up (M k) x.toNat v) hk (by rw [fx_upd hi]; simp [fx_ce, fx_set])] at hP hD
    exact kk _ _ _ ⟨hP, hD, hS⟩ hl hlen
  case aaload =>
    simp only [decide_eq_true_eq] at hn
    obtain ⟨rfl, rfl⟩ := hn
    split at hs
    next x k r =>
      split at hs
      next li hk =>
        split at hs
        next hi =>
          split at hs
          next a ha =>
            cases hs
            have K := kk _ _ _ hW hl hlen
            rw [hpc1] at K
            refine va_aldq hx hb hK hW.1 k 3 (fx_wl_get hk) ht3 (fx_ix_in hi) hd ?_
            rw [fx_ix_cl hi, ha]
            exact K
          next => cases hs
        next => cases hs
      next => cases hs
    next => cases hs
  case arraylength =>
    simp only [decide_eq_true_eq] at hn
    obtain ⟨rfl, rfl⟩ := hn
    split at hs
    next k r =>
      split at hs
      next hkx =>
        split at hs
        next hL0 =>
          cases hs
          subst hkx
          have K := kk _ _ _ hW hl hlen
          rw [hpc1] at K
          obtain ⟨hLb, hXX, hXl, hXA⟩ := hX hL0
          refine va_slen hx hb hXX hXl hXA hW.2.2 hd ?_
          rw [← Int32.ofInt_eq_ofNat]
          exact K
        next => cases hs
      next hkx =>
        split at hs
        next n hk =>
          cases hs
          have K := kk _ _ _ hW hl hlen
          rw [hpc1] at K
          exact va_alen hx hb hK hW.1 k 0 (fx_wl_get hk) ht0 Int32.ofInt_eq_ofNat.symm hd K
        next => cases hs
    next => cases hs
  case invokeinterface =>
    rename_i ci sl
    split at hs
    next k r =>
      split at hs
      next cj fs hk =>
        split at hs
        next hc =>
          subst hc
          split at hn
          · simp only [decide_eq_true_eq] at hn
            obtain ⟨rfl, hq⟩ := hn
            obtain ⟨C, T, N, hcj, hslN, hlink⟩ := hFT _ hq
            obtain ⟨hu, -, -⟩ := hcl _ _ _ _ hcj
            have key : ∀ (o : Option Nat), fs[sl]? = some o → ∀ w, w = (match o with | some r => Value.ref (ad r) | none => .int (Int32.ofInt (M k sl))) → W p l e R s m args below meth c H locs cells slots Q (F0 m (pc + 3) L (w :: r.map (fx_g ad))) → W p l e R s m args below meth c H locs cells slots Q (F0 m pc L (.ref (ad k) :: r.map (fx_g ad))) := by
              intro o ho w hw K
              refine va_get (cl := cl) (C := C) (T := T) (N := N) hx hb hts hu hown hK hW.1 k (fx_wl_get hk) hcj sl hslN (hts _ hlink) (fun _ h9 => h9) (v := w) ?_ hd K
              rw [List.getElem?_map, List.getElem?_zipIdx, ho, hw]
              simp
              rcases o with _ | o <;> rfl
            split at hs
            next a ha =>
              cases hs
              have K := kk _ _ _ hW hl hlen
              rw [hpc1] at K
              exact key _ ha _ rfl K
            next ha =>
              cases hs
              have K := kk _ _ _ hW hl hlen
              rw [hpc1] at K
              exact key _ ha _ rfl K
            next => cases hs
          · cases hn
        next => cases hs
      next => cases hs
    next => cases hs
  case multianewarray =>
    rename_i ci sl
    split at hs
    next v k r =>
      split at hs
      next cj fs hk =>
        split at hs
        next hc =>
          subst hc
          split at hn
          · simp only [decide_eq_true_eq] at hn
            obtain ⟨rfl, hq⟩ := hn
            obtain ⟨C, T, N, hcj, hslN, hlink, hfin, hpi⟩ := hPT _ hq
            obtain ⟨hu, ⟨ty0, hty0⟩, hnm⟩ := hcl _ _ _ _ hcj
            split at hs
            next ha =>
              cases hs
              have hfl : sl < fs.length := (List.getElem?_eq_some_iff.mp ha).1
              refine va_put (cl := cl) (C := C) (T := T) (N := N) hx hb hts hu ty0 hty0 hnm hown hK hW.1 hW.2.1 hW.2.2 k (fx_wl_get hk) hcj sl hslN (hts _ hlink) (fun _ h9 => h9) hfin hpi (v := .int (Int32.ofInt v)) rfl rfl (by simp [hfl]) hd (fun H1 locs1 hP hD hS => ?_)
              rw [← hpc1]
              have ew := fx_wl_set (ad := ad) (cA := cA) (f := fx_up (M k) sl v) hk (fx_ce_fld (ad := ad) (cA := cA) ha)
              exact kk _ _ _ ⟨Eq.mp (congrArg (fun z => va_P D cl z H1) ew) hP, Eq.mp (congrArg (fun z => va_D A z) ew) hD, hS⟩ hl hlen
            next => cases hs
          · cases hn
        next => cases hs
      next => cases hs
    next => cases hs
  case nop =>
    split at hs
    next n dp k1 sp k0 r =>
      split at hs
      next n0 n1 hk0 hk1 =>
        split at hs
        next hc =>
          obtain ⟨q1, q2, q3, q4, q5, q6, q7, q8, q9⟩ := hc
          cases hs
          have q1 := fx_rb_iff.mp q1
          have q2 := fx_rb_iff.mp q2
          have q3 := fx_rb_iff.mp q3
          split at hn
          · simp only [decide_eq_true_eq] at hn
            obtain ⟨rfl, hq, h1f, h1l⟩ := hn
            obtain ⟨w1, w2, w3, w4⟩ := hLT _ hq rfl
            have cl0 : ∀ z : Int, fx_r z → (Int32.ofInt z).toNatClampNeg = z.toNat := fun z hz => Int32.toNatClampNeg_ofInt_of_le hz.1 hz.2
            have ng : ∀ z : Int, fx_r z → 0 ≤ z → ¬ Int32.ofInt z < 0 := fun z hz h0 h => by rw [show (0 : Int32) = Int32.ofInt 0 from rfl, fx_lt hz fx_r0] at h; omega
            refine va_copyi hx hb (hml.trans hl.1.symm) hown (hts _ w1) (hts _ w2) (hts _ w3) (hts _ w4) hK hW.1 hW.2.1 hW.2.2 k0 k1 0 0 (fx_wl_get hk0) (fx_wl_get hk1) ht0 ht0 rfl (ng _ q3 q6) (ng _ q2 q5) (ng _ q1 q4) (by rw [cl0 _ q3, cl0 _ q1]; omega) (by rw [cl0 _ q2, cl0 _ q1]; omega) (fun _ _ => rfl) (by omega) ?_ hd (fun H1 locs1 hP hD hS => ?_)
            · rw [fx_cs_g]; omega
            · rw [← hpc1]
              rw [cl0 _ q1, cl0 _ q2, cl0 _ q3] at hP hD
              rw [fx_wl_set (f := fx_cp (M k0) (M k1) sp.toNat dp.toNat n.toNat) hk1 (fx_ce_cp _ _ _ _)] at hP hD
              exact kk _ _ _ ⟨hP, hD, hS⟩ hl hlen
          · cases hn
        next => cases hs
      next => cases hs
    next => cases hs
  case swap =>
    split at hs
    next y x r =>
      split at hs
      next hc =>
        obtain ⟨q1, q2, q3⟩ := hc
        cases hs
        have q1 := fx_rb_iff.mp q1
        have q2 := fx_rb_iff.mp q2
        have K := kk _ _ _ hW hl hlen
        split at hn
        · simp only [decide_eq_true_eq] at hn
          obtain ⟨rfl, hq, h1f, h1l⟩ := hn
          obtain ⟨w1, w2, w3, w4⟩ := hLM _ hq rfl
          refine va_mmax hx hb (hml.trans hl.1.symm) hown (hts _ w1) (hts _ w2) (hts _ w3) (hts _ w4) (by omega) (by rw [fx_cs_g]; omega) hcs.1 hcs.2 hd ?_
          rw [hpc1] at K
          rw [show (if Int32.ofInt x < Int32.ofInt y then Int32.ofInt y else Int32.ofInt x) = Int32.ofInt (if x < y then y else x) by simp only [fx_lt q1 q2, apply_ite Int32.ofInt]]
          exact K
        · cases hn
      next => cases hs
    next => cases hs
  case pop2 =>
    split at hs
    next y x r =>
      split at hs
      next hc =>
        obtain ⟨q1, q2, q3⟩ := hc
        cases hs
        have q1 := fx_rb_iff.mp q1
        have q2 := fx_rb_iff.mp q2
        have K := kk _ _ _ hW hl hlen
        split at hn
        · simp only [decide_eq_true_eq] at hn
          obtain ⟨rfl, hq, h1f, h1l⟩ := hn
          obtain ⟨w1, w2, w3, w4⟩ := hLm _ hq rfl
          refine va_mmin hx hb (hml.trans hl.1.symm) hown (hts _ w1) (hts _ w2) (hts _ w3) (hts _ w4) (by omega) (by rw [fx_cs_g]; omega) hcs.1 hcs.2 hd ?_
          rw [hpc1] at K
          rw [show (if Int32.ofInt y < Int32.ofInt x then Int32.ofInt y else Int32.ofInt x) = Int32.ofInt (if y < x then y else x) by simp only [fx_lt q2 q1, apply_ite Int32.ofInt]]
          exact K
        · cases hn
      next => cases hs
    next => cases hs
  all_goals cases hs
end FXS
