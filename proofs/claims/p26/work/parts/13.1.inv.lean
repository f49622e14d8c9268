/-! the class' object alone: what holds of it between two calls -/
def sC (M : fx_M) (a : Nat) : Prop := pS M a ∧ z_inv (M (a + 1))
theorem z_inv_x {O O' : Nat → Int} (h : ∀ k, k < 144 → O' k = O k) (hi : z_inv O) : z_inv O' := by
  intro p e hp he
  rw [h _ (by omega)]
  rcases hi p e hp he with g | ⟨o, o1, o2, o3, o4⟩
  · exact Or.inl g
  · exact Or.inr ⟨o, o1, o2, o3, by rw [h _ (by omega)]; exact o4⟩
theorem sC_mv {M M' : fx_M} {a a' : Nat} (h : sC M a) (ha : fd_isS a') (h1 : ∀ k, k < 144 → M' (a' + 1) k = M (a + 1) k) (h2 : ∀ p, p < 6 → M' (a' + 2) p = M (a + 2) p) : sC M' a' := by
  obtain ⟨⟨g1, g2, g3⟩, g4⟩ := h
  refine ⟨⟨ha, fun k hk => ?_, fun k hk => ?_⟩, z_inv_x h1 g4⟩
  · rw [h1 k hk]; exact g2 k hk
  · rw [h2 k hk]; exact g3 k hk
theorem sC_f {M M' : fx_M} {a : Nat} (h : sC M a) (h1 : M' (a + 1) = M (a + 1)) (h2 : M' (a + 2) = M (a + 2)) : sC M' a := sC_mv h h.1.1 (fun k _ => by rw [h1]) (fun p _ => by rw [h2])
def hC (M : fx_M) : Prop := (∃ n a : Nat, n ≤ 6 ∧ a < 6 ∧ M 19 1 = (n : Int) ∧ M 19 2 = (a : Int)) ∧ ∀ i, i < 6 → sC M (21 + 4 * i)
def kC (M : fx_M) : Prop := ∀ i, i < 2 → (M 47 i = 0 ∨ M 47 i = 1) ∧ sC M (48 + 4 * i)
def cI (M : fx_M) : Prop := sC M 1 ∧ hC M ∧ kC M
def frC (M' M : fx_M) : Prop := ∀ q, q < 5 ∨ 16 < q → M' q = M q
theorem frC_r (M : fx_M) : frC M M := fun _ _ => rfl
theorem frC_t {M M1 M2 : fx_M} (h : frC M2 M1) (h1 : frC M1 M) : frC M2 M := fun q hq => by rw [h q hq, h1 q hq]
theorem hC_f {M M' : fx_M} (h : hC M) (h1 : ∀ q, 19 ≤ q → q ≤ 44 → M' q = M q) : hC M' := by
  obtain ⟨⟨n, a, g1, g2, g3, g4⟩, g5⟩ := h
  exact ⟨⟨n, a, g1, g2, by rw [h1 19 (by omega) (by omega)]; exact g3, by rw [h1 19 (by omega) (by omega)]; exact g4⟩, fun i hi => sC_f (g5 i hi) (h1 _ (by omega) (by omega)) (h1 _ (by omega) (by omega))⟩
theorem kC_f {M M' : fx_M} (h : kC M) (h1 : ∀ q, 47 ≤ q → q ≤ 55 → M' q = M q) : kC M' := by
  intro i hi
  rw [h1 47 (by omega) (by omega)]
  exact ⟨(h i hi).1, sC_f (h i hi).2 (h1 _ (by omega) (by omega)) (h1 _ (by omega) (by omega))⟩
theorem cI_r {M M1 : fx_M} (h : cI M) (f : frC M1 M) : cI M1 := ⟨sC_f h.1 (f 2 (by omega)) (f 3 (by omega)), hC_f h.2.1 (fun q _ _ => f q (by omega)), kC_f h.2.2 (fun q _ _ => f q (by omega))⟩
theorem sC_r {M M1 : fx_M} (h : sC M 1) (f : frC M1 M) : sC M1 1 := sC_f h (f 2 (by omega)) (f 3 (by omega))
theorem zr_of {M : fx_M} {a : Nat} (h : sC M a) : zr (M (a + 1)) := ⟨h.1.2.1, h.2⟩
/-! tables of lines hold the same, whoever traced them -/
theorem cL_un {O H : Nat → Int} {M T : fx_M} (h : cL O H M 144) (h' : cL O H T 144) : M 9 0 = T 9 0 ∧ (∀ k, k < 144 → zP O k → M 10 k = T 10 k) ∧ ∀ i, i < (zN O 144).length → M 11 i = T 11 i ∧ M 12 i = T 12 i ∧ M 13 i = T 13 i ∧ M 14 i = T 14 i ∧ M 15 i = T 15 i ∧ M 16 i = T 16 i := by
  refine ⟨by rw [h.1, h'.1], fun k hk hP => ?_, fun i hi => ?_⟩
  · obtain ⟨s, h1, h2⟩ := zN_all hk hP
    obtain ⟨i, h3, h4⟩ := li_mem h1
    rw [(h.2.1 k hk).1 i s h3 h2, (h'.2.1 k hk).1 i s h3 h2]
  · obtain ⟨m, t, w, e1, e2, e3, e4, e5⟩ := h.2.2.1 i _ (List.getElem?_eq_getElem hi)
    obtain ⟨m', t', w', f1, f2, f3, f4, f5⟩ := h'.2.2.1 i _ (List.getElem?_eq_getElem hi)
    have hu := zT_un e4 f4
    have hr := zRes_un e5 f5
    exact ⟨by omega, by omega, by omega, hr.1, hr.2.1, hr.2.2⟩
theorem cL_x {O O' H H' : Nat → Int} {T : fx_M} (h : ∀ k, k < 144 → O k = O' k) (hz : zr O) (hz' : zr O') (hH : ∀ p, p < 6 → H p = H' p) (hL : cL O H T 144) : cL O' H' T 144 := by
  obtain ⟨l1, l2, l3, l4⟩ := hL
  have eN := zN_x h hz hz' 144
  have ec : ∀ s, s ∈ zN O 144 → zc O s = zc O' s := fun s hs => zc_x h hz hz' (zN_in hs).1
  unfold cL
  rw [← eN]
  refine ⟨l1, fun k hk => ⟨fun i s hi hs => (l2 k hk).1 i s hi ?_, fun hs => (l2 k hk).2 fun s q => ?_⟩, fun i s hi => ?_, ?_⟩
  · rw [ec s (li_of hi).1]; exact hs
  · rw [ec s q]; exact hs s q
  · obtain ⟨m, t, w, e1, e2, e3, e4, e5⟩ := l3 i s hi
    have hs := (li_of hi).1
    refine ⟨m, t, w, e1, e2, e3, ⟨by rw [← ec s hs]; exact e4.1, by rw [← ec s hs]; exact e4.2.1, ?_⟩, zRes_x h hz hz' (zN_in hs).1 e5⟩
    rw [← ec s hs]
    refine ⟨e4.2.2.1, fun p => (e4.2.2.2 p).trans ?_⟩
    have hz4 : ∀ k, zc O s k → zhf H k = zhf H' k := fun k hk => by
      have := (zc_P hz (zN_in hs).1 hk).1
      unfold zhf
      rw [hH _ (by omega)]
    exact ⟨fun ⟨k, hk, hf⟩ => ⟨k, hk, by rw [← hz4 k hk]; exact hf⟩, fun ⟨k, hk, hf⟩ => ⟨k, hk, by rw [hz4 k hk]; exact hf⟩⟩
  · have : zU (zN O 144) O = zU (zN O 144) O' := by
      funext k
      unfold zU
      refine propext ⟨fun ⟨s, q1, q2⟩ => ⟨s, q1, by rw [← ec s q1]; exact q2⟩, fun ⟨s, q1, q2⟩ => ⟨s, q1, by rw [ec s q1]; exact q2⟩⟩
    rw [← this]
    exact l4
section TRD
variable {X : fx_Sc} {M M' : fx_M}
theorem trace_D (h : sC M 1) : ∃ M1, Ev X 41 0 [fx_f 9, fx_f 1, fx_u] [] M none M1 ∧ cL (M 2) (M 3) M1 144 ∧ frC M1 M := by
  obtain ⟨M1, h1, h2, h3⟩ := ev_trace (X := X) h.1 (zr_of h)
  exact ⟨M1, h1, h2, fun q hq => h3 q (by omega)⟩
end TRD
