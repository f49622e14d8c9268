/-! what would be: the trial strip of the class -/
theorem z_lay_x {mu nu : Int → Int} {O O' : Nat → Int} {p : Nat} (hp : p < 6) (h : ∀ k, k < 144 → O k = O' k) : ∀ k, k < 144 → z_lay mu nu O p 24 k = z_lay mu nu O' p 24 k := by
  intro k hk
  unfold z_lay
  by_cases c : 24 * p ≤ k ∧ k < 24 * p + 24
  · rw [if_pos c, if_pos c]
    by_cases q : 0 ≤ nu ((k : Int) - 24 * p) ∧ nu ((k : Int) - 24 * p) < 24
    · rw [h (24 * p + (nu ((k : Int) - 24 * p)).toNat) (by omega)]
    · rw [if_neg (fun a => q ⟨a.1.1, a.1.2.1⟩), if_neg (fun a => q ⟨a.1.1, a.1.2.1⟩)]
  · rw [if_neg c, if_neg c]
    exact h k hk
section TRL
variable {X : fx_Sc} {M M' : fx_M} {j i : Nat}
theorem Ev.loopX (N : Nat) (I : Nat → List fx_V → fx_M → Prop) (hs : ∀ c, c < N → ∀ L M, I c L M → ∃ L1 M1, I (c + 1) L1 M1 ∧ ∀ r M', Ev X j i L1 [] M1 r M' → Ev X j i L [] M r M') :
    ∀ L M, I 0 L M → ∃ L1 M1, I N L1 M1 ∧ ∀ r M', Ev X j i L1 [] M1 r M' → Ev X j i L [] M r M' := by
  have key : ∀ n c, c + n = N → ∀ L M, I c L M → ∃ L1 M1, I N L1 M1 ∧ ∀ r M', Ev X j i L1 [] M1 r M' → Ev X j i L [] M r M' := by
    intro n
    induction n with
    | zero =>
      intro c hc L M h
      have : c = N := by omega
      subst this
      exact ⟨L, M, h, fun _ _ k => k⟩
    | succ n ih =>
      intro c hc L M h
      obtain ⟨L1, M1, h1, h2⟩ := hs c (by omega) L M h
      obtain ⟨L2, M2, h3, h4⟩ := ih (c + 1) (by omega) L1 M1 h1
      exact ⟨L2, M2, h3, fun r M' k => h2 r M' (h4 r M' k)⟩
  exact fun L M h => key N 0 (by omega) L M h
/-- the trial is a copy -/
def y_tr (M : fx_M) : fx_M := fx_set (fx_set M 6 (z_cpy (M 2) (M 6) 144)) 7 (z_cpy (M 3) (M 7) 6)
theorem ev_try : Ev X 77 0 [fx_f 5, fx_f 1] [] M none (y_tr M) := ev_copyFrom isS5 isS1 (by omega)
theorem try_D (S : pS M 1) (hi : z_inv (M 2)) : pS (y_tr M) 5 ∧ z_inv (y_tr M 6) ∧ (∀ k, k < 144 → y_tr M 6 k = M 2 k) ∧ (∀ p, p < 6 → y_tr M 7 p = M 3 p) ∧ (∀ r, r ≠ 6 → r ≠ 7 → y_tr M r = M r) := by
  have e6 : ∀ k, k < 144 → y_tr M 6 k = M 2 k := fun k hk => by
    unfold y_tr
    rw [fx_sn (by omega), fx_sk]
    unfold z_cpy
    rw [if_pos hk]
  have e7 : ∀ p, p < 6 → y_tr M 7 p = M 3 p := fun p hp => by
    unfold y_tr
    rw [fx_sk]
    unfold z_cpy
    rw [if_pos hp]
  refine ⟨⟨isS5, fun k hk => ?_, fun p hp => ?_⟩, fun p e hp he => ?_, e6, e7, fun r h1 h2 => by unfold y_tr; rw [fx_sn h2, fx_sn h1]⟩
  · show -1 ≤ y_tr M 6 k ∧ y_tr M 6 k < 24
    rw [e6 k hk]; exact S.2.1 k hk
  · show 0 ≤ y_tr M 7 p ∧ y_tr M 7 p < 6
    rw [e7 p hp]; exact S.2.2 p hp
  · rw [e6 _ (by omega)]
    rcases hi p e hp he with q | ⟨o, q1, q2, q3, q4⟩
    · exact Or.inl q
    · exact Or.inr ⟨o, q1, q2, q3, by rw [e6 _ (by omega)]; exact q4⟩
theorem zr_x {O O' : Nat → Int} (h : ∀ k, k < 144 → O k = O' k) (hz : zr O) : zr O' := ⟨fun k hk => by rw [← h k hk]; exact hz.1 k hk, z_inv_x (fun k hk => (h k hk).symm) hz.2⟩
def vT (O : Nat → Int) (p : Nat) (x : Int) : Nat → Int := z_lay (z_tn x) (z_tn x) O p 24
theorem if_D {p : Nat} {x2 : Int} (h : sC M 1) (hp : p < 6) (hx : 0 ≤ x2 ∧ x2 < 3) : ∃ MF : fx_M, (∀ (x3 z : Int) (M' : fx_M), 0 ≤ x3 ∧ x3 < 3 → Ev X 30 25 [fx_f 0, .inl (p : Int), .inl x2, .inl x3] [] MF (some (.inl z)) M' → Ev X 30 0 [fx_f 0, .inl (p : Int), .inl x2, .inl x3] [] M (some (.inl z)) M') ∧ frC MF M ∧ sC MF 5 ∧ (∀ k, k < 144 → MF 6 k = vT (M 2) p x2 k) ∧ (∀ q, q < 6 → MF 7 q = M 3 q) := by
  obtain ⟨t1, t2, t3, t4, t5⟩ := try_D h.1 h.2
  have fl := ev_flip (X := X) (a := 5) (h := x2) t1 t2 hp hx
  obtain ⟨MF, hMF⟩ : ∃ MF : fx_M, MF = z_lM (y_tr M) 5 (z_tn x2) (z_tn x2) p 24 := ⟨_, rfl⟩
  rw [← hMF] at fl
  have F6 : MF 6 = z_lay (z_tn x2) (z_tn x2) (y_tr M 6) p 24 := by rw [hMF]; unfold z_lM; rw [show (6 : Nat) = 5 + 1 from rfl, fx_sk]
  have F7 : MF 7 = y_tr M 7 := by rw [hMF]; unfold z_lM; rw [fx_sn (by omega), fx_sn (by omega)]
  have Fo : frC MF M := fun r hr => by rw [hMF]; unfold z_lM; rw [fx_sn (by omega), fx_sn (by omega), t5 r (by omega) (by omega)]
  have PF : pS MF 5 := ⟨isS5, fun k hk => by show -1 ≤ MF 6 k ∧ MF 6 k < 24; rw [F6]; exact z_lay_rg t1.2.1 t2 hp tn_hn k hk, fun q hq => by show 0 ≤ MF 7 q ∧ MF 7 q < 6; rw [F7]; exact t1.2.2 q hq⟩
  have iF : z_inv (MF 6) := by rw [F6]; exact z_inv_lay t1.2.1 t2 hp tn_hn (fun t ht _ _ _ => z_tn_inv (by omega))
  exact ⟨MF, fun x3 z M' h3 k => r30_0 (ev_isPanel_y (by omega)) (r30_2T (by omega) (by omega) (r30_5 (ev_isTurn_y hx) (r30_7F (by omega) (by omega) (r30_8F (by omega) (by omega) (r30_10T (by omega) (by omega) (r30_15 ev_try (r30_20 fl k))))))), Fo, ⟨PF, iF⟩, fun k hk => by rw [F6]; exact z_lay_x hp t3 k hk, fun q hq => by rw [F7]; exact t4 q hq⟩
theorem ask_if0 {p : Nat} {x2 : Int} (h : sC M 1) (hp : p < 6) (hx : 0 ≤ x2 ∧ x2 < 3) : ∃ M1, Ev X 30 0 [fx_f 0, .inl (p : Int), .inl x2, .inl 0] [] M (some (.inl (z_loose (fun k => decide (vT (M 2) p x2 k ≠ -1)) : Int))) M1 ∧ frC M1 M := by
  obtain ⟨MF, c1, fo, S5, e6, e7⟩ := if_D (X := X) h hp hx
  have e : z_loose (ph MF 5) = z_loose (fun k => decide (vT (M 2) p x2 k ≠ -1)) := z_loose_x fun k hk => by
    show decide (MF 6 k ≠ -1) = decide (vT (M 2) p x2 k ≠ -1)
    rw [e6 k hk]
  rw [← e]
  exact ⟨MF, c1 _ _ _ (by omega) (r30_25F (by omega) rfl (r30_27 (ev_looseEnds S5.1) r30_30)), fo⟩
theorem ask_if1 {p : Nat} {x2 : Int} (h : sC M 1) (hp : p < 6) (hx : 0 ≤ x2 ∧ x2 < 3) : ∃ M1, Ev X 30 0 [fx_f 0, .inl (p : Int), .inl x2, .inl 1] [] M (some (.inl (zn (vT (M 2) p x2) : Int))) M1 ∧ frC M1 M := by
  obtain ⟨MF, c1, fo, S5, e6, e7⟩ := if_D (X := X) h hp hx
  obtain ⟨MC, tr1, tr2, tr3⟩ := ev_trace5 (X := X) S5.1 (zr_of S5)
  have en : zn (vT (M 2) p x2) = zn (MF 6) := by
    unfold zn
    rw [zN_x (fun k hk => (e6 k hk).symm) (zr_x e6 (zr_of S5)) (zr_of S5)]
  rw [en]
  have n1 : MC 9 0 = (zn (MF 6) : Int) := tr2.1
  have s49 := r49_0 (X := X) (M := MC)
  rw [n1] at s49
  exact ⟨MC, c1 _ _ _ (by omega) (r30_25T (by omega) (by omega) (r30_31 tr1 (r30_36F (by omega) rfl (r30_39 s49 r30_42)))), fun q hq => by rw [tr3 q (by omega), fo q (by omega)]⟩
theorem ask_if2 {p : Nat} {x2 : Int} {T : fx_M} (h : sC M 1) (hp : p < 6) (hx : 0 ≤ x2 ∧ x2 < 3) (hT : cL (vT (M 2) p x2) (M 3) T 144) : ∃ M1, Ev X 30 0 [fx_f 0, .inl (p : Int), .inl x2, .inl 2] [] M (some (.inl (l_lp (T 16) (zn (vT (M 2) p x2)) : Int))) M1 ∧ frC M1 M := by
  obtain ⟨MF, c1, fo, S5, e6, e7⟩ := if_D (X := X) h hp hx
  obtain ⟨MC, tr1, tr2, tr3⟩ := ev_trace5 (X := X) S5.1 (zr_of S5)
  have zV := zr_x e6 (zr_of S5)
  have en : zn (vT (M 2) p x2) = zn (MF 6) := by
    unfold zn
    rw [zN_x (fun k hk => (e6 k hk).symm) zV (zr_of S5)]
  have un := (cL_un (cL_x e6 (zr_of S5) zV e7 tr2) hT).2.2
  have e : l_lp (MC 16) (zn (MF 6)) = l_lp (T 16) (zn (vT (M 2) p x2)) := by
    rw [← en]
    unfold l_lp
    exact pb_c_ext fun i hi => by rw [(un i hi).2.2.2.2.2]
  have n1 : MC 9 0 = (zn (MF 6) : Int) := tr2.1
  rw [← e]
  exact ⟨MC, c1 _ _ _ (by omega) (r30_25T (by omega) (by omega) (r30_31 tr1 (r30_36T (by omega) (by omega) (r30_43 (ev_l55 n1 (cL_ok (zr_of S5) tr2)) r30_46)))), fun q hq => by rw [tr3 q (by omega), fo q (by omega)]⟩
end TRL
