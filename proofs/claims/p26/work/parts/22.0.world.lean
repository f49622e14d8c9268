/-! the first memory; all cells together -/
theorem m0_2 : ∀ k, k < 144 → q_M0 2 k = -1 := fun k hk => if_pos hk
theorem sC_0 {M : fx_M} {a : Nat} (ha : fd_isS a) (h1 : M (a + 1) = q_mB) (h2 : M (a + 2) = q_mH) : sC M a := by
  have hB : ∀ k, k < 144 → q_mB k = -1 := fun k hk => if_pos hk
  have hH : ∀ k : Nat, k < 6 → q_mH k = (k : Int) := fun k hk => if_pos hk
  refine ⟨⟨ha, fun k hk => ?_, fun k hk => ?_⟩, fun p e hp he => ?_⟩
  · rw [h1, hB k hk]; omega
  · rw [h2, hH k hk]; omega
  · rw [h1]
    exact Or.inl (hB _ (by omega))
theorem cI_0 : cI q_M0 := by
  refine ⟨sC_0 isS1 rfl rfl, ⟨⟨0, 0, by omega, by omega, rfl, rfl⟩, fun i hi => ?_⟩, fun i hi => ?_⟩
  · have : i = 0 ∨ i = 1 ∨ i = 2 ∨ i = 3 ∨ i = 4 ∨ i = 5 := by omega
    rcases this with rfl | rfl | rfl | rfl | rfl | rfl <;> exact sC_0 (isS_st _ (by omega)) rfl rfl
  · have : i = 0 ∨ i = 1 := by omega
    rcases this with rfl | rfl <;> exact ⟨Or.inl rfl, sC_0 (isS_sl _ (by omega)) rfl rfl⟩
/-- addresses of all cells: the class', the script's -/
def q_gl (a1 : Nat → Nat) (b : Nat) : Nat → Nat := fun k => if k < 56 then a1 k else b
set_option maxRecDepth 100000 in
theorem q_app {a1 : Nat → Nat} {b : Nat} {cA : Nat → ClassId} : fx_wl a1 cA q_SC q_MC0 = fx_wl (q_gl a1 b) cA fd_SH q_M0 := by
  have hg5 : (fun j : Nat => (([21, 25, 29, 33, 37, 41] : List Nat)[j]?).map a1) = (fun j : Nat => (([21, 25, 29, 33, 37, 41] : List Nat)[j]?).map (q_gl a1 b)) := by
    funext j
    match j with
    | 0 => rfl
    | 1 => rfl
    | 2 => rfl
    | 3 => rfl
    | 4 => rfl
    | 5 => rfl
    | j + 6 => first | rfl | simp
  have hg6 : (fun j : Nat => (([48, 52] : List Nat)[j]?).map a1) = (fun j : Nat => (([48, 52] : List Nat)[j]?).map (q_gl a1 b)) := by
    funext j
    match j with
    | 0 => rfl
    | 1 => rfl
    | j + 2 => first | rfl | simp
  refine List.ext_getElem? fun k => ?_
  match k with
  | 0 => rfl
  | 1 => rfl
  | 2 => rfl
  | 3 => rfl
  | 4 => rfl
  | 5 => rfl
  | 6 => rfl
  | 7 => rfl
  | 8 => rfl
  | 9 => rfl
  | 10 => rfl
  | 11 => rfl
  | 12 => rfl
  | 13 => rfl
  | 14 => rfl
  | 15 => rfl
  | 16 => rfl
  | 17 => rfl
  | 18 => rfl
  | 19 => rfl
  | 20 => exact congrArg (fun g : Nat → Option Nat => some (a1 20, (q_r cA 6 g))) hg5
  | 21 => rfl
  | 22 => rfl
  | 23 => rfl
  | 24 => rfl
  | 25 => rfl
  | 26 => rfl
  | 27 => rfl
  | 28 => rfl
  | 29 => rfl
  | 30 => rfl
  | 31 => rfl
  | 32 => rfl
  | 33 => rfl
  | 34 => rfl
  | 35 => rfl
  | 36 => rfl
  | 37 => rfl
  | 38 => rfl
  | 39 => rfl
  | 40 => rfl
  | 41 => rfl
  | 42 => rfl
  | 43 => rfl
  | 44 => rfl
  | 45 => rfl
  | 46 => exact congrArg (fun g : Nat → Option Nat => some (a1 46, (q_r cA 2 g))) hg6
  | 47 => rfl
  | 48 => rfl
  | 49 => rfl
  | 50 => rfl
  | 51 => rfl
  | 52 => rfl
  | 53 => rfl
  | 54 => rfl
  | 55 => rfl
  | k + 56 => rfl
