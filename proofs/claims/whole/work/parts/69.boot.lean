/-! LEVEL 2: the two objects made -/
/-- more fuel does as well -/
theorem ag_run_fuel {T : ag_T} {call : Nat → List av → ag_H → Option ag_O} {E : Nat × (Int → Int)} {M : ag_M} : ∀ (n j : Nat) (f : ag_F) (r : ag_O), ag_run T call E M n f = some r → ag_run T call E M (n + j) f = some r := by
  intro n
  induction n with
  | zero => intro j f r hr; cases hr
  | succ n ih =>
    intro j f r hr
    obtain ⟨pc, ls, st, h⟩ := f
    rw [Nat.succ_add]
    unfold ag_run at hr ⊢
    split at hr
    · rename_i i len hq
      split at hr
      · rename_i f1 hs
        exact ih j f1 r hr
      · rename_i o1 hs
        exact hr
      · cases hr
    · cases hr
theorem ag_call_fuel {E : Nat × (Int → Int)} {fuel : Nat} (j : Nat) : ∀ (d y : Nat) (as : List av) (h : ag_H) (r : ag_O), ag_call ag_TT ag_Ms E fuel d y as h = some r → ag_call ag_TT ag_Ms E (fuel + j) d y as h = some r := by
  intro d
  induction d with
  | zero => intro y as h r hc; cases hc
  | succ d ih =>
    intro y as h r hc
    unfold ag_call at hc ⊢
    split at hc
    · obtain ⟨h1, h2⟩ := ag_ck_inv hc
      rw [ag_ck_of h1]
      exact ag_run_fuel _ j _ _ (ag_run_call ih _ _ _ h2)
    · cases hc
/-- the script does not matter where nothing asks for its length -/
def ag_nolen : Option (Instr × Nat) → Bool
  | some (.arraylength, _) => false
  | _ => true
def ag_E0 : Nat × (Int → Int) := (0, fun _ => 0)
theorem ag_step_E {T : ag_T} {call : Nat → List av → ag_H → Option ag_O} (E : Nat × (Int → Int)) {ci rt : Nat} {ini : Bool} {i : Instr} {len pc : Nat} {ls : List (Option av)} {st : List av} {h : ag_H} {x : ag_F ⊕ ag_O} (hn : ag_nolen (some (i, len)) = true) (hs : ag_step T call ag_E0 ci rt ini i len pc ls st h = some x) : ag_step T call E ci rt ini i len pc ls st h = some x := by
  cases i with
  | arraylength => cases hn
  | iaload =>
    unfold ag_step at hs ⊢
    dsimp only at hs ⊢
    split at hs
    · exact hs
    · have h1 := (ag_ck_inv hs).1
      exfalso
      have h2 : (0 : Int) ≤ _ ∧ _ < ((0 : Nat) : Int) ∧ _ := h1
      omega
    · cases hs
  | _ => exact hs
theorem ag_nolens : (ag_Ms.all fun M => M.2.2.2.2.all ag_nolen) = true := by decide +kernel
theorem ag_run_E {T : ag_T} {c1 c2 : Nat → List av → ag_H → Option ag_O} (hcc : ∀ y as h r, c1 y as h = some r → c2 y as h = some r) (E : Nat × (Int → Int)) {M : ag_M} (hM : M.2.2.2.2.all ag_nolen = true) : ∀ (n : Nat) (f : ag_F) (r : ag_O), ag_run T c1 ag_E0 M n f = some r → ag_run T c2 E M n f = some r := by
  intro n
  induction n with
  | zero => intro f r hr; cases hr
  | succ n ih =>
    intro f r hr
    obtain ⟨pc, ls, st, h⟩ := f
    unfold ag_run at hr ⊢
    split at hr
    · rename_i i len hq
      have hn : ag_nolen (some (i, len)) = true := List.all_eq_true.1 hM _ (List.mem_of_getElem? hq)
      split at hr
      · rename_i f1 hs
        rw [ag_step_E E hn (ag_step_call hcc hs)]
        exact ih f1 r hr
      · rename_i o1 hs
        rw [ag_step_E E hn (ag_step_call hcc hs)]
        exact hr
      · cases hr
    · cases hr
theorem ag_call_E (E : Nat × (Int → Int)) {fuel : Nat} : ∀ (d y : Nat) (as : List av) (h : ag_H) (r : ag_O), ag_call ag_TT ag_Ms ag_E0 fuel d y as h = some r → ag_call ag_TT ag_Ms E fuel d y as h = some r := by
  intro d
  induction d with
  | zero => intro y as h r hc; cases hc
  | succ d ih =>
    intro y as h r hc
    unfold ag_call at hc ⊢
    split at hc
    · rename_i M hM
      obtain ⟨h1, h2⟩ := ag_ck_inv hc
      rw [ag_ck_of h1]
      exact ag_run_E ih E (List.all_eq_true.1 ag_nolens _ (List.mem_of_getElem? hM)) _ _ _ h2
    · cases hc
theorem ag_Ev_of (E : Nat × (Int → Int)) {fuel d y : Nat} {as : List av} {h : ag_H} {r : ag_O} (hc : ag_call ag_TT ag_Ms ag_E0 fuel d y as h = some r) : Ev E d y as h r :=
  ⟨fuel, fun f hf => by
    have h1 := ag_call_fuel (f - fuel) _ _ _ _ _ (ag_call_E E _ _ _ _ _ hc)
    rwa [show fuel + (f - fuel) = f by omega] at h1⟩
/-! the cells -/
def ag_cB (b : Nat) : List ag_C := [(0, 6, [some (b + 1), none, some (b + 2), some (b + 3), some (b + 4), some (b + 5)]), (8, 36, []), (8, 4, []), (8, 4, []), (9, 4, []), (8, 4, [])]
def ag_cG (g : Nat) : List ag_C := (1, 9, [some (g + 1), some (g + 7), none, none, none, none, some (g + 10), some (g + 11), some (g + 12)]) :: (ag_cB (g + 1) ++ [(2, 3, [none, some (g + 8), some (g + 9)]), (11, 121, []), (11, 121, []), (8, 2, []), (8, 2, []), (8, 2, [])])
def ag_cX : List ag_C := (6, 9, [some 1, some 14, some 27, none, some 40, some 146, some 150, some 151, none]) :: (ag_cG 1 ++ ag_cG 14 ++ ag_cG 27 ++ [(4, 3, [some 41, none, none]), (12, 8, [some 42, some 55, some 68, some 81, some 94, some 107, some 120, some 133])] ++ ag_cG 42 ++ ag_cG 55 ++ ag_cG 68 ++ ag_cG 81 ++ ag_cG 94 ++ ag_cG 107 ++ ag_cG 120 ++ ag_cG 133 ++ [(3, 5, [none, some 147, none, some 148, some 149]), (8, 70, []), (8, 23, []), (8, 23, []), (5, 5, [none, none, none, none, none]), (8, 6, [])])
def ag_cM : List ag_C := [(7, 20, [some 153, some 154, some 155, some 156, some 157, none, none, none, none, none, none, none, none, some 158, none, some 159, none, none, some 160, none]), (8, 800, []), (8, 6400, []), (8, 800, []), (8, 800, []), (8, 800, []), (8, 70, []), (10, 6, []), (8, 64, [])]
def ag_ckN (N : Nat → Int → Int) : Bool :=
  (List.range 36).all (fun s => decide (N 3 s = -1)) && decide (N 2 1 = 0) && (List.range 4).all (fun k => decide (N 4 k = 0 ∧ N 5 k = 0 ∧ N 6 k = 0 ∧ N 7 k = 0)) && decide (N 8 0 = 0) && decide (N 1 2 = 0 ∧ N 1 3 = 0 ∧ N 1 4 = 0 ∧ N 1 5 = 0) && (List.range 2).all (fun k => decide (N 11 k = 0 ∧ N 12 k = 0 ∧ N 13 k = 0)) && decide (N 40 1 = 0 ∧ N 40 2 = 0 ∧ N 0 3 = 0 ∧ N 0 8 = 0 ∧ N 146 0 = 0) && decide (N 150 0 = -4 ∧ N 150 1 = -4 ∧ N 150 2 = -4 ∧ N 150 3 = -4 ∧ N 150 4 = -4)
  && decide (N 152 5 = 0 ∧ N 152 6 = 0 ∧ N 152 7 = 0 ∧ N 152 8 = 0 ∧ N 152 14 = 0 ∧ N 152 16 = 0) && (List.range 68).all (fun i => decide (N 153 i = 0))
def ag_H0 : ag_H := ([(6, 9, List.replicate 9 none)], ag_zero (fun _ _ => 0) 0)
def ag_bootc (o1 : Option ag_O) (k : ag_H → Option ag_O) : Bool := match o1 with
  | some (none, h1) => decide (h1.1.length = 152) && (match k h1 with
    | some (none, h2) => decide (h2.1 = ag_cX ++ ag_cM) && ag_ckN h2.2
    | _ => false)
  | _ => false
set_option maxRecDepth 100000 in
theorem ag_boot_ok : ag_bootc (ag_call ag_TT ag_Ms ag_E0 600 9 59 [vA 0] ag_H0) (fun h1 => ag_call ag_TT ag_Ms ag_E0 600 9 105 [vA 152] (h1.1 ++ [(7, 20, List.replicate 20 none)], ag_zero h1.2 152)) = true := by decide +kernel
