/-! LEVEL 2: the class's refusal -/
def g_isF (C : List ag_C) (r : Nat) : Prop := C[r]? = some (5, 5, [none, none, none, none, none])
section L2u
variable {E : Nat × (Int → Int)} {C : List ag_C} {N : Nat → Int → Int} {r : Nat}

theorem ev_X5_noteCause {d : Nat} (hd : 1 ≤ d) (hf : g_isF C r) (x y : Int) : Ev E d 58 [vA r, vI x, vI y] (C, N) (none, (C, ag_upd (ag_upd N r 3 x) r 4 y)) := by
  obtain ⟨d, rfl⟩ : ∃ j, d = j + 1 := ⟨d - 1, by omega⟩
  refine Ev.intro (M := ag_mX5_noteCause) rfl rfl ?_
  show AR E d _ (0, [some (vA r), some (vI x), some (vI y)], [], (C, N)) _
  refine AR.blk 2 (f' := (2, [some (vA r), some (vI x), some (vI y)], [vI x, vA r], (C, N))) (fun _ => rfl) ?_
  refine AR.putI rfl rfl hf (by decide) (fun q => absurd q (by decide)) ?_
  refine AR.blk 2 (f' := (7, [some (vA r), some (vI x), some (vI y)], [vI y, vA r], (C, ag_upd N r 3 x))) (fun _ => rfl) ?_
  refine AR.putI rfl rfl hf (by decide) (fun q => absurd q (by decide)) ?_
  exact AR.retV rfl rfl rfl

theorem ev_X5_note {d : Nat} (hd : 2 ≤ d) (hf : g_isF C r) (x y z : Int) : Ev E d 57 [vA r, vI x, vI y, vI z] (C, N) (none, (C, ag_upd (ag_upd (ag_upd (ag_upd (ag_upd N r 0 x) r 1 y) r 2 z) r 3 (-4)) r 4 (-4))) := by
  obtain ⟨d, rfl⟩ : ∃ j, d = j + 1 := ⟨d - 1, by omega⟩
  refine Ev.intro (M := ag_mX5_note) rfl rfl ?_
  show AR E d _ (0, [some (vA r), some (vI x), some (vI y), some (vI z)], [], (C, N)) _
  refine AR.blk 2 (f' := (2, [some (vA r), some (vI x), some (vI y), some (vI z)], [vI x, vA r], (C, N))) (fun _ => rfl) ?_
  refine AR.putI rfl rfl hf (by decide) (fun q => absurd q (by decide)) ?_
  refine AR.blk 2 (f' := (7, [some (vA r), some (vI x), some (vI y), some (vI z)], [vI y, vA r], (C, ag_upd N r 0 x))) (fun _ => rfl) ?_
  refine AR.putI rfl rfl hf (by decide) (fun q => absurd q (by decide)) ?_
  refine AR.blk 2 (f' := (12, [some (vA r), some (vI x), some (vI y), some (vI z)], [vI z, vA r], (C, ag_upd (ag_upd N r 0 x) r 1 y))) (fun _ => rfl) ?_
  refine AR.putI rfl rfl hf (by decide) (fun q => absurd q (by decide)) ?_
  refine AR.blk 3 (f' := (20, [some (vA r), some (vI x), some (vI y), some (vI z)], [vI (-4), vI (-4), vA r], (C, ag_upd (ag_upd (ag_upd N r 0 x) r 1 y) r 2 z))) (fun _ => rfl) ?_
  refine AR.callV [vI (-4), vI (-4)] (ev_X5_noteCause (by omega) (N := ag_upd (ag_upd (ag_upd N r 0 x) r 1 y) r 2 z) hf (-4) (-4)) hf rfl rfl rfl rfl rfl ?_
  show AR E d _ (23, [some (vA r), some (vI x), some (vI y), some (vI z)], [], (C, ag_upd (ag_upd (ag_upd (ag_upd (ag_upd N r 0 x) r 1 y) r 2 z) r 3 (-4)) r 4 (-4))) _
  exact AR.retV rfl rfl rfl
end L2u
