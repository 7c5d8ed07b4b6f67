/-! a step never shrinks the heap -/
theorem sg_mono {T : ag_T} {E : Nat × (Int → Int)} {ci rt : Nat} {ini : Bool} {call : Nat → List av → ag_H → Option ag_O} (hcall : ∀ y as h o h', call y as h = some (o, h') → h.1.length ≤ h'.1.length ∧ sg_ss h.1 ≤ sg_ss h'.1) {i : Instr} {len pc : Nat} {ls : List (Option av)} {st : List av} {h : ag_H} {f' : ag_F} (hs : ag_step T call E ci rt ini i len pc ls st h = some (.inl f')) : h.1.length ≤ f'.2.2.2.1.length ∧ sg_ss h.1 ≤ sg_ss f'.2.2.2.1 := by
  cases i with
  | iconst z =>
    unfold ag_step at hs
    dsimp only at hs
    cases hs
    exact ⟨Nat.le_refl _, Nat.le_refl _⟩
  | bipush z =>
    unfold ag_step at hs
    dsimp only at hs
    cases hs
    exact ⟨Nat.le_refl _, Nat.le_refl _⟩
  | sipush z =>
    unfold ag_step at hs
    dsimp only at hs
    cases hs
    exact ⟨Nat.le_refl _, Nat.le_refl _⟩
  | lconst z =>
    unfold ag_step at hs
    dsimp only at hs
    cases hs
    exact ⟨Nat.le_refl _, Nat.le_refl _⟩
  | fconst z =>
    unfold ag_step at hs
    dsimp only at hs
    cases hs
    exact ⟨Nat.le_refl _, Nat.le_refl _⟩
  | aconst_null =>
    unfold ag_step at hs
    dsimp only at hs
    cases hs
    exact ⟨Nat.le_refl _, Nat.le_refl _⟩
  | iload k =>
    unfold ag_step at hs
    dsimp only at hs
    obtain ⟨z, hi, hs1⟩ := ag_li_inv hs
    cases hs1
    exact ⟨Nat.le_refl _, Nat.le_refl _⟩
  | iload_n k =>
    unfold ag_step at hs
    dsimp only at hs
    obtain ⟨z, hi, hs1⟩ := ag_li_inv hs
    cases hs1
    exact ⟨Nat.le_refl _, Nat.le_refl _⟩
  | lload_n k =>
    unfold ag_step at hs
    dsimp only at hs
    obtain ⟨z, hi, hs1⟩ := ag_lj_inv hs
    cases hs1
    exact ⟨Nat.le_refl _, Nat.le_refl _⟩
  | fload_n k =>
    unfold ag_step at hs
    dsimp only at hs
    obtain ⟨z, hi, hs1⟩ := ag_lf_inv hs
    cases hs1
    exact ⟨Nat.le_refl _, Nat.le_refl _⟩
  | aload_n k =>
    unfold ag_step at hs
    dsimp only at hs
    obtain ⟨z, hi, hs1⟩ := ag_la_inv hs
    cases hs1
    exact ⟨Nat.le_refl _, Nat.le_refl _⟩
  | istore k =>
    unfold ag_step at hs
    dsimp only at hs
    obtain ⟨z, r, rfl, hs1⟩ := ag_i1_inv hs
    obtain ⟨hi, hs2⟩ := ag_ck_inv hs1
    cases hs2
    exact ⟨Nat.le_refl _, Nat.le_refl _⟩
  | istore_n k =>
    unfold ag_step at hs
    dsimp only at hs
    obtain ⟨z, r, rfl, hs1⟩ := ag_i1_inv hs
    obtain ⟨hi, hs2⟩ := ag_ck_inv hs1
    cases hs2
    exact ⟨Nat.le_refl _, Nat.le_refl _⟩
  | fstore_n k =>
    unfold ag_step at hs
    dsimp only at hs
    obtain ⟨z, r, rfl, hs1⟩ := ag_f1_inv hs
    obtain ⟨hi, hs2⟩ := ag_ck_inv hs1
    cases hs2
    exact ⟨Nat.le_refl _, Nat.le_refl _⟩
  | lstore_n k =>
    unfold ag_step at hs
    dsimp only at hs
    obtain ⟨z, r, rfl, hs1⟩ := ag_j1_inv hs
    obtain ⟨hi, hs2⟩ := ag_ck_inv hs1
    cases hs2
    exact ⟨Nat.le_refl _, Nat.le_refl _⟩
  | astore_n k =>
    unfold ag_step at hs
    dsimp only at hs
    obtain ⟨z, r, rfl, hs1⟩ := ag_r1_inv hs
    obtain ⟨hi, hs2⟩ := ag_ck_inv hs1
    cases hs2
    exact ⟨Nat.le_refl _, Nat.le_refl _⟩
  | iinc k n =>
    unfold ag_step at hs
    dsimp only at hs
    obtain ⟨z, hi, hs1⟩ := ag_li_inv hs
    cases hs1
    exact ⟨Nat.le_refl _, Nat.le_refl _⟩
  | dup =>
    unfold ag_step at hs
    dsimp only at hs
    split at hs
    · obtain ⟨hv, hs1⟩ := ag_ck_inv hs
      cases hs1
      exact ⟨Nat.le_refl _, Nat.le_refl _⟩
    · cases hs
  | dup2 =>
    unfold ag_step at hs
    dsimp only at hs
    split at hs
    · obtain ⟨⟨hv, hw⟩, hs1⟩ := ag_ck_inv hs
      cases hs1
      exact ⟨Nat.le_refl _, Nat.le_refl _⟩
    · cases hs
  | pop =>
    unfold ag_step at hs
    dsimp only at hs
    split at hs
    · obtain ⟨hv, hs1⟩ := ag_ck_inv hs
      cases hs1
      exact ⟨Nat.le_refl _, Nat.le_refl _⟩
    · cases hs
  | iadd =>
    unfold ag_step at hs
    dsimp only at hs
    obtain ⟨a, b, r, rfl, hs1⟩ := ag_i2_inv hs
    cases hs1
    exact ⟨Nat.le_refl _, Nat.le_refl _⟩
  | isub =>
    unfold ag_step at hs
    dsimp only at hs
    obtain ⟨a, b, r, rfl, hs1⟩ := ag_i2_inv hs
    cases hs1
    exact ⟨Nat.le_refl _, Nat.le_refl _⟩
  | imul =>
    unfold ag_step at hs
    dsimp only at hs
    obtain ⟨a, b, r, rfl, hs1⟩ := ag_i2_inv hs
    cases hs1
    exact ⟨Nat.le_refl _, Nat.le_refl _⟩
  | ladd =>
    unfold ag_step at hs
    dsimp only at hs
    obtain ⟨a, b, r, rfl, hs1⟩ := ag_j2_inv hs
    cases hs1
    exact ⟨Nat.le_refl _, Nat.le_refl _⟩
  | lmul =>
    unfold ag_step at hs
    dsimp only at hs
    obtain ⟨a, b, r, rfl, hs1⟩ := ag_j2_inv hs
    cases hs1
    exact ⟨Nat.le_refl _, Nat.le_refl _⟩
  | idiv =>
    unfold ag_step at hs
    dsimp only at hs
    obtain ⟨a, b, r, rfl, hs1⟩ := ag_i2_inv hs
    obtain ⟨⟨h0, h1, h2, h3⟩, hs2⟩ := ag_ck_inv hs1
    cases hs2
    exact ⟨Nat.le_refl _, Nat.le_refl _⟩
  | irem =>
    unfold ag_step at hs
    dsimp only at hs
    obtain ⟨a, b, r, rfl, hs1⟩ := ag_i2_inv hs
    obtain ⟨⟨h0, h1, h2, h3⟩, hs2⟩ := ag_ck_inv hs1
    cases hs2
    exact ⟨Nat.le_refl _, Nat.le_refl _⟩
  | iand =>
    unfold ag_step at hs
    dsimp only at hs
    obtain ⟨a, b, r, rfl, hs1⟩ := ag_i2_inv hs
    obtain ⟨⟨h0, rfl⟩, hs2⟩ := ag_ck_inv hs1
    cases hs2
    exact ⟨Nat.le_refl _, Nat.le_refl _⟩
  | ior =>
    unfold ag_step at hs
    dsimp only at hs
    obtain ⟨a, b, r, rfl, hs1⟩ := ag_i2_inv hs
    obtain ⟨⟨h0, h1, h2, h3⟩, hs2⟩ := ag_ck_inv hs1
    cases hs2
    exact ⟨Nat.le_refl _, Nat.le_refl _⟩
  | ishl =>
    unfold ag_step at hs
    dsimp only at hs
    obtain ⟨a, b, r, rfl, hs1⟩ := ag_i2_inv hs
    obtain ⟨⟨h0, h1, h2, h3⟩, hs2⟩ := ag_ck_inv hs1
    cases hs2
    exact ⟨Nat.le_refl _, Nat.le_refl _⟩
  | lcmp =>
    unfold ag_step at hs
    dsimp only at hs
    obtain ⟨a, b, r, rfl, hs1⟩ := ag_j2_inv hs
    obtain ⟨⟨h0, h1⟩, hs2⟩ := ag_ck_inv hs1
    cases hs2
    exact ⟨Nat.le_refl _, Nat.le_refl _⟩
  | i2l =>
    unfold ag_step at hs
    dsimp only at hs
    obtain ⟨a, r, rfl, hs1⟩ := ag_i1_inv hs
    obtain ⟨h0, hs2⟩ := ag_ck_inv hs1
    cases hs2
    exact ⟨Nat.le_refl _, Nat.le_refl _⟩
  | i2f =>
    unfold ag_step at hs
    dsimp only at hs
    obtain ⟨a, r, rfl, hs1⟩ := ag_i1_inv hs
    cases hs1
    exact ⟨Nat.le_refl _, Nat.le_refl _⟩
  | f2i =>
    unfold ag_step at hs
    dsimp only at hs
    obtain ⟨a, r, rfl, hs1⟩ := ag_f1_inv hs
    cases hs1
    exact ⟨Nat.le_refl _, Nat.le_refl _⟩
  | fdiv =>
    unfold ag_step at hs
    dsimp only at hs
    obtain ⟨a, b, r, rfl, hs1⟩ := ag_f2_inv hs
    obtain ⟨h0, hs2⟩ := ag_ck_inv hs1
    cases hs2
    exact ⟨Nat.le_refl _, Nat.le_refl _⟩
  | fmul =>
    unfold ag_step at hs
    dsimp only at hs
    obtain ⟨a, b, r, rfl, hs1⟩ := ag_f2_inv hs
    obtain ⟨h0, hs2⟩ := ag_ck_inv hs1
    cases hs2
    exact ⟨Nat.le_refl _, Nat.le_refl _⟩
  | fsub =>
    unfold ag_step at hs
    dsimp only at hs
    obtain ⟨a, b, r, rfl, hs1⟩ := ag_f2_inv hs
    obtain ⟨h0, hs2⟩ := ag_ck_inv hs1
    cases hs2
    exact ⟨Nat.le_refl _, Nat.le_refl _⟩
  | fcmp op =>
    unfold ag_step at hs
    dsimp only at hs
    obtain ⟨a, b, r, rfl, hs1⟩ := ag_f2_inv hs
    cases hs1
    exact ⟨Nat.le_refl _, Nat.le_refl _⟩
  | goto off =>
    unfold ag_step at hs
    dsimp only at hs
    cases hs
    exact ⟨Nat.le_refl _, Nat.le_refl _⟩
  | ifCond cond off =>
    unfold ag_step at hs
    dsimp only at hs
    obtain ⟨a, r, rfl, hs1⟩ := ag_i1_inv hs
    obtain ⟨ha, hs2⟩ := ag_ck_inv hs1
    split at hs2
    · cases hs2
      exact ⟨Nat.le_refl _, Nat.le_refl _⟩
    · cases hs2
      exact ⟨Nat.le_refl _, Nat.le_refl _⟩
  | if_icmp cond off =>
    unfold ag_step at hs
    dsimp only at hs
    obtain ⟨a, b, r, rfl, hs1⟩ := ag_i2_inv hs
    obtain ⟨ha, hs2⟩ := ag_ck_inv hs1
    split at hs2
    · cases hs2
      exact ⟨Nat.le_refl _, Nat.le_refl _⟩
    · cases hs2
      exact ⟨Nat.le_refl _, Nat.le_refl _⟩
  | ifnull off =>
    unfold ag_step at hs
    dsimp only at hs
    obtain ⟨a, r, rfl, hs1⟩ := ag_r1_inv hs
    cases a with
    | none => cases hs1; exact ⟨Nat.le_refl _, Nat.le_refl _⟩
    | some a => cases hs1; exact ⟨Nat.le_refl _, Nat.le_refl _⟩
  | ifnonnull off =>
    unfold ag_step at hs
    dsimp only at hs
    obtain ⟨a, r, rfl, hs1⟩ := ag_r1_inv hs
    cases a with
    | none => cases hs1; exact ⟨Nat.le_refl _, Nat.le_refl _⟩
    | some a => cases hs1; exact ⟨Nat.le_refl _, Nat.le_refl _⟩
  | tableswitch df lo hi offs =>
    unfold ag_step at hs
    dsimp only at hs
    obtain ⟨a, r, rfl, hs1⟩ := ag_i1_inv hs
    obtain ⟨ha, hs2⟩ := ag_ck_inv hs1
    split at hs2
    · cases hs2
      exact ⟨Nat.le_refl _, Nat.le_refl _⟩
    · split at hs2
      · cases hs2
        exact ⟨Nat.le_refl _, Nat.le_refl _⟩
      · cases hs2
  | lookupswitch df ps =>
    unfold ag_step at hs
    dsimp only at hs
    obtain ⟨a, r, rfl, hs1⟩ := ag_i1_inv hs
    obtain ⟨ha, hs2⟩ := ag_ck_inv hs1
    cases hs2
    exact ⟨Nat.le_refl _, Nat.le_refl _⟩
  | getfield ix =>
    unfold ag_step at hs
    dsimp only at hs
    obtain ⟨a, r, rfl, hs1⟩ := ag_a1_inv hs
    split at hs1
    · rename_i t k hf
      obtain ⟨n, rs, ha, hs2⟩ := ag_at_inv hs1
      obtain ⟨⟨hk, hn⟩, hs3⟩ := ag_ck_inv hs2
      cases hs3
      exact ⟨Nat.le_refl _, Nat.le_refl _⟩
    · cases hs1
  | putfield ix =>
    unfold ag_step at hs
    dsimp only at hs
    split at hs
    · rename_i t k hf
      obtain ⟨hk, hs1⟩ := ag_ck_inv hs
      split at hs1
      · rename_i h2
        obtain ⟨v, r, rfl, hs2⟩ := ag_r1_inv hs1
        obtain ⟨a, r, rfl, hs3⟩ := ag_a1_inv hs2
        obtain ⟨n, rs, ha, hs4⟩ := ag_at_inv hs3
        obtain ⟨⟨hi, htc, hrs, hn⟩, hs5⟩ := ag_ck_inv hs4
        cases hs5
        exact ⟨by simp, by dsimp only; rw [sg_ss_set ha]; exact Nat.le_refl _⟩
      · rename_i h2
        obtain ⟨z, r, rfl, hs2⟩ := ag_i1_inv hs1
        obtain ⟨a, r, rfl, hs3⟩ := ag_a1_inv hs2
        obtain ⟨n, rs, ha, hs4⟩ := ag_at_inv hs3
        obtain ⟨⟨h1, hn⟩, hs5⟩ := ag_ck_inv hs4
        cases hs5
        exact ⟨Nat.le_refl _, Nat.le_refl _⟩
    · cases hs
  | arraylength =>
    unfold ag_step at hs
    dsimp only at hs
    split at hs
    · split at hs
      · rename_i t n rs ha
        obtain ⟨⟨h8, h9⟩, hs1⟩ := ag_ck_inv hs
        cases hs1
        exact ⟨Nat.le_refl _, Nat.le_refl _⟩
      · cases hs
    · cases hs
      exact ⟨Nat.le_refl _, Nat.le_refl _⟩
    · cases hs
  | iaload =>
    unfold ag_step at hs
    dsimp only at hs
    split at hs
    · obtain ⟨n, rs, ha, hs1⟩ := ag_at_inv hs
      obtain ⟨⟨h0, h1, hn⟩, hs2⟩ := ag_ck_inv hs1
      cases hs2
      exact ⟨Nat.le_refl _, Nat.le_refl _⟩
    · obtain ⟨⟨h0, h1, hn⟩, hs1⟩ := ag_ck_inv hs
      cases hs1
      exact ⟨Nat.le_refl _, Nat.le_refl _⟩
    · cases hs
  | baload =>
    unfold ag_step at hs
    dsimp only at hs
    obtain ⟨i, r, rfl, hs1⟩ := ag_i1_inv hs
    obtain ⟨a, r, rfl, hs2⟩ := ag_a1_inv hs1
    obtain ⟨n, rs, ha, hs3⟩ := ag_at_inv hs2
    obtain ⟨⟨h0, h1, hn⟩, hs4⟩ := ag_ck_inv hs3
    cases hs4
    exact ⟨Nat.le_refl _, Nat.le_refl _⟩
  | caload =>
    unfold ag_step at hs
    dsimp only at hs
    obtain ⟨i, r, rfl, hs1⟩ := ag_i1_inv hs
    obtain ⟨a, r, rfl, hs2⟩ := ag_a1_inv hs1
    obtain ⟨n, rs, ha, hs3⟩ := ag_at_inv hs2
    obtain ⟨⟨h0, h1, hn⟩, hs4⟩ := ag_ck_inv hs3
    cases hs4
    exact ⟨Nat.le_refl _, Nat.le_refl _⟩
  | laload =>
    unfold ag_step at hs
    dsimp only at hs
    obtain ⟨i, r, rfl, hs1⟩ := ag_i1_inv hs
    obtain ⟨a, r, rfl, hs2⟩ := ag_a1_inv hs1
    obtain ⟨n, rs, ha, hs3⟩ := ag_at_inv hs2
    obtain ⟨⟨h0, h1, hn⟩, hs4⟩ := ag_ck_inv hs3
    cases hs4
    exact ⟨Nat.le_refl _, Nat.le_refl _⟩
  | aaload =>
    unfold ag_step at hs
    dsimp only at hs
    obtain ⟨i, r, rfl, hs1⟩ := ag_i1_inv hs
    obtain ⟨a, r, rfl, hs2⟩ := ag_a1_inv hs1
    obtain ⟨n, rs, ha, hs3⟩ := ag_at_inv hs2
    obtain ⟨⟨h0, h1, hn⟩, hs4⟩ := ag_ck_inv hs3
    cases hs4
    exact ⟨Nat.le_refl _, Nat.le_refl _⟩
  | iastore =>
    unfold ag_step at hs
    dsimp only at hs
    obtain ⟨z, r, rfl, hs1⟩ := ag_i1_inv hs
    obtain ⟨i, r, rfl, hs2⟩ := ag_i1_inv hs1
    obtain ⟨a, r, rfl, hs3⟩ := ag_a1_inv hs2
    obtain ⟨n, rs, ha, hs4⟩ := ag_at_inv hs3
    obtain ⟨⟨h0, h1, hn⟩, hs5⟩ := ag_ck_inv hs4
    cases hs5
    exact ⟨Nat.le_refl _, Nat.le_refl _⟩
  | bastore =>
    unfold ag_step at hs
    dsimp only at hs
    obtain ⟨z, r, rfl, hs1⟩ := ag_i1_inv hs
    obtain ⟨i, r, rfl, hs2⟩ := ag_i1_inv hs1
    obtain ⟨a, r, rfl, hs3⟩ := ag_a1_inv hs2
    obtain ⟨n, rs, ha, hs4⟩ := ag_at_inv hs3
    obtain ⟨⟨h0, h1, hn, hz⟩, hs5⟩ := ag_ck_inv hs4
    cases hs5
    exact ⟨Nat.le_refl _, Nat.le_refl _⟩
  | castore =>
    unfold ag_step at hs
    dsimp only at hs
    obtain ⟨z, r, rfl, hs1⟩ := ag_i1_inv hs
    obtain ⟨i, r, rfl, hs2⟩ := ag_i1_inv hs1
    obtain ⟨a, r, rfl, hs3⟩ := ag_a1_inv hs2
    obtain ⟨n, rs, ha, hs4⟩ := ag_at_inv hs3
    obtain ⟨⟨h0, h1, hn, hz, hy⟩, hs5⟩ := ag_ck_inv hs4
    cases hs5
    exact ⟨Nat.le_refl _, Nat.le_refl _⟩
  | lastore =>
    unfold ag_step at hs
    dsimp only at hs
    obtain ⟨z, r, rfl, hs1⟩ := ag_j1_inv hs
    obtain ⟨i, r, rfl, hs2⟩ := ag_i1_inv hs1
    obtain ⟨a, r, rfl, hs3⟩ := ag_a1_inv hs2
    obtain ⟨n, rs, ha, hs4⟩ := ag_at_inv hs3
    obtain ⟨⟨h0, h1, hn⟩, hs5⟩ := ag_ck_inv hs4
    cases hs5
    exact ⟨Nat.le_refl _, Nat.le_refl _⟩
  | aastore =>
    unfold ag_step at hs
    dsimp only at hs
    obtain ⟨v, r, rfl, hs1⟩ := ag_a1_inv hs
    obtain ⟨i, r, rfl, hs2⟩ := ag_i1_inv hs1
    obtain ⟨a, r, rfl, hs3⟩ := ag_a1_inv hs2
    obtain ⟨n, rs, ha, hs4⟩ := ag_at_inv hs3
    obtain ⟨n2, rs2, hv, hs5⟩ := ag_at_inv hs4
    obtain ⟨⟨h0, h1, hn, hrl⟩, hs6⟩ := ag_ck_inv hs5
    cases hs6
    exact ⟨by simp, by dsimp only; rw [sg_ss_set ha]; exact Nat.le_refl _⟩
  | new ix =>
    unfold ag_step at hs
    dsimp only at hs
    split at hs
    · rename_i t hf
      obtain ⟨ht, hs1⟩ := ag_ck_inv hs
      cases hs1
      exact ⟨by simp, by dsimp only; rw [sg_ss_push]; omega⟩
    · cases hs
  | newarray ty =>
    unfold ag_step at hs
    dsimp only at hs
    obtain ⟨n, r, rfl, hs1⟩ := ag_i1_inv hs
    obtain ⟨⟨h0, h1, ht⟩, hs2⟩ := ag_ck_inv hs1
    cases hs2
    exact ⟨by simp, by dsimp only; rw [sg_ss_push]; omega⟩
  | anewarray ix =>
    unfold ag_step at hs
    dsimp only at hs
    obtain ⟨n, r, rfl, hs1⟩ := ag_i1_inv hs
    obtain ⟨⟨h0, h1, ht⟩, hs2⟩ := ag_ck_inv hs1
    cases hs2
    exact ⟨by simp, by dsimp only; rw [sg_ss_push]; omega⟩
  | ldc ix =>
    unfold ag_step at hs
    dsimp only at hs
    split at hs
    · rename_i v hf
      obtain ⟨hv, hs1⟩ := ag_ck_inv hs
      cases hs1
      exact ⟨Nat.le_refl _, Nat.le_refl _⟩
    · cases hs
  | ldc_w ix =>
    unfold ag_step at hs
    dsimp only at hs
    split at hs
    · rename_i v hf
      obtain ⟨⟨hv, h7⟩, hs1⟩ := ag_ck_inv hs
      cases hs1
      exact ⟨Nat.le_refl _, Nat.le_refl _⟩
    · cases hs
  | ldc2_w ix =>
    unfold ag_step at hs
    dsimp only at hs
    split at hs
    · rename_i v hf
      obtain ⟨hv, hs1⟩ := ag_ck_inv hs
      cases hs1
      exact ⟨Nat.le_refl _, Nat.le_refl _⟩
    · cases hs
  | invokevirtual ix =>
    unfold ag_step at hs
    dsimp only at hs
    split at hs
    · obtain ⟨-, hs1⟩ := ag_ck_inv hs
      split at hs1
      · rename_i o h9 hcl
        cases hs1
        exact hcall _ _ _ _ _ hcl
      · cases hs1
    · obtain ⟨-, hs1⟩ := ag_ck_inv hs
      split at hs1
      · cases hs1
        exact ⟨Nat.le_refl _, Nat.le_refl _⟩
      · cases hs1
    · cases hs
  | invokespecial ix =>
    unfold ag_step at hs
    dsimp only at hs
    split at hs
    · obtain ⟨-, hs1⟩ := ag_ck_inv hs
      split at hs1
      · rename_i o h9 hcl
        cases hs1
        exact hcall _ _ _ _ _ hcl
      · cases hs1
    · obtain ⟨-, hs1⟩ := ag_ck_inv hs
      split at hs1
      · cases hs1
        exact ⟨Nat.le_refl _, Nat.le_refl _⟩
      · cases hs1
    · cases hs
  | invokestatic ix =>
    unfold ag_step at hs
    dsimp only at hs
    split at hs
    · obtain ⟨-, hs1⟩ := ag_ck_inv hs
      split at hs1
      · rename_i o h9 hcl
        cases hs1
        exact hcall _ _ _ _ _ hcl
      · cases hs1
    · obtain ⟨-, hs1⟩ := ag_ck_inv hs
      split at hs1
      · cases hs1
        exact ⟨Nat.le_refl _, Nat.le_refl _⟩
      · cases hs1
    · cases hs
  | ireturn =>
    unfold ag_step at hs
    dsimp only at hs
    split at hs
    · obtain ⟨-, hs1⟩ := ag_ck_inv hs
      cases hs1
    · cases hs
  | lreturn =>
    unfold ag_step at hs
    dsimp only at hs
    split at hs
    · obtain ⟨-, hs1⟩ := ag_ck_inv hs
      cases hs1
    · cases hs
  | areturn =>
    unfold ag_step at hs
    dsimp only at hs
    split at hs
    · obtain ⟨-, hs1⟩ := ag_ck_inv hs
      cases hs1
    · cases hs
  | return_ =>
    unfold ag_step at hs
    dsimp only at hs
    obtain ⟨-, hs1⟩ := ag_ck_inv hs
    cases hs1
  | aload k =>
    unfold ag_step at hs
    dsimp only at hs
    obtain ⟨z, hi, hs1⟩ := ag_la_inv hs
    cases hs1
    exact ⟨Nat.le_refl _, Nat.le_refl _⟩
  | _ => cases hs
/-- a step that answers is a return, and leaves the heap as it is -/
theorem sg_ansh {T : ag_T} {E : Nat × (Int → Int)} {ci rt : Nat} {ini : Bool} {call : Nat → List av → ag_H → Option ag_O} {i : Instr} {len pc : Nat} {ls : List (Option av)} {st : List av} {h : ag_H} {o : Option av} {h' : ag_H} (hs : ag_step T call E ci rt ini i len pc ls st h = some (.inr (o, h'))) : h' = h ∧ ((i = .return_ ∧ o = none ∧ rt = 0 ∧ st = []) ∨ ∃ v, o = some v ∧ st = [v] ∧ ag_rv rt v = true ∧ ((i = .ireturn ∧ (rt = 1 ∨ rt = 2)) ∨ (i = .lreturn ∧ rt = 3) ∨ (i = .areturn ∧ rt = 4))) := by
  cases i with
  | iconst z =>
    unfold ag_step at hs
    dsimp only at hs
    cases hs
  | bipush z =>
    unfold ag_step at hs
    dsimp only at hs
    cases hs
  | sipush z =>
    unfold ag_step at hs
    dsimp only at hs
    cases hs
  | lconst z =>
    unfold ag_step at hs
    dsimp only at hs
    cases hs
  | fconst z =>
    unfold ag_step at hs
    dsimp only at hs
    cases hs
  | aconst_null =>
    unfold ag_step at hs
    dsimp only at hs
    cases hs
  | iload k =>
    unfold ag_step at hs
    dsimp only at hs
    obtain ⟨z, hi, hs1⟩ := ag_li_inv hs
    cases hs1
  | iload_n k =>
    unfold ag_step at hs
    dsimp only at hs
    obtain ⟨z, hi, hs1⟩ := ag_li_inv hs
    cases hs1
  | lload_n k =>
    unfold ag_step at hs
    dsimp only at hs
    obtain ⟨z, hi, hs1⟩ := ag_lj_inv hs
    cases hs1
  | fload_n k =>
    unfold ag_step at hs
    dsimp only at hs
    obtain ⟨z, hi, hs1⟩ := ag_lf_inv hs
    cases hs1
  | aload_n k =>
    unfold ag_step at hs
    dsimp only at hs
    obtain ⟨z, hi, hs1⟩ := ag_la_inv hs
    cases hs1
  | istore k =>
    unfold ag_step at hs
    dsimp only at hs
    obtain ⟨z, r, rfl, hs1⟩ := ag_i1_inv hs
    obtain ⟨hi, hs2⟩ := ag_ck_inv hs1
    cases hs2
  | istore_n k =>
    unfold ag_step at hs
    dsimp only at hs
    obtain ⟨z, r, rfl, hs1⟩ := ag_i1_inv hs
    obtain ⟨hi, hs2⟩ := ag_ck_inv hs1
    cases hs2
  | fstore_n k =>
    unfold ag_step at hs
    dsimp only at hs
    obtain ⟨z, r, rfl, hs1⟩ := ag_f1_inv hs
    obtain ⟨hi, hs2⟩ := ag_ck_inv hs1
    cases hs2
  | lstore_n k =>
    unfold ag_step at hs
    dsimp only at hs
    obtain ⟨z, r, rfl, hs1⟩ := ag_j1_inv hs
    obtain ⟨hi, hs2⟩ := ag_ck_inv hs1
    cases hs2
  | astore_n k =>
    unfold ag_step at hs
    dsimp only at hs
    obtain ⟨z, r, rfl, hs1⟩ := ag_r1_inv hs
    obtain ⟨hi, hs2⟩ := ag_ck_inv hs1
    cases hs2
  | iinc k n =>
    unfold ag_step at hs
    dsimp only at hs
    obtain ⟨z, hi, hs1⟩ := ag_li_inv hs
    cases hs1
  | dup =>
    unfold ag_step at hs
    dsimp only at hs
    split at hs
    · obtain ⟨hv, hs1⟩ := ag_ck_inv hs
      cases hs1
    · cases hs
  | dup2 =>
    unfold ag_step at hs
    dsimp only at hs
    split at hs
    · obtain ⟨⟨hv, hw⟩, hs1⟩ := ag_ck_inv hs
      cases hs1
    · cases hs
  | pop =>
    unfold ag_step at hs
    dsimp only at hs
    split at hs
    · obtain ⟨hv, hs1⟩ := ag_ck_inv hs
      cases hs1
    · cases hs
  | iadd =>
    unfold ag_step at hs
    dsimp only at hs
    obtain ⟨a, b, r, rfl, hs1⟩ := ag_i2_inv hs
    cases hs1
  | isub =>
    unfold ag_step at hs
    dsimp only at hs
    obtain ⟨a, b, r, rfl, hs1⟩ := ag_i2_inv hs
    cases hs1
  | imul =>
    unfold ag_step at hs
    dsimp only at hs
    obtain ⟨a, b, r, rfl, hs1⟩ := ag_i2_inv hs
    cases hs1
  | ladd =>
    unfold ag_step at hs
    dsimp only at hs
    obtain ⟨a, b, r, rfl, hs1⟩ := ag_j2_inv hs
    cases hs1
  | lmul =>
    unfold ag_step at hs
    dsimp only at hs
    obtain ⟨a, b, r, rfl, hs1⟩ := ag_j2_inv hs
    cases hs1
  | idiv =>
    unfold ag_step at hs
    dsimp only at hs
    obtain ⟨a, b, r, rfl, hs1⟩ := ag_i2_inv hs
    obtain ⟨⟨h0, h1, h2, h3⟩, hs2⟩ := ag_ck_inv hs1
    cases hs2
  | irem =>
    unfold ag_step at hs
    dsimp only at hs
    obtain ⟨a, b, r, rfl, hs1⟩ := ag_i2_inv hs
    obtain ⟨⟨h0, h1, h2, h3⟩, hs2⟩ := ag_ck_inv hs1
    cases hs2
  | iand =>
    unfold ag_step at hs
    dsimp only at hs
    obtain ⟨a, b, r, rfl, hs1⟩ := ag_i2_inv hs
    obtain ⟨⟨h0, rfl⟩, hs2⟩ := ag_ck_inv hs1
    cases hs2
  | ior =>
    unfold ag_step at hs
    dsimp only at hs
    obtain ⟨a, b, r, rfl, hs1⟩ := ag_i2_inv hs
    obtain ⟨⟨h0, h1, h2, h3⟩, hs2⟩ := ag_ck_inv hs1
    cases hs2
  | ishl =>
    unfold ag_step at hs
    dsimp only at hs
    obtain ⟨a, b, r, rfl, hs1⟩ := ag_i2_inv hs
    obtain ⟨⟨h0, h1, h2, h3⟩, hs2⟩ := ag_ck_inv hs1
    cases hs2
  | lcmp =>
    unfold ag_step at hs
    dsimp only at hs
    obtain ⟨a, b, r, rfl, hs1⟩ := ag_j2_inv hs
    obtain ⟨⟨h0, h1⟩, hs2⟩ := ag_ck_inv hs1
    cases hs2
  | i2l =>
    unfold ag_step at hs
    dsimp only at hs
    obtain ⟨a, r, rfl, hs1⟩ := ag_i1_inv hs
    obtain ⟨h0, hs2⟩ := ag_ck_inv hs1
    cases hs2
  | i2f =>
    unfold ag_step at hs
    dsimp only at hs
    obtain ⟨a, r, rfl, hs1⟩ := ag_i1_inv hs
    cases hs1
  | f2i =>
    unfold ag_step at hs
    dsimp only at hs
    obtain ⟨a, r, rfl, hs1⟩ := ag_f1_inv hs
    cases hs1
  | fdiv =>
    unfold ag_step at hs
    dsimp only at hs
    obtain ⟨a, b, r, rfl, hs1⟩ := ag_f2_inv hs
    obtain ⟨h0, hs2⟩ := ag_ck_inv hs1
    cases hs2
  | fmul =>
    unfold ag_step at hs
    dsimp only at hs
    obtain ⟨a, b, r, rfl, hs1⟩ := ag_f2_inv hs
    obtain ⟨h0, hs2⟩ := ag_ck_inv hs1
    cases hs2
  | fsub =>
    unfold ag_step at hs
    dsimp only at hs
    obtain ⟨a, b, r, rfl, hs1⟩ := ag_f2_inv hs
    obtain ⟨h0, hs2⟩ := ag_ck_inv hs1
    cases hs2
  | fcmp op =>
    unfold ag_step at hs
    dsimp only at hs
    obtain ⟨a, b, r, rfl, hs1⟩ := ag_f2_inv hs
    cases hs1
  | goto off =>
    unfold ag_step at hs
    dsimp only at hs
    cases hs
  | ifCond cond off =>
    unfold ag_step at hs
    dsimp only at hs
    obtain ⟨a, r, rfl, hs1⟩ := ag_i1_inv hs
    obtain ⟨ha, hs2⟩ := ag_ck_inv hs1
    split at hs2
    · cases hs2
    · cases hs2
  | if_icmp cond off =>
    unfold ag_step at hs
    dsimp only at hs
    obtain ⟨a, b, r, rfl, hs1⟩ := ag_i2_inv hs
    obtain ⟨ha, hs2⟩ := ag_ck_inv hs1
    split at hs2
    · cases hs2
    · cases hs2
  | ifnull off =>
    unfold ag_step at hs
    dsimp only at hs
    obtain ⟨a, r, rfl, hs1⟩ := ag_r1_inv hs
    cases a with
    | none => cases hs1
    | some a => cases hs1
  | ifnonnull off =>
    unfold ag_step at hs
    dsimp only at hs
    obtain ⟨a, r, rfl, hs1⟩ := ag_r1_inv hs
    cases a with
    | none => cases hs1
    | some a => cases hs1
  | tableswitch df lo hi offs =>
    unfold ag_step at hs
    dsimp only at hs
    obtain ⟨a, r, rfl, hs1⟩ := ag_i1_inv hs
    obtain ⟨ha, hs2⟩ := ag_ck_inv hs1
    split at hs2
    · cases hs2
    · split at hs2
      · cases hs2
      · cases hs2
  | lookupswitch df ps =>
    unfold ag_step at hs
    dsimp only at hs
    obtain ⟨a, r, rfl, hs1⟩ := ag_i1_inv hs
    obtain ⟨ha, hs2⟩ := ag_ck_inv hs1
    cases hs2
  | getfield ix =>
    unfold ag_step at hs
    dsimp only at hs
    obtain ⟨a, r, rfl, hs1⟩ := ag_a1_inv hs
    split at hs1
    · rename_i t k hf
      obtain ⟨n, rs, ha, hs2⟩ := ag_at_inv hs1
      obtain ⟨⟨hk, hn⟩, hs3⟩ := ag_ck_inv hs2
      cases hs3
    · cases hs1
  | putfield ix =>
    unfold ag_step at hs
    dsimp only at hs
    split at hs
    · rename_i t k hf
      obtain ⟨hk, hs1⟩ := ag_ck_inv hs
      split at hs1
      · rename_i h2
        obtain ⟨v, r, rfl, hs2⟩ := ag_r1_inv hs1
        obtain ⟨a, r, rfl, hs3⟩ := ag_a1_inv hs2
        obtain ⟨n, rs, ha, hs4⟩ := ag_at_inv hs3
        obtain ⟨⟨hi, htc, hrs, hn⟩, hs5⟩ := ag_ck_inv hs4
        cases hs5
      · rename_i h2
        obtain ⟨z, r, rfl, hs2⟩ := ag_i1_inv hs1
        obtain ⟨a, r, rfl, hs3⟩ := ag_a1_inv hs2
        obtain ⟨n, rs, ha, hs4⟩ := ag_at_inv hs3
        obtain ⟨⟨h1, hn⟩, hs5⟩ := ag_ck_inv hs4
        cases hs5
    · cases hs
  | arraylength =>
    unfold ag_step at hs
    dsimp only at hs
    split at hs
    · split at hs
      · rename_i t n rs ha
        obtain ⟨⟨h8, h9⟩, hs1⟩ := ag_ck_inv hs
        cases hs1
      · cases hs
    · cases hs
    · cases hs
  | iaload =>
    unfold ag_step at hs
    dsimp only at hs
    split at hs
    · obtain ⟨n, rs, ha, hs1⟩ := ag_at_inv hs
      obtain ⟨⟨h0, h1, hn⟩, hs2⟩ := ag_ck_inv hs1
      cases hs2
    · obtain ⟨⟨h0, h1, hn⟩, hs1⟩ := ag_ck_inv hs
      cases hs1
    · cases hs
  | baload =>
    unfold ag_step at hs
    dsimp only at hs
    obtain ⟨i, r, rfl, hs1⟩ := ag_i1_inv hs
    obtain ⟨a, r, rfl, hs2⟩ := ag_a1_inv hs1
    obtain ⟨n, rs, ha, hs3⟩ := ag_at_inv hs2
    obtain ⟨⟨h0, h1, hn⟩, hs4⟩ := ag_ck_inv hs3
    cases hs4
  | caload =>
    unfold ag_step at hs
    dsimp only at hs
    obtain ⟨i, r, rfl, hs1⟩ := ag_i1_inv hs
    obtain ⟨a, r, rfl, hs2⟩ := ag_a1_inv hs1
    obtain ⟨n, rs, ha, hs3⟩ := ag_at_inv hs2
    obtain ⟨⟨h0, h1, hn⟩, hs4⟩ := ag_ck_inv hs3
    cases hs4
  | laload =>
    unfold ag_step at hs
    dsimp only at hs
    obtain ⟨i, r, rfl, hs1⟩ := ag_i1_inv hs
    obtain ⟨a, r, rfl, hs2⟩ := ag_a1_inv hs1
    obtain ⟨n, rs, ha, hs3⟩ := ag_at_inv hs2
    obtain ⟨⟨h0, h1, hn⟩, hs4⟩ := ag_ck_inv hs3
    cases hs4
  | aaload =>
    unfold ag_step at hs
    dsimp only at hs
    obtain ⟨i, r, rfl, hs1⟩ := ag_i1_inv hs
    obtain ⟨a, r, rfl, hs2⟩ := ag_a1_inv hs1
    obtain ⟨n, rs, ha, hs3⟩ := ag_at_inv hs2
    obtain ⟨⟨h0, h1, hn⟩, hs4⟩ := ag_ck_inv hs3
    cases hs4
  | iastore =>
    unfold ag_step at hs
    dsimp only at hs
    obtain ⟨z, r, rfl, hs1⟩ := ag_i1_inv hs
    obtain ⟨i, r, rfl, hs2⟩ := ag_i1_inv hs1
    obtain ⟨a, r, rfl, hs3⟩ := ag_a1_inv hs2
    obtain ⟨n, rs, ha, hs4⟩ := ag_at_inv hs3
    obtain ⟨⟨h0, h1, hn⟩, hs5⟩ := ag_ck_inv hs4
    cases hs5
  | bastore =>
    unfold ag_step at hs
    dsimp only at hs
    obtain ⟨z, r, rfl, hs1⟩ := ag_i1_inv hs
    obtain ⟨i, r, rfl, hs2⟩ := ag_i1_inv hs1
    obtain ⟨a, r, rfl, hs3⟩ := ag_a1_inv hs2
    obtain ⟨n, rs, ha, hs4⟩ := ag_at_inv hs3
    obtain ⟨⟨h0, h1, hn, hz⟩, hs5⟩ := ag_ck_inv hs4
    cases hs5
  | castore =>
    unfold ag_step at hs
    dsimp only at hs
    obtain ⟨z, r, rfl, hs1⟩ := ag_i1_inv hs
    obtain ⟨i, r, rfl, hs2⟩ := ag_i1_inv hs1
    obtain ⟨a, r, rfl, hs3⟩ := ag_a1_inv hs2
    obtain ⟨n, rs, ha, hs4⟩ := ag_at_inv hs3
    obtain ⟨⟨h0, h1, hn, hz, hy⟩, hs5⟩ := ag_ck_inv hs4
    cases hs5
  | lastore =>
    unfold ag_step at hs
    dsimp only at hs
    obtain ⟨z, r, rfl, hs1⟩ := ag_j1_inv hs
    obtain ⟨i, r, rfl, hs2⟩ := ag_i1_inv hs1
    obtain ⟨a, r, rfl, hs3⟩ := ag_a1_inv hs2
    obtain ⟨n, rs, ha, hs4⟩ := ag_at_inv hs3
    obtain ⟨⟨h0, h1, hn⟩, hs5⟩ := ag_ck_inv hs4
    cases hs5
  | aastore =>
    unfold ag_step at hs
    dsimp only at hs
    obtain ⟨v, r, rfl, hs1⟩ := ag_a1_inv hs
    obtain ⟨i, r, rfl, hs2⟩ := ag_i1_inv hs1
    obtain ⟨a, r, rfl, hs3⟩ := ag_a1_inv hs2
    obtain ⟨n, rs, ha, hs4⟩ := ag_at_inv hs3
    obtain ⟨n2, rs2, hv, hs5⟩ := ag_at_inv hs4
    obtain ⟨⟨h0, h1, hn, hrl⟩, hs6⟩ := ag_ck_inv hs5
    cases hs6
  | new ix =>
    unfold ag_step at hs
    dsimp only at hs
    split at hs
    · rename_i t hf
      obtain ⟨ht, hs1⟩ := ag_ck_inv hs
      cases hs1
    · cases hs
  | newarray ty =>
    unfold ag_step at hs
    dsimp only at hs
    obtain ⟨n, r, rfl, hs1⟩ := ag_i1_inv hs
    obtain ⟨⟨h0, h1, ht⟩, hs2⟩ := ag_ck_inv hs1
    cases hs2
  | anewarray ix =>
    unfold ag_step at hs
    dsimp only at hs
    obtain ⟨n, r, rfl, hs1⟩ := ag_i1_inv hs
    obtain ⟨⟨h0, h1, ht⟩, hs2⟩ := ag_ck_inv hs1
    cases hs2
  | ldc ix =>
    unfold ag_step at hs
    dsimp only at hs
    split at hs
    · rename_i v hf
      obtain ⟨hv, hs1⟩ := ag_ck_inv hs
      cases hs1
    · cases hs
  | ldc_w ix =>
    unfold ag_step at hs
    dsimp only at hs
    split at hs
    · rename_i v hf
      obtain ⟨⟨hv, h7⟩, hs1⟩ := ag_ck_inv hs
      cases hs1
    · cases hs
  | ldc2_w ix =>
    unfold ag_step at hs
    dsimp only at hs
    split at hs
    · rename_i v hf
      obtain ⟨hv, hs1⟩ := ag_ck_inv hs
      cases hs1
    · cases hs
  | invokevirtual ix =>
    unfold ag_step at hs
    dsimp only at hs
    split at hs
    · obtain ⟨-, hs1⟩ := ag_ck_inv hs
      split at hs1
      · rename_i o h9 hcl
        cases hs1
      · cases hs1
    · obtain ⟨-, hs1⟩ := ag_ck_inv hs
      split at hs1
      · cases hs1
      · cases hs1
    · cases hs
  | invokespecial ix =>
    unfold ag_step at hs
    dsimp only at hs
    split at hs
    · obtain ⟨-, hs1⟩ := ag_ck_inv hs
      split at hs1
      · rename_i o h9 hcl
        cases hs1
      · cases hs1
    · obtain ⟨-, hs1⟩ := ag_ck_inv hs
      split at hs1
      · cases hs1
      · cases hs1
    · cases hs
  | invokestatic ix =>
    unfold ag_step at hs
    dsimp only at hs
    split at hs
    · obtain ⟨-, hs1⟩ := ag_ck_inv hs
      split at hs1
      · rename_i o h9 hcl
        cases hs1
      · cases hs1
    · obtain ⟨-, hs1⟩ := ag_ck_inv hs
      split at hs1
      · cases hs1
      · cases hs1
    · cases hs
  | ireturn =>
    unfold ag_step at hs
    dsimp only at hs
    split at hs
    · obtain ⟨⟨h1, h2⟩, hs1⟩ := ag_ck_inv hs
      cases hs1
      exact ⟨rfl, Or.inr ⟨_, rfl, rfl, h1, Or.inl ⟨rfl, h2⟩⟩⟩
    · cases hs
  | lreturn =>
    unfold ag_step at hs
    dsimp only at hs
    split at hs
    · obtain ⟨⟨h1, h2⟩, hs1⟩ := ag_ck_inv hs
      cases hs1
      exact ⟨rfl, Or.inr ⟨_, rfl, rfl, h1, Or.inr (Or.inl ⟨rfl, h2⟩)⟩⟩
    · cases hs
  | areturn =>
    unfold ag_step at hs
    dsimp only at hs
    split at hs
    · obtain ⟨⟨h1, h2⟩, hs1⟩ := ag_ck_inv hs
      cases hs1
      exact ⟨rfl, Or.inr ⟨_, rfl, rfl, h1, Or.inr (Or.inr ⟨rfl, h2⟩)⟩⟩
    · cases hs
  | return_ =>
    unfold ag_step at hs
    dsimp only at hs
    obtain ⟨⟨h1, h2⟩, hs1⟩ := ag_ck_inv hs
    cases hs1
    exact ⟨rfl, Or.inl ⟨rfl, rfl, h1, h2⟩⟩
  | aload k =>
    unfold ag_step at hs
    dsimp only at hs
    obtain ⟨z, hi, hs1⟩ := ag_la_inv hs
    cases hs1
  | _ => cases hs




theorem sg_runm {T : ag_T} {E : Nat × (Int → Int)} {M : ag_M} {call : Nat → List av → ag_H → Option ag_O} (hcall : ∀ y as h o h', call y as h = some (o, h') → h.1.length ≤ h'.1.length ∧ sg_ss h.1 ≤ sg_ss h'.1) : ∀ (n : Nat) (f : ag_F) (o : Option av) (h' : ag_H), ag_run T call E M n f = some (o, h') → f.2.2.2.1.length ≤ h'.1.length ∧ sg_ss f.2.2.2.1 ≤ sg_ss h'.1 := by
  intro n
  induction n with
  | zero => intro f o h' hr; cases hr
  | succ n ih =>
    intro f o h' hr
    obtain ⟨pc, ls, st, h⟩ := f
    unfold ag_run at hr
    split at hr
    · split at hr
      · rename_i f1 hs
        have h1 := sg_mono hcall hs
        have h2 := ih f1 o h' hr
        exact ⟨Nat.le_trans h1.1 h2.1, Nat.le_trans h1.2 h2.2⟩
      · rename_i o1 hs
        cases hr
        have := (sg_ansh hs).1
        subst this
        exact ⟨Nat.le_refl _, Nat.le_refl _⟩
      · cases hr
    · cases hr
theorem sg_callm {T : ag_T} {Ms : List ag_M} {E : Nat × (Int → Int)} {fuel : Nat} : ∀ (d y : Nat) (as : List av) (h : ag_H) (o : Option av) (h' : ag_H), ag_call T Ms E fuel d y as h = some (o, h') → h.1.length ≤ h'.1.length ∧ sg_ss h.1 ≤ sg_ss h'.1 := by
  intro d
  induction d with
  | zero => intro y as h o h' hc; cases hc
  | succ d ih =>
    intro y as h o h' hc
    unfold ag_call at hc
    split at hc
    · obtain ⟨-, hc⟩ := ag_ck_inv hc
      exact sg_runm ih _ _ _ _ hc
    · cases hc
