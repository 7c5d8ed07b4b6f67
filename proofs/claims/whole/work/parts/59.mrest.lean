/-! LEVEL 2: the model: describe, append, undo, save, restore, sign, refusal, account -/
theorem m_sign_in (P : Int → Int) (n : Int) (q cl : Int → Int) (s : Int) : 35 ≤ m_sign P n q cl s ∧ m_sign P n q cl s ≤ 116 := by unfold m_sign; omega
theorem m_sign_str {P : Int → Int} (n : Int) (q cl : Int → Int) {s : Int} (h : -1 ≤ P s ∧ P s ≤ 3) (h0 : P s ≠ -1) : ag_str 1 ((P s + 1) - 1).toNat = m_sign P n q cl s := by
  have e : P s = 0 ∨ P s = 1 ∨ P s = 2 ∨ P s = 3 := by omega
  unfold m_sign
  rcases e with e | e | e | e <;> rw [e] <;> rfl
theorem ag_str_in (i : Nat) : 0 ≤ ag_str 1 i ∧ ag_str 1 i < 65536 := by
  have e : i = 0 ∨ i = 1 ∨ i = 2 ∨ i = 3 ∨ 4 ≤ i := by omega
  have h : ag_str 1 i = [98, 116, 66, 84].getD i 0 := rfl
  rcases e with rfl | rfl | rfl | rfl | e
  · decide
  · decide
  · decide
  · decide
  · rw [h, List.getD_eq_getElem?_getD, List.getElem?_eq_none (show 4 ≤ i from e)]; decide
theorem g_up2 {N : Nat → Int → Int} {a : Nat} {k v : Int} {P : Int → Int} (hv : v = P k) (h : ∀ s, 0 ≤ s → s < k → N a s = P s) : ∀ s, 0 ≤ s → s < k + 1 → ag_upd N a k v a s = P s := by
  subst hv
  exact g_up1 h
theorem g_rK_pop {N N' : Nat → Int → Int} {m : Nat} {U : List m_G} {G : m_G} (h : g_rK N m (G :: U)) (h6 : N' m 6 = U.length) (h2 : N' (m + 2) = N (m + 2)) : g_rK N' m U := by
  have hl := h.2.1
  rw [List.length_cons] at hl
  refine ⟨h6, by omega, fun i G2 hi => ?_⟩
  have h3 := h.2.2 (i + 1) G2 hi
  rw [List.length_cons] at h3
  have e : (fun k => N' (m + 2) (800 * ((U.length : Int) - 1 - i) + k)) = fun k => N (m + 2) (800 * (((U.length + 1 : Nat) : Int) - 1 - ((i + 1 : Nat) : Int)) + k) := by
    funext k
    rw [h2]
    exact congrArg (N (m + 2)) (by omega)
  rw [e]
  exact h3
theorem g_rK_nil {N' : Nat → Int → Int} {m : Nat} (h6 : N' m 6 = 0) : g_rK N' m [] := ⟨h6, Nat.zero_le 8, fun i G hi => by cases hi⟩
theorem g_rM_cp {N : Nat → Int → Int} {a : Nat} {R : Int → Int} {G : m_G} (hv : g_vG G) (h : g_rM R G) (hf : ∀ j, 0 ≤ j → j < 800 → N a (0 + j) = R j) : g_rM (N a) G :=
  g_rM_ext hv h (fun i z0 z1 => by have := hf i z0 z1; rw [Int.zero_add] at this; exact this)
section L2J
variable {E : Nat × (Int → Int)} {C : List ag_C} {N : Nat → Int → Int} {m : Nat}

theorem ev_X7_describe {d : Nat} (hd : 4 ≤ d) {G : m_G} {U : List m_G} {V : Option m_G} {F : m_F} {L : Int} {T : Int → Int} {l : Int} {ln : Int → Int} (hm : g_isM C m) (hY : g_rY N m (G, U, V, F, (L, T), (l, ln))) (hS : g_vS (G, U, V, F, (L, T), (l, ln))) (r : Int) (h0 : ag_in r) : ∃ o_, Ev E d 156 [vA m, vI r] (C, N) o_ ∧ g_QY C N m (o_desc (G, U, V, F, (L, T), (l, ln)) r) o_ := by
  obtain ⟨d, rfl⟩ : ∃ j, d = j + 1 := ⟨d - 1, by omega⟩
  obtain ⟨⟨P, n, q, p, cl, tn⟩, ⟨t, bg, en, ca⟩, ⟨gn, pu, mk⟩, H⟩ := G
  have hM : g_rM (N (m + 1)) ((P, n, q, p, cl, tn), (t, bg, en, ca), (gn, pu, mk), H) := hY.1
  have hK : g_rK N m U := hY.2.1
  have hV : g_rW N m V := hY.2.2.1
  have hE : g_rE N m F := hY.2.2.2.1
  have hT : g_rTm N m L T := hY.2.2.2.2.1
  have hL : g_rLm N m l ln := hY.2.2.2.2.2.1
  have h7 : N m 7 = 0 := hY.2.2.2.2.2.2
  have hvG : g_vG ((P, n, q, p, cl, tn), (t, bg, en, ca), (gn, pu, mk), H) := hS.1
  have hw : g_wB P n q p cl tn := hvG.1.1
  have hwH : g_wH H := hvG.1.2.1
  have hv : g_wS t bg en ca gn pu mk := hvG.1.2.2
  have w1 := hv.1
  have w2 := hv.2.1
  have w3 := hv.2.2.1
  have w4 := hv.2.2.2.1
  have w6 := hv.2.2.2.2.2
  have w7 := hw.2.2.1
  have hwL : 0 ≤ L ∧ L ≤ 70 := hS.2.2.2.1
  have hwl : 0 ≤ l ∧ l ≤ 6 := hS.2.2.2.2.2
  have k8 := hK.2.1
  have r0 : g_rR (N (m + 1)) P n q p cl tn := hM.1
  have z0 : g_rZ (N (m + 1)) t (t % 2) (t / 4) bg en ca gn pu mk := hM.2.1
  have s0 : g_rS (N (m + 1)) t bg en ca gn pu mk := z0
  have D0 : g_rD (N (m + 1)) (m_D H) := hM.2.2.1
  have p0 : (bg : Int) = 0 → N (m + 1) 6 = m_cnt P 0 ∧ N (m + 1) 7 = m_cnt P 1 := hM.2.2.2
  refine Ev.introQ (M := ag_mX7_describe) rfl rfl ?_
  show AR E d _ (0, [some (vA m), some (vI r), none, none], [], (C, N)) _
  refine AR.blk 3 (f' := (3, [some (vA m), some (vI r), none, none], [vI 5, vI 0, vI r], (C, N))) (fun _ => rfl) ?_
  refine AR.callS [vI r, vI 0, vI 5] (ev_X7_in (by omega) r 0 5 (by omega)) rfl rfl rfl rfl rfl ?_
  show AR E d _ (6, [some (vA m), some (vI r), none, none], [vI (if 0 ≤ r ∧ r ≤ 5 then 1 else 0)], (C, N)) _
  refine AR.if_ne rfl (by omega) (fun c1 => ?_) (fun c1 => ?_)
  · show AR E d _ (11, [some (vA m), some (vI r), none, none], [], (C, N)) _
    refine AR.blk 2 (f' := (14, [some (vA m), some (vI r), none, none], [vI 6, vA m], (C, N))) (fun _ => rfl) ?_
    refine AR.putI rfl rfl hm.1 (by decide) (fun q => absurd q (by decide)) ?_
    refine AR.blk 2 (f' := (19, [some (vA m), some (vI r), some (vI 0), none], [], (C, ag_upd N m 16 6))) (fun _ => rfl) ?_
    suffices H19 : ∀ (j : Nat) (k : Int) (z3 : Option av) (N9 : Nat → Int → Int), (6 - k).toNat < j → (0 ≤ k ∧ k ≤ 6) → (∀ a, ¬ (a = m ∨ a = m + 7) → N9 a = N a) → (∀ j, j ≠ 16 → N9 m j = N m j) → (N9 m 16 = 6) → (∀ j, 0 ≤ j → j < k → N9 (m + 7) j = m_sign P n q cl (r * 6 + j)) → AR E d ag_mX7_describe (19, [some (vA m), some (vI r), some (vI k), z3], [], (C, N9)) (g_QY C N m (o_desc (((P, n, q, p, cl, tn), (t, bg, en, ca), (gn, pu, mk), H), U, V, F, (L, T), (l, ln)) r)) by
      exact H19 _ _ _ _ (Nat.lt_succ_self _) (by omega) (fun a ha => ag_upd_ne (by omega)) (fun j hj => ag_upd_nk hj) ag_upd_eq (fun j z0 z1 => by omega)
    intro j
    induction j with
    | zero => intro k z3 N9 hj; exact absurd hj (Nat.not_lt_zero _)
    | succ j ih19 =>
      intro k z3 N9 hj19 i0 qf qk q16 hl9
      have hMN9 : g_rM (N9 (m + 1)) ((P, n, q, p, cl, tn), (t, bg, en, ca), (gn, pu, mk), H) := by rw [qf (m + 1) (by omega)]; exact hM
      have rN9 : g_rR ((N9) (m + 1)) P n q p cl tn := hMN9.1
      have zN9 : g_rZ ((N9) (m + 1)) t (t % 2) (t / 4) bg en ca gn pu mk := hMN9.2.1
      have sN9 : g_rS ((N9) (m + 1)) t bg en ca gn pu mk := zN9
      have DN9 : g_rD ((N9) (m + 1)) (m_D H) := hMN9.2.2.1
      have pN9 : (bg : Int) = 0 → (N9) (m + 1) 6 = m_cnt P 0 ∧ (N9) (m + 1) 7 = m_cnt P 1 := hMN9.2.2.2
      have hKN9 := g_rK_fr hK (N' := N9) (qk 6 (by omega)) (qf (m + 2) (by omega))
      have hVN9 := g_rW_fr hV (N' := N9) (qk 5 (by omega)) (qf (m + 3) (by omega))
      have hEN9 := g_rE_fr hE (N' := N9) (fun k z0 z1 => qk k (by omega))
      have hTN9 := g_rTm_fr hT (N' := N9) (qk 14 (by omega)) (qf (m + 6) (by omega))
      have h7N9 := (qk 7 (by omega)).trans h7
      have frN9 : ∀ a, ¬ (m ≤ a ∧ a < m + 9) → (N9) a = N a := fun a ha => (qf a (by omega)).trans ((fun _ _ => rfl) a ha)
      have ze : 6 * r + k = r * 6 + k := by omega
      have zp := hw.1 (6 * r + k)
      have zb := ag_str_in ((P (6 * r + k) + 1) - 1).toNat
      have zc := m_la_in n q (6 * r + k) hw.2.2.1.1
      refine AR.blk 2 (f' := (22, [some (vA m), some (vI r), some (vI k), z3], [vI 6, vI k], (C, N9))) (fun _ => rfl) ?_
      refine AR.ic_ge rfl (by omega) (fun c2 => ?_) (fun c2 => ?_)
      · show AR E d _ (95, [some (vA m), some (vI r), some (vI k), z3], [], (C, N9)) _
        refine AR.blk 1 (f' := (96, [some (vA m), some (vI r), some (vI k), z3], [vA m], (C, N9))) (fun _ => rfl) ?_
        refine AR.getI rfl rfl hm.1 (by decide) (v := 6) q16 ?_
        have hLQ : g_rLm N9 m 6 (fun j => m_sign P n q cl (r * 6 + j)) := ⟨q16, fun j z0 z1 => hl9 j z0 (by omega)⟩
        refine AR.endI rfl (.inl rfl) ?_
        have e9 : o_desc (((P, n, q, p, cl, tn), (t, bg, en, ca), (gn, pu, mk), H), U, V, F, (L, T), (l, ln)) r = (6, (((P, n, q, p, cl, tn), (t, bg, en, ca), (gn, pu, mk), H), U, V, F, (L, T), (6, (fun j => m_sign P n q cl (r * 6 + j))))) := by unfold o_desc <;> (try dsimp only) <;> ((repeat (first | rw [if_pos (by omega)] | rw [if_neg (by omega)]))) <;> rfl
        rw [e9]
        exact ⟨_, rfl, ⟨hMN9, hKN9, hVN9, hEN9, hTN9, hLQ, h7N9⟩, frN9⟩
      · show AR E d _ (25, [some (vA m), some (vI r), some (vI k), z3], [], (C, N9)) _
        refine AR.blk 7 (f' := (33, [some (vA m), some (vI r), some (vI k), some (vI ((6 * r) + k))], [vA m], (C, N9))) (fun _ => rfl) ?_
        refine AR.getR rfl rfl hm.1 (by decide) rfl ?_
        refine AR.blk 3 (f' := (39, [some (vA m), some (vI r), some (vI k), some (vI ((6 * r) + k))], [vI ((6 * r) + k), vA m, vI k, vA (m + 7)], (C, N9))) (fun _ => rfl) ?_
        refine AR.callV [vI ((6 * r) + k)] (ev_X7_pieceAt (by omega) hm rN9 hw ((6 * r) + k) (by omega)) hm.1 rfl rfl rfl rfl rfl ?_
        show AR E d _ (42, [some (vA m), some (vI r), some (vI k), some (vI ((6 * r) + k))], [vI (P ((6 * r) + k) + 1), vI k, vA (m + 7)], (C, N9)) _
        have f3 := hw.1 ((6 * r) + k)
        refine AR.if_le rfl (by omega) (fun c4 => ?_) (fun c4 => ?_)
        · show AR E d _ (60, [some (vA m), some (vI r), some (vI k), some (vI ((6 * r) + k))], [vI k, vA (m + 7)], (C, N9)) _
          refine AR.blk 2 (f' := (62, [some (vA m), some (vI r), some (vI k), some (vI ((6 * r) + k))], [vI ((6 * r) + k), vA m, vI k, vA (m + 7)], (C, N9))) (fun _ => rfl) ?_
          refine AR.callV [vI ((6 * r) + k)] (ev_X7_lockAt (by omega) hm rN9 hw ((6 * r) + k) (by omega)) hm.1 rfl rfl rfl rfl rfl ?_
          show AR E d _ (65, [some (vA m), some (vI r), some (vI k), some (vI ((6 * r) + k))], [vI (m_la n q ((6 * r) + k)), vI k, vA (m + 7)], (C, N9)) _
          have f5 := m_la_in n q ((6 * r) + k) hw.2.2.1.1
          refine AR.if_ge rfl (by omega) (fun c6 => ?_) (fun c6 => ?_)
          · show AR E d _ (73, [some (vA m), some (vI r), some (vI k), some (vI ((6 * r) + k))], [vI k, vA (m + 7)], (C, N9)) _
            refine AR.blk 2 (f' := (75, [some (vA m), some (vI r), some (vI k), some (vI ((6 * r) + k))], [vI ((6 * r) + k), vA m, vI k, vA (m + 7)], (C, N9))) (fun _ => rfl) ?_
            refine AR.callV [vI ((6 * r) + k)] (ev_X7_isClosed (by omega) hm rN9 hw ((6 * r) + k) (by omega)) hm.1 rfl rfl rfl rfl rfl ?_
            show AR E d _ (78, [some (vA m), some (vI r), some (vI k), some (vI ((6 * r) + k))], [vI (m_cl n q cl ((6 * r) + k)), vI k, vA (m + 7)], (C, N9)) _
            have f7 := m_cl_in n q cl ((6 * r) + k) (fun k => (hw.2.2.2.2.1 k).1)
            refine AR.if_eq rfl (by omega) (fun c8 => ?_) (fun c8 => ?_)
            · show AR E d _ (86, [some (vA m), some (vI r), some (vI k), some (vI ((6 * r) + k))], [vI k, vA (m + 7)], (C, N9)) _
              refine AR.blk 1 (f' := (88, [some (vA m), some (vI r), some (vI k), some (vI ((6 * r) + k))], [vI 61, vI k, vA (m + 7)], (C, N9))) (fun _ => rfl) ?_
              refine AR.cast rfl hm.2.2.2.2.2.2.2.1 (by omega) ?_
              refine AR.blk 2 (f' := (19, [some (vA m), some (vI r), some (vI (k + 1)), some (vI ((6 * r) + k))], [], (C, ag_upd N9 (m + 7) k 61))) (fun _ => rfl) ?_
              exact ih19 _ _ _ (by omega) (by omega) (fun a ha => (ag_upd_ne (by omega)).trans (qf a ha)) (fun j hj => (congrFun (ag_upd_ne (by omega)) j).trans (qk j hj)) ((congrFun (ag_upd_ne (by omega)) _).trans q16) (g_up2 (P := fun j => m_sign P n q cl (r * 6 + j)) (show _ = m_sign P n q cl (r * 6 + k) by rw [← ze]; first | exact m_sign_str n q cl zp (by omega) | (unfold m_sign; omega)) hl9)
            · show AR E d _ (81, [some (vA m), some (vI r), some (vI k), some (vI ((6 * r) + k))], [vI k, vA (m + 7)], (C, N9)) _
              refine AR.blk 2 (f' := (88, [some (vA m), some (vI r), some (vI k), some (vI ((6 * r) + k))], [vI 35, vI k, vA (m + 7)], (C, N9))) (fun _ => rfl) ?_
              refine AR.cast rfl hm.2.2.2.2.2.2.2.1 (by omega) ?_
              refine AR.blk 2 (f' := (19, [some (vA m), some (vI r), some (vI (k + 1)), some (vI ((6 * r) + k))], [], (C, ag_upd N9 (m + 7) k 35))) (fun _ => rfl) ?_
              exact ih19 _ _ _ (by omega) (by omega) (fun a ha => (ag_upd_ne (by omega)).trans (qf a ha)) (fun j hj => (congrFun (ag_upd_ne (by omega)) j).trans (qk j hj)) ((congrFun (ag_upd_ne (by omega)) _).trans q16) (g_up2 (P := fun j => m_sign P n q cl (r * 6 + j)) (show _ = m_sign P n q cl (r * 6 + k) by rw [← ze]; first | exact m_sign_str n q cl zp (by omega) | (unfold m_sign; omega)) hl9)
          · show AR E d _ (68, [some (vA m), some (vI r), some (vI k), some (vI ((6 * r) + k))], [vI k, vA (m + 7)], (C, N9)) _
            refine AR.blk 2 (f' := (88, [some (vA m), some (vI r), some (vI k), some (vI ((6 * r) + k))], [vI 46, vI k, vA (m + 7)], (C, N9))) (fun _ => rfl) ?_
            refine AR.cast rfl hm.2.2.2.2.2.2.2.1 (by omega) ?_
            refine AR.blk 2 (f' := (19, [some (vA m), some (vI r), some (vI (k + 1)), some (vI ((6 * r) + k))], [], (C, ag_upd N9 (m + 7) k 46))) (fun _ => rfl) ?_
            exact ih19 _ _ _ (by omega) (by omega) (fun a ha => (ag_upd_ne (by omega)).trans (qf a ha)) (fun j hj => (congrFun (ag_upd_ne (by omega)) j).trans (qk j hj)) ((congrFun (ag_upd_ne (by omega)) _).trans q16) (g_up2 (P := fun j => m_sign P n q cl (r * 6 + j)) (show _ = m_sign P n q cl (r * 6 + k) by rw [← ze]; first | exact m_sign_str n q cl zp (by omega) | (unfold m_sign; omega)) hl9)
        · show AR E d _ (45, [some (vA m), some (vI r), some (vI k), some (vI ((6 * r) + k))], [vI k, vA (m + 7)], (C, N9)) _
          refine AR.blk 3 (f' := (49, [some (vA m), some (vI r), some (vI k), some (vI ((6 * r) + k))], [vI ((6 * r) + k), vA m, vX 1, vI k, vA (m + 7)], (C, N9))) (fun _ => rfl) ?_
          refine AR.callV [vI ((6 * r) + k)] (ev_X7_pieceAt (by omega) hm rN9 hw ((6 * r) + k) (by omega)) hm.1 rfl rfl rfl rfl rfl ?_
          show AR E d _ (52, [some (vA m), some (vI r), some (vI k), some (vI ((6 * r) + k))], [vI (P ((6 * r) + k) + 1), vX 1, vI k, vA (m + 7)], (C, N9)) _
          have f9 := hw.1 ((6 * r) + k)
          refine AR.blk 2 (f' := (54, [some (vA m), some (vI r), some (vI k), some (vI ((6 * r) + k))], [vI ((P ((6 * r) + k) + 1) - 1), vX 1, vI k, vA (m + 7)], (C, N9))) (fun _ => rfl) ?_
          refine AR.charAt rfl rfl ⟨(by omega), Nat.le_of_ble_eq_true rfl⟩ ?_
          refine AR.blk 1 (f' := (88, [some (vA m), some (vI r), some (vI k), some (vI ((6 * r) + k))], [vI (ag_str 1 ((P ((6 * r) + k) + 1) - 1 : Int).toNat), vI k, vA (m + 7)], (C, N9))) (fun _ => rfl) ?_
          refine AR.cast rfl hm.2.2.2.2.2.2.2.1 (by omega) ?_
          refine AR.blk 2 (f' := (19, [some (vA m), some (vI r), some (vI (k + 1)), some (vI ((6 * r) + k))], [], (C, ag_upd N9 (m + 7) k (ag_str 1 ((P ((6 * r) + k) + 1) - 1 : Int).toNat)))) (fun _ => rfl) ?_
          exact ih19 _ _ _ (by omega) (by omega) (fun a ha => (ag_upd_ne (by omega)).trans (qf a ha)) (fun j hj => (congrFun (ag_upd_ne (by omega)) j).trans (qk j hj)) ((congrFun (ag_upd_ne (by omega)) _).trans q16) (g_up2 (P := fun j => m_sign P n q cl (r * 6 + j)) (show _ = m_sign P n q cl (r * 6 + k) by rw [← ze]; first | exact m_sign_str n q cl zp (by omega) | (unfold m_sign; omega)) hl9)
  · show AR E d _ (9, [some (vA m), some (vI r), none, none], [], (C, N)) _
    refine AR.blk 1 (f' := (10, [some (vA m), some (vI r), none, none], [vI (-1)], (C, N))) (fun _ => rfl) ?_
    refine AR.endI rfl (.inl rfl) ?_
    have e9 : o_desc (((P, n, q, p, cl, tn), (t, bg, en, ca), (gn, pu, mk), H), U, V, F, (L, T), (l, ln)) r = ((-1), (((P, n, q, p, cl, tn), (t, bg, en, ca), (gn, pu, mk), H), U, V, F, (L, T), (l, ln))) := by unfold o_desc <;> (try dsimp only) <;> ((repeat (first | rw [if_pos (by omega)] | rw [if_neg (by omega)]))) <;> rfl
    rw [e9]
    exact ⟨_, rfl, ⟨hM, hK, hV, hE, hT, hL, h7⟩, (fun _ _ => rfl)⟩

theorem ev_X7_append {d : Nat} (hd : 2 ≤ d) {G : m_G} {U : List m_G} {V : Option m_G} {F : m_F} {L : Int} {T : Int → Int} {l : Int} {ln : Int → Int} (hm : g_isM C m) (hY : g_rY N m (G, U, V, F, (L, T), (l, ln))) (hS : g_vS (G, U, V, F, (L, T), (l, ln))) (c : Int) (h0 : ag_in c) : ∃ o_, Ev E d 158 [vA m, vI c] (C, N) o_ ∧ g_QY C N m (o_app (G, U, V, F, (L, T), (l, ln)) c) o_ := by
  obtain ⟨d, rfl⟩ : ∃ j, d = j + 1 := ⟨d - 1, by omega⟩
  obtain ⟨⟨P, n, q, p, cl, tn⟩, ⟨t, bg, en, ca⟩, ⟨gn, pu, mk⟩, H⟩ := G
  have hM : g_rM (N (m + 1)) ((P, n, q, p, cl, tn), (t, bg, en, ca), (gn, pu, mk), H) := hY.1
  have hK : g_rK N m U := hY.2.1
  have hV : g_rW N m V := hY.2.2.1
  have hE : g_rE N m F := hY.2.2.2.1
  have hT : g_rTm N m L T := hY.2.2.2.2.1
  have hL : g_rLm N m l ln := hY.2.2.2.2.2.1
  have h7 : N m 7 = 0 := hY.2.2.2.2.2.2
  have hvG : g_vG ((P, n, q, p, cl, tn), (t, bg, en, ca), (gn, pu, mk), H) := hS.1
  have hw : g_wB P n q p cl tn := hvG.1.1
  have hwH : g_wH H := hvG.1.2.1
  have hv : g_wS t bg en ca gn pu mk := hvG.1.2.2
  have w1 := hv.1
  have w2 := hv.2.1
  have w3 := hv.2.2.1
  have w4 := hv.2.2.2.1
  have w6 := hv.2.2.2.2.2
  have w7 := hw.2.2.1
  have hwL : 0 ≤ L ∧ L ≤ 70 := hS.2.2.2.1
  have hwl : 0 ≤ l ∧ l ≤ 6 := hS.2.2.2.2.2
  have k8 := hK.2.1
  have r0 : g_rR (N (m + 1)) P n q p cl tn := hM.1
  have z0 : g_rZ (N (m + 1)) t (t % 2) (t / 4) bg en ca gn pu mk := hM.2.1
  have s0 : g_rS (N (m + 1)) t bg en ca gn pu mk := z0
  have D0 : g_rD (N (m + 1)) (m_D H) := hM.2.2.1
  have p0 : (bg : Int) = 0 → N (m + 1) 6 = m_cnt P 0 ∧ N (m + 1) 7 = m_cnt P 1 := hM.2.2.2
  refine Ev.introQ (M := ag_mX7_append) rfl rfl ?_
  show AR E d _ (0, [some (vA m), some (vI c)], [], (C, N)) _
  refine AR.blk 3 (f' := (5, [some (vA m), some (vI c)], [vI 126, vI 32, vI c], (C, N))) (fun _ => rfl) ?_
  refine AR.callS [vI c, vI 32, vI 126] (ev_X7_in (by omega) c 32 126 (by omega)) rfl rfl rfl rfl rfl ?_
  show AR E d _ (8, [some (vA m), some (vI c)], [vI (if 32 ≤ c ∧ c ≤ 126 then 1 else 0)], (C, N)) _
  refine AR.if_eq rfl (by omega) (fun c1 => ?_) (fun c1 => ?_)
  · show AR E d _ (20, [some (vA m), some (vI c)], [], (C, N)) _
    refine AR.blk 1 (f' := (22, [some (vA m), some (vI c)], [vI (-2)], (C, N))) (fun _ => rfl) ?_
    refine AR.endI rfl (.inl rfl) ?_
    have e9 : o_app (((P, n, q, p, cl, tn), (t, bg, en, ca), (gn, pu, mk), H), U, V, F, (L, T), (l, ln)) c = ((-2), (((P, n, q, p, cl, tn), (t, bg, en, ca), (gn, pu, mk), H), U, V, F, (L, T), (l, ln))) := by unfold o_app <;> (try dsimp only) <;> ((repeat (first | rw [if_pos (by omega)] | rw [if_neg (by omega)]))) <;> rfl
    rw [e9]
    exact ⟨_, rfl, ⟨hM, hK, hV, hE, hT, hL, h7⟩, (fun _ _ => rfl)⟩
  · show AR E d _ (11, [some (vA m), some (vI c)], [], (C, N)) _
    refine AR.blk 1 (f' := (12, [some (vA m), some (vI c)], [vA m], (C, N))) (fun _ => rfl) ?_
    refine AR.getI rfl rfl hm.1 (by decide) (v := L) hT.1 ?_
    refine AR.blk 1 (f' := (17, [some (vA m), some (vI c)], [vI 70, vI L], (C, N))) (fun _ => rfl) ?_
    refine AR.ic_ne rfl (by omega) (fun c2 => ?_) (fun c2 => ?_)
    · show AR E d _ (23, [some (vA m), some (vI c)], [], (C, N)) _
      refine AR.blk 1 (f' := (24, [some (vA m), some (vI c)], [vA m], (C, N))) (fun _ => rfl) ?_
      refine AR.getR rfl rfl hm.1 (by decide) rfl ?_
      refine AR.blk 1 (f' := (28, [some (vA m), some (vI c)], [vA m, vA (m + 6)], (C, N))) (fun _ => rfl) ?_
      refine AR.getI rfl rfl hm.1 (by decide) (v := L) hT.1 ?_
      refine AR.blk 1 (f' := (32, [some (vA m), some (vI c)], [vI c, vI L, vA (m + 6)], (C, N))) (fun _ => rfl) ?_
      refine AR.iast rfl hm.2.2.2.2.2.2.1 (by omega) ?_
      refine AR.blk 2 (f' := (35, [some (vA m), some (vI c)], [vA m, vA m], (C, ag_upd N (m + 6) L c))) (fun _ => rfl) ?_
      refine AR.getI rfl rfl hm.1 (by decide) (v := L) ((congrFun (ag_upd_ne (by omega)) _).trans hT.1) ?_
      refine AR.blk 2 (f' := (40, [some (vA m), some (vI c)], [vI (L + 1), vA m], (C, ag_upd N (m + 6) L c))) (fun _ => rfl) ?_
      refine AR.putI rfl rfl hm.1 (by decide) (fun q => absurd q (by decide)) ?_
      refine AR.blk 1 (f' := (44, [some (vA m), some (vI c)], [vA m], (C, ag_upd (ag_upd N (m + 6) L c) m 14 (L + 1)))) (fun _ => rfl) ?_
      refine AR.getI rfl rfl hm.1 (by decide) (v := L + 1) ag_upd_eq ?_
      have fQ : ∀ a, ¬ (a = m ∨ a = m + 6) → (ag_upd (ag_upd N (m + 6) L c) m 14 (L + 1)) a = N a := fun a ha => (ag_upd_ne (by omega)).trans (ag_upd_ne (by omega))
      have kQ : ∀ j : Int, j ≠ 14 → (ag_upd (ag_upd N (m + 6) L c) m 14 (L + 1)) m j = N m j := fun j hj => (ag_upd_nk hj).trans (congrFun (ag_upd_ne (by omega)) _)
      have TQ : g_rTm (ag_upd (ag_upd N (m + 6) L c) m 14 (L + 1)) m (L + 1) (m_set T L c) := ⟨ag_upd_eq, fun j z0 z1 => (congrFun (ag_upd_ne (by omega)) j).trans (m_app1 (fun q => hT.2 j z0 (by omega)))⟩
      have hMQ9 : g_rM (ag_upd (ag_upd N (m + 6) L c) m 14 (L + 1) (m + 1)) ((P, n, q, p, cl, tn), (t, bg, en, ca), (gn, pu, mk), H) := by rw [fQ (m + 1) (by omega)]; exact hM
      have rQ9 : g_rR ((ag_upd (ag_upd N (m + 6) L c) m 14 (L + 1)) (m + 1)) P n q p cl tn := hMQ9.1
      have zQ9 : g_rZ ((ag_upd (ag_upd N (m + 6) L c) m 14 (L + 1)) (m + 1)) t (t % 2) (t / 4) bg en ca gn pu mk := hMQ9.2.1
      have sQ9 : g_rS ((ag_upd (ag_upd N (m + 6) L c) m 14 (L + 1)) (m + 1)) t bg en ca gn pu mk := zQ9
      have DQ9 : g_rD ((ag_upd (ag_upd N (m + 6) L c) m 14 (L + 1)) (m + 1)) (m_D H) := hMQ9.2.2.1
      have pQ9 : (bg : Int) = 0 → (ag_upd (ag_upd N (m + 6) L c) m 14 (L + 1)) (m + 1) 6 = m_cnt P 0 ∧ (ag_upd (ag_upd N (m + 6) L c) m 14 (L + 1)) (m + 1) 7 = m_cnt P 1 := hMQ9.2.2.2
      have hKQ9 := g_rK_fr hK (N' := ag_upd (ag_upd N (m + 6) L c) m 14 (L + 1)) (kQ 6 (by omega)) (fQ (m + 2) (by omega))
      have hVQ9 := g_rW_fr hV (N' := ag_upd (ag_upd N (m + 6) L c) m 14 (L + 1)) (kQ 5 (by omega)) (fQ (m + 3) (by omega))
      have hEQ9 := g_rE_fr hE (N' := ag_upd (ag_upd N (m + 6) L c) m 14 (L + 1)) (fun k z0 z1 => kQ k (by omega))
      have hLQ9 := g_rLm_fr hL (N' := ag_upd (ag_upd N (m + 6) L c) m 14 (L + 1)) (kQ 16 (by omega)) (fQ (m + 7) (by omega))
      have h7Q9 := (kQ 7 (by omega)).trans h7
      have frQ9 : ∀ a, ¬ (m ≤ a ∧ a < m + 9) → (ag_upd (ag_upd N (m + 6) L c) m 14 (L + 1)) a = N a := fun a ha => (fQ a (by omega)).trans ((fun _ _ => rfl) a ha)
      refine AR.endI rfl (.inl rfl) ?_
      have e9 : o_app (((P, n, q, p, cl, tn), (t, bg, en, ca), (gn, pu, mk), H), U, V, F, (L, T), (l, ln)) c = (L + 1, (((P, n, q, p, cl, tn), (t, bg, en, ca), (gn, pu, mk), H), U, V, F, (L + 1, (m_set T L c)), (l, ln))) := by unfold o_app <;> (try dsimp only) <;> ((repeat (first | rw [if_pos (by omega)] | rw [if_neg (by omega)]))) <;> rfl
      rw [e9]
      exact ⟨_, rfl, ⟨hMQ9, hKQ9, hVQ9, hEQ9, TQ, hLQ9, h7Q9⟩, frQ9⟩
    · show AR E d _ (20, [some (vA m), some (vI c)], [], (C, N)) _
      refine AR.blk 1 (f' := (22, [some (vA m), some (vI c)], [vI (-2)], (C, N))) (fun _ => rfl) ?_
      refine AR.endI rfl (.inl rfl) ?_
      have e9 : o_app (((P, n, q, p, cl, tn), (t, bg, en, ca), (gn, pu, mk), H), U, V, F, (L, T), (l, ln)) c = ((-2), (((P, n, q, p, cl, tn), (t, bg, en, ca), (gn, pu, mk), H), U, V, F, (L, T), (l, ln))) := by unfold o_app <;> (try dsimp only) <;> ((repeat (first | rw [if_pos (by omega)] | rw [if_neg (by omega)]))) <;> rfl
      rw [e9]
      exact ⟨_, rfl, ⟨hM, hK, hV, hE, hT, hL, h7⟩, (fun _ _ => rfl)⟩

theorem ev_X7_undo0 {d : Nat} (hd : 2 ≤ d) {G : m_G} {V : Option m_G} {F : m_F} {L : Int} {T : Int → Int} {l : Int} {ln : Int → Int} (hm : g_isM C m) (hY : g_rY N m (G, ([] : List m_G), V, F, (L, T), (l, ln))) (hS : g_vS (G, ([] : List m_G), V, F, (L, T), (l, ln))) : ∃ o_, Ev E d 168 [vA m] (C, N) o_ ∧ g_QY C N m (o_undo (G, ([] : List m_G), V, F, (L, T), (l, ln))) o_ := by
  obtain ⟨d, rfl⟩ : ∃ j, d = j + 1 := ⟨d - 1, by omega⟩
  obtain ⟨⟨P, n, q, p, cl, tn⟩, ⟨t, bg, en, ca⟩, ⟨gn, pu, mk⟩, H⟩ := G
  have hM : g_rM (N (m + 1)) ((P, n, q, p, cl, tn), (t, bg, en, ca), (gn, pu, mk), H) := hY.1
  have hK : g_rK N m ([] : List m_G) := hY.2.1
  have hV : g_rW N m V := hY.2.2.1
  have hE : g_rE N m F := hY.2.2.2.1
  have hT : g_rTm N m L T := hY.2.2.2.2.1
  have hL : g_rLm N m l ln := hY.2.2.2.2.2.1
  have h7 : N m 7 = 0 := hY.2.2.2.2.2.2
  have hvG : g_vG ((P, n, q, p, cl, tn), (t, bg, en, ca), (gn, pu, mk), H) := hS.1
  have hw : g_wB P n q p cl tn := hvG.1.1
  have hwH : g_wH H := hvG.1.2.1
  have hv : g_wS t bg en ca gn pu mk := hvG.1.2.2
  have w1 := hv.1
  have w2 := hv.2.1
  have w3 := hv.2.2.1
  have w4 := hv.2.2.2.1
  have w6 := hv.2.2.2.2.2
  have w7 := hw.2.2.1
  have hwL : 0 ≤ L ∧ L ≤ 70 := hS.2.2.2.1
  have hwl : 0 ≤ l ∧ l ≤ 6 := hS.2.2.2.2.2
  have k8 := hK.2.1
  have r0 : g_rR (N (m + 1)) P n q p cl tn := hM.1
  have z0 : g_rZ (N (m + 1)) t (t % 2) (t / 4) bg en ca gn pu mk := hM.2.1
  have s0 : g_rS (N (m + 1)) t bg en ca gn pu mk := z0
  have D0 : g_rD (N (m + 1)) (m_D H) := hM.2.2.1
  have p0 : (bg : Int) = 0 → N (m + 1) 6 = m_cnt P 0 ∧ N (m + 1) 7 = m_cnt P 1 := hM.2.2.2
  refine Ev.introQ (M := ag_mX7_undo) rfl rfl ?_
  show AR E d _ (0, [some (vA m)], [], (C, N)) _
  refine AR.blk 1 (f' := (1, [some (vA m)], [vA m], (C, N))) (fun _ => rfl) ?_
  refine AR.getI rfl rfl hm.1 (by decide) (v := 0) hK.1 ?_
  refine AR.blk 2 (f' := (9, [some (vA m)], [vI (-4)], (C, N))) (fun _ => rfl) ?_
  refine AR.endI rfl (.inl rfl) ?_
  have e9 : o_undo (((P, n, q, p, cl, tn), (t, bg, en, ca), (gn, pu, mk), H), ([] : List m_G), V, F, (L, T), (l, ln)) = ((-4), (((P, n, q, p, cl, tn), (t, bg, en, ca), (gn, pu, mk), H), ([] : List m_G), V, F, (L, T), (l, ln))) := by unfold o_undo <;> (try dsimp only) <;> ((repeat (first | rw [if_pos (by omega)] | rw [if_neg (by omega)]))) <;> rfl
  rw [e9]
  exact ⟨_, rfl, ⟨hM, hK, hV, hE, hT, hL, h7⟩, (fun _ _ => rfl)⟩

theorem ev_X7_undo1 {d : Nat} (hd : 2 ≤ d) {G : m_G} {G9 : m_G} {U : List m_G} {V : Option m_G} {F : m_F} {L : Int} {T : Int → Int} {l : Int} {ln : Int → Int} (hm : g_isM C m) (hY : g_rY N m (G, G9 :: U, V, F, (L, T), (l, ln))) (hS : g_vS (G, G9 :: U, V, F, (L, T), (l, ln))) : ∃ o_, Ev E d 168 [vA m] (C, N) o_ ∧ g_QY C N m (o_undo (G, G9 :: U, V, F, (L, T), (l, ln))) o_ := by
  obtain ⟨d, rfl⟩ : ∃ j, d = j + 1 := ⟨d - 1, by omega⟩
  obtain ⟨⟨P9, n9, q9, p9, cl9, tn9⟩, ⟨t9, bg9, en9, ca9⟩, ⟨gn9, pu9, mk9⟩, H9⟩ := G9
  obtain ⟨⟨P, n, q, p, cl, tn⟩, ⟨t, bg, en, ca⟩, ⟨gn, pu, mk⟩, H⟩ := G
  have hM : g_rM (N (m + 1)) ((P, n, q, p, cl, tn), (t, bg, en, ca), (gn, pu, mk), H) := hY.1
  have hK : g_rK N m (((P9, n9, q9, p9, cl9, tn9), (t9, bg9, en9, ca9), (gn9, pu9, mk9), H9) :: U) := hY.2.1
  have hV : g_rW N m V := hY.2.2.1
  have hE : g_rE N m F := hY.2.2.2.1
  have hT : g_rTm N m L T := hY.2.2.2.2.1
  have hL : g_rLm N m l ln := hY.2.2.2.2.2.1
  have h7 : N m 7 = 0 := hY.2.2.2.2.2.2
  have hvG : g_vG ((P, n, q, p, cl, tn), (t, bg, en, ca), (gn, pu, mk), H) := hS.1
  have hw : g_wB P n q p cl tn := hvG.1.1
  have hwH : g_wH H := hvG.1.2.1
  have hv : g_wS t bg en ca gn pu mk := hvG.1.2.2
  have w1 := hv.1
  have w2 := hv.2.1
  have w3 := hv.2.2.1
  have w4 := hv.2.2.2.1
  have w6 := hv.2.2.2.2.2
  have w7 := hw.2.2.1
  have hwL : 0 ≤ L ∧ L ≤ 70 := hS.2.2.2.1
  have hwl : 0 ≤ l ∧ l ≤ 6 := hS.2.2.2.2.2
  have r0 : g_rR (N (m + 1)) P n q p cl tn := hM.1
  have z0 : g_rZ (N (m + 1)) t (t % 2) (t / 4) bg en ca gn pu mk := hM.2.1
  have s0 : g_rS (N (m + 1)) t bg en ca gn pu mk := z0
  have D0 : g_rD (N (m + 1)) (m_D H) := hM.2.2.1
  have p0 : (bg : Int) = 0 → N (m + 1) 6 = m_cnt P 0 ∧ N (m + 1) 7 = m_cnt P 1 := hM.2.2.2
  have hv9 : g_vG ((P9, n9, q9, p9, cl9, tn9), (t9, bg9, en9, ca9), (gn9, pu9, mk9), H9) := hS.2.1 _ List.mem_cons_self
  have hw9 : g_wB P9 n9 q9 p9 cl9 tn9 := hv9.1.1
  have hy9 : g_wS t9 bg9 en9 ca9 gn9 pu9 mk9 := hv9.1.2.2
  have hK1 : N m 6 = (U.length : Int) + 1 := hK.1.trans (by rw [List.length_cons]; omega)
  have k8 := hK.2.1
  rw [List.length_cons] at k8
  refine Ev.introQ (M := ag_mX7_undo) rfl rfl ?_
  show AR E d _ (0, [some (vA m)], [], (C, N)) _
  refine AR.blk 1 (f' := (1, [some (vA m)], [vA m], (C, N))) (fun _ => rfl) ?_
  refine AR.getI rfl rfl hm.1 (by decide) (v := (U.length : Int) + 1) hK1 ?_
  refine AR.if_ne rfl (by omega) (fun c1 => ?_) (fun c1 => ?_)
  · show AR E d _ (10, [some (vA m)], [], (C, N)) _
    refine AR.blk 2 (f' := (12, [some (vA m)], [vA m, vA m], (C, N))) (fun _ => rfl) ?_
    refine AR.getI rfl rfl hm.1 (by decide) (v := (U.length : Int) + 1) hK1 ?_
    refine AR.blk 2 (f' := (17, [some (vA m)], [vI (((U.length : Int) + 1) - 1), vA m], (C, N))) (fun _ => rfl) ?_
    refine AR.putI rfl rfl hm.1 (by decide) (fun q => absurd q (by decide)) ?_
    refine AR.blk 1 (f' := (21, [some (vA m)], [vA m], (C, ag_upd N m 6 (((U.length : Int) + 1) - 1)))) (fun _ => rfl) ?_
    refine AR.getR rfl rfl hm.1 (by decide) rfl ?_
    refine AR.blk 2 (f' := (28, [some (vA m)], [vA m, vI 800, vA (m + 2)], (C, ag_upd N m 6 (((U.length : Int) + 1) - 1)))) (fun _ => rfl) ?_
    refine AR.getI rfl rfl hm.1 (by decide) (v := ((U.length : Int) + 1) - 1) ag_upd_eq ?_
    refine AR.blk 2 (f' := (33, [some (vA m)], [vA m, vI (800 * (((U.length : Int) + 1) - 1)), vA (m + 2)], (C, ag_upd N m 6 (((U.length : Int) + 1) - 1)))) (fun _ => rfl) ?_
    refine AR.getR rfl rfl hm.1 (by decide) rfl ?_
    refine AR.blk 1 (f' := (37, [some (vA m)], [vI 0, vA (m + 1), vI (800 * (((U.length : Int) + 1) - 1)), vA (m + 2)], (C, ag_upd N m 6 (((U.length : Int) + 1) - 1)))) (fun _ => rfl) ?_
    obtain ⟨_, hE2, N3, rfl, hq4, hx5, hf6⟩ := ev_X7_copies (E := E) (d := d) (N := ag_upd N m 6 (((U.length : Int) + 1) - 1)) (by omega) hm.2.2.1 hm.2.1 (by omega) (800 * (((U.length : Int) + 1) - 1)) 0 (by omega) (by omega)
    have fQ : ∀ a, ¬ (a = m ∨ a = m + 1) → N3 a = N a := fun a ha => (hf6 a (by omega)).trans (ag_upd_ne (by omega))
    have kQ : ∀ j : Int, j ≠ 6 → N3 m j = N m j := fun j hj => (congrFun (hf6 m (by omega)) j).trans (ag_upd_nk hj)
    have c6 : N3 m 6 = ((U.length : Int) + 1) - 1 := (congrFun (hf6 m (by omega)) _).trans ag_upd_eq
    have hVN3 := g_rW_fr hV (N' := N3) (kQ 5 (by omega)) (fQ (m + 3) (by omega))
    have hEN3 := g_rE_fr hE (N' := N3) (fun k z0 z1 => kQ k (by omega))
    have hTN3 := g_rTm_fr hT (N' := N3) (kQ 14 (by omega)) (fQ (m + 6) (by omega))
    have hLN3 := g_rLm_fr hL (N' := N3) (kQ 16 (by omega)) (fQ (m + 7) (by omega))
    have h7N3 := (kQ 7 (by omega)).trans h7
    have frN3 : ∀ a, ¬ (m ≤ a ∧ a < m + 9) → (N3) a = N a := fun a ha => (fQ a (by omega)).trans ((fun _ _ => rfl) a ha)
    have KQ : g_rK N3 m U := g_rK_pop hK (c6.trans (by omega)) (fQ (m + 2) (by omega))
    have hMQ : g_rM (N3 (m + 1)) ((P9, n9, q9, p9, cl9, tn9), (t9, bg9, en9, ca9), (gn9, pu9, mk9), H9) := g_rM_cp hv9 (hK.2.2 0 _ rfl) (fun j z0 z1 => (hq4 j z0 z1).trans ((congrFun (ag_upd_ne (by omega)) _).trans (congrArg (N (m + 2)) (by rw [List.length_cons]; omega))))
    have rN3 : g_rR (N3 (m + 1)) P9 n9 q9 p9 cl9 tn9 := hMQ.1
    have zN3 : g_rZ (N3 (m + 1)) t9 (t9 % 2) (t9 / 4) bg9 en9 ca9 gn9 pu9 mk9 := hMQ.2.1
    have sN3 : g_rS (N3 (m + 1)) t9 bg9 en9 ca9 gn9 pu9 mk9 := zN3
    have DN3 : g_rD (N3 (m + 1)) (m_D H9) := hMQ.2.2.1
    have pN3 : (bg9 : Int) = 0 → N3 (m + 1) 6 = m_cnt P9 0 ∧ N3 (m + 1) 7 = m_cnt P9 1 := hMQ.2.2.2
    refine AR.callS [vA (m + 2), vI (800 * (((U.length : Int) + 1) - 1)), vA (m + 1), vI 0] hE2 rfl rfl rfl rfl rfl ?_
    show AR E d _ (40, [some (vA m)], [], (C, N3)) _
    refine AR.blk 1 (f' := (41, [some (vA m)], [vA m], (C, N3))) (fun _ => rfl) ?_
    refine AR.getI rfl rfl hm.1 (by decide) (v := ((U.length : Int) + 1) - 1) c6 ?_
    rw [show ((U.length : Int) + 1) - 1 = U.length by omega]
    refine AR.endI rfl (.inl rfl) ?_
    have e9 : o_undo (((P, n, q, p, cl, tn), (t, bg, en, ca), (gn, pu, mk), H), ((P9, n9, q9, p9, cl9, tn9), (t9, bg9, en9, ca9), (gn9, pu9, mk9), H9) :: U, V, F, (L, T), (l, ln)) = ((U.length : Int), (((P9, n9, q9, p9, cl9, tn9), (t9, bg9, en9, ca9), (gn9, pu9, mk9), H9), U, V, F, (L, T), (l, ln))) := by unfold o_undo <;> (try dsimp only) <;> ((repeat (first | rw [if_pos (by omega)] | rw [if_neg (by omega)]))) <;> rfl
    rw [e9]
    exact ⟨_, rfl, ⟨hMQ, KQ, hVN3, hEN3, hTN3, hLN3, h7N3⟩, frN3⟩
  · show AR E d _ (7, [some (vA m)], [], (C, N)) _
    refine AR.blk 1 (f' := (9, [some (vA m)], [vI (-4)], (C, N))) (fun _ => rfl) ?_
    exact False.elim (by omega)

theorem ev_X7_save {d : Nat} (hd : 2 ≤ d) {G : m_G} {U : List m_G} {V : Option m_G} {F : m_F} {L : Int} {T : Int → Int} {l : Int} {ln : Int → Int} (hm : g_isM C m) (hY : g_rY N m (G, U, V, F, (L, T), (l, ln))) (hS : g_vS (G, U, V, F, (L, T), (l, ln))) : ∃ o_, Ev E d 169 [vA m] (C, N) o_ ∧ g_QY C N m (o_save (G, U, V, F, (L, T), (l, ln))) o_ := by
  obtain ⟨d, rfl⟩ : ∃ j, d = j + 1 := ⟨d - 1, by omega⟩
  obtain ⟨⟨P, n, q, p, cl, tn⟩, ⟨t, bg, en, ca⟩, ⟨gn, pu, mk⟩, H⟩ := G
  have hM : g_rM (N (m + 1)) ((P, n, q, p, cl, tn), (t, bg, en, ca), (gn, pu, mk), H) := hY.1
  have hK : g_rK N m U := hY.2.1
  have hV : g_rW N m V := hY.2.2.1
  have hE : g_rE N m F := hY.2.2.2.1
  have hT : g_rTm N m L T := hY.2.2.2.2.1
  have hL : g_rLm N m l ln := hY.2.2.2.2.2.1
  have h7 : N m 7 = 0 := hY.2.2.2.2.2.2
  have hvG : g_vG ((P, n, q, p, cl, tn), (t, bg, en, ca), (gn, pu, mk), H) := hS.1
  have hw : g_wB P n q p cl tn := hvG.1.1
  have hwH : g_wH H := hvG.1.2.1
  have hv : g_wS t bg en ca gn pu mk := hvG.1.2.2
  have w1 := hv.1
  have w2 := hv.2.1
  have w3 := hv.2.2.1
  have w4 := hv.2.2.2.1
  have w6 := hv.2.2.2.2.2
  have w7 := hw.2.2.1
  have hwL : 0 ≤ L ∧ L ≤ 70 := hS.2.2.2.1
  have hwl : 0 ≤ l ∧ l ≤ 6 := hS.2.2.2.2.2
  have k8 := hK.2.1
  have r0 : g_rR (N (m + 1)) P n q p cl tn := hM.1
  have z0 : g_rZ (N (m + 1)) t (t % 2) (t / 4) bg en ca gn pu mk := hM.2.1
  have s0 : g_rS (N (m + 1)) t bg en ca gn pu mk := z0
  have D0 : g_rD (N (m + 1)) (m_D H) := hM.2.2.1
  have p0 : (bg : Int) = 0 → N (m + 1) 6 = m_cnt P 0 ∧ N (m + 1) 7 = m_cnt P 1 := hM.2.2.2
  refine Ev.introQ (M := ag_mX7_save) rfl rfl ?_
  show AR E d _ (0, [some (vA m)], [], (C, N)) _
  refine AR.blk 2 (f' := (2, [some (vA m)], [vI 1, vA m], (C, N))) (fun _ => rfl) ?_
  refine AR.putI rfl rfl hm.1 (by decide) (fun _ => by omega) ?_
  refine AR.blk 1 (f' := (6, [some (vA m)], [vA m], (C, ag_upd N m 5 1))) (fun _ => rfl) ?_
  refine AR.getR rfl rfl hm.1 (by decide) rfl ?_
  refine AR.blk 2 (f' := (11, [some (vA m)], [vA m, vI 0, vA (m + 1)], (C, ag_upd N m 5 1))) (fun _ => rfl) ?_
  refine AR.getR rfl rfl hm.1 (by decide) rfl ?_
  refine AR.blk 1 (f' := (15, [some (vA m)], [vI 0, vA (m + 3), vI 0, vA (m + 1)], (C, ag_upd N m 5 1))) (fun _ => rfl) ?_
  obtain ⟨_, hE1, N2, rfl, hq3, hx4, hf5⟩ := ev_X7_copies (E := E) (d := d) (N := ag_upd N m 5 1) (by omega) hm.2.1 hm.2.2.2.1 (by omega) 0 0 (by omega) (by omega)
  have fQ : ∀ a, ¬ (a = m ∨ a = m + 3) → N2 a = N a := fun a ha => (hf5 a (by omega)).trans (ag_upd_ne (by omega))
  have kQ : ∀ j : Int, j ≠ 5 → N2 m j = N m j := fun j hj => (congrFun (hf5 m (by omega)) j).trans (ag_upd_nk hj)
  have hMN2 : g_rM (N2 (m + 1)) ((P, n, q, p, cl, tn), (t, bg, en, ca), (gn, pu, mk), H) := by rw [fQ (m + 1) (by omega)]; exact hM
  have rN2 : g_rR ((N2) (m + 1)) P n q p cl tn := hMN2.1
  have zN2 : g_rZ ((N2) (m + 1)) t (t % 2) (t / 4) bg en ca gn pu mk := hMN2.2.1
  have sN2 : g_rS ((N2) (m + 1)) t bg en ca gn pu mk := zN2
  have DN2 : g_rD ((N2) (m + 1)) (m_D H) := hMN2.2.2.1
  have pN2 : (bg : Int) = 0 → (N2) (m + 1) 6 = m_cnt P 0 ∧ (N2) (m + 1) 7 = m_cnt P 1 := hMN2.2.2.2
  have hKN2 := g_rK_fr hK (N' := N2) (kQ 6 (by omega)) (fQ (m + 2) (by omega))
  have hEN2 := g_rE_fr hE (N' := N2) (fun k z0 z1 => kQ k (by omega))
  have hTN2 := g_rTm_fr hT (N' := N2) (kQ 14 (by omega)) (fQ (m + 6) (by omega))
  have hLN2 := g_rLm_fr hL (N' := N2) (kQ 16 (by omega)) (fQ (m + 7) (by omega))
  have h7N2 := (kQ 7 (by omega)).trans h7
  have frN2 : ∀ a, ¬ (m ≤ a ∧ a < m + 9) → (N2) a = N a := fun a ha => (fQ a (by omega)).trans ((fun _ _ => rfl) a ha)
  have VQ : g_rW N2 m (some ((P, n, q, p, cl, tn), (t, bg, en, ca), (gn, pu, mk), H)) := ⟨fun e => (by cases e), fun G e => (by cases e; exact ⟨(congrFun (hf5 m (by omega)) _).trans ag_upd_eq, g_rM_cp hvG hM (fun j z0 z1 => (hq3 j z0 z1).trans ((congrFun (ag_upd_ne (by omega)) _).trans (congrArg (N (m + 1)) (by omega))))⟩)⟩
  refine AR.callS [vA (m + 1), vI 0, vA (m + 3), vI 0] hE1 rfl rfl rfl rfl rfl ?_
  show AR E d _ (18, [some (vA m)], [], (C, N2)) _
  refine AR.blk 1 (f' := (19, [some (vA m)], [vA m], (C, N2))) (fun _ => rfl) ?_
  refine AR.getR rfl rfl hm.1 (by decide) rfl ?_
  refine AR.blk 1 (f' := (23, [some (vA m)], [vI 0, vA (m + 1)], (C, N2))) (fun _ => rfl) ?_
  have f6 := hv.1
  have f7 := hv.2.1
  have f8 := hv.2.2.1
  have f9 := hv.2.2.2.1
  refine AR.iald rfl hm.2.1 (by omega) (v := t) sN2.1 ?_
  refine AR.endI rfl (.inl rfl) ?_
  have e9 : o_save (((P, n, q, p, cl, tn), (t, bg, en, ca), (gn, pu, mk), H), U, V, F, (L, T), (l, ln)) = (t, (((P, n, q, p, cl, tn), (t, bg, en, ca), (gn, pu, mk), H), U, some ((P, n, q, p, cl, tn), (t, bg, en, ca), (gn, pu, mk), H), F, (L, T), (l, ln))) := by unfold o_save <;> (try dsimp only) <;> ((repeat (first | rw [if_pos (by omega)] | rw [if_neg (by omega)]))) <;> rfl
  rw [e9]
  exact ⟨_, rfl, ⟨hMN2, hKN2, VQ, hEN2, hTN2, hLN2, h7N2⟩, frN2⟩

theorem ev_X7_restore0 {d : Nat} (hd : 2 ≤ d) {G : m_G} {U : List m_G} {F : m_F} {L : Int} {T : Int → Int} {l : Int} {ln : Int → Int} (hm : g_isM C m) (hY : g_rY N m (G, U, (none : Option m_G), F, (L, T), (l, ln))) (hS : g_vS (G, U, (none : Option m_G), F, (L, T), (l, ln))) : ∃ o_, Ev E d 170 [vA m] (C, N) o_ ∧ g_QY C N m (o_rest (G, U, (none : Option m_G), F, (L, T), (l, ln))) o_ := by
  obtain ⟨d, rfl⟩ : ∃ j, d = j + 1 := ⟨d - 1, by omega⟩
  obtain ⟨⟨P, n, q, p, cl, tn⟩, ⟨t, bg, en, ca⟩, ⟨gn, pu, mk⟩, H⟩ := G
  have hM : g_rM (N (m + 1)) ((P, n, q, p, cl, tn), (t, bg, en, ca), (gn, pu, mk), H) := hY.1
  have hK : g_rK N m U := hY.2.1
  have hV : g_rW N m (none : Option m_G) := hY.2.2.1
  have hE : g_rE N m F := hY.2.2.2.1
  have hT : g_rTm N m L T := hY.2.2.2.2.1
  have hL : g_rLm N m l ln := hY.2.2.2.2.2.1
  have h7 : N m 7 = 0 := hY.2.2.2.2.2.2
  have hvG : g_vG ((P, n, q, p, cl, tn), (t, bg, en, ca), (gn, pu, mk), H) := hS.1
  have hw : g_wB P n q p cl tn := hvG.1.1
  have hwH : g_wH H := hvG.1.2.1
  have hv : g_wS t bg en ca gn pu mk := hvG.1.2.2
  have w1 := hv.1
  have w2 := hv.2.1
  have w3 := hv.2.2.1
  have w4 := hv.2.2.2.1
  have w6 := hv.2.2.2.2.2
  have w7 := hw.2.2.1
  have hwL : 0 ≤ L ∧ L ≤ 70 := hS.2.2.2.1
  have hwl : 0 ≤ l ∧ l ≤ 6 := hS.2.2.2.2.2
  have k8 := hK.2.1
  have r0 : g_rR (N (m + 1)) P n q p cl tn := hM.1
  have z0 : g_rZ (N (m + 1)) t (t % 2) (t / 4) bg en ca gn pu mk := hM.2.1
  have s0 : g_rS (N (m + 1)) t bg en ca gn pu mk := z0
  have D0 : g_rD (N (m + 1)) (m_D H) := hM.2.2.1
  have p0 : (bg : Int) = 0 → N (m + 1) 6 = m_cnt P 0 ∧ N (m + 1) 7 = m_cnt P 1 := hM.2.2.2
  refine Ev.introQ (M := ag_mX7_restore) rfl rfl ?_
  show AR E d _ (0, [some (vA m)], [], (C, N)) _
  refine AR.blk 1 (f' := (1, [some (vA m)], [vA m], (C, N))) (fun _ => rfl) ?_
  refine AR.getI rfl rfl hm.1 (by decide) (v := 0) (hV.1 rfl) ?_
  refine AR.blk 2 (f' := (9, [some (vA m)], [vI (-4)], (C, N))) (fun _ => rfl) ?_
  refine AR.endI rfl (.inl rfl) ?_
  have e9 : o_rest (((P, n, q, p, cl, tn), (t, bg, en, ca), (gn, pu, mk), H), U, (none : Option m_G), F, (L, T), (l, ln)) = ((-4), (((P, n, q, p, cl, tn), (t, bg, en, ca), (gn, pu, mk), H), U, (none : Option m_G), F, (L, T), (l, ln))) := by unfold o_rest <;> (try dsimp only) <;> ((repeat (first | rw [if_pos (by omega)] | rw [if_neg (by omega)]))) <;> rfl
  rw [e9]
  exact ⟨_, rfl, ⟨hM, hK, hV, hE, hT, hL, h7⟩, (fun _ _ => rfl)⟩

theorem ev_X7_restore1 {d : Nat} (hd : 2 ≤ d) {G : m_G} {U : List m_G} {G9 : m_G} {F : m_F} {L : Int} {T : Int → Int} {l : Int} {ln : Int → Int} (hm : g_isM C m) (hY : g_rY N m (G, U, some G9, F, (L, T), (l, ln))) (hS : g_vS (G, U, some G9, F, (L, T), (l, ln))) : ∃ o_, Ev E d 170 [vA m] (C, N) o_ ∧ g_QY C N m (o_rest (G, U, some G9, F, (L, T), (l, ln))) o_ := by
  obtain ⟨d, rfl⟩ : ∃ j, d = j + 1 := ⟨d - 1, by omega⟩
  obtain ⟨⟨P9, n9, q9, p9, cl9, tn9⟩, ⟨t9, bg9, en9, ca9⟩, ⟨gn9, pu9, mk9⟩, H9⟩ := G9
  obtain ⟨⟨P, n, q, p, cl, tn⟩, ⟨t, bg, en, ca⟩, ⟨gn, pu, mk⟩, H⟩ := G
  have hM : g_rM (N (m + 1)) ((P, n, q, p, cl, tn), (t, bg, en, ca), (gn, pu, mk), H) := hY.1
  have hK : g_rK N m U := hY.2.1
  have hV : g_rW N m (some ((P9, n9, q9, p9, cl9, tn9), (t9, bg9, en9, ca9), (gn9, pu9, mk9), H9)) := hY.2.2.1
  have hE : g_rE N m F := hY.2.2.2.1
  have hT : g_rTm N m L T := hY.2.2.2.2.1
  have hL : g_rLm N m l ln := hY.2.2.2.2.2.1
  have h7 : N m 7 = 0 := hY.2.2.2.2.2.2
  have hvG : g_vG ((P, n, q, p, cl, tn), (t, bg, en, ca), (gn, pu, mk), H) := hS.1
  have hw : g_wB P n q p cl tn := hvG.1.1
  have hwH : g_wH H := hvG.1.2.1
  have hv : g_wS t bg en ca gn pu mk := hvG.1.2.2
  have w1 := hv.1
  have w2 := hv.2.1
  have w3 := hv.2.2.1
  have w4 := hv.2.2.2.1
  have w6 := hv.2.2.2.2.2
  have w7 := hw.2.2.1
  have hwL : 0 ≤ L ∧ L ≤ 70 := hS.2.2.2.1
  have hwl : 0 ≤ l ∧ l ≤ 6 := hS.2.2.2.2.2
  have k8 := hK.2.1
  have r0 : g_rR (N (m + 1)) P n q p cl tn := hM.1
  have z0 : g_rZ (N (m + 1)) t (t % 2) (t / 4) bg en ca gn pu mk := hM.2.1
  have s0 : g_rS (N (m + 1)) t bg en ca gn pu mk := z0
  have D0 : g_rD (N (m + 1)) (m_D H) := hM.2.2.1
  have p0 : (bg : Int) = 0 → N (m + 1) 6 = m_cnt P 0 ∧ N (m + 1) 7 = m_cnt P 1 := hM.2.2.2
  have hv9 : g_vG ((P9, n9, q9, p9, cl9, tn9), (t9, bg9, en9, ca9), (gn9, pu9, mk9), H9) := hS.2.2.1 _ rfl
  have hw9 : g_wB P9 n9 q9 p9 cl9 tn9 := hv9.1.1
  have hy9 : g_wS t9 bg9 en9 ca9 gn9 pu9 mk9 := hv9.1.2.2
  refine Ev.introQ (M := ag_mX7_restore) rfl rfl ?_
  show AR E d _ (0, [some (vA m)], [], (C, N)) _
  refine AR.blk 1 (f' := (1, [some (vA m)], [vA m], (C, N))) (fun _ => rfl) ?_
  refine AR.getI rfl rfl hm.1 (by decide) (v := 1) (hV.2 _ rfl).1 ?_
  refine AR.blk 2 (f' := (11, [some (vA m)], [vA m], (C, N))) (fun _ => rfl) ?_
  refine AR.getR rfl rfl hm.1 (by decide) rfl ?_
  refine AR.blk 2 (f' := (16, [some (vA m)], [vA m, vI 0, vA (m + 3)], (C, N))) (fun _ => rfl) ?_
  refine AR.getR rfl rfl hm.1 (by decide) rfl ?_
  refine AR.blk 1 (f' := (20, [some (vA m)], [vI 0, vA (m + 1), vI 0, vA (m + 3)], (C, N))) (fun _ => rfl) ?_
  obtain ⟨_, hE1, N2, rfl, hq3, hx4, hf5⟩ := ev_X7_copies (E := E) (d := d) (N := N) (by omega) hm.2.2.2.1 hm.2.1 (by omega) 0 0 (by omega) (by omega)
  have kQ : ∀ j : Int, j = j → N2 m j = N m j := fun j _ => congrFun (hf5 m (by omega)) j
  have hKN2 := g_rK_fr hK (N' := N2) (kQ 6 (by omega)) (hf5 (m + 2) (by omega))
  have hVN2 := g_rW_fr hV (N' := N2) (kQ 5 (by omega)) (hf5 (m + 3) (by omega))
  have hEN2 := g_rE_fr hE (N' := N2) (fun k z0 z1 => kQ k (by omega))
  have hTN2 := g_rTm_fr hT (N' := N2) (kQ 14 (by omega)) (hf5 (m + 6) (by omega))
  have hLN2 := g_rLm_fr hL (N' := N2) (kQ 16 (by omega)) (hf5 (m + 7) (by omega))
  have h7N2 := (kQ 7 (by omega)).trans h7
  have frN2 : ∀ a, ¬ (m ≤ a ∧ a < m + 9) → (N2) a = N a := fun a ha => (hf5 a (by omega)).trans ((fun _ _ => rfl) a ha)
  have hMQ : g_rM (N2 (m + 1)) ((P9, n9, q9, p9, cl9, tn9), (t9, bg9, en9, ca9), (gn9, pu9, mk9), H9) := g_rM_cp hv9 (hV.2 _ rfl).2 (fun j z0 z1 => (hq3 j z0 z1).trans (congrArg (N (m + 3)) (by omega)))
  have rN2 : g_rR (N2 (m + 1)) P9 n9 q9 p9 cl9 tn9 := hMQ.1
  have zN2 : g_rZ (N2 (m + 1)) t9 (t9 % 2) (t9 / 4) bg9 en9 ca9 gn9 pu9 mk9 := hMQ.2.1
  have sN2 : g_rS (N2 (m + 1)) t9 bg9 en9 ca9 gn9 pu9 mk9 := zN2
  have DN2 : g_rD (N2 (m + 1)) (m_D H9) := hMQ.2.2.1
  have pN2 : (bg9 : Int) = 0 → N2 (m + 1) 6 = m_cnt P9 0 ∧ N2 (m + 1) 7 = m_cnt P9 1 := hMQ.2.2.2
  refine AR.callS [vA (m + 3), vI 0, vA (m + 1), vI 0] hE1 rfl rfl rfl rfl rfl ?_
  show AR E d _ (23, [some (vA m)], [], (C, N2)) _
  refine AR.blk 2 (f' := (25, [some (vA m)], [vI 0, vA m], (C, N2))) (fun _ => rfl) ?_
  refine AR.putI rfl rfl hm.1 (by decide) (fun q => absurd q (by decide)) ?_
  refine AR.blk 1 (f' := (29, [some (vA m)], [vA m], (C, ag_upd N2 m 6 0))) (fun _ => rfl) ?_
  refine AR.getR rfl rfl hm.1 (by decide) rfl ?_
  refine AR.blk 1 (f' := (33, [some (vA m)], [vI 0, vA (m + 1)], (C, ag_upd N2 m 6 0))) (fun _ => rfl) ?_
  refine AR.iald rfl hm.2.1 (by omega) (v := t9) ((congrFun (ag_upd_ne (by omega)) _).trans sN2.1) ?_
  have fR : ∀ a, a ≠ m → (ag_upd N2 m 6 0) a = N2 a := fun a ha => ag_upd_ne ha
  have kR : ∀ j : Int, j ≠ 6 → (ag_upd N2 m 6 0) m j = N2 m j := fun j hj => ag_upd_nk hj
  have KR : g_rK (ag_upd N2 m 6 0) m [] := g_rK_nil ag_upd_eq
  have hMQ9 : g_rM (ag_upd N2 m 6 0 (m + 1)) ((P9, n9, q9, p9, cl9, tn9), (t9, bg9, en9, ca9), (gn9, pu9, mk9), H9) := by rw [fR (m + 1) (by omega)]; exact hMQ
  have rQ9 : g_rR ((ag_upd N2 m 6 0) (m + 1)) P9 n9 q9 p9 cl9 tn9 := hMQ9.1
  have zQ9 : g_rZ ((ag_upd N2 m 6 0) (m + 1)) t9 (t9 % 2) (t9 / 4) bg9 en9 ca9 gn9 pu9 mk9 := hMQ9.2.1
  have sQ9 : g_rS ((ag_upd N2 m 6 0) (m + 1)) t9 bg9 en9 ca9 gn9 pu9 mk9 := zQ9
  have DQ9 : g_rD ((ag_upd N2 m 6 0) (m + 1)) (m_D H9) := hMQ9.2.2.1
  have pQ9 : (bg9 : Int) = 0 → (ag_upd N2 m 6 0) (m + 1) 6 = m_cnt P9 0 ∧ (ag_upd N2 m 6 0) (m + 1) 7 = m_cnt P9 1 := hMQ9.2.2.2
  have hVQ9 := g_rW_fr hVN2 (N' := ag_upd N2 m 6 0) (kR 5 (by omega)) (fR (m + 3) (by omega))
  have hEQ9 := g_rE_fr hEN2 (N' := ag_upd N2 m 6 0) (fun k z0 z1 => kR k (by omega))
  have hTQ9 := g_rTm_fr hTN2 (N' := ag_upd N2 m 6 0) (kR 14 (by omega)) (fR (m + 6) (by omega))
  have hLQ9 := g_rLm_fr hLN2 (N' := ag_upd N2 m 6 0) (kR 16 (by omega)) (fR (m + 7) (by omega))
  have h7Q9 := (kR 7 (by omega)).trans h7N2
  have frQ9 : ∀ a, ¬ (m ≤ a ∧ a < m + 9) → (ag_upd N2 m 6 0) a = N a := fun a ha => (fR a (by omega)).trans (frN2 a ha)
  refine AR.endI rfl (.inl rfl) ?_
  have e9 : o_rest (((P, n, q, p, cl, tn), (t, bg, en, ca), (gn, pu, mk), H), U, some ((P9, n9, q9, p9, cl9, tn9), (t9, bg9, en9, ca9), (gn9, pu9, mk9), H9), F, (L, T), (l, ln)) = (t9, (((P9, n9, q9, p9, cl9, tn9), (t9, bg9, en9, ca9), (gn9, pu9, mk9), H9), ([] : List m_G), (some ((P9, n9, q9, p9, cl9, tn9), (t9, bg9, en9, ca9), (gn9, pu9, mk9), H9)), F, (L, T), (l, ln))) := by unfold o_rest <;> (try dsimp only) <;> ((repeat (first | rw [if_pos (by omega)] | rw [if_neg (by omega)]))) <;> rfl
  rw [e9]
  exact ⟨_, rfl, ⟨hMQ9, KR, hVQ9, hEQ9, hTQ9, hLQ9, h7Q9⟩, frQ9⟩

theorem ev_X7_sign {d : Nat} (hd : 2 ≤ d) (hm : g_isM C m) {l : Int} {ln : Int → Int} (hL : g_rLm N m l ln) (hl0 : 0 ≤ l ∧ l ≤ 6) (i : Int) (h0 : ag_in i) : Ev E d 157 [vA m, vI i] (C, N) (some (vI (m_sg l ln i)), (C, N)) := by
  obtain ⟨d, rfl⟩ : ∃ j, d = j + 1 := ⟨d - 1, by omega⟩
  refine Ev.intro (M := ag_mX7_sign) rfl rfl ?_
  show AR E d _ (0, [some (vA m), some (vI i)], [], (C, N)) _
  refine AR.blk 3 (f' := (3, [some (vA m), some (vI i)], [vA m, vI 0, vI i], (C, N))) (fun _ => rfl) ?_
  refine AR.getI rfl rfl hm.1 (by decide) (v := l) hL.1 ?_
  refine AR.blk 2 (f' := (8, [some (vA m), some (vI i)], [vI (l - 1), vI 0, vI i], (C, N))) (fun _ => rfl) ?_
  refine AR.callS [vI i, vI 0, vI (l - 1)] (ev_X7_in (by omega) i 0 (l - 1) (by omega)) rfl rfl rfl rfl rfl ?_
  show AR E d _ (11, [some (vA m), some (vI i)], [vI (if 0 ≤ i ∧ i ≤ (l - 1) then 1 else 0)], (C, N)) _
  refine AR.if_eq rfl (by omega) (fun c1 => ?_) (fun c1 => ?_)
  · show AR E d _ (23, [some (vA m), some (vI i)], [], (C, N)) _
    refine AR.blk 1 (f' := (24, [some (vA m), some (vI i)], [vI (-1)], (C, N))) (fun _ => rfl) ?_
    exact AR.retI rfl (by unfold m_sg; omega) ⟨rfl, .inl rfl⟩ rfl
  · show AR E d _ (14, [some (vA m), some (vI i)], [], (C, N)) _
    refine AR.blk 1 (f' := (15, [some (vA m), some (vI i)], [vA m], (C, N))) (fun _ => rfl) ?_
    refine AR.getR rfl rfl hm.1 (by decide) rfl ?_
    refine AR.blk 1 (f' := (19, [some (vA m), some (vI i)], [vI i, vA (m + 7)], (C, N))) (fun _ => rfl) ?_
    refine AR.cald rfl hm.2.2.2.2.2.2.2.1 (by omega) (v := ln i) (hL.2 _ (by omega) (by omega)) ?_
    refine AR.blk 1 (f' := (24, [some (vA m), some (vI i)], [vI (ln i)], (C, N))) (fun _ => rfl) ?_
    exact AR.retI rfl (by unfold m_sg; omega) ⟨rfl, .inl rfl⟩ rfl

theorem ev_X7_refusal0 {d : Nat} (hd : 2 ≤ d) (hm : g_isM C m) (hz : N m 8 = 0) (w : Int) (h0 : ag_in w) : Ev E d 163 [vA m, vI w] (C, N) (some (vI (if 0 ≤ w ∧ w ≤ 4 then -4 else -2)), (C, N)) := by
  obtain ⟨d, rfl⟩ : ∃ j, d = j + 1 := ⟨d - 1, by omega⟩
  refine Ev.intro (M := ag_mX7_refusal) rfl rfl ?_
  show AR E d _ (0, [some (vA m), some (vI w)], [], (C, N)) _
  refine AR.blk 3 (f' := (3, [some (vA m), some (vI w)], [vI 4, vI 0, vI w], (C, N))) (fun _ => rfl) ?_
  refine AR.callS [vI w, vI 0, vI 4] (ev_X7_in (by omega) w 0 4 (by omega)) rfl rfl rfl rfl rfl ?_
  show AR E d _ (6, [some (vA m), some (vI w)], [vI (if 0 ≤ w ∧ w ≤ 4 then 1 else 0)], (C, N)) _
  refine AR.if_ne rfl (by omega) (fun c1 => ?_) (fun c1 => ?_)
  · show AR E d _ (12, [some (vA m), some (vI w)], [], (C, N)) _
    refine AR.blk 1 (f' := (13, [some (vA m), some (vI w)], [vA m], (C, N))) (fun _ => rfl) ?_
    refine AR.getI rfl rfl hm.1 (by decide) (v := 0) hz ?_
    refine AR.blk 2 (f' := (33, [some (vA m), some (vI w)], [vI (-4)], (C, N))) (fun _ => rfl) ?_
    exact AR.retI rfl (by omega) ⟨rfl, .inl rfl⟩ rfl
  · show AR E d _ (9, [some (vA m), some (vI w)], [], (C, N)) _
    refine AR.blk 1 (f' := (11, [some (vA m), some (vI w)], [vI (-2)], (C, N))) (fun _ => rfl) ?_
    exact AR.retI rfl (by omega) ⟨rfl, .inl rfl⟩ rfl

theorem ev_X7_refusal1 {d : Nat} (hd : 2 ≤ d) (hm : g_isM C m) {r z k c e : Int} (h8 : N m 8 = r) (h9 : N m 9 = z) (h10 : N m 10 = k) (h11 : N m 11 = c) (h12 : N m 12 = e) (hr : 1 ≤ r ∧ r ≤ 9) (hc : c = 0 ∨ (10 ≤ c ∧ c ≤ 13)) (w : Int) (h0 : ag_in w) : Ev E d 163 [vA m, vI w] (C, N) (some (vI (if ¬ (0 ≤ w ∧ w ≤ 4) then -2 else if 2 < w ∧ c = 0 then -4 else if w = 0 then r else if w = 1 then z else if w = 2 then k else if w = 3 then c else e)), (C, N)) := by
  obtain ⟨d, rfl⟩ : ∃ j, d = j + 1 := ⟨d - 1, by omega⟩
  refine Ev.intro (M := ag_mX7_refusal) rfl rfl ?_
  show AR E d _ (0, [some (vA m), some (vI w)], [], (C, N)) _
  refine AR.blk 3 (f' := (3, [some (vA m), some (vI w)], [vI 4, vI 0, vI w], (C, N))) (fun _ => rfl) ?_
  refine AR.callS [vI w, vI 0, vI 4] (ev_X7_in (by omega) w 0 4 (by omega)) rfl rfl rfl rfl rfl ?_
  show AR E d _ (6, [some (vA m), some (vI w)], [vI (if 0 ≤ w ∧ w ≤ 4 then 1 else 0)], (C, N)) _
  refine AR.if_ne rfl (by omega) (fun c1 => ?_) (fun c1 => ?_)
  · show AR E d _ (12, [some (vA m), some (vI w)], [], (C, N)) _
    refine AR.blk 1 (f' := (13, [some (vA m), some (vI w)], [vA m], (C, N))) (fun _ => rfl) ?_
    refine AR.getI rfl rfl hm.1 (by decide) (v := r) h8 ?_
    refine AR.if_eq rfl (by omega) (fun c2 => ?_) (fun c2 => ?_)
    · show AR E d _ (31, [some (vA m), some (vI w)], [], (C, N)) _
      refine AR.blk 1 (f' := (33, [some (vA m), some (vI w)], [vI (-4)], (C, N))) (fun _ => rfl) ?_
      exact AR.retI rfl (by omega) ⟨rfl, .inl rfl⟩ rfl
    · show AR E d _ (19, [some (vA m), some (vI w)], [], (C, N)) _
      refine AR.blk 2 (f' := (21, [some (vA m), some (vI w)], [vI 2, vI w], (C, N))) (fun _ => rfl) ?_
      refine AR.ic_le rfl (by omega) (fun c3 => ?_) (fun c3 => ?_)
      · show AR E d _ (34, [some (vA m), some (vI w)], [], (C, N)) _
        refine AR.blk 1 (f' := (35, [some (vA m), some (vI w)], [vI w], (C, N))) (fun _ => rfl) ?_
        have hsw35 : ag_in w := (by omega)
        by_cases e4 : w = 0
        · refine AR.tswA 0 rfl hsw35 e4 rfl (by omega) ?_
          show AR E d _ (64, [some (vA m), some (vI w)], [], (C, N)) _
          refine AR.blk 1 (f' := (65, [some (vA m), some (vI w)], [vA m], (C, N))) (fun _ => rfl) ?_
          refine AR.getI rfl rfl hm.1 (by decide) (v := r) h8 ?_
          exact AR.retI rfl (by omega) ⟨rfl, .inl rfl⟩ rfl
        by_cases e5 : w = 1
        · refine AR.tswA 1 rfl hsw35 e5 rfl (by omega) ?_
          show AR E d _ (69, [some (vA m), some (vI w)], [], (C, N)) _
          refine AR.blk 1 (f' := (70, [some (vA m), some (vI w)], [vA m], (C, N))) (fun _ => rfl) ?_
          refine AR.getI rfl rfl hm.1 (by decide) (v := z) h9 ?_
          exact AR.retI rfl (by omega) ⟨rfl, .inl rfl⟩ rfl
        by_cases e6 : w = 2
        · refine AR.tswA 2 rfl hsw35 e6 rfl (by omega) ?_
          show AR E d _ (74, [some (vA m), some (vI w)], [], (C, N)) _
          refine AR.blk 1 (f' := (75, [some (vA m), some (vI w)], [vA m], (C, N))) (fun _ => rfl) ?_
          refine AR.getI rfl rfl hm.1 (by decide) (v := k) h10 ?_
          exact AR.retI rfl (by omega) ⟨rfl, .inl rfl⟩ rfl
        by_cases e7 : w = 3
        · refine AR.tswA 3 rfl hsw35 e7 rfl (by omega) ?_
          show AR E d _ (79, [some (vA m), some (vI w)], [], (C, N)) _
          refine AR.blk 1 (f' := (80, [some (vA m), some (vI w)], [vA m], (C, N))) (fun _ => rfl) ?_
          refine AR.getI rfl rfl hm.1 (by decide) (v := c) h11 ?_
          exact AR.retI rfl (by omega) ⟨rfl, .inl rfl⟩ rfl
        refine AR.tswD rfl hsw35 (by omega) ?_
        show AR E d _ (84, [some (vA m), some (vI w)], [], (C, N)) _
        refine AR.blk 1 (f' := (85, [some (vA m), some (vI w)], [vA m], (C, N))) (fun _ => rfl) ?_
        refine AR.getI rfl rfl hm.1 (by decide) (v := e) h12 ?_
        exact AR.retI rfl (by omega) ⟨rfl, .inl rfl⟩ rfl
      · show AR E d _ (24, [some (vA m), some (vI w)], [], (C, N)) _
        refine AR.blk 1 (f' := (25, [some (vA m), some (vI w)], [vA m], (C, N))) (fun _ => rfl) ?_
        refine AR.getI rfl rfl hm.1 (by decide) (v := c) h11 ?_
        refine AR.if_ne rfl (by omega) (fun c8 => ?_) (fun c8 => ?_)
        · show AR E d _ (34, [some (vA m), some (vI w)], [], (C, N)) _
          refine AR.blk 1 (f' := (35, [some (vA m), some (vI w)], [vI w], (C, N))) (fun _ => rfl) ?_
          have hsw35 : ag_in w := (by omega)
          by_cases e9 : w = 0
          · refine AR.tswA 0 rfl hsw35 e9 rfl (by omega) ?_
            show AR E d _ (64, [some (vA m), some (vI w)], [], (C, N)) _
            refine AR.blk 1 (f' := (65, [some (vA m), some (vI w)], [vA m], (C, N))) (fun _ => rfl) ?_
            refine AR.getI rfl rfl hm.1 (by decide) (v := r) h8 ?_
            exact AR.retI rfl (by omega) ⟨rfl, .inl rfl⟩ rfl
          by_cases e10 : w = 1
          · refine AR.tswA 1 rfl hsw35 e10 rfl (by omega) ?_
            show AR E d _ (69, [some (vA m), some (vI w)], [], (C, N)) _
            refine AR.blk 1 (f' := (70, [some (vA m), some (vI w)], [vA m], (C, N))) (fun _ => rfl) ?_
            refine AR.getI rfl rfl hm.1 (by decide) (v := z) h9 ?_
            exact AR.retI rfl (by omega) ⟨rfl, .inl rfl⟩ rfl
          by_cases e11 : w = 2
          · refine AR.tswA 2 rfl hsw35 e11 rfl (by omega) ?_
            show AR E d _ (74, [some (vA m), some (vI w)], [], (C, N)) _
            refine AR.blk 1 (f' := (75, [some (vA m), some (vI w)], [vA m], (C, N))) (fun _ => rfl) ?_
            refine AR.getI rfl rfl hm.1 (by decide) (v := k) h10 ?_
            exact AR.retI rfl (by omega) ⟨rfl, .inl rfl⟩ rfl
          by_cases e12 : w = 3
          · refine AR.tswA 3 rfl hsw35 e12 rfl (by omega) ?_
            show AR E d _ (79, [some (vA m), some (vI w)], [], (C, N)) _
            refine AR.blk 1 (f' := (80, [some (vA m), some (vI w)], [vA m], (C, N))) (fun _ => rfl) ?_
            refine AR.getI rfl rfl hm.1 (by decide) (v := c) h11 ?_
            exact AR.retI rfl (by omega) ⟨rfl, .inl rfl⟩ rfl
          refine AR.tswD rfl hsw35 (by omega) ?_
          show AR E d _ (84, [some (vA m), some (vI w)], [], (C, N)) _
          refine AR.blk 1 (f' := (85, [some (vA m), some (vI w)], [vA m], (C, N))) (fun _ => rfl) ?_
          refine AR.getI rfl rfl hm.1 (by decide) (v := e) h12 ?_
          exact AR.retI rfl (by omega) ⟨rfl, .inl rfl⟩ rfl
        · show AR E d _ (31, [some (vA m), some (vI w)], [], (C, N)) _
          refine AR.blk 1 (f' := (33, [some (vA m), some (vI w)], [vI (-4)], (C, N))) (fun _ => rfl) ?_
          exact AR.retI rfl (by omega) ⟨rfl, .inl rfl⟩ rfl
  · show AR E d _ (9, [some (vA m), some (vI w)], [], (C, N)) _
    refine AR.blk 1 (f' := (11, [some (vA m), some (vI w)], [vI (-2)], (C, N))) (fun _ => rfl) ?_
    exact AR.retI rfl (by omega) ⟨rfl, .inl rfl⟩ rfl

theorem ev_X7_refusalF {d : Nat} (hd : 2 ≤ d) (hm : g_isM C m) {F : m_F} (hE : g_rE N m F) (w : Int) (h0 : ag_in w) : Ev E d 163 [vA m, vI w] (C, N) (some (vI (m_rf F w)), (C, N)) := by
  rcases hE with ⟨h1, h2⟩ | ⟨h1, h2, h3, h4, h5⟩
  · have h := ev_X7_refusal0 (E := E) hd hm h1 w h0
    have e : m_rf F w = if 0 ≤ w ∧ w ≤ 4 then -4 else -2 := by
      rw [h2]
      show (if w = 0 then (-4 : Int) else if w = 1 then -4 else if w = 2 then -4 else if w = 3 then -4 else if w = 4 then -4 else -2) = _
      omega
    rw [e]
    exact h
  · rcases h5 with ⟨h5, h6, h7⟩ | ⟨h5, h6, h7⟩
    · have h := ev_X7_refusal1 (E := E) hd hm h2 h3 h4 h5 (e := N m 12) rfl h1 (.inl rfl) w h0
      have e : m_rf F w = if ¬ (0 ≤ w ∧ w ≤ 4) then -2 else if 2 < w ∧ (0 : Int) = 0 then -4 else if w = 0 then F.1 else if w = 1 then F.2.1 else if w = 2 then F.2.2.1 else if w = 3 then 0 else N m 12 := by
        unfold m_rf
        omega
      rw [e]
      exact h
    · have h := ev_X7_refusal1 (E := E) hd hm h2 h3 h4 h6 h7 h1 (.inr h5) w h0
      have e : m_rf F w = if ¬ (0 ≤ w ∧ w ≤ 4) then -2 else if 2 < w ∧ F.2.2.2.1 = 0 then -4 else if w = 0 then F.1 else if w = 1 then F.2.1 else if w = 2 then F.2.2.1 else if w = 3 then F.2.2.2.1 else F.2.2.2.2 := by
        unfold m_rf
        omega
      rw [e]
      exact h

def m_accS (S : m_S) (w : Int) : Int := m_acc S.1.1.1 S.1.1.2.1 S.1.1.2.2.2.2.1 S.1.1.2.2.2.2.2 S.1.2.1.1 S.1.2.1.2.1 S.1.2.1.2.2.1 S.1.2.1.2.2.2 S.1.2.2.1.1 S.1.2.2.1.2.1 S.1.2.2.1.2.2 S.1.2.2.2 S.2.2.2.2.1.1 S.2.1.length w

theorem ev_X7_account {d : Nat} (hd : 4 ≤ d) {G : m_G} {U : List m_G} {V : Option m_G} {F : m_F} {L : Int} {T : Int → Int} {l : Int} {ln : Int → Int} (hm : g_isM C m) (hY : g_rY N m (G, U, V, F, (L, T), (l, ln))) (hS : g_vS (G, U, V, F, (L, T), (l, ln))) (w : Int) (h0 : ag_in w) : ∃ o_, Ev E d 166 [vA m, vI w] (C, N) o_ ∧ g_QY C N m (m_accS (G, U, V, F, (L, T), (l, ln)) w, (G, U, V, F, (L, T), (l, ln))) o_ := by
  obtain ⟨d, rfl⟩ : ∃ j, d = j + 1 := ⟨d - 1, by omega⟩
  obtain ⟨⟨P, n, q, p, cl, tn⟩, ⟨t, bg, en, ca⟩, ⟨gn, pu, mk⟩, H⟩ := G
  have hM : g_rM (N (m + 1)) ((P, n, q, p, cl, tn), (t, bg, en, ca), (gn, pu, mk), H) := hY.1
  have hK : g_rK N m U := hY.2.1
  have hV : g_rW N m V := hY.2.2.1
  have hE : g_rE N m F := hY.2.2.2.1
  have hT : g_rTm N m L T := hY.2.2.2.2.1
  have hL : g_rLm N m l ln := hY.2.2.2.2.2.1
  have h7 : N m 7 = 0 := hY.2.2.2.2.2.2
  have hvG : g_vG ((P, n, q, p, cl, tn), (t, bg, en, ca), (gn, pu, mk), H) := hS.1
  have hw : g_wB P n q p cl tn := hvG.1.1
  have hwH : g_wH H := hvG.1.2.1
  have hv : g_wS t bg en ca gn pu mk := hvG.1.2.2
  have w1 := hv.1
  have w2 := hv.2.1
  have w3 := hv.2.2.1
  have w4 := hv.2.2.2.1
  have w6 := hv.2.2.2.2.2
  have w7 := hw.2.2.1
  have hwL : 0 ≤ L ∧ L ≤ 70 := hS.2.2.2.1
  have hwl : 0 ≤ l ∧ l ≤ 6 := hS.2.2.2.2.2
  have k8 := hK.2.1
  have r0 : g_rR (N (m + 1)) P n q p cl tn := hM.1
  have z0 : g_rZ (N (m + 1)) t (t % 2) (t / 4) bg en ca gn pu mk := hM.2.1
  have s0 : g_rS (N (m + 1)) t bg en ca gn pu mk := z0
  have D0 : g_rD (N (m + 1)) (m_D H) := hM.2.2.1
  have p0 : (bg : Int) = 0 → N (m + 1) 6 = m_cnt P 0 ∧ N (m + 1) 7 = m_cnt P 1 := hM.2.2.2
  refine Ev.introQ (M := ag_mX7_account) rfl rfl ?_
  show AR E d _ (0, [some (vA m), some (vI w)], [], (C, N)) _
  refine AR.blk 1 (f' := (1, [some (vA m), some (vI w)], [vI w], (C, N))) (fun _ => rfl) ?_
  have hsw1 : ag_in w := (by omega)
  by_cases e1 : w = 0
  · refine AR.tswA 0 rfl hsw1 e1 rfl (by omega) ?_
    show AR E d _ (84, [some (vA m), some (vI w)], [], (C, N)) _
    refine AR.blk 1 (f' := (85, [some (vA m), some (vI w)], [vA m], (C, N))) (fun _ => rfl) ?_
    refine AR.getR rfl rfl hm.1 (by decide) rfl ?_
    refine AR.blk 1 (f' := (89, [some (vA m), some (vI w)], [vI 0, vA (m + 1)], (C, N))) (fun _ => rfl) ?_
    have f2 := hv.1
    have f3 := hv.2.1
    have f4 := hv.2.2.1
    have f5 := hv.2.2.2.1
    refine AR.iald rfl hm.2.1 (by omega) (v := t) s0.1 ?_
    refine AR.endI rfl (.inl rfl) ?_
    have e9 : m_accS (((P, n, q, p, cl, tn), (t, bg, en, ca), (gn, pu, mk), H), U, V, F, (L, T), (l, ln)) w = t := by unfold m_accS m_acc; dsimp only; omega
    rw [e9]
    exact ⟨_, rfl, ⟨hM, hK, hV, hE, hT, hL, h7⟩, (fun _ _ => rfl)⟩
  by_cases e6 : w = 1
  · refine AR.tswA 1 rfl hsw1 e6 rfl (by omega) ?_
    show AR E d _ (91, [some (vA m), some (vI w)], [], (C, N)) _
    refine AR.blk 1 (f' := (92, [some (vA m), some (vI w)], [vA m], (C, N))) (fun _ => rfl) ?_
    refine AR.getR rfl rfl hm.1 (by decide) rfl ?_
    refine AR.blk 1 (f' := (96, [some (vA m), some (vI w)], [vI 1, vA (m + 1)], (C, N))) (fun _ => rfl) ?_
    have f7 := hv.1
    have f8 := hv.2.1
    have f9 := hv.2.2.1
    have f10 := hv.2.2.2.1
    refine AR.iald rfl hm.2.1 (by omega) (v := t % 2) s0.2.1 ?_
    refine AR.endI rfl (.inl rfl) ?_
    have e9 : m_accS (((P, n, q, p, cl, tn), (t, bg, en, ca), (gn, pu, mk), H), U, V, F, (L, T), (l, ln)) w = t % 2 := by unfold m_accS m_acc; dsimp only; omega
    rw [e9]
    exact ⟨_, rfl, ⟨hM, hK, hV, hE, hT, hL, h7⟩, (fun _ _ => rfl)⟩
  by_cases e11 : w = 2
  · refine AR.tswA 2 rfl hsw1 e11 rfl (by omega) ?_
    show AR E d _ (98, [some (vA m), some (vI w)], [], (C, N)) _
    refine AR.blk 1 (f' := (99, [some (vA m), some (vI w)], [vA m], (C, N))) (fun _ => rfl) ?_
    refine AR.getR rfl rfl hm.1 (by decide) rfl ?_
    refine AR.blk 1 (f' := (103, [some (vA m), some (vI w)], [vI 2, vA (m + 1)], (C, N))) (fun _ => rfl) ?_
    have f12 := hv.1
    have f13 := hv.2.1
    have f14 := hv.2.2.1
    have f15 := hv.2.2.2.1
    refine AR.iald rfl hm.2.1 (by omega) (v := t / 4) s0.2.2.1 ?_
    refine AR.endI rfl (.inl rfl) ?_
    have e9 : m_accS (((P, n, q, p, cl, tn), (t, bg, en, ca), (gn, pu, mk), H), U, V, F, (L, T), (l, ln)) w = t / 4 := by unfold m_accS m_acc; dsimp only; omega
    rw [e9]
    exact ⟨_, rfl, ⟨hM, hK, hV, hE, hT, hL, h7⟩, (fun _ _ => rfl)⟩
  by_cases e16 : w = 3
  · refine AR.tswA 3 rfl hsw1 e16 rfl (by omega) ?_
    show AR E d _ (105, [some (vA m), some (vI w)], [], (C, N)) _
    refine AR.blk 1 (f' := (106, [some (vA m), some (vI w)], [vA m], (C, N))) (fun _ => rfl) ?_
    refine AR.getR rfl rfl hm.1 (by decide) rfl ?_
    refine AR.blk 1 (f' := (110, [some (vA m), some (vI w)], [vI 2, vA (m + 1)], (C, N))) (fun _ => rfl) ?_
    have f17 := hv.1
    have f18 := hv.2.1
    have f19 := hv.2.2.1
    have f20 := hv.2.2.2.1
    refine AR.iald rfl hm.2.1 (by omega) (v := t / 4) s0.2.2.1 ?_
    refine AR.blk 1 (f' := (112, [some (vA m), some (vI w)], [vI 4, vI (t / 4)], (C, N))) (fun _ => rfl) ?_
    refine AR.irem rfl (by omega) ?_
    refine AR.endI rfl (.inl rfl) ?_
    have e9 : m_accS (((P, n, q, p, cl, tn), (t, bg, en, ca), (gn, pu, mk), H), U, V, F, (L, T), (l, ln)) w = (t / 4) % 4 := by unfold m_accS m_acc; dsimp only; omega
    rw [e9]
    exact ⟨_, rfl, ⟨hM, hK, hV, hE, hT, hL, h7⟩, (fun _ _ => rfl)⟩
  by_cases e21 : w = 4
  · refine AR.tswA 4 rfl hsw1 e21 rfl (by omega) ?_
    show AR E d _ (114, [some (vA m), some (vI w)], [], (C, N)) _
    refine AR.blk 1 (f' := (115, [some (vA m), some (vI w)], [vA m], (C, N))) (fun _ => rfl) ?_
    refine AR.getR rfl rfl hm.1 (by decide) rfl ?_
    refine AR.blk 1 (f' := (119, [some (vA m), some (vI w)], [vI 3, vA (m + 1)], (C, N))) (fun _ => rfl) ?_
    have f22 := hv.1
    have f23 := hv.2.1
    have f24 := hv.2.2.1
    have f25 := hv.2.2.2.1
    refine AR.iald rfl hm.2.1 (by omega) (v := bg) s0.2.2.2.1 ?_
    refine AR.endI rfl (.inl rfl) ?_
    have e9 : m_accS (((P, n, q, p, cl, tn), (t, bg, en, ca), (gn, pu, mk), H), U, V, F, (L, T), (l, ln)) w = bg := by unfold m_accS m_acc; dsimp only; omega
    rw [e9]
    exact ⟨_, rfl, ⟨hM, hK, hV, hE, hT, hL, h7⟩, (fun _ _ => rfl)⟩
  by_cases e26 : w = 5
  · refine AR.tswA 5 rfl hsw1 e26 rfl (by omega) ?_
    show AR E d _ (121, [some (vA m), some (vI w)], [], (C, N)) _
    refine AR.blk 1 (f' := (122, [some (vA m), some (vI w)], [vA m], (C, N))) (fun _ => rfl) ?_
    refine AR.getR rfl rfl hm.1 (by decide) rfl ?_
    refine AR.blk 1 (f' := (126, [some (vA m), some (vI w)], [vI 4, vA (m + 1)], (C, N))) (fun _ => rfl) ?_
    have f27 := hv.1
    have f28 := hv.2.1
    have f29 := hv.2.2.1
    have f30 := hv.2.2.2.1
    refine AR.iald rfl hm.2.1 (by omega) (v := en) s0.2.2.2.2.1 ?_
    refine AR.endI rfl (.inl rfl) ?_
    have e9 : m_accS (((P, n, q, p, cl, tn), (t, bg, en, ca), (gn, pu, mk), H), U, V, F, (L, T), (l, ln)) w = en := by unfold m_accS m_acc; dsimp only; omega
    rw [e9]
    exact ⟨_, rfl, ⟨hM, hK, hV, hE, hT, hL, h7⟩, (fun _ _ => rfl)⟩
  by_cases e31 : w = 6
  · refine AR.tswA 6 rfl hsw1 e31 rfl (by omega) ?_
    show AR E d _ (128, [some (vA m), some (vI w)], [], (C, N)) _
    refine AR.blk 2 (f' := (130, [some (vA m), some (vI w)], [vI 0, vA m], (C, N))) (fun _ => rfl) ?_
    refine AR.callV [vI 0] (ev_X7_pieces (by omega) hm r0 hw 0 (by omega)) hm.1 rfl rfl rfl rfl rfl ?_
    show AR E d _ (133, [some (vA m), some (vI w)], [vI (m_cnt P 0)], (C, N)) _
    have f32 := m_cnt_in P 0
    refine AR.blk 2 (f' := (135, [some (vA m), some (vI w)], [vI 1, vA m, vI (m_cnt P 0)], (C, N))) (fun _ => rfl) ?_
    refine AR.callV [vI 1] (ev_X7_pieces (by omega) hm r0 hw 1 (by omega)) hm.1 rfl rfl rfl rfl rfl ?_
    show AR E d _ (138, [some (vA m), some (vI w)], [vI (m_cnt P 1), vI (m_cnt P 0)], (C, N)) _
    have f33 := m_cnt_in P 1
    refine AR.blk 1 (f' := (139, [some (vA m), some (vI w)], [vI ((m_cnt P 0) + (m_cnt P 1))], (C, N))) (fun _ => rfl) ?_
    refine AR.endI rfl (.inl rfl) ?_
    have e9 : m_accS (((P, n, q, p, cl, tn), (t, bg, en, ca), (gn, pu, mk), H), U, V, F, (L, T), (l, ln)) w = (m_cnt P 0) + (m_cnt P 1) := by unfold m_accS m_acc; dsimp only; omega
    rw [e9]
    exact ⟨_, rfl, ⟨hM, hK, hV, hE, hT, hL, h7⟩, (fun _ _ => rfl)⟩
  by_cases e34 : w = 7
  · refine AR.tswA 7 rfl hsw1 e34 rfl (by omega) ?_
    show AR E d _ (140, [some (vA m), some (vI w)], [], (C, N)) _
    refine AR.blk 1 (f' := (141, [some (vA m), some (vI w)], [vA m], (C, N))) (fun _ => rfl) ?_
    refine AR.getR rfl rfl hm.1 (by decide) rfl ?_
    refine AR.blk 1 (f' := (146, [some (vA m), some (vI w)], [vI 14, vA (m + 1)], (C, N))) (fun _ => rfl) ?_
    have f35 := hw.2.2.1
    refine AR.iald rfl hm.2.1 (by omega) (v := n) r0.2.1 ?_
    refine AR.endI rfl (.inl rfl) ?_
    have e9 : m_accS (((P, n, q, p, cl, tn), (t, bg, en, ca), (gn, pu, mk), H), U, V, F, (L, T), (l, ln)) w = n := by unfold m_accS m_acc; dsimp only; omega
    rw [e9]
    exact ⟨_, rfl, ⟨hM, hK, hV, hE, hT, hL, h7⟩, (fun _ _ => rfl)⟩
  by_cases e36 : w = 8
  · refine AR.tswA 8 rfl hsw1 e36 rfl (by omega) ?_
    show AR E d _ (148, [some (vA m), some (vI w)], [], (C, N)) _
    refine AR.blk 1 (f' := (149, [some (vA m), some (vI w)], [vA m], (C, N))) (fun _ => rfl) ?_
    refine AR.callV [] (ev_X7_closedMany (by omega) hm r0 hw  ) hm.1 rfl rfl rfl rfl rfl ?_
    show AR E d _ (152, [some (vA m), some (vI w)], [vI (cl 0 + cl 1 + cl 2 + cl 3)], (C, N)) _
    refine AR.endI rfl (.inl rfl) ?_
    have e9 : m_accS (((P, n, q, p, cl, tn), (t, bg, en, ca), (gn, pu, mk), H), U, V, F, (L, T), (l, ln)) w = cl 0 + cl 1 + cl 2 + cl 3 := by unfold m_accS m_acc; dsimp only; omega
    rw [e9]
    exact ⟨_, rfl, ⟨hM, hK, hV, hE, hT, hL, h7⟩, (fun _ _ => rfl)⟩
  by_cases e37 : w = 9
  · refine AR.tswA 9 rfl hsw1 e37 rfl (by omega) ?_
    show AR E d _ (153, [some (vA m), some (vI w)], [], (C, N)) _
    refine AR.blk 1 (f' := (154, [some (vA m), some (vI w)], [vA m], (C, N))) (fun _ => rfl) ?_
    refine AR.getR rfl rfl hm.1 (by decide) rfl ?_
    refine AR.blk 1 (f' := (159, [some (vA m), some (vI w)], [vI 8, vA (m + 1)], (C, N))) (fun _ => rfl) ?_
    have f38 := hv.2.2.2.2.1 0
    refine AR.iald rfl hm.2.1 (by omega) (v := gn 0) s0.2.2.2.2.2.2.1.1 ?_
    refine AR.blk 1 (f' := (161, [some (vA m), some (vI w)], [vA m, vI (gn 0)], (C, N))) (fun _ => rfl) ?_
    refine AR.getR rfl rfl hm.1 (by decide) rfl ?_
    refine AR.blk 1 (f' := (166, [some (vA m), some (vI w)], [vI 9, vA (m + 1), vI (gn 0)], (C, N))) (fun _ => rfl) ?_
    have f39 := hv.2.2.2.2.1 1
    refine AR.iald rfl hm.2.1 (by omega) (v := gn 1) s0.2.2.2.2.2.2.1.2 ?_
    refine AR.blk 1 (f' := (168, [some (vA m), some (vI w)], [vI ((gn 0) + (gn 1))], (C, N))) (fun _ => rfl) ?_
    refine AR.endI rfl (.inl rfl) ?_
    have e9 : m_accS (((P, n, q, p, cl, tn), (t, bg, en, ca), (gn, pu, mk), H), U, V, F, (L, T), (l, ln)) w = (gn 0) + (gn 1) := by unfold m_accS m_acc; dsimp only; omega
    rw [e9]
    exact ⟨_, rfl, ⟨hM, hK, hV, hE, hT, hL, h7⟩, (fun _ _ => rfl)⟩
  by_cases e40 : w = 10
  · refine AR.tswA 10 rfl hsw1 e40 rfl (by omega) ?_
    show AR E d _ (169, [some (vA m), some (vI w)], [], (C, N)) _
    refine AR.blk 1 (f' := (170, [some (vA m), some (vI w)], [vA m], (C, N))) (fun _ => rfl) ?_
    refine AR.getR rfl rfl hm.1 (by decide) rfl ?_
    refine AR.blk 1 (f' := (175, [some (vA m), some (vI w)], [vI 10, vA (m + 1)], (C, N))) (fun _ => rfl) ?_
    have f41 := hv.2.2.2.2.1 0
    refine AR.iald rfl hm.2.1 (by omega) (v := pu 0) s0.2.2.2.2.2.2.2.1.1 ?_
    refine AR.blk 1 (f' := (177, [some (vA m), some (vI w)], [vA m, vI (pu 0)], (C, N))) (fun _ => rfl) ?_
    refine AR.getR rfl rfl hm.1 (by decide) rfl ?_
    refine AR.blk 1 (f' := (182, [some (vA m), some (vI w)], [vI 11, vA (m + 1), vI (pu 0)], (C, N))) (fun _ => rfl) ?_
    have f42 := hv.2.2.2.2.1 1
    refine AR.iald rfl hm.2.1 (by omega) (v := pu 1) s0.2.2.2.2.2.2.2.1.2 ?_
    refine AR.blk 1 (f' := (184, [some (vA m), some (vI w)], [vI ((pu 0) + (pu 1))], (C, N))) (fun _ => rfl) ?_
    refine AR.endI rfl (.inl rfl) ?_
    have e9 : m_accS (((P, n, q, p, cl, tn), (t, bg, en, ca), (gn, pu, mk), H), U, V, F, (L, T), (l, ln)) w = (pu 0) + (pu 1) := by unfold m_accS m_acc; dsimp only; omega
    rw [e9]
    exact ⟨_, rfl, ⟨hM, hK, hV, hE, hT, hL, h7⟩, (fun _ _ => rfl)⟩
  by_cases e43 : w = 11
  · refine AR.tswA 11 rfl hsw1 e43 rfl (by omega) ?_
    show AR E d _ (185, [some (vA m), some (vI w)], [], (C, N)) _
    refine AR.blk 1 (f' := (186, [some (vA m), some (vI w)], [vA m], (C, N))) (fun _ => rfl) ?_
    refine AR.getR rfl rfl hm.1 (by decide) rfl ?_
    refine AR.blk 1 (f' := (191, [some (vA m), some (vI w)], [vI 12, vA (m + 1)], (C, N))) (fun _ => rfl) ?_
    have f44 := hv.2.2.2.2.1 0
    refine AR.iald rfl hm.2.1 (by omega) (v := mk 0) s0.2.2.2.2.2.2.2.2.1 ?_
    refine AR.blk 1 (f' := (193, [some (vA m), some (vI w)], [vA m, vI (mk 0)], (C, N))) (fun _ => rfl) ?_
    refine AR.getR rfl rfl hm.1 (by decide) rfl ?_
    refine AR.blk 1 (f' := (198, [some (vA m), some (vI w)], [vI 13, vA (m + 1), vI (mk 0)], (C, N))) (fun _ => rfl) ?_
    have f45 := hv.2.2.2.2.1 1
    refine AR.iald rfl hm.2.1 (by omega) (v := mk 1) s0.2.2.2.2.2.2.2.2.2 ?_
    refine AR.blk 1 (f' := (200, [some (vA m), some (vI w)], [vI ((mk 0) + (mk 1))], (C, N))) (fun _ => rfl) ?_
    refine AR.endI rfl (.inl rfl) ?_
    have e9 : m_accS (((P, n, q, p, cl, tn), (t, bg, en, ca), (gn, pu, mk), H), U, V, F, (L, T), (l, ln)) w = (mk 0) + (mk 1) := by unfold m_accS m_acc; dsimp only; omega
    rw [e9]
    exact ⟨_, rfl, ⟨hM, hK, hV, hE, hT, hL, h7⟩, (fun _ _ => rfl)⟩
  by_cases e46 : w = 12
  · refine AR.tswA 12 rfl hsw1 e46 rfl (by omega) ?_
    show AR E d _ (201, [some (vA m), some (vI w)], [], (C, N)) _
    refine AR.blk 1 (f' := (202, [some (vA m), some (vI w)], [vA m], (C, N))) (fun _ => rfl) ?_
    refine AR.getR rfl rfl hm.1 (by decide) rfl ?_
    refine AR.blk 1 (f' := (206, [some (vA m), some (vI w)], [vI 5, vA (m + 1)], (C, N))) (fun _ => rfl) ?_
    have f47 := hv.1
    have f48 := hv.2.1
    have f49 := hv.2.2.1
    have f50 := hv.2.2.2.1
    refine AR.iald rfl hm.2.1 (by omega) (v := ca) s0.2.2.2.2.2.1 ?_
    refine AR.endI rfl (.inl rfl) ?_
    have e9 : m_accS (((P, n, q, p, cl, tn), (t, bg, en, ca), (gn, pu, mk), H), U, V, F, (L, T), (l, ln)) w = ca := by unfold m_accS m_acc; dsimp only; omega
    rw [e9]
    exact ⟨_, rfl, ⟨hM, hK, hV, hE, hT, hL, h7⟩, (fun _ _ => rfl)⟩
  by_cases e51 : w = 13
  · refine AR.tswA 13 rfl hsw1 e51 rfl (by omega) ?_
    show AR E d _ (208, [some (vA m), some (vI w)], [], (C, N)) _
    refine AR.blk 1 (f' := (209, [some (vA m), some (vI w)], [vA m], (C, N))) (fun _ => rfl) ?_
    refine AR.callV [] (ev_X7_turnedAll (by omega) hm r0 hw  ) hm.1 rfl rfl rfl rfl rfl ?_
    show AR E d _ (212, [some (vA m), some (vI w)], [vI (tn 0 + tn 1 + tn 2 + tn 3)], (C, N)) _
    refine AR.endI rfl (.inl rfl) ?_
    have e9 : m_accS (((P, n, q, p, cl, tn), (t, bg, en, ca), (gn, pu, mk), H), U, V, F, (L, T), (l, ln)) w = tn 0 + tn 1 + tn 2 + tn 3 := by unfold m_accS m_acc; dsimp only; omega
    rw [e9]
    exact ⟨_, rfl, ⟨hM, hK, hV, hE, hT, hL, h7⟩, (fun _ _ => rfl)⟩
  by_cases e52 : w = 14
  · refine AR.tswA 14 rfl hsw1 e52 rfl (by omega) ?_
    show AR E d _ (213, [some (vA m), some (vI w)], [], (C, N)) _
    refine AR.blk 1 (f' := (214, [some (vA m), some (vI w)], [vA m], (C, N))) (fun _ => rfl) ?_
    refine AR.getR rfl rfl hm.1 (by decide) rfl ?_
    refine AR.blk 1 (f' := (219, [some (vA m), some (vI w)], [vI 67, vA (m + 1)], (C, N))) (fun _ => rfl) ?_
    have f53 := m_diff_D H
    refine AR.iald rfl hm.2.1 (by omega) (v := ((m_D H).length : Int)) D0.1 ?_
    refine AR.endI rfl (.inl rfl) ?_
    have e9 : m_accS (((P, n, q, p, cl, tn), (t, bg, en, ca), (gn, pu, mk), H), U, V, F, (L, T), (l, ln)) w = ((m_D H).length : Int) := by unfold m_accS m_acc; dsimp only; omega
    rw [e9]
    exact ⟨_, rfl, ⟨hM, hK, hV, hE, hT, hL, h7⟩, (fun _ _ => rfl)⟩
  by_cases e54 : w = 15
  · refine AR.tswA 15 rfl hsw1 e54 rfl (by omega) ?_
    show AR E d _ (221, [some (vA m), some (vI w)], [], (C, N)) _
    refine AR.blk 1 (f' := (222, [some (vA m), some (vI w)], [vA m], (C, N))) (fun _ => rfl) ?_
    refine AR.getI rfl rfl hm.1 (by decide) (v := L) hT.1 ?_
    refine AR.endI rfl (.inl rfl) ?_
    have e9 : m_accS (((P, n, q, p, cl, tn), (t, bg, en, ca), (gn, pu, mk), H), U, V, F, (L, T), (l, ln)) w = L := by unfold m_accS m_acc; dsimp only; omega
    rw [e9]
    exact ⟨_, rfl, ⟨hM, hK, hV, hE, hT, hL, h7⟩, (fun _ _ => rfl)⟩
  by_cases e55 : w = 16
  · refine AR.tswA 16 rfl hsw1 e55 rfl (by omega) ?_
    show AR E d _ (226, [some (vA m), some (vI w)], [], (C, N)) _
    refine AR.blk 1 (f' := (227, [some (vA m), some (vI w)], [vA m], (C, N))) (fun _ => rfl) ?_
    refine AR.getI rfl rfl hm.1 (by decide) (v := (U.length : Int)) hK.1 ?_
    refine AR.endI rfl (.inl rfl) ?_
    have e9 : m_accS (((P, n, q, p, cl, tn), (t, bg, en, ca), (gn, pu, mk), H), U, V, F, (L, T), (l, ln)) w = (U.length : Int) := by unfold m_accS m_acc; dsimp only; omega
    rw [e9]
    exact ⟨_, rfl, ⟨hM, hK, hV, hE, hT, hL, h7⟩, (fun _ _ => rfl)⟩
  refine AR.tswD rfl hsw1 (by omega) ?_
  show AR E d _ (231, [some (vA m), some (vI w)], [], (C, N)) _
  refine AR.blk 1 (f' := (233, [some (vA m), some (vI w)], [vI (-2)], (C, N))) (fun _ => rfl) ?_
  refine AR.endI rfl (.inl rfl) ?_
  have e9 : m_accS (((P, n, q, p, cl, tn), (t, bg, en, ca), (gn, pu, mk), H), U, V, F, (L, T), (l, ln)) w = (-2) := by unfold m_accS m_acc; dsimp only; omega
  rw [e9]
  exact ⟨_, rfl, ⟨hM, hK, hV, hE, hT, hL, h7⟩, (fun _ _ => rfl)⟩
end L2J
