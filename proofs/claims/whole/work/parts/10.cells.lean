/-! the instructions that touch the heap -/
def sg_tys (dA : Nat → ClassId) : List (ClassId × FieldType) := [(dA 8, .int), (dA 9, .boolean), (dA 10, .char), (dA 11, .long), (dA 12, .object "BargeChess$Game")]
theorem sg_upR (bs : Nat) (ax : Nat → Nat) (r : Option Nat) : sg_up bs ax (vR r) = sg_rf bs r := by cases r <;> rfl
theorem sg_rfq (bs : Nat) (r : Option Nat) : sg_rf bs r = va_rf (r.map (bs + ·)) := by cases r <;> rfl
theorem sg_fs_get {bs : Nat} {ax : Nat → Nat} {m : Nat → Int → Int} {a t n k : Nat} {rs : List (Option Nat)} (hk : k < n) : (sg_fs bs m a (t, n, rs))[k]? = some (sg_up bs ax (if ag_kind t k = 2 then vR (rs.getD k none) else vI (m a k))) := by
  simp only [sg_fs, List.getElem?_map, List.getElem?_range hk, Option.map_some]
  by_cases h : ag_kind t k = 2
  · rw [if_pos h, if_pos h, sg_upR]
  · rw [if_neg h, if_neg h]
    rfl
theorem sg_fs_len {bs : Nat} {m : Nat → Int → Int} {a t n : Nat} {rs : List (Option Nat)} : (sg_fs bs m a (t, n, rs)).length = n := by simp [sg_fs]
theorem sg_fs_upd {bs : Nat} {m : Nat → Int → Int} {a t n k : Nat} {z : Int} {rs : List (Option Nat)} (hk : k < n) (h2 : ag_kind t k ≠ 2) : sg_fs bs (ag_upd m a k z) a (t, n, rs) = (sg_fs bs m a (t, n, rs)).set k (.int (Int32.ofInt z)) := by
  apply List.ext_getElem?
  intro i
  by_cases hi : i < n
  · by_cases hik : k = i
    · subst hik
      rw [List.getElem?_set_self (by rw [sg_fs_len]; exact hk)]
      simp only [sg_fs, List.getElem?_map, List.getElem?_range hk, Option.map_some, if_neg h2]
      simp [ag_upd]
    · rw [List.getElem?_set_ne hik]
      simp only [sg_fs, List.getElem?_map, List.getElem?_range hi, Option.map_some]
      have : ¬ ((i : Nat) : Int) = ((k : Nat) : Int) := fun q => hik (by omega)
      simp [ag_upd, this]
  · rw [List.getElem?_eq_none (by rw [sg_fs_len]; omega), List.getElem?_eq_none (by rw [List.length_set, sg_fs_len]; omega)]
theorem sg_fs_ref {bs : Nat} {m : Nat → Int → Int} {a t n k : Nat} {v : Option Nat} {rs : List (Option Nat)} (hk : k < n) (hr : rs.length = n) (h2 : ag_kind t k = 2) : sg_fs bs m a (t, n, rs.set k v) = (sg_fs bs m a (t, n, rs)).set k (sg_rf bs v) := by
  apply List.ext_getElem?
  intro i
  by_cases hi : i < n
  · by_cases hik : k = i
    · subst hik
      rw [List.getElem?_set_self (by rw [sg_fs_len]; exact hk)]
      simp only [sg_fs, List.getElem?_map, List.getElem?_range hk, Option.map_some, if_pos h2]
      simp [List.getD_eq_getElem?_getD, hr, hk]
    · rw [List.getElem?_set_ne hik]
      simp only [sg_fs, List.getElem?_map, List.getElem?_range hi, Option.map_some]
      simp [List.getD_eq_getElem?_getD, List.getElem?_set_ne hik]
  · rw [List.getElem?_eq_none (by rw [sg_fs_len]; omega), List.getElem?_eq_none (by rw [List.length_set, sg_fs_len]; omega)]
theorem sg_fit2 {ty : FieldType} (h : sg_isR ty = true) (bs : Nat) (v : Option Nat) : narrow ty (sg_rf bs v) = sg_rf bs v ∧ fits ty (sg_rf bs v) = true := by
  cases ty <;> first | (cases h; done) | (cases v <;> exact ⟨rfl, rfl⟩)
theorem sg_idx {i : Int} (h0 : 0 ≤ i) : ((i.toNat : Nat) : Int) = i := Int.toNat_of_nonneg h0
theorem sg_updA {m : Nat → Int → Int} {a : Nat} {i z : Int} (h0 : 0 ≤ i) (h1 : i < 100000) : (fun j : Nat => Int32.ofInt (ag_upd m a i z a j)) = upd (fun j : Nat => Int32.ofInt (m a j)) (Int32.ofInt i).toNatClampNeg (Int32.ofInt z) := by
  rw [sg_nat h0 h1]
  funext j
  by_cases hj : j = i.toNat
  · subst hj
    simp [ag_upd, upd, sg_idx h0]
  · have : ¬ (j : Int) = i := fun q => hj (by omega)
    simp [ag_upd, upd, hj, this]
theorem sg_updL {m : Nat → Int → Int} {a : Nat} {i z : Int} (h0 : 0 ≤ i) (h1 : i < 100000) : (fun j : Nat => Int64.ofInt (ag_upd m a i z a j)) = vp_updL (fun j : Nat => Int64.ofInt (m a j)) (Int32.ofInt i).toNatClampNeg (Int64.ofInt z) := by
  rw [sg_nat h0 h1]
  funext j
  by_cases hj : j = i.toNat
  · subst hj
    simp [ag_upd, vp_updL, sg_idx h0]
  · have : ¬ (j : Int) = i := fun q => hj (by omega)
    simp [ag_upd, vp_updL, hj, this]
theorem sg_narZ {z : Int} (h : z = 0 ∨ z = 1) : vp_nar .boolean (Int32.ofInt z) = Int32.ofInt z := by
  rcases h with rfl | rfl <;> decide +kernel
theorem sg_narC {z : Int} (h0 : 0 ≤ z) (h1 : z < 65536) : vp_nar .char (Int32.ofInt z) = Int32.ofInt z := by
  obtain ⟨n, rfl⟩ := Int.eq_ofNat_of_zero_le h0
  have h := (pk_charN (q := n) (by omega)).1
  unfold vp_nar
  rw [show Int32.ofInt (n : Int) = nI n from rfl, h]
section SGH
variable {p : Program} {l : Launch} {e : Env} {R : Room} {s : State} {m : MethodId} {args : Array Value} {below : List Frame} {meth : Method} {c : Code} {Q : State → Prop} {cc : ByteArray} {nL bs n0 s0 ci : Nat} {dA : Nat → ClassId} {ax : Nat → Nat} {D : va_G}
variable {pc : Nat} {ls : List (Option av)} {st : List av} {h : ag_H}
theorem sg_getf (hx : p.tables.exec = Jvm.exec) (hb : c.code = cc) (hts : ∀ w ∈ sg_tb, w.before args s = true) (hown : s.vm.findClass (sg_R ci) = some m.cls) (hK : va_K D vwCl (sg_tys dA) s) {ix t k a n : Nat} {rs : List (Option Nat)} (hf : ag_TT.1 ci ix = some (t, k)) (ht : t < 8) (hk : k < ag_nf t) (hn : k < n) (ha : h.1[a]? = some (t, n, rs)) (hd : decode cc pc = .ok (.getfield ix, 3)) (kk : sg_J p l e R s m args below meth c Q nL bs n0 s0 dA ax D (pc + 3, ls, (if ag_kind t k = 2 then vR (rs.getD k none) else vI (h.2 a k)) :: st, h)) : sg_J p l e R s m args below meth c Q nL bs n0 s0 dA ax D (pc, ls, vA a :: st, h) := by
  intro H locs rl cells slots hP hz hS hL hc hs
  have hw := hts _ (sg_fw hf)
  have he : (sg_W bs dA h)[a]? = some (bs + a, .inr (t, sg_fs bs h.2 a (t, n, rs))) := by
    rw [sg_W_get ha]
    simp [sg_E, ht]
  have hv := sg_fs_get (bs := bs) (ax := ax) (m := h.2) (a := a) (t := t) (rs := rs) hn
  have hde := (sg_kf t ht k hk).1
  unfold sg_fl at hw
  by_cases hc2 : ci = t
  · rw [if_pos hc2] at hw
    exact va_get hx hb hts (sg_lay t ht) hown hK hP a he (sg_cl t ht) k hk hw (by rw [hde]; exact fun _ h9 => h9) hv hd (kk H locs rl cells slots hP hz hS hL hc hs)
  · rw [if_neg hc2] at hw
    exact va_getN hx hb hts (sg_lay t ht) hown hK hP a he (sg_cl t ht) k hk hw (by rw [hde]; exact fun _ h9 => h9) hv hd (kk H locs rl cells slots hP hz hS hL hc hs)
theorem sg_putI (hx : p.tables.exec = Jvm.exec) (hb : c.code = cc) (hts : ∀ w ∈ sg_tb, w.before args s = true) (hown : s.vm.findClass (sg_R ci) = some m.cls) (hK : va_K D vwCl (sg_tys dA) s) {ix t k a n : Nat} {z : Int} {rs : List (Option Nat)} (hf : ag_TT.1 ci ix = some (t, k)) (ht : t < 8) (hk : k < ag_nf t) (h2 : ag_kind t k ≠ 2) (h1 : ag_kind t k = 1 → z = 0 ∨ z = 1) (hn : k < n) (ha : h.1[a]? = some (t, n, rs)) (hd : decode cc pc = .ok (.putfield ix, 3)) (kk : sg_J p l e R s m args below meth c Q nL bs n0 s0 dA ax D (pc + 3, ls, st, (h.1, ag_upd h.2 a k z))) : sg_J p l e R s m args below meth c Q nL bs n0 s0 dA ax D (pc, ls, vI z :: vA a :: st, h) := by
  intro H locs rl cells slots hP hz hS hL hc hs
  obtain ⟨sh, mm⟩ := h
  have hw := hts _ (sg_fw hf)
  have he : (sg_W bs dA (sh, mm))[a]? = some (bs + a, .inr (t, sg_fs bs mm a (t, n, rs))) := by
    rw [sg_W_get ha]
    simp [sg_E, ht]
  have hkf := sg_kf t ht k hk
  have hfi := hkf.2.2 h2
  have hnar : narrow (sg_ty t k) (.int (Int32.ofInt z)) = .int (Int32.ofInt z) ∧ fits (sg_ty t k) (.int (Int32.ofInt z)) = true := by
    rcases hfi.2 with q | ⟨q1, q⟩
    · rw [q]; exact ⟨rfl, rfl⟩
    · rw [q]
      rcases h1 q1 with rfl | rfl <;> exact ⟨by decide +kernel, by decide +kernel⟩
  have hE : sg_E bs dA (ag_upd mm a k z) a (t, n, rs) = .inr (t, (sg_fs bs mm a (t, n, rs)).set k (.int (Int32.ofInt z))) := by
    rw [← sg_fs_upd hn h2]
    simp [sg_E, ht]
  refine sg_vput (ty := sg_ty t k) hx hb hts (sg_lay t ht) (sg_ty t) (sg_tyok t ht) (sg_nm t ht) hown hK hP sg_W_D hS a he (sg_cl t ht) k hk ?_ hkf.1 hfi.1 (sg_tyok t ht k hk) hnar.1 hnar.2 (by rw [sg_fs_len]; exact hn) hd (fun H1 locs1 hP1 hz1 hS1 => ?_)
  · unfold sg_fl at hw
    by_cases hc2 : ci = t
    · rw [if_pos hc2] at hw; exact Or.inl hw
    · rw [if_neg hc2] at hw; exact Or.inr hw
  · have hP2 : va_P D vwCl (sg_W bs dA (sh, ag_upd mm a k z)) H1 := by
      rw [sg_W_upd ha hE]
      exact hP1
    exact kk H1 locs1 rl cells slots hP2 (by rw [hz1]; exact hz) hS1 hL hc hs
theorem sg_putR (hx : p.tables.exec = Jvm.exec) (hb : c.code = cc) (hts : ∀ w ∈ sg_tb, w.before args s = true) (hown : s.vm.findClass (sg_R ci) = some m.cls) (hK : va_K D vwCl (sg_tys dA) s) (hini : meth.name = "<init>") {ix t k a n : Nat} {v : Option Nat} {rs : List (Option Nat)} (hf : ag_TT.1 ci ix = some (t, k)) (hci : t = ci) (ht : t < 8) (hk : k < ag_nf t) (h2 : ag_kind t k = 2) (hn : k < n) (hr : rs.length = n) (ha : h.1[a]? = some (t, n, rs)) (hd : decode cc pc = .ok (.putfield ix, 3)) (kk : sg_J p l e R s m args below meth c Q nL bs n0 s0 dA ax D (pc + 3, ls, st, (h.1.set a (t, n, rs.set k v), h.2))) : sg_J p l e R s m args below meth c Q nL bs n0 s0 dA ax D (pc, ls, vR v :: vA a :: st, h) := by
  intro H locs rl cells slots hP hz hS hL hc hs
  obtain ⟨sh, mm⟩ := h
  subst hci
  have hw := hts _ (sg_fw hf)
  have he : (sg_W bs dA (sh, mm))[a]? = some (bs + a, .inr (t, sg_fs bs mm a (t, n, rs))) := by
    rw [sg_W_get ha]
    simp [sg_E, ht]
  have hkf := sg_kf t ht k hk
  have hfi := hkf.2.1 h2
  have hnar := sg_fit2 hfi.2 bs v
  have hE : sg_E bs dA mm a (t, n, rs.set k v) = .inr (t, (sg_fs bs mm a (t, n, rs)).set k (sg_rf bs v)) := by
    rw [← sg_fs_ref hn hr h2]
    simp [sg_E, ht]
  unfold sg_fl at hw
  rw [if_pos rfl] at hw
  show W p l e R s m args below meth c H locs cells slots Q (F0 m pc rl (sg_up bs ax (vR v) :: .ref (bs + a) :: st.map (sg_up bs ax)))
  rw [sg_upR]
  refine sg_vputF (ty := sg_ty t k) hx hb hts (sg_lay t ht) (sg_ty t) (sg_tyok t ht) (sg_nm t ht) hown hK hP sg_W_D hS a he (sg_cl t ht) k hk hw hkf.1 hfi.1 hini (sg_tyok t ht k hk) hnar.1 hnar.2 (by rw [sg_fs_len]; exact hn) hd (fun H1 locs1 hP1 hz1 hS1 => ?_)
  have hP2 : va_P D vwCl (sg_W bs dA (sh.set a (t, n, rs.set k v), mm)) H1 := by
    rw [sg_W_set ha (fun _ _ => rfl) hE]
    exact hP1
  exact kk H1 locs1 rl cells slots hP2 (by rw [hz1]; simpa using hz) hS1 hL (by simpa using hc) (by show slots + s0 = sg_ss (sh.set a (t, n, rs.set k v)); rw [sg_ss_set ha]; exact hs)
theorem sg_iald (hx : p.tables.exec = Jvm.exec) (hb : c.code = cc) (hK : va_K D vwCl (sg_tys dA) s) {a n : Nat} {i : Int} {rs : List (Option Nat)} (ha : h.1[a]? = some (8, n, rs)) (h0 : 0 ≤ i) (h1 : i < n) (hn : n ≤ 100000) (hd : decode cc pc = .ok (.iaload, 1)) (kk : sg_J p l e R s m args below meth c Q nL bs n0 s0 dA ax D (pc + 1, ls, vI (h.2 a i) :: st, h)) : sg_J p l e R s m args below meth c Q nL bs n0 s0 dA ax D (pc, ls, vI i :: vA a :: st, h) := by
  intro H locs rl cells slots hP hz hS hL hc hs
  have he : (sg_W bs dA h)[a]? = some (bs + a, .inl (dA 8, n, .inl fun i => Int32.ofInt (h.2 a i))) := by
    rw [sg_W_get ha]
    rfl
  refine va_iald hx hb hK hP a 0 he rfl (sg_vp h0 h1 hn) hd ?_
  have := kk H locs rl cells slots hP hz hS hL hc hs
  rw [sg_nat h0 (by omega)]
  dsimp only
  rw [sg_idx h0]
  exact this
theorem sg_zald (hx : p.tables.exec = Jvm.exec) (hb : c.code = cc) (hK : va_K D vwCl (sg_tys dA) s) {a n : Nat} {i : Int} {rs : List (Option Nat)} (ha : h.1[a]? = some (9, n, rs)) (h0 : 0 ≤ i) (h1 : i < n) (hn : n ≤ 100000) (hd : decode cc pc = .ok (.baload, 1)) (kk : sg_J p l e R s m args below meth c Q nL bs n0 s0 dA ax D (pc + 1, ls, vI (h.2 a i) :: st, h)) : sg_J p l e R s m args below meth c Q nL bs n0 s0 dA ax D (pc, ls, vI i :: vA a :: st, h) := by
  intro H locs rl cells slots hP hz hS hL hc hs
  have he : (sg_W bs dA h)[a]? = some (bs + a, .inl (dA 9, n, .inl fun i => Int32.ofInt (h.2 a i))) := by
    rw [sg_W_get ha]
    rfl
  refine va_zald hx hb hK hP a 1 he rfl (sg_vp h0 h1 hn) hd ?_
  have := kk H locs rl cells slots hP hz hS hL hc hs
  rw [sg_nat h0 (by omega)]
  dsimp only
  rw [sg_idx h0]
  exact this
theorem sg_cald (hx : p.tables.exec = Jvm.exec) (hb : c.code = cc) (hK : va_K D vwCl (sg_tys dA) s) {a n : Nat} {i : Int} {rs : List (Option Nat)} (ha : h.1[a]? = some (10, n, rs)) (h0 : 0 ≤ i) (h1 : i < n) (hn : n ≤ 100000) (hd : decode cc pc = .ok (.caload, 1)) (kk : sg_J p l e R s m args below meth c Q nL bs n0 s0 dA ax D (pc + 1, ls, vI (h.2 a i) :: st, h)) : sg_J p l e R s m args below meth c Q nL bs n0 s0 dA ax D (pc, ls, vI i :: vA a :: st, h) := by
  intro H locs rl cells slots hP hz hS hL hc hs
  have he : (sg_W bs dA h)[a]? = some (bs + a, .inl (dA 10, n, .inl fun i => Int32.ofInt (h.2 a i))) := by
    rw [sg_W_get ha]
    rfl
  refine va_cald hx hb hK hP a 2 he rfl (sg_vp h0 h1 hn) hd ?_
  have := kk H locs rl cells slots hP hz hS hL hc hs
  rw [sg_nat h0 (by omega)]
  dsimp only
  rw [sg_idx h0]
  exact this
theorem sg_lald (hx : p.tables.exec = Jvm.exec) (hb : c.code = cc) (hK : va_K D vwCl (sg_tys dA) s) {a n : Nat} {i : Int} {rs : List (Option Nat)} (ha : h.1[a]? = some (11, n, rs)) (h0 : 0 ≤ i) (h1 : i < n) (hn : n ≤ 100000) (hd : decode cc pc = .ok (.laload, 1)) (kk : sg_J p l e R s m args below meth c Q nL bs n0 s0 dA ax D (pc + 1, ls, vJ (h.2 a i) :: st, h)) : sg_J p l e R s m args below meth c Q nL bs n0 s0 dA ax D (pc, ls, vI i :: vA a :: st, h) := by
  intro H locs rl cells slots hP hz hS hL hc hs
  have he : (sg_W bs dA h)[a]? = some (bs + a, .inl (dA 11, n, .inr (.inl fun i => Int64.ofInt (h.2 a i)))) := by
    rw [sg_W_get ha]
    rfl
  refine va_lald hx hb hK hP a 3 he rfl (sg_vp h0 h1 hn) hd ?_
  have := kk H locs rl cells slots hP hz hS hL hc hs
  rw [sg_nat h0 (by omega)]
  dsimp only
  rw [sg_idx h0]
  exact this
theorem sg_qald (hx : p.tables.exec = Jvm.exec) (hb : c.code = cc) (hK : va_K D vwCl (sg_tys dA) s) {a n : Nat} {i : Int} {rs : List (Option Nat)} (ha : h.1[a]? = some (12, n, rs)) (h0 : 0 ≤ i) (h1 : i < n) (hn : n ≤ 100000) (hd : decode cc pc = .ok (.aaload, 1)) (kk : sg_J p l e R s m args below meth c Q nL bs n0 s0 dA ax D (pc + 1, ls, vR (rs.getD i.toNat none) :: st, h)) : sg_J p l e R s m args below meth c Q nL bs n0 s0 dA ax D (pc, ls, vI i :: vA a :: st, h) := by
  intro H locs rl cells slots hP hz hS hL hc hs
  have he : (sg_W bs dA h)[a]? = some (bs + a, .inl (dA 12, n, .inr (.inr (.inr (.inr fun i => (rs.getD i none).map (bs + ·)))))) := by
    rw [sg_W_get ha]
    rfl
  refine va_aldq hx hb hK hP a 4 he rfl (sg_vp h0 h1 hn) hd ?_
  have := kk H locs rl cells slots hP hz hS hL hc hs
  rw [sg_nat h0 (by omega)]
  rw [← sg_rfq, ← sg_upR bs ax]
  exact this
theorem sg_iast (hx : p.tables.exec = Jvm.exec) (hb : c.code = cc) (hK : va_K D vwCl (sg_tys dA) s) {a n : Nat} {i z : Int} {rs : List (Option Nat)} (ha : h.1[a]? = some (8, n, rs)) (h0 : 0 ≤ i) (h1 : i < n) (hn : n ≤ 100000) (hd : decode cc pc = .ok (.iastore, 1)) (kk : sg_J p l e R s m args below meth c Q nL bs n0 s0 dA ax D (pc + 1, ls, st, (h.1, ag_upd h.2 a i z))) : sg_J p l e R s m args below meth c Q nL bs n0 s0 dA ax D (pc, ls, vI z :: vI i :: vA a :: st, h) := by
  intro H locs rl cells slots hP hz hS hL hc hs
  obtain ⟨sh, mm⟩ := h
  have he : (sg_W bs dA (sh, mm))[a]? = some (bs + a, .inl (dA 8, n, .inl fun i => Int32.ofInt (mm a i))) := by
    rw [sg_W_get ha]
    rfl
  refine sg_viast hx hb hK hP sg_W_D hS a 0 he rfl (sg_vp h0 h1 hn) hd (fun H1 locs1 hP1 hz1 hS1 => ?_)
  have hP2 : va_P D vwCl (sg_W bs dA (sh, ag_upd mm a i z)) H1 := by
    rw [sg_W_upd ha rfl]
    show va_P D vwCl ((sg_W bs dA (sh, mm)).set a (bs + a, .inl (dA 8, n, .inl fun j => Int32.ofInt (ag_upd mm a i z a j)))) H1
    rw [sg_updA h0 (by omega)]
    exact hP1
  exact kk H1 locs1 rl cells slots hP2 (by rw [hz1]; exact hz) hS1 hL hc hs
theorem sg_zast (hx : p.tables.exec = Jvm.exec) (hb : c.code = cc) (hK : va_K D vwCl (sg_tys dA) s) {a n : Nat} {i z : Int} {rs : List (Option Nat)} (ha : h.1[a]? = some (9, n, rs)) (h0 : 0 ≤ i) (h1 : i < n) (hn : n ≤ 100000) (hz9 : z = 0 ∨ z = 1) (hd : decode cc pc = .ok (.bastore, 1)) (kk : sg_J p l e R s m args below meth c Q nL bs n0 s0 dA ax D (pc + 1, ls, st, (h.1, ag_upd h.2 a i z))) : sg_J p l e R s m args below meth c Q nL bs n0 s0 dA ax D (pc, ls, vI z :: vI i :: vA a :: st, h) := by
  intro H locs rl cells slots hP hz hS hL hc hs
  obtain ⟨sh, mm⟩ := h
  have he : (sg_W bs dA (sh, mm))[a]? = some (bs + a, .inl (dA 9, n, .inl fun i => Int32.ofInt (mm a i))) := by
    rw [sg_W_get ha]
    rfl
  refine sg_vzast hx hb hK hP sg_W_D hS a 1 he rfl (sg_vp h0 h1 hn) hd (fun H1 locs1 hP1 hz1 hS1 => ?_)
  have hP2 : va_P D vwCl (sg_W bs dA (sh, ag_upd mm a i z)) H1 := by
    rw [sg_W_upd ha rfl]
    show va_P D vwCl ((sg_W bs dA (sh, mm)).set a (bs + a, .inl (dA 9, n, .inl fun j => Int32.ofInt (ag_upd mm a i z a j)))) H1
    rw [sg_updA h0 (by omega)]
    rw [← sg_narZ hz9]
    exact hP1
  exact kk H1 locs1 rl cells slots hP2 (by rw [hz1]; exact hz) hS1 hL hc hs
theorem sg_cast (hx : p.tables.exec = Jvm.exec) (hb : c.code = cc) (hK : va_K D vwCl (sg_tys dA) s) {a n : Nat} {i z : Int} {rs : List (Option Nat)} (ha : h.1[a]? = some (10, n, rs)) (h0 : 0 ≤ i) (h1 : i < n) (hn : n ≤ 100000) (hz8 : 0 ≤ z) (hz9 : z < 65536) (hd : decode cc pc = .ok (.castore, 1)) (kk : sg_J p l e R s m args below meth c Q nL bs n0 s0 dA ax D (pc + 1, ls, st, (h.1, ag_upd h.2 a i z))) : sg_J p l e R s m args below meth c Q nL bs n0 s0 dA ax D (pc, ls, vI z :: vI i :: vA a :: st, h) := by
  intro H locs rl cells slots hP hz hS hL hc hs
  obtain ⟨sh, mm⟩ := h
  have he : (sg_W bs dA (sh, mm))[a]? = some (bs + a, .inl (dA 10, n, .inl fun i => Int32.ofInt (mm a i))) := by
    rw [sg_W_get ha]
    rfl
  refine sg_vcast hx hb hK hP sg_W_D hS a 2 he rfl (sg_vp h0 h1 hn) hd (fun H1 locs1 hP1 hz1 hS1 => ?_)
  have hP2 : va_P D vwCl (sg_W bs dA (sh, ag_upd mm a i z)) H1 := by
    rw [sg_W_upd ha rfl]
    show va_P D vwCl ((sg_W bs dA (sh, mm)).set a (bs + a, .inl (dA 10, n, .inl fun j => Int32.ofInt (ag_upd mm a i z a j)))) H1
    rw [sg_updA h0 (by omega)]
    rw [← sg_narC hz8 hz9]
    exact hP1
  exact kk H1 locs1 rl cells slots hP2 (by rw [hz1]; exact hz) hS1 hL hc hs
theorem sg_last (hx : p.tables.exec = Jvm.exec) (hb : c.code = cc) (hK : va_K D vwCl (sg_tys dA) s) {a n : Nat} {i z : Int} {rs : List (Option Nat)} (ha : h.1[a]? = some (11, n, rs)) (h0 : 0 ≤ i) (h1 : i < n) (hn : n ≤ 100000) (hd : decode cc pc = .ok (.lastore, 1)) (kk : sg_J p l e R s m args below meth c Q nL bs n0 s0 dA ax D (pc + 1, ls, st, (h.1, ag_upd h.2 a i z))) : sg_J p l e R s m args below meth c Q nL bs n0 s0 dA ax D (pc, ls, vJ z :: vI i :: vA a :: st, h) := by
  intro H locs rl cells slots hP hz hS hL hc hs
  obtain ⟨sh, mm⟩ := h
  have he : (sg_W bs dA (sh, mm))[a]? = some (bs + a, .inl (dA 11, n, .inr (.inl fun i => Int64.ofInt (mm a i)))) := by
    rw [sg_W_get ha]
    rfl
  refine sg_vlast hx hb hK hP sg_W_D hS a 3 he rfl (sg_vp h0 h1 hn) hd (fun H1 locs1 hP1 hz1 hS1 => ?_)
  have hP2 : va_P D vwCl (sg_W bs dA (sh, ag_upd mm a i z)) H1 := by
    rw [sg_W_upd ha rfl]
    show va_P D vwCl ((sg_W bs dA (sh, mm)).set a (bs + a, .inl (dA 11, n, .inr (.inl fun j => Int64.ofInt (ag_upd mm a i z a j))))) H1
    rw [sg_updL h0 (by omega)]
    exact hP1
  exact kk H1 locs1 rl cells slots hP2 (by rw [hz1]; exact hz) hS1 hL hc hs
theorem sg_qast (hx : p.tables.exec = Jvm.exec) (hb : c.code = cc) (hK : va_K D vwCl (sg_tys dA) s) {a n v n2 : Nat} {i : Int} {rs rs2 : List (Option Nat)} (ha : h.1[a]? = some (12, n, rs)) (hv : h.1[v]? = some (1, n2, rs2)) (h0 : 0 ≤ i) (h1 : i < n) (hn : n ≤ 100000) (hr : rs.length = n) (hd : decode cc pc = .ok (.aastore, 1)) (kk : sg_J p l e R s m args below meth c Q nL bs n0 s0 dA ax D (pc + 1, ls, st, (h.1.set a (12, n, rs.set i.toNat (some v)), h.2))) : sg_J p l e R s m args below meth c Q nL bs n0 s0 dA ax D (pc, ls, vA v :: vI i :: vA a :: st, h) := by
  intro H locs rl cells slots hP hz hS hL hc hs
  obtain ⟨sh, mm⟩ := h
  have he : (sg_W bs dA (sh, mm))[a]? = some (bs + a, .inl (dA 12, n, .inr (.inr (.inr (.inr fun i => (rs.getD i none).map (bs + ·)))))) := by
    rw [sg_W_get ha]
    rfl
  have hev : (sg_W bs dA (sh, mm))[v]? = some (bs + v, .inr (1, sg_fs bs mm v (1, n2, rs2))) := by
    rw [sg_W_get hv]
    rfl
  refine sg_vastq hx hb hK hP sg_W_D hS a 4 v 1 he rfl hev (sg_cl 1 (by decide)) (sg_vp h0 h1 hn) hd (fun H1 locs1 hP1 hz1 hS1 => ?_)
  have hP2 : va_P D vwCl (sg_W bs dA (sh.set a (12, n, rs.set i.toNat (some v)), mm)) H1 := by
    rw [sg_W_set ha (fun _ _ => rfl) rfl]
    show va_P D vwCl ((sg_W bs dA (sh, mm)).set a (bs + a, .inl (dA 12, n, .inr (.inr (.inr (.inr fun j => ((rs.set i.toNat (some v)).getD j none).map (bs + ·))))))) H1
    have hf : (fun j => ((rs.set i.toNat (some v)).getD j none).map (bs + ·)) = va_up (fun j => (rs.getD j none).map (bs + ·)) (Int32.ofInt i).toNatClampNeg (some (bs + v)) := by
      rw [sg_nat h0 (by omega)]
      funext j
      by_cases hj : j = i.toNat
      · subst hj
        have : i.toNat < rs.length := by omega
        simp [va_up, List.getD_eq_getElem?_getD, this]
      · simp [va_up, hj, List.getD_eq_getElem?_getD, List.getElem?_set_ne (Ne.symm hj)]
    rw [hf]
    exact hP1
  exact kk H1 locs1 rl cells slots hP2 (by rw [hz1]; simpa using hz) hS1 hL (by simpa using hc) (by show slots + s0 = sg_ss (sh.set a (12, n, rs.set i.toNat (some v))); rw [sg_ss_set ha]; exact hs)
theorem sg_alen (hx : p.tables.exec = Jvm.exec) (hb : c.code = cc) (hK : va_K D vwCl (sg_tys dA) s) {a n t : Nat} {rs : List (Option Nat)} (ha : h.1[a]? = some (t, n, rs)) (h8 : 8 ≤ t) (h9 : t ≤ 12) (hd : decode cc pc = .ok (.arraylength, 1)) (kk : sg_J p l e R s m args below meth c Q nL bs n0 s0 dA ax D (pc + 1, ls, vI n :: st, h)) : sg_J p l e R s m args below meth c Q nL bs n0 s0 dA ax D (pc, ls, vA a :: st, h) := by
  intro H locs rl cells slots hP hz hS hL hc hs
  have ht : t = 8 ∨ t = 9 ∨ t = 10 ∨ t = 11 ∨ t = 12 := by omega
  have := kk H locs rl cells slots hP hz hS hL hc hs
  rcases ht with rfl | rfl | rfl | rfl | rfl
  · exact va_alen (t0 := 0) (ty := .int) (v := Int32.ofInt n) hx hb hK hP a (by rw [sg_W_get ha]; rfl) rfl rfl hd this
  · exact va_alen (t0 := 1) (ty := .boolean) (v := Int32.ofInt n) hx hb hK hP a (by rw [sg_W_get ha]; rfl) rfl rfl hd this
  · exact va_alen (t0 := 2) (ty := .char) (v := Int32.ofInt n) hx hb hK hP a (by rw [sg_W_get ha]; rfl) rfl rfl hd this
  · exact va_alen (t0 := 3) (ty := .long) (v := Int32.ofInt n) hx hb hK hP a (by rw [sg_W_get ha]; rfl) rfl rfl hd this
  · exact va_alen (t0 := 4) (ty := .object "BargeChess$Game") (v := Int32.ofInt n) hx hb hK hP a (by rw [sg_W_get ha]; rfl) rfl rfl hd this
end SGH
