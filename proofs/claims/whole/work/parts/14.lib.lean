/-! the library's own members that the claim calls (places printed by wip/whole/gen_lib.py) -/
theorem sj_cm : Cond.code yJ0_charAt_5068e cJ0_charAt_5068e 2 (some .char) ∈ sg_tb := sg_mem (List.mem_of_getElem? (i := 985) (by decide +kernel)) rfl
theorem sj_cmi : Cond.instanceMethod yJ0_charAt_5068e ∈ sg_tb := sg_mem (List.mem_of_getElem? (i := 983) (by decide +kernel)) rfl
theorem sj_cms : Cond.selects RJ0 yJ0_charAt_5068e yJ0_charAt_5068e ∈ sg_tb := sg_mem (List.mem_of_getElem? (i := 984) (by decide +kernel)) rfl
theorem sj_i0 : Cond.initialized RJ0 ∈ sg_tb := sg_mem (List.mem_of_getElem? (i := 99) (by decide +kernel)) rfl
theorem sj_i1 : Cond.initialized RJ1 ∈ sg_tb := sg_mem (List.mem_of_getElem? (i := 100) (by decide +kernel)) rfl
theorem sj_i3 : Cond.initialized RJ3 ∈ sg_tb := sg_mem (List.mem_of_getElem? (i := 101) (by decide +kernel)) rfl
theorem sj_if : Cond.initialized RJxf58ca ∈ sg_tb := sg_mem (List.mem_of_getElem? (i := 103) (by decide +kernel)) rfl
theorem sj_ill : Cond.methodLink RJ0 492 yJ0_isLatin1_aae02 ∈ sg_tb := sg_mem (List.mem_of_getElem? (i := 986) (by decide +kernel)) rfl
theorem sj_ili : Cond.instanceMethod yJ0_isLatin1_aae02 ∈ sg_tb := sg_mem (List.mem_of_getElem? (i := 987) (by decide +kernel)) rfl
theorem sj_ils : Cond.selects RJ0 yJ0_isLatin1_aae02 yJ0_isLatin1_aae02 ∈ sg_tb := sg_mem (List.mem_of_getElem? (i := 988) (by decide +kernel)) rfl
theorem sj_ilc : Cond.code yJ0_isLatin1_aae02 cJ0_isLatin1_aae02 1 (some .boolean) ∈ sg_tb := sg_mem (List.mem_of_getElem? (i := 989) (by decide +kernel)) rfl
theorem sj_f38 : Cond.fieldLink RJ0 38 "java/lang/String" "COMPACT_STRINGS" "Z" ∈ sg_tb := sg_mem (List.mem_of_getElem? (i := 990) (by decide +kernel)) rfl
theorem sj_f15 : Cond.fieldLink RJ0 15 "java/lang/String" "coder" "B" ∈ sg_tb := sg_mem (List.mem_of_getElem? (i := 1091) (by decide +kernel)) rfl
theorem sj_f9 : Cond.fieldLink RJ0 9 "java/lang/String" "value" "[B" ∈ sg_tb := sg_mem (List.mem_of_getElem? (i := 1092) (by decide +kernel)) rfl
theorem sj_f1053 : Cond.fieldLink RJ0 1053 "jdk/internal/util/Preconditions" "SIOOBE_FORMATTER" "Ljava/util/function/BiFunction;" ∈ sg_tb := sg_mem (List.mem_of_getElem? (i := 998) (by decide +kernel)) rfl
theorem sj_lcl : Cond.methodLink RJ0 495 yJ1_charAt_3b067 ∈ sg_tb := sg_mem (List.mem_of_getElem? (i := 992) (by decide +kernel)) rfl
theorem sj_lcs : Cond.static yJ1_charAt_3b067 ∈ sg_tb := sg_mem (List.mem_of_getElem? (i := 993) (by decide +kernel)) rfl
theorem sj_lcc : Cond.code yJ1_charAt_3b067 cJ1_charAt_3b067 2 (some .char) ∈ sg_tb := sg_mem (List.mem_of_getElem? (i := 994) (by decide +kernel)) rfl
theorem sj_scl : Cond.methodLink RJ1 9 yJ0_checkIndex_df160 ∈ sg_tb := sg_mem (List.mem_of_getElem? (i := 995) (by decide +kernel)) rfl
theorem sj_scs : Cond.static yJ0_checkIndex_df160 ∈ sg_tb := sg_mem (List.mem_of_getElem? (i := 996) (by decide +kernel)) rfl
theorem sj_scc : Cond.code yJ0_checkIndex_df160 cJ0_checkIndex_df160 2 none ∈ sg_tb := sg_mem (List.mem_of_getElem? (i := 997) (by decide +kernel)) rfl
theorem sj_pcl : Cond.methodLink RJ0 1059 yJ3_checkIndex_8e157 ∈ sg_tb := sg_mem (List.mem_of_getElem? (i := 1000) (by decide +kernel)) rfl
theorem sj_pcs : Cond.static yJ3_checkIndex_8e157 ∈ sg_tb := sg_mem (List.mem_of_getElem? (i := 1001) (by decide +kernel)) rfl
theorem sj_pcc : Cond.code yJ3_checkIndex_8e157 cJ3_checkIndex_8e157 3 (some .int) ∈ sg_tb := sg_mem (List.mem_of_getElem? (i := 1002) (by decide +kernel)) rfl
theorem sj_fbl : Cond.methodLink (sg_R 7) 211 yJxf58ca_floatToIntBits_5c35a ∈ sg_tb := sg_mem (List.mem_of_getElem? (i := 1069) (by decide +kernel)) rfl
theorem sj_fbs : Cond.static yJxf58ca_floatToIntBits_5c35a ∈ sg_tb := sg_mem (List.mem_of_getElem? (i := 1070) (by decide +kernel)) rfl
theorem sj_fbc : Cond.code yJxf58ca_floatToIntBits_5c35a cJxf58ca_floatToIntBits_5c35a 1 (some .int) ∈ sg_tb := sg_mem (List.mem_of_getElem? (i := 1071) (by decide +kernel)) rfl
theorem sj_fnl : Cond.methodLink RJxf58ca 59 yJxf58ca_isNaN_12338 ∈ sg_tb := sg_mem (List.mem_of_getElem? (i := 1072) (by decide +kernel)) rfl
theorem sj_fns : Cond.static yJxf58ca_isNaN_12338 ∈ sg_tb := sg_mem (List.mem_of_getElem? (i := 1073) (by decide +kernel)) rfl
theorem sj_fnc : Cond.code yJxf58ca_isNaN_12338 cJxf58ca_isNaN_12338 1 (some .boolean) ∈ sg_tb := sg_mem (List.mem_of_getElem? (i := 1074) (by decide +kernel)) rfl
theorem sj_frl : Cond.methodLink RJxf58ca 74 ⟨"java/lang/Float", "floatToRawIntBits", "(F)I"⟩ ∈ sg_tb := sg_mem (List.mem_of_getElem? (i := 1075) (by decide +kernel)) rfl
theorem sj_frs : Cond.static ⟨"java/lang/Float", "floatToRawIntBits", "(F)I"⟩ ∈ sg_tb := sg_mem (List.mem_of_getElem? (i := 1076) (by decide +kernel)) rfl
theorem sj_frn : Cond.native ⟨"java/lang/Float", "floatToRawIntBits", "(F)I"⟩ ∈ sg_tb := sg_mem (List.mem_of_getElem? (i := 1077) (by decide +kernel)) rfl
theorem sj_cml : ∀ ix e, ag_TT.2.1 7 ix = some e → e.1 = 14 → Cond.methodLink (sg_R 7) ix yJ0_charAt_5068e ∈ sg_tb := by
  intro ix e h he
  obtain ⟨j, hj⟩ := sg_find h
  have key : ∀ e ∈ ag_tM.getD 7 [], e.2.1 = 14 → e.1 = 176 := by decide +kernel
  rcases key _ (List.mem_of_getElem? hj) he with rfl
  · exact sg_mem (List.mem_of_getElem? (i := 982) (by decide +kernel)) rfl
theorem dJxf58ca_isNaN_12338_0 : decode cJxf58ca_isNaN_12338 0 = .ok (.fload_n 0, 1) := by decide +kernel
theorem dJxf58ca_isNaN_12338_1 : decode cJxf58ca_isNaN_12338 1 = .ok (.fload_n 0, 1) := by decide +kernel
theorem dJxf58ca_isNaN_12338_2 : decode cJxf58ca_isNaN_12338 2 = .ok (.fcmp .l, 1) := by decide +kernel
theorem dJxf58ca_isNaN_12338_3 : decode cJxf58ca_isNaN_12338 3 = .ok (.ifCond .eq 7, 3) := by decide +kernel
theorem dJxf58ca_isNaN_12338_6 : decode cJxf58ca_isNaN_12338 6 = .ok (.iconst 1, 1) := by decide +kernel
theorem dJxf58ca_isNaN_12338_7 : decode cJxf58ca_isNaN_12338 7 = .ok (.goto 4, 3) := by decide +kernel
theorem dJxf58ca_isNaN_12338_10 : decode cJxf58ca_isNaN_12338 10 = .ok (.iconst 0, 1) := by decide +kernel
theorem dJxf58ca_isNaN_12338_11 : decode cJxf58ca_isNaN_12338 11 = .ok (.ireturn, 1) := by decide +kernel
theorem dJxf58ca_floatToIntBits_5c35a_0 : decode cJxf58ca_floatToIntBits_5c35a 0 = .ok (.fload_n 0, 1) := by decide +kernel
theorem dJxf58ca_floatToIntBits_5c35a_1 : decode cJxf58ca_floatToIntBits_5c35a 1 = .ok (.invokestatic 59, 3) := by decide +kernel
theorem dJxf58ca_floatToIntBits_5c35a_4 : decode cJxf58ca_floatToIntBits_5c35a 4 = .ok (.ifCond .ne 8, 3) := by decide +kernel
theorem dJxf58ca_floatToIntBits_5c35a_7 : decode cJxf58ca_floatToIntBits_5c35a 7 = .ok (.fload_n 0, 1) := by decide +kernel
theorem dJxf58ca_floatToIntBits_5c35a_8 : decode cJxf58ca_floatToIntBits_5c35a 8 = .ok (.invokestatic 74, 3) := by decide +kernel
theorem dJxf58ca_floatToIntBits_5c35a_11 : decode cJxf58ca_floatToIntBits_5c35a 11 = .ok (.ireturn, 1) := by decide +kernel
theorem dJxf58ca_floatToIntBits_5c35a_12 : decode cJxf58ca_floatToIntBits_5c35a 12 = .ok (.ldc 77, 2) := by decide +kernel
theorem dJxf58ca_floatToIntBits_5c35a_14 : decode cJxf58ca_floatToIntBits_5c35a 14 = .ok (.ireturn, 1) := by decide +kernel
theorem dJ0_charAt_5068e_0 : decode cJ0_charAt_5068e 0 = .ok (.aload_n 0, 1) := by decide +kernel
theorem dJ0_charAt_5068e_1 : decode cJ0_charAt_5068e 1 = .ok (.invokevirtual 492, 3) := by decide +kernel
theorem dJ0_charAt_5068e_4 : decode cJ0_charAt_5068e 4 = .ok (.ifCond .eq 12, 3) := by decide +kernel
theorem dJ0_charAt_5068e_7 : decode cJ0_charAt_5068e 7 = .ok (.aload_n 0, 1) := by decide +kernel
theorem dJ0_charAt_5068e_8 : decode cJ0_charAt_5068e 8 = .ok (.getfield 9, 3) := by decide +kernel
theorem dJ0_charAt_5068e_11 : decode cJ0_charAt_5068e 11 = .ok (.iload_n 1, 1) := by decide +kernel
theorem dJ0_charAt_5068e_12 : decode cJ0_charAt_5068e 12 = .ok (.invokestatic 495, 3) := by decide +kernel
theorem dJ0_charAt_5068e_15 : decode cJ0_charAt_5068e 15 = .ok (.ireturn, 1) := by decide +kernel
theorem dJ0_charAt_5068e_16 : decode cJ0_charAt_5068e 16 = .ok (.aload_n 0, 1) := by decide +kernel
theorem dJ0_charAt_5068e_17 : decode cJ0_charAt_5068e 17 = .ok (.getfield 9, 3) := by decide +kernel
theorem dJ0_charAt_5068e_20 : decode cJ0_charAt_5068e 20 = .ok (.iload_n 1, 1) := by decide +kernel
theorem dJ0_charAt_5068e_21 : decode cJ0_charAt_5068e 21 = .ok (.invokestatic 498, 3) := by decide +kernel
theorem dJ0_charAt_5068e_24 : decode cJ0_charAt_5068e 24 = .ok (.ireturn, 1) := by decide +kernel
theorem dJ0_isLatin1_aae02_0 : decode cJ0_isLatin1_aae02 0 = .ok (.getstatic 38, 3) := by decide +kernel
theorem dJ0_isLatin1_aae02_3 : decode cJ0_isLatin1_aae02 3 = .ok (.ifCond .eq 14, 3) := by decide +kernel
theorem dJ0_isLatin1_aae02_6 : decode cJ0_isLatin1_aae02 6 = .ok (.aload_n 0, 1) := by decide +kernel
theorem dJ0_isLatin1_aae02_7 : decode cJ0_isLatin1_aae02 7 = .ok (.getfield 15, 3) := by decide +kernel
theorem dJ0_isLatin1_aae02_10 : decode cJ0_isLatin1_aae02 10 = .ok (.ifCond .ne 7, 3) := by decide +kernel
theorem dJ0_isLatin1_aae02_13 : decode cJ0_isLatin1_aae02 13 = .ok (.iconst 1, 1) := by decide +kernel
theorem dJ0_isLatin1_aae02_14 : decode cJ0_isLatin1_aae02 14 = .ok (.goto 4, 3) := by decide +kernel
theorem dJ0_isLatin1_aae02_17 : decode cJ0_isLatin1_aae02 17 = .ok (.iconst 0, 1) := by decide +kernel
theorem dJ0_isLatin1_aae02_18 : decode cJ0_isLatin1_aae02 18 = .ok (.ireturn, 1) := by decide +kernel
theorem dJ0_checkIndex_df160_0 : decode cJ0_checkIndex_df160 0 = .ok (.iload_n 0, 1) := by decide +kernel
theorem dJ0_checkIndex_df160_1 : decode cJ0_checkIndex_df160 1 = .ok (.iload_n 1, 1) := by decide +kernel
theorem dJ0_checkIndex_df160_2 : decode cJ0_checkIndex_df160 2 = .ok (.getstatic 1053, 3) := by decide +kernel
theorem dJ0_checkIndex_df160_5 : decode cJ0_checkIndex_df160 5 = .ok (.invokestatic 1059, 3) := by decide +kernel
theorem dJ0_checkIndex_df160_8 : decode cJ0_checkIndex_df160 8 = .ok (.pop, 1) := by decide +kernel
theorem dJ0_checkIndex_df160_9 : decode cJ0_checkIndex_df160 9 = .ok (.return_, 1) := by decide +kernel
theorem dJ1_charAt_3b067_0 : decode cJ1_charAt_3b067 0 = .ok (.iload_n 1, 1) := by decide +kernel
theorem dJ1_charAt_3b067_1 : decode cJ1_charAt_3b067 1 = .ok (.aload_n 0, 1) := by decide +kernel
theorem dJ1_charAt_3b067_2 : decode cJ1_charAt_3b067 2 = .ok (.arraylength, 1) := by decide +kernel
theorem dJ1_charAt_3b067_3 : decode cJ1_charAt_3b067 3 = .ok (.invokestatic 9, 3) := by decide +kernel
theorem dJ1_charAt_3b067_6 : decode cJ1_charAt_3b067 6 = .ok (.aload_n 0, 1) := by decide +kernel
theorem dJ1_charAt_3b067_7 : decode cJ1_charAt_3b067 7 = .ok (.iload_n 1, 1) := by decide +kernel
theorem dJ1_charAt_3b067_8 : decode cJ1_charAt_3b067 8 = .ok (.baload, 1) := by decide +kernel
theorem dJ1_charAt_3b067_9 : decode cJ1_charAt_3b067 9 = .ok (.sipush 255, 3) := by decide +kernel
theorem dJ1_charAt_3b067_12 : decode cJ1_charAt_3b067 12 = .ok (.iand, 1) := by decide +kernel
theorem dJ1_charAt_3b067_13 : decode cJ1_charAt_3b067 13 = .ok (.i2c, 1) := by decide +kernel
theorem dJ1_charAt_3b067_14 : decode cJ1_charAt_3b067 14 = .ok (.ireturn, 1) := by decide +kernel
theorem dJ3_checkIndex_8e157_0 : decode cJ3_checkIndex_8e157 0 = .ok (.iload_n 0, 1) := by decide +kernel
theorem dJ3_checkIndex_8e157_1 : decode cJ3_checkIndex_8e157 1 = .ok (.ifCond .lt 8, 3) := by decide +kernel
theorem dJ3_checkIndex_8e157_4 : decode cJ3_checkIndex_8e157 4 = .ok (.iload_n 0, 1) := by decide +kernel
theorem dJ3_checkIndex_8e157_5 : decode cJ3_checkIndex_8e157 5 = .ok (.iload_n 1, 1) := by decide +kernel
theorem dJ3_checkIndex_8e157_6 : decode cJ3_checkIndex_8e157 6 = .ok (.if_icmp .lt 10, 3) := by decide +kernel
theorem dJ3_checkIndex_8e157_9 : decode cJ3_checkIndex_8e157 9 = .ok (.aload_n 2, 1) := by decide +kernel
theorem dJ3_checkIndex_8e157_10 : decode cJ3_checkIndex_8e157 10 = .ok (.iload_n 0, 1) := by decide +kernel
theorem dJ3_checkIndex_8e157_11 : decode cJ3_checkIndex_8e157 11 = .ok (.iload_n 1, 1) := by decide +kernel
theorem dJ3_checkIndex_8e157_12 : decode cJ3_checkIndex_8e157 12 = .ok (.invokestatic 95, 3) := by decide +kernel
theorem dJ3_checkIndex_8e157_15 : decode cJ3_checkIndex_8e157 15 = .ok (.athrow, 1) := by decide +kernel
theorem dJ3_checkIndex_8e157_16 : decode cJ3_checkIndex_8e157 16 = .ok (.iload_n 0, 1) := by decide +kernel
theorem dJ3_checkIndex_8e157_17 : decode cJ3_checkIndex_8e157 17 = .ok (.ireturn, 1) := by decide +kernel
def sj_ws (y : MethodName) (b : ByteArray) (maxL : Nat) (ret : Option FieldType) : List Cond := .code y b maxL ret :: sg_Gd
def sj_rm (k : Nat) : Room := { frames := k, cells := 0, slots := 0, locals := 60 * k }
def sj_Q (v : Option Value) : Array Value → State → Outcome → State → Prop := fun _ st oc t => oc = .returned v ∧ t.heap = st.heap
section SJ
variable {p : Program} {l : Launch} {e : Env} {R : Room} {s : State} {m : MethodId} {args : Array Value} {below : List Frame} {meth : Method} {c : Code} {Q : State → Prop} {cc : ByteArray} {nL bs : Nat} {ax adV : Nat → Nat} {E : Nat × (Int → Int)}
theorem sj_pure {H : Heap} {locs : List Loc} {cells slots pc : Nat} {rl : Array Slot} {st0 rest : List Value} {v : Option Value} {a : Array Value} (hr : va_Run p l e R s m args below meth c H locs cells slots 0 0 (F0 m pc rl st0) rest (sj_Q v a) (fun _ => False)) (kk : W p l e R s m args below meth c H locs cells slots Q (F0 m (pc + 3) rl (v.toList ++ rest))) : W p l e R s m args below meth c H locs cells slots Q (F0 m pc rl st0) := by
  intro T hT X
  obtain ⟨v', st₀, t, T', L, h0, X', hL2, e1, e2, ⟨hv, hh⟩, stp⟩ := hr T hT X
  have hv2 : v' = v := Outcome.returned.inj hv
  subst hv2
  have hL : L = [] := by
    cases L with
    | nil => rfl
    | cons q L => exact (hL2 q List.mem_cons_self).elim
  subst hL
  rw [List.append_nil] at X'
  obtain ⟨t2, a1, b1⟩ := kk T' (by rw [e1, hh, h0]) X'
  exact ⟨t2, stp t2 a1, b1⟩
theorem sj_hts {y : MethodName} {b : ByteArray} {maxL : Nat} {ret : Option FieldType} {rm : Room} {e : Env} {s s₁ : State} {m : MethodId} {args : Array Value} {below : List Frame} {meth : Method} {c : Code} (B : BodyLoose p l y (headSpec (sj_ws y b maxL ret) rm) b maxL ret e s m args below meth c s₁) : ∀ w ∈ sg_Gd, w.before args s = true :=
  fun w hw => atoms_spec (ws := sj_ws y b maxL ret) B.pre w (List.mem_cons_of_mem _ hw)
theorem sj_gd {w : Cond} (h : w ∈ sg_tb) (hg : goodWord w = true) : w ∈ sg_Gd := List.mem_filter.mpr ⟨h, hg⟩
theorem sj_wsin (hts : ∀ w ∈ sg_Gd, w.before args s = true) {y : MethodName} {b : ByteArray} {maxL : Nat} {ret : Option FieldType} (hc : Cond.code y b maxL ret ∈ sg_tb) : ∀ w ∈ sj_ws y b maxL ret, ∀ (a' : Array Value) (U : State), s.WarmedH U.vm → w.before a' U = true := by
  intro w hw a' U hW
  have hm : w ∈ sg_Gd := by
    rcases List.mem_cons.mp hw with rfl | hw
    · exact sj_gd hc rfl
    · exact hw
  exact sg_warm (List.mem_filter.mp hm).1 hW (hts w hm)
theorem sj_X0 (hX : sg_X E bs ax adV s) (U : State) (hU : U.heap = s.heap) (hW : s.WarmedH U.vm) : sg_X E bs ax adV U :=
  hX.to (locs := []) (by rw [hU]; exact va_S.rf) hW.alike (fun own tx k a hr => vk_R.warm hW hr)
theorem sj_blind {av : List Value} : FrameBlind (va_Pc av (fun U => sg_X E bs ax adV U)) := by
  intro a U g mk q
  obtain ⟨q0, q5⟩ := q
  exact ⟨q0, sg_X.to (s := U) (U := U.calling g mk a) (locs := []) q5 va_S.rf (Vm.Alike.refl U.vm) (fun own tx k a hr => vk_R.same rfl hr)⟩
theorem sj_blind0 {av : List Value} : FrameBlind (va_Pc av (fun _ => True)) := fun _ _ _ _ q => q
theorem sj_ofW {l : Launch} {y : MethodName} {ws ws' : List Cond} {rm : Room} {Pc : Array Value → State → Prop} {Qc : Array Value → State → Outcome → State → Prop} {mc ms : Nat} {free : Addr → Prop} {cc : ByteArray} {maxL : Nat} {ret : Option FieldType}
    (hy : plainFor y = true) (hw : ws = Cond.code y cc maxL ret :: ws')
    (body : ∀ p e s m args below meth c s₁, BodyLoose p l y (headSpec ws rm) cc maxL ret e s m args below meth c s₁ → c.maxLocals = maxL → Pc args s →
      W p l e (headSpec ws rm).room s m args below meth c s.heap [] 0 0 (MQ below Qc args s mc ms free) (entryFrame m args maxL)) : Met l y ws rm Pc Qc mc ms free := by
  refine MetFree.of_bodySF (code := cc) (maxLocals := maxL) (ret := ret) hy ?_ ?_
  · intro args s m h hn
    obtain ⟨meth, c, h1, h2, h3, h4, h5, h6, -, -⟩ := Cond.code_spec hn (atoms_spec (ws := ws) h _ (by rw [hw]; exact List.mem_cons_self))
    exact ⟨meth, c, h1, h2, h3, h4, h5, h6⟩
  · intro p e s m args below meth c s₁ B hml hP _
    have hh0 : s₁.heap = s.heap := by rw [B.state]; rfl
    obtain ⟨t, a1, o, b1, b2, b3⟩ := body p e s m args below meth c s₁ B hml hP s₁ hh0 (Stand.of_body B)
    exact ⟨t, o, a1, b1, b2, ⟨b3.1, b3.2⟩⟩
set_option maxHeartbeats 4000000 in
set_option maxRecDepth 100000 in
theorem sj_isNaN (l : Launch) (b : UInt32) (hb0 : Op.cmpValue (FP.fcmp b b) .l = 0) : Met l yJxf58ca_isNaN_12338 (sj_ws yJxf58ca_isNaN_12338 cJxf58ca_isNaN_12338 1 (some .boolean)) (sj_rm 1) (va_Pc [.float b] (fun _ => True)) (sj_Q (some (.int 0))) 0 0 (fun _ => False) := by
  refine sj_ofW (cc := cJxf58ca_isNaN_12338) (maxL := 1) (ret := some .boolean) (by decide +kernel) rfl ?_
  intro p e s m args below meth c s₁ B hml hv
  obtain ⟨rfl, -⟩ := hv
  have hx := B.exec
  have hb := B.bytes
  have hr := B.returns
  have hlocks := B.notSynchronized
  have hl := lv_entry ([.float b]) (n := 1) (Nat.le_of_ble_eq_true rfl)
  rw [lg_entry_eq]
  generalize (lg_sl ([.float b]) ++ List.replicate (1 - (lg_sl ([.float b])).length) Slot.unset).toArray = ls at hl ⊢
  have hl : lv_has ls 1 [(0, .float b)] := hl
  refine lv_fload_n hx hb dJxf58ca_isNaN_12338_0 rfl (lv_at hl 0 rfl) ?_
  refine lv_fload_n hx hb dJxf58ca_isNaN_12338_1 rfl (lv_at hl 0 rfl) ?_
  refine lv_fcmp hx hb dJxf58ca_isNaN_12338_2 ?_
  rw [hb0]
  refine lv_if_eq (tgt := 10) hx hb dJxf58ca_isNaN_12338_3 (by decide) (fun _ => ?_) (fun q => absurd rfl q)
  refine lv_iconst (v := 0) hx hb dJxf58ca_isNaN_12338_10 (by decide) ?_
  exact W.zret (v := 0) (ty := .boolean) hx hb hr rfl (fun t ht hW => ⟨rfl, ht⟩) (fun q h => by cases h) dJxf58ca_isNaN_12338_11
set_option maxHeartbeats 4000000 in
set_option maxRecDepth 100000 in
theorem sj_bits (l : Launch) (b : UInt32) (hb0 : Op.cmpValue (FP.fcmp b b) .l = 0) : Met l yJxf58ca_floatToIntBits_5c35a (sj_ws yJxf58ca_floatToIntBits_5c35a cJxf58ca_floatToIntBits_5c35a 1 (some .int)) (sj_rm 2) (va_Pc [.float b] (fun _ => True)) (sj_Q (some (.int b.toInt32))) 0 0 (fun _ => False) := by
  refine sj_ofW (cc := cJxf58ca_floatToIntBits_5c35a) (maxL := 1) (ret := some .int) (by decide +kernel) rfl ?_
  intro p e s m args below meth c s₁ B hml hv
  obtain ⟨rfl, -⟩ := hv
  have hx := B.exec
  have hb := B.bytes
  have hr := B.returns
  have hlocks := B.notSynchronized
  have hown : s.vm.findClass RJxf58ca = some m.cls := findClass_of_methodNamed B.named
  have hts := sj_hts B
  have hl := lv_entry ([.float b]) (n := 1) (Nat.le_of_ble_eq_true rfl)
  rw [lg_entry_eq]
  generalize (lg_sl ([.float b]) ++ List.replicate (1 - (lg_sl ([.float b])).length) Slot.unset).toArray = ls at hl ⊢
  have hl : lv_has ls 1 [(0, .float b)] := hl
  refine lv_fload_n hx hb dJxf58ca_floatToIntBits_5c35a_0 rfl (lv_at hl 0 rfl) ?_
  refine sj_pure (a := #[.float b]) (rest := []) (v := some (.int 0)) (va_runS (As := [.float b]) ⟨hx, hb, hml, hown, hts⟩ (sj_isNaN l b hb0) ⟨⟨rfl, rfl, by decide, by decide, sj_wsin hts sj_fnc, List.mem_cons_self, hts _ (sj_gd sj_fnc rfl), hts _ (sj_gd sj_if rfl), ⟨by decide, by decide⟩, fun sig h => by cases h; rfl, hts _ (sj_gd sj_fnl rfl)⟩, hts _ (sj_gd sj_fns rfl)⟩ ⟨sj_blind0, fun U hU hW => ⟨rfl, trivial⟩⟩ rfl rfl hl.1 rfl (lv_room (by decide)) dJxf58ca_floatToIntBits_5c35a_1 ⟨Nat.zero_le _, Nat.zero_le _⟩) ?_
  refine lv_if_ne (tgt := 12) hx hb dJxf58ca_floatToIntBits_5c35a_4 (by decide) (fun q => absurd rfl q) (fun _ => ?_)
  refine lv_fload_n hx hb dJxf58ca_floatToIntBits_5c35a_7 rfl (lv_at hl 0 rfl) ?_
  refine vn_f2i hx hb (hml.trans hl.1.symm) hown (hts _ (sj_gd sj_frl rfl)) (hts _ (sj_gd sj_frn rfl)) (hts _ (sj_gd sj_frs rfl)) (hts _ (sj_gd sj_if rfl)) (by decide) (by decide) dJxf58ca_floatToIntBits_5c35a_8 ?_
  exact W.iret (v := b.toInt32) hx hb hr (fun t ht hW => ⟨rfl, ht⟩) (fun q h => by cases h) dJxf58ca_floatToIntBits_5c35a_11
set_option maxHeartbeats 4000000 in
set_option maxRecDepth 100000 in
theorem sj_ckP (l : Launch) (i n : Int32) (f : Value) (hf : f = .null ∨ ∃ a, f = .ref a) (h0 : ¬ i < 0) (h1 : i < n) : Met l yJ3_checkIndex_8e157 (sj_ws yJ3_checkIndex_8e157 cJ3_checkIndex_8e157 3 (some .int)) (sj_rm 1) (va_Pc [.int i, .int n, f] (fun _ => True)) (sj_Q (some (.int i))) 0 0 (fun _ => False) := by
  refine Met.ofW (cc := cJ3_checkIndex_8e157) (maxL := 3) (ret := some .int) (by decide) rfl ?_
  intro p e s m args below meth c s₁ B hml hv
  obtain ⟨rfl, -⟩ := hv
  have hx := B.exec
  have hb := B.bytes
  have hr := B.returns
  have hlocks := B.notSynchronized
  have hl : ∃ ls, lv_has ls 3 [(0, .int i), (1, .int n)] ∧ entryFrame m ([.int i, .int n, f] : List Value).toArray 3 = F0 m 0 ls [] := by
    rcases hf with rfl | ⟨a, rfl⟩
    · have hl := lv_entry ([.int i, .int n, .null]) (n := 3) (Nat.le_of_ble_eq_true rfl)
      rw [lg_entry_eq]
      exact ⟨_, lv_sub hl [0, 1] rfl, rfl⟩
    · have hl := lv_entry ([.int i, .int n, .ref a]) (n := 3) (Nat.le_of_ble_eq_true rfl)
      rw [lg_entry_eq]
      exact ⟨_, lv_sub hl [0, 1] rfl, rfl⟩
  obtain ⟨ls, hl, he⟩ := hl
  rw [he]
  refine lv_iload_n hx hb dJ3_checkIndex_8e157_0 rfl (lv_at hl 0 rfl) ?_
  refine lv_if_lt (tgt := 9) hx hb dJ3_checkIndex_8e157_1 (by decide) (fun q => absurd q h0) (fun _ => ?_)
  refine lv_iload_n hx hb dJ3_checkIndex_8e157_4 rfl (lv_at hl 0 rfl) ?_
  refine lv_iload_n hx hb dJ3_checkIndex_8e157_5 rfl (lv_at hl 1 rfl) ?_
  refine lv_icmp_lt (tgt := 16) hx hb dJ3_checkIndex_8e157_6 (by decide) (fun _ => ?_) (fun q => absurd h1 q)
  refine lv_iload_n hx hb dJ3_checkIndex_8e157_16 rfl (lv_at hl 0 rfl) ?_
  exact W.iret (v := i) hx hb hr (fun t ht hW => ⟨rfl, ht⟩) (fun q h => by cases h) dJ3_checkIndex_8e157_17
set_option maxHeartbeats 4000000 in
set_option maxRecDepth 100000 in
theorem sj_ckS (l : Launch) (i n : Int32) (h0 : ¬ i < 0) (h1 : i < n) : Met l yJ0_checkIndex_df160 (sj_ws yJ0_checkIndex_df160 cJ0_checkIndex_df160 2 none) (sj_rm 2) (va_Pc [.int i, .int n] (fun U => sg_X E bs ax adV U)) (sj_Q none) 0 0 (fun _ => False) := by
  refine Met.ofW (cc := cJ0_checkIndex_df160) (maxL := 2) (ret := none) (by decide) rfl ?_
  intro p e s m args below meth c s₁ B hml hv
  obtain ⟨rfl, hX⟩ := hv
  have hx := B.exec
  have hb := B.bytes
  have hr := B.returns
  have hlocks := B.notSynchronized
  have hown : s.vm.findClass RJ0 = some m.cls := findClass_of_methodNamed B.named
  have hts := sj_hts B
  have hl := lv_entry ([.int i, .int n]) (n := 2) (Nat.le_of_ble_eq_true rfl)
  rw [lg_entry_eq]
  generalize (lg_sl ([.int i, .int n]) ++ List.replicate (2 - (lg_sl ([.int i, .int n])).length) Slot.unset).toArray = ls at hl ⊢
  have hl : lv_has ls 2 [(0, .int i), (1, .int n)] := hl
  obtain ⟨-, -, -, -, -, -, -, v, hv, hZ⟩ := hX
  refine lv_iload_n hx hb dJ0_checkIndex_df160_0 rfl (lv_at hl 0 rfl) ?_
  refine lv_iload_n hx hb dJ0_checkIndex_df160_1 rfl (lv_at hl 1 rfl) ?_
  refine va_gets hx hb hZ va_S.rf hown (hts _ (sj_gd sj_f1053 rfl)) (fun _ h => h) dJ0_checkIndex_df160_2 ?_
  refine sj_pure (a := #[.int i, .int n, v]) (rest := []) (v := some (.int i)) (va_runS (As := [.int i, .int n, v]) ⟨hx, hb, hml, hown, hts⟩ (sj_ckP l i n v hv h0 h1) ⟨⟨rfl, rfl, by decide, by decide, sj_wsin hts sj_pcc, List.mem_cons_self, hts _ (sj_gd sj_pcc rfl), hts _ (sj_gd sj_i3 rfl), ⟨by decide, by decide⟩, fun sig h => by cases h; rfl, hts _ (sj_gd sj_pcl rfl)⟩, hts _ (sj_gd sj_pcs rfl)⟩ ⟨sj_blind0, fun U hU hW => ⟨rfl, trivial⟩⟩ rfl rfl hl.1 rfl (lv_room (by decide)) dJ0_checkIndex_df160_5 ⟨Nat.zero_le _, Nat.zero_le _⟩) ?_
  refine lv_pop hx hb dJ0_checkIndex_df160_8 rfl ?_
  exact W.vret hx hb hr (fun t ht hW => ⟨rfl, ht⟩) (fun q h => by cases h) dJ0_checkIndex_df160_9
theorem sj_ch : ∀ j, j < 2 → ∀ k, k < 4 → ((((([[98, 116, 66, 84], [117, 114, 100, 108]] : List (List Int32)).getD j []).getD k 0) &&& 255).toUInt32 % 65536).toInt32 = Int32.ofInt (ag_str (j + 1) k) ∧ narrow .char (.int (Int32.ofInt (ag_str (j + 1) k))) = .int (Int32.ofInt (ag_str (j + 1) k)) := by decide +kernel
set_option maxHeartbeats 4000000 in
set_option maxRecDepth 100000 in
theorem sj_chL (l : Launch) (j k : Nat) (hj : j < 2) (hk : k < 4) : Met l yJ1_charAt_3b067 (sj_ws yJ1_charAt_3b067 cJ1_charAt_3b067 2 (some .char)) (sj_rm 3) (va_Pc [.ref (adV j), .int (nI k)] (fun U => sg_X E bs ax adV U)) (sj_Q (some (.int (Int32.ofInt (ag_str (j + 1) k))))) 0 0 (fun _ => False) := by
  refine Met.ofW (cc := cJ1_charAt_3b067) (maxL := 2) (ret := some .char) (by decide) rfl ?_
  intro p e s m args below meth c s₁ B hml hv
  obtain ⟨rfl, hX⟩ := hv
  have hx := B.exec
  have hb := B.bytes
  have hr := B.returns
  have hlocks := B.notSynchronized
  have hown : s.vm.findClass RJ1 = some m.cls := findClass_of_methodNamed B.named
  have hts := sj_hts B
  have hl := lv_entry ([.ref (adV j), .int (nI k)]) (n := 2) (Nat.le_of_ble_eq_true rfl)
  rw [lg_entry_eq]
  generalize (lg_sl ([.ref (adV j), .int (nI k)]) ++ List.replicate (2 - (lg_sl ([.ref (adV j), .int (nI k)])).length) Slot.unset).toArray = ls at hl ⊢
  have hl : lv_has ls 2 [(0, .ref (adV j)), (1, .int (nI k))] := hl
  have hS := hX.2.2.2.1
  have hT := (hS.1 j hj).2.2.2
  have hlen : ([4, 4] : List Nat).getD j 0 = 4 := (show ∀ j, j < 2 → ([4, 4] : List Nat).getD j 0 = 4 by decide) j hj
  rw [hlen] at hT
  refine lv_iload_n hx hb dJ1_charAt_3b067_0 rfl (lv_at hl 1 rfl) ?_
  refine lv_aload_n hx hb dJ1_charAt_3b067_1 rfl (lv_at hl 0 rfl) ?_
  refine va_tlen hx hb hT va_S.rf (v := 4) rfl dJ1_charAt_3b067_2 ?_
  refine sj_pure (a := #[.int (nI k), .int 4]) (rest := []) (v := none) (va_runS (As := [.int (nI k), .int 4]) ⟨hx, hb, hml, hown, hts⟩ (sj_ckS (E := E) (bs := bs) (ax := ax) (adV := adV) l (nI k) 4 (nI_pos (by omega)) (nI_lt (b := 4) hk (by decide))) ⟨⟨rfl, rfl, by decide, by decide, sj_wsin hts sj_scc, List.mem_cons_self, hts _ (sj_gd sj_scc rfl), hts _ (sj_gd sj_i0 rfl), ⟨by decide, by decide⟩, fun sig h => by cases h; rfl, hts _ (sj_gd sj_scl rfl)⟩, hts _ (sj_gd sj_scs rfl)⟩ ⟨sj_blind, fun U hU hW => ⟨rfl, sj_X0 hX U hU hW⟩⟩ rfl rfl hl.1 rfl (lv_room (by decide)) dJ1_charAt_3b067_3 ⟨Nat.zero_le _, Nat.zero_le _⟩) ?_
  refine lv_aload_n hx hb dJ1_charAt_3b067_6 rfl (lv_at hl 0 rfl) ?_
  refine lv_iload_n hx hb dJ1_charAt_3b067_7 rfl (lv_at hl 1 rfl) ?_
  refine va_tb hx hb hT va_S.rf (vp_in_nI hk (by decide)) rfl dJ1_charAt_3b067_8 ?_
  refine lv_sipush (v := 255) hx hb dJ1_charAt_3b067_9 (by decide) ?_
  refine lv_iand hx hb dJ1_charAt_3b067_12 ?_
  refine lv_i2c hx hb dJ1_charAt_3b067_13 (v := Int32.ofInt (ag_str (j + 1) k)) (by rw [nI_clamp (by omega)]; exact (sj_ch j hj k hk).1) ?_
  exact W.zret (v := Int32.ofInt (ag_str (j + 1) k)) (ty := .char) hx hb hr (sj_ch j hj k hk).2 (fun t ht hW => ⟨rfl, ht⟩) (fun q h => by cases h) dJ1_charAt_3b067_14
set_option maxHeartbeats 4000000 in
set_option maxRecDepth 100000 in
theorem sj_il (l : Launch) (j : Nat) (hj : j < 2) : Met l yJ0_isLatin1_aae02 (sj_ws yJ0_isLatin1_aae02 cJ0_isLatin1_aae02 1 (some .boolean)) (sj_rm 1) (va_Pc [.ref (ax (j + 1))] (fun U => sg_X E bs ax adV U)) (sj_Q (some (.int 1))) 0 0 (fun _ => False) := by
  refine Met.ofW (cc := cJ0_isLatin1_aae02) (maxL := 1) (ret := some .boolean) (by decide) rfl ?_
  intro p e s m args below meth c s₁ B hml hv
  obtain ⟨rfl, hX⟩ := hv
  have hx := B.exec
  have hb := B.bytes
  have hr := B.returns
  have hlocks := B.notSynchronized
  have hown : s.vm.findClass RJ0 = some m.cls := findClass_of_methodNamed B.named
  have hts := sj_hts B
  have hl := lv_entry ([.ref (ax (j + 1))]) (n := 1) (Nat.le_of_ble_eq_true rfl)
  rw [lg_entry_eq]
  generalize (lg_sl ([.ref (ax (j + 1))]) ++ List.replicate (1 - (lg_sl ([.ref (ax (j + 1))])).length) Slot.unset).toArray = ls at hl ⊢
  have hl : lv_has ls 1 [(0, .ref (ax (j + 1)))] := hl
  obtain ⟨-, -, -, hS, -, -, hZ, -⟩ := hX
  refine va_gets hx hb hZ va_S.rf hown (hts _ (sj_gd sj_f38 rfl)) (fun _ h => h) dJ0_isLatin1_aae02_0 ?_
  refine lv_if_eq (tgt := 17) hx hb dJ0_isLatin1_aae02_3 (by decide) (fun q => absurd q (by decide)) (fun _ => ?_)
  refine lv_aload_n hx hb dJ0_isLatin1_aae02_6 rfl (lv_at hl 0 rfl) ?_
  refine vk_getf hx hb (hS.1 j hj).2.1 va_S.rf hown (hts _ (sj_gd sj_f15 rfl)) (fun _ h => h) dJ0_isLatin1_aae02_7 ?_
  refine lv_if_ne (tgt := 17) hx hb dJ0_isLatin1_aae02_10 (by decide) (fun q => absurd rfl q) (fun _ => ?_)
  refine lv_iconst (v := 1) hx hb dJ0_isLatin1_aae02_13 (by decide) ?_
  refine lv_goto (tgt := 18) hx hb dJ0_isLatin1_aae02_14 (by decide) ?_
  exact W.zret (v := 1) (ty := .boolean) hx hb hr rfl (fun t ht hW => ⟨rfl, ht⟩) (fun q h => by cases h) dJ0_isLatin1_aae02_18
set_option maxHeartbeats 4000000 in
set_option maxRecDepth 100000 in
theorem sj_chS (l : Launch) (j k : Nat) (hj : j < 2) (hk : k < 4) : Met l yJ0_charAt_5068e (sj_ws yJ0_charAt_5068e cJ0_charAt_5068e 2 (some .char)) (sj_rm 4) (va_Pc [.ref (ax (j + 1)), .int (nI k)] (fun U => sg_X E bs ax adV U)) (sj_Q (some (.int (Int32.ofInt (ag_str (j + 1) k))))) 0 0 (fun _ => False) := by
  refine Met.ofW (cc := cJ0_charAt_5068e) (maxL := 2) (ret := some .char) (by decide) rfl ?_
  intro p e s m args below meth c s₁ B hml hv
  obtain ⟨rfl, hX⟩ := hv
  have hx := B.exec
  have hb := B.bytes
  have hr := B.returns
  have hlocks := B.notSynchronized
  have hown : s.vm.findClass RJ0 = some m.cls := findClass_of_methodNamed B.named
  have hts := sj_hts B
  have hl := lv_entry ([.ref (ax (j + 1)), .int (nI k)]) (n := 2) (Nat.le_of_ble_eq_true rfl)
  rw [lg_entry_eq]
  generalize (lg_sl ([.ref (ax (j + 1)), .int (nI k)]) ++ List.replicate (2 - (lg_sl ([.ref (ax (j + 1)), .int (nI k)])).length) Slot.unset).toArray = ls at hl ⊢
  have hl : lv_has ls 2 [(0, .ref (ax (j + 1))), (1, .int (nI k))] := hl
  have hS := hX.2.2.2.1
  refine lv_aload_n hx hb dJ0_charAt_5068e_0 rfl (lv_at hl 0 rfl) ?_
  refine sj_pure (a := #[.ref (ax (j + 1))]) (rest := []) (v := some (.int 1)) (va_runV (C := RJ0) (b := ax (j + 1)) (As := []) ⟨hx, hb, hml, hown, hts⟩ (sj_il (E := E) (bs := bs) (ax := ax) (adV := adV) l j hj) ⟨⟨rfl, rfl, by decide, by decide, sj_wsin hts sj_ilc, List.mem_cons_self, hts _ (sj_gd sj_ilc rfl), hts _ (sj_gd sj_i0 rfl), ⟨by decide, by decide⟩, fun sig h => by cases h; rfl, hts _ (sj_gd sj_ill rfl)⟩, hts _ (sj_gd sj_ili rfl), hts _ (sj_gd sj_ils rfl)⟩ ⟨sj_blind, vk_recv (i := j) hS hj va_S.rf, fun U hU hW => ⟨rfl, sj_X0 hX U hU hW⟩⟩ rfl rfl hl.1 rfl (lv_room (by decide)) dJ0_charAt_5068e_1 ⟨Nat.zero_le _, Nat.zero_le _⟩) ?_
  refine lv_if_eq (tgt := 16) hx hb dJ0_charAt_5068e_4 (by decide) (fun q => absurd q (by decide)) (fun _ => ?_)
  refine lv_aload_n hx hb dJ0_charAt_5068e_7 rfl (lv_at hl 0 rfl) ?_
  refine vk_getf hx hb (hS.1 j hj).2.2.1 va_S.rf hown (hts _ (sj_gd sj_f9 rfl)) (fun _ h => h) dJ0_charAt_5068e_8 ?_
  refine lv_iload_n hx hb dJ0_charAt_5068e_11 rfl (lv_at hl 1 rfl) ?_
  refine sj_pure (a := #[.ref (adV j), .int (nI k)]) (rest := []) (v := some (.int (Int32.ofInt (ag_str (j + 1) k)))) (va_runS (As := [.ref (adV j), .int (nI k)]) ⟨hx, hb, hml, hown, hts⟩ (sj_chL (E := E) (bs := bs) (ax := ax) (adV := adV) l j k hj hk) ⟨⟨rfl, rfl, by decide, by decide, sj_wsin hts sj_lcc, List.mem_cons_self, hts _ (sj_gd sj_lcc rfl), hts _ (sj_gd sj_i1 rfl), ⟨by decide, by decide⟩, fun sig h => by cases h; rfl, hts _ (sj_gd sj_lcl rfl)⟩, hts _ (sj_gd sj_lcs rfl)⟩ ⟨sj_blind, fun U hU hW => ⟨rfl, sj_X0 hX U hU hW⟩⟩ rfl rfl hl.1 rfl (lv_room (by decide)) dJ0_charAt_5068e_12 ⟨Nat.zero_le _, Nat.zero_le _⟩) ?_
  exact W.zret (v := Int32.ofInt (ag_str (j + 1) k)) (ty := .char) hx hb hr (sj_ch j hj k hk).2 (fun t ht hW => ⟨rfl, ht⟩) (fun q h => by cases h) dJ0_charAt_5068e_15
end SJ

