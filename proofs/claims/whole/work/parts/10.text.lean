/-! the class's text: String.length and charAt on it -/
theorem dJ0_length_8abf5_0 : decode cJ0_length_8abf5 0 = .ok (.aload_n 0, 1) := by decide +kernel
theorem dJ0_length_8abf5_1 : decode cJ0_length_8abf5 1 = .ok (.getfield 9, 3) := by decide +kernel
theorem dJ0_length_8abf5_4 : decode cJ0_length_8abf5 4 = .ok (.arraylength, 1) := by decide +kernel
theorem dJ0_length_8abf5_5 : decode cJ0_length_8abf5 5 = .ok (.aload_n 0, 1) := by decide +kernel
theorem dJ0_length_8abf5_6 : decode cJ0_length_8abf5 6 = .ok (.invokevirtual 335, 3) := by decide +kernel
theorem dJ0_length_8abf5_9 : decode cJ0_length_8abf5 9 = .ok (.ishr, 1) := by decide +kernel
theorem dJ0_length_8abf5_10 : decode cJ0_length_8abf5 10 = .ok (.ireturn, 1) := by decide +kernel
theorem dJ0_charAt_5068e_0 : decode cJ0_charAt_5068e 0 = .ok (.aload_n 0, 1) := by decide +kernel
theorem dJ0_charAt_5068e_1 : decode cJ0_charAt_5068e 1 = .ok (.invokevirtual 492, 3) := by decide +kernel
theorem dJ0_charAt_5068e_4 : decode cJ0_charAt_5068e 4 = .ok (.ifCond .eq 12, 3) := by decide +kernel
theorem dJ0_charAt_5068e_7 : decode cJ0_charAt_5068e 7 = .ok (.aload_n 0, 1) := by decide +kernel
theorem dJ0_charAt_5068e_8 : decode cJ0_charAt_5068e 8 = .ok (.getfield 9, 3) := by decide +kernel
theorem dJ0_charAt_5068e_11 : decode cJ0_charAt_5068e 11 = .ok (.iload_n 1, 1) := by decide +kernel
theorem dJ0_charAt_5068e_12 : decode cJ0_charAt_5068e 12 = .ok (.invokestatic 495, 3) := by decide +kernel
theorem dJ0_charAt_5068e_15 : decode cJ0_charAt_5068e 15 = .ok (.ireturn, 1) := by decide +kernel
theorem dJ0_charAt_5068e_16 : decode cJ0_charAt_5068e 16 = .ok (.aload_n 0, 1) := by decide +kernel
theorem dJ0_charAt_5068e_17 : decode cJ0_charAt_5068e 17 = .ok (.getfield 9, 3) := by decide +kernel
theorem dJ0_charAt_5068e_20 : decode cJ0_charAt_5068e 20 = .ok (.iload_n 1, 1) := by decide +kernel
theorem dJ0_charAt_5068e_21 : decode cJ0_charAt_5068e 21 = .ok (.invokestatic 498, 3) := by decide +kernel
theorem dJ0_charAt_5068e_24 : decode cJ0_charAt_5068e 24 = .ok (.ireturn, 1) := by decide +kernel
theorem dJ0_coder_7d493_0 : decode cJ0_coder_7d493 0 = .ok (.getstatic 38, 3) := by decide +kernel
theorem dJ0_coder_7d493_3 : decode cJ0_coder_7d493 3 = .ok (.ifCond .eq 10, 3) := by decide +kernel
theorem dJ0_coder_7d493_6 : decode cJ0_coder_7d493 6 = .ok (.aload_n 0, 1) := by decide +kernel
theorem dJ0_coder_7d493_7 : decode cJ0_coder_7d493 7 = .ok (.getfield 15, 3) := by decide +kernel
theorem dJ0_coder_7d493_10 : decode cJ0_coder_7d493 10 = .ok (.goto 4, 3) := by decide +kernel
theorem dJ0_coder_7d493_13 : decode cJ0_coder_7d493 13 = .ok (.iconst 1, 1) := by decide +kernel
theorem dJ0_coder_7d493_14 : decode cJ0_coder_7d493 14 = .ok (.ireturn, 1) := by decide +kernel
theorem dJ0_isLatin1_aae02_0 : decode cJ0_isLatin1_aae02 0 = .ok (.getstatic 38, 3) := by decide +kernel
theorem dJ0_isLatin1_aae02_3 : decode cJ0_isLatin1_aae02 3 = .ok (.ifCond .eq 14, 3) := by decide +kernel
theorem dJ0_isLatin1_aae02_6 : decode cJ0_isLatin1_aae02 6 = .ok (.aload_n 0, 1) := by decide +kernel
theorem dJ0_isLatin1_aae02_7 : decode cJ0_isLatin1_aae02 7 = .ok (.getfield 15, 3) := by decide +kernel
theorem dJ0_isLatin1_aae02_10 : decode cJ0_isLatin1_aae02 10 = .ok (.ifCond .ne 7, 3) := by decide +kernel
theorem dJ0_isLatin1_aae02_13 : decode cJ0_isLatin1_aae02 13 = .ok (.iconst 1, 1) := by decide +kernel
theorem dJ0_isLatin1_aae02_14 : decode cJ0_isLatin1_aae02 14 = .ok (.goto 4, 3) := by decide +kernel
theorem dJ0_isLatin1_aae02_17 : decode cJ0_isLatin1_aae02 17 = .ok (.iconst 0, 1) := by decide +kernel
theorem dJ0_isLatin1_aae02_18 : decode cJ0_isLatin1_aae02 18 = .ok (.ireturn, 1) := by decide +kernel
theorem dJ0_checkIndex_df160_0 : decode cJ0_checkIndex_df160 0 = .ok (.iload_n 0, 1) := by decide +kernel
theorem dJ0_checkIndex_df160_1 : decode cJ0_checkIndex_df160 1 = .ok (.iload_n 1, 1) := by decide +kernel
theorem dJ0_checkIndex_df160_2 : decode cJ0_checkIndex_df160 2 = .ok (.getstatic 1053, 3) := by decide +kernel
theorem dJ0_checkIndex_df160_5 : decode cJ0_checkIndex_df160 5 = .ok (.invokestatic 1059, 3) := by decide +kernel
theorem dJ0_checkIndex_df160_8 : decode cJ0_checkIndex_df160 8 = .ok (.pop, 1) := by decide +kernel
theorem dJ0_checkIndex_df160_9 : decode cJ0_checkIndex_df160 9 = .ok (.return_, 1) := by decide +kernel
theorem dJ1_charAt_3b067_0 : decode cJ1_charAt_3b067 0 = .ok (.iload_n 1, 1) := by decide +kernel
theorem dJ1_charAt_3b067_1 : decode cJ1_charAt_3b067 1 = .ok (.aload_n 0, 1) := by decide +kernel
theorem dJ1_charAt_3b067_2 : decode cJ1_charAt_3b067 2 = .ok (.arraylength, 1) := by decide +kernel
theorem dJ1_charAt_3b067_3 : decode cJ1_charAt_3b067 3 = .ok (.invokestatic 9, 3) := by decide +kernel
theorem dJ1_charAt_3b067_6 : decode cJ1_charAt_3b067 6 = .ok (.aload_n 0, 1) := by decide +kernel
theorem dJ1_charAt_3b067_7 : decode cJ1_charAt_3b067 7 = .ok (.iload_n 1, 1) := by decide +kernel
theorem dJ1_charAt_3b067_8 : decode cJ1_charAt_3b067 8 = .ok (.baload, 1) := by decide +kernel
theorem dJ1_charAt_3b067_9 : decode cJ1_charAt_3b067 9 = .ok (.sipush 255, 3) := by decide +kernel
theorem dJ1_charAt_3b067_12 : decode cJ1_charAt_3b067 12 = .ok (.iand, 1) := by decide +kernel
theorem dJ1_charAt_3b067_13 : decode cJ1_charAt_3b067 13 = .ok (.i2c, 1) := by decide +kernel
theorem dJ1_charAt_3b067_14 : decode cJ1_charAt_3b067 14 = .ok (.ireturn, 1) := by decide +kernel
theorem dJ3_checkIndex_8e157_0 : decode cJ3_checkIndex_8e157 0 = .ok (.iload_n 0, 1) := by decide +kernel
theorem dJ3_checkIndex_8e157_1 : decode cJ3_checkIndex_8e157 1 = .ok (.ifCond .lt 8, 3) := by decide +kernel
theorem dJ3_checkIndex_8e157_4 : decode cJ3_checkIndex_8e157 4 = .ok (.iload_n 0, 1) := by decide +kernel
theorem dJ3_checkIndex_8e157_5 : decode cJ3_checkIndex_8e157 5 = .ok (.iload_n 1, 1) := by decide +kernel
theorem dJ3_checkIndex_8e157_6 : decode cJ3_checkIndex_8e157 6 = .ok (.if_icmp .lt 10, 3) := by decide +kernel
theorem dJ3_checkIndex_8e157_9 : decode cJ3_checkIndex_8e157 9 = .ok (.aload_n 2, 1) := by decide +kernel
theorem dJ3_checkIndex_8e157_10 : decode cJ3_checkIndex_8e157 10 = .ok (.iload_n 0, 1) := by decide +kernel
theorem dJ3_checkIndex_8e157_11 : decode cJ3_checkIndex_8e157 11 = .ok (.iload_n 1, 1) := by decide +kernel
theorem dJ3_checkIndex_8e157_12 : decode cJ3_checkIndex_8e157 12 = .ok (.invokestatic 95, 3) := by decide +kernel
theorem dJ3_checkIndex_8e157_15 : decode cJ3_checkIndex_8e157 15 = .ok (.athrow, 1) := by decide +kernel
theorem dJ3_checkIndex_8e157_16 : decode cJ3_checkIndex_8e157 16 = .ok (.iload_n 0, 1) := by decide +kernel
theorem dJ3_checkIndex_8e157_17 : decode cJ3_checkIndex_8e157 17 = .ok (.ireturn, 1) := by decide +kernel
def am_rs (k : Nat) : Room := { frames := k, cells := 0, slots := 0, locals := 50 * k }
def am_PS (A : Nat → Prop) (ts : Nat → Nat) (vs : List Value) : Array Value → State → Prop := va_Pc vs (fun U => am_SE A ts U U.heap)
theorem am_PS_b (A : Nat → Prop) (ts : Nat → Nat) (vs : List Value) : FrameBlind (am_PS A ts vs) := fun a U g mk q => ⟨q.1, am_SE.same (U := U.calling g mk a) q.2 rfl⟩
theorem am_PS_p {A : Nat → Prop} {ts : Nat → Nat} {s : State} (h : am_SE A ts s s.heap) (vs : List Value) : ∀ U : State, U.heap = s.heap → s.WarmedH U.vm → am_PS A ts vs vs.toArray U := fun U hU hW => ⟨rfl, by show am_SE A ts U U.heap; rw [hU]; exact h.go hW (fun _ _ _ => rfl)⟩
def am_QV : Array Value → State → Outcome → State → Prop := fun _ st o t => o = .returned none ∧ t.heap = st.heap
theorem am_xw_self : GoodIn am_xw am_xw := fun w h => ⟨h, (am_xw_g w h).2⟩
theorem am_xw_cons {w : Cond} (hw : w ∈ am_xw) : GoodIn am_xw (w :: am_xw) := fun v hv => (List.mem_cons.mp hv).elim (fun e => by rw [e]; exact am_xw_self _ hw) (am_xw_self v)

theorem xw_0 : (.arrayClass .int : Cond) ∈ am_xw := List.mem_of_getElem? (i := 0) rfl
theorem xw_1 : (.arrayClass .char : Cond) ∈ am_xw := List.mem_of_getElem? (i := 1) rfl
theorem xw_2 : (.arrayClass .byte : Cond) ∈ am_xw := List.mem_of_getElem? (i := 2) rfl
theorem xw_3 : (.fieldLink RX8 284 RX8 "POINTING" "[I" : Cond) ∈ am_xw := List.mem_of_getElem? (i := 3) rfl
theorem xw_4 : (.initialized RX8 : Cond) ∈ am_xw := List.mem_of_getElem? (i := 4) rfl
theorem xw_5 : (.initialized RJ0 : Cond) ∈ am_xw := List.mem_of_getElem? (i := 5) rfl
theorem xw_6 : (.initialized RJ1 : Cond) ∈ am_xw := List.mem_of_getElem? (i := 6) rfl
theorem xw_7 : (.initialized RJ3 : Cond) ∈ am_xw := List.mem_of_getElem? (i := 7) rfl
theorem xw_8 : (.methodLink RX8 70 yJ0_length_8abf5 : Cond) ∈ am_xw := List.mem_of_getElem? (i := 8) rfl
theorem xw_9 : (.instanceMethod yJ0_length_8abf5 : Cond) ∈ am_xw := List.mem_of_getElem? (i := 9) rfl
theorem xw_10 : (.selects RJ0 yJ0_length_8abf5 yJ0_length_8abf5 : Cond) ∈ am_xw := List.mem_of_getElem? (i := 10) rfl
theorem xw_11 : (.code yJ0_length_8abf5 cJ0_length_8abf5 1 (some .int) : Cond) ∈ am_xw := List.mem_of_getElem? (i := 11) rfl
theorem xw_12 : (.methodLink RX8 76 yJ0_charAt_5068e : Cond) ∈ am_xw := List.mem_of_getElem? (i := 12) rfl
theorem xw_13 : (.instanceMethod yJ0_charAt_5068e : Cond) ∈ am_xw := List.mem_of_getElem? (i := 13) rfl
theorem xw_14 : (.selects RJ0 yJ0_charAt_5068e yJ0_charAt_5068e : Cond) ∈ am_xw := List.mem_of_getElem? (i := 14) rfl
theorem xw_15 : (.code yJ0_charAt_5068e cJ0_charAt_5068e 2 (some .char) : Cond) ∈ am_xw := List.mem_of_getElem? (i := 15) rfl
theorem xw_16 : (.methodLink RJ0 335 yJ0_coder_7d493 : Cond) ∈ am_xw := List.mem_of_getElem? (i := 16) rfl
theorem xw_17 : (.instanceMethod yJ0_coder_7d493 : Cond) ∈ am_xw := List.mem_of_getElem? (i := 17) rfl
theorem xw_18 : (.selects RJ0 yJ0_coder_7d493 yJ0_coder_7d493 : Cond) ∈ am_xw := List.mem_of_getElem? (i := 18) rfl
theorem xw_19 : (.code yJ0_coder_7d493 cJ0_coder_7d493 1 (some .byte) : Cond) ∈ am_xw := List.mem_of_getElem? (i := 19) rfl
theorem xw_20 : (.methodLink RJ0 492 yJ0_isLatin1_aae02 : Cond) ∈ am_xw := List.mem_of_getElem? (i := 20) rfl
theorem xw_21 : (.instanceMethod yJ0_isLatin1_aae02 : Cond) ∈ am_xw := List.mem_of_getElem? (i := 21) rfl
theorem xw_22 : (.selects RJ0 yJ0_isLatin1_aae02 yJ0_isLatin1_aae02 : Cond) ∈ am_xw := List.mem_of_getElem? (i := 22) rfl
theorem xw_23 : (.code yJ0_isLatin1_aae02 cJ0_isLatin1_aae02 1 (some .boolean) : Cond) ∈ am_xw := List.mem_of_getElem? (i := 23) rfl
theorem xw_24 : (.methodLink RJ0 495 yJ1_charAt_3b067 : Cond) ∈ am_xw := List.mem_of_getElem? (i := 24) rfl
theorem xw_25 : (.static yJ1_charAt_3b067 : Cond) ∈ am_xw := List.mem_of_getElem? (i := 25) rfl
theorem xw_26 : (.code yJ1_charAt_3b067 cJ1_charAt_3b067 2 (some .char) : Cond) ∈ am_xw := List.mem_of_getElem? (i := 26) rfl
theorem xw_27 : (.methodLink RJ1 9 yJ0_checkIndex_df160 : Cond) ∈ am_xw := List.mem_of_getElem? (i := 27) rfl
theorem xw_28 : (.static yJ0_checkIndex_df160 : Cond) ∈ am_xw := List.mem_of_getElem? (i := 28) rfl
theorem xw_29 : (.code yJ0_checkIndex_df160 cJ0_checkIndex_df160 2 none : Cond) ∈ am_xw := List.mem_of_getElem? (i := 29) rfl
theorem xw_30 : (.methodLink RJ0 1059 yJ3_checkIndex_8e157 : Cond) ∈ am_xw := List.mem_of_getElem? (i := 30) rfl
theorem xw_31 : (.static yJ3_checkIndex_8e157 : Cond) ∈ am_xw := List.mem_of_getElem? (i := 31) rfl
theorem xw_32 : (.code yJ3_checkIndex_8e157 cJ3_checkIndex_8e157 3 (some .int) : Cond) ∈ am_xw := List.mem_of_getElem? (i := 32) rfl
theorem xw_33 : (.fieldLink RJ0 9 "java/lang/String" "value" "[B" : Cond) ∈ am_xw := List.mem_of_getElem? (i := 33) rfl
theorem xw_34 : (.fieldLink RJ0 38 "java/lang/String" "COMPACT_STRINGS" "Z" : Cond) ∈ am_xw := List.mem_of_getElem? (i := 34) rfl
theorem xw_35 : (.fieldLink RJ0 15 "java/lang/String" "coder" "B" : Cond) ∈ am_xw := List.mem_of_getElem? (i := 35) rfl
theorem xw_36 : (.fieldLink RJ0 1053 "jdk/internal/util/Preconditions" "SIOOBE_FORMATTER" "Ljava/util/function/BiFunction;" : Cond) ∈ am_xw := List.mem_of_getElem? (i := 36) rfl
set_option maxRecDepth 100000 in
set_option maxHeartbeats 4000000 in
theorem am_coder (l : Launch) (A : Nat → Prop) (ts : Nat → Nat) : Met l yJ0_coder_7d493 (.code yJ0_coder_7d493 cJ0_coder_7d493 1 (some .byte) :: am_xw) (am_rs 1) (am_PS A ts ([.ref (ts 3)])) (vp_Si (fun r => r = 0)) 0 0 (fun _ => False) := by
  refine Met.ofW (cc := cJ0_coder_7d493) (maxL := 1) (ret := (some .byte)) (by decide) rfl ?_
  intro p e s m args below meth c s₁ B hml hv
  obtain ⟨rfl, hSE⟩ := hv
  have hx := B.exec
  have hb := B.bytes
  have hr := B.returns
  have hts0 := atoms_spec (ws := .code yJ0_coder_7d493 cJ0_coder_7d493 1 (some .byte) :: am_xw) B.pre
  have hts : ∀ w ∈ am_xw, w.before _ s = true := fun w h => hts0 w (List.mem_cons_of_mem _ h)
  have hown : s.vm.findClass RJ0 = some m.cls := findClass_of_methodNamed B.named
  have hlocks := B.notSynchronized
  have hS : va_S A s.heap s.heap [] := va_S.rf
  have hl := lv_entry ([.ref (ts 3)]) (n := 1) (Nat.le_of_ble_eq_true rfl)
  rw [lg_entry_eq]
  generalize (lg_sl ([.ref (ts 3)]) ++ List.replicate (1 - (lg_sl ([.ref (ts 3)])).length) Slot.unset).toArray = ls at hl ⊢
  have hl : lv_has ls 1 ([(0, .ref (ts 3))]) := hl
  have hStr := hSE.2.2.2.2.2.1.1 0 (by decide)
  refine va_gets hx hb hSE.2.2.2.2.2.2.1 hS hown (hts _ xw_34) (fun x h => h) dJ0_coder_7d493_0 ?_
  refine lv_if_eq (tgt := 13) hx hb dJ0_coder_7d493_3 (by decide) (fun h => absurd h (by decide)) (fun _ => ?_)
  refine lv_aload_n hx hb dJ0_coder_7d493_6 rfl (lv_at hl 0 rfl) ?_
  refine vk_getf hx hb hStr.2.1 hS hown (hts _ xw_35) (fun x h => h) dJ0_coder_7d493_7 ?_
  refine lv_goto (tgt := 14) hx hb dJ0_coder_7d493_10 (by decide) ?_
  exact W.zret (ty := .byte) hx hb hr rfl (fun t ht _ => ⟨0, rfl, rfl, ht⟩) (fun _ h => by cases h) dJ0_coder_7d493_14
set_option maxRecDepth 100000 in
set_option maxHeartbeats 4000000 in
theorem am_length (l : Launch) (A : Nat → Prop) (ts : Nat → Nat) : Met l yJ0_length_8abf5 (.code yJ0_length_8abf5 cJ0_length_8abf5 1 (some .int) :: am_xw) (am_rs 2) (am_PS A ts ([.ref (ts 3)])) (vp_Si (fun r => r = 35)) 0 0 (fun _ => False) := by
  refine Met.ofW (cc := cJ0_length_8abf5) (maxL := 1) (ret := (some .int)) (by decide) rfl ?_
  intro p e s m args below meth c s₁ B hml hv
  obtain ⟨rfl, hSE⟩ := hv
  have hx := B.exec
  have hb := B.bytes
  have hr := B.returns
  have hts0 := atoms_spec (ws := .code yJ0_length_8abf5 cJ0_length_8abf5 1 (some .int) :: am_xw) B.pre
  have hts : ∀ w ∈ am_xw, w.before _ s = true := fun w h => hts0 w (List.mem_cons_of_mem _ h)
  have hown : s.vm.findClass RJ0 = some m.cls := findClass_of_methodNamed B.named
  have hlocks := B.notSynchronized
  have hS : va_S A s.heap s.heap [] := va_S.rf
  have hl := lv_entry ([.ref (ts 3)]) (n := 1) (Nat.le_of_ble_eq_true rfl)
  rw [lg_entry_eq]
  generalize (lg_sl ([.ref (ts 3)]) ++ List.replicate (1 - (lg_sl ([.ref (ts 3)])).length) Slot.unset).toArray = ls at hl ⊢
  have hl : lv_has ls 1 ([(0, .ref (ts 3))]) := hl
  have hStr := hSE.2.2.2.2.2.1.1 0 (by decide)
  refine lv_aload_n hx hb dJ0_length_8abf5_0 rfl (lv_at hl 0 rfl) ?_
  refine vk_getf hx hb hStr.2.2.1 hS hown (hts _ xw_33) (fun x h => h) dJ0_length_8abf5_1 ?_
  refine va_tlen hx hb hStr.2.2.2 hS (v := 35) rfl dJ0_length_8abf5_4 ?_
  refine lv_aload_n hx hb dJ0_length_8abf5_5 rfl (lv_at hl 0 rfl) ?_
  refine W.callX ((W.runV (As := []) (rest := [.int 35]) ⟨hx, hb, hml, hown, hts⟩ (am_coder l A ts) ⟨callB_of 0 hts (am_xw_cons xw_19) rfl rfl rfl (hts _ xw_5) (hts _ xw_16) (by decide +kernel) ⟨Nat.le_of_ble_eq_true rfl, Nat.le_of_ble_eq_true rfl⟩, hts _ xw_17, hts _ xw_18⟩ ⟨am_PS_b A ts _, vk_recv hSE.2.2.2.2.2.1 (i := 0) (by decide) hS, am_PS_p hSE _⟩ rfl rfl hl.1 rfl (lv_room (Nat.le_of_ble_eq_true rfl)) dJ0_length_8abf5_6 ⟨Nat.le_refl _, Nat.le_refl _⟩)) (fun _ h => h.elim) (fun v st₀ t hst hq => ?_)
  obtain ⟨r9, hv, rfl, hh⟩ := hq
  cases hv
  rw [hh, hst]
  refine lv_ishr hx hb dJ0_length_8abf5_9 ?_
  exact W.iret hx hb hr (fun t ht _ => ⟨_, rfl, by decide, ht⟩) (fun _ h => by cases h) dJ0_length_8abf5_10
set_option maxRecDepth 100000 in
set_option maxHeartbeats 4000000 in
theorem am_latin (l : Launch) (A : Nat → Prop) (ts : Nat → Nat) : Met l yJ0_isLatin1_aae02 (.code yJ0_isLatin1_aae02 cJ0_isLatin1_aae02 1 (some .boolean) :: am_xw) (am_rs 1) (am_PS A ts ([.ref (ts 3)])) (vp_Si (fun r => r = 1)) 0 0 (fun _ => False) := by
  refine Met.ofW (cc := cJ0_isLatin1_aae02) (maxL := 1) (ret := (some .boolean)) (by decide) rfl ?_
  intro p e s m args below meth c s₁ B hml hv
  obtain ⟨rfl, hSE⟩ := hv
  have hx := B.exec
  have hb := B.bytes
  have hr := B.returns
  have hts0 := atoms_spec (ws := .code yJ0_isLatin1_aae02 cJ0_isLatin1_aae02 1 (some .boolean) :: am_xw) B.pre
  have hts : ∀ w ∈ am_xw, w.before _ s = true := fun w h => hts0 w (List.mem_cons_of_mem _ h)
  have hown : s.vm.findClass RJ0 = some m.cls := findClass_of_methodNamed B.named
  have hlocks := B.notSynchronized
  have hS : va_S A s.heap s.heap [] := va_S.rf
  have hl := lv_entry ([.ref (ts 3)]) (n := 1) (Nat.le_of_ble_eq_true rfl)
  rw [lg_entry_eq]
  generalize (lg_sl ([.ref (ts 3)]) ++ List.replicate (1 - (lg_sl ([.ref (ts 3)])).length) Slot.unset).toArray = ls at hl ⊢
  have hl : lv_has ls 1 ([(0, .ref (ts 3))]) := hl
  have hStr := hSE.2.2.2.2.2.1.1 0 (by decide)
  refine va_gets hx hb hSE.2.2.2.2.2.2.1 hS hown (hts _ xw_34) (fun x h => h) dJ0_isLatin1_aae02_0 ?_
  refine lv_if_eq (tgt := 17) hx hb dJ0_isLatin1_aae02_3 (by decide) (fun h => absurd h (by decide)) (fun _ => ?_)
  refine lv_aload_n hx hb dJ0_isLatin1_aae02_6 rfl (lv_at hl 0 rfl) ?_
  refine vk_getf hx hb hStr.2.1 hS hown (hts _ xw_35) (fun x h => h) dJ0_isLatin1_aae02_7 ?_
  refine lv_if_ne (tgt := 17) hx hb dJ0_isLatin1_aae02_10 (by decide) (fun h => absurd rfl h) (fun _ => ?_)
  refine lv_iconst (v := 1) hx hb dJ0_isLatin1_aae02_13 (by decide) ?_
  refine lv_goto (tgt := 18) hx hb dJ0_isLatin1_aae02_14 (by decide) ?_
  exact W.zret (ty := .boolean) hx hb hr rfl (fun t ht _ => ⟨1, rfl, rfl, ht⟩) (fun _ h => by cases h) dJ0_isLatin1_aae02_18
set_option maxRecDepth 100000 in
set_option maxHeartbeats 4000000 in
theorem am_chk3N (l : Launch) (A : Nat → Prop) (ts : Nat → Nat) (i : Int32) (h0 : ¬ i < 0) (h1 : i < 35) : Met l yJ3_checkIndex_8e157 (.code yJ3_checkIndex_8e157 cJ3_checkIndex_8e157 3 (some .int) :: am_xw) (am_rs 1) (am_PS A ts ([.int i, .int 35, .null])) (vp_Si (fun r => r = i)) 0 0 (fun _ => False) := by
  refine Met.ofW (cc := cJ3_checkIndex_8e157) (maxL := 3) (ret := (some .int)) (by decide) rfl ?_
  intro p e s m args below meth c s₁ B hml hv
  obtain ⟨rfl, hSE⟩ := hv
  have hx := B.exec
  have hb := B.bytes
  have hr := B.returns
  have hts0 := atoms_spec (ws := .code yJ3_checkIndex_8e157 cJ3_checkIndex_8e157 3 (some .int) :: am_xw) B.pre
  have hts : ∀ w ∈ am_xw, w.before _ s = true := fun w h => hts0 w (List.mem_cons_of_mem _ h)
  have hown : s.vm.findClass RJ3 = some m.cls := findClass_of_methodNamed B.named
  have hlocks := B.notSynchronized
  have hS : va_S A s.heap s.heap [] := va_S.rf
  have hl := lv_entry ([.int i, .int 35, .null]) (n := 3) (Nat.le_of_ble_eq_true rfl)
  rw [lg_entry_eq]
  generalize (lg_sl ([.int i, .int 35, .null]) ++ List.replicate (3 - (lg_sl ([.int i, .int 35, .null])).length) Slot.unset).toArray = ls at hl ⊢
  have hl : lv_has ls 3 ([(0, .int i), (1, .int 35), (2, .null)]) := hl
  refine lv_iload_n hx hb dJ3_checkIndex_8e157_0 rfl (lv_at hl 0 rfl) ?_
  refine lv_if_lt (tgt := 9) hx hb dJ3_checkIndex_8e157_1 (by decide) (fun h => absurd h h0) (fun _ => ?_)
  refine lv_iload_n hx hb dJ3_checkIndex_8e157_4 rfl (lv_at hl 0 rfl) ?_
  refine lv_iload_n hx hb dJ3_checkIndex_8e157_5 rfl (lv_at hl 1 rfl) ?_
  refine lv_icmp_lt (tgt := 16) hx hb dJ3_checkIndex_8e157_6 (by decide) (fun _ => ?_) (fun h => absurd h1 h)
  refine lv_iload_n hx hb dJ3_checkIndex_8e157_16 rfl (lv_at hl 0 rfl) ?_
  exact W.iret hx hb hr (fun t ht _ => ⟨i, rfl, rfl, ht⟩) (fun _ h => by cases h) dJ3_checkIndex_8e157_17
set_option maxRecDepth 100000 in
set_option maxHeartbeats 4000000 in
theorem am_chk3R (l : Launch) (A : Nat → Prop) (ts : Nat → Nat) (z : Nat) (i : Int32) (h0 : ¬ i < 0) (h1 : i < 35) : Met l yJ3_checkIndex_8e157 (.code yJ3_checkIndex_8e157 cJ3_checkIndex_8e157 3 (some .int) :: am_xw) (am_rs 1) (am_PS A ts ([.int i, .int 35, .ref z])) (vp_Si (fun r => r = i)) 0 0 (fun _ => False) := by
  refine Met.ofW (cc := cJ3_checkIndex_8e157) (maxL := 3) (ret := (some .int)) (by decide) rfl ?_
  intro p e s m args below meth c s₁ B hml hv
  obtain ⟨rfl, hSE⟩ := hv
  have hx := B.exec
  have hb := B.bytes
  have hr := B.returns
  have hts0 := atoms_spec (ws := .code yJ3_checkIndex_8e157 cJ3_checkIndex_8e157 3 (some .int) :: am_xw) B.pre
  have hts : ∀ w ∈ am_xw, w.before _ s = true := fun w h => hts0 w (List.mem_cons_of_mem _ h)
  have hown : s.vm.findClass RJ3 = some m.cls := findClass_of_methodNamed B.named
  have hlocks := B.notSynchronized
  have hS : va_S A s.heap s.heap [] := va_S.rf
  have hl := lv_entry ([.int i, .int 35, .ref z]) (n := 3) (Nat.le_of_ble_eq_true rfl)
  rw [lg_entry_eq]
  generalize (lg_sl ([.int i, .int 35, .ref z]) ++ List.replicate (3 - (lg_sl ([.int i, .int 35, .ref z])).length) Slot.unset).toArray = ls at hl ⊢
  have hl : lv_has ls 3 ([(0, .int i), (1, .int 35), (2, .ref z)]) := hl
  refine lv_iload_n hx hb dJ3_checkIndex_8e157_0 rfl (lv_at hl 0 rfl) ?_
  refine lv_if_lt (tgt := 9) hx hb dJ3_checkIndex_8e157_1 (by decide) (fun h => absurd h h0) (fun _ => ?_)
  refine lv_iload_n hx hb dJ3_checkIndex_8e157_4 rfl (lv_at hl 0 rfl) ?_
  refine lv_iload_n hx hb dJ3_checkIndex_8e157_5 rfl (lv_at hl 1 rfl) ?_
  refine lv_icmp_lt (tgt := 16) hx hb dJ3_checkIndex_8e157_6 (by decide) (fun _ => ?_) (fun h => absurd h1 h)
  refine lv_iload_n hx hb dJ3_checkIndex_8e157_16 rfl (lv_at hl 0 rfl) ?_
  exact W.iret hx hb hr (fun t ht _ => ⟨i, rfl, rfl, ht⟩) (fun _ h => by cases h) dJ3_checkIndex_8e157_17
set_option maxRecDepth 100000 in
set_option maxHeartbeats 4000000 in
theorem am_chk (l : Launch) (A : Nat → Prop) (ts : Nat → Nat) (i : Int32) (h0 : ¬ i < 0) (h1 : i < 35) : Met l yJ0_checkIndex_df160 (.code yJ0_checkIndex_df160 cJ0_checkIndex_df160 2 none :: am_xw) (am_rs 2) (am_PS A ts ([.int i, .int 35])) (am_QV) 0 0 (fun _ => False) := by
  refine Met.ofW (cc := cJ0_checkIndex_df160) (maxL := 2) (ret := none) (by decide) rfl ?_
  intro p e s m args below meth c s₁ B hml hv
  obtain ⟨rfl, hSE⟩ := hv
  have hx := B.exec
  have hb := B.bytes
  have hr := B.returns
  have hts0 := atoms_spec (ws := .code yJ0_checkIndex_df160 cJ0_checkIndex_df160 2 none :: am_xw) B.pre
  have hts : ∀ w ∈ am_xw, w.before _ s = true := fun w h => hts0 w (List.mem_cons_of_mem _ h)
  have hown : s.vm.findClass RJ0 = some m.cls := findClass_of_methodNamed B.named
  have hlocks := B.notSynchronized
  have hS : va_S A s.heap s.heap [] := va_S.rf
  have hl := lv_entry ([.int i, .int 35]) (n := 2) (Nat.le_of_ble_eq_true rfl)
  rw [lg_entry_eq]
  generalize (lg_sl ([.int i, .int 35]) ++ List.replicate (2 - (lg_sl ([.int i, .int 35])).length) Slot.unset).toArray = ls at hl ⊢
  have hl : lv_has ls 2 ([(0, .int i), (1, .int 35)]) := hl
  refine lv_iload_n hx hb dJ0_checkIndex_df160_0 rfl (lv_at hl 0 rfl) ?_
  refine lv_iload_n hx hb dJ0_checkIndex_df160_1 rfl (lv_at hl 1 rfl) ?_
  rcases hSE.2.2.2.2.2.2.2 with hz | ⟨z, hz⟩
  · refine va_gets hx hb hz hS hown (hts _ xw_36) (fun x h => h) dJ0_checkIndex_df160_2 ?_
    refine W.callX ((W.runS (As := [.int i, .int 35, .null]) (rest := []) ⟨hx, hb, hml, hown, hts⟩ (am_chk3N l A ts i h0 h1) ⟨callB_of 3 hts (am_xw_cons xw_32) rfl rfl rfl (hts _ xw_7) (hts _ xw_30) (by decide +kernel) ⟨Nat.le_of_ble_eq_true rfl, Nat.le_of_ble_eq_true rfl⟩, hts _ xw_31⟩ ⟨am_PS_b A ts _, am_PS_p hSE _⟩ rfl rfl hl.1 rfl (lv_room (Nat.le_of_ble_eq_true rfl)) dJ0_checkIndex_df160_5 ⟨Nat.le_refl _, Nat.le_refl _⟩)) (fun _ h => h.elim) (fun v st₀ t hst hq => ?_)
    obtain ⟨r9, hv, rfl, hh⟩ := hq
    cases hv
    rw [hh, hst]
    refine lv_pop hx hb dJ0_checkIndex_df160_8 rfl ?_
    exact W.vret hx hb hr (fun t ht _ => ⟨rfl, ht⟩) (fun _ h => by cases h) dJ0_checkIndex_df160_9
  · refine va_gets hx hb hz hS hown (hts _ xw_36) (fun x h => h) dJ0_checkIndex_df160_2 ?_
    refine W.callX ((W.runS (As := [.int i, .int 35, .ref z]) (rest := []) ⟨hx, hb, hml, hown, hts⟩ (am_chk3R l A ts z i h0 h1) ⟨callB_of 3 hts (am_xw_cons xw_32) rfl rfl rfl (hts _ xw_7) (hts _ xw_30) (by decide +kernel) ⟨Nat.le_of_ble_eq_true rfl, Nat.le_of_ble_eq_true rfl⟩, hts _ xw_31⟩ ⟨am_PS_b A ts _, am_PS_p hSE _⟩ rfl rfl hl.1 rfl (lv_room (Nat.le_of_ble_eq_true rfl)) dJ0_checkIndex_df160_5 ⟨Nat.le_refl _, Nat.le_refl _⟩)) (fun _ h => h.elim) (fun v st₀ t hst hq => ?_)
    obtain ⟨r9, hv, rfl, hh⟩ := hq
    cases hv
    rw [hh, hst]
    refine lv_pop hx hb dJ0_checkIndex_df160_8 rfl ?_
    exact W.vret hx hb hr (fun t ht _ => ⟨rfl, ht⟩) (fun _ h => by cases h) dJ0_checkIndex_df160_9
theorem am_tx_ok : ∀ k : Fin 35, ((((am_tx.getD k 0) &&& 255).toUInt32 % 65536).toInt32 = am_tx.getD k 0) ∧ narrow .char (.int (am_tx.getD k 0)) = .int (am_tx.getD k 0) := by decide +kernel
theorem am_tx_at {i x : Int32} (hx : am_ix am_tx i = some x) : ¬ i < 0 ∧ i < 35 ∧ vp_in i 35 ∧ am_tx.getD i.toNatClampNeg 0 = x ∧ ((x &&& 255).toUInt32 % 65536).toInt32 = x ∧ narrow .char (.int x) = .int x := by
  obtain ⟨h1, h2⟩ := am_ix_in hx
  have h1 : vp_in i 35 := h1
  have h0 : ¬ i < 0 := fun q => h1 (Or.inl q)
  have hl : i.toNatClampNeg < 35 := Nat.not_le.mp fun q => h1 (Or.inr q)
  obtain ⟨j, hj, rfl⟩ := vp_in_of h1 (by decide)
  have e : am_tx.getD (nI j).toNatClampNeg 0 = x := by simp [List.getD, h2]
  have h3 := am_tx_ok ⟨(nI j).toNatClampNeg, hl⟩
  simp only [e] at h3
  exact ⟨h0, nI_lt hj (by decide), h1, e, h3.1, h3.2⟩
set_option maxRecDepth 100000 in
set_option maxHeartbeats 4000000 in
theorem am_lchar (l : Launch) (A : Nat → Prop) (ts : Nat → Nat) (i x : Int32) (hix : am_ix am_tx i = some x) : Met l yJ1_charAt_3b067 (.code yJ1_charAt_3b067 cJ1_charAt_3b067 2 (some .char) :: am_xw) (am_rs 3) (am_PS A ts ([.ref (ts 4), .int i])) (vp_Si (fun r => r = x)) 0 0 (fun _ => False) := by
  refine Met.ofW (cc := cJ1_charAt_3b067) (maxL := 2) (ret := (some .char)) (by decide) rfl ?_
  intro p e s m args below meth c s₁ B hml hv
  obtain ⟨rfl, hSE⟩ := hv
  have hx := B.exec
  have hb := B.bytes
  have hr := B.returns
  have hts0 := atoms_spec (ws := .code yJ1_charAt_3b067 cJ1_charAt_3b067 2 (some .char) :: am_xw) B.pre
  have hts : ∀ w ∈ am_xw, w.before _ s = true := fun w h => hts0 w (List.mem_cons_of_mem _ h)
  have hown : s.vm.findClass RJ1 = some m.cls := findClass_of_methodNamed B.named
  have hlocks := B.notSynchronized
  have hS : va_S A s.heap s.heap [] := va_S.rf
  have hl := lv_entry ([.ref (ts 4), .int i]) (n := 2) (Nat.le_of_ble_eq_true rfl)
  rw [lg_entry_eq]
  generalize (lg_sl ([.ref (ts 4), .int i]) ++ List.replicate (2 - (lg_sl ([.ref (ts 4), .int i])).length) Slot.unset).toArray = ls at hl ⊢
  have hl : lv_has ls 2 ([(0, .ref (ts 4)), (1, .int i)]) := hl
  obtain ⟨h0, h1, hin, hxx, hc1, hc2⟩ := am_tx_at hix
  have hStr := hSE.2.2.2.2.2.1.1 0 (by decide)
  refine lv_iload_n hx hb dJ1_charAt_3b067_0 rfl (lv_at hl 1 rfl) ?_
  refine lv_aload_n hx hb dJ1_charAt_3b067_1 rfl (lv_at hl 0 rfl) ?_
  refine va_tlen hx hb hStr.2.2.2 hS (v := 35) rfl dJ1_charAt_3b067_2 ?_
  refine W.callX (W.runS (As := [.int i, .int 35]) (rest := []) ⟨hx, hb, hml, hown, hts⟩ (am_chk l A ts i h0 h1) ⟨callB_of 2 hts (am_xw_cons xw_29) rfl rfl rfl (hts _ xw_5) (hts _ xw_27) (by decide +kernel) ⟨Nat.le_of_ble_eq_true rfl, Nat.le_of_ble_eq_true rfl⟩, hts _ xw_28⟩ ⟨am_PS_b A ts _, am_PS_p hSE _⟩ rfl rfl hl.1 rfl (lv_room (Nat.le_of_ble_eq_true rfl)) dJ1_charAt_3b067_3 ⟨Nat.le_refl _, Nat.le_refl _⟩) (fun _ h => h.elim) (fun v st₀ t hst hq => ?_)
  obtain ⟨hv, hh⟩ := hq
  cases hv
  rw [hh, hst]
  refine lv_aload_n hx hb dJ1_charAt_3b067_6 rfl (lv_at hl 0 rfl) ?_
  refine lv_iload_n hx hb dJ1_charAt_3b067_7 rfl (lv_at hl 1 rfl) ?_
  refine va_tb hx hb hStr.2.2.2 hS hin (v := .int x) (by show Value.int (am_tx.getD _ 0) = _; rw [hxx]) dJ1_charAt_3b067_8 ?_
  refine lv_sipush (v := 255) hx hb dJ1_charAt_3b067_9 (by decide) ?_
  refine lv_iand hx hb dJ1_charAt_3b067_12 ?_
  refine lv_i2c (v := x) hx hb dJ1_charAt_3b067_13 hc1 ?_
  exact W.zret (ty := .char) hx hb hr hc2 (fun t ht _ => ⟨x, rfl, rfl, ht⟩) (fun _ h => by cases h) dJ1_charAt_3b067_14
set_option maxRecDepth 100000 in
set_option maxHeartbeats 4000000 in
theorem am_charAt (l : Launch) (A : Nat → Prop) (ts : Nat → Nat) (i x : Int32) (hix : am_ix am_tx i = some x) : Met l yJ0_charAt_5068e (.code yJ0_charAt_5068e cJ0_charAt_5068e 2 (some .char) :: am_xw) (am_rs 4) (am_PS A ts ([.ref (ts 3), .int i])) (vp_Si (fun r => r = x)) 0 0 (fun _ => False) := by
  refine Met.ofW (cc := cJ0_charAt_5068e) (maxL := 2) (ret := (some .char)) (by decide) rfl ?_
  intro p e s m args below meth c s₁ B hml hv
  obtain ⟨rfl, hSE⟩ := hv
  have hx := B.exec
  have hb := B.bytes
  have hr := B.returns
  have hts0 := atoms_spec (ws := .code yJ0_charAt_5068e cJ0_charAt_5068e 2 (some .char) :: am_xw) B.pre
  have hts : ∀ w ∈ am_xw, w.before _ s = true := fun w h => hts0 w (List.mem_cons_of_mem _ h)
  have hown : s.vm.findClass RJ0 = some m.cls := findClass_of_methodNamed B.named
  have hlocks := B.notSynchronized
  have hS : va_S A s.heap s.heap [] := va_S.rf
  have hl := lv_entry ([.ref (ts 3), .int i]) (n := 2) (Nat.le_of_ble_eq_true rfl)
  rw [lg_entry_eq]
  generalize (lg_sl ([.ref (ts 3), .int i]) ++ List.replicate (2 - (lg_sl ([.ref (ts 3), .int i])).length) Slot.unset).toArray = ls at hl ⊢
  have hl : lv_has ls 2 ([(0, .ref (ts 3)), (1, .int i)]) := hl
  obtain ⟨h0, h1, hin, hxx, hc1, hc2⟩ := am_tx_at hix
  have hStr := hSE.2.2.2.2.2.1.1 0 (by decide)
  refine lv_aload_n hx hb dJ0_charAt_5068e_0 rfl (lv_at hl 0 rfl) ?_
  refine W.callX ((W.runV (As := []) (rest := []) ⟨hx, hb, hml, hown, hts⟩ (am_latin l A ts) ⟨callB_of 0 hts (am_xw_cons xw_23) rfl rfl rfl (hts _ xw_5) (hts _ xw_20) (by decide +kernel) ⟨Nat.le_of_ble_eq_true rfl, Nat.le_of_ble_eq_true rfl⟩, hts _ xw_21, hts _ xw_22⟩ ⟨am_PS_b A ts _, vk_recv hSE.2.2.2.2.2.1 (i := 0) (by decide) hS, am_PS_p hSE _⟩ rfl rfl hl.1 rfl (lv_room (Nat.le_of_ble_eq_true rfl)) dJ0_charAt_5068e_1 ⟨Nat.le_refl _, Nat.le_refl _⟩)) (fun _ h => h.elim) (fun v st₀ t hst hq => ?_)
  obtain ⟨r9, hv, rfl, hh⟩ := hq
  cases hv
  rw [hh, hst]
  refine lv_if_eq (tgt := 16) hx hb dJ0_charAt_5068e_4 rfl (fun h => absurd h (by decide)) (fun _ => ?_)
  refine lv_aload_n hx hb dJ0_charAt_5068e_7 rfl (lv_at hl 0 rfl) ?_
  refine vk_getf hx hb hStr.2.2.1 hS hown (hts _ xw_33) (fun x h => h) dJ0_charAt_5068e_8 ?_
  refine lv_iload_n hx hb dJ0_charAt_5068e_11 rfl (lv_at hl 1 rfl) ?_
  refine W.callX ((W.runS (As := [.ref (ts 4), .int i]) (rest := []) ⟨hx, hb, hml, hown, hts⟩ (am_lchar l A ts i _ hix) ⟨callB_of 2 hts (am_xw_cons xw_26) rfl rfl rfl (hts _ xw_6) (hts _ xw_24) (by decide +kernel) ⟨Nat.le_of_ble_eq_true rfl, Nat.le_of_ble_eq_true rfl⟩, hts _ xw_25⟩ ⟨am_PS_b A ts _, am_PS_p hSE _⟩ rfl rfl hl.1 rfl (lv_room (Nat.le_of_ble_eq_true rfl)) dJ0_charAt_5068e_12 ⟨Nat.le_refl _, Nat.le_refl _⟩)) (fun _ h => h.elim) (fun v st₀ t hst hq => ?_)
  obtain ⟨r9, hv, rfl, hh⟩ := hq
  cases hv
  rw [hh, hst]
  exact W.zret (ty := .char) hx hb hr hc2 (fun t ht _ => ⟨_, rfl, rfl, ht⟩) (fun _ h => by cases h) dJ0_charAt_5068e_15
