/-! THE LAW, from its entry; behind whole_start the skeleton's rows -/
def lw_f9 : List Value := [.null, .int 0, .null, .int 0, .null, .null, .null, .null, .null, .int 0, .null, .int 0, .null, .int 0, .null, .int 0, .int 0, .int 0, .int 0, .null, .null, .null, .null, .null, .null, .null, .null, .null, .null]
theorem lw_d8 (f : Nat → Nat) : ∀ j, j < (am_cl 8).2.2 → defaultValue (tyX8 j) = vp_V ((am_df 8).map (am_v f)) j := fun j hj => by
  rcases (show j = 0 ∨ j = 1 ∨ j = 2 ∨ j = 3 ∨ j = 4 ∨ j = 5 ∨ j = 6 ∨ j = 7 ∨ j = 8 from by have : j < 9 := hj; omega) with rfl | rfl | rfl | rfl | rfl | rfl | rfl | rfl | rfl <;> rfl
theorem lw_d9 (f : Nat → Nat) : ∀ j, j < (am_cl 9).2.2 → defaultValue (tyX9 j) = vp_V (lw_f9.map (am_v f)) j := fun j hj => by
  rcases (show j = 0 ∨ j = 1 ∨ j = 2 ∨ j = 3 ∨ j = 4 ∨ j = 5 ∨ j = 6 ∨ j = 7 ∨ j = 8 ∨ j = 9 ∨ j = 10 ∨ j = 11 ∨ j = 12 ∨ j = 13 ∨ j = 14 ∨ j = 15 ∨ j = 16 ∨ j = 17 ∨ j = 18 ∨ j = 19 ∨ j = 20 ∨ j = 21 ∨ j = 22 ∨ j = 23 ∨ j = 24 ∨ j = 25 ∨ j = 26 ∨ j = 27 ∨ j = 28 from by have : j < 29 := hj; omega) with rfl | rfl | rfl | rfl | rfl | rfl | rfl | rfl | rfl | rfl | rfl | rfl | rfl | rfl | rfl | rfl | rfl | rfl | rfl | rfl | rfl | rfl | rfl | rfl | rfl | rfl | rfl | rfl | rfl <;> rfl
abbrev lw_v1 (s : State) (ts : Nat → Nat) (D : va_G) (tc : Nat → ClassId) : aE := (true, s.heap.size, ts, fun q => s.heap.size ≤ q, D, tc, 0, 0, 0, 0)
abbrev lw_v2 (s : State) (ts : Nat → Nat) (D : va_G) (tc : Nat → ClassId) : aE := (true, s.heap.size + 92, ts, fun q => s.heap.size + 92 ≤ q, D, tc, 0, 0, 0, 0)
abbrev lw_h8 : aH := [.inr (.inr (8, am_df 8))]
abbrev lw_h9 : aH := [.inr (.inr (9, lw_f9))]
theorem lw_rm8 : 0 + 1 + (H8.length - lw_h8.length) ≤ 200 ∧ 0 + (am_cl 8).2.2 + (am_slt H8 - am_slt lw_h8) ≤ 20000 := by decide +kernel
theorem lw_rm9 : 200 + 1 + (H9.length - lw_h9.length) ≤ 400 ∧ 20000 + (am_cl 9).2.2 + (am_slt H9 - am_slt lw_h9) ≤ 40000 := by decide +kernel
theorem lw_up {a b c d : Nat} (h : a ≤ c ∧ b ≤ d) (hc : c ≤ 600000) (hd : d ≤ 7302250) : a ≤ 600000 ∧ b ≤ 7302250 := ⟨Nat.le_trans h.1 hc, Nat.le_trans h.2 hd⟩
theorem lw_l8 : H8.length = 92 := by decide +kernel
theorem lw_l9 : H9.length = 21 := by decide +kernel
theorem lw_cx {a : String} (h : decide (a ≠ "java/lang/invoke/MethodHandle" ∧ a ≠ "java/lang/invoke/VarHandle") = true) : a ≠ "java/lang/invoke/MethodHandle" ∧ a ≠ "java/lang/invoke/VarHandle" := of_decide_eq_true h
theorem whole_start {p : Program} {e : Env} {s : State} {m : MethodId} {below : List Frame} {meth : Method} {c : Code} (l : Launch) (hflags : l.flags = flags0) {b L : Nat} {xs : Nat → Int32} (hL : L ≤ 2560) (C0 : lw_At p s m meth c b L xs) : W p l e room_1 s m #[Value.ref b] below meth c s.heap [] 0 0 (lw_Z below #[Value.ref b] s) (entryFrame m ([Value.ref b] : List Value).toArray 4) := by
  obtain ⟨hxe, hb, hr, hml, hown, hts, hX, hbl, hlk, hgv⟩ := id C0
  obtain ⟨ts, hSE⟩ := lw_SE hts hgv
  obtain ⟨D, tc, hK⟩ := lw_K hts
  have C : lw_Cx p s m meth c b L xs ts D tc := ⟨⟨hxe, hb, hml, hown, hts⟩, ⟨hK, hSE⟩, ⟨hX, hbl, hL⟩, hr, hlk⟩
  have hl := lv_entry ([.ref b]) (n := 4) (Nat.le_of_ble_eq_true rfl)
  rw [lg_entry_eq]
  generalize (lg_sl ([.ref b]) ++ List.replicate (4 - (lg_sl ([.ref b])).length) Slot.unset).toArray = ls at hl ⊢
  have hl : lv_has ls 4 [(0, .ref b)] := hl
  have up : ∀ q : Nat, s.heap.size + 92 ≤ q → s.heap.size ≤ q := fun q z => by omega
  refine lw_new (w := lw_v1 s ts D tc) (ci := 8) (idx := 7) (fs := am_df 8) hxe hb hown hts hK (by decide) (lw_o (k := 11) rfl) (lw_o (k := 21) rfl) (lw_o (k := 7) rfl) tyX8 tyX8_ok (lw_d8 _) va_S.rf rfl (lw_h 0 rfl) (by decide) (fun H1 P1 z1 S1 o1 => ?_)
  refine lv_dup hxe hb (lw_h 1 rfl) rfl ?_
  refine lw_init (w := lw_v1 s ts D tc) (idx := 9) (m' := m_X8_init) (h := lw_h8) (h' := H8) (n := 20000) (d := 16) hxe hb hml hown hts hK hSE rfl (fun q z => z) (fun q z => z) (by decide) (List.mem_of_getElem? (i := 70) rfl) rfl rfl ⟨by decide +kernel, by decide +kernel, by decide +kernel⟩ (lw_o (k := 23) rfl) (lw_o (k := 24) rfl) (lw_o (k := 7) rfl) (by decide) (by decide) r_H8 P1 S1 z1 hl.1 (show 1 + 0 ≤ 8 by decide) (lw_h 2 rfl) (lw_up lw_rm8 (by decide) (by decide)) (fun H2 P2 z2 S2 o2 => ?_)
  refine W.widen lw_rm8.1 lw_rm8.2 ?_
  have z2 : H2.size = s.heap.size + 92 := by
    have z := z2
    rw [lw_l8] at z
    exact z
  refine lv_astore_n (lv' := [(1, .ref s.heap.size), (0, .ref b)]) hxe hb (lw_h 3 rfl) rfl hl (by decide) rfl (fun ls hl => ?_)
  refine lw_new (w := lw_v2 s ts D tc) (ci := 9) (idx := 10) (fs := lw_f9) hxe hb hown hts hK (by decide) (lw_o (k := 12) rfl) (lw_o (k := 22) rfl) (lw_o (k := 8) rfl) tyX9 tyX9_ok (lw_d9 _) S2 z2 (lw_h 4 rfl) (by decide) (fun H3 P3 z3 S3 o3 => ?_)
  refine lv_dup hxe hb (lw_h 5 rfl) rfl ?_
  refine lw_init (w := lw_v2 s ts D tc) (idx := 12) (m' := m_X9_init) (h := lw_h9) (h' := H9) (n := 20000) (d := 16) hxe hb hml hown hts hK (hSE.narrow up) rfl up (fun q z => z) (by decide) (List.mem_of_getElem? (i := 120) rfl) rfl rfl ⟨by decide +kernel, by decide +kernel, by decide +kernel⟩ (lw_o (k := 25) rfl) (lw_o (k := 26) rfl) (lw_o (k := 8) rfl) (by decide) (by decide) r_H9 P3 S3 z3 hl.1 (show 1 + 0 ≤ 8 by decide) (lw_h 6 rfl) (lw_up lw_rm9 (by decide) (by decide)) (fun H4 P4 z4 S4 o4 => ?_)
  refine W.widen lw_rm9.1 lw_rm9.2 ?_
  refine lv_astore_n (lv' := [(2, .ref (s.heap.size + 92)), (1, .ref s.heap.size), (0, .ref b)]) hxe hb (lw_h 7 rfl) rfl hl (by decide) rfl (fun ls hl => ?_)
  refine lv_iconst (v := nI 0) hxe hb (lw_h 8 rfl) (by decide) ?_
  refine lv_istore_n (lv' := [(3, .int (nI 0)), (2, .ref (s.heap.size + 92)), (1, .ref s.heap.size), (0, .ref b)]) hxe hb (lw_h 9 rfl) rfl hl (by decide) rfl (fun ls hl => ?_)
  refine lw_loop C (by decide) L 0 H8 H9 H4 ls (by omega) (by decide) RELn_0 ⟨S4, P2.kept (fun k q hk => ?_), P4, lw_l8, lw_l9⟩ (lv_sub hl [3, 2, 1, 0] rfl)
  obtain ⟨k1, k2⟩ := lw_key (by rw [lw_l8]; decide) hk
  rw [lw_l8] at k1
  have q1 : q.1 < H2.size := (P2 k q hk).lt
  have z3 : H3.size = s.heap.size + 92 + 1 := z3
  rw [o4 q.1 (by omega) (fun z => by have z : s.heap.size + 92 ≤ q.1 := z; omega), o3 q.1 q1]
set_option maxHeartbeats 4000000 in
theorem lw_walk (l : Launch) (hflags : l.flags = flags0) (b : Addr) (xs : List Int32) : MetFree l x (headSpec (Jvm.Cond.code x code maxLocals ret :: tables_1) room_1) (lw_P b xs) (fun _ _ _ _ _ => True) lw_Q := by
  refine MetFree.of_bodyS (code := code) (maxLocals := maxLocals) (ret := ret) (by decide) ?_ ?_
  · intro args s m h hn
    obtain ⟨meth, c, h1, h2, h3, h4, h5, h6, -, -⟩ := Cond.code_spec hn (atoms_spec (ws := Jvm.Cond.code x code maxLocals ret :: tables_1) h _ List.mem_cons_self)
    exact ⟨meth, c, h1, h2, h3, h4, h5, h6⟩
  · intro p e s m args below meth c s₁ B hml0 hP _
    obtain ⟨rfl, hx, hbd, hgv⟩ := hP
    obtain ⟨scr, harrAt, hlist, hof, hsmall⟩ := hx
    obtain ⟨hcb, hkn, -, -⟩ := State.arrayAt?_spec harrAt
    have hown : s.vm.findClass R_law = some m.cls := findClass_of_methodNamed B.named
    have hts0 : ∀ c ∈ (Jvm.Cond.code x code maxLocals ret :: tables_1), c.before #[Value.ref b] s = true := atoms_spec (ws := Jvm.Cond.code x code maxLocals ret :: tables_1) B.pre
    have hts : ∀ w ∈ lw_tbl, w.before #[Value.ref b] s = true := k2_hts_sels lw_privs (fun w hw => hts0 w (List.mem_cons_of_mem _ hw)) lw_privs_ok
    have hml : c.maxLocals = 4 := B.maxLocals_eq (hts0 _ List.mem_cons_self)
    have X₀ : Stand p l e room_1 s m #[Value.ref b] below meth c s₁ [] 0 0 := Stand.of_body B
    have hh0 : s₁.heap = s.heap := by rw [B.state]; rfl
    have hsz : scr.slots.size = xs.length := by rw [← Array.length_toList, hlist, List.length_map]
    have hval : ∀ j : Nat, j < xs.length → scr.slots[j]? = some (.int (xs.getD j 0)) := fun j hj => by
      rw [← Array.getElem?_toList, hlist]
      simp [hj]
    have hbl : b < s.heap.size := (Array.getElem?_eq_some_iff.mp hcb).1
    have hX : va_X b xs.length (fun j => xs.getD j 0) s s.heap := ⟨scr, hcb, hof, hkn, hsz, hval⟩
    have K : W p l e room_1 s m #[Value.ref b] below meth c s₁.heap [] 0 0 (lw_Z below #[Value.ref b] s) (entryFrame m ([Value.ref b] : List Value).toArray 4) := by
      rw [hh0]
      exact whole_start l hflags hbd ⟨B.exec, B.bytes, B.returns, hml, hown, hts, hX, hbl, B.notSynchronized, hgv⟩
    obtain ⟨t, a1, o, b1, b2, b3⟩ := K s₁ rfl X₀
    exact ⟨t, o, a1, b1, b2, b3⟩
theorem lw_pre_spec {args : Array Value} {s : State} (h : (Jvm.Cond.and given_1 narrow_1).before args s = true) (hr : rest_1_c.before args s = true) : ∃ (b : Addr) (xs : List Int32), lw_P b xs args s := by
  have hs := flat_of_before _ h
  have hq := flat_of_before _ hr
  have hc : (Cond.count 1).before args s = true := hs _ (by decide +kernel)
  have harr : (Cond.arrayOf (.arg 0) .int).before args s = true := hs _ (by decide +kernel)
  have hle : (Cond.le (.length (.arg 0)) (.int 2560)).before args s = true := hs _ (by decide +kernel)
  have hlen : (Cond.isInt (.length (.arg 0))).before args s = true := hq _ (by decide +kernel)
  have hall : (Cond.all (.arg 0) (.isInt (.elem (.arg 0) (.index 0)))).before args s = true := hq _ (by decide +kernel)
  obtain ⟨b, xs, hb, hx⟩ := State.ints_of_pre rfl harr hlen hall
  have hsm : xs.length < 2 ^ 31 := hx.choose_spec.2.2.2
  have hev : (Term.length (.arg 0)).eval args s none [] s = some (.int xs.length.toInt32) := hx.length_eval hb
  have hv := Cond.le_ints hev (show (Term.int 2560).eval args s none [] s = some (.int 2560) from rfl)
  have hd : xs.length.toInt32 ≤ 2560 := by
    simpa [Cond.before, Cond.holds, hv] using hle
  have hN : xs.length ≤ 2560 := (Int32.ofNat_le_ofNat hsm (by decide)).mp (show Int32.ofNat xs.length ≤ Int32.ofNat 2560 from hd)
  exact ⟨b, xs, Cond.one_arg hc (show args[0]? = some (.ref b) from hb), hx, hN, h⟩
theorem lw_comes (l : Launch) (hflags : l.flags = flags0) : Comes l x (Jvm.Cond.code x code maxLocals ret :: tables_1) room_1 (fun tb e args s => Calls_1 tb e args s ∧ rest_1 tb e args s ∧ Pre_1 tb e args s)
    (fun _ _ args s o t => lw_Q args s o t) := by
  intro p e ha hc hk s m args below hf hfit hheap happ hpre
  obtain ⟨b, xs, hP⟩ := lw_pre_spec hpre.2.2 hpre.2.1
  obtain ⟨k, o, h1, h2, h3, hQ⟩ := lw_walk l hflags b xs p e ha hc hk s m args below hf ((Spec.applies_iff_loose hf).mp happ).1 hP trivial
  exact ⟨k, o, h1, h2, h3, hQ⟩
theorem lw_frame {s t : State} {o : Outcome} {args : Array Value} (h : Framed s o t [] 600000 7302250) :
    Framed s o t (fieldLocs frame_1_writes args s ++ arrayLocs frame_1_arrays args s ++ staticLocs frame_1_statics s) 600000 7302250 := h
theorem lw_limb (L : Cond) (hL : ∀ (args : Array Value) (s t : State), L.after args s (.returned (some (.int 1))) t = true) :
    ArmFor flags0 classFile x code maxLocals ret World_1 tables_1 room_1 Calls_1 rest_1 Pre_1
      (fun tb e a s o t => postC L tb e a s o t ∧ Framed s o t (fieldLocs frame_1_writes a s ++ arrayLocs frame_1_arrays a s ++ staticLocs frame_1_statics s) 600000 7302250) := by
  intro l hflags _ _ p e ha hc hk s m args below hf hfit hheap happ hpre
  obtain ⟨k, o, h1, h2, h3, rfl, hF⟩ := lw_comes l hflags p e ha hc hk s m args below hf hfit hheap happ hpre
  exact ⟨k, _, h1, h2, h3, hL args s _, lw_frame hF⟩
theorem i_vc : Claimed_1_1 ∧ Claimed_1_2 := ⟨lw_limb limb_1_1 (fun args s t => by simp [limb_1_1, Cond.after, Cond.holds, Cond.value]), lw_limb limb_1_2 (fun args s t => Cond.after_iff.mpr (by
  first | (rw [show limb_1_2 = Cond.eq .result (.int 1) from rfl, Cond.eq_ints (x := 1) (y := 1) rfl rfl]; simp; done) | (simp [limb_1_2, Cond.value, Term.eval]; done)))⟩
