/-! the law: calls in one of its two worlds -/
def lw_A0 (s : State) : Nat → Prop := fun q => s.heap.size ≤ q
section LWC
variable {p : Program} {l : Launch} {e : Env} {s : State} {m : MethodId} {below : List Frame} {meth : Method} {c : Code} {b : Nat} {Q : State → Prop}
variable {w : aE} {h : aH} {H : Heap}
theorem lw_pre (hK : va_K (ae_D w) vwCl (am_tys (ae_tc w)) s) (hSE : am_SE (ae_A w) (ae_ts w) s s.heap) (hP : va_P (ae_D w) vwCl (am_W (ae_s w) (ae_tc w) h) H) (hS : va_S (lw_A0 s) s.heap H []) (hsz : ae_al w = true → H.size = ae_b w + h.length) (vs : List Value) : ∀ U : State, U.heap = H → s.WarmedH U.vm → va_Pc vs (am_B w h) vs.toArray U := by
  intro U hU hW
  refine ⟨rfl, by rw [hU]; exact hP, va_K.moved hW.alike hK, ?_, by rw [hU]; exact hsz⟩
  rw [hU]
  exact hSE.go hW (fun a h1 _ => hS.2.1 a h1 (Nat.not_le.mpr h1))
theorem lw_wcall {rv : Option Value} {h' : aH} {cells slots mc ms pc : Nat} {ls : Array Slot} {st0 rest : List Value} {a : Array Value} (hr : va_Run p l e room_1 s m #[Value.ref b] below meth c H [] cells slots mc ms (F0 m pc ls st0) rest (am_Q w rv h' a) (ae_A w)) (hS : va_S (lw_A0 s) s.heap H []) (hAA : ∀ q, ae_A w q → s.heap.size ≤ q)
    (kk : ∀ H1 : Heap, va_P (ae_D w) vwCl (am_W (ae_s w) (ae_tc w) h') H1 → (ae_al w = true → H1.size = ae_b w + h'.length) → va_S (lw_A0 s) s.heap H1 [] → (∀ q, q < H.size → ¬ ae_A w q → H1[q]? = H[q]?) → W p l e room_1 s m #[Value.ref b] below meth c H1 [] (cells + mc) (slots + ms) Q (F0 m (pc + 3) ls ((rv.map (am_v (ae_s w))).toList ++ rest))) : W p l e room_1 s m #[Value.ref b] below meth c H [] cells slots Q (F0 m pc ls st0) := by
  intro T hT X
  obtain ⟨v, st₀, t, T', L, h0, X', hL, e1, e2, ⟨hv, hP, hsz, hz, hk⟩, st⟩ := hr T hT X
  cases hv
  rw [h0] at hz hk
  have k1 := kk T'.heap (by rw [e1]; exact hP) (by rw [e1]; exact hsz) ⟨Nat.le_trans hS.1 (by rw [e1]; exact hz), fun q h1 h2 => by rw [e1, hk q (Nat.lt_of_lt_of_le h1 hS.1) (fun z => h2 (hAA q z))]; exact hS.2.1 q h1 h2, fun q hq => by cases hq⟩ (fun q h1 h2 => by rw [e1]; exact hk q h1 h2)
  have k2 := va_forget (locs := [] ++ L) (fun q hq => hAA _ (hL q (by simpa using hq))) k1
  obtain ⟨t2, a1, b1⟩ := k2 T' rfl X'
  exact ⟨t2, st t2 a1, b1⟩
theorem lw_call {q : Nat × Nat × Nat} {m' : aM} {As : List Value} {v : Int32} {h' : aH} {fs : List Value} {cells slots pc : Nat} {ls : Array Slot} {rest : List Value}
    (hx : p.tables.exec = Jvm.exec) (hb : c.code = code) (hml : c.maxLocals = 4) (hown : s.vm.findClass R_law = some m.cls) (hts : ∀ w ∈ lw_tbl, w.before #[Value.ref b] s = true)
    (hK : va_K (ae_D w) vwCl (am_tys (ae_tc w)) s) (hSE : am_SE (ae_A w) (ae_ts w) s s.heap) (hal : ae_al w = false) (hAA : ∀ q, ae_A w q → s.heap.size ≤ q) (hA : ∀ j, j < h.length → ae_A w (ae_b w + j)) (hlen : h.length ≤ 100000)
    (hq : q ∈ lw_ms) (hm : am_tab[q.2.1]? = some m') (hci : m'.2.1 < 10) (hfs : h[0]? = some (.inr (.inr (m'.2.1, fs)))) (hAs : As.map (am_v (ae_s w)) = As) (hn : As.length = q.2.2)
    (hE : Ec 20 m' (.ref 0 :: As) h (rt (.int v) h')) (hP : va_P (ae_D w) vwCl (am_W (ae_s w) (ae_tc w) h) H) (hS : va_S (lw_A0 s) s.heap H []) (hls : ls.size = 4) (hr : am_sum rest ≤ 8) (hd : decode code pc = .ok (.invokevirtual q.1, 3)) (hc : cells ≤ 600000 ∧ slots ≤ 7302250)
    (kk : ∀ H1 : Heap, va_P (ae_D w) vwCl (am_W (ae_s w) (ae_tc w) h') H1 → h'.length = h.length → va_S (lw_A0 s) s.heap H1 [] → (∀ q, q < H.size → ¬ ae_A w q → H1[q]? = H[q]?) → W p l e room_1 s m #[Value.ref b] below meth c H1 [] cells slots Q (F0 m (pc + 3) ls (.int v :: rest))) : W p l e room_1 s m #[Value.ref b] below meth c H [] cells slots Q (F0 m pc ls (As.reverse ++ .ref (ae_b w) :: rest)) := by
  obtain ⟨hle, n, r, h'', hrun, rfl, rfl⟩ := hE
  have hmo := am_run_mo false n 20 m' _ _ _ hrun
  obtain ⟨z1, z2⟩ := hmo.2.2.1 rfl
  have z1 : h''.length = h.length := z1
  have z2 : am_slt h'' = am_slt h := z2
  have hmt := List.mem_of_getElem? hm
  obtain ⟨hmx, hpl, hcls⟩ := am_okm_of hmt
  have hyy := am_y_of hm
  have hM := am_met (l := l) (w := w) hmt hle hrun hal (fun z => by rw [hal] at z; cases z) hA hlen
  rw [z1, z2, Nat.sub_self, Nat.sub_self] at hM
  have e0 : ae_s w 0 = ae_b w := am_sg_lt (by decide)
  have hvs : (Value.ref 0 :: As).map (am_v (ae_s w)) = Value.ref (ae_b w) :: As := by
    rw [List.map_cons, hAs]
    show Value.ref (ae_s w 0) :: As = _
    rw [e0]
  rw [hvs] at hM
  have htG : ∀ w ∈ am_G, w.before #[Value.ref b] s = true := fun w h => hts w (am_G_g w h).1
  have hfix : CallFix p m c code c.maxLocals s #[Value.ref b] am_G R_law := ⟨hx, hb, rfl, hown, htG⟩
  have hmk := List.all_eq_true.mp lw_ms_ok q hq
  simp only [lw_msk, Bool.and_eq_true, decide_eq_true_eq, bne_iff_ne, ne_eq, hyy] at hmk
  obtain ⟨⟨hmh, hvh⟩, hpar⟩ := hmk
  have w1 := hts _ (lw_in hq (w := .methodLink R_law q.1 (am_y q.2.1)) (by simp [lw_sw]))
  have w2 := hts _ (lw_in hq (w := .instanceMethod (am_y q.2.1)) (by simp [lw_sw]))
  have w3 := hts _ (lw_in hq (w := .selects (am_y q.2.1).cls (am_y q.2.1) (am_y q.2.1)) (by simp [lw_sw]))
  have w4 := hts _ (lw_in hq (w := .initialized (am_y q.2.1).cls) (by simp [lw_sw]))
  rw [hyy] at w1 w2 w3 w4
  have hRR : (am_rm 20 0 0).frames + 1 ≤ room_1.frames ∧ 8 + (m'.2.2.2.1 + 11) + (am_rm 20 0 0).locals ≤ room_1.locals := by
    show 20 + 8 + 1 ≤ 2048 ∧ 8 + (m'.2.2.2.1 + 11) + (40 * 20 + 400) ≤ 84000
    omega
  have hcw : CallW room_1 s #[Value.ref b] R_law m'.1.cls q.1 m'.1 m'.2.2.1 m'.2.2.2.1 m'.2.2.2.2.1 (am_cw m' :: am_G) (am_rm 20 0 0) 0 0 q.2.2 :=
    ⟨callB_of q.2.2 htG (am_G_cons hmt) rfl rfl rfl w4 w1 ⟨hmh, hvh, hpar⟩ hRR, w2, w3⟩
  have hat := am_W_at (f := ae_s w) (tc := ae_tc w) hfs
  have hrc := va_recv hK hP (am_cl_at hci) hat
  rw [am_nm_cl hci, ← hcls, e0] at hrc
  have hRf : cells + 0 ≤ room_1.cells ∧ slots + 0 ≤ room_1.slots := hc
  refine lw_wcall (va_runV (As := As) (rest := rest) hfix hM hcw ⟨am_blind w h _, hrc, lw_pre hK hSE hP hS (fun z => by rw [hal] at z; cases z) _⟩ rfl hn (hls.trans hml.symm) rfl (lv_room hr) hd hRf) hS hAA (fun H1 p1 p2 p3 p4 => ?_)
  exact kk H1 p1 z1 p3 p4
theorem lw_init {idx pc cells slots n d : Nat} {m' : aM} {h' : aH} {ls : Array Slot} {rest : List Value}
    (hx : p.tables.exec = Jvm.exec) (hb : c.code = code) (hml : c.maxLocals = 4) (hown : s.vm.findClass R_law = some m.cls) (hts : ∀ w ∈ lw_tbl, w.before #[Value.ref b] s = true)
    (hK : va_K (ae_D w) vwCl (am_tys (ae_tc w)) s) (hSE : am_SE (ae_A w) (ae_ts w) s s.heap) (hal : ae_al w = true) (hAA : ∀ q, ae_A w q → s.heap.size ≤ q) (hA1 : ∀ q, ae_b w ≤ q → ae_A w q) (hlen : h.length ≤ 100000)
    (hmt : m' ∈ am_tab) (hnam : m'.1.name = "<init>") (hret : m'.2.2.2.2.1 = none) (hd2 : m'.1.cls ≠ "java/lang/invoke/MethodHandle" ∧ m'.1.cls ≠ "java/lang/invoke/VarHandle" ∧ (parseMethodDescriptor m'.1.desc).map (fun d => d.parameters.length) = some 0)
    (w1 : Cond.methodLink R_law idx m'.1 ∈ lw_tbl) (w2 : Cond.instanceMethod m'.1 ∈ lw_tbl) (w4 : Cond.initialized m'.1.cls ∈ lw_tbl) (hdd : d ≤ 100)
    (hle : (am_en [.ref 0]).length ≤ m'.2.2.2.1) (hrun : am_run true n d m' (0, am_ent m' [.ref 0], [], h) = some (none, h')) (hP : va_P (ae_D w) vwCl (am_W (ae_s w) (ae_tc w) h) H) (hS : va_S (lw_A0 s) s.heap H []) (hsz : H.size = ae_b w + h.length) (hls : ls.size = 4) (hr : am_sum rest ≤ 8) (hd : decode code pc = .ok (.invokespecial idx, 3)) (hc : cells + (h'.length - h.length) ≤ 600000 ∧ slots + (am_slt h' - am_slt h) ≤ 7302250)
    (kk : ∀ H1 : Heap, va_P (ae_D w) vwCl (am_W (ae_s w) (ae_tc w) h') H1 → H1.size = ae_b w + h'.length → va_S (lw_A0 s) s.heap H1 [] → (∀ q, q < H.size → ¬ ae_A w q → H1[q]? = H[q]?) → W p l e room_1 s m #[Value.ref b] below meth c H1 [] (cells + (h'.length - h.length)) (slots + (am_slt h' - am_slt h)) Q (F0 m (pc + 3) ls rest)) : W p l e room_1 s m #[Value.ref b] below meth c H [] cells slots Q (F0 m pc ls (.ref (ae_b w) :: rest)) := by
  obtain ⟨hmx, hpl, hcls⟩ := am_okm_of hmt
  have hM := am_met (l := l) (w := w) hmt hle hrun hal (fun _ => hA1) (fun j _ => hA1 _ (Nat.le_add_right _ _)) hlen
  have e0 : ae_s w 0 = ae_b w := am_sg_lt (by decide)
  have hvs : [Value.ref 0].map (am_v (ae_s w)) = [Value.ref (ae_b w)] := by
    show [Value.ref (ae_s w 0)] = _
    rw [e0]
  rw [hvs] at hM
  have htG : ∀ w ∈ am_G, w.before #[Value.ref b] s = true := fun w h => hts w (am_G_g w h).1
  have hfix : CallFix p m c code c.maxLocals s #[Value.ref b] am_G R_law := ⟨hx, hb, rfl, hown, htG⟩
  have hcwm : am_cw m' = .code m'.1 m'.2.2.1 m'.2.2.2.1 none := by simp [am_cw, hret]
  have hRR : (am_rm d (h'.length - h.length) (am_slt h' - am_slt h)).frames + 1 ≤ room_1.frames ∧ 8 + (m'.2.2.2.1 + 11) + (am_rm d (h'.length - h.length) (am_slt h' - am_slt h)).locals ≤ room_1.locals := by
    show d + 8 + 1 ≤ 2048 ∧ 8 + (m'.2.2.2.1 + 11) + (40 * d + 400) ≤ 84000
    omega
  have hcw : CallB room_1 s #[Value.ref b] R_law idx m'.1 m'.2.2.1 m'.2.2.2.1 none (am_cw m' :: am_G) (am_rm d (h'.length - h.length) (am_slt h' - am_slt h)) (h'.length - h.length) (am_slt h' - am_slt h) 0 ∧ m'.1.name = "<init>" ∧ (Cond.instanceMethod m'.1).before #[Value.ref b] s = true :=
    ⟨callB_of 0 htG (am_G_cons hmt) (by rw [hcwm]) rfl rfl (hts _ w4) (hts _ w1) hd2 hRR, hnam, hts _ w2⟩
  refine lw_wcall (va_runI (As := []) (rest := rest) hfix hM hcw ⟨am_blind w h _, lw_pre hK hSE hP hS (fun _ => hsz) _⟩ rfl rfl (hls.trans hml.symm) rfl (lv_room hr) hd hc) hS hAA (fun H1 p1 p2 p3 p4 => ?_)
  exact kk H1 p1 (p2 hal) p3 p4
theorem lw_new {ci idx pc cells slots : Nat} {fs : List Value} {ls : Array Slot} {rest : List Value}
    (hx : p.tables.exec = Jvm.exec) (hb : c.code = code) (hown : s.vm.findClass R_law = some m.cls) (hts : ∀ w ∈ lw_tbl, w.before #[Value.ref b] s = true)
    (hK : va_K (ae_D w) vwCl (am_tys (ae_tc w)) s) (hci : ci < 10) (w1 : Cond.classLink R_law idx (am_cl ci).1 ∈ lw_tbl) (w2 : Cond.instantiable (am_cl ci).1 (am_cl ci).2.2 ∈ lw_tbl) (w3 : Cond.initialized (am_cl ci).1 ∈ lw_tbl)
    (ty0 : Nat → FieldType) (hty : ∀ k, k < (am_cl ci).2.2 → parseFieldDescriptor ((am_cl ci).2.1 k).2.2.1 = some (ty0 k)) (hdf : ∀ j, j < (am_cl ci).2.2 → defaultValue (ty0 j) = vp_V (fs.map (am_v (ae_s w))) j)
    (hS : va_S (lw_A0 s) s.heap H []) (hsz : H.size = ae_b w) (hd : decode code pc = .ok (.new idx, 3)) (hc : cells + 1 ≤ 600000 ∧ slots + (am_cl ci).2.2 ≤ 7302250)
    (kk : ∀ H1 : Heap, va_P (ae_D w) vwCl (am_W (ae_s w) (ae_tc w) [.inr (.inr (ci, fs))]) H1 → H1.size = ae_b w + 1 → va_S (lw_A0 s) s.heap H1 [] → (∀ q, q < H.size → H1[q]? = H[q]?) → W p l e room_1 s m #[Value.ref b] below meth c H1 [] (cells + 1) (slots + (am_cl ci).2.2) Q (F0 m (pc + 3) ls (.ref (ae_b w) :: rest))) : W p l e room_1 s m #[Value.ref b] below meth c H [] cells slots Q (F0 m pc ls rest) := by
  have htG : ∀ w ∈ am_G, w.before #[Value.ref b] s = true := fun w h => hts w (am_G_g w h).1
  have hcl := am_cl_at hci
  have hKn := hK.1 ci _ hcl
  have hinU : ∀ w ∈ u_ws (am_cl ci).1 (am_cl ci).2.1 (am_cl ci).2.2, w ∈ am_G := fun w hw => am_in_uw (List.mem_of_getElem? hcl) hw
  refine W.newcK hx hb hown (hts _ w1) (hts _ w2) (hts _ w3) rfl hd hc.1 hc.2 hKn.2.1 rfl fun H1 kC hkC f1 z1 o1 => ?_
  have e0 : ae_s w 0 = H.size := by rw [hsz]; exact am_sg_lt (by decide)
  have k1 := kk H1 (fun k q hq => ?_) (by rw [z1, hsz]) ⟨Nat.le_trans hS.1 (by omega), fun q h1 h2 => (o1 q (Nat.lt_of_lt_of_le h1 hS.1)).trans (hS.2.1 q h1 h2), fun q hq => by cases hq⟩ o1
  · rw [← hsz] at k1
    exact k1
  · have hk : k < 1 := (List.getElem?_eq_some_iff.mp hq).1
    rw [show k = 0 by omega] at hq
    cases hq
    show va_at (ae_D w) vwCl (ae_s w 0, am_e (ae_s w) (ae_tc w) (.inr (.inr (ci, fs)))) H1
    rw [e0]
    exact ⟨_, hcl, (u_born ty0 htG hinU hKn hkC f1 hty).to hdf⟩
end LWC
