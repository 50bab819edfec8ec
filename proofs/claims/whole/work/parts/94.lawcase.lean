/-! the law: its loop. What stands ahead of lw_Cx is the skeleton's -/
def lw_P (b : Addr) (xs : List Int32) (args : Array Value) (s : State) : Prop := args = #[.ref b] ∧ s.IntsAt b xs ∧ xs.length ≤ 2560 ∧ (Jvm.Cond.and given_1 narrow_1).before args s = true
def lw_Q (_ : Array Value) (s : State) (o : Outcome) (t : State) : Prop := o = .returned (some (.int 1)) ∧ Framed s o t [] 600000 7302250
def lw_Z (below : List Frame) (a : Array Value) (s : State) : State → Prop := fun t => ∃ o, t.status = .running ∧ Ended t below o ∧ lw_Q a s o t
/-- the law's own end, with 1 on the stack, nothing written that was there before, its room as the claim has it -/
theorem lw_ret {p : Program} {l : Launch} {e : Env} {s : State} {m : MethodId} {below : List Frame} {meth : Method} {c : Code} {b : Nat} (hx : p.tables.exec = Jvm.exec) (hb : c.code = code) (hr : meth.sig.returnType = ret) (hlocks : meth.locks = false) {pc : Nat} {H : Heap} {ls : Array Slot} (hdg : decode code pc = .ok (.ireturn, 1)) : W p l e room_1 s m #[Value.ref b] below meth c H [] 600000 7302250 (lw_Z below #[Value.ref b] s) (F0 m pc ls [.int 1]) := by
  intro T hT X
  obtain ⟨fs, hret, hrun, hended, hW, hframe⟩ := X.leave (v := some (.int 1)) (hlocks := hlocks) (fun h => by rw [hr] at h; cases h)
  have hmeth' : T.vm.method? m = some meth := X.method'
  refine ⟨T.setFrames fs, ?_, .returned (some (.int 1)), hrun, hended, rfl, ⟨_, rfl⟩, hW, hframe⟩
  jvm_step X.here [X.here.top, hx, hb, hdg, hmeth', hr, ret, narrow_b1]
  (try refine ⟨rfl, ?_⟩); (try refine ⟨rfl, ?_⟩)
  first | (intro acts; rw [hret _ acts rfl rfl rfl]) | rw [hret _ _ rfl rfl rfl]
  exact Steps.refl _
/-- what holds at the law's entry: the machine, the code, the tables' words (any of lw_tbl by 'hts w (by decide +kernel)'), the script of L ints xs at the cell b, what the Statement gives of the start (any of its parts by flat_of_before) -/
def lw_At (p : Program) (s : State) (m : MethodId) (meth : Method) (c : Code) (b L : Nat) (xs : Nat → Int32) : Prop :=
  p.tables.exec = Jvm.exec ∧ c.code = code ∧ meth.sig.returnType = ret ∧ c.maxLocals = 4 ∧ s.vm.findClass R_law = some m.cls ∧ (∀ w ∈ lw_tbl, w.before #[Value.ref b] s = true) ∧ va_X b L xs s s.heap ∧ b < s.heap.size ∧ meth.locks = false ∧ (Jvm.Cond.and given_1 narrow_1).before #[Value.ref b] s = true
/-- what holds all through the law -/
def lw_Cx (p : Program) (s : State) (m : MethodId) (meth : Method) (c : Code) (b L : Nat) (xs : Nat → Int32) (ts : Nat → Nat) (D : va_G) (tc : Nat → ClassId) : Prop :=
  (p.tables.exec = Jvm.exec ∧ c.code = code ∧ c.maxLocals = 4 ∧ s.vm.findClass R_law = some m.cls ∧ (∀ w ∈ lw_tbl, w.before #[Value.ref b] s = true)) ∧ (va_K D vwCl (am_tys tc) s ∧ am_SE (lw_A0 s) ts s s.heap) ∧ (va_X b L xs s s.heap ∧ b < s.heap.size ∧ L ≤ 2560) ∧ meth.sig.returnType = ret ∧ meth.locks = false
abbrev lw_w1 (s : State) (ts : Nat → Nat) (D : va_G) (tc : Nat → ClassId) : aE := (false, s.heap.size, ts, fun q => s.heap.size ≤ q ∧ q < s.heap.size + 92, D, tc, 0, 0, 0, 0)
abbrev lw_w2 (s : State) (ts : Nat → Nat) (D : va_G) (tc : Nat → ClassId) : aE := (false, s.heap.size + 92, ts, fun q => s.heap.size + 92 ≤ q, D, tc, 0, 0, 0, 0)
/-- both worlds -/
def lw_J (s : State) (ts : Nat → Nat) (D : va_G) (tc : Nat → ClassId) (hx hm : aH) (H : Heap) : Prop := va_S (lw_A0 s) s.heap H [] ∧ va_P D vwCl (am_W (am_sg s.heap.size ts) tc hx) H ∧ va_P D vwCl (am_W (am_sg (s.heap.size + 92) ts) tc hm) H ∧ hx.length = 92 ∧ hm.length = 21
theorem lw_key {base : Nat} {ts : Nat → Nat} {tc : Nat → ClassId} {h : aH} {k : Nat} {q : Nat × va_E} (hl : h.length ≤ 100000) (hq : (am_W (am_sg base ts) tc h)[k]? = some q) : k < h.length ∧ q.1 = base + k := by
  rw [am_W_get] at hq
  cases hi : h[k]? with
  | none => rw [hi] at hq; cases hq
  | some c =>
    rw [hi] at hq
    cases hq
    have h1 : k < h.length := (List.getElem?_eq_some_iff.mp hi).1
    exact ⟨h1, am_sg_lt (by omega)⟩
/-- the arguments of a call -/
def lw_as (xs : Nat → Int32) (i n : Nat) : List Value := (List.range n).map (fun j => Value.int (xs (i + 1 + j)))
theorem lw_as_v (xs : Nat → Int32) (i n : Nat) (f : Nat → Nat) : (lw_as xs i n).map (am_v f) = lw_as xs i n := by
  unfold lw_as
  rw [List.map_map]
  rfl
theorem lw_as_l (xs : Nat → Int32) (i n : Nat) : (lw_as xs i n).length = n := by simp [lw_as]
theorem lw_as_s (xs : Nat → Int32) (i n : Nat) : (lw_as xs i (n + 1)).reverse = Value.int (xs (i + (n + 1))) :: (lw_as xs i n).reverse := by
  rw [show i + (n + 1) = i + 1 + n by omega]
  simp [lw_as, List.range_succ]
theorem lw_ic {n : Nat} (h : n < 4) : Int32.ofInt ((n + 1 : Nat) : Int) = nI (n + 1) := by
  have h4 : n = 0 ∨ n = 1 ∨ n = 2 ∨ n = 3 := by omega
  rcases h4 with rfl | rfl | rfl | rfl <;> decide
theorem RELn_0x {hx hm : aH} (R : RELn hx hm) : ∃ fs, hx[0]? = some (.inr (.inr (8, fs))) := by
  obtain ⟨V, z, y, X, M, -⟩ := R
  exact ⟨_, X.1.2⟩
theorem RELn_0m {hx hm : aH} (R : RELn hx hm) : ∃ fs, hm[0]? = some (.inr (.inr (9, fs))) := by
  obtain ⟨V, z, y, X, M, -⟩ := R
  obtain ⟨nw, be, ge, re, rl, br, pt, wo, -, rfl⟩ := M
  exact ⟨_, rfl⟩
section LWL
variable {p : Program} {l : Launch} {e : Env} {s : State} {m : MethodId} {below : List Frame} {meth : Method} {c : Code} {b L : Nat} {xs : Nat → Int32} {ts : Nat → Nat} {D : va_G} {tc : Nat → ClassId} {Q : State → Prop}
variable {hx hm : aH} {H : Heap} {cells slots i : Nat} {ls : Array Slot}
theorem lw_c1 {q : Nat × Nat × Nat} {m' : aM} {n : Nat} {v : Int32} {hx' : aH} {pc : Nat} {rest : List Value} (C : lw_Cx p s m meth c b L xs ts D tc) (J : lw_J s ts D tc hx hm H) (hc : cells ≤ 600000 ∧ slots ≤ 7302250)
    (hq : q ∈ lw_ms) (hq2 : q.2.2 = n) (hm' : am_tab[q.2.1]? = some m') (h8 : m'.2.1 = 8) (hf : ∃ fs, hx[0]? = some (.inr (.inr (8, fs)))) (hE : Ec 20 m' (.ref 0 :: lw_as xs i n) hx (rt (.int v) hx')) (hls : ls.size = 4) (hr : am_sum rest ≤ 8) (hd : decode code pc = .ok (.invokevirtual q.1, 3))
    (kk : ∀ H1 : Heap, lw_J s ts D tc hx' hm H1 → W p l e room_1 s m #[Value.ref b] below meth c H1 [] cells slots Q (F0 m (pc + 3) ls (.int v :: rest))) : W p l e room_1 s m #[Value.ref b] below meth c H [] cells slots Q (F0 m pc ls ((lw_as xs i n).reverse ++ .ref s.heap.size :: rest)) := by
  obtain ⟨⟨hxe, hb, hml, hown, hts⟩, ⟨hK, hSE⟩, -, -, -⟩ := C
  obtain ⟨hS, hP, hP2, l1, l2⟩ := J
  obtain ⟨fs, hfs⟩ := hf
  rw [← h8] at hfs
  refine lw_call (w := lw_w1 s ts D tc) hxe hb hml hown hts hK (hSE.narrow (fun q z => z.1)) rfl (fun q z => z.1) (fun j hj => ⟨Nat.le_add_right _ _, ?_⟩) (by omega) hq hm' (by omega) hfs (lw_as_v xs i n _) ((lw_as_l xs i n).trans hq2.symm) hE hP hS hls hr hd hc (fun H1 p1 z p3 p4 => kk H1 ⟨p3, p1, hP2.kept (fun k q hk => ?_), z.trans l1, l2⟩)
  · show s.heap.size + j < s.heap.size + 92
    omega
  · obtain ⟨k1, k2⟩ := lw_key (by omega) hk
    refine p4 q.1 ((hP2 k q hk).lt) (fun z => ?_)
    have z2 : q.1 < s.heap.size + 92 := z.2
    omega
theorem lw_c2 {q : Nat × Nat × Nat} {m' : aM} {n : Nat} {v : Int32} {hm2 : aH} {pc : Nat} {rest : List Value} (C : lw_Cx p s m meth c b L xs ts D tc) (J : lw_J s ts D tc hx hm H) (hc : cells ≤ 600000 ∧ slots ≤ 7302250)
    (hq : q ∈ lw_ms) (hq2 : q.2.2 = n) (hm' : am_tab[q.2.1]? = some m') (h9 : m'.2.1 = 9) (hf : ∃ fs, hm[0]? = some (.inr (.inr (9, fs)))) (hE : Ec 20 m' (.ref 0 :: lw_as xs i n) hm (rt (.int v) hm2)) (hls : ls.size = 4) (hr : am_sum rest ≤ 8) (hd : decode code pc = .ok (.invokevirtual q.1, 3))
    (kk : ∀ H1 : Heap, lw_J s ts D tc hx hm2 H1 → W p l e room_1 s m #[Value.ref b] below meth c H1 [] cells slots Q (F0 m (pc + 3) ls (.int v :: rest))) : W p l e room_1 s m #[Value.ref b] below meth c H [] cells slots Q (F0 m pc ls ((lw_as xs i n).reverse ++ .ref (s.heap.size + 92) :: rest)) := by
  obtain ⟨⟨hxe, hb, hml, hown, hts⟩, ⟨hK, hSE⟩, -, -, -⟩ := C
  obtain ⟨hS, hP, hP2, l1, l2⟩ := J
  obtain ⟨fs, hfs⟩ := hf
  rw [← h9] at hfs
  have up : ∀ q : Nat, s.heap.size + 92 ≤ q → s.heap.size ≤ q := fun q z => by omega
  refine lw_call (w := lw_w2 s ts D tc) hxe hb hml hown hts hK (hSE.narrow up) rfl up (fun j hj => Nat.le_add_right _ _) (by omega) hq hm' (by omega) hfs (lw_as_v xs i n _) ((lw_as_l xs i n).trans hq2.symm) hE hP2 hS hls hr hd hc (fun H1 p1 z p3 p4 => kk H1 ⟨p3, hP.kept (fun k q hk => ?_), p1, l1, z.trans l2⟩)
  obtain ⟨k1, k2⟩ := lw_key (by omega) hk
  refine p4 q.1 ((hP k q hk).lt) (fun z => ?_)
  have z2 : s.heap.size + 92 ≤ q.1 := z
  omega
theorem lw_ld {r1 r2 : Nat} {pc : Nat} {rest : List Value} (C : lw_Cx p s m meth c b L xs ts D tc) (hS : va_S (lw_A0 s) s.heap H []) (hl : lv_has ls 4 [(0, .ref b), (1, .ref r1), (2, .ref r2), (3, .int (nI i))]) : ∀ n : Nat, n ≤ 4 → i + n < L → (∀ j, j < n → (lw_ab (pc + 5 * j) (j + 1)).all lw_dk = true) → W p l e room_1 s m #[Value.ref b] below meth c H [] cells slots Q (F0 m (pc + 5 * n) ls ((lw_as xs i n).reverse ++ rest)) → W p l e room_1 s m #[Value.ref b] below meth c H [] cells slots Q (F0 m pc ls rest)
  | 0, _, _, _, k => k
  | n + 1, hn, hi, hd, k => by
    refine lw_ld C hS hl n (by omega) (by omega) (fun j hj => hd j (by omega)) ?_
    obtain ⟨⟨hxe, hb, hml, hown, hts⟩, -, ⟨hX, hbl, hL⟩, -, -⟩ := C
    have hbA : ¬ lw_A0 s b := Nat.not_le.mpr hbl
    have h5 := List.all_eq_true.mp (hd n (by omega))
    have d0 := lw_dk_d (h5 (pc + 5 * n, .aload_n 0, 1) (by simp [lw_ab]))
    have d1 := lw_dk_d (h5 (pc + 5 * n + 1, .iload_n 3, 1) (by simp [lw_ab]))
    have d2 := lw_dk_d (h5 (pc + 5 * n + 2, .iconst ((n + 1 : Nat) : Int), 1) (by simp [lw_ab]))
    have d3 := lw_dk_d (h5 (pc + 5 * n + 3, .iadd, 1) (by simp [lw_ab]))
    have d4 := lw_dk_d (h5 (pc + 5 * n + 4, .iaload, 1) (by simp [lw_ab]))
    have ee : pc + 5 * (n + 1) = pc + 5 * n + 5 := by omega
    rw [ee, lw_as_s] at k
    refine lv_aload_n hxe hb d0 rfl (lv_at hl 0 rfl) ?_
    refine lv_iload_n hxe hb d1 rfl (lv_at hl 3 rfl) ?_
    refine lv_iconst (v := nI (n + 1)) hxe hb d2 (lw_ic (by omega)) ?_
    refine lv_iadd hxe hb d3 ?_
    rw [nI_add]
    refine va_sld hxe hb hX hbl hbA hS (vp_in_nI (by omega) (by omega)) d4 ?_
    rw [nI_clamp (by omega)]
    exact k
theorem lw_case {p0 n c1 c2 k1 k2 : Nat} {m1 m2 : aM} (C : lw_Cx p s m meth c b L xs ts D tc) (hc : cells ≤ 600000 ∧ slots ≤ 7302250) (hbc : lw_bc (p0, n, c1, c2) = true) (hq1 : (c1, k1, n) ∈ lw_ms) (hq2 : (c2, k2, n) ∈ lw_ms) (hm1 : am_tab[k1]? = some m1) (hm2 : am_tab[k2]? = some m2) (e8 : m1.2.1 = 8) (e9 : m2.2.1 = 9) (hn : n ≤ 4) (hi : i + 5 ≤ L)
    (R : RELn hx hm) (J : lw_J s ts D tc hx hm H) (hl : lv_has ls 4 [(0, .ref b), (1, .ref s.heap.size), (2, .ref (s.heap.size + 92)), (3, .int (nI i))]) (S : SIM m1 m2 (lw_as xs i n) hx hm)
    (kk : ∀ (hx' hm' : aH) (H1 : Heap), lw_J s ts D tc hx' hm' H1 → RELn hx' hm' → W p l e room_1 s m #[Value.ref b] below meth c H1 [] cells slots Q (F0 m 1123 ls [])) : W p l e room_1 s m #[Value.ref b] below meth c H [] cells slots Q (F0 m p0 ls []) := by
  obtain ⟨v, hx', hm', E1, E2, R'⟩ := S
  have C' := C
  obtain ⟨⟨hxe, hb, hml, hown, hts⟩, -, -, -, -⟩ := C'
  obtain ⟨b1, b2⟩ := (Bool.and_eq_true _ _).mp hbc
  have hk := List.all_eq_true.mp b1
  have hj := List.all_eq_true.mp b2
  have d0 := lw_dk_d (hk (p0, .aload_n 1, 1) (by simp [lw_bk]))
  have d1 := lw_dk_d (hk (p0 + 1 + 5 * n, .invokevirtual c1, 3) (by simp [lw_bk]))
  have d2 := lw_dk_d (hk (p0 + 1 + 5 * n + 3, .aload_n 2, 1) (by simp [lw_bk]))
  have d3 := lw_dk_d (hk (p0 + 1 + 5 * n + 3 + 1 + 5 * n, .invokevirtual c2, 3) (by simp [lw_bk]))
  have d4 := lw_dk_d (hk (p0 + 1 + 5 * n + 3 + 1 + 5 * n + 3, .if_icmp .eq (1123 - ((p0 + 1 + 5 * n + 3 + 1 + 5 * n + 3 : Nat) : Int)), 3) (by simp [lw_bk]))
  refine lv_aload_n hxe hb d0 rfl (lv_at hl 1 rfl) ?_
  refine lw_ld C J.1 hl n hn (by omega) (fun j h => ((Bool.and_eq_true _ _).mp (hj j (List.mem_range.mpr h))).1) ?_
  refine lw_c1 C J hc hq1 rfl hm1 e8 (RELn_0x R) E1 hl.1 (by decide) d1 (fun H1 J1 => ?_)
  refine lv_aload_n hxe hb d2 rfl (lv_at hl 2 rfl) ?_
  refine lw_ld C J1.1 hl n hn (by omega) (fun j h => ((Bool.and_eq_true _ _).mp (hj j (List.mem_range.mpr h))).2) ?_
  refine lw_c2 C J1 hc hq2 rfl hm2 e9 (RELn_0m R) E2 hl.1 (show 1 + 0 ≤ 8 by decide) d3 (fun H2 J2 => ?_)
  refine lv_icmp_eq (tgt := 1123) hxe hb d4 (by omega) (fun _ => ?_) (fun z => absurd rfl z)
  exact kk hx' hm' H2 J2 R'
end LWL
