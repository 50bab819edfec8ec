/-! what the law finds at its start -/
theorem lw_el {g : Cond} (off N : Nat) {f : Nat → Cond} (h : ((flatC g).drop off).take N = (List.range N).map f) : ∀ j, j < N → f j ∈ flatC g := by
  intro j hj
  have h1 : f j ∈ (List.range N).map f := List.mem_map_of_mem (List.mem_range.mpr hj)
  rw [← h] at h1
  exact List.mem_of_mem_drop (List.mem_of_mem_take h1)
def lw_g : Cond := Jvm.Cond.and given_1 narrow_1
def lw_st (j : Nat) : Term := .static RX8 (am_sn j) "[I"
def lw_tx : Term := .string RX8 68
def lw_vl : Term := .field lw_tx "java/lang/String" "value" "[B"
set_option maxRecDepth 20000 in
theorem lw_g0 : ((flatC lw_g).drop 41).take 155 = (List.range 155).map (fun j => Cond.eq (.elem (lw_st 0) (.int (Int32.ofNat j))) (.int (am_t0.getD j 0))) := by decide +kernel
set_option maxRecDepth 20000 in
theorem lw_g1 : ((flatC lw_g).drop 199).take 25 = (List.range 25).map (fun j => Cond.eq (.elem (lw_st 1) (.int (Int32.ofNat j))) (.int (am_t1.getD j 0))) := by decide +kernel
set_option maxRecDepth 20000 in
theorem lw_g2 : ((flatC lw_g).drop 12).take 26 = (List.range 26).map (fun j => Cond.eq (.elem (lw_st 2) (.int (Int32.ofNat j))) (.int (am_t2.getD j 0))) := by decide +kernel
set_option maxRecDepth 20000 in
theorem lw_g3 : ((flatC lw_g).drop 228).take 35 = (List.range 35).map (fun j => Cond.eq (.elem lw_vl (.int (Int32.ofNat j))) (.int (am_tx.getD j 0))) := by decide +kernel
def lw_gs : List Cond := [.arrayOf (lw_st 0) .int, .eq (.length (lw_st 0)) (.int 155), .arrayOf (lw_st 1) .int, .eq (.length (lw_st 1)) (.int 25), .arrayOf (lw_st 2) .int, .eq (.length (lw_st 2)) (.int 26), .eq (.static "java/lang/String" "COMPACT_STRINGS" "Z") (.int 1), .isRef (.static "jdk/internal/util/Preconditions" "SIOOBE_FORMATTER" "Ljava/util/function/BiFunction;"), .exactly lw_tx "java/lang/String", .eq (.field lw_tx "java/lang/String" "coder" "B") (.int 0), .arrayOf lw_vl .byte, .eq (.length lw_vl) (.int 35)]
set_option maxRecDepth 20000 in
theorem lw_gs_eq : lw_gs = [39, 40, 197, 198, 10, 11, 4, 5, 224, 225, 226, 227].filterMap (fun i => (flatC lw_g)[i]?) := by decide +kernel
theorem lw_gs_in {k : Nat} {w : Cond} (h : lw_gs[k]? = some w) : w ∈ flatC lw_g := by
  have h1 := List.mem_of_getElem? h
  rw [lw_gs_eq] at h1
  obtain ⟨i, -, hi⟩ := List.mem_filterMap.mp h1
  exact List.mem_of_getElem? hi
theorem am_SE.narrow {A B : Nat → Prop} {ts : Nat → Nat} {s : State} {H : Heap} (h : am_SE A ts s H) (hAB : ∀ q, B q → A q) : am_SE B ts s H := by
  obtain ⟨h1, h2, h3, h4, h5, h6, h7, h8⟩ := h
  exact ⟨h1, h2, h3, fun j hj => ⟨(h4 j hj).1.narrow hAB, (h4 j hj).2.narrow hAB⟩, h5, h6.narrow hAB, h7.narrow hAB, h8.narrow hAB⟩
theorem lw_SE {s : State} {b : Nat} (hts : ∀ w ∈ lw_tbl, w.before #[Value.ref b] s = true) (hgv : lw_g.before #[Value.ref b] s = true) : ∃ ts : Nat → Nat, am_SE (fun q => s.heap.size ≤ q) ts s s.heap := by
  have hA : ∀ a : Nat, a < s.heap.size → ¬ (fun q => s.heap.size ≤ q) a := fun a h => Nat.not_le.mpr h
  have hf := flat_of_before lw_g hgv
  have hi8 := hts _ (lw_o (k := 7) (w := .initialized RX8) rfl)
  obtain ⟨t0, e0, T0⟩ := va_Tof (tm := lw_st 0) (ty := .int) (N := 155) (f := fun j => .int (am_t0.getD j 0)) (A := fun q => s.heap.size ≤ q) (by decide) (hf _ (lw_gs_in (k := 0) rfl)) (va_eqt (hf _ (lw_gs_in (k := 1) rfl))) (fun j hj => va_eqt (hf _ (lw_el 41 155 lw_g0 j hj))) hA
  obtain ⟨t1, e1, T1⟩ := va_Tof (tm := lw_st 1) (ty := .int) (N := 25) (f := fun j => .int (am_t1.getD j 0)) (A := fun q => s.heap.size ≤ q) (by decide) (hf _ (lw_gs_in (k := 2) rfl)) (va_eqt (hf _ (lw_gs_in (k := 3) rfl))) (fun j hj => va_eqt (hf _ (lw_el 199 25 lw_g1 j hj))) hA
  obtain ⟨t2, e2, T2⟩ := va_Tof (tm := lw_st 2) (ty := .int) (N := 26) (f := fun j => .int (am_t2.getD j 0)) (A := fun q => s.heap.size ≤ q) (by decide) (hf _ (lw_gs_in (k := 4) rfl)) (va_eqt (hf _ (lw_gs_in (k := 5) rfl))) (fun j hj => va_eqt (hf _ (lw_el 12 26 lw_g2 j hj))) hA
  have Z0 := va_Zof (C := RX8) (n := "POINTING") (d := "[I") (A := fun q => s.heap.size ≤ q) (hts _ (lw_o (k := 1) rfl)) hi8 e0 hA
  have Z1 := va_Zof (C := RX8) (n := "LETTER_BETWEEN") (d := "[I") (A := fun q => s.heap.size ≤ q) (hts _ (lw_o (k := 2) rfl)) hi8 e1 hA
  have Z2 := va_Zof (C := RX8) (n := "SPELLING") (d := "[I") (A := fun q => s.heap.size ≤ q) (hts _ (lw_o (k := 3) rfl)) hi8 e2 hA
  have one : ∀ i : Nat, i < 1 → i = 0 := fun i h => by omega
  obtain ⟨adK, adV, hS, hR⟩ := vk_Sof (N := 1) (tm := fun _ => lw_tx) (len := [35]) (byt := [am_tx]) (A := fun q => s.heap.size ≤ q) (fun i h => by rw [one i h]; decide) (fun i _ => hf _ (lw_gs_in (k := 8) rfl)) (fun i _ => hf _ (lw_gs_in (k := 9) rfl)) (fun i _ => hf _ (lw_gs_in (k := 10) rfl)) (fun i h => by rw [one i h]; exact hf _ (lw_gs_in (k := 11) rfl)) (fun i h j hj => by rw [one i h] at hj ⊢; exact hf _ (lw_el 228 35 lw_g3 j hj)) (fun i j h1 h2 h3 => absurd ((one i h1).trans (one j h2).symm) h3) hA
  have hR0 := hR 0 (by decide)
  refine ⟨fun j => if j = 0 then t0 else if j = 1 then t1 else if j = 2 then t2 else if j = 3 then adK 0 else adV 0, ?_, ?_, ?_, ?_, ?_, ?_, ?_, ?_⟩
  · intro q hq hk
    refine va_Nw.of rfl (hts _ (lw_nest (lw_nw q) (List.mem_map_of_mem (List.mem_filter.mpr ⟨hq, ?_⟩))))
    rcases hk with hk | hk <;> simp [hk]
  · intro q hq hk
    exact va_Nw.of rfl (hts _ (lw_fnest (lw_fw q) (List.mem_map_of_mem (List.mem_filter.mpr ⟨hq, hk⟩))))
  · exact va_AO.of (hts _ (lw_o (k := 0) rfl))
  · intro j hj
    have hj3 : j = 0 ∨ j = 1 ∨ j = 2 := by omega
    rcases hj3 with rfl | rfl | rfl
    · exact ⟨Z0, T0⟩
    · exact ⟨Z1, T1⟩
    · exact ⟨Z2, T2⟩
  · exact vk_R.of (hts _ (lw_o (k := 6) rfl)) hR0
  · refine ⟨fun i h => ?_, fun i j h1 h2 _ => (one i h1).trans (one j h2).symm⟩
    have h0 := hS.1 0 (by decide)
    rw [one i h]
    exact h0
  · exact va_Zof (hts _ (lw_o (k := 4) rfl)) (hts _ (lw_o (k := 9) rfl)) (va_eqi (hf _ (lw_gs_in (k := 6) rfl))) hA
  · exact va_Zqof (hts _ (lw_o (k := 5) rfl)) (hts _ (lw_o (k := 10) rfl)) (hf _ (lw_gs_in (k := 7) rfl)) hA
/-- the classes and the array classes -/
theorem lw_cl {s : State} {b : Nat} (hts : ∀ w ∈ lw_tbl, w.before #[Value.ref b] s = true) {k : Nat} (hk : k < 10) : ∃ x : ClassId × (Nat → Nat), u_Kn s (am_cl k).1 (am_cl k).2.1 (am_cl k).2.2 x.1 x.2 := by
  have htG : ∀ w ∈ am_G, w.before #[Value.ref b] s = true := fun w h => hts w (am_G_g w h).1
  have hin : ∀ w ∈ u_ws (am_cl k).1 (am_cl k).2.1 (am_cl k).2.2, w ∈ am_G := fun w hw => am_in_uw (List.mem_of_getElem? (am_cl_at hk)) hw
  have hi : ∃ n, (Cond.instantiable (am_cl k).1 n) ∈ lw_tbl := by
    match k, hk with
    | 0, _ => exact ⟨4, lw_o (k := 13) rfl⟩
    | 1, _ => exact ⟨4, lw_o (k := 14) rfl⟩
    | 2, _ => exact ⟨2, lw_o (k := 15) rfl⟩
    | 3, _ => exact ⟨7, lw_o (k := 16) rfl⟩
    | 4, _ => exact ⟨3, lw_o (k := 17) rfl⟩
    | 5, _ => exact ⟨5, lw_o (k := 18) rfl⟩
    | 6, _ => exact ⟨2, lw_o (k := 19) rfl⟩
    | 7, _ => exact ⟨6, lw_o (k := 20) rfl⟩
    | 8, _ => exact ⟨9, lw_o (k := 21) rfl⟩
    | 9, _ => exact ⟨29, lw_o (k := 22) rfl⟩
  obtain ⟨n, hn⟩ := hi
  obtain ⟨cC, iS, h⟩ := u_known htG hin (hts _ hn)
  exact ⟨(cC, iS), h⟩
theorem lw_K {s : State} {b : Nat} (hts : ∀ w ∈ lw_tbl, w.before #[Value.ref b] s = true) : ∃ (D : va_G) (tc : Nat → ClassId), va_K D vwCl (am_tys tc) s := by
  have htG : ∀ w ∈ am_G, w.before #[Value.ref b] s = true := fun w h => hts w (am_G_g w h).1
  have h0 : ∀ k : Nat, ∃ x : ClassId × (Nat → Nat), k < 10 → u_Kn s (am_cl k).1 (am_cl k).2.1 (am_cl k).2.2 x.1 x.2 := by
    intro k
    by_cases hk : k < 10
    · obtain ⟨x, hx⟩ := lw_cl hts hk
      exact ⟨x, fun _ => hx⟩
    · exact ⟨(0, fun _ => 0), fun h => absurd h hk⟩
  obtain ⟨f, hf⟩ := Classical.axiomOfChoice h0
  have arr : ∀ ty : FieldType, Cond.arrayClass ty ∈ am_xw → (∀ cA, va_RA s cA ty = (s.vm.findClass ("[" ++ ty.toString) = some cA)) → ∃ cA : ClassId, ArrOfT s cA ty ∧ va_RA s cA ty := by
    intro ty hty he
    obtain ⟨cA, kA, comp, a1, a2, a3⟩ := Cond.arrayClass_spec (htG _ (am_in_xw hty))
    exact ⟨cA, fun N z => ⟨fun k h => (by cases h), kA, a2, comp, a3⟩, by rw [he]; exact a1⟩
  obtain ⟨c0, k0⟩ := arr .int (by decide) (fun _ => rfl)
  obtain ⟨c1, k1⟩ := arr .char (by decide) (fun _ => rfl)
  obtain ⟨c2, k2⟩ := arr .byte (by decide) (fun _ => rfl)
  obtain ⟨comp, c3, kA, b1, b2, b3, b4, b5⟩ := Cond.arrayOver_spec (hts _ (lw_o (k := 0) (w := .arrayOver (.object RX3)) rfl))
  refine ⟨(fun k => (f k).1, fun k => (f k).2), fun k => if k = 0 then c0 else if k = 1 then c1 else if k = 2 then c2 else c3, ?_, ?_⟩
  · intro k q hq
    have hk : k < 10 := (List.getElem?_eq_some_iff.mp hq).1
    have e := am_cl_at hk
    rw [e] at hq
    cases hq
    exact hf k hk
  · intro k q hq
    have hk : k < 4 := (List.getElem?_eq_some_iff.mp hq).1
    have h4 : k = 0 ∨ k = 1 ∨ k = 2 ∨ k = 3 := by omega
    rcases h4 with rfl | rfl | rfl | rfl
    · cases hq; exact k0
    · cases hq; exact k1
    · cases hq; exact k2
    · cases hq; exact ⟨fun N z => ⟨fun k h => (by cases h), kA, b3, comp, b4⟩, kA, comp, b3, b4, b1, b5⟩
