section AMN
variable {w : aE} {m0 : aM} {d : Nat} {p : Program} {l : Launch} {e : Env} {R : Room} {s : State} {m : MethodId} {args : Array Value} {below : List Frame} {meth : Method} {c : Code} {Q : State → Prop}
variable {pc np r : Nat} {L : aL} {S : List Value} {h : aH} {k' : aK}
theorem am_cs_lt : ∀ q ∈ am_cs, q.2.2 < 8 := by decide
theorem am_df_ok {ci : Nat} (hc : ci < 8) (f : Nat → Nat) : ∃ ty0 : Nat → FieldType, (∀ k, k < (am_cl ci).2.2 → parseFieldDescriptor ((am_cl ci).2.1 k).2.2.1 = some (ty0 k)) ∧ (∀ j, j < (am_cl ci).2.2 → defaultValue (ty0 j) = vp_V ((am_df ci).map (am_v f)) j) ∧ (am_df ci).length = (am_cl ci).2.2 := by
  match ci, hc with
  | 0, _ => exact ⟨tyX0, tyX0_ok, fun j hj => by rcases (show j = 0 ∨ j = 1 ∨ j = 2 ∨ j = 3 from by have : j < 4 := hj; omega) with rfl | rfl | rfl | rfl <;> rfl, rfl⟩
  | 1, _ => exact ⟨tyX1, tyX1_ok, fun j hj => by rcases (show j = 0 ∨ j = 1 ∨ j = 2 ∨ j = 3 from by have : j < 4 := hj; omega) with rfl | rfl | rfl | rfl <;> rfl, rfl⟩
  | 2, _ => exact ⟨tyX2, tyX2_ok, fun j hj => by rcases (show j = 0 ∨ j = 1 from by have : j < 2 := hj; omega) with rfl | rfl <;> rfl, rfl⟩
  | 3, _ => exact ⟨tyX3, tyX3_ok, fun j hj => by rcases (show j = 0 ∨ j = 1 ∨ j = 2 ∨ j = 3 ∨ j = 4 ∨ j = 5 ∨ j = 6 from by have : j < 7 := hj; omega) with rfl | rfl | rfl | rfl | rfl | rfl | rfl <;> rfl, rfl⟩
  | 4, _ => exact ⟨tyX4, tyX4_ok, fun j hj => by rcases (show j = 0 ∨ j = 1 ∨ j = 2 from by have : j < 3 := hj; omega) with rfl | rfl | rfl <;> rfl, rfl⟩
  | 5, _ => exact ⟨tyX5, tyX5_ok, fun j hj => by rcases (show j = 0 ∨ j = 1 ∨ j = 2 ∨ j = 3 ∨ j = 4 from by have : j < 5 := hj; omega) with rfl | rfl | rfl | rfl | rfl <;> rfl, rfl⟩
  | 6, _ => exact ⟨tyX6, tyX6_ok, fun j hj => by rcases (show j = 0 ∨ j = 1 from by have : j < 2 := hj; omega) with rfl | rfl <;> rfl, rfl⟩
  | 7, _ => exact ⟨tyX7, tyX7_ok, fun j hj => by rcases (show j = 0 ∨ j = 1 ∨ j = 2 ∨ j = 3 ∨ j = 4 ∨ j = 5 from by have : j < 6 := hj; omega) with rfl | rfl | rfl | rfl | rfl | rfl <;> rfl, rfl⟩
/-- a cell more -/
theorem am_Hp.app {h : aH} {H H1 : Heap} {locs : List Loc} {cells slots : Nat} {c2 : aC} (hp : am_Hp w s h H locs cells slots) (hal : ae_al w = true) (hA1 : ∀ q, ae_b w ≤ q → ae_A w q) (hlt : h.length < 99999) (hn1 : (h ++ [c2]).length ≤ ae_n1 w) (hz1 : am_slt (h ++ [c2]) ≤ ae_z1 w) (hz : H1.size = H.size + 1) (ho : ∀ q, q < H.size → H1[q]? = H[q]?) (hc : va_at (ae_D w) vwCl (H.size, am_e (ae_s w) (ae_tc w) c2) H1) : am_Hp w s (h ++ [c2]) H1 locs (cells + 1) (slots + am_sz c2) := by
  obtain ⟨⟨a1, a2, a3, a4⟩, a5, a6, a7, a8, a9⟩ := hp
  have hsz := a9 hal
  have hsg : ae_s w h.length = H.size := by rw [hsz]; exact am_sg_lt (by omega)
  refine ⟨⟨hn1, hz1, ?_, ?_⟩, ?_, ?_, ?_, ?_, ?_⟩
  · rw [List.length_append]; simp; omega
  · rw [am_slt_app]; omega
  · rw [am_W_app, hsg]
    refine va_P.app (a5.kept (fun k q hq => ho q.1 ((a5 k q hq).lt))) (fun k q hq => ?_)
    have hz2 : k < 1 := (List.getElem?_eq_some_iff.mp hq).1
    rw [show k = 0 by omega] at hq
    cases hq
    exact hc
  · exact ⟨Nat.le_trans a6.1 (by omega), fun q h1 h2 => (ho q (Nat.lt_of_lt_of_le h1 a6.1)).trans (a6.2.1 q h1 h2), a6.2.2⟩
  · intro j hj; exact hA1 _ (by omega)
  · rw [List.length_append]; simp; omega
  · intro _; rw [hz, hsz, List.length_append]; simp; omega
theorem so_new {q : Nat × Nat × Nat} (C : am_Cx w m0 d p l e R s m args below meth c) (hq : am_cs[r]? = some q) (hq1 : q.1 = m0.2.1) (hd : decode m0.2.2.1 pc = .ok (.new q.2.1, 3)) (hs : am_new (ae_al w) r (pc + 3) L S h = some (.inl k')) (hn1 : k'.2.2.2.length ≤ ae_n1 w) (hz1 : am_slt k'.2.2.2 ≤ ae_z1 w) (g : am_Gl w p l e R s m args below meth c Q k') : am_Gl w p l e R s m args below meth c Q (pc, L, S, h) := by
  unfold am_new at hs
  rw [hq] at hs
  simp only at hs
  split at hs
  · rename_i hc
    obtain ⟨hal, hlt⟩ := hc
    cases hs
    have hmem := List.mem_of_getElem? hq
    have hci := am_cs_lt q hmem
    obtain ⟨ty0, hty, hdf, hlen⟩ := am_df_ok hci (ae_s w)
    intro ls H locs cells slots hp hl
    obtain ⟨hx, hb, hr, hml, hown, hts, hK, hSE, -, -, hA1, ⟨-, -, hR1, hR2⟩, -⟩ := C
    have hcl := am_cl_at (ci := q.2.2) (by omega)
    have hKn := hK.1 q.2.2 _ hcl
    have hinU : ∀ w ∈ u_ws (am_cl q.2.2).1 (am_cl q.2.2).2.1 (am_cl q.2.2).2.2, w ∈ am_G := fun w hw => am_in_uw (List.mem_of_getElem? hcl) hw
    have w1 := hts _ (am_in_cs hmem (List.mem_cons_self))
    have w2 := hts _ (am_in_cs hmem (List.mem_cons_of_mem _ List.mem_cons_self))
    have w3 := hts _ (am_in_cs hmem (List.mem_cons_of_mem _ (List.mem_cons_of_mem _ List.mem_cons_self)))
    rw [hq1] at w1
    have hp0 : h.length ≤ ae_n1 w ∧ am_slt h ≤ ae_z1 w ∧ cells + ae_n0 w = h.length ∧ slots + ae_z0 w = am_slt h := hp.1
    have e1 : (h ++ [(Sum.inr (Sum.inr (q.2.2, am_df q.2.2)) : aC)]).length = h.length + 1 := by simp
    have e2 := am_slt_app h (.inr (.inr (q.2.2, am_df q.2.2)))
    have e3 : am_sz (.inr (.inr (q.2.2, am_df q.2.2))) = (am_cl q.2.2).2.2 := hlen
    have hn1' : h.length + 1 ≤ ae_n1 w := by rw [← e1]; exact hn1
    have hz1' : am_slt h + (am_cl q.2.2).2.2 ≤ ae_z1 w := by rw [← e3, ← e2]; exact hz1
    refine W.newcK hx hb hown w1 w2 w3 rfl hd (by omega) (by omega) hKn.2.1 rfl fun H1 kC hkC f1 z1 o1 => ?_
    have hsz := hp.2.2.2.2.2 hal
    have hsg : ae_s w h.length = H.size := by rw [hsz]; exact am_sg_lt (by omega)
    have hp1 := am_Hp.app hp hal (hA1 hal) hlt hn1 hz1 z1 o1 ⟨_, hcl, (u_born ty0 hts hinU hKn hkC f1 hty).to hdf⟩
    rw [e3] at hp1
    have g1 := g ls H1 locs _ _ hp1 hl
    simp only [List.map_cons, am_v, hsg] at g1
    exact g1
  · cases hs
theorem so_newa {t : ArrayType} (C : am_Cx w m0 d p l e R s m args below meth c) (hd : decode m0.2.2.1 pc = .ok (.newarray t, 2)) (hs : am_newa (ae_al w) t (pc + 2) L S h = some (.inl k')) (hn1 : k'.2.2.2.length ≤ ae_n1 w) (hz1 : am_slt k'.2.2.2 ≤ ae_z1 w) (g : am_Gl w p l e R s m args below meth c Q k') : am_Gl w p l e R s m args below meth c Q (pc, L, S, h) := by
  unfold am_newa at hs
  split at hs
  · rename_i n S'
    split at hs
    · rename_i tg htg
      split at hs
      · rename_i hc
        obtain ⟨hal, hlt, hn0, hN⟩ := hc
        cases hs
        intro ls H locs cells slots hp hl
        obtain ⟨hx, hb, hr, hml, hown, hts, hK, hSE, -, -, hA1, ⟨-, -, hR1, hR2⟩, -⟩ := C
        have hp0 : h.length ≤ ae_n1 w ∧ am_slt h ≤ ae_z1 w ∧ cells + ae_n0 w = h.length ∧ slots + ae_z0 w = am_slt h := hp.1
        have e1 : (h ++ [(Sum.inl (tg, List.replicate n.toNatClampNeg 0) : aC)]).length = h.length + 1 := by simp
        have e2 := am_slt_app h (.inl (tg, List.replicate n.toNatClampNeg 0))
        have e3 : am_sz (.inl (tg, List.replicate n.toNatClampNeg 0)) = n.toNatClampNeg := by simp [am_sz]
        have hn1' : h.length + 1 ≤ ae_n1 w := by rw [← e1]; exact hn1
        have hz1' : am_slt h + n.toNatClampNeg ≤ ae_z1 w := by rw [← e3, ← e2]; exact hz1
        have hty : ∃ ty : FieldType, newarray.typeOf t = ty ∧ ((tg = 0 ∧ ty = .int) ∨ (tg = 1 ∧ ty = .char) ∨ (tg = 2 ∧ ty = .byte)) ∧ Cond.arrayClass ty ∈ am_xw ∧ defaultValue ty = .int 0 ∧ componentBytes ty ≤ 4 ∧ ∀ cA, va_RA s cA ty = (s.vm.findClass ("[" ++ ty.toString) = some cA) := by
          cases t <;> simp only [am_tag] at htg <;> first | cases htg | skip
          · exact ⟨.char, rfl, Or.inr (Or.inl ⟨rfl, rfl⟩), by decide, rfl, by decide, fun _ => rfl⟩
          · exact ⟨.byte, rfl, Or.inr (Or.inr ⟨rfl, rfl⟩), by decide, rfl, by decide, fun _ => rfl⟩
          · exact ⟨.int, rfl, Or.inl ⟨rfl, rfl⟩, by decide, rfl, by decide, fun _ => rfl⟩
        obtain ⟨ty, ht1, ht2, ht3, ht4, ht5, ht6⟩ := hty
        refine va_newaK hx hb (by rw [ht1]; exact hts _ (am_in_xw ht3)) rfl hd rfl hn0 rfl (by rw [ht1]; have := Nat.mul_le_mul (Nat.le_of_lt hN) ht5; omega) (by omega) (by omega) rfl fun H1 cA f1 z1 o1 hAr hNm => ?_
        rw [ht1] at f1 hNm
        have hKt := (hK.2 tg _ (am_ty_at (ae_tc w) ht2)).2
        rw [ht6] at hKt
        have hcA : ae_tc w tg = cA := Option.some.inj (hKt.symm.trans hNm)
        have hsz := hp.2.2.2.2.2 hal
        have hsg : ae_s w h.length = H.size := by rw [hsz]; exact am_sg_lt (by omega)
        have hat : va_at (ae_D w) vwCl (H.size, am_e (ae_s w) (ae_tc w) (.inl (tg, List.replicate n.toNatClampNeg 0))) H1 := by
          show H1[H.size]? = some (vp_cell _ _)
          rw [f1, vp_cell_i, ht4, hcA]
          simp [List.getD, List.getElem?_replicate]
          congr 1
          funext j
          split <;> rfl
        have hp1 := am_Hp.app hp hal (hA1 hal) hlt hn1 hz1 z1 o1 hat
        rw [e3] at hp1
        have g1 := g ls H1 locs _ _ hp1 hl
        simp only [List.map_cons, am_v, hsg] at g1
        exact g1
      · cases hs
    · cases hs
  · cases hs
theorem so_anew {q : Nat × Nat × Nat} (C : am_Cx w m0 d p l e R s m args below meth c) (hq : am_cs[r]? = some q) (hq1 : q.1 = m0.2.1) (hd : decode m0.2.2.1 pc = .ok (.anewarray q.2.1, 3)) (hs : am_anew (ae_al w) r (pc + 3) L S h = some (.inl k')) (hn1 : k'.2.2.2.length ≤ ae_n1 w) (hz1 : am_slt k'.2.2.2 ≤ ae_z1 w) (g : am_Gl w p l e R s m args below meth c Q k') : am_Gl w p l e R s m args below meth c Q (pc, L, S, h) := by
  unfold am_anew at hs
  split at hs
  · rename_i n S'
    rw [hq] at hs
    simp only at hs
    split at hs
    · rename_i hc
      obtain ⟨hal, hq3, hlt, hn0, hN⟩ := hc
      cases hs
      have hmem := List.mem_of_getElem? hq
      intro ls H locs cells slots hp hl
      obtain ⟨hx, hb, hr, hml, hown, hts, hK, hSE, -, -, hA1, ⟨-, -, hR1, hR2⟩, -⟩ := C
      have w1 := hts _ (am_in_cs hmem (List.mem_cons_self))
      rw [hq1, hq3] at w1
      have hp0 : h.length ≤ ae_n1 w ∧ am_slt h ≤ ae_z1 w ∧ cells + ae_n0 w = h.length ∧ slots + ae_z0 w = am_slt h := hp.1
      have e1 : (h ++ [(Sum.inr (Sum.inl (List.replicate n.toNatClampNeg none)) : aC)]).length = h.length + 1 := by simp
      have e2 := am_slt_app h (.inr (.inl (List.replicate n.toNatClampNeg none)))
      have e3 : am_sz (.inr (.inl (List.replicate n.toNatClampNeg none))) = n.toNatClampNeg := by simp [am_sz]
      have hn1' : h.length + 1 ≤ ae_n1 w := by rw [← e1]; exact hn1
      have hz1' : am_slt h + n.toNatClampNeg ≤ ae_z1 w := by rw [← e3, ← e2]; exact hz1
      refine W.anew hx hb hown w1 (va_AO.use hSE.2.2.1) rfl hd rfl hn0 (by omega) (by omega) (by omega) fun cA kA comp f1 f2 f3 f4 => ?_
      generalize hH1 : H.push ({ cls := cA, slots := Array.replicate n.toNatClampNeg .null, vm := .none } : Cell) = H1
      have z1 : H1.size = H.size + 1 := by rw [← hH1, Array.size_push]
      have ee1 : H1[H.size]? = some (arrV cA n.toNatClampNeg (fun _ => .null)) := by rw [← hH1, Array.getElem?_push_size, ← arrV_new]
      have o1 : ∀ q : Nat, q < H.size → H1[q]? = H[q]? := fun q hq => by rw [← hH1, Array.getElem?_push, if_neg (Nat.ne_of_lt hq)]
      obtain ⟨kA', comp', r1, r2, r3, r4⟩ := (hK.2 3 (ae_tc w 3, .object RX3) rfl).2
      have hcA : ae_tc w 3 = cA := Option.some.inj (r4.symm.trans f1)
      have hsz := hp.2.2.2.2.2 hal
      have hsg : ae_s w h.length = H.size := by rw [hsz]; exact am_sg_lt (by omega)
      have hat : va_at (ae_D w) vwCl (H.size, am_e (ae_s w) (ae_tc w) (.inr (.inl (List.replicate n.toNatClampNeg none)))) H1 := by
        show H1[H.size]? = some (vp_cell _ _)
        rw [ee1, vp_cell_q, hcA]
        simp [List.getD, List.getElem?_replicate]
        congr 1
        funext j
        split <;> rfl
      have hp1 := am_Hp.app hp hal (hA1 hal) hlt hn1 hz1 z1 o1 hat
      rw [e3] at hp1
      have g1 := g ls H1 locs _ _ hp1 hl
      simp only [List.map_cons, am_v, hsg] at g1
      exact g1
    · cases hs
  · cases hs
/-! calls -/
def am_B (w : aE) (h : aH) (U : State) : Prop := va_P (ae_D w) vwCl (am_W (ae_s w) (ae_tc w) h) U.heap ∧ va_K (ae_D w) vwCl (am_tys (ae_tc w)) U ∧ am_SE (ae_A w) (ae_ts w) U U.heap ∧ (ae_al w = true → U.heap.size = ae_b w + h.length)
def am_Q (w : aE) (rv : Option Value) (h' : aH) : Array Value → State → Outcome → State → Prop := fun _ st oc t => oc = .returned (rv.map (am_v (ae_s w))) ∧ va_P (ae_D w) vwCl (am_W (ae_s w) (ae_tc w) h') t.heap ∧ (ae_al w = true → t.heap.size = ae_b w + h'.length) ∧ va_F (ae_A w) st t
def am_rm (d mc ms : Nat) : Room := { frames := d + 8, cells := mc, slots := ms, locals := 40 * d + 400 }
theorem am_wcall {rv : Option Value} {h' : aH} {H : Heap} {locs : List Loc} {cells slots mc ms : Nat} {ls : Array Slot} {st0 rest : List Value} {a : Array Value} (hr : va_Run p l e R s m args below meth c H locs cells slots mc ms (F0 m pc ls st0) rest (am_Q w rv h' a) (ae_A w)) (hS : va_S (ae_A w) s.heap H locs)
    (kk : ∀ (H1 : Heap) (locs1 : List Loc), va_P (ae_D w) vwCl (am_W (ae_s w) (ae_tc w) h') H1 → (ae_al w = true → H1.size = ae_b w + h'.length) → va_S (ae_A w) s.heap H1 locs1 → W p l e R s m args below meth c H1 locs1 (cells + mc) (slots + ms) Q (F0 m (pc + 3) ls ((rv.map (am_v (ae_s w))).toList ++ rest))) : W p l e R s m args below meth c H locs cells slots Q (F0 m pc ls st0) := by
  intro T hT X
  obtain ⟨v, st₀, t, T', L, h0, X', hL, e1, e2, ⟨hv, hP, hsz, hz, hk⟩, st⟩ := hr T hT X
  cases hv
  rw [h0] at hz hk
  obtain ⟨t2, a1, b1⟩ := kk T'.heap (locs ++ L) (by rw [e1]; exact hP) (by rw [e1]; exact hsz)
    ⟨Nat.le_trans hS.1 (by rw [e1]; exact hz), fun q h1 h2 => by rw [e1, hk q (Nat.lt_of_lt_of_le h1 hS.1) h2]; exact hS.2.1 q h1 h2, fun q hq => by
      rcases List.mem_append.mp hq with h | h
      · exact hS.2.2 q h
      · exact hL q h⟩ T' rfl X'
  exact ⟨t2, st t2 a1, b1⟩
/-- what a run does to the number of cells and slots -/
def am_Mo (al : Bool) (h h' : aH) : Prop := h.length ≤ h'.length ∧ am_slt h ≤ am_slt h' ∧ (al = false → h'.length = h.length ∧ am_slt h' = am_slt h) ∧ (h.length ≤ 100000 → h'.length ≤ 100000)
theorem am_Mo.rf {al : Bool} {h : aH} : am_Mo al h h := ⟨Nat.le_refl _, Nat.le_refl _, fun _ => ⟨rfl, rfl⟩, id⟩
theorem am_Mo.trans {al : Bool} {a b c : aH} (h1 : am_Mo al a b) (h2 : am_Mo al b c) : am_Mo al a c := ⟨Nat.le_trans h1.1 h2.1, Nat.le_trans h1.2.1 h2.2.1, fun q => ⟨(h2.2.2.1 q).1.trans (h1.2.2.1 q).1, (h2.2.2.1 q).2.trans (h1.2.2.1 q).2⟩, fun q => h2.2.2.2 (h1.2.2.2 q)⟩
theorem am_Mo.set {al : Bool} {h : aH} {k : Nat} {c c' : aC} (hk : h[k]? = some c) (hz : am_sz c' = am_sz c) : am_Mo al h (h.set k c') := by
  have e1 : (h.set k c').length = h.length := List.length_set
  have e2 := am_slt_set hk hz
  exact ⟨by omega, by omega, fun _ => ⟨e1, e2⟩, fun q => by omega⟩
theorem am_Mo.app {al : Bool} {h : aH} {c : aC} (hal : al = true) (hl : h.length < 99999) : am_Mo al h (h ++ [c]) := by
  have e1 : (h ++ [c]).length = h.length + 1 := by simp
  have e2 := am_slt_app h c
  exact ⟨by omega, by omega, fun q => (by rw [hal] at q; cases q), fun q => (by omega)⟩
end AMN
