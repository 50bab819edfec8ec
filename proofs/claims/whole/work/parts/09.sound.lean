section AMS
variable {w : aE} {m0 : aM} {d : Nat} {p : Program} {l : Launch} {e : Env} {R : Room} {s : State} {m : MethodId} {args : Array Value} {below : List Frame} {meth : Method} {c : Code} {Q : State → Prop}
variable {pc np r : Nat} {L : aL} {S : List Value} {h : aH} {k' : aK}
theorem am_nm_cl {ci : Nat} (h : ci < 10) : (am_cl ci).1 = am_nm ci := by
  match ci, h with
  | 0, _ => rfl
  | 1, _ => rfl
  | 2, _ => rfl
  | 3, _ => rfl
  | 4, _ => rfl
  | 5, _ => rfl
  | 6, _ => rfl
  | 7, _ => rfl
  | 8, _ => rfl
  | 9, _ => rfl
theorem am_blind (w : aE) (h : aH) (vs : List Value) : FrameBlind (va_Pc vs (am_B w h)) := fun a U g mk q => ⟨q.1, q.2.1, va_K.moved (u := U) (U := U.calling g mk a) (Vm.Alike.refl U.vm) q.2.2.1, am_SE.same (U := U.calling g mk a) q.2.2.2.1 rfl, q.2.2.2.2⟩
theorem am_pre (C : am_Cx w m0 d p l e R s m args below meth c) {H : Heap} {locs : List Loc} {cells slots : Nat} (hp : am_Hp w s h H locs cells slots) (vs : List Value) : ∀ U : State, U.heap = H → s.WarmedH U.vm → va_Pc vs (am_B w h) vs.toArray U := by
  intro U hU hW
  obtain ⟨hx, hb, hr, hml, hown, hts, hK, hSE, -⟩ := C
  refine ⟨rfl, by rw [hU]; exact hp.2.1, va_K.moved hW.alike hK, ?_, by rw [hU]; exact hp.2.2.2.2.2⟩
  rw [hU]
  exact hSE.go hW (fun a h1 h2 => hp.2.2.1.2.1 a h1 h2)
theorem am_okm_of {m' : aM} (hm : m' ∈ am_tab) : m'.2.2.2.1 ≤ 20 ∧ plainName m'.1.cls = true ∧ m'.1.cls = am_nm m'.2.1 := by
  have h1 := am_mem_ok hm
  simp only [am_okm, Bool.and_eq_true, decide_eq_true_eq] at h1
  exact ⟨h1.1.2, h1.2.1, h1.2.2⟩
theorem am_y_of {k : Nat} {m' : aM} (h : am_tab[k]? = some m') : am_y k = m'.1 := by simp [am_y, List.getD, h]
/-- behind a call -/
theorem am_behind {rv : Option Value} {h' : aH} {H : Heap} {locs : List Loc} {cells slots : Nat} {ls : Array Slot} {rest : List Value} (hA1 : ae_al w = true → ∀ q, ae_b w ≤ q → ae_A w q) (hmo : am_Mo (ae_al w) h h') (hn1 : h'.length ≤ ae_n1 w) (hz1 : am_slt h' ≤ ae_z1 w) (hp : am_Hp w s h H locs cells slots) (hl : lv_has ls c.maxLocals (am_lv (ae_s w) L)) (g : am_Gl w p l e R s m args below meth c Q (np, L, rv.toList ++ rest, h')) (H1 : Heap) (locs1 : List Loc) (hP : va_P (ae_D w) vwCl (am_W (ae_s w) (ae_tc w) h') H1) (hsz : ae_al w = true → H1.size = ae_b w + h'.length) (hS : va_S (ae_A w) s.heap H1 locs1) : W p l e R s m args below meth c H1 locs1 (cells + (h'.length - h.length)) (slots + (am_slt h' - am_slt h)) Q (F0 m np ls ((rv.map (am_v (ae_s w))).toList ++ rest.map (am_v (ae_s w)))) := by
  obtain ⟨⟨a1, a2, a3, a4⟩, a5, a6, a7, a8, a9⟩ := hp
  obtain ⟨b1, b2, b3, b4⟩ := hmo
  have c1 : cells + (h'.length - h.length) + ae_n0 w = h'.length := by omega
  have c2 : slots + (am_slt h' - am_slt h) + ae_z0 w = am_slt h' := by omega
  have g1 := g ls H1 locs1 (cells + (h'.length - h.length)) (slots + (am_slt h' - am_slt h)) ⟨⟨hn1, hz1, c1, c2⟩, hP, hS, ?_, b4 a8, hsz⟩ hl
  · cases rv with
    | none => exact g1
    | some v => exact g1
  · intro j hj
    have hj : j < h'.length := hj
    cases hal : ae_al w with
    | true => exact hA1 hal _ (by omega)
    | false => exact a7 j (by have := (b3 hal).1; omega)
theorem am_take {n : Nat} {as : List Value} (has : (S.take n).reverse = as) : S = as.reverse ++ S.drop n := by
  rw [← has, List.reverse_reverse, List.take_append_drop]
section AMI
variable {q : Nat × Nat × Nat × Nat × Nat} {m' : aM} {as : List Value} {rv : Option Value} {h' : aH} {d' : Nat}
theorem so_inv (C : am_Cx w m0 (d' + 1) p l e R s m args below meth c) (hq : am_ms[r]? = some q) (hq1 : q.1 = m0.2.1) (i : Instr) (hd : decode m0.2.2.1 pc = .ok (i, 3))
    (hi : (i = .invokevirtual q.2.1 ∧ q.2.2.2.1 = 0) ∨ (i = .invokestatic q.2.1 ∧ (q.2.2.2.1 = 1 ∨ q.2.2.2.1 = 4)) ∨ (i = .invokespecial q.2.1 ∧ (q.2.2.2.1 = 2 ∨ q.2.2.2.1 = 5)))
    (hs : am_call q (pc + 3) L S h = some (.inr (.inr (q.2.2.1, as, k')))) (hm : am_tab[q.2.2.1]? = some m')
    (hM : Met l m'.1 (am_cw m' :: am_G) (am_rm d' (h'.length - h.length) (am_slt h' - am_slt h)) (va_Pc (as.map (am_v (ae_s w))) (am_B w h)) (am_Q w rv h') (h'.length - h.length) (am_slt h' - am_slt h) (ae_A w))
    (hmo : am_Mo (ae_al w) h h') (hn1 : h'.length ≤ ae_n1 w) (hz1 : am_slt h' ≤ ae_z1 w)
    (g : am_Gl w p l e R s m args below meth c Q (k'.1, k'.2.1, rv.toList ++ k'.2.2.1, h')) : am_Gl w p l e R s m args below meth c Q (pc, L, S, h) := by
  have hmem := List.mem_of_getElem? hq
  have hmt := List.mem_of_getElem? hm
  obtain ⟨hmx, hpl, hcls⟩ := am_okm_of hmt
  have hyy := am_y_of hm
  have hmk := List.all_eq_true.mp am_ms_ok q hmem
  intro ls H locs cells slots hp hl
  have CC := C
  obtain ⟨hx, hb, hr, hml, hown, hts, hK, hSE, hlk, hnm, hA1, ⟨hR0, hR3, hR1, hR2⟩, hm0⟩ := C
  have hp0 : h.length ≤ ae_n1 w ∧ am_slt h ≤ ae_z1 w ∧ cells + ae_n0 w = h.length ∧ slots + ae_z0 w = am_slt h := hp.1
  have hb1 := hmo.1
  have hb2 := hmo.2.1
  have hRR : (am_rm d' (h'.length - h.length) (am_slt h' - am_slt h)).frames + 1 ≤ R.frames ∧ 8 + (m'.2.2.2.1 + 11) + (am_rm d' (h'.length - h.length) (am_slt h' - am_slt h)).locals ≤ R.locals := by
    simp only [am_rm]; omega
  have hRf : cells + (h'.length - h.length) ≤ R.cells ∧ slots + (am_slt h' - am_slt h) ≤ R.slots := by omega
  have hSs := hp.2.2.1
  have hfix : CallFix p m c m0.2.2.1 c.maxLocals s args am_G (am_nm m0.2.1) := ⟨hx, hb, rfl, hown, hts⟩
  have hGc := am_G_cons hmt
  unfold am_call at hs
  · rcases hi with ⟨rfl, hk⟩ | ⟨rfl, hk | hk⟩ | ⟨rfl, hk | hk⟩
    · simp only [hk, am_msk, Bool.and_eq_true, decide_eq_true_eq, bne_iff_ne, ne_eq, hyy] at hmk
      obtain ⟨⟨⟨-, hmh⟩, hvh⟩, hpar⟩ := hmk
      simp only [hk] at hs
      simp only [show ((0 : Nat) = 1 ∨ (0 : Nat) = 4 ∨ (0 : Nat) = 9 ∨ (0 : Nat) = 10) ↔ False from by decide, if_false] at hs
      split at hs
      case isFalse => cases hs
      rename_i hlen
      split at hs
      · rename_i b As has
        split at hs
        · rename_i ci fs hfs
          split at hs
          · rename_i hci
            obtain ⟨hb5, hci⟩ := hci
            simp only [Option.some.injEq, Sum.inr.injEq, Prod.mk.injEq] at hs
            obtain ⟨-, rfl, rfl⟩ := hs
            rw [hm] at hci
            have hci : m'.2.1 = ci := by simpa using hci
            have hat := am_W_at (f := ae_s w) (tc := ae_tc w) hfs
            obtain ⟨rr, hrr, -⟩ := hp.2.1 b _ hat
            have hci10 : ci < 10 := (List.getElem?_eq_some_iff.mp hrr).1
            have hS := am_take has
            simp only [has] at hM g ⊢
            have hnA : As.length = q.2.2.2.2 := by
              have h1 := congrArg List.length has
              simp at h1; omega
            have w1 := hts _ (am_in_ms hmem (w := .methodLink (am_nm q.1) q.2.1 (am_y q.2.2.1)) (by simp [am_sw, hk]))
            have w2 := hts _ (am_in_ms hmem (w := .instanceMethod (am_y q.2.2.1)) (by simp [am_sw, hk]))
            have w3 := hts _ (am_in_ms hmem (w := .selects (am_y q.2.2.1).cls (am_y q.2.2.1) (am_y q.2.2.1)) (by simp [am_sw, hk]))
            have w4 := hts _ (am_in_ms hmem (w := .initialized (am_y q.2.2.1).cls) (by simp [am_sw, hk]))
            rw [hyy] at w1 w2 w3 w4
            rw [hq1] at w1
            have hcw : CallW R s args (am_nm m0.2.1) m'.1.cls q.2.1 m'.1 m'.2.2.1 m'.2.2.2.1 m'.2.2.2.2.1 (am_cw m' :: am_G) (am_rm d' (h'.length - h.length) (am_slt h' - am_slt h)) (h'.length - h.length) (am_slt h' - am_slt h) q.2.2.2.2 :=
              ⟨callB_of q.2.2.2.2 hts hGc rfl rfl rfl w4 w1 ⟨hmh, hvh, hpar⟩ hRR, w2, w3⟩
            have hrc := va_recv hK hp.2.1 (am_cl_at hci10) hat
            rw [am_nm_cl hci10, ← hci, ← hcls] at hrc
            refine am_wcall (va_runV (As := As.map (am_v (ae_s w))) (rest := (S.drop (q.2.2.2.2 + 1)).map (am_v (ae_s w))) hfix hM hcw ⟨am_blind w h _, hrc, am_pre CC hp _⟩ rfl (by rw [List.length_map]; exact hnA) hl.1 ?_ (lv_room (by rw [am_v_sum]; exact hlen.2)) hd hRf) hSs (am_behind hA1 hmo hn1 hz1 hp hl g)
            show S.map (am_v (ae_s w)) = _
            conv => lhs; rw [hS]
            simp [am_v]
          · cases hs
        · cases hs
      · cases hs
    · simp only [hk, am_msk, Bool.and_eq_true, decide_eq_true_eq, bne_iff_ne, ne_eq, hyy] at hmk
      obtain ⟨⟨⟨-, hmh⟩, hvh⟩, hpar⟩ := hmk
      simp only [hk] at hs
      simp at hs
      obtain ⟨hlen, has, rfl⟩ := hs
      have hS := am_take has
      have hnA : as.length = q.2.2.2.2 := by
        have h1 := congrArg List.length has
        simp at h1; omega
      have w1 := hts _ (am_in_ms hmem (w := .methodLink (am_nm q.1) q.2.1 (am_y q.2.2.1)) (by simp [am_sw, hk]))
      have w2 := hts _ (am_in_ms hmem (w := .static (am_y q.2.2.1)) (by simp [am_sw, hk]))
      have w4 := hts _ (am_in_ms hmem (w := .initialized (am_y q.2.2.1).cls) (by simp [am_sw, hk]))
      rw [hyy] at w1 w2 w4
      rw [hq1] at w1
      have hcw : CallB R s args (am_nm m0.2.1) q.2.1 m'.1 m'.2.2.1 m'.2.2.2.1 m'.2.2.2.2.1 (am_cw m' :: am_G) (am_rm d' (h'.length - h.length) (am_slt h' - am_slt h)) (h'.length - h.length) (am_slt h' - am_slt h) q.2.2.2.2 ∧ (Cond.static m'.1).before args s = true :=
        ⟨callB_of q.2.2.2.2 hts hGc rfl rfl rfl w4 w1 ⟨hmh, hvh, hpar⟩ hRR, w2⟩
      refine am_wcall (va_runS (As := as.map (am_v (ae_s w))) (rest := (S.drop q.2.2.2.2).map (am_v (ae_s w))) hfix hM hcw ⟨am_blind w h _, am_pre CC hp _⟩ rfl (by rw [List.length_map]; exact hnA) hl.1 ?_ (lv_room (by rw [am_v_sum]; exact hlen.2)) hd hRf) hSs (am_behind hA1 hmo hn1 hz1 hp hl g)
      show S.map (am_v (ae_s w)) = _
      conv => lhs; rw [hS]
      simp
    · simp only [hk, am_msk, Bool.and_eq_true, decide_eq_true_eq, bne_iff_ne, ne_eq, hyy] at hmk
      obtain ⟨⟨⟨-, hmh⟩, hvh⟩, hpar⟩ := hmk
      simp only [hk] at hs
      simp at hs
      obtain ⟨hlen, has, rfl⟩ := hs
      have hS := am_take has
      have hnA : as.length = q.2.2.2.2 := by
        have h1 := congrArg List.length has
        simp at h1; omega
      have w1 := hSE.1 q hmem (Or.inl hk)
      have w2 := hts _ (am_in_ms hmem (w := .static (am_y q.2.2.1)) (by simp [am_sw, hk]))
      have w4 := hts _ (am_in_ms hmem (w := .initialized (am_y q.2.2.1).cls) (by simp [am_sw, hk]))
      rw [hyy] at w1 w2 w4
      rw [hq1] at w1
      refine am_wcall (va_runSN (As := as.map (am_v (ae_s w))) (rest := (S.drop q.2.2.2.2).map (am_v (ae_s w))) hfix hM ⟨va_cnB q.2.2.2.2 hts hGc rfl rfl rfl w1 w4 ⟨hmh, hvh, hpar⟩ hRR, w2, trivial⟩ ⟨am_blind w h _, am_pre CC hp _⟩ rfl (by rw [List.length_map]; exact hnA) hl.1 ?_ (lv_room (by rw [am_v_sum]; exact hlen.2)) hd hRf) hSs (am_behind hA1 hmo hn1 hz1 hp hl g)
      show S.map (am_v (ae_s w)) = _
      conv => lhs; rw [hS]
      simp
    · simp only [hk, am_msk, Bool.and_eq_true, decide_eq_true_eq, bne_iff_ne, ne_eq, hyy, hm, Option.map_some, beq_iff_eq, Option.some.injEq] at hmk
      obtain ⟨⟨⟨⟨⟨-, hmh⟩, hvh⟩, hpar⟩, hnam⟩, hret⟩ := hmk
      simp only [hk] at hs
      simp only [show ((2 : Nat) = 1 ∨ (2 : Nat) = 4 ∨ (2 : Nat) = 9 ∨ (2 : Nat) = 10) ↔ False from by decide, if_false] at hs
      split at hs
      case isFalse => cases hs
      rename_i hlen
      split at hs
      · rename_i b As has
        simp only [Option.some.injEq, Sum.inr.injEq, Prod.mk.injEq, true_and] at hs
        obtain ⟨rfl, rfl⟩ := hs
        have hS := am_take has
        simp only [has] at hM g ⊢
        have hnA : As.length = q.2.2.2.2 := by
          have h1 := congrArg List.length has
          simp at h1; omega
        have w1 := hts _ (am_in_ms hmem (w := .methodLink (am_nm q.1) q.2.1 (am_y q.2.2.1)) (by simp [am_sw, hk]))
        have w2 := hts _ (am_in_ms hmem (w := .instanceMethod (am_y q.2.2.1)) (by simp [am_sw, hk]))
        have w4 := hts _ (am_in_ms hmem (w := .initialized (am_y q.2.2.1).cls) (by simp [am_sw, hk]))
        rw [hyy] at w1 w2 w4
        rw [hq1] at w1
        have hcwm : am_cw m' = .code m'.1 m'.2.2.1 m'.2.2.2.1 none := by simp [am_cw, hret]
        have hcw : CallB R s args (am_nm m0.2.1) q.2.1 m'.1 m'.2.2.1 m'.2.2.2.1 none (am_cw m' :: am_G) (am_rm d' (h'.length - h.length) (am_slt h' - am_slt h)) (h'.length - h.length) (am_slt h' - am_slt h) q.2.2.2.2 ∧ m'.1.name = "<init>" ∧ (Cond.instanceMethod m'.1).before args s = true :=
          ⟨callB_of q.2.2.2.2 hts hGc (by rw [hcwm]) rfl rfl w4 w1 ⟨hmh, hvh, hpar⟩ hRR, hnam, w2⟩
        refine am_wcall (va_runI (As := As.map (am_v (ae_s w))) (rest := (S.drop (q.2.2.2.2 + 1)).map (am_v (ae_s w))) hfix hM hcw ⟨am_blind w h _, am_pre CC hp _⟩ rfl (by rw [List.length_map]; exact hnA) hl.1 ?_ (lv_room (by rw [am_v_sum]; exact hlen.2)) hd hRf) hSs (am_behind hA1 hmo hn1 hz1 hp hl g)
        show S.map (am_v (ae_s w)) = _
        conv => lhs; rw [hS]
        simp [am_v]
      · cases hs
    · simp only [hk, am_msk, Bool.and_eq_true, decide_eq_true_eq, bne_iff_ne, ne_eq, hyy, hm, Option.map_some, beq_iff_eq, Option.some.injEq] at hmk
      obtain ⟨⟨⟨⟨⟨-, hmh⟩, hvh⟩, hpar⟩, hnam⟩, hret⟩ := hmk
      simp only [hk] at hs
      simp only [show ((5 : Nat) = 1 ∨ (5 : Nat) = 4 ∨ (5 : Nat) = 9 ∨ (5 : Nat) = 10) ↔ False from by decide, if_false] at hs
      split at hs
      case isFalse => cases hs
      rename_i hlen
      split at hs
      · rename_i b As has
        simp only [Option.some.injEq, Sum.inr.injEq, Prod.mk.injEq, true_and] at hs
        obtain ⟨rfl, rfl⟩ := hs
        have hS := am_take has
        simp only [has] at hM g ⊢
        have hnA : As.length = q.2.2.2.2 := by
          have h1 := congrArg List.length has
          simp at h1; omega
        have w1 := hSE.1 q hmem (Or.inr hk)
        have w2 := hts _ (am_in_ms hmem (w := .instanceMethod (am_y q.2.2.1)) (by simp [am_sw, hk]))
        have w4 := hts _ (am_in_ms hmem (w := .initialized (am_y q.2.2.1).cls) (by simp [am_sw, hk]))
        rw [hyy] at w1 w2 w4
        rw [hq1] at w1
        have hcwm : am_cw m' = .code m'.1 m'.2.2.1 m'.2.2.2.1 none := by simp [am_cw, hret]
        refine am_wcall (va_runIN (As := As.map (am_v (ae_s w))) (rest := (S.drop (q.2.2.2.2 + 1)).map (am_v (ae_s w))) hfix hM ⟨va_cnB q.2.2.2.2 hts hGc (by rw [hcwm]) rfl rfl w1 w4 ⟨hmh, hvh, hpar⟩ hRR, hnam, w2⟩ ⟨am_blind w h _, am_pre CC hp _⟩ rfl (by rw [List.length_map]; exact hnA) hl.1 ?_ (lv_room (by rw [am_v_sum]; exact hlen.2)) hd hRf) hSs (am_behind hA1 hmo hn1 hz1 hp hl g)
        show S.map (am_v (ae_s w)) = _
        conv => lhs; rw [hS]
        simp [am_v]
      · cases hs
end AMI
end AMS
