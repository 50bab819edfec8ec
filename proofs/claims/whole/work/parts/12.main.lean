section AMT
variable {w : aE} {m0 : aM} {d : Nat} {p : Program} {l : Launch} {e : Env} {R : Room} {s : State} {m : MethodId} {args : Array Value} {below : List Frame} {meth : Method} {c : Code} {Q : State → Prop}
variable {pc np r : Nat} {L : aL} {S : List Value} {h : aH} {k' : aK}
theorem am_G_xw {w1 : Cond} (hw : w1 ∈ am_xw) : GoodIn am_G (w1 :: am_xw) := fun v hv => (List.mem_cons.mp hv).elim (fun e => by rw [e]; exact am_G_self _ (am_in_xw hw)) (fun h => am_G_self v (am_in_xw h))
theorem so_prim {q : Nat × Nat × Nat × Nat × Nat} (C : am_Cx w m0 d p l e R s m args below meth c) (hq : am_ms[r]? = some q) (hq1 : q.1 = m0.2.1) (i : Instr) (hd : decode m0.2.2.1 pc = .ok (i, 3))
    (hi : (i = .invokevirtual q.2.1 ∧ (q.2.2.2.1 = 0 ∨ q.2.2.2.1 = 7 ∨ q.2.2.2.1 = 8)) ∨ (i = .invokestatic q.2.1 ∧ (q.2.2.2.1 = 1 ∨ q.2.2.2.1 = 4 ∨ q.2.2.2.1 = 9 ∨ q.2.2.2.1 = 10)) ∨ (i = .invokespecial q.2.1 ∧ (q.2.2.2.1 = 2 ∨ q.2.2.2.1 = 5 ∨ q.2.2.2.1 = 6)))
    (hs : am_call q (pc + 3) L S h = some (.inl k')) (g : am_Gl w p l e R s m args below meth c Q k') : am_Gl w p l e R s m args below meth c Q (pc, L, S, h) := by
  have hmem := List.mem_of_getElem? hq
  have hmk := List.all_eq_true.mp am_ms_ok q hmem
  intro ls H locs cells slots hp hl
  obtain ⟨hx, hb, hr, hml, hown, hts, hK, hSE, hlk, hnm, hA1, ⟨hR0, hR3, hR1, hR2⟩, hm0⟩ := C
  have hp0 : h.length ≤ ae_n1 w ∧ am_slt h ≤ ae_z1 w ∧ cells + ae_n0 w = h.length ∧ slots + ae_z0 w = am_slt h := hp.1
  have hSs := hp.2.2.1
  have hfix : CallFix p m c m0.2.2.1 c.maxLocals s args am_G (am_nm m0.2.1) := ⟨hx, hb, rfl, hown, hts⟩
  have hSE1 : ∀ U : State, U.heap = H → s.WarmedH U.vm → am_SE (ae_A w) (ae_ts w) U U.heap := by
    intro U hU hW
    rw [hU]
    exact hSE.go hW (fun a h1 h2 => hSs.2.1 a h1 h2)
  have e3 : ae_s w 100003 = ae_ts w 3 := rfl
  unfold am_call at hs
  have hcs : (q.2.2.2.1 = 0 ∨ q.2.2.2.1 = 1 ∨ q.2.2.2.1 = 2 ∨ q.2.2.2.1 = 4 ∨ q.2.2.2.1 = 5) ∨ (i = .invokevirtual q.2.1 ∧ q.2.2.2.1 = 7) ∨ (i = .invokevirtual q.2.1 ∧ q.2.2.2.1 = 8) ∨ (i = .invokestatic q.2.1 ∧ q.2.2.2.1 = 9) ∨ (i = .invokestatic q.2.1 ∧ q.2.2.2.1 = 10) ∨ (i = .invokespecial q.2.1 ∧ q.2.2.2.1 = 6) := by
    rcases hi with ⟨a, b | b | b⟩ | ⟨a, b | b | b | b⟩ | ⟨a, b | b | b⟩ <;> simp [a, b]
  rcases hcs with hk | ⟨rfl, hk⟩ | ⟨rfl, hk⟩ | ⟨rfl, hk⟩ | ⟨rfl, hk⟩ | ⟨rfl, hk⟩
  · exfalso
    simp only at hs
    generalize (if q.2.2.2.1 = 1 ∨ q.2.2.2.1 = 4 ∨ q.2.2.2.1 = 9 ∨ q.2.2.2.1 = 10 then q.2.2.2.2 else q.2.2.2.2 + 1) = n at hs
    split at hs
    · rcases hk with hk | hk | hk | hk | hk <;> simp only [hk] at hs
      · split at hs
        · split at hs
          · split at hs <;> cases hs
          · cases hs
        · cases hs
      · cases hs
      · split at hs <;> cases hs
      · cases hs
      · split at hs <;> cases hs
    · cases hs
  · simp only [hk, am_msk, Bool.and_eq_true, beq_iff_eq] at hmk
    obtain ⟨⟨hn, hq8⟩, hix⟩ := hmk
    simp only [hk, hn] at hs
    simp only [show ((7 : Nat) = 1 ∨ (7 : Nat) = 4 ∨ (7 : Nat) = 9 ∨ (7 : Nat) = 10) ↔ False from by decide, if_false] at hs
    split at hs
    case isFalse => cases hs
    rename_i hlen
    split at hs
    · rename_i a has
      split at hs
      · rename_i ha
        subst ha
        cases hs
        have hS := am_take has
        have h8 : am_nm m0.2.1 = RX8 := by rw [← hq1, hq8]; rfl
        rw [hix] at hd
        rw [h8] at hown
        have g1 := g ls H locs cells slots hp hl
        have hS2 : S.map (am_v (ae_s w)) = .ref (ae_ts w 3) :: (S.drop 1).map (am_v (ae_s w)) := by
          conv => lhs; rw [hS]
          simp [am_v, e3]
        have hrun := W.runV (As := []) (rest := (S.drop 1).map (am_v (ae_s w))) (g := F0 m pc ls (S.map (am_v (ae_s w)))) (H := H) (locs := locs) (cells := cells) (slots := slots) (R := R) (l := l) (e := e) (below := below) (meth := meth) (nL := c.maxLocals) ⟨hx, hb, rfl, hown, hts⟩ (am_length l (ae_A w) (ae_ts w)) ⟨callB_of 0 hts (am_G_xw xw_11) rfl rfl rfl (hts _ (am_in_xw xw_5)) (hts _ (am_in_xw xw_8)) (by decide +kernel) ⟨by simp only [am_rs]; omega, by simp only [am_rs]; omega⟩, hts _ (am_in_xw xw_9), hts _ (am_in_xw xw_10)⟩ ⟨am_PS_b _ _ _, vk_recv hSE.2.2.2.2.2.1 (i := 0) (by decide) hSs, fun U hU hW => ⟨rfl, hSE1 U hU hW⟩⟩ rfl rfl hl.1 hS2 (lv_room (by rw [am_v_sum]; exact hlen.2)) hd ⟨by omega, by omega⟩
        refine vp_callSi hrun ?_
        rintro r9 rfl
        exact g1
      · cases hs
    · cases hs
  · simp only [hk, am_msk, Bool.and_eq_true, beq_iff_eq] at hmk
    obtain ⟨⟨hn, hq8⟩, hix⟩ := hmk
    simp only [hk, hn] at hs
    simp only [show ((8 : Nat) = 1 ∨ (8 : Nat) = 4 ∨ (8 : Nat) = 9 ∨ (8 : Nat) = 10) ↔ False from by decide, if_false] at hs
    split at hs
    case isFalse => cases hs
    rename_i hlen
    split at hs
    · rename_i a i has
      split at hs
      · rename_i ha
        subst ha
        split at hs
        · rename_i x hxx
          cases hs
          have hS := am_take has
          have h8 : am_nm m0.2.1 = RX8 := by rw [← hq1, hq8]; rfl
          rw [hix] at hd
          rw [h8] at hown
          have g1 := g ls H locs cells slots hp hl
          have hS2 : S.map (am_v (ae_s w)) = .int i :: .ref (ae_ts w 3) :: (S.drop 2).map (am_v (ae_s w)) := by
            conv => lhs; rw [hS]
            simp [am_v, e3]
          have hrun := W.runV (As := [.int i]) (rest := (S.drop 2).map (am_v (ae_s w))) (g := F0 m pc ls (S.map (am_v (ae_s w)))) (H := H) (locs := locs) (cells := cells) (slots := slots) (R := R) (l := l) (e := e) (below := below) (meth := meth) (nL := c.maxLocals) ⟨hx, hb, rfl, hown, hts⟩ (am_charAt l (ae_A w) (ae_ts w) i x hxx) ⟨callB_of 1 hts (am_G_xw xw_15) rfl rfl rfl (hts _ (am_in_xw xw_5)) (hts _ (am_in_xw xw_12)) (by decide +kernel) ⟨by simp only [am_rs]; omega, by simp only [am_rs]; omega⟩, hts _ (am_in_xw xw_13), hts _ (am_in_xw xw_14)⟩ ⟨am_PS_b _ _ _, vk_recv hSE.2.2.2.2.2.1 (i := 0) (by decide) hSs, fun U hU hW => ⟨rfl, hSE1 U hU hW⟩⟩ rfl rfl hl.1 hS2 (lv_room (by rw [am_v_sum]; exact hlen.2)) hd ⟨by omega, by omega⟩
          refine vp_callSi hrun ?_
          rintro r9 rfl
          exact g1
        · cases hs
      · cases hs
    · cases hs
  · simp only [hk, am_msk, beq_iff_eq] at hmk
    simp only [hk, hmk, true_or, or_true, if_true] at hs
    split at hs
    case isFalse => cases hs
    rename_i hlen
    split at hs
    · rename_i x y has
      cases hs
      have hS := am_take has
      have w1 := hts _ (am_in_ms hmem (w := .methodLink (am_nm q.1) q.2.1 Lib.Math.max.name) (by simp [am_sw, hk]))
      have w2 := hts _ (am_in_ms hmem (w := .static Lib.Math.max.name) (by simp [am_sw, hk]))
      have w3 := hts _ (am_in_ms hmem (w := .initialized "java/lang/Math") (by simp [am_sw, hk]))
      have w4 := hts _ (am_in_ms hmem (w := .code Lib.Math.max.name Lib.Math.max.code 2 (some .int)) (by simp [am_sw, hk]))
      rw [hq1] at w1
      have g1 := g ls H locs cells slots hp hl
      have hsum : ((S.drop 2).map (am_v (ae_s w)) |>.map fun v => v.category).sum ≤ 8 := by rw [am_v_sum]; exact hlen.2
      have hW := va_mmax hx hb hl.1.symm hown w1 w2 w3 w4 (by omega) (rest := (S.drop 2).map (am_v (ae_s w))) (by omega) (by omega) (by omega) (x := x) (y := y) hd g1
      show W p l e R s m args below meth c H locs cells slots Q (F0 m pc ls (S.map (am_v (ae_s w))))
      have hS2 : S.map (am_v (ae_s w)) = .int y :: .int x :: (S.drop 2).map (am_v (ae_s w)) := by
        conv => lhs; rw [hS]
        simp [am_v]
      rw [hS2]
      exact hW
    · cases hs
  · simp only [hk, am_msk, beq_iff_eq] at hmk
    simp only [hk, hmk, true_or, or_true, if_true] at hs
    split at hs
    case isFalse => cases hs
    rename_i hlen
    split at hs
    · rename_i x y has
      cases hs
      have hS := am_take has
      have w1 := hts _ (am_in_ms hmem (w := .methodLink (am_nm q.1) q.2.1 Lib.Math.min.name) (by simp [am_sw, hk]))
      have w2 := hts _ (am_in_ms hmem (w := .static Lib.Math.min.name) (by simp [am_sw, hk]))
      have w3 := hts _ (am_in_ms hmem (w := .initialized "java/lang/Math") (by simp [am_sw, hk]))
      have w4 := hts _ (am_in_ms hmem (w := .code Lib.Math.min.name Lib.Math.min.code 2 (some .int)) (by simp [am_sw, hk]))
      rw [hq1] at w1
      have g1 := g ls H locs cells slots hp hl
      have hsum : ((S.drop 2).map (am_v (ae_s w)) |>.map fun v => v.category).sum ≤ 8 := by rw [am_v_sum]; exact hlen.2
      have hW := va_mmin hx hb hl.1.symm hown w1 w2 w3 w4 (by omega) (rest := (S.drop 2).map (am_v (ae_s w))) (by omega) (by omega) (by omega) (x := x) (y := y) hd g1
      show W p l e R s m args below meth c H locs cells slots Q (F0 m pc ls (S.map (am_v (ae_s w))))
      have hS2 : S.map (am_v (ae_s w)) = .int y :: .int x :: (S.drop 2).map (am_v (ae_s w)) := by
        conv => lhs; rw [hS]
        simp [am_v]
      rw [hS2]
      exact hW
    · cases hs
  · simp only [hk, am_msk, beq_iff_eq] at hmk
    simp only [hk, hmk] at hs
    simp only [show ((6 : Nat) = 1 ∨ (6 : Nat) = 4 ∨ (6 : Nat) = 9 ∨ (6 : Nat) = 10) ↔ False from by decide, if_false] at hs
    split at hs
    case isFalse => cases hs
    rename_i hlen
    split at hs
    · rename_i a has
      cases hs
      have hS := am_take has
      have w1 := hts _ (am_in_ms hmem (w := .methodLink (am_nm q.1) q.2.1 objectInit) (by simp [am_sw, hk]))
      have w2 := hts _ (am_in_ms hmem (w := .instanceMethod objectInit) (by simp [am_sw, hk]))
      have w3 := hts _ (am_in_ms hmem (w := .code objectInit ⟨#[0xb1]⟩ 1 none) (by simp [am_sw, hk]))
      rw [hq1] at w1
      have g1 := g ls H locs cells slots hp hl
      have hsum : ((S.drop 1).map (am_v (ae_s w)) |>.map fun v => v.category).sum ≤ 8 := by rw [am_v_sum]; exact hlen.2
      have hS2 : S.map (am_v (ae_s w)) = .ref (ae_s w a) :: (S.drop 1).map (am_v (ae_s w)) := by
        conv => lhs; rw [hS]
        simp [am_v]
      refine W.objInit hx hb hown w1 w2 w3 (g := F0 m pc ls (S.map (am_v (ae_s w)))) rfl hl.1 (a := ae_s w a) (rest := (S.drop 1).map (am_v (ae_s w))) hS2 hd (by omega) (by show 2 * 0 + _ + 12 ≤ _; omega) g1
    · cases hs
theorem am_lookup_mem {α : Type} {k : Nat} {v : α} : ∀ {l : List (Nat × α)}, l.lookup k = some v → (k, v) ∈ l
  | [], h => by cases h
  | (a, b) :: t, h => by
    rw [List.lookup_cons] at h
    by_cases hk : k = a
    · subst hk
      simp at h
      subst h
      exact List.mem_cons_self
    · have : (k == a) = false := by simpa using hk
      rw [this] at h
      exact List.mem_cons_of_mem _ (am_lookup_mem h)
theorem am_cd_ok {i : Instr} (hm : m0 ∈ am_tab) (hcd : am_cd m0 pc = some (i, np, r)) : ∃ n, decode m0.2.2.1 pc = .ok (i, n) ∧ (am_sw? i = true ∨ (n = am_len i ∧ np = pc + am_len i)) ∧ am_sok m0.2.1 i pc r = true := by
  have h1 := am_mem_ok hm
  simp only [am_okm, Bool.and_eq_true] at h1
  have h2 := List.all_eq_true.mp h1.1.1 _ (am_lookup_mem hcd)
  simp only [am_ok, Bool.and_eq_true] at h2
  obtain ⟨h3, h4⟩ := h2
  split at h3
  · rename_i i' n hdec
    simp only [Bool.and_eq_true, decide_eq_true_eq, Bool.or_eq_true, beq_iff_eq] at h3
    obtain ⟨rfl, h5⟩ := h3
    refine ⟨n, hdec, ?_, h4⟩
    rcases h5 with h5 | h5
    · exact Or.inl h5
    · exact Or.inr ⟨h5.1, by rw [← h5.2, h5.1]⟩
  · cases h3
end AMT
