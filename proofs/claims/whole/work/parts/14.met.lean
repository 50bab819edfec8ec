section AMV
variable {w : aE} {m0 : aM} {d : Nat} {p : Program} {l : Launch} {e : Env} {R : Room} {s : State} {m : MethodId} {args : Array Value} {below : List Frame} {meth : Method} {c : Code}
variable {pc np r : Nat} {L : aL} {S : List Value} {h : aH}
theorem am_ret {i : Instr} {rv : Option Value} {h1 : aH} (C : am_Cx w m0 d p l e R s m args below meth c) (hcd : am_cd m0 pc = some (i, np, r)) (hs : am_op (ae_al w) m0 i pc np r L S h = some (.inr (.inl (rv, h1)))) (hn1 : h1.length = ae_n1 w) (hz1 : am_slt h1 = ae_z1 w) : am_Gl w p l e R s m args below meth c (MQ below (am_Q w rv h1) args s (ae_n1 w - ae_n0 w) (ae_z1 w - ae_z0 w) (ae_A w)) (pc, L, S, h) := by
  have hfi := fi_op (al := ae_al w) hs
  have hh : h1 = h := hfi
  subst hh
  have CC := C
  obtain ⟨hx, hb, hr, hml, hown, hts, hK, hSE, hlk, hnm, hA1, hRR, hm0⟩ := CC
  obtain ⟨n, hd, hnp, hsok⟩ := am_cd_ok hm0 hcd
  intro ls H locs cells slots hp hl
  have hp0 : h1.length ≤ ae_n1 w ∧ am_slt h1 ≤ ae_z1 w ∧ cells + ae_n0 w = h1.length ∧ slots + ae_z0 w = am_slt h1 := hp.1
  have c1 : ae_n1 w - ae_n0 w = cells := by omega
  have c2 : ae_z1 w - ae_z0 w = slots := by omega
  rw [c1, c2]
  have fin : ∀ (v : Option Value), v = rv.map (am_v (ae_s w)) → ∀ t : State, t.heap = H → s.WarmedH t.vm → am_Q w rv h1 args s (.returned v) t := fun v hv t ht _ => ⟨by rw [hv], by rw [ht]; exact hp.2.1, by rw [ht]; exact hp.2.2.2.2.2, hp.2.2.1.F ht⟩
  cases i with
  | ireturn =>
    obtain ⟨rfl, rfl⟩ := hnp.resolve_left Bool.false_ne_true
    simp only [am_op, am_iret] at hs
    split at hs
    · split at hs
      · rename_i ty hty
        split at hs
        · rename_i hnar
          cases hs
          rw [hty] at hr
          exact W.zret hx hb hr hnar (fin _ rfl) hp.2.2.1.2.2 hd
        · cases hs
      · cases hs
    · cases hs
  | return_ =>
    obtain ⟨rfl, rfl⟩ := hnp.resolve_left Bool.false_ne_true
    simp only [am_op] at hs
    split at hs
    · split at hs
      · rename_i hty
        cases hs
        rw [hty] at hr
        exact W.vret hx hb hr (fin _ rfl) hp.2.2.1.2.2 hd
      · cases hs
    · cases hs
  | invokevirtual x =>
    simp only [am_op] at hs
    split at hs
    · exact absurd rfl ((fi_call (al := ae_al w) hs).2.1 _)
    · cases hs
  | invokestatic x =>
    simp only [am_op] at hs
    split at hs
    · exact absurd rfl ((fi_call (al := ae_al w) hs).2.1 _)
    · cases hs
  | invokespecial x =>
    simp only [am_op] at hs
    split at hs
    · exact absurd rfl ((fi_call (al := ae_al w) hs).2.1 _)
    · cases hs
  | _ => exfalso; revert hs; simp only [am_op, am_kn, am_nx, am_ldc, am_loadi, am_loadl, am_loada, am_stori, am_storl, am_iinc, am_bin, am_lin, am_uno, am_if, am_icmp, am_tsw, am_lsw, am_ald, am_ast, am_aald, am_aast, am_get, am_put, am_new, am_newa, am_anew]; (repeat' split) <;> (intro hs; cases hs)
theorem am_lv_args (f : Nat → Nat) : ∀ (vs : List Value) (i j : Nat) (v : Value), (am_en vs)[j]? = some (some v) → (i + j, am_v f v) ∈ lv_args i (vs.map (am_v f))
  | [], i, j, v, h => by simp [am_en] at h
  | a :: vs, i, j, v, h => by
    simp only [List.map_cons, lv_args, am_v_cat]
    simp only [am_en, List.flatMap_cons] at h
    by_cases hc : a.category = 2
    · simp only [hc, if_true] at h ⊢
      match j with
      | 0 => simp at h; subst h; exact List.mem_cons_self
      | 1 => simp at h
      | j + 2 =>
        have h1 : (am_en vs)[j]? = some (some v) := by simpa [am_en] using h
        have h2 := am_lv_args f vs (i + 2) j v h1
        rw [show i + (j + 2) = i + 2 + j by omega]
        exact List.mem_cons_of_mem _ h2
    · simp only [hc, if_false] at h ⊢
      match j with
      | 0 => simp at h; subst h; exact List.mem_cons_self
      | j + 1 =>
        have h1 : (am_en vs)[j]? = some (some v) := by simpa [am_en] using h
        have h2 := am_lv_args f vs (i + 1) j v h1
        rw [show i + (j + 1) = i + 1 + j by omega]
        exact List.mem_cons_of_mem _ h2
theorem am_sl_len (f : Nat → Nat) : ∀ vs : List Value, (lg_sl (vs.map (am_v f))).length = (am_en vs).length
  | [] => rfl
  | a :: vs => by
    have ih := am_sl_len f vs
    simp only [lg_sl, am_en, List.map_cons, List.flatMap_cons, List.length_append, am_v_cat] at ih ⊢
    rw [ih]
    by_cases hc : a.category = 2 <;> simp [hc]
theorem am_entry {m' : aM} {as : List Value} (f : Nat → Nat) (hle : (am_en as).length ≤ m'.2.2.2.1) : lv_has ((lg_sl (as.map (am_v f)) ++ List.replicate (m'.2.2.2.1 - (lg_sl (as.map (am_v f))).length) Slot.unset).toArray) m'.2.2.2.1 (am_lv f (am_ent m' as)) := by
  refine am_lv_sub (lv_entry (as.map (am_v f)) (by rw [am_sl_len]; exact hle)) ?_
  rintro ⟨j, v⟩ hq
  obtain ⟨v', h1, rfl⟩ := am_lv_mem.mp hq
  unfold am_ent at h1
  by_cases hj : j < (am_en as).length
  · rw [List.getElem?_append_left hj] at h1
    have h2 := am_lv_args f as 0 j v' h1
    rwa [Nat.zero_add] at h2
  · rw [List.getElem?_append_right (by omega), List.getElem?_replicate] at h1
    split at h1 <;> cases h1
theorem am_ent_len {m' : aM} {as : List Value} (hle : (am_en as).length ≤ m'.2.2.2.1) : (am_ent m' as).length = m'.2.2.2.1 := by
  simp [am_ent]; omega
/-- a run of the abstract machine changes the counts as its steps do -/
theorem am_run_mo (al : Bool) : ∀ (n d : Nat) (m0 : aM) (k : aK) (rv : Option Value) (h' : aH), am_run al n d m0 k = some (rv, h') → am_Mo al k.2.2.2 h'
  | 0, d, m0, k, rv, h', hr => by cases hr
  | n + 1, d, m0, k, rv, h', hr => by
    rw [am_run] at hr
    cases hst : am_stp al m0 k with
    | none => rw [hst] at hr; cases hr
    | some x =>
      rw [hst] at hr
      have hfi : am_Fi al k.2.1 k.2.2.2 x := by
        unfold am_stp at hst
        split at hst
        · exact fi_op hst
        · cases hst
      match x, hr, hfi with
      | .inl k', hr, hfi => exact hfi.1.trans (am_run_mo al n d m0 k' rv h' hr)
      | .inr (.inl r), hr, hfi =>
        cases hr
        have e : h' = k.2.2.2 := hfi
        rw [e]; exact .rf
      | .inr (.inr (cc, as, k1)), hr, hfi =>
        cases d with
        | zero => cases hr
        | succ d' =>
          simp only at hr
          split at hr
          · cases hr
          · rename_i m' hm
            split at hr
            · split at hr
              · cases hr
              · rename_i v h2 hcall
                have e : k1.2.2.2 = k.2.2.2 := hfi.1
                have h3 := am_run_mo al n d' m' _ v h2 hcall
                have h4 := am_run_mo al n (d' + 1) m0 _ rv h' hr
                rw [← e]
                exact h3.trans h4
            · cases hr
/-- THE ABSTRACT MACHINE IS THE MACHINE -/
theorem am_sound (al : Bool) (l : Launch) : ∀ (n d : Nat) (m0 : aM) (k : aK) (rv : Option Value) (h' : aH), am_run al n d m0 k = some (rv, h') → ∀ (w : aE), ae_al w = al → h'.length = ae_n1 w → am_slt h' = ae_z1 w →
    ∀ (p : Program) (e : Env) (R : Room) (s : State) (m : MethodId) (args : Array Value) (below : List Frame) (meth : Method) (c : Code), am_Cx w m0 d p l e R s m args below meth c → k.2.1.length ≤ c.maxLocals → am_Gl w p l e R s m args below meth c (MQ below (am_Q w rv h') args s (ae_n1 w - ae_n0 w) (ae_z1 w - ae_z0 w) (ae_A w)) k := by
  intro n
  induction n with
  | zero => intro d m0 k rv h' hr; cases hr
  | succ n ih =>
    intro d m0 k rv h' hr w hal hn1 hz1 p e R s m args below meth c C hL
    obtain ⟨pc, L, S, h⟩ := k
    rw [am_run] at hr
    cases hst : am_stp al m0 (pc, L, S, h) with
    | none => rw [hst] at hr; cases hr
    | some x =>
      rw [hst] at hr
      unfold am_stp at hst
      simp only at hst
      cases hcd : am_cd m0 pc with
      | none => rw [hcd] at hst; cases hst
      | some y =>
        obtain ⟨i, np, r⟩ := y
        rw [hcd] at hst
        simp only at hst
        rw [← hal] at hst
        have hfi := fi_op (al := ae_al w) hst
        match x, hr, hfi, hst with
        | .inl k', hr, hfi, hst =>
          have hmo := am_run_mo al n d m0 k' rv h' hr
          refine am_next C hcd hst hL (by rw [← hn1]; exact hmo.1) (by rw [← hz1]; exact hmo.2.1) ?_
          exact ih d m0 k' rv h' hr w hal hn1 hz1 p e R s m args below meth c C (by rw [hfi.2]; exact hL)
        | .inr (.inl rr), hr, hfi, hst =>
          cases hr
          exact am_ret C hcd hst hn1 hz1
        | .inr (.inr (cc, as, k1)), hr, hfi, hsc =>
          cases d with
          | zero => cases hr
          | succ d' =>
            simp only at hr
            split at hr
            · cases hr
            · rename_i m' hm
              split at hr
              · rename_i hle
                split at hr
                · cases hr
                · rename_i v h2 hcall
                  have e1 : k1.2.2.2 = h := hfi.1
                  rw [e1] at hcall
                  have hmo1 := am_run_mo al n d' m' _ v h2 hcall
                  have hmo2 := am_run_mo al n (d' + 1) m0 _ rv h' hr
                  have hmt := List.mem_of_getElem? hm
                  obtain ⟨hmx, hpl, hcls⟩ := am_okm_of hmt
                  have g1 := ih (d' + 1) m0 _ rv h' hr w hal hn1 hz1 p e R s m args below meth c C (by rw [hfi.2]; exact hL)
                  intro ls H locs cells slots hp hl
                  have hM : Met l m'.1 (am_cw m' :: am_G) (am_rm d' (h2.length - h.length) (am_slt h2 - am_slt h)) (va_Pc (as.map (am_v (ae_s w))) (am_B w h)) (am_Q w v h2) (h2.length - h.length) (am_slt h2 - am_slt h) (ae_A w) := by
                    refine Met.ofW (cc := m'.2.2.1) (maxL := m'.2.2.2.1) (ret := m'.2.2.2.2.1) hpl rfl ?_
                    intro p' e' s' mm args' below' meth' c' s₁ B hml hv
                    obtain ⟨rfl, hP, hK, hSE, hsz⟩ := hv
                    have hts0 := atoms_spec (ws := am_cw m' :: am_G) B.pre
                    have hts : ∀ w ∈ am_G, w.before _ s' = true := fun w hw => hts0 w (List.mem_cons_of_mem _ hw)
                    have hown : s'.vm.findClass (am_nm m'.2.1) = some mm.cls := by rw [← hcls]; exact findClass_of_methodNamed B.named
                    have hnm : meth'.name = m'.1.name := (name_of_methodNamed B.named B.method).1
                    let w' : aE := (ae_al w, ae_b w, ae_ts w, ae_A w, ae_D w, ae_tc w, h.length, am_slt h, h2.length, am_slt h2)
                    have hb1 := hmo1.1
                    have hb2 := hmo1.2.1
                    have hb1' : h.length ≤ h2.length := hb1
                    have hb2' : am_slt h ≤ am_slt h2 := hb2
                    obtain ⟨-, -, -, -, -, -, -, -, -, -, hA1, -⟩ := C
                    have C' : am_Cx w' m' d' p' l e' (am_rm d' (h2.length - h.length) (am_slt h2 - am_slt h)) s' mm ((as.map (am_v (ae_s w))).toArray) below' meth' c' :=
                      ⟨B.exec, B.bytes, B.returns, hml, hown, hts, hK, hSE, B.notSynchronized, hnm, hA1, ⟨Nat.le_refl _, Nat.le_refl _, by show h2.length ≤ h2.length - h.length + h.length; omega, by show am_slt h2 ≤ am_slt h2 - am_slt h + am_slt h; omega⟩, hmt⟩
                    have g2 := ih d' m' _ v h2 hcall w' hal rfl rfl p' e' _ s' mm _ below' meth' c' C' (by rw [hml]; show (am_ent m' as).length ≤ _; rw [am_ent_len hle]; exact Nat.le_refl _)
                    rw [lg_entry_eq]
                    refine g2 _ _ [] 0 0 ⟨⟨hb1', hb2', Nat.zero_add _, Nat.zero_add _⟩, hP, va_S.rf, hp.2.2.2.1, hp.2.2.2.2.1, hsz⟩ ?_
                    rw [hml]
                    exact am_entry (ae_s w) hle
                  have hnn1 : h2.length ≤ ae_n1 w := by rw [← hn1]; exact hmo2.1
                  have hnz1 : am_slt h2 ≤ ae_z1 w := by rw [← hz1]; exact hmo2.2.1
                  have CC := C
                  obtain ⟨-, -, -, -, -, -, -, -, -, -, -, -, hm0⟩ := CC
                  obtain ⟨nn, hd, hnp, hsok⟩ := am_cd_ok hm0 hcd
                  have key : ∀ q : Nat × Nat × Nat × Nat × Nat, am_ms[r]? = some q → am_call q np L S h = some (.inr (.inr (cc, as, k1))) → q.1 = m0.2.1 → np = pc + 3 → ∀ i', decode m0.2.2.1 pc = .ok (i', 3) → ((i' = .invokevirtual q.2.1 ∧ (q.2.2.2.1 = 0 ∨ q.2.2.2.1 = 7 ∨ q.2.2.2.1 = 8)) ∨ (i' = .invokestatic q.2.1 ∧ (q.2.2.2.1 = 1 ∨ q.2.2.2.1 = 4 ∨ q.2.2.2.1 = 9 ∨ q.2.2.2.1 = 10)) ∨ (i' = .invokespecial q.2.1 ∧ (q.2.2.2.1 = 2 ∨ q.2.2.2.1 = 5 ∨ q.2.2.2.1 = 6))) → W p l e R s m args below meth c H locs cells slots (MQ below (am_Q w rv h') args s (ae_n1 w - ae_n0 w) (ae_z1 w - ae_z0 w) (ae_A w)) (F0 m pc ls (S.map (am_v (ae_s w)))) := by
                    intro q hq hcal hq1 hnp3 i' hdi hi
                    subst hnp3
                    obtain ⟨ec, hk⟩ := (fi_call (al := ae_al w) hcal).2.2 _ _ _ rfl
                    subst ec
                    refine so_inv C hq hq1 i' hdi ?_ hcal hm hM (by rw [hal]; exact hmo1) hnn1 hnz1 g1 ls H locs cells slots hp hl
                    rcases hi with ⟨a, b⟩ | ⟨a, b⟩ | ⟨a, b⟩
                    · refine Or.inl ⟨a, ?_⟩; omega
                    · refine Or.inr (Or.inl ⟨a, ?_⟩); omega
                    · refine Or.inr (Or.inr ⟨a, ?_⟩); omega
                  cases i with
                  | invokevirtual x =>
                    obtain ⟨rfl, hn3⟩ := hnp.resolve_left Bool.false_ne_true
                    simp only [am_op] at hsc
                    split at hsc
                    · rename_i q hq
                      simp only [am_sok, hq, decide_eq_true_eq] at hsok
                      obtain ⟨h1, rfl, h3⟩ := hsok
                      exact key q hq hsc h1 hn3 _ hd (Or.inl ⟨rfl, h3⟩)
                    · cases hsc
                  | invokestatic x =>
                    obtain ⟨rfl, hn3⟩ := hnp.resolve_left Bool.false_ne_true
                    simp only [am_op] at hsc
                    split at hsc
                    · rename_i q hq
                      simp only [am_sok, hq, decide_eq_true_eq] at hsok
                      obtain ⟨h1, rfl, h3⟩ := hsok
                      exact key q hq hsc h1 hn3 _ hd (Or.inr (Or.inl ⟨rfl, h3⟩))
                    · cases hsc
                  | invokespecial x =>
                    obtain ⟨rfl, hn3⟩ := hnp.resolve_left Bool.false_ne_true
                    simp only [am_op] at hsc
                    split at hsc
                    · rename_i q hq
                      simp only [am_sok, hq, decide_eq_true_eq] at hsok
                      obtain ⟨h1, rfl, h3⟩ := hsok
                      exact key q hq hsc h1 hn3 _ hd (Or.inr (Or.inr ⟨rfl, h3⟩))
                    · cases hsc
                  | _ => exfalso; revert hsc; simp only [am_op, am_kn, am_nx, am_ldc, am_loadi, am_loadl, am_loada, am_stori, am_storl, am_iinc, am_bin, am_lin, am_uno, am_if, am_icmp, am_tsw, am_lsw, am_ald, am_ast, am_aald, am_aast, am_get, am_put, am_new, am_newa, am_anew, am_iret]; (repeat' split) <;> (intro hsc; cases hsc)
              · cases hr
end AMV
