/-! a method's contract out of a run -/
theorem am_met {al : Bool} {l : Launch} {n d' : Nat} {m' : aM} {as : List Value} {h h2 : aH} {v : Option Value} {w : aE} (hmt : m' ∈ am_tab) (hle : (am_en as).length ≤ m'.2.2.2.1) (hcall : am_run al n d' m' (0, am_ent m' as, [], h) = some (v, h2)) (hal : ae_al w = al) (hA1 : ae_al w = true → ∀ q, ae_b w ≤ q → ae_A w q) (hA : ∀ j, j < h.length → ae_A w (ae_b w + j)) (hlen : h.length ≤ 100000) : Met l m'.1 (am_cw m' :: am_G) (am_rm d' (h2.length - h.length) (am_slt h2 - am_slt h)) (va_Pc (as.map (am_v (ae_s w))) (am_B w h)) (am_Q w v h2) (h2.length - h.length) (am_slt h2 - am_slt h) (ae_A w) := by
  have hmo1 := am_run_mo al n d' m' _ v h2 hcall
  obtain ⟨hmx, hpl, hcls⟩ := am_okm_of hmt
  refine Met.ofW (cc := m'.2.2.1) (maxL := m'.2.2.2.1) (ret := m'.2.2.2.2.1) hpl rfl ?_
  intro p' e' s' mm args' below' meth' c' s₁ B hml hv
  obtain ⟨rfl, hP, hK, hSE, hsz⟩ := hv
  have hts0 := atoms_spec (ws := am_cw m' :: am_G) B.pre
  have hts : ∀ w ∈ am_G, w.before _ s' = true := fun w hw => hts0 w (List.mem_cons_of_mem _ hw)
  have hown : s'.vm.findClass (am_nm m'.2.1) = some mm.cls := by rw [← hcls]; exact findClass_of_methodNamed B.named
  have hnm : meth'.name = m'.1.name := (name_of_methodNamed B.named B.method).1
  let w' : aE := (ae_al w, ae_b w, ae_ts w, ae_A w, ae_D w, ae_tc w, h.length, am_slt h, h2.length, am_slt h2)
  have hb1' : h.length ≤ h2.length := hmo1.1
  have hb2' : am_slt h ≤ am_slt h2 := hmo1.2.1
  have C' : am_Cx w' m' d' p' l e' (am_rm d' (h2.length - h.length) (am_slt h2 - am_slt h)) s' mm ((as.map (am_v (ae_s w))).toArray) below' meth' c' :=
    ⟨B.exec, B.bytes, B.returns, hml, hown, hts, hK, hSE, B.notSynchronized, hnm, hA1, ⟨Nat.le_refl _, Nat.le_refl _, by show h2.length ≤ h2.length - h.length + h.length; omega, by show am_slt h2 ≤ am_slt h2 - am_slt h + am_slt h; omega⟩, hmt⟩
  have g2 := am_sound al l n d' m' _ v h2 hcall w' hal rfl rfl p' e' _ s' mm _ below' meth' c' C' (by rw [hml]; show (am_ent m' as).length ≤ _; rw [am_ent_len hle]; exact Nat.le_refl _)
  rw [lg_entry_eq]
  refine g2 _ _ [] 0 0 ⟨⟨hb1', hb2', Nat.zero_add _, Nat.zero_add _⟩, hP, va_S.rf, hA, hlen, hsz⟩ ?_
  rw [hml]
  exact am_entry (ae_s w) hle
