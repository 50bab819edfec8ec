/-! the class: a line's methods by what they leave; deeds -/
section PA
variable {h h' : aH} {V : aV} {d i : Nat} {x : aN}
theorem ltx_lh (hx : ltx h i x) (hh : h.length ≤ 100000) : ∃ C, C.length = 5 ∧ lh h i x.1 x.2.1 x.2.2.1 C x.2.2.2.1 x.2.2.2.2.1 x.2.2.2.2.2 = h ∧ lI h i := by
  obtain ⟨C, hC, hl⟩ := hx
  exact ⟨C, hC, lat_self hl, lat_lt hl, hh⟩
theorem lh_ltx {K S G C : List Nat} {c t j : Nat} (hi : lI h i) (hC : C.length = 5) : ltx (lh h i K S G C c t j) i (K, S, G, c, t, j) ∧ fr i (i + 4) h (lh h i K S G C c t j) := ⟨⟨C, hC, lat_of hi.1⟩, lh_len, fun q hq => lh_o hq⟩
theorem l_send {s n : Nat} (hx : ltx h i x) (ok : lokN x) (hh : h.length ≤ 100000) (hs : s < 31) (hn : n < 1000) : Ec (d + 2) m_X3_sendFor [.ref i, .int (nI s), .int (nI n)] h (fun r h' => r = some (.int (nI (rdS (btn x.1 (cry s x.2.2.2.1 x.2.2.2.2.1 x.2.2.2.2.2) n x.2.1 x.2.2.1)))) ∧ ltx h' i (x.1, btn x.1 (cry s x.2.2.2.1 x.2.2.2.2.1 x.2.2.2.2.2) n x.2.1 x.2.2.1, gtn (cry s x.2.2.2.1 x.2.2.2.2.1 x.2.2.2.2.2) n x.2.2.1, x.2.2.2) ∧ fr i (i + 4) h h') := by
  obtain ⟨C, hC, e, hi⟩ := ltx_lh hx hh
  have H := e_sendFor (d := d) (h := h) (i := i) hi ok hC hs hn
  rw [e] at H
  refine ec_mono H ?_
  rintro r h' ⟨rfl, rfl⟩
  exact ⟨rfl, lh_ltx hi cry_len⟩
theorem l_mend {w : Nat} (hx : ltx h i x) (ok : lokN x) (hh : h.length ≤ 100000) (hw : w < 32) : Ec d m_X3_mendAll [.ref i, .int (nI w)] h (fun r h' => r = none ∧ ltx h' i (x.1, x.2.1, x.2.2.1, clr x.2.2.2.1 w, clr x.2.2.2.2.1 w, clr x.2.2.2.2.2 (mdj w)) ∧ fr i (i + 4) h h') := by
  obtain ⟨C, hC, e, hi⟩ := ltx_lh hx hh
  have hj := ok.2.2.2.2.2
  have H := e_mendAll (d := d) (h := h) (i := i) (K := x.1) (S := x.2.1) (G := x.2.2.1) (C := C) hi ok.2.2.2.1 ok.2.2.2.2.1 (show x.2.2.2.2.2 < 32 by omega) hw
  rw [e] at H
  refine ec_mono H ?_
  rintro r h' ⟨rfl, rfl⟩
  exact ⟨rfl, lh_ltx hi hC⟩
theorem l_swap {p q : Nat} (hx : ltx h i x) (ok : lokN x) (hh : h.length ≤ 100000) (hp : p < 5) (hq : q < 5) : Ec (d + 1) m_X3_swapNeedles [.ref i, .int (nI p), .int (nI q)] h (fun r h' => r = none ∧ ltx h' i (dyS p q x) ∧ fr i (i + 4) h h') := by
  obtain ⟨C, hC, e, hi⟩ := ltx_lh hx hh
  have H := e_swapNeedles (d := d) (h := h) (i := i) (C := C) (c := x.2.2.2.1) (t := x.2.2.2.2.1) (j := x.2.2.2.2.2) hi ok.1.1 ok.2.1.1 ok.2.2.1.1 hp hq
  rw [e] at H
  refine ec_mono H ?_
  rintro r h' ⟨rfl, rfl⟩
  exact ⟨rfl, lh_ltx hi hC⟩
theorem l_read (hx : ltx h i x) (ok : lokN x) (hh : h.length ≤ 100000) : Ec d m_X3_readSign [.ref i] h (rt (.int (nI (rdS x.2.1))) h) := by
  obtain ⟨C, hC, e, hi⟩ := ltx_lh hx hh
  have H := e_readSign (d := d) (h := h) (i := i) (K := x.1) (G := x.2.2.1) (C := C) (c := x.2.2.2.1) (t := x.2.2.2.2.1) (j := x.2.2.2.2.2) hi ok.2.1.1 ok.2.1.2
  rw [e] at H
  exact H
theorem l_nu (hx : ltx h i x) (ok : lokN x) (hh : h.length ≤ 100000) : Ec d m_X3_notUpright [.ref i] h (rt (.int (nI (nuz x.2.1))) h) := by
  obtain ⟨C, hC, e, hi⟩ := ltx_lh hx hh
  have H := e_notUpright (d := d) (h := h) (i := i) (K := x.1) (G := x.2.2.1) (C := C) (c := x.2.2.2.1) (t := x.2.2.2.2.1) (j := x.2.2.2.2.2) hi ok.2.1.1 ok.2.1.2
  rw [e] at H
  exact H
theorem l_mbl (hx : ltx h i x) (ok : lokN x) (hh : h.length ≤ 100000) : Ec d m_X3_mendableWires [.ref i] h (rt (.int (nI (mdw x.2.2.2.1 x.2.2.2.2.1 x.2.2.2.2.2))) h) := by
  obtain ⟨C, hC, e, hi⟩ := ltx_lh hx hh
  have hj := ok.2.2.2.2.2
  have H := e_mendableWires (d := d) (h := h) (i := i) (K := x.1) (S := x.2.1) (G := x.2.2.1) (C := C) (c := x.2.2.2.1) (t := x.2.2.2.2.1) hi (show x.2.2.2.2.2 < 32 by omega)
  rw [e] at H
  exact H
/-- a line's wires set -/
theorem l_put {c t j : Nat} (hx : ltx h i x) (hh : h.length ≤ 100000) : ltx (h.set i (lo i c t j)) i (x.1, x.2.1, x.2.2.1, c, t, j) ∧ fr i (i + 4) h (h.set i (lo i c t j)) := by
  obtain ⟨C, hC, hl⟩ := hx
  have := lat_lt hl
  refine ⟨⟨C, hC, List.getElem?_set_self (by omega), ?_, ?_, ?_, ?_⟩, by rw [List.length_set], fun q hq => gset_n (by omega)⟩
  · rw [gset_n (by omega)]; exact hl.2.1
  · rw [gset_n (by omega)]; exact hl.2.2.1
  · rw [gset_n (by omega)]; exact hl.2.2.2.1
  · rw [gset_n (by omega)]; exact hl.2.2.2.2
theorem nokN (ok : lokN x) : nok x := ⟨ok.1.1, ok.2.1.1, ok.2.2.1.1⟩
/-- a deed is remembered -/
def vR (V : aV) : aV := v5 V ((V.2.2.2.1.1 + 1) % 8, min (V.2.2.2.1.2.1 + 1) 8, V.2.2.2.1.2.2.1, V.2.2.2.1.2.2.2.set V.2.2.2.1.1 V.2.2.1)
theorem gd_set {L : List aN} {n q : Nat} {y : aN} (hL : ∀ q, lokN (L.getD q zN)) (hy : lokN y) : lokN ((L.set n y).getD q zN) := by
  rw [List.getD_eq_getElem?_getD, List.getElem?_set]
  split
  · split
    · exact hy
    · exact lokN_z
  · have := hL q; rw [List.getD_eq_getElem?_getD] at this; exact this
theorem c_rem (X : XH V h) : Ec (d + 1) m_X5_remember [.ref 16, .ref 6] h (fun r h' => r = none ∧ XH (vR V) h') := by
  have x3 := X.2.2.2.1
  have x5 := X.2.2.2.2.2.1
  refine ec_mono (e_remember x5.1 x5.2.1 x5.2.2.1 x3.1 (nokN x3.2) (by decide) (XH_len X)) ?_
  rintro r h' ⟨rfl, hp, hf⟩
  exact ⟨rfl, XH_5 X hf ⟨hp, Nat.mod_lt _ (by decide), Nat.min_le_right _ _, x5.2.2.2.1, fun q => gd_set x5.2.2.2.2 x3.2⟩⟩
theorem XH_16 (X : XH V h) : h[16]? = some (po V.2.2.2.1.1 V.2.2.2.1.2.1 V.2.2.2.1.2.2.1) := X.2.2.2.2.2.1.1.1
theorem XH_6o (X : XH V h) : h[6]? = some (lo 6 V.2.2.1.2.2.2.1 V.2.2.1.2.2.2.2.1 V.2.2.1.2.2.2.2.2) := by
  obtain ⟨C, hC, hl⟩ := XH_l6 X
  exact hl.1
theorem c_reads (X : XH V h) : Ec (d + 1) m_X8_reads [.ref 0] h (rt (.int (nI (rdS V.2.2.1.2.1))) h) := by
  refine ec_in [some (.ref 0)] rfl rfl ?_
  refine ev_nx rfl ?_
  refine ev_gf rfl rfl X.1.2 rfl ?_
  refine ev_vi rfl rfl rfl rfl rfl rfl (XH_6o X) rfl (l_read X.2.2.2.1.1 X.2.2.2.1.2 (XH_len X)) ?_
  exact ev_ri rfl rfl rfl ⟨rfl, rfl⟩
theorem c_needle {p w : Nat} (X : XH V h) (hp : p < 5) (hw : w ≤ 2) : Ec (d + 2) m_X8_needle [.ref 0, .int (nI p), .int (nI w)] h (rt (.int (nI (ndA V.2.2.1.1 V.2.2.1.2.1 V.2.2.1.2.2.1 p w))) h) := by
  obtain ⟨C, hC, hl⟩ := XH_l6 X
  have ok := X.2.2.2.1.2
  have k1 := ok.1.1
  have k2 := ok.2.1.1
  have k3 := ok.2.2.1.1
  have w1 : wi (nI p) (nI 0) (nI 4) = 1 := by rw [wi_n (by omega) (by omega) (by omega), if_pos (by omega)]
  have w2 : wi (nI w) (nI 0) (nI 2) = 1 := by rw [wi_n (by omega) (by omega) (by omega), if_pos (by omega)]
  refine ec_in [some (.ref 0), some (.int (nI p)), some (.int (nI w))] rfl rfl ?_
  refine ev_nx rfl ?_
  refine ev_si rfl rfl (by decide) rfl rfl rfl rfl (ec_le (by omega) (e_isPlace _ _)) ?_
  rw [w1]
  refine ev_nx rfl ?_
  refine ev_f (by decide) ?_
  iterate 3 refine ev_nx rfl ?_
  refine ev_si rfl rfl (by decide) rfl rfl rfl rfl (ec_le (by omega) (e_within _ _ _ _)) ?_
  rw [w2]
  refine ev_nx rfl ?_
  refine ev_t (by decide) ?_
  iterate 2 refine ev_nx rfl ?_
  refine ev_ne0 (fun b19 => ?_) (fun b19 => ?_)
  · iterate 3 refine ev_nx rfl ?_
    refine ev_ne (fun b34 => ?_) (fun b34 => ?_)
    · refine ev_nx rfl ?_
      first | refine ev_gf rfl rfl X.1.2 rfl ?_ | refine ev_gf rfl rfl hl.1 rfl ?_
      first | refine ev_gf rfl rfl X.1.2 rfl ?_ | refine ev_gf rfl rfl hl.1 rfl ?_
      refine ev_nx rfl ?_
      refine ev_lN rfl hl.2.2.2.1 (by omega) ?_
      exact ev_ri rfl rfl rfl ⟨vI (by unfold ndA; (repeat' split) <;> first | omega | rfl), rfl⟩
    · refine ev_nx rfl ?_
      first | refine ev_gf rfl rfl X.1.2 rfl ?_ | refine ev_gf rfl rfl hl.1 rfl ?_
      first | refine ev_gf rfl rfl X.1.2 rfl ?_ | refine ev_gf rfl rfl hl.1 rfl ?_
      refine ev_nx rfl ?_
      refine ev_lN rfl hl.2.2.1 (by omega) ?_
      refine ev_nx rfl ?_
      exact ev_ri rfl rfl rfl ⟨vI (by unfold ndA; (repeat' split) <;> first | omega | rfl), rfl⟩
  · refine ev_nx rfl ?_
    first | refine ev_gf rfl rfl X.1.2 rfl ?_ | refine ev_gf rfl rfl hl.1 rfl ?_
    first | refine ev_gf rfl rfl X.1.2 rfl ?_ | refine ev_gf rfl rfl hl.1 rfl ?_
    refine ev_nx rfl ?_
    refine ev_lN rfl hl.2.1 (by omega) ?_
    exact ev_ri rfl rfl rfl ⟨vI (by unfold ndA; (repeat' split) <;> first | omega | rfl), rfl⟩
theorem c_wire {p w : Nat} (X : XH V h) (hp : p < 5) (hw : w ≤ 2) : Ec (d + 2) m_X8_wire [.ref 0, .int (nI p), .int (nI w)] h (rt (.int (nI (wrA V.2.2.1.2.2.2.1 V.2.2.1.2.2.2.2.1 V.2.2.1.2.2.2.2.2 p w))) h) := by
  obtain ⟨C, hC, hl⟩ := XH_l6 X
  have ok := X.2.2.2.1.2
  have k1 := ok.2.2.2.1
  have k2 := ok.2.2.2.2.1
  have k3 := ok.2.2.2.2.2
  have w1 : wi (nI p) (nI 0) (nI 4) = 1 := by rw [wi_n (by omega) (by omega) (by omega), if_pos (by omega)]
  have w2 : wi (nI w) (nI 0) (nI 2) = 1 := by rw [wi_n (by omega) (by omega) (by omega), if_pos (by omega)]
  refine ec_in [some (.ref 0), some (.int (nI p)), some (.int (nI w))] rfl rfl ?_
  refine ev_nx rfl ?_
  refine ev_si rfl rfl (by decide) rfl rfl rfl rfl (ec_le (by omega) (e_isPlace _ _)) ?_
  rw [w1]
  refine ev_nx rfl ?_
  refine ev_f (by decide) ?_
  iterate 3 refine ev_nx rfl ?_
  refine ev_si rfl rfl (by decide) rfl rfl rfl rfl (ec_le (by omega) (e_within _ _ _ _)) ?_
  rw [w2]
  refine ev_nx rfl ?_
  refine ev_t (by decide) ?_
  iterate 2 refine ev_nx rfl ?_
  refine ev_ne0 (fun b19 => ?_) (fun b19 => ?_)
  · iterate 3 refine ev_nx rfl ?_
    refine ev_ne (fun b36 => ?_) (fun b36 => ?_)
    · refine ev_nx rfl ?_
      first | refine ev_gf rfl rfl X.1.2 rfl ?_ | refine ev_gf rfl rfl hl.1 rfl ?_
      first | refine ev_gf rfl rfl X.1.2 rfl ?_ | refine ev_gf rfl rfl hl.1 rfl ?_
      refine ev_nx rfl ?_
      refine ev_si rfl rfl (by decide) rfl rfl rfl rfl (ec_le (by omega) (e_bitAt _ _ (by omega) (by omega) _)) ?_
      exact ev_ri rfl rfl rfl ⟨vI (by unfold wrA; (repeat' split) <;> first | omega | rfl), rfl⟩
    · refine ev_nx rfl ?_
      first | refine ev_gf rfl rfl X.1.2 rfl ?_ | refine ev_gf rfl rfl hl.1 rfl ?_
      first | refine ev_gf rfl rfl X.1.2 rfl ?_ | refine ev_gf rfl rfl hl.1 rfl ?_
      iterate 2 refine ev_nx rfl ?_
      refine ev_si rfl rfl (by decide) rfl rfl rfl rfl (ec_le (by omega) (e_bitAt _ _ (by omega) (by omega) _)) ?_
      exact ev_ri rfl rfl rfl ⟨vI (by unfold wrA; (repeat' split) <;> first | omega | rfl), rfl⟩
  · refine ev_nx rfl ?_
    first | refine ev_gf rfl rfl X.1.2 rfl ?_ | refine ev_gf rfl rfl hl.1 rfl ?_
    first | refine ev_gf rfl rfl X.1.2 rfl ?_ | refine ev_gf rfl rfl hl.1 rfl ?_
    refine ev_nx rfl ?_
    refine ev_si rfl rfl (by decide) rfl rfl rfl rfl (ec_le (by omega) (e_bitAt _ _ (by omega) (by omega) _)) ?_
    exact ev_ri rfl rfl rfl ⟨vI (by unfold wrA; (repeat' split) <;> first | omega | rfl), rfl⟩
theorem c_send {s : Nat} (X : XH V h) (hs : s ≤ 30) : Ec (d + 3) m_X8_send [.ref 0, .int (nI s)] h (fun v h' => v = some (.int (nI (rdS (dyB s V.2.2.1).2.1))) ∧ XH (v3 (vR V) (dyB s V.2.2.1)) h') := by
  have w1 : wi (nI s) (nI 0) (nI 30) = 1 := by rw [wi_n (by omega) (by omega) (by omega), if_pos (by omega)]
  refine ec_in [some (.ref 0), some (.int (nI s))] rfl rfl ?_
  iterate 3 refine ev_nx rfl ?_
  refine ev_si rfl rfl (by decide) rfl rfl rfl rfl (ec_le (by omega) (e_within _ _ _ _)) ?_
  rw [w1]
  refine ev_nx rfl ?_
  refine ev_t (by decide) ?_
  refine ev_nx rfl ?_
  refine ev_gf rfl rfl X.1.2 rfl ?_
  refine ev_nx rfl ?_
  refine ev_gf rfl rfl X.1.2 rfl ?_
  refine ev_v rfl rfl rfl rfl rfl rfl (XH_16 X) rfl (c_rem X) (fun rv h2 q => ?_)
  obtain ⟨rfl, X2⟩ := q
  refine ev_nx rfl ?_
  refine ev_gf rfl rfl X2.1.2 rfl ?_
  iterate 2 refine ev_nx rfl ?_
  refine ev_v rfl rfl rfl rfl rfl rfl (XH_6o X2) rfl (l_send X2.2.2.2.1.1 X2.2.2.2.1.2 (XH_len X2) (by omega) (by decide)) (fun rv h3 q => ?_)
  obtain ⟨rfl, hx, hf⟩ := q
  exact ev_ri rfl rfl rfl ⟨rfl, XH_3 X2 hf ⟨hx, lokN_B X.2.2.2.1.2 (by omega)⟩⟩
end PA
