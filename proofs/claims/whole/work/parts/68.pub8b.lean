/-! the class: deeds, counts -/
section PB
variable {h h' : aH} {V : aV} {d i : Nat} {x : aN}
theorem ev_xor {m : aM} {pc np r : Nat} {L : aL} {S : List Value} {Q : Option Value → aH → Prop} {a b : Nat} (hc : am_cd m pc = some (.ixor, np, r)) (k : Ev d m np L (.int (nI (a ^^^ b)) :: S) h Q) : Ev d m pc L (.int (nI b) :: .int (nI a) :: S) h Q := by
  refine ev_nx (pc' := np) (L' := L) (S' := .int (nI a ^^^ nI b) :: S) (h' := h) ?_ (by rw [n_xor]; exact k)
  simp only [am_go, hc, am_op, am_bin, am_b2, am_nx]
/-- wires set on the line -/
theorem c_put {c t j : Nat} (X : XH V h) (ok : lok V.2.2.1.1 V.2.2.1.2.1 V.2.2.1.2.2.1 c t j) : XH (v3 V (V.2.2.1.1, V.2.2.1.2.1, V.2.2.1.2.2.1, c, t, j)) (h.set 6 (lo 6 c t j)) :=
  XH_3 X (l_put X.2.2.2.1.1 (XH_len X)).2 ⟨(l_put X.2.2.2.1.1 (XH_len X)).1, ok⟩
theorem c_cut {p : Nat} (X : XH V h) (hp : p < 5) : Ec (d + 2) m_X8_cut [.ref 0, .int (nI p)] h (fun v h' => v = some (.int (if bt V.2.2.1.2.2.2.1 p = 1 then -(nI 2) else nI (pcn (V.2.2.1.2.2.2.1 ||| 1 * 2 ^ p)))) ∧ XH (if bt V.2.2.1.2.2.2.1 p = 1 then V else v3 (vR V) (dyC p V.2.2.1)) h') := by
  have w1 : wi (nI p) (nI 0) (nI 4) = 1 := by rw [wi_n (by omega) (by omega) (by omega), if_pos (by omega)]
  have ok := X.2.2.2.1.2
  have k1 := ok.2.2.2.1
  have hb := bt_lt V.2.2.1.2.2.2.1 p
  have okc := lokN_C ok hp
  have hcl : V.2.2.1.2.2.2.1 ||| 1 * 2 ^ p < 32 := or32 k1 (p2_32 hp)
  refine ec_in [some (.ref 0), some (.int (nI p))] rfl rfl ?_
  refine ev_nx rfl ?_
  refine ev_si rfl rfl (by decide) rfl rfl rfl rfl (ec_le (by omega) (e_isPlace _ _)) ?_
  rw [w1]
  refine ev_nx rfl ?_
  refine ev_t (by decide) ?_
  refine ev_nx rfl ?_
  refine ev_gf rfl rfl X.1.2 rfl ?_
  refine ev_gf rfl rfl (XH_6o X) rfl ?_
  refine ev_nx rfl ?_
  refine ev_si rfl rfl (by decide) rfl rfl rfl rfl (ec_le (by omega) (e_bitAt _ _ (by omega) (by omega) _)) ?_
  iterate 2 refine ev_nx rfl ?_
  refine ev_ne (fun b21 => ?_) (fun b21 => ?_)
  · refine ev_nx rfl ?_
    refine ev_gf rfl rfl X.1.2 rfl ?_
    refine ev_nx rfl ?_
    refine ev_gf rfl rfl X.1.2 rfl ?_
    refine ev_v rfl rfl rfl rfl rfl rfl (XH_16 X) rfl (c_rem X) (fun rv h2 q => ?_)
    obtain ⟨rfl, X2⟩ := q
    refine ev_nx rfl ?_
    refine ev_gf rfl rfl X2.1.2 rfl ?_
    refine ev_nx rfl ?_
    refine ev_gf rfl rfl (XH_6o X2) rfl ?_
    iterate 2 refine ev_nx rfl ?_
    refine ev_sh1 rfl (by omega) ?_
    refine ev_or rfl ?_
    refine ev_pM rfl rfl (XH_6o X2) rfl rfl rfl rfl ?_
    have X3 : XH (v3 (vR V) (dyC p V.2.2.1)) (h2.set 6 (lo 6 (V.2.2.1.2.2.2.1 ||| 1 * 2 ^ p) V.2.2.1.2.2.2.2.1 V.2.2.1.2.2.2.2.2)) := c_put X2 okc
    show Ev _ _ _ _ _ (h2.set 6 (lo 6 (V.2.2.1.2.2.2.1 ||| 1 * 2 ^ p) V.2.2.1.2.2.2.2.1 V.2.2.1.2.2.2.2.2)) _
    generalize h2.set 6 (lo 6 (V.2.2.1.2.2.2.1 ||| 1 * 2 ^ p) V.2.2.1.2.2.2.2.1 V.2.2.1.2.2.2.2.2) = h3 at X3 ⊢
    refine ev_nx rfl ?_
    refine ev_gf rfl rfl X3.1.2 rfl ?_
    refine ev_gf rfl rfl (XH_6o X3) rfl ?_
    show Ev _ _ _ _ (.int (nI (V.2.2.1.2.2.2.1 ||| 1 * 2 ^ p)) :: _) _ _
    refine ev_si rfl rfl (by decide) rfl rfl rfl rfl (e_bitCount (by omega)) ?_
    simp only [if_neg b21]
    exact ev_ri rfl rfl rfl ⟨rfl, X3⟩
  · refine ev_nx rfl ?_
    simp only [if_pos b21]
    exact ev_ri rfl rfl rfl ⟨rfl, X⟩
theorem c_touch {p : Nat} (X : XH V h) (hp : p < 4) : Ec (d + 2) m_X8_touch [.ref 0, .int (nI p)] h (fun v h' => v = some (.int (if bt V.2.2.1.2.2.2.2.2 p = 1 then -(nI 2) else nI (pcn (V.2.2.1.2.2.2.2.2 ||| 1 * 2 ^ p)))) ∧ XH (if bt V.2.2.1.2.2.2.2.2 p = 1 then V else v3 (vR V) (V.2.2.1.1, V.2.2.1.2.1, V.2.2.1.2.2.1, V.2.2.1.2.2.2.1, V.2.2.1.2.2.2.2.1, V.2.2.1.2.2.2.2.2 ||| 1 * 2 ^ p)) h') := by
  have w1 : wi (nI p) (nI 0) (nI 3) = 1 := by rw [wi_n (by omega) (by omega) (by omega), if_pos (by omega)]
  have ok := X.2.2.2.1.2
  have k1 := ok.2.2.2.2.2
  have hb := bt_lt V.2.2.1.2.2.2.2.2 p
  have hcl : V.2.2.1.2.2.2.2.2 ||| 1 * 2 ^ p < 16 := or16 k1 (p2_16 hp)
  have okc : lok V.2.2.1.1 V.2.2.1.2.1 V.2.2.1.2.2.1 V.2.2.1.2.2.2.1 V.2.2.1.2.2.2.2.1 (V.2.2.1.2.2.2.2.2 ||| 1 * 2 ^ p) := ⟨ok.1, ok.2.1, ok.2.2.1, ok.2.2.2.1, ok.2.2.2.2.1, hcl⟩
  refine ec_in [some (.ref 0), some (.int (nI p))] rfl rfl ?_
  iterate 3 refine ev_nx rfl ?_
  refine ev_si rfl rfl (by decide) rfl rfl rfl rfl (ec_le (by omega) (e_within _ _ _ _)) ?_
  rw [w1]
  refine ev_nx rfl ?_
  refine ev_t (by decide) ?_
  refine ev_nx rfl ?_
  refine ev_gf rfl rfl X.1.2 rfl ?_
  refine ev_gf rfl rfl (XH_6o X) rfl ?_
  refine ev_nx rfl ?_
  refine ev_si rfl rfl (by decide) rfl rfl rfl rfl (ec_le (by omega) (e_bitAt _ _ (by omega) (by omega) _)) ?_
  iterate 2 refine ev_nx rfl ?_
  refine ev_ne (fun b23 => ?_) (fun b23 => ?_)
  · refine ev_nx rfl ?_
    refine ev_gf rfl rfl X.1.2 rfl ?_
    refine ev_nx rfl ?_
    refine ev_gf rfl rfl X.1.2 rfl ?_
    refine ev_v rfl rfl rfl rfl rfl rfl (XH_16 X) rfl (c_rem X) (fun rv h2 q => ?_)
    obtain ⟨rfl, X2⟩ := q
    refine ev_nx rfl ?_
    refine ev_gf rfl rfl X2.1.2 rfl ?_
    refine ev_nx rfl ?_
    refine ev_gf rfl rfl (XH_6o X2) rfl ?_
    iterate 2 refine ev_nx rfl ?_
    refine ev_sh1 rfl (by omega) ?_
    refine ev_or rfl ?_
    refine ev_pM rfl rfl (XH_6o X2) rfl rfl rfl rfl ?_
    have X3 := c_put X2 okc
    show Ev _ _ _ _ _ (h2.set 6 (lo 6 V.2.2.1.2.2.2.1 V.2.2.1.2.2.2.2.1 (V.2.2.1.2.2.2.2.2 ||| 1 * 2 ^ p))) _
    generalize h2.set 6 (lo 6 V.2.2.1.2.2.2.1 V.2.2.1.2.2.2.2.1 (V.2.2.1.2.2.2.2.2 ||| 1 * 2 ^ p)) = h3 at X3 ⊢
    refine ev_nx rfl ?_
    refine ev_gf rfl rfl X3.1.2 rfl ?_
    refine ev_gf rfl rfl (XH_6o X3) rfl ?_
    show Ev _ _ _ _ (.int (nI (V.2.2.1.2.2.2.2.2 ||| 1 * 2 ^ p)) :: _) _ _
    refine ev_si rfl rfl (by decide) rfl rfl rfl rfl (e_bitCount (by omega)) ?_
    simp only [if_neg b23]
    exact ev_ri rfl rfl rfl ⟨rfl, X3⟩
  · refine ev_nx rfl ?_
    simp only [if_pos b23]
    exact ev_ri rfl rfl rfl ⟨rfl, X⟩
theorem c_turn {p : Nat} (X : XH V h) (hp : p < 5) : Ec (d + 2) m_X8_turn [.ref 0, .int (nI p)] h (fun v h' => v = some (.int (nI (pcn (V.2.2.1.2.2.2.2.1 ^^^ 1 * 2 ^ p)))) ∧ XH (v3 (vR V) (V.2.2.1.1, V.2.2.1.2.1, V.2.2.1.2.2.1, V.2.2.1.2.2.2.1, V.2.2.1.2.2.2.2.1 ^^^ 1 * 2 ^ p, V.2.2.1.2.2.2.2.2)) h') := by
  have w1 : wi (nI p) (nI 0) (nI 4) = 1 := by rw [wi_n (by omega) (by omega) (by omega), if_pos (by omega)]
  have ok := X.2.2.2.1.2
  have hcl : V.2.2.1.2.2.2.2.1 ^^^ 1 * 2 ^ p < 32 := xor32 ok.2.2.2.2.1 (p2_32 hp)
  have okc : lok V.2.2.1.1 V.2.2.1.2.1 V.2.2.1.2.2.1 V.2.2.1.2.2.2.1 (V.2.2.1.2.2.2.2.1 ^^^ 1 * 2 ^ p) V.2.2.1.2.2.2.2.2 := ⟨ok.1, ok.2.1, ok.2.2.1, ok.2.2.2.1, hcl, ok.2.2.2.2.2⟩
  refine ec_in [some (.ref 0), some (.int (nI p))] rfl rfl ?_
  refine ev_nx rfl ?_
  refine ev_si rfl rfl (by decide) rfl rfl rfl rfl (ec_le (by omega) (e_isPlace _ _)) ?_
  rw [w1]
  refine ev_nx rfl ?_
  refine ev_t (by decide) ?_
  refine ev_nx rfl ?_
  refine ev_gf rfl rfl X.1.2 rfl ?_
  refine ev_nx rfl ?_
  refine ev_gf rfl rfl X.1.2 rfl ?_
  refine ev_v rfl rfl rfl rfl rfl rfl (XH_16 X) rfl (c_rem X) (fun rv h2 q => ?_)
  obtain ⟨rfl, X2⟩ := q
  refine ev_nx rfl ?_
  refine ev_gf rfl rfl X2.1.2 rfl ?_
  refine ev_nx rfl ?_
  refine ev_gf rfl rfl (XH_6o X2) rfl ?_
  iterate 2 refine ev_nx rfl ?_
  refine ev_sh1 rfl (by omega) ?_
  refine ev_xor rfl ?_
  refine ev_pM rfl rfl (XH_6o X2) rfl rfl rfl rfl ?_
  have X3 := c_put X2 okc
  show Ev _ _ _ _ _ (h2.set 6 (lo 6 V.2.2.1.2.2.2.1 (V.2.2.1.2.2.2.2.1 ^^^ 1 * 2 ^ p) V.2.2.1.2.2.2.2.2)) _
  generalize h2.set 6 (lo 6 V.2.2.1.2.2.2.1 (V.2.2.1.2.2.2.2.1 ^^^ 1 * 2 ^ p) V.2.2.1.2.2.2.2.2) = h3 at X3 ⊢
  refine ev_nx rfl ?_
  refine ev_gf rfl rfl X3.1.2 rfl ?_
  refine ev_gf rfl rfl (XH_6o X3) rfl ?_
  show Ev _ _ _ _ (.int (nI (V.2.2.1.2.2.2.2.1 ^^^ 1 * 2 ^ p)) :: _) _ _
  refine ev_si rfl rfl (by decide) rfl rfl rfl rfl (e_bitCount (by omega)) ?_
  exact ev_ri rfl rfl rfl ⟨rfl, X3⟩
theorem c_mend {p : Nat} (X : XH V h) (hp : p < 5) : Ec (d + 2) m_X8_mend [.ref 0, .int (nI p)] h (fun v h' => v = some (.int (if bt (mdw V.2.2.1.2.2.2.1 V.2.2.1.2.2.2.2.1 V.2.2.1.2.2.2.2.2) p = 0 then -(nI 2) else nI (pcn (clr V.2.2.1.2.2.2.1 (1 * 2 ^ p) ||| clr V.2.2.1.2.2.2.2.1 (1 * 2 ^ p) ||| clr V.2.2.1.2.2.2.2.2 (mdj (1 * 2 ^ p)))))) ∧ XH (if bt (mdw V.2.2.1.2.2.2.1 V.2.2.1.2.2.2.2.1 V.2.2.1.2.2.2.2.2) p = 0 then V else v3 (vR V) (dyM p V.2.2.1)) h') := by
  have w1 : wi (nI p) (nI 0) (nI 4) = 1 := by rw [wi_n (by omega) (by omega) (by omega), if_pos (by omega)]
  have ok := X.2.2.2.1.2
  have okm := lokN_M (p := p) ok
  have hb := bt_lt (mdw V.2.2.1.2.2.2.1 V.2.2.1.2.2.2.2.1 V.2.2.1.2.2.2.2.2) p
  have hj := ok.2.2.2.2.2
  have hmd : mdw V.2.2.1.2.2.2.1 V.2.2.1.2.2.2.2.1 V.2.2.1.2.2.2.2.2 < 32 := or32 (or32 (or32 ok.2.2.2.1 ok.2.2.2.2.1) (by omega)) (by omega)
  have hp2 := p2_32 hp
  have hn : clr V.2.2.1.2.2.2.1 (1 * 2 ^ p) ||| clr V.2.2.1.2.2.2.2.1 (1 * 2 ^ p) ||| clr V.2.2.1.2.2.2.2.2 (mdj (1 * 2 ^ p)) < 32 := or32 (or32 (clr32 ok.2.2.2.1) (clr32 ok.2.2.2.2.1)) (clr32 (by omega))
  refine ec_in [some (.ref 0), some (.int (nI p))] rfl rfl ?_
  refine ev_nx rfl ?_
  refine ev_si rfl rfl (by decide) rfl rfl rfl rfl (ec_le (by omega) (e_isPlace _ _)) ?_
  rw [w1]
  refine ev_nx rfl ?_
  refine ev_t (by decide) ?_
  refine ev_nx rfl ?_
  refine ev_gf rfl rfl X.1.2 rfl ?_
  refine ev_vi rfl rfl rfl rfl rfl rfl (XH_6o X) rfl (l_mbl X.2.2.2.1.1 ok (XH_len X)) ?_
  refine ev_nx rfl ?_
  refine ev_si rfl rfl (by decide) rfl rfl rfl rfl (ec_le (by omega) (e_bitAt _ _ (by omega) (by omega) _)) ?_
  refine ev_nx rfl ?_
  refine ev_ne0 (fun b20 => ?_) (fun b20 => ?_)
  · refine ev_nx rfl ?_
    refine ev_gf rfl rfl X.1.2 rfl ?_
    refine ev_nx rfl ?_
    refine ev_gf rfl rfl X.1.2 rfl ?_
    refine ev_v rfl rfl rfl rfl rfl rfl (XH_16 X) rfl (c_rem X) (fun rv h2 q => ?_)
    obtain ⟨rfl, X2⟩ := q
    refine ev_nx rfl ?_
    refine ev_gf rfl rfl X2.1.2 rfl ?_
    iterate 2 refine ev_nx rfl ?_
    refine ev_sh1 rfl (by omega) ?_
    refine ev_v rfl rfl rfl rfl rfl rfl (XH_6o X2) rfl (l_mend X2.2.2.2.1.1 X2.2.2.2.1.2 (XH_len X2) hp2) (fun rv h3 q => ?_)
    obtain ⟨rfl, hx, hf⟩ := q
    have X3 : XH (v3 (vR V) (dyM p V.2.2.1)) h3 := XH_3 X2 hf ⟨hx, okm⟩
    refine ev_nx rfl ?_
    refine ev_gf rfl rfl X3.1.2 rfl ?_
    refine ev_gf rfl rfl (XH_6o X3) rfl ?_
    show Ev _ _ _ _ (.int (nI (clr V.2.2.1.2.2.2.1 (1 * 2 ^ p))) :: _) _ _
    refine ev_nx rfl ?_
    refine ev_gf rfl rfl X3.1.2 rfl ?_
    refine ev_gf rfl rfl (XH_6o X3) rfl ?_
    show Ev _ _ _ _ (.int (nI (clr V.2.2.1.2.2.2.2.1 (1 * 2 ^ p))) :: _) _ _
    refine ev_or rfl ?_
    refine ev_nx rfl ?_
    refine ev_gf rfl rfl X3.1.2 rfl ?_
    refine ev_gf rfl rfl (XH_6o X3) rfl ?_
    show Ev _ _ _ _ (.int (nI (clr V.2.2.1.2.2.2.2.2 (mdj (1 * 2 ^ p)))) :: _) _ _
    refine ev_or rfl ?_
    refine ev_si rfl rfl (by decide) rfl rfl rfl rfl (e_bitCount (by omega)) ?_
    simp only [if_neg b20]
    exact ev_ri rfl rfl rfl ⟨rfl, X3⟩
  · refine ev_nx rfl ?_
    simp only [if_pos b20]
    exact ev_ri rfl rfl rfl ⟨rfl, X⟩
theorem c_change {p q : Nat} (X : XH V h) (hp : p < 5) (hq : q < 5) (hpq : p ≠ q) : Ec (d + 2) m_X8_change [.ref 0, .int (nI p), .int (nI q)] h (fun v h' => v = some (.int (nI ((swp V.2.2.1.1 p q).getD p 0))) ∧ XH (v3 (vR V) (dyS p q V.2.2.1)) h') := by
  have w1 : wi (nI p) (nI 0) (nI 4) = 1 := by rw [wi_n (by omega) (by omega) (by omega), if_pos (by omega)]
  have w2 : wi (nI q) (nI 0) (nI 4) = 1 := by rw [wi_n (by omega) (by omega) (by omega), if_pos (by omega)]
  have ok := X.2.2.2.1.2
  have oks := lokN_S ok hp hq
  have hl5 : (swp V.2.2.1.1 p q).length = 5 := oks.1.1
  refine ec_in [some (.ref 0), some (.int (nI p)), some (.int (nI q))] rfl rfl ?_
  refine ev_nx rfl ?_
  refine ev_si rfl rfl (by decide) rfl rfl rfl rfl (ec_le (by omega) (e_isPlace _ _)) ?_
  rw [w1]
  refine ev_nx rfl ?_
  refine ev_f (by decide) ?_
  refine ev_nx rfl ?_
  refine ev_si rfl rfl (by decide) rfl rfl rfl rfl (ec_le (by omega) (e_isPlace _ _)) ?_
  rw [w2]
  refine ev_nx rfl ?_
  refine ev_f (by decide) ?_
  iterate 3 refine ev_nx rfl ?_
  refine ev_ne (fun b16 => ?_) (fun b16 => absurd b16 (by omega))
  refine ev_nx rfl ?_
  refine ev_gf rfl rfl X.1.2 rfl ?_
  refine ev_nx rfl ?_
  refine ev_gf rfl rfl X.1.2 rfl ?_
  refine ev_v rfl rfl rfl rfl rfl rfl (XH_16 X) rfl (c_rem X) (fun rv h2 q => ?_)
  obtain ⟨rfl, X2⟩ := q
  refine ev_nx rfl ?_
  refine ev_gf rfl rfl X2.1.2 rfl ?_
  iterate 2 refine ev_nx rfl ?_
  refine ev_v rfl rfl rfl rfl rfl rfl (XH_6o X2) rfl (l_swap X2.2.2.2.1.1 X2.2.2.2.1.2 (XH_len X2) hp hq) (fun rv h3 q => ?_)
  obtain ⟨rfl, hx, hf⟩ := q
  have X3 : XH (v3 (vR V) (dyS p q V.2.2.1)) h3 := XH_3 X2 hf ⟨hx, oks⟩
  obtain ⟨C, hC, hl⟩ := XH_l6 X3
  refine ev_nx rfl ?_
  refine ev_gf rfl rfl X3.1.2 rfl ?_
  refine ev_gf rfl rfl hl.1 rfl ?_
  refine ev_nx rfl ?_
  refine ev_lN rfl hl.2.1 ⟨by show p < (swp V.2.2.1.1 p q).length; omega, by omega, by omega⟩ ?_
  exact ev_ri rfl rfl rfl ⟨rfl, X3⟩
theorem c_count {w : Nat} (X : XH V h) (hw : w ≤ 9) : Ec (d + 1) m_X8_count [.ref 0, .int (nI w)] h (rt (.int (ctA V.2.1.2.2 V.2.2.1.2.2.2.1 V.2.2.1.2.2.2.2.1 V.2.2.1.2.2.2.2.2 V.2.2.1.2.1 V.2.2.2.1.2.1 V.2.2.2.1.2.2.1 V.2.2.2.2.1.2.2 V.2.2.2.2.2.2 V.1.2 w)) h) := by
  have ok := X.2.2.2.1.2
  have k1 := ok.2.2.2.1
  have k2 := ok.2.2.2.2.1
  have k3 := ok.2.2.2.2.2
  obtain ⟨R, hr, P, hu, -⟩ := X.2.2.2.2.2.2.1
  refine ec_in [some (.ref 0), some (.int (nI w))] rfl rfl ?_
  refine ev_nx rfl ?_
  rcases (show w = 0 ∨ w = 1 ∨ w = 2 ∨ w = 3 ∨ w = 4 ∨ w = 5 ∨ w = 6 ∨ w = 7 ∨ w = 8 ∨ w = 9 by omega) with rfl | rfl | rfl | rfl | rfl | rfl | rfl | rfl | rfl | rfl
  · refine ev_nx (pc' := 56) rfl ?_
    refine ev_nx rfl ?_
    refine ev_gf rfl rfl X.1.2 rfl ?_
    refine ev_gf rfl rfl X.2.2.1.1.1 rfl ?_
    exact ev_ri rfl rfl rfl ⟨rfl, rfl⟩
  · refine ev_nx (pc' := 64) rfl ?_
    refine ev_nx rfl ?_
    refine ev_gf rfl rfl X.1.2 rfl ?_
    refine ev_gf rfl rfl (XH_6o X) rfl ?_
    refine ev_si rfl rfl (by decide) rfl rfl rfl rfl (e_bitCount (by omega)) ?_
    exact ev_ri rfl rfl rfl ⟨rfl, rfl⟩
  · refine ev_nx (pc' := 75) rfl ?_
    refine ev_nx rfl ?_
    refine ev_gf rfl rfl X.1.2 rfl ?_
    refine ev_gf rfl rfl (XH_6o X) rfl ?_
    refine ev_si rfl rfl (by decide) rfl rfl rfl rfl (e_bitCount (by omega)) ?_
    exact ev_ri rfl rfl rfl ⟨rfl, rfl⟩
  · refine ev_nx (pc' := 86) rfl ?_
    refine ev_nx rfl ?_
    refine ev_gf rfl rfl X.1.2 rfl ?_
    refine ev_gf rfl rfl (XH_6o X) rfl ?_
    refine ev_si rfl rfl (by decide) rfl rfl rfl rfl (e_bitCount (by omega)) ?_
    exact ev_ri rfl rfl rfl ⟨rfl, rfl⟩
  · refine ev_nx (pc' := 97) rfl ?_
    refine ev_nx rfl ?_
    refine ev_gf rfl rfl X.1.2 rfl ?_
    refine ev_vi rfl rfl rfl rfl rfl rfl (XH_6o X) rfl (l_nu X.2.2.2.1.1 ok (XH_len X)) ?_
    exact ev_ri rfl rfl rfl ⟨rfl, rfl⟩
  · refine ev_nx (pc' := 105) rfl ?_
    refine ev_nx rfl ?_
    refine ev_gf rfl rfl X.1.2 rfl ?_
    refine ev_gf rfl rfl (XH_16 X) rfl ?_
    exact ev_ri rfl rfl rfl ⟨rfl, rfl⟩
  · refine ev_nx (pc' := 113) rfl ?_
    refine ev_nx rfl ?_
    refine ev_gf rfl rfl X.1.2 rfl ?_
    refine ev_gf rfl rfl (XH_16 X) rfl ?_
    exact ev_ri rfl rfl rfl ⟨rfl, rfl⟩
  · refine ev_nx (pc' := 121) rfl ?_
    refine ev_nx rfl ?_
    refine ev_gf rfl rfl X.1.2 rfl ?_
    refine ev_gf rfl rfl hu.1 rfl ?_
    exact ev_ri rfl rfl rfl ⟨rfl, rfl⟩
  · refine ev_nx (pc' := 129) rfl ?_
    refine ev_nx rfl ?_
    refine ev_gf rfl rfl X.1.2 rfl ?_
    refine ev_gf rfl rfl X.2.2.2.2.2.2.2.1.1.1 rfl ?_
    exact ev_ri rfl rfl rfl ⟨rfl, rfl⟩
  · refine ev_nx (pc' := 137) rfl ?_
    refine ev_nx rfl ?_
    refine ev_gf rfl rfl X.1.2 rfl ?_
    refine ev_gf rfl rfl X.2.1.1.1 rfl ?_
    exact ev_ri rfl rfl rfl ⟨rfl, rfl⟩
end PB
