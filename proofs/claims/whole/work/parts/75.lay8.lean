/-! the class: lay -/
section PI
variable {h h' : aH} {V : aV} {d i : Nat} {x : aN} {l : List Nat} {n : Nat}
theorem l_mw (hx : ltx h i x) (hK : x.1.length = 5) (hh : h.length ≤ 100000) : Ec d m_X3_makeWhole [.ref i] h (fun r h' => r = none ∧ ltx h' i (z5, x.2.1, x.2.2.1, 0, 0, 0) ∧ fr i (i + 4) h h') := by
  obtain ⟨C, hC, e, hi⟩ := ltx_lh hx hh
  have H := e_makeWhole (d := d) (h := h) (i := i) (S := x.2.1) (G := x.2.2.1) (C := C) (c := x.2.2.2.1) (t := x.2.2.2.2.1) (j := x.2.2.2.2.2) hi hK
  rw [e] at H
  refine ec_mono H ?_
  rintro r h' ⟨rfl, rfl⟩
  exact ⟨rfl, lh_ltx hi hC⟩
theorem l_rest (hx : ltx h i x) (hS : x.2.1.length = 5) (hG : x.2.2.1.length = 5) (hh : h.length ≤ 100000) : Ec d m_X3_rest [.ref i] h (fun r h' => r = none ∧ ltx h' i (x.1, z5, z5, x.2.2.2) ∧ fr i (i + 4) h h') := by
  obtain ⟨C, hC, e, hi⟩ := ltx_lh hx hh
  have H := e_rest (d := d) (h := h) (i := i) (K := x.1) (C := C) (c := x.2.2.2.1) (t := x.2.2.2.2.1) (j := x.2.2.2.2.2) hi hS hG
  rw [e] at H
  refine ec_mono H ?_
  rintro r h' ⟨rfl, rfl⟩
  exact ⟨rfl, lh_ltx hi hC⟩
theorem tI1_lok2 {k e : Nat} {T : aT} (ok : lokN T.1) (he : iE l n k = some e) : lokN (tI1 l n k e T).1 := by
  by_cases hm : lt_ l n k = 109
  · unfold tI1
    rw [if_neg (by omega), if_neg (by omega), if_neg (by omega), if_neg (by omega)]
    exact ok
  · exact tI1_lok ok he hm
theorem tll_ok : ∀ f k T, lokN T.1 → mok T.2.1 T.2.2.1 T.2.2.2 → lokN (tll l n f k T).1 ∧ mok (tll l n f k T).2.1 (tll l n f k T).2.2.1 (tll l n f k T).2.2.2 := by
  intro f
  induction f with
  | zero => intro k T ok mo; exact ⟨ok, mo⟩
  | succ f ih =>
    intro k T ok mo
    rw [tll]
    split
    · cases he : iE l n k with
      | none => exact ⟨ok, mo⟩
      | some e => exact ih e _ (tI1_lok2 ok he) (tI1_ok mo ok.1.1).1
    · exact ⟨ok, mo⟩
/-- what the text tells the class -/
def tC (V : aV) : aT := tll V.1.1 V.1.2 200 0 (zN, V.2.1.1, V.2.1.2.1, 0)
def vL (V : aV) : aV := (V.1, ((tC V).2.1, (tC V).2.2.1, (tC V).2.2.2), (tC V).1, (V.2.2.2.1.1, 0, 0, V.2.2.2.1.2.2.2), (V.2.2.2.2.1.1, V.2.2.2.2.1.2.1, 0), (V.2.2.2.2.2.1, 0))
theorem c_layScript (X : XH V h) (hp : 0 < (tC V).2.2.2) : Ec (d + 5) m_X8_layScript [.ref 0] h (fun r h' => r = none ∧ XH (vL V) h') := by
  obtain ⟨h0, h1, h2, h3, h4, h5, h6, h7, h8, h9⟩ := X
  have hh : h.length ≤ 100000 := by rw [h0.1]; decide
  have mo0 : mok V.2.1.1 V.2.1.2.1 0 := ⟨h2.2.1.1, h2.2.1.2.1, h2.2.1.2.2.1, h2.2.1.2.2.2.1, Nat.zero_le _⟩
  obtain ⟨okT, moT⟩ := tll_ok (l := V.1.1) (n := V.1.2) 200 0 (zN, V.2.1.1, V.2.1.2.1, 0) lokN_z mo0
  obtain ⟨R, hr, P, hu, uk, hR⟩ := h6
  obtain ⟨c0, t0, j0, e6⟩ := ltx_o h3.1
  refine ec_in [some (.ref 0)] rfl rfl ?_
  refine ev_nx rfl ?_
  refine ev_gf rfl rfl h0.2 rfl ?_
  refine ev_v rfl rfl rfl rfl rfl rfl e6 rfl (l_mw h3.1 h3.2.1.1 hh) (fun rv g1 q => ?_)
  obtain ⟨rfl, x1, f1⟩ := q
  have k1 : g1[0]? = some ob := by rw [f1.2 0 (by omega)]; exact h0.2
  obtain ⟨c1, t1, j1, e6'⟩ := ltx_o x1
  refine ev_nx rfl ?_
  refine ev_gf rfl rfl k1 rfl ?_
  refine ev_v rfl rfl rfl rfl rfl rfl e6' rfl (l_rest x1 h3.2.2.1.1 h3.2.2.2.1.1 (by rw [f1.1]; exact hh)) (fun rv g2 q => ?_)
  obtain ⟨rfl, x2, f2⟩ := q
  have k2 : g2[0]? = some ob := by rw [f2.2 0 (by omega)]; exact k1
  have fr2 : fr 6 10 h g2 := ⟨f2.1.trans f1.1, fun q hq => (f2.2 q hq).trans (f1.2 q hq)⟩
  have m2 := xq2_mv h2 (h' := g2) (fun q _ _ => fr2.2 q (by omega))
  refine ev_nx rfl ?_
  refine ev_gf rfl rfl k2 rfl ?_
  refine ev_nx rfl ?_
  refine ev_pM rfl rfl m2.1.1 rfl rfl rfl rfl ?_
  show Ev _ _ _ _ _ (g2.set 3 (.inr (.inr (4, [.ref 4, .ref 5, .int (nI 0)])))) _
  have len2 : g2.length = 92 := by rw [fr2.1]; exact h0.1
  have M3 : mat (g2.set 3 (.inr (.inr (4, [.ref 4, .ref 5, .int (nI 0)])))) V.2.1.1 V.2.1.2.1 0 := ⟨List.getElem?_set_self (by omega), by rw [gset_n (by decide)]; exact m2.1.2.1, by rw [gset_n (by decide)]; exact m2.1.2.2⟩
  have X3 : ltx (g2.set 3 (.inr (.inr (4, [.ref 4, .ref 5, .int (nI 0)])))) 6 zN := ltx_fr x2 (fun q a b => List.getElem?_set_ne (show 3 ≠ q by omega))
  have F3 : ∀ q, q < 3 ∨ 10 < q → (g2.set 3 (.inr (.inr (4, [.ref 4, .ref 5, .int (nI 0)]))))[q]? = h[q]? := fun q hq => by rw [gset_n (by omega)]; exact fr2.2 q (by omega)
  have L3 : (g2.set 3 (.inr (.inr (4, [.ref 4, .ref 5, .int (nI 0)])))).length = 92 := by rw [List.length_set]; exact len2
  generalize g2.set 3 (.inr (.inr (4, [.ref 4, .ref 5, .int (nI 0)]))) = g3 at M3 X3 F3 L3 ⊢
  have s3 := xq1_mv h1 (h' := g3) (fun q _ _ => F3 q (by omega))
  have k3 : g3[0]? = some ob := by rw [F3 0 (by omega)]; exact h0.2
  refine ev_nx rfl ?_
  refine ev_gf rfl rfl k3 rfl ?_
  refine ev_nx rfl ?_
  refine ev_gf rfl rfl k3 rfl ?_
  refine ev_nx rfl ?_
  refine ev_gf rfl rfl k3 rfl ?_
  refine ev_v rfl rfl rfl rfl rfl rfl s3.1.1 rfl (e_tell (i := 6) (z := (zN, V.2.1.1, V.2.1.2.1, 0)) s3.1 s3.2 ⟨M3, X3⟩ mo0 rfl (by decide) (by rw [L3]; decide)) (fun rv g4 q => ?_)
  obtain ⟨rfl, q4, f4⟩ := q
  have F4 : ∀ q, q < 3 ∨ 10 < q → g4[q]? = h[q]? := fun q hq => by rw [f4.2 q (by omega) (by omega)]; exact F3 q hq
  have L4 : g4.length = 92 := by rw [f4.1]; exact L3
  have k4 : g4[0]? = some ob := by rw [F4 0 (by omega)]; exact h0.2
  have p4 := xq5_mv h5 (h' := g4) (fun q _ _ => F4 q (by omega))
  refine ev_nx rfl ?_
  refine ev_gf rfl rfl k4 rfl ?_
  refine ev_v rfl rfl rfl rfl rfl rfl p4.1.1 rfl (e_pempty p4.1) (fun rv g5 q => ?_)
  obtain ⟨rfl, q5, f5⟩ := q
  have k5 : g5[0]? = some ob := by rw [f5.2 0 (by omega)]; exact k4
  have F5 : ∀ q, q < 3 ∨ 68 < q ∨ (10 < q ∧ q < 16) → g5[q]? = h[q]? := fun q hq => by rw [f5.2 q (by omega)]; exact F4 q (by omega)
  have u5 : uat g5 V.2.2.2.2.1.1 V.2.2.2.2.1.2.1 R hr P V.2.2.2.2.1.2.2 := ⟨by rw [F5 _ (by omega)]; exact hu.1, by rw [F5 _ (by omega)]; exact hu.2.1, by rw [F5 _ (by omega)]; exact hu.2.2.1, by rw [F5 _ (by omega)]; exact hu.2.2.2.1, by rw [F5 _ (by omega)]; exact hu.2.2.2.2⟩
  refine ev_nx rfl ?_
  refine ev_gf rfl rfl k5 rfl ?_
  refine ev_v rfl rfl rfl rfl rfl rfl u5.1 rfl (e_uempty u5) (fun rv g6 q => ?_)
  obtain ⟨rfl, q6, f6⟩ := q
  have k6 : g6[0]? = some ob := by rw [f6.2 0 (by omega)]; exact k5
  have a6 := xq7_mv h7 (h' := g6) (fun q _ _ => by rw [f6.2 q (by omega)]; exact F5 q (by omega))
  refine ev_nx rfl ?_
  refine ev_nx rfl ?_
  refine ev_gf rfl rfl k6 rfl ?_
  refine ev_v rfl rfl rfl rfl rfl rfl a6.1.1 rfl (e_hempty a6.1) (fun rv g7 q => ?_)
  obtain ⟨rfl, q7, f7⟩ := q
  refine ev_nx rfl ?_
  have G4 : ∀ q, q < 16 ∨ 75 < q → g7[q]? = g4[q]? := fun q hq => by rw [f7.2 q (by omega), f6.2 q (by omega), f5.2 q (by omega)]
  have G5 : ∀ q, 16 ≤ q → q ≤ 68 → g7[q]? = g5[q]? := fun q a b => by rw [f7.2 q (by omega), f6.2 q (by omega)]
  have G6 : ∀ q, 69 ≤ q → q ≤ 73 → g7[q]? = g6[q]? := fun q a b => f7.2 q (by omega)
  have G0 : ∀ q, q < 3 ∨ (10 < q ∧ q < 16) ∨ 75 < q → g7[q]? = h[q]? := fun q hq => by rw [G4 q (by omega)]; exact F4 q (by omega)
  refine ev_rt rfl ⟨rfl, ⟨by rw [f7.1, f6.1, f5.1]; exact L4, by rw [G0 0 (by omega)]; exact h0.2⟩, xq1_mv h1 (fun q _ _ => G0 q (by omega)), ?_, ?_, xq4_mv h4 (fun q _ _ => G0 q (by omega)), ?_, ?_, ⟨q7, a6.2.1, Nat.zero_le _, a6.2.2.2⟩, xq8_mv h8 (fun q _ _ => G0 q (by omega)), xq9_mv h9 (fun q _ _ => G0 q (by omega))⟩
  · exact xq2_mv (h := g4) ⟨q4.1, moT, hp⟩ (fun q _ _ => G4 q (by omega))
  · exact xq3_mv (h := g4) ⟨q4.2, okT⟩ (fun q _ _ => G4 q (by omega))
  · exact xq5_mv (h := g5) ⟨q5, h5.2.1, Nat.zero_le _, Nat.zero_le _, h5.2.2.2.2⟩ G5
  · exact xq6_mv (h := g6) ⟨R, hr, P, q6, ⟨uk.1, uk.2.1, uk.2.2.1, uk.2.2.2.1, Nat.zero_le _⟩, hR⟩ G6
theorem ffr_lt (sk : sok l n) : ∀ f k c e, k < 900 → ffr l n f k c = some e → e < 900 := by
  intro f
  induction f with
  | zero => intro k c e _ q; cases q
  | succ f ih =>
    intro k c e hk q
    rw [ffr] at q
    split at q
    · rename_i hkn
      have := sk.2.1
      split at q
      · cases q; exact hk
      · rename_i e2 he
        have := iE_le he
        generalize c + (if lt_ l n k = 109 then 1 else 0) = c2 at q
        split at q
        · cases q; exact hk
        · exact ih e2 _ e (by omega) q
    · cases q
theorem c_lay (X : XH V h) (hp : ffr V.1.1 V.1.2 200 0 0 = none → ((V.1.1.take V.1.2).any (· == 109)) = true → 0 < (tC V).2.2.2) : Ec (d + 6) m_X8_lay [.ref 0] h (fun v h' => ((ffr V.1.1 V.1.2 200 0 0 = none ∧ ((V.1.1.take V.1.2).any (· == 109)) = true) ∧ v = some (.int (nI (tC V).2.2.2)) ∧ XH (vL V) h') ∨ (¬ (ffr V.1.1 V.1.2 200 0 0 = none ∧ ((V.1.1.take V.1.2).any (· == 109)) = true) ∧ v = some (.int (-(nI 2))) ∧ XH V h')) := by
  have x1 := X.2.1
  refine ec_in [some (.ref 0)] rfl rfl ?_
  refine ev_nx rfl ?_
  refine ev_gf rfl rfl X.1.2 rfl ?_
  refine ev_vi rfl rfl rfl rfl rfl rfl x1.1.1 rfl (e_firstFault x1.1 x1.2) ?_
  refine ev_nx rfl ?_
  refine ev_nx rfl ?_
  cases hf : ffr V.1.1 V.1.2 200 0 0 with
  | some k =>
    have hk := ffr_lt x1.2 200 0 0 k (by omega) hf
    refine ev_if (fun _ => ?_) (fun q => absurd (show nI k = -(nI 4) by simpa [am_c2, eo] using q) (eo_c (by omega)))
    refine ev_nx rfl ?_
    exact ev_ri rfl rfl rfl (.inr ⟨fun q => (by cases q.1), rfl, X⟩)
  | none =>
    refine ev_f (by show am_c2 .ne (-(nI 4)) (-(nI 4)) = false; decide) ?_
    refine ev_nx rfl ?_
    refine ev_gf rfl rfl X.1.2 rfl ?_
    refine ev_vi rfl rfl rfl rfl rfl rfl x1.1.1 rfl (e_tellsMessage x1.1 x1.2) ?_
    cases ha : (V.1.1.take V.1.2).any (· == 109) with
    | false =>
      refine ev_nx rfl ?_
      refine ev_f (by decide) ?_
      refine ev_nx rfl ?_
      exact ev_ri rfl rfl rfl (.inr ⟨fun q => (by cases q.2), rfl, X⟩)
    | true =>
      refine ev_nx rfl ?_
      refine ev_t (by decide) ?_
      refine ev_nx rfl ?_
      refine ev_v rfl rfl rfl rfl rfl rfl X.1.2 rfl (c_layScript X (hp hf ha)) (fun rv h2 q => ?_)
      obtain ⟨rfl, X2⟩ := q
      refine ev_nx rfl ?_
      refine ev_gf rfl rfl X2.1.2 rfl ?_
      refine ev_gf rfl rfl X2.2.2.1.1.1 rfl ?_
      exact ev_ri rfl rfl rfl (.inl ⟨⟨rfl, rfl⟩, rfl, X2⟩)
end PI
