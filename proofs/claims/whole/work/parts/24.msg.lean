/-! messages -/
def mat (h : aH) (sg ln : List Nat) (mn : Nat) : Prop := h[3]? = some (.inr (.inr (4, [.ref 4, .ref 5, .int (nI mn)]))) ∧ h[4]? = some (ar sg) ∧ h[5]? = some (ar ln)
section MS
variable {h : aH} {i : Nat} {K S G C : List Nat} {c t j : Nat} {d : Nat} {Q : Option Value → aH → Prop} {sg ln : List Nat} {mn : Nat}
theorem mat_lh (hm : mat h sg ln mn) (hi : 5 < i) : mat (lh h i K S G C c t j) sg ln mn := ⟨by rw [lh_o (by omega)]; exact hm.1, by rw [lh_o (by omega)]; exact hm.2.1, by rw [lh_o (by omega)]; exact hm.2.2⟩
theorem e_lengthOf (hm : mat h sg ln mn) (hl : ln.length = 6) {x : Nat} (hx : x < 6) : Ec d m_X4_lengthOf [.ref 3, .int (nI x)] h (rt (.int (nI (ln.getD x 0))) h) := by
  refine ec_in [some (.ref 3), some (.int (nI x))] rfl rfl ?_
  refine ev_nx rfl ?_
  refine ev_gf rfl rfl hm.1 rfl ?_
  refine ev_nx rfl ?_
  refine ev_ia rfl (am_arr_h (by decide) hm.2.2) (mg (by omega)) ?_
  exact ev_ri rfl rfl rfl ⟨rfl, rfl⟩
theorem e_signOf (hm : mat h sg ln mn) (hl : sg.length = 48) {x k : Nat} (hx : x < 6) (hk : k < 8) : Ec d m_X4_signOf [.ref 3, .int (nI x), .int (nI k)] h (rt (.int (nI (sg.getD (x * 8 + k) 0))) h) := by
  refine ec_in [some (.ref 3), some (.int (nI x)), some (.int (nI k))] rfl rfl ?_
  refine ev_nx rfl ?_
  refine ev_gf rfl rfl hm.1 rfl ?_
  iterate 5 refine ev_nx rfl ?_
  rw [pk_mul, nI_add]
  refine ev_ia rfl (am_arr_h (by decide) hm.2.1) (mg (by omega)) ?_
  exact ev_ri rfl rfl rfl ⟨rfl, rfl⟩
/-- a line's moving part behind n beats of a sign -/
def sd (K : List Nat) (c t j s n : Nat) (x : List Nat × List Nat) : List Nat × List Nat := (btn K (cry s c t j) n x.1 x.2, gtn (cry s c t j) n x.2)
theorem sd_ok {x : List Nat × List Nat} {s n : Nat} (ok : lok K x.1 x.2 c t j) (hs : s < 31) : lok K (sd K c t j s n x).1 (sd K c t j s n x).2 c t j :=
  ⟨ok.1, btn_ok cry_len (cry_lt hs) n _ _ ok.2.1.1 ok.2.1.2 ok.2.2.1.1 ok.2.2.1.2, gtn_ok cry_len (cry_lt hs) n ok.2.2.1.1 ok.2.2.1.2, ok.2.2.2⟩
theorem e_sendFor2 (hi : lI h i) {x : List Nat × List Nat} (ok : lok K x.1 x.2 c t j) (hC : C.length = 5) {s n : Nat} (hs : s < 31) (hn : n < 1000) : Ec (d + 2) m_X3_sendFor [.ref i, .int (nI s), .int (nI n)] (lh h i K x.1 x.2 C c t j) (rt (.int (nI (rdS (sd K c t j s n x).1))) (lh h i K (sd K c t j s n x).1 (sd K c t j s n x).2 (cry s c t j) c t j)) := e_sendFor hi ok hC hs hn
/-- a sign said: r beats of it, g of nothing -/
def sy (K : List Nat) (c t j r g s : Nat) (x : List Nat × List Nat) : List Nat × List Nat := sd K c t j 30 g (sd K c t j s r x)
/-- what is read for it -/
def rk (K : List Nat) (c t j r s : Nat) (x : List Nat × List Nat) : Nat := rdS (sd K c t j s r x).1
/-- how many are right -/
def rgt (K : List Nat) (c t j r g : Nat) : List Nat → List Nat × List Nat → Nat
  | [], _ => 0
  | s :: l, x => (if rk K c t j r s x = s then 1 else 0) + rgt K c t j r g l (sy K c t j r g s x)
/-- behind some signs -/
def syl (K : List Nat) (c t j r g : Nat) : List Nat → List Nat × List Nat → List Nat × List Nat
  | [], x => x
  | s :: l, x => syl K c t j r g l (sy K c t j r g s x)
def z55 : List Nat × List Nat := (z5, z5)
/-- only a line's moving part has changed -/
def lj (h : aH) (i : Nat) (K : List Nat) (c t j : Nat) (h' : aH) : Prop := ∃ S G C, h' = lh h i K S G C c t j ∧ lok K S G c t j ∧ C.length = 5
def rj (v : Nat) (h : aH) (i : Nat) (K : List Nat) (c t j : Nat) : Option Value → aH → Prop := fun r h' => r = some (.int (nI v)) ∧ lj h i K c t j h'
theorem sy_ok {x : List Nat × List Nat} {r g s : Nat} (ok : lok K x.1 x.2 c t j) (hs : s < 31) : lok K (sy K c t j r g s x).1 (sy K c t j r g s x).2 c t j := sd_ok (sd_ok ok hs) (by decide)
theorem rk_lt_aux : ∀ r l ra la : Nat, r ≤ 5 → l ≤ 5 → ra < 5 → la < 5 → rdA r l ra la < 32 := by
  intro r l ra la h1 h2 h3 h4
  have hlb : ∀ x : Fin 25, lbT.getD x.val 0 < 32 := by decide
  unfold rdA
  split
  · decide
  · split
    · split
      · exact hlb ⟨ra * 5 + la, by omega⟩
      · omega
    · split <;> omega
theorem rdS_lt {S : List Nat} (hS : S.length = 5) : rdS S < 32 := by
  obtain ⟨a0, a1, a2, a3, a4, rfl⟩ := l5 hS
  unfold rdS
  simp only [rsF]
  exact rk_lt_aux _ _ _ _ (ite_le1 _ 4 (ite_le1 _ 3 (ite_le1 _ 2 (ite_le1 _ 1 (ite_le1 _ 0 (Nat.le_refl 0)))))) (ite_le1 _ 4 (ite_le1 _ 3 (ite_le1 _ 2 (ite_le1 _ 1 (ite_le1 _ 0 (Nat.le_refl 0)))))) (ite_lt5 _ _ (by decide) (ite_lt5 _ _ (by decide) (ite_lt5 _ _ (by decide) (ite_lt5 _ _ (by decide) (ite_lt5 _ _ (by decide) (by decide)))))) (ite_lt5 _ _ (by decide) (ite_lt5 _ _ (by decide) (ite_lt5 _ _ (by decide) (ite_lt5 _ _ (by decide) (ite_lt5 _ _ (by decide) (by decide))))))
theorem rk_lt {x : List Nat × List Nat} {r s : Nat} (ok : lok K x.1 x.2 c t j) (hs : s < 31) : rk K c t j r s x < 32 := rdS_lt (sd_ok (n := r) ok hs).2.1.1
/-- the message at a place: its signs -/
def msg (sg ln : List Nat) (x : Nat) : List Nat := (sg.drop (x * 8)).take (ln.getD x 0)
theorem msg_len {x : Nat} (hs : sg.length = 48) (hx : x < 6) (h8 : ln.getD x 0 ≤ 8) : (msg sg ln x).length = ln.getD x 0 := by
  unfold msg; rw [List.length_take, List.length_drop]; omega
theorem msg_at {x k : Nat} (hk : k < ln.getD x 0) : (msg sg ln x).getD k 0 = sg.getD (x * 8 + k) 0 := by
  unfold msg; rw [List.getD_eq_getElem?_getD, List.getElem?_take, if_pos hk, List.getElem?_drop, List.getD_eq_getElem?_getD]
theorem msg_drop {x k : Nat} (hs : sg.length = 48) (hx : x < 6) (h8 : ln.getD x 0 ≤ 8) (hk : k < ln.getD x 0) : (msg sg ln x).drop k = sg.getD (x * 8 + k) 0 :: (msg sg ln x).drop (k + 1) := by
  have hl := msg_len hs hx h8
  rw [List.drop_eq_getElem_cons (by omega)]
  congr 1
  rw [← msg_at hk, List.getD, List.getElem?_eq_getElem (by omega)]; rfl
/-! rightOn -/
theorem lp_right (hi : lI h i) (h5 : 5 < i) (hm : mat h sg ln mn) (hs : sg.length = 48) (hl : ln.length = 6) (hs20 : ∀ s ∈ sg, s < 31) {m r g : Nat} (hx : m < 6) (h8 : ln.getD m 0 ≤ 8) (hr : r < 1000) (hg : g < 1000) : ∀ (n k a : Nat) (x : List Nat × List Nat) (C : List Nat) (l7 : Option Value), k + n = ln.getD m 0 → a ≤ k → lok K x.1 x.2 c t j → C.length = 5 → Ev (d + 3) m_X4_rightOn 10 [some (.ref 3), some (.ref i), some (.int (nI m)), some (.int (nI r)), some (.int (nI g)), some (.int (nI a)), some (.int (nI k)), l7] [] (lh h i K x.1 x.2 C c t j) (rj (a + rgt K c t j r g ((msg sg ln m).drop k) x) h i K c t j) := by
  intro n
  induction n with
  | zero =>
    intro k a x C l7 hk ha ok hC
    iterate 2 refine ev_nx rfl ?_
    refine ev_gf rfl rfl (mat_lh hm h5).1 rfl ?_
    refine ev_nx rfl ?_
    refine ev_ia rfl (am_arr_h (by decide) (mat_lh hm h5).2.2) (mg (by omega)) ?_
    refine ev_nx rfl ?_
    refine ev_ge (fun _ => ?_) (fun h => absurd h (by omega))
    refine ev_nx rfl ?_
    refine ev_ri rfl rfl rfl ⟨?_, _, _, _, rfl, ok, hC⟩
    rw [List.drop_eq_nil_of_le (by rw [msg_len hs hx h8]; omega), rgt]
    rfl
  | succ n ih =>
    intro k a x C l7 hk ha ok hC
    have hsk : sg.getD (m * 8 + k) 0 < 31 := gd3 hs20 (by omega)
    have hrk := rk_lt (r := r) ok hsk
    rw [msg_drop hs hx h8 (by omega), rgt]
    iterate 2 refine ev_nx rfl ?_
    refine ev_gf rfl rfl (mat_lh hm h5).1 rfl ?_
    refine ev_nx rfl ?_
    refine ev_ia rfl (am_arr_h (by decide) (mat_lh hm h5).2.2) (mg (by omega)) ?_
    refine ev_nx rfl ?_
    refine ev_ge (fun h => absurd h (by omega)) (fun _ => ?_)
    iterate 3 refine ev_nx rfl ?_
    refine ev_vi rfl rfl rfl rfl rfl rfl (mat_lh hm h5).1 rfl (e_signOf (mat_lh hm h5) hs hx (by omega)) ?_
    iterate 5 refine ev_nx rfl ?_
    refine ev_vi rfl rfl rfl rfl rfl rfl (lh_0 hi.1) rfl (e_sendFor2 hi ok hC hsk hr) ?_ (by have := hi.1; have := hi.2; omega)
    have H : ∀ y : Nat, y = (if rk K c t j r (sg.getD (m * 8 + k) 0) x = sg.getD (m * 8 + k) 0 then 1 else 0) → Ev (d + 3) m_X4_rightOn 49 [some (.ref 3), some (.ref i), some (.int (nI m)), some (.int (nI r)), some (.int (nI g)), some (.int (nI a)), some (.int (nI k)), some (.int (nI (sg.getD (m * 8 + k) 0)))] [.int (nI y), .int (nI a)] (lh h i K (sd K c t j (sg.getD (m * 8 + k) 0) r x).1 (sd K c t j (sg.getD (m * 8 + k) 0) r x).2 (cry (sg.getD (m * 8 + k) 0) c t j) c t j) (rj (a + ((if rk K c t j r (sg.getD (m * 8 + k) 0) x = sg.getD (m * 8 + k) 0 then 1 else 0) + rgt K c t j r g ((msg sg ln m).drop (k + 1)) (sy K c t j r g (sg.getD (m * 8 + k) 0) x))) h i K c t j) := by
      intro y hy
      have hy1 : y ≤ 1 := by rw [hy]; split <;> omega
      rw [← hy]
      iterate 5 refine ev_nx rfl ?_
      refine ev_vi rfl rfl rfl rfl rfl rfl (lh_0 hi.1) rfl (e_sendFor2 hi (sd_ok ok hsk) cry_len (by decide) hg) ?_ (by have := hi.1; have := hi.2; omega)
      iterate 3 refine ev_nx rfl ?_
      rw [nI_add, nI_add, ← Nat.add_assoc]
      exact ih (k + 1) (a + y) (sy K c t j r g (sg.getD (m * 8 + k) 0) x) _ _ (by omega) (by omega) (sy_ok ok hsk) cry_len
    iterate 2 refine ev_nx rfl ?_
    refine ev_ne (fun hc => ?_) (fun hc => ?_) (by show rk K c t j r (sg.getD (m * 8 + k) 0) x < _; omega)
    · refine ev_nx rfl ?_
      exact H 0 (by rw [if_neg]; exact hc)
    · iterate 2 refine ev_nx rfl ?_
      exact H 1 (by rw [if_pos]; exact hc)
theorem e_rightOn (hi : lI h i) (h5 : 5 < i) (hm : mat h sg ln mn) (hs : sg.length = 48) (hl : ln.length = 6) (hs20 : ∀ s ∈ sg, s < 31) {m r g : Nat} (hx : m < 6) (h8 : ln.getD m 0 ≤ 8) (hr : r < 1000) (hg : g < 1000) (ok : lok K S G c t j) (hC : C.length = 5) : Ec (d + 3) m_X4_rightOn [.ref 3, .ref i, .int (nI m), .int (nI r), .int (nI g)] (lh h i K S G C c t j) (rj (rgt K c t j r g (msg sg ln m) z55) h i K c t j) := by
  refine ec_in [some (.ref 3), some (.ref i), some (.int (nI m)), some (.int (nI r)), some (.int (nI g)), none, none, none] rfl rfl ?_
  refine ev_nx rfl ?_
  refine ev_vv rfl rfl rfl rfl rfl rfl (lh_0 hi.1) rfl (e_rest hi ok.2.1.1 ok.2.2.1.1) ?_ (by have := hi.1; have := hi.2; omega)
  iterate 4 refine ev_nx rfl ?_
  have H := lp_right (d := d) (K := K) (c := c) (t := t) (j := j) hi h5 hm hs hl hs20 hx h8 hr hg (ln.getD m 0) 0 0 z55 C none (by omega) (by omega) (lok_rest ok) hC
  rw [List.drop_zero, Nat.zero_add] at H
  exact H
end MS
