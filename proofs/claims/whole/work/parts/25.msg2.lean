/-! messages: readOn, isAllRightOn, begin, spell -/
section MT
variable {h : aH} {i : Nat} {K S G C : List Nat} {c t j : Nat} {d : Nat} {Q : Option Value → aH → Prop} {sg ln : List Nat} {mn : Nat}
/-- what is read of the k-th sign of some -/
def rdk (K : List Nat) (c t j r g : Nat) (l : List Nat) (k : Nat) (x : List Nat × List Nat) : Nat := rk K c t j r (l.getD k 0) (syl K c t j r g (l.take k) x)
/-- all are right -/
def alr (K : List Nat) (c t j r g : Nat) : List Nat → List Nat × List Nat → Bool
  | [], _ => true
  | s :: l, x => if rk K c t j r s x = s then alr K c t j r g l (sy K c t j r g s x) else false
def b2n (b : Bool) : Nat := if b then 1 else 0
theorem lp_read (hi : lI h i) (h5 : 5 < i) (hm : mat h sg ln mn) (hs : sg.length = 48) (hl : ln.length = 6) (hs20 : ∀ s ∈ sg, s < 31) {m r g k : Nat} (hx : m < 6) (h8 : ln.getD m 0 ≤ 8) (hk : k < ln.getD m 0) (hr : r < 1000) (hg : g < 1000) : ∀ (n p : Nat) (x : List Nat × List Nat) (C : List Nat), p + n = k → lok K x.1 x.2 c t j → C.length = 5 → Ev (d + 3) m_X4_readOn 7 [some (.ref 3), some (.ref i), some (.int (nI m)), some (.int (nI r)), some (.int (nI g)), some (.int (nI k)), some (.int (nI p))] [] (lh h i K x.1 x.2 C c t j) (rj (rk K c t j r (sg.getD (m * 8 + k) 0) (syl K c t j r g (((msg sg ln m).drop p).take n) x)) h i K c t j) := by
  intro n
  induction n with
  | zero =>
    intro p x C hp ok hC
    have hsk : sg.getD (m * 8 + k) 0 < 31 := gd3 hs20 (by omega)
    rw [List.take_zero, syl]
    iterate 3 refine ev_nx rfl ?_
    refine ev_ge (fun _ => ?_) (fun h => absurd h (by omega))
    iterate 4 refine ev_nx rfl ?_
    refine ev_vi rfl rfl rfl rfl rfl rfl (mat_lh hm h5).1 rfl (e_signOf (mat_lh hm h5) hs hx (by omega)) ?_
    refine ev_nx rfl ?_
    refine ev_vi rfl rfl rfl rfl rfl rfl (lh_0 hi.1) rfl (e_sendFor2 hi ok hC hsk hr) ?_ (by have := hi.1; have := hi.2; omega)
    exact ev_ri rfl rfl rfl ⟨rfl, _, _, _, rfl, sd_ok ok hsk, cry_len⟩
  | succ n ih =>
    intro p x C hp ok hC
    have hsp : sg.getD (m * 8 + p) 0 < 31 := gd3 hs20 (by omega)
    rw [msg_drop hs hx h8 (by omega), List.take_succ_cons, syl]
    iterate 3 refine ev_nx rfl ?_
    refine ev_ge (fun h => absurd h (by omega)) (fun _ => ?_)
    iterate 4 refine ev_nx rfl ?_
    refine ev_vi rfl rfl rfl rfl rfl rfl (mat_lh hm h5).1 rfl (e_signOf (mat_lh hm h5) hs hx (by omega)) ?_
    refine ev_nx rfl ?_
    refine ev_vi rfl rfl rfl rfl rfl rfl (lh_0 hi.1) rfl (e_sendFor2 hi ok hC hsp hr) ?_ (by have := hi.1; have := hi.2; omega)
    iterate 4 refine ev_nx rfl ?_
    refine ev_vi rfl rfl rfl rfl rfl rfl (lh_0 hi.1) rfl (e_sendFor2 hi (sd_ok ok hsp) cry_len (by decide) hg) ?_ (by have := hi.1; have := hi.2; omega)
    iterate 3 refine ev_nx rfl ?_
    rw [nI_add]
    exact ih (p + 1) (sy K c t j r g (sg.getD (m * 8 + p) 0) x) _ (by omega) (sy_ok ok hsp) cry_len
theorem e_readOn (hi : lI h i) (h5 : 5 < i) (hm : mat h sg ln mn) (hs : sg.length = 48) (hl : ln.length = 6) (hs20 : ∀ s ∈ sg, s < 31) {m r g k : Nat} (hx : m < 6) (h8 : ln.getD m 0 ≤ 8) (hk : k < ln.getD m 0) (hr : r < 1000) (hg : g < 1000) (ok : lok K S G c t j) (hC : C.length = 5) : Ec (d + 3) m_X4_readOn [.ref 3, .ref i, .int (nI m), .int (nI r), .int (nI g), .int (nI k)] (lh h i K S G C c t j) (rj (rdk K c t j r g (msg sg ln m) k z55) h i K c t j) := by
  refine ec_in [some (.ref 3), some (.ref i), some (.int (nI m)), some (.int (nI r)), some (.int (nI g)), some (.int (nI k)), none] rfl rfl ?_
  refine ev_nx rfl ?_
  refine ev_vv rfl rfl rfl rfl rfl rfl (lh_0 hi.1) rfl (e_rest hi ok.2.1.1 ok.2.2.1.1) ?_ (by have := hi.1; have := hi.2; omega)
  iterate 2 refine ev_nx rfl ?_
  have H := lp_read (d := d) (K := K) (c := c) (t := t) (j := j) hi h5 hm hs hl hs20 hx h8 hk hr hg k 0 z55 C (by omega) (lok_rest ok) hC
  rw [List.drop_zero, ← msg_at hk] at H
  exact H
theorem lp_all (hi : lI h i) (h5 : 5 < i) (hm : mat h sg ln mn) (hs : sg.length = 48) (hl : ln.length = 6) (hs20 : ∀ s ∈ sg, s < 31) {m r g : Nat} (hx : m < 6) (h8 : ln.getD m 0 ≤ 8) (hr : r < 1000) (hg : g < 1000) : ∀ (n k : Nat) (x : List Nat × List Nat) (C : List Nat) (l6 : Option Value), k + n = ln.getD m 0 → lok K x.1 x.2 c t j → C.length = 5 → Ev (d + 3) m_X4_isAllRightOn 7 [some (.ref 3), some (.ref i), some (.int (nI m)), some (.int (nI r)), some (.int (nI g)), some (.int (nI k)), l6] [] (lh h i K x.1 x.2 C c t j) (rj (b2n (alr K c t j r g ((msg sg ln m).drop k) x)) h i K c t j) := by
  intro n
  induction n with
  | zero =>
    intro k x C l6 hk ok hC
    iterate 2 refine ev_nx rfl ?_
    refine ev_gf rfl rfl (mat_lh hm h5).1 rfl ?_
    refine ev_nx rfl ?_
    refine ev_ia rfl (am_arr_h (by decide) (mat_lh hm h5).2.2) (mg (by omega)) ?_
    refine ev_nx rfl ?_
    refine ev_ge (fun _ => ?_) (fun h => absurd h (by omega))
    refine ev_nx rfl ?_
    refine ev_ri rfl rfl rfl ⟨?_, _, _, _, rfl, ok, hC⟩
    rw [List.drop_eq_nil_of_le (by rw [msg_len hs hx h8]; omega), alr]
    rfl
  | succ n ih =>
    intro k x C l6 hk ok hC
    have hsk : sg.getD (m * 8 + k) 0 < 31 := gd3 hs20 (by omega)
    have hrk := rk_lt (r := r) ok hsk
    rw [msg_drop hs hx h8 (by omega), alr]
    iterate 2 refine ev_nx rfl ?_
    refine ev_gf rfl rfl (mat_lh hm h5).1 rfl ?_
    refine ev_nx rfl ?_
    refine ev_ia rfl (am_arr_h (by decide) (mat_lh hm h5).2.2) (mg (by omega)) ?_
    refine ev_nx rfl ?_
    refine ev_ge (fun h => absurd h (by omega)) (fun _ => ?_)
    iterate 3 refine ev_nx rfl ?_
    refine ev_vi rfl rfl rfl rfl rfl rfl (mat_lh hm h5).1 rfl (e_signOf (mat_lh hm h5) hs hx (by omega)) ?_
    iterate 4 refine ev_nx rfl ?_
    refine ev_vi rfl rfl rfl rfl rfl rfl (lh_0 hi.1) rfl (e_sendFor2 hi ok hC hsk hr) ?_ (by have := hi.1; have := hi.2; omega)
    iterate 2 refine ev_nx rfl ?_
    refine ev_eq (fun hc => ?_) (fun hc => ?_) (by show rk K c t j r (sg.getD (m * 8 + k) 0) x < _; omega)
    · rw [if_pos (show rk K c t j r (sg.getD (m * 8 + k) 0) x = _ from hc)]
      iterate 3 refine ev_nx rfl ?_
      refine ev_vi rfl rfl rfl rfl rfl rfl (lh_0 hi.1) rfl (e_sendFor2 hi (sd_ok ok hsk) cry_len (by decide) hg) ?_ (by have := hi.1; have := hi.2; omega)
      iterate 3 refine ev_nx rfl ?_
      rw [nI_add]
      exact ih (k + 1) (sy K c t j r g (sg.getD (m * 8 + k) 0) x) _ _ (by omega) (sy_ok ok hsk) cry_len
    · rw [if_neg (show ¬ rk K c t j r (sg.getD (m * 8 + k) 0) x = _ from hc)]
      refine ev_nx rfl ?_
      exact ev_ri rfl rfl rfl ⟨rfl, _, _, _, rfl, sd_ok ok hsk, cry_len⟩
theorem e_isAllRightOn (hi : lI h i) (h5 : 5 < i) (hm : mat h sg ln mn) (hs : sg.length = 48) (hl : ln.length = 6) (hs20 : ∀ s ∈ sg, s < 31) {m r g : Nat} (hx : m < 6) (h8 : ln.getD m 0 ≤ 8) (hr : r < 1000) (hg : g < 1000) (ok : lok K S G c t j) (hC : C.length = 5) : Ec (d + 3) m_X4_isAllRightOn [.ref 3, .ref i, .int (nI m), .int (nI r), .int (nI g)] (lh h i K S G C c t j) (rj (b2n (alr K c t j r g (msg sg ln m) z55)) h i K c t j) := by
  refine ec_in [some (.ref 3), some (.ref i), some (.int (nI m)), some (.int (nI r)), some (.int (nI g)), none, none] rfl rfl ?_
  refine ev_nx rfl ?_
  refine ev_vv rfl rfl rfl rfl rfl rfl (lh_0 hi.1) rfl (e_rest hi ok.2.1.1 ok.2.2.1.1) ?_ (by have := hi.1; have := hi.2; omega)
  iterate 2 refine ev_nx rfl ?_
  have H := lp_all (d := d) (K := K) (c := c) (t := t) (j := j) hi h5 hm hs hl hs20 hx h8 hr hg (ln.getD m 0) 0 z55 C none (by omega) (lok_rest ok) hC
  rw [List.drop_zero] at H
  exact H
/-- only the messages have changed -/
def mj (h : aH) (sg ln : List Nat) (mn : Nat) : Option Value → aH → Prop := fun r h' => r = none ∧ mat h' sg ln mn ∧ h'.length = h.length ∧ ∀ q, q < 3 ∨ 5 < q → h'[q]? = h[q]?
theorem gset_n {h : aH} {a q : Nat} {x : aC} (hn : a ≠ q) : (h.set a x)[q]? = h[q]? := List.getElem?_set_ne hn
theorem gset_s {h : aH} {a : Nat} {x y : aC} (hy : h[a]? = some y) : (h.set a x)[a]? = some x := by
  rw [List.getElem?_set_self]; obtain ⟨hl, _⟩ := List.getElem?_eq_some_iff.mp hy; exact hl
theorem e_begin (hm : mat h sg ln mn) (hl : ln.length = 6) (h6 : mn ≤ 6) : Ec d m_X4_begin [.ref 3] h (mj h sg (if mn < 6 then ln.set mn 0 else ln) (if mn < 6 then mn + 1 else mn)) := by
  refine ec_in [some (.ref 3)] rfl rfl ?_
  refine ev_nx rfl ?_
  refine ev_gf rfl rfl hm.1 rfl ?_
  iterate 2 refine ev_nx rfl ?_
  refine ev_ge (fun hc => ?_) (fun hc => ?_)
  · rw [if_neg (by omega), if_neg (by omega)]
    exact ev_rt rfl ⟨rfl, hm, rfl, fun _ _ => rfl⟩
  · rw [if_pos (by omega), if_pos (by omega)]
    refine ev_nx rfl ?_
    refine ev_gf rfl rfl hm.1 rfl ?_
    refine ev_nx rfl ?_
    refine ev_gf rfl rfl hm.1 rfl ?_
    refine ev_nx rfl ?_
    refine ev_is rfl hm.2.2 (by rw [List.length_map]; omega) ?_
    have hm1 : (h.set 5 (.inl (0, (ln.map nI).set mn (nI 0))))[3]? = some (.inr (.inr (4, [.ref 4, .ref 5, .int (nI mn)]))) := by rw [gset_n (by decide)]; exact hm.1
    iterate 2 refine ev_nx rfl ?_
    refine ev_gf rfl rfl hm1 rfl ?_
    iterate 2 refine ev_nx rfl ?_
    rw [nI_add]
    refine ev_pf rfl rfl hm1 (by show 2 < 3; decide) rfl rfl rfl ?_
    refine ev_rt rfl ⟨rfl, ⟨?_, ?_, ?_⟩, by simp, fun q hq => ?_⟩
    · rw [gset_s hm1]; rfl
    · rw [gset_n (by decide), gset_n (by decide)]; exact hm.2.1
    · rw [gset_n (by decide), gset_s hm.2.2, ms_]; rfl
    · rw [gset_n (by omega), gset_n (by omega)]
/-- the signs of the letters -/
def leT : List Nat := [0, 1, 8, 2, 3, 4, 5, 6, 7, 5, 8, 9, 10, 11, 12, 13, 8, 14, 15, 16, 18, 17, 18, 15, 19, 15]
theorem t2_at {x : Nat} (hx : x < 26) : am_t2[x]? = some (nI (leT.getD x 0)) ∧ leT.getD x 0 < 20 := (show ∀ x : Fin 26, am_t2[x.val]? = some (nI (leT.getD x.val 0)) ∧ leT.getD x.val 0 < 20 by decide +kernel) ⟨x, hx⟩
/-- a letter is spelt -/
abbrev spo (ln : List Nat) (mn x : Nat) : Prop := 0 < mn ∧ ln.getD (mn - 1) 0 < 8 ∧ 65 ≤ x ∧ x ≤ 90
def sps (sg ln : List Nat) (mn x : Nat) : List Nat := if spo ln mn x then sg.set ((mn - 1) * 8 + ln.getD (mn - 1) 0) (leT.getD (x - 65) 0) else sg
def spl (ln : List Nat) (mn x : Nat) : List Nat := if spo ln mn x then ln.set (mn - 1) (ln.getD (mn - 1) 0 + 1) else ln
theorem wi_n {x a b : Nat} (hx : x < 65536) (ha : a < 65536) (hb : b < 65536) : wi (nI x) (nI a) (nI b) = if a ≤ x ∧ x ≤ b then 1 else 0 := by
  unfold wi
  by_cases hc : a ≤ x ∧ x ≤ b
  · rw [if_pos hc, if_pos ⟨(nI_leI (by omega) (by omega)).mpr hc.1, (nI_leI (by omega) (by omega)).mpr hc.2⟩]
  · rw [if_neg hc, if_neg]
    intro q
    exact hc ⟨(nI_leI (by omega) (by omega)).mp q.1, (nI_leI (by omega) (by omega)).mp q.2⟩
theorem e_spell (hm : mat h sg ln mn) (hs : sg.length = 48) (hl : ln.length = 6) (h6 : mn ≤ 6) (h8 : ∀ x ∈ ln, x ≤ 8) {x : Nat} (hx : x < 65536) : Ec (d + 1) m_X4_spell [.ref 3, .int (nI x)] h (mj h (sps sg ln mn x) (spl ln mn x) mn) := by
  refine ec_in [some (.ref 3), some (.int (nI x)), none] rfl rfl ?_
  have no : ¬ spo ln mn x → mj h (sps sg ln mn x) (spl ln mn x) mn none h := fun hn => by
    rw [sps, spl, if_neg hn, if_neg hn]; exact ⟨rfl, hm, rfl, fun _ _ => rfl⟩
  refine ev_nx rfl ?_
  refine ev_gf rfl rfl hm.1 rfl ?_
  cases mn with
  | zero =>
    iterate 4 refine ev_nx rfl ?_
    refine ev_nx rfl ?_
    refine ev_t (by decide) ?_
    exact ev_rt rfl (no (fun q => absurd q.1 (by decide)))
  | succ mn =>
    have hg8 : ln.getD mn 0 ≤ 8 := by
      rw [List.getD, List.getElem?_eq_getElem (by omega)]; exact h8 _ (List.getElem_mem _)
    iterate 2 refine ev_nx rfl ?_
    rw [pk_sub (by omega), Nat.add_sub_cancel]
    iterate 3 refine ev_nx rfl ?_
    refine ev_lt0 ?_
    refine ev_nx rfl ?_
    refine ev_gf rfl rfl hm.1 rfl ?_
    refine ev_nx rfl ?_
    refine ev_ia rfl (am_arr_h (by decide) hm.2.2) (mg (by omega)) ?_
    iterate 2 refine ev_nx rfl ?_
    refine ev_ge (fun hc => ?_) (fun hc => ?_)
    · exact ev_rt rfl (no (fun q => absurd q.2.1 (by rw [Nat.add_sub_cancel]; omega)))
    · iterate 3 refine ev_nx rfl ?_
      refine ev_ci rfl rfl (ec_le (Nat.zero_le d) (e_within (nI x) (nI 65) (nI 90) h)) ?_
      rw [wi_n hx (by decide) (by decide)]
      by_cases hw : 65 ≤ x ∧ x ≤ 90
      · rw [if_pos hw]
        refine ev_nx rfl ?_
        refine ev_t (by decide) ?_
        have hok : spo ln (mn + 1) x := ⟨by omega, by rw [Nat.add_sub_cancel]; omega, hw⟩
        rw [sps, spl, if_pos hok, if_pos hok, Nat.add_sub_cancel]
        refine ev_nx rfl ?_
        refine ev_gf rfl rfl hm.1 rfl ?_
        iterate 4 refine ev_nx rfl ?_
        refine ev_gf rfl rfl hm.1 rfl ?_
        refine ev_nx rfl ?_
        refine ev_ia rfl (am_arr_h (by decide) hm.2.2) (mg (by omega)) ?_
        iterate 5 refine ev_nx rfl ?_
        rw [pk_mul, nI_add, pk_sub (by omega)]
        refine ev_ia (a := 100002) rfl rfl (t2_at (by omega)).1 ?_
        refine ev_is rfl hm.2.1 (by rw [List.length_map]; omega) ?_
        have hm1 : ∀ y, (h.set 4 y)[3]? = some (.inr (.inr (4, [.ref 4, .ref 5, .int (nI (mn + 1))]))) := fun y => by rw [gset_n (by decide)]; exact hm.1
        have hm5 : ∀ y, (h.set 4 y)[5]? = some (ar ln) := fun y => by rw [gset_n (by decide)]; exact hm.2.2
        refine ev_nx rfl ?_
        refine ev_gf rfl rfl (hm1 _) rfl ?_
        iterate 2 refine ev_nx rfl ?_
        refine ev_ia rfl (am_arr_h (by decide) (hm5 _)) (mg (by omega)) ?_
        iterate 2 refine ev_nx rfl ?_
        rw [nI_add]
        refine ev_is rfl (hm5 _) (by rw [List.length_map]; omega) ?_
        refine ev_rt rfl ⟨rfl, ⟨?_, ?_, ?_⟩, by simp, fun q hq => ?_⟩
        · rw [gset_n (by decide)]; exact hm1 _
        · rw [gset_n (by decide), gset_s hm.2.1, ms_]; rfl
        · rw [gset_s (hm5 _), ms_]; rfl
        · rw [gset_n (by omega), gset_n (by omega)]
      · rw [if_neg hw]
        refine ev_nx rfl ?_
        refine ev_f (by decide) ?_
        exact ev_rt rfl (no (fun q => hw q.2.2))
end MT
