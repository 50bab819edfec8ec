/-! the text told: into a line and messages -/
def mok (sg ln : List Nat) (mn : Nat) : Prop := sg.length = 48 ∧ (∀ s ∈ sg, s < 31) ∧ ln.length = 6 ∧ (∀ x ∈ ln, x ≤ 8) ∧ mn ≤ 6
def bgl (ln : List Nat) (mn : Nat) : List Nat := if mn < 6 then ln.set mn 0 else ln
def bgm (mn : Nat) : Nat := if mn < 6 then mn + 1 else mn
/-- letters spelt, r of them from a place -/
def spx (l : List Nat) (n mn : Nat) : Nat → Nat → List Nat → List Nat → List Nat × List Nat
  | 0, _, sg, ln => (sg, ln)
  | r + 1, p, sg, ln => spx l n mn r (p + 1) (sps sg ln mn (lt_ l n p)) (spl ln mn (lt_ l n p))
abbrev aT : Type := aN × List Nat × List Nat × Nat
/-- an item told -/
def tI1 (l : List Nat) (n k e : Nat) (z : aT) : aT :=
  if lt_ l n k = 110 then ((z.1.1.set (lt_ l n (k + 1) - 48) (lt_ l n (k + 3) - 48), z.1.2), z.2)
  else if lt_ l n k = 99 then ((z.1.1, z.1.2.1, z.1.2.2.1, z.1.2.2.2.1 ||| 1 * 2 ^ (lt_ l n (k + 1) - 48), z.1.2.2.2.2), z.2)
  else if lt_ l n k = 116 then ((z.1.1, z.1.2.1, z.1.2.2.1, z.1.2.2.2.1, z.1.2.2.2.2.1 ||| 1 * 2 ^ (lt_ l n (k + 1) - 48), z.1.2.2.2.2.2), z.2)
  else if lt_ l n k = 106 then ((z.1.1, z.1.2.1, z.1.2.2.1, z.1.2.2.2.1, z.1.2.2.2.2.1, z.1.2.2.2.2.2 ||| 1 * 2 ^ (lt_ l n (k + 1) - 48)), z.2)
  else (z.1, (spx l n (bgm z.2.2.2) (e - 1 - (k + 1)) (k + 1) z.2.1 (bgl z.2.2.1 z.2.2.2)).1, (spx l n (bgm z.2.2.2) (e - 1 - (k + 1)) (k + 1) z.2.1 (bgl z.2.2.1 z.2.2.2)).2, bgm z.2.2.2)
/-- only a line and the messages have changed -/
def tj (i : Nat) (h h' : aH) : Prop := h'.length = h.length ∧ ∀ q, q < 3 ∨ 5 < q → q < i ∨ i + 4 < q → h'[q]? = h[q]?
def tat (h : aH) (i : Nat) (z : aT) : Prop := mat h z.2.1 z.2.2.1 z.2.2.2 ∧ ltx h i z.1
section TL
variable {h : aH} {l sg ln : List Nat} {i n mn d : Nat} {z : aT} {Q : Option Value → aH → Prop}
theorem sat_fr {h' : aH} {a b : Nat} (hm : sat h l n) (hf : fr a b h h') (ha : 2 < a) : sat h' l n := ⟨by rw [hf.2 _ (by omega)]; exact hm.1, by rw [hf.2 _ (by omega)]; exact hm.2⟩
theorem fr_tr {h1 h2 : aH} {a b : Nat} (x : fr a b h h1) (y : fr a b h1 h2) : fr a b h h2 := ⟨y.1.trans x.1, fun q hq => (y.2 q hq).trans (x.2 q hq)⟩
theorem mok_bg (ok : mok sg ln mn) : mok sg (bgl ln mn) (bgm mn) := by
  obtain ⟨a, b, c, e, f⟩ := ok
  unfold bgl bgm
  by_cases hc : mn < 6
  · rw [if_pos hc, if_pos hc]
    refine ⟨a, b, by rw [List.length_set]; exact c, fun x hx => ?_, by omega⟩
    rcases List.mem_or_eq_of_mem_set hx with q | q
    · exact e x q
    · omega
  · rw [if_neg hc, if_neg hc]; exact ⟨a, b, c, e, f⟩
theorem mok_sp (ok : mok sg ln mn) (x : Nat) : mok (sps sg ln mn x) (spl ln mn x) mn := by
  obtain ⟨a, b, c, e, f⟩ := ok
  unfold sps spl
  by_cases hc : spo ln mn x
  · rw [if_pos hc, if_pos hc]
    have ht := (t2_at (x := x - 65) (by have := hc.2.2; omega)).2
    have h8 := hc.2.1
    refine ⟨by rw [List.length_set]; exact a, fun y hy => ?_, by rw [List.length_set]; exact c, fun y hy => ?_, f⟩
    · rcases List.mem_or_eq_of_mem_set hy with q | q
      · exact b y q
      · omega
    · rcases List.mem_or_eq_of_mem_set hy with q | q
      · exact e y q
      · omega
  · rw [if_neg hc, if_neg hc]; exact ⟨a, b, c, e, f⟩
theorem mok_spx : ∀ r p sg ln, mok sg ln mn → mok (spx l n mn r p sg ln).1 (spx l n mn r p sg ln).2 mn := by
  intro r
  induction r with
  | zero => intro p sg ln ok; exact ok
  | succ r ih => intro p sg ln ok; exact ih _ _ _ (mok_sp ok _)
theorem lp_tm (ok : sok l n) {k e : Nat} (he : e < 900) : ∀ r p h1 sg ln, p + r = e → sat h1 l n → mat h1 sg ln mn → mok sg ln mn → fr 3 5 h h1 → Ev (d + 2) m_X6_tellMessage 7 [some (.ref 1), some (.int (nI k)), some (.int (nI e)), some (.ref 3), some (.int (nI p))] [] h1 (fun v h' => v = none ∧ mat h' (spx l n mn r p sg ln).1 (spx l n mn r p sg ln).2 mn ∧ fr 3 5 h h') := by
  intro r
  induction r with
  | zero =>
    intro p h1 sg ln hp hs hm mo hf
    iterate 3 refine ev_nx rfl ?_
    refine ev_ge (fun _ => ?_) (fun h => absurd h (by omega))
    exact ev_rt rfl ⟨rfl, hm, hf⟩
  | succ r ih =>
    intro p h1 sg ln hp hs hm mo hf
    iterate 3 refine ev_nx rfl ?_
    refine ev_ge (fun h => absurd h (by omega)) (fun _ => ?_)
    iterate 3 refine ev_nx rfl ?_
    refine ev_vi rfl rfl rfl rfl rfl rfl hs.1 rfl (e_letterAt hs ok (by omega)) ?_
    refine ev_v rfl rfl rfl rfl rfl rfl hm.1 rfl (e_spell hm mo.1 mo.2.2.1 mo.2.2.2.2 mo.2.2.2.1 (lt_lt ok p)) (fun rv h2 q => ?_)
    obtain ⟨rfl, q1, q2⟩ := q
    have q2 : fr 3 5 h1 h2 := q2
    iterate 2 refine ev_nx rfl ?_
    rw [nI_add]
    exact ih (p + 1) h2 _ _ (by omega) (sat_fr hs q2 (by decide)) q1 (mok_sp mo _) (fr_tr hf q2)
theorem e_tellMessage (hs : sat h l n) (ok : sok l n) (hm : mat h sg ln mn) (mo : mok sg ln mn) {k e : Nat} (hk : k ≤ e) (he : e < 900) : Ec (d + 2) m_X6_tellMessage [.ref 1, .int (nI k), .int (nI e), .ref 3] h (fun v h' => v = none ∧ mat h' (spx l n (bgm mn) (e - k) k sg (bgl ln mn)).1 (spx l n (bgm mn) (e - k) k sg (bgl ln mn)).2 (bgm mn) ∧ fr 3 5 h h') := by
  refine ec_in [some (.ref 1), some (.int (nI k)), some (.int (nI e)), some (.ref 3), none] rfl rfl ?_
  refine ev_nx rfl ?_
  refine ev_v rfl rfl rfl rfl rfl rfl hm.1 rfl (e_begin hm mo.2.2.1 mo.2.2.2.2) (fun rv h2 q => ?_)
  obtain ⟨rfl, q1, q2⟩ := q
  have q2 : fr 3 5 h h2 := q2
  iterate 2 refine ev_nx rfl ?_
  exact lp_tm ok he (e - k) k h2 _ _ (by omega) (sat_fr hs q2 (by decide)) q1 (mok_bg mo) q2
theorem lk4 {v : Nat} (h1 : ¬ v = 110) (h2 : ¬ v = 99) (h3 : ¬ v = 116) (h4 : ¬ v = 106) : Op.lookupswitch.offset [(99, 59), (106, 91), (110, 42), (116, 75)] 107 (v : Int) = 107 := by
  simp only [Op.lookupswitch.offset]
  rw [if_neg (by omega), if_neg (by omega), if_neg (by omega), if_neg (by omega)]
theorem fg_in {x : Nat} (hx : 48 ≤ x ∧ x ≤ 57) : fg x = nI (x - 48) := by rw [fg, if_pos hx]
theorem iE_1 {k e m : Nat} (he : wE l n k m = some e) : 48 ≤ lt_ l n (k + 1) ∧ lt_ l n (k + 1) ≤ 48 + m := by
  unfold wE at he
  split at he
  · rename_i q; exact q.1
  · cases he
theorem iE_n {k e : Nat} (he : nE l n k = some e) : (48 ≤ lt_ l n (k + 1) ∧ lt_ l n (k + 1) ≤ 52) ∧ (48 ≤ lt_ l n (k + 3) ∧ lt_ l n (k + 3) ≤ 53) := by
  unfold nE at he
  split at he
  · rename_i q; exact ⟨q.1, q.2.2.1⟩
  · cases he
theorem sat_lh {K S G C : List Nat} {c t j : Nat} (hs : sat h l n) (hi : 2 < i) : sat (lh h i K S G C c t j) l n := ⟨by rw [lh_o (by omega)]; exact hs.1, by rw [lh_o (by omega)]; exact hs.2⟩
/-- a line's cells anew -/
theorem tat_lh {K S G C : List Nat} {c t j : Nat} (hz : tat h i z) (hi : 5 < i) (hl : i + 4 < h.length) (hC : C.length = 5) : tat (lh h i K S G C c t j) i ((K, S, G, c, t, j), z.2) ∧ tj i h (lh h i K S G C c t j) :=
  ⟨⟨mat_lh hz.1 hi, C, hC, lat_of hl⟩, lh_len, fun q _ hq => lh_o (by omega)⟩
theorem e_tellItem (hs : sat h l n) (ok : sok l n) (hz : tat h i z) (mo : mok z.2.1 z.2.2.1 z.2.2.2) (hK : z.1.1.length = 5) (hi : 5 < i) (hh : h.length ≤ 100000) {k e : Nat} (hk : k < 800) (he : iE l n k = some e) : Ec (d + 3) m_X6_tellItem [.ref 1, .int (nI k), .int (nI e), .ref i, .ref 3] h (fun v h' => v = none ∧ tat h' i (tI1 l n k e z) ∧ tj i h h') := by
  have hc := lt_lt ok k
  have hle := iE_le he
  obtain ⟨⟨K, S, G, c, t, j⟩, sg, ln, mn⟩ := z
  obtain ⟨C, hC, hL⟩ := hz.2
  have hlt := lat_lt hL
  have hI : lI h i := ⟨hlt, hh⟩
  have hself := lat_self hL
  have hK : K.length = 5 := hK
  refine ec_in [some (.ref 1), some (.int (nI k)), some (.int (nI e)), some (.ref i), some (.ref 3), none] rfl rfl ?_
  iterate 4 refine ev_nx rfl ?_
  rw [nI_add]
  refine ev_vi rfl rfl rfl rfl rfl rfl hs.1 rfl (e_figureAt hs ok (by omega)) ?_
  iterate 3 refine ev_nx rfl ?_
  refine ev_vi rfl rfl rfl rfl rfl rfl hs.1 rfl (e_letterAt hs ok (by omega)) ?_
  unfold iE at he
  unfold tI1
  have put : ∀ {K2 : List Nat} {c2 t2 j2 : Nat}, tat (lh h i K2 S G C c2 t2 j2) i ((K2, S, G, c2, t2, j2), sg, ln, mn) ∧ tj i h (lh h i K2 S G C c2 t2 j2) := fun {K2 c2 t2 j2} => tat_lh hz hi hlt hC
  by_cases e1 : lt_ l n k = 110
  · rw [if_pos e1] at he ⊢
    obtain ⟨f1, f3⟩ := iE_n he
    rw [fg_in ⟨f1.1, by omega⟩]
    refine ev_lk (p := 56) hc rfl (by decide) (by rw [e1]; decide) ?_
    rw [← hself]
    refine ev_nx rfl ?_
    refine ev_lf hI rfl rfl rfl rfl ?_
    iterate 5 refine ev_nx rfl ?_
    rw [nI_add]
    refine ev_vi rfl rfl rfl rfl rfl rfl (sat_lh hs (by omega)).1 rfl (e_figureAt (sat_lh hs (by omega)) ok (by omega)) ?_
    rw [fg_in ⟨f3.1, by omega⟩]
    refine ev_sK hI rfl (by omega) ?_
    refine ev_nx rfl ?_
    rw [hself]
    exact ev_rt rfl ⟨rfl, put⟩
  rw [if_neg e1] at he ⊢
  by_cases e2 : lt_ l n k = 99
  · rw [if_pos e2] at he ⊢
    have f1 := iE_1 he
    have f2 : lt_ l n (k + 1) - 48 < 5 := by omega
    have f3 : 1 * 2 ^ (lt_ l n (k + 1) - 48) < 4294967296 := by
      have := Nat.pow_lt_pow_right (a := 2) (by decide) f2; omega
    rw [fg_in ⟨f1.1, by omega⟩]
    refine ev_lk (p := 73) hc rfl (by decide) (by rw [e2]; decide) ?_
    rw [← hself]
    iterate 2 refine ev_nx rfl ?_
    refine ev_lf hI rfl rfl rfl rfl ?_
    iterate 4 refine ev_nx rfl ?_
    rw [n_shl (by omega) f3, n_or]
    refine ev_lp (c' := c ||| 1 * 2 ^ (lt_ l n (k + 1) - 48)) (t' := t) (j' := j) hI rfl rfl (by decide) (by decide) rfl ?_
    refine ev_nx rfl ?_
    rw [hself]
    exact ev_rt rfl ⟨rfl, put⟩
  rw [if_neg e2] at he ⊢
  by_cases e3 : lt_ l n k = 116
  · rw [if_pos e3] at he ⊢
    have f1 := iE_1 he
    have f2 : lt_ l n (k + 1) - 48 < 5 := by omega
    have f3 : 1 * 2 ^ (lt_ l n (k + 1) - 48) < 4294967296 := by
      have := Nat.pow_lt_pow_right (a := 2) (by decide) f2; omega
    rw [fg_in ⟨f1.1, by omega⟩]
    refine ev_lk (p := 89) hc rfl (by decide) (by rw [e3]; decide) ?_
    rw [← hself]
    iterate 2 refine ev_nx rfl ?_
    refine ev_lf hI rfl rfl rfl rfl ?_
    iterate 4 refine ev_nx rfl ?_
    rw [n_shl (by omega) f3, n_or]
    refine ev_lp (c' := c) (t' := t ||| 1 * 2 ^ (lt_ l n (k + 1) - 48)) (j' := j) hI rfl rfl (by decide) (by decide) rfl ?_
    refine ev_nx rfl ?_
    rw [hself]
    exact ev_rt rfl ⟨rfl, put⟩
  rw [if_neg e3] at he ⊢
  by_cases e4 : lt_ l n k = 106
  · rw [if_pos e4] at he ⊢
    have f1 := iE_1 he
    have f2 : lt_ l n (k + 1) - 48 < 5 := by omega
    have f3 : 1 * 2 ^ (lt_ l n (k + 1) - 48) < 4294967296 := by
      have := Nat.pow_lt_pow_right (a := 2) (by decide) f2; omega
    rw [fg_in ⟨f1.1, by omega⟩]
    refine ev_lk (p := 105) hc rfl (by decide) (by rw [e4]; decide) ?_
    rw [← hself]
    iterate 2 refine ev_nx rfl ?_
    refine ev_lf hI rfl rfl rfl rfl ?_
    iterate 4 refine ev_nx rfl ?_
    rw [n_shl (by omega) f3, n_or]
    refine ev_lp (c' := c) (t' := t) (j' := j ||| 1 * 2 ^ (lt_ l n (k + 1) - 48)) hI rfl rfl (by decide) (by decide) rfl ?_
    refine ev_nx rfl ?_
    rw [hself]
    exact ev_rt rfl ⟨rfl, put⟩
  rw [if_neg e4] at he ⊢
  refine ev_lk (p := 121) hc rfl (by decide) (by rw [show (#[((99 : Int), (59 : Int)), (106, 91), (110, 42), (116, 75)]).toList = [(99, 59), (106, 91), (110, 42), (116, 75)] from rfl, lk4 e1 e2 e3 e4]; decide) ?_
  iterate 8 refine ev_nx rfl ?_
  rw [nI_add, pk_sub (by omega)]
  refine ev_v rfl rfl rfl rfl rfl rfl hs.1 rfl (e_tellMessage hs ok hz.1 mo (by omega) (by omega)) (fun rv h2 q => ?_)
  obtain ⟨rfl, q1, q2⟩ := q
  exact ev_rt rfl ⟨rfl, ⟨q1, ltx_fr hz.2 (fun q h1 h2 => q2.2 q (by omega))⟩, q2.1, fun q hq _ => q2.2 q hq⟩
/-- the text told from a place, item by item -/
def tll (l : List Nat) (n : Nat) : Nat → Nat → aT → aT
  | 0, _, z => z
  | f + 1, k, z => if k < n then (match iE l n k with
    | none => z
    | some e => tll l n f e (tI1 l n k e z)) else z
theorem tj_tr {h1 h2 : aH} (x : tj i h h1) (y : tj i h1 h2) : tj i h h2 := ⟨y.1.trans x.1, fun q a b => (y.2 q a b).trans (x.2 q a b)⟩
theorem sat_tj {h1 : aH} (hs : sat h l n) (x : tj i h h1) (hi : 2 < i) : sat h1 l n := ⟨by rw [x.2 _ (by omega) (by omega)]; exact hs.1, by rw [x.2 _ (by omega) (by omega)]; exact hs.2⟩
theorem tI1_ok {k e : Nat} (mo : mok z.2.1 z.2.2.1 z.2.2.2) (hK : z.1.1.length = 5) : mok (tI1 l n k e z).2.1 (tI1 l n k e z).2.2.1 (tI1 l n k e z).2.2.2 ∧ (tI1 l n k e z).1.1.length = 5 := by
  unfold tI1
  split
  · exact ⟨mo, by show (List.set _ _ _).length = 5; rw [List.length_set]; exact hK⟩
  · split
    · exact ⟨mo, hK⟩
    · split
      · exact ⟨mo, hK⟩
      · split
        · exact ⟨mo, hK⟩
        · exact ⟨mok_spx _ _ _ _ (mok_bg mo), hK⟩
theorem lp_tell (ok : sok l n) (hi : 5 < i) : ∀ f a k h1 z l5, a + f = 200 → k < 800 → sat h1 l n → tat h1 i z → mok z.2.1 z.2.2.1 z.2.2.2 → z.1.1.length = 5 → h1.length ≤ 100000 → tj i h h1 → Ev (d + 4) m_X6_tell 5 [some (.ref 1), some (.ref i), some (.ref 3), some (.int (nI k)), some (.int (nI a)), l5] [] h1 (fun v h' => v = none ∧ tat h' i (tll l n f k z) ∧ tj i h h') := by
  intro f
  have hn := ok.2.1
  induction f with
  | zero =>
    intro a k h1 z l5 ha hk hs hz mo hK hh hj
    iterate 3 refine ev_nx rfl ?_
    refine ev_ge (fun _ => ?_) (fun h => absurd h (by omega))
    exact ev_rt rfl ⟨rfl, hz, hj⟩
  | succ f ih =>
    intro a k h1 z l5 ha hk hs hz mo hK hh hj
    rw [tll]
    iterate 3 refine ev_nx rfl ?_
    refine ev_ge (fun h => absurd h (by omega)) (fun _ => ?_)
    iterate 2 refine ev_nx rfl ?_
    refine ev_gf rfl rfl hs.1 rfl ?_
    refine ev_nx rfl ?_
    refine ev_ge (fun hc => ?_) (fun hkn => ?_)
    · rw [if_neg (by omega)]
      exact ev_rt rfl ⟨rfl, hz, hj⟩
    · rw [if_pos hkn]
      iterate 2 refine ev_nx rfl ?_
      refine ev_vi rfl rfl rfl rfl rfl rfl hs.1 rfl (e_itemEnd hs ok (by omega)) ?_
      cases hE : iE l n k with
      | none =>
        iterate 4 refine ev_nx rfl ?_
        refine ev_f (by decide) ?_
        exact ev_rt rfl ⟨rfl, hz, hj⟩
      | some e =>
        have he := iE_le hE
        iterate 4 refine ev_nx rfl ?_
        refine ev_t (by show (!(nI e == -(nI 4))) = true; rw [beq_eq_false_iff_ne.mpr (eo_c (e := e) (by omega))]; rfl) ?_
        iterate 5 refine ev_nx rfl ?_
        refine ev_v rfl rfl rfl rfl rfl rfl hs.1 rfl (e_tellItem hs ok hz mo hK hi hh (by omega) hE) (fun rv h2 q => ?_)
        obtain ⟨rfl, q1, q2⟩ := q
        iterate 4 refine ev_nx rfl ?_
        rw [nI_add]
        obtain ⟨m2, K2⟩ := tI1_ok (l := l) (n := n) (k := k) (e := e) mo hK
        exact ih (a + 1) e h2 _ _ (by omega) (by omega) (sat_tj hs q2 (by omega)) q1 m2 K2 (by rw [q2.1]; exact hh) (tj_tr hj q2)
theorem e_tell (hs : sat h l n) (ok : sok l n) (hz : tat h i z) (mo : mok z.2.1 z.2.2.1 z.2.2.2) (hK : z.1.1.length = 5) (hi : 5 < i) (hh : h.length ≤ 100000) : Ec (d + 4) m_X6_tell [.ref 1, .ref i, .ref 3] h (fun v h' => v = none ∧ tat h' i (tll l n 200 0 z) ∧ tj i h h') := by
  refine ec_in [some (.ref 1), some (.ref i), some (.ref 3), none, none, none] rfl rfl ?_
  iterate 4 refine ev_nx rfl ?_
  exact lp_tell ok hi 200 0 0 h z none rfl (by decide) hs hz mo hK hh ⟨rfl, fun _ _ _ => rfl⟩
end TL
