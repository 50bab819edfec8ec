/-! the contest: ends, outcome -/
section CE
variable {h : aH} {K K' S G sg ln : List Nat} {em : List (Option Nat)} {c t j c' t' j' m mn d : Nat} {Q : Option Value → aH → Prop}
/-- the trial line is a line, the ends are right -/
def cin (K : List Nat) (t j : Nat) (l : List Nat) (m : Nat) (h : aH) : Prop := (∃ em, cat h em m ∧ mem K t j l em) ∧ ∃ K' c' t' j', lnw h 82 K' c' t' j'
theorem e_endOf (hci : cin K t j (msg sg ln m) m h) (hx : ltx h 77 (K, S, G, c, t, j)) (ok : lok K S G c t j) (hM : mat h sg ln mn) (mo : mok sg ln mn) (hm6 : m < 6) (hh : h.length ≤ 100000) {w cc : Nat} (hw : w < 32) (hcc : cc < 32) : Ec (d + 4) m_X1_endOf [.ref 76, .ref 3, .int (nI w), .int (nI cc)] h (fun r h' => r = some (.int (nI (env K t j (msg sg ln m) w cc))) ∧ cin K t j (msg sg ln m) m h' ∧ fe h h') := by
  obtain ⟨⟨em, hc, me⟩, K', c', t', j', hs⟩ := hci
  have hlen := me.1
  have hq := q_ix ⟨w, hw⟩ ⟨cc, hcc⟩
  simp only at hq
  refine ec_in [some (.ref 76), some (.ref 3), some (.int (nI w)), some (.int (nI cc)), none] rfl rfl ?_
  iterate 3 refine ev_nx rfl ?_
  rw [n_shl (by decide) (by omega)]
  iterate 2 refine ev_nx rfl ?_
  rw [n_or, hq]
  iterate 3 refine ev_nx rfl ?_
  refine ev_lt0 ?_
  iterate 2 refine ev_nx rfl ?_
  refine ev_gf rfl rfl hc.1 rfl ?_
  refine ev_al rfl (am_arr_h (by decide) hc.2) (by decide) ?_
  rw [List.length_map]
  refine ev_nx rfl ?_
  refine ev_lt (fun _ => ?_) (fun h => absurd h (by omega))
  refine ev_nx rfl ?_
  refine ev_gf rfl rfl hc.1 rfl ?_
  refine ev_nx rfl ?_
  refine ev_ia rfl (am_arr_h (by decide) hc.2) (mgo (by omega)) ?_
  rcases me.2 w cc hw hcc with e | e
  · rw [e]
    iterate 2 refine ev_nx rfl ?_
    refine ev_f (by decide) ?_
    iterate 3 refine ev_nx rfl ?_
    refine ev_v rfl rfl rfl rfl rfl rfl hc.1 rfl (e_layOut hc hx ok hs hh hw hcc) (fun rv h2 q => ?_)
    obtain ⟨rfl, q1, q2⟩ := q
    have hc2 := cat_fr hc q2
    have hM2 := mat_fr hM q2 (by decide)
    refine ev_nx rfl ?_
    refine ev_gf rfl rfl hc2.1 rfl ?_
    iterate 3 refine ev_nx rfl ?_
    refine ev_gf rfl rfl hc2.1 rfl ?_
    refine ev_nx rfl ?_
    refine ev_gf rfl rfl hc2.1 rfl ?_
    iterate 2 refine ev_nx rfl ?_
    refine ev_v rfl rfl rfl rfl rfl rfl hM2.1 rfl (e_right q1 hM2 mo (by rw [q2.1]; exact hh) hm6 (by decide) (by decide)) (fun rv h3 q => ?_)
    obtain ⟨rfl, q3, q4⟩ := q
    have hc3 := cat_fr hc2 q4
    refine ev_is rfl hc3.2 (by rw [List.length_map]; omega) ?_
    rw [show nI (rgt K cc (clr t w) (clr j (mdj w)) 1 1 (msg sg ln m) z55) = eo1 (some (env K t j (msg sg ln m) w cc)) from rfl, ← List.map_set]
    have hc4 : cat (h3.set 87 (.inl (0, (em.set (w * 32 + cc) (some (env K t j (msg sg ln m) w cc))).map eo1))) (em.set (w * 32 + cc) (some (env K t j (msg sg ln m) w cc))) m := ⟨by rw [gset_n (by decide)]; exact hc3.1, gset_s hc3.2⟩
    refine ev_nx rfl ?_
    refine ev_gf rfl rfl hc4.1 rfl ?_
    refine ev_nx rfl ?_
    refine ev_ia rfl (am_arr_h (by decide) hc4.2) (mgo (by rw [List.length_set]; omega)) ?_
    have g1 : (em.set (w * 32 + cc) (some (env K t j (msg sg ln m) w cc))).getD (w * 32 + cc) none = some (env K t j (msg sg ln m) w cc) := by
      rw [List.getD, List.getElem?_set_self (by omega)]; rfl
    rw [g1]
    refine ev_ri rfl rfl rfl ⟨rfl, ⟨⟨_, hc4, by rw [List.length_set]; exact hlen, fun w1 c1 h1 h2 => ?_⟩, _, _, _, _, lnw_fr (a := 87) (b := 87) q3 ⟨by rw [List.length_set], fun p hp => gset_n (by omega)⟩ (by decide)⟩, by rw [List.length_set, q4.1, q2.1], fun q h1 h2 => by rw [gset_n (by omega), q4.2 q h1, q2.2 q h1]⟩
    by_cases e : w * 32 + cc = w1 * 32 + c1
    · have e1 : w = w1 := by omega
      have e2 : cc = c1 := by omega
      subst e1
      subst e2
      exact .inr g1
    · have : (em.set (w * 32 + cc) (some (env K t j (msg sg ln m) w cc))).getD (w1 * 32 + c1) none = em.getD (w1 * 32 + c1) none := by
        rw [List.getD, List.getElem?_set_ne e]; rfl
      rw [this]
      exact me.2 w1 c1 h1 h2
  · rw [e]
    have hle := rgt_le (K := K) (c := cc) (t := clr t w) (j := clr j (mdj w)) (r := 1) (g := 1) (msg sg ln m) z55
    have hml : (msg sg ln m).length ≤ 48 := by
      unfold msg; rw [List.length_take, List.length_drop, mo.1]; omega
    have hne : ¬ nI (env K t j (msg sg ln m) w cc) = -(nI 1) := by
      intro q
      have := congrArg Int32.toInt q
      rw [nI_toInt (by show rgt _ _ _ _ _ _ _ _ < _; omega)] at this
      have h2 : (-(nI 1)).toInt = -1 := by decide
      omega
    iterate 2 refine ev_nx rfl ?_
    refine ev_t (by show (!(nI (env K t j (msg sg ln m) w cc) == -(nI 1))) = true; rw [beq_eq_false_iff_ne.mpr hne]; rfl) ?_
    refine ev_nx rfl ?_
    refine ev_gf rfl rfl hc.1 rfl ?_
    refine ev_nx rfl ?_
    refine ev_ia rfl (am_arr_h (by decide) hc.2) (mgo (by omega)) ?_
    rw [e]
    exact ev_ri rfl rfl rfl ⟨rfl, ⟨⟨em, hc, me⟩, K', c', t', j', hs⟩, rfl, fun _ _ _ => rfl⟩
/-- only the contest, its first line and the ends have changed -/
def fb (h h' : aH) : Prop := h'.length = h.length ∧ ∀ q, q < 76 ∨ 81 < q → ¬ q = 87 → h'[q]? = h[q]?
theorem e_beginFor {x y : aN} (hc : cat h em c) (hl : em.length = 1024) (hs : ltx h 77 y) (hx : ltx h 6 x) (ny : nok y) (nx : nok x) (hh : h.length ≤ 100000) : Ec (d + 1) m_X1_beginFor [.ref 76, .ref 6, .int (nI m)] h (fun r h' => r = none ∧ cat h' (List.replicate 1024 none) m ∧ ltx h' 77 x ∧ fb h h') := by
  refine ec_in [some (.ref 76), some (.ref 6), some (.int (nI m))] rfl rfl ?_
  refine ev_nx rfl ?_
  refine ev_gf rfl rfl hc.1 rfl ?_
  refine ev_nx rfl ?_
  obtain ⟨c1, t1, j1, ho⟩ := ltx_o hs
  refine ev_v rfl rfl rfl rfl rfl rfl ho rfl (e_copy hs hx ny nx (by decide) hh) (fun rv h2 q => ?_)
  obtain ⟨rfl, q1, q2⟩ := q
  have hc2 : cat h2 em c := ⟨by rw [q2.2 _ (by omega)]; exact hc.1, by rw [q2.2 _ (by omega)]; exact hc.2⟩
  refine ev_nx rfl ?_
  refine ev_gf rfl rfl hc2.1 rfl ?_
  refine ev_nx rfl ?_
  refine ev_cv rfl rfl (e_fill (v := -(nI 1)) (by decide) hc2.2 (by rw [List.length_map]; omega)) ?_
  rw [List.length_map, hl]
  have m1 : ∀ y, (h2.set 87 y)[76]? = some (co c) := fun y => by rw [gset_n (by decide)]; exact hc2.1
  iterate 2 refine ev_nx rfl ?_
  refine ev_pf rfl rfl (m1 _) (by show 3 < 4; decide) rfl rfl rfl ?_
  refine ev_rt rfl ⟨rfl, ⟨?_, ?_⟩, ltx_fr q1 (fun q h1 h2 => ?_), by rw [List.length_set, List.length_set, q2.1], fun q hq hq2 => ?_⟩
  · rw [gset_s (m1 _)]; rfl
  · rw [gset_n (by decide), gset_s hc2.2, List.map_replicate]; rfl
  · rw [gset_n (by omega), gset_n (by omega)]
  · rw [gset_n (by omega), gset_n (by omega), q2.2 q (by omega)]
theorem mem_new {l : List Nat} : mem K t j l (List.replicate 1024 none) := ⟨List.length_replicate, fun w cc h1 h2 => .inl (by
  rw [List.getD, List.getElem?_replicate]; split <;> rfl)⟩
end CE
