/-! Arrays.fill; the suspects -/
def uo (hr n : Nat) : aC := .inr (.inr (7, [.ref 70, .ref 71, .ref 72, .int (nI hr), .ref 73, .int (nI n)]))
def uat (h : aH) (ss sr R : List Nat) (hr : Nat) (P : List Nat) (n : Nat) : Prop := h[69]? = some (uo hr n) ∧ h[70]? = some (ar ss) ∧ h[71]? = some (ar sr) ∧ h[72]? = some (.inl (2, R.map nI)) ∧ h[73]? = some (ar P)
def uok (ss sr R P : List Nat) (n : Nat) : Prop := (ss.length = 8 ∧ ∀ s ∈ ss, s < 30) ∧ (sr.length = 8 ∧ ∀ s ∈ sr, s < 32) ∧ (R.length = 750 ∧ ∀ s ∈ R, s < 32) ∧ P.length = 32 ∧ n ≤ 8
section SU
variable {h : aH} {ss sr R P : List Nat} {hr n d : Nat} {Q : Option Value → aH → Prop}
theorem set_set {h : aH} {a : Nat} {x y : aC} : (h.set a x).set a y = h.set a y := List.set_set ..
theorem set_id {h : aH} {a : Nat} {x : aC} (hh : h[a]? = some x) : h.set a x = h := by
  refine List.ext_getElem? (fun k => ?_)
  by_cases e : a = k
  · subst e; rw [gset_s hh, hh]
  · rw [gset_n e]
theorem rep_set {l : List Int32} {v : Int32} {k : Nat} (hk : k < l.length) : (List.replicate k v ++ l.drop k).set k v = List.replicate (k + 1) v ++ l.drop (k + 1) := by
  rw [List.set_append_right _ _ (by rw [List.length_replicate]; exact Nat.le_refl _), List.length_replicate, Nat.sub_self, List.drop_eq_getElem_cons hk, List.set_cons_zero, List.replicate_succ', List.append_assoc]
  rfl
theorem lp_fill {a : Nat} {l : List Int32} {v : Int32} (ha : a < 100000) (hh : a < h.length) (hl : l.length < 100000) : ∀ r k, k + r = l.length → Ev d m_J7_fill 5 [some (.ref a), some (.int v), some (.int (nI k)), some (.int (nI l.length))] [] (h.set a (.inl (0, List.replicate k v ++ l.drop k))) (rtv (h.set a (.inl (0, List.replicate l.length v)))) := by
  intro r
  induction r with
  | zero =>
    intro k hk
    iterate 3 refine ev_nx rfl ?_
    refine ev_ge (fun _ => ?_) (fun h => absurd h (by omega))
    refine ev_rt rfl ⟨rfl, ?_⟩
    rw [List.drop_eq_nil_of_le (by omega), List.append_nil, show k = l.length by omega]
  | succ r ih =>
    intro k hk
    iterate 3 refine ev_nx rfl ?_
    refine ev_ge (fun h => absurd h (by omega)) (fun _ => ?_)
    iterate 3 refine ev_nx rfl ?_
    refine ev_is rfl (List.getElem?_set_self hh) (by rw [List.length_append, List.length_replicate, List.length_drop]; omega) ?_
    rw [set_set, rep_set (by omega)]
    iterate 2 refine ev_nx rfl ?_
    rw [nI_add]
    exact ih (k + 1) (by omega)
theorem e_fill {a : Nat} {l : List Int32} {v : Int32} (ha : a < 100000) (hh : h[a]? = some (.inl (0, l))) (hl : l.length < 100000) : Ec d m_J7_fill [.ref a, .int v] h (rtv (h.set a (.inl (0, List.replicate l.length v)))) := by
  have hlt : a < h.length := (List.getElem?_eq_some_iff.mp hh).1
  refine ec_in [some (.ref a), some (.int v), none, none] rfl rfl ?_
  iterate 3 refine ev_nx rfl ?_
  refine ev_al rfl (am_arr_h ha hh) (by decide) ?_
  refine ev_nx rfl ?_
  have H := lp_fill (h := h) (d := d) (a := a) (l := l) (v := v) ha hlt hl l.length 0 (by omega)
  rw [List.replicate_zero, List.nil_append, List.drop_zero, set_id hh] at H
  exact H
theorem uat_p (hm : uat h ss sr R hr P n) {P' : List Nat} : uat (h.set 73 (ar P')) ss sr R hr P' n :=
  ⟨by rw [gset_n (by decide)]; exact hm.1, by rw [gset_n (by decide)]; exact hm.2.1, by rw [gset_n (by decide)]; exact hm.2.2.1, by rw [gset_n (by decide)]; exact hm.2.2.2.1, gset_s hm.2.2.2.2⟩
theorem e_uadd (hm : uat h ss sr R hr P n) (ok : uok ss sr R P n) {s r : Nat} : Ec d m_X7_add [.ref 69, .int (nI s), .int (nI r)] h (fun v h' => v = none ∧ uat h' (if n < 8 then ss.set n s else ss) (if n < 8 then sr.set n r else sr) R hr P (if n < 8 then n + 1 else n) ∧ fr 69 73 h h') := by
  obtain ⟨⟨a1, a2⟩, ⟨b1, b2⟩, _, _, hn⟩ := ok
  refine ec_in [some (.ref 69), some (.int (nI s)), some (.int (nI r))] rfl rfl ?_
  refine ev_nx rfl ?_
  refine ev_gf rfl rfl hm.1 rfl ?_
  iterate 2 refine ev_nx rfl ?_
  refine ev_ge (fun hc => ?_) (fun hc => ?_)
  · rw [if_neg (by omega), if_neg (by omega), if_neg (by omega)]
    exact ev_rt rfl ⟨rfl, hm, rfl, fun _ _ => rfl⟩
  · rw [if_pos (by omega), if_pos (by omega), if_pos (by omega)]
    refine ev_nx rfl ?_
    refine ev_gf rfl rfl hm.1 rfl ?_
    refine ev_nx rfl ?_
    refine ev_gf rfl rfl hm.1 rfl ?_
    refine ev_nx rfl ?_
    refine ev_is rfl hm.2.1 (by rw [List.length_map]; omega) ?_
    have m1 : ∀ y, (h.set 70 y)[69]? = some (uo hr n) := fun y => by rw [gset_n (by decide)]; exact hm.1
    have m2 : ∀ y, (h.set 70 y)[71]? = some (ar sr) := fun y => by rw [gset_n (by decide)]; exact hm.2.2.1
    refine ev_nx rfl ?_
    refine ev_gf rfl rfl (m1 _) rfl ?_
    refine ev_nx rfl ?_
    refine ev_gf rfl rfl (m1 _) rfl ?_
    refine ev_nx rfl ?_
    refine ev_is rfl (m2 _) (by rw [List.length_map]; omega) ?_
    have m3 : ∀ y z, ((h.set 70 y).set 71 z)[69]? = some (uo hr n) := fun y z => by rw [gset_n (by decide)]; exact m1 _
    iterate 2 refine ev_nx rfl ?_
    refine ev_gf rfl rfl (m3 _ _) rfl ?_
    iterate 2 refine ev_nx rfl ?_
    rw [nI_add]
    refine ev_pf rfl rfl (m3 _ _) (by show 5 < 6; decide) rfl rfl rfl ?_
    refine ev_rt rfl ⟨rfl, ⟨?_, ?_, ?_, ?_, ?_⟩, by simp, fun q hq => ?_⟩
    · rw [gset_s (m3 _ _)]; rfl
    · rw [gset_n (by decide), gset_n (by decide), gset_s hm.2.1, ms_]; rfl
    · rw [gset_n (by decide), gset_s (m2 _), ms_]; rfl
    · rw [gset_n (by decide), gset_n (by decide), gset_n (by decide)]; exact hm.2.2.2.1
    · rw [gset_n (by decide), gset_n (by decide), gset_n (by decide)]; exact hm.2.2.2.2
    · rw [gset_n (by omega), gset_n (by omega), gset_n (by omega)]
theorem e_uempty (hm : uat h ss sr R hr P n) : Ec d m_X7_empty [.ref 69] h (fun v h' => v = some (.int (nI n)) ∧ uat h' ss sr R hr P 0 ∧ fr 69 73 h h') := by
  refine ec_in [some (.ref 69), none] rfl rfl ?_
  refine ev_nx rfl ?_
  refine ev_gf rfl rfl hm.1 rfl ?_
  iterate 3 refine ev_nx rfl ?_
  refine ev_pf rfl rfl hm.1 (by show 5 < 6; decide) rfl rfl rfl ?_
  refine ev_nx rfl ?_
  refine ev_ri rfl rfl rfl ⟨rfl, ⟨?_, ?_, ?_, ?_, ?_⟩, by simp, fun q hq => ?_⟩
  · rw [gset_s hm.1]; rfl
  · rw [gset_n (by decide)]; exact hm.2.1
  · rw [gset_n (by decide)]; exact hm.2.2.1
  · rw [gset_n (by decide)]; exact hm.2.2.2.1
  · rw [gset_n (by decide)]; exact hm.2.2.2.2
  · rw [gset_n (by omega)]
/-- what was seen agrees with a wrong -/
def agr (ss sr R : List Nat) (k : Nat) : Nat → Nat → Bool
  | 0, _ => true
  | r + 1, p => if R.getD (k * 30 + ss.getD p 0) 0 = sr.getD p 0 then agr ss sr R k r (p + 1) else false
theorem lp_agr (hm : uat h ss sr R hr P n) (ok : uok ss sr R P n) {k : Nat} (hk : k < 25) : ∀ r p, p + r = n → Ev d m_X7_agrees 2 [some (.ref 69), some (.int (nI k)), some (.int (nI p))] [] h (rt (.int (nI (b2n (agr ss sr R k r p)))) h) := by
  obtain ⟨⟨a1, a2⟩, ⟨b1, b2⟩, ⟨c1, c2⟩, _, hn⟩ := ok
  intro r
  induction r with
  | zero =>
    intro p hp
    iterate 2 refine ev_nx rfl ?_
    refine ev_gf rfl rfl hm.1 rfl ?_
    refine ev_nx rfl ?_
    refine ev_ge (fun _ => ?_) (fun h => absurd h (by omega))
    refine ev_nx rfl ?_
    exact ev_ri rfl rfl rfl ⟨rfl, rfl⟩
  | succ r ih =>
    intro p hp
    have g1 : ss.getD p 0 < 30 := gd3 a2 (by omega)
    have g2 : sr.getD p 0 < 32 := gd3 b2 (by omega)
    have g3 : R.getD (k * 30 + ss.getD p 0) 0 < 32 := gd3 c2 (by omega)
    rw [agr]
    iterate 2 refine ev_nx rfl ?_
    refine ev_gf rfl rfl hm.1 rfl ?_
    refine ev_nx rfl ?_
    refine ev_ge (fun h => absurd h (by omega)) (fun _ => ?_)
    refine ev_nx rfl ?_
    refine ev_gf rfl rfl hm.1 rfl ?_
    iterate 4 refine ev_nx rfl ?_
    refine ev_gf rfl rfl hm.1 rfl ?_
    refine ev_nx rfl ?_
    refine ev_ia rfl (am_arr_h (by decide) hm.2.1) (mg (by omega)) ?_
    refine ev_nx rfl ?_
    rw [pk_mul, nI_add]
    refine ev_ba rfl (am_arr_h (by decide) hm.2.2.2.1) (mg (by omega)) ?_
    refine ev_nx rfl ?_
    refine ev_gf rfl rfl hm.1 rfl ?_
    refine ev_nx rfl ?_
    refine ev_ia rfl (am_arr_h (by decide) hm.2.2.1) (mg (by omega)) ?_
    refine ev_nx rfl ?_
    refine ev_eq (fun hc => ?_) (fun hc => ?_)
    · rw [if_pos hc]
      iterate 2 refine ev_nx rfl ?_
      rw [nI_add]
      exact ih (p + 1) (by omega)
    · rw [if_neg hc]
      refine ev_nx rfl ?_
      exact ev_ri rfl rfl rfl ⟨rfl, rfl⟩
theorem e_agrees (hm : uat h ss sr R hr P n) (ok : uok ss sr R P n) {k : Nat} (hk : k < 25) : Ec d m_X7_agrees [.ref 69, .int (nI k)] h (rt (.int (nI (b2n (agr ss sr R k n 0)))) h) := by
  refine ec_in [some (.ref 69), some (.int (nI k)), none] rfl rfl ?_
  iterate 2 refine ev_nx rfl ?_
  exact lp_agr hm ok hk n 0 (by omega)
/-! the greatest part -/
/-- the parts counted from a wrong on; the greatest of them -/
def gpr (R : List Nat) (w s : Nat) : Nat → Nat → List Nat → Nat → List Nat × Nat
  | 0, _, P, m => (P, m)
  | r + 1, k, P, m => if bt w k = 1 then gpr R w s r (k + 1) (P.set (R.getD (k * 30 + s) 0) (P.getD (R.getD (k * 30 + s) 0) 0 + 1)) (max m (P.getD (R.getD (k * 30 + s) 0) 0 + 1)) else gpr R w s r (k + 1) P m
def z32 : List Nat := List.replicate 32 0
def gpt (R : List Nat) (w s : Nat) : Nat := (gpr R w s 25 0 z32 0).2
theorem n_max {a b : Nat} (ha : a < 2147483648) (hb : b < 2147483648) : (if nI a < nI b then nI b else nI a) = nI (max a b) := by
  by_cases hc : a < b
  · rw [if_pos ((nI_ltI ha hb).mpr hc), Nat.max_eq_right (by omega)]
  · rw [if_neg (fun q => hc ((nI_ltI ha hb).mp q)), Nat.max_eq_left (by omega)]
/-- only the parts have changed -/
def uj (v : Nat) (h : aH) : Option Value → aH → Prop := fun r h' => r = some (.int (nI v)) ∧ ∃ P, P.length = 32 ∧ h' = h.set 73 (ar P)
theorem gpr_len : ∀ r k P m w s, P.length = 32 → (gpr R w s r k P m).1.length = 32 := by
  intro r
  induction r with
  | zero => intro k P m w s hP; exact hP
  | succ r ih =>
    intro k P m w s hP
    rw [gpr]
    split
    · exact ih _ _ _ _ _ (by rw [List.length_set]; exact hP)
    · exact ih _ _ _ _ _ hP
theorem lp_gp (hm : uat h ss sr R hr P n) (ok : uok ss sr R P n) {w s : Nat} (hw : w < 2147483648) (hs : s < 30) : ∀ r k P1 m l5, k + r = 25 → P1.length = 32 → (∀ x ∈ P1, x ≤ k) → m ≤ k → Ev (d + 1) m_X7_greatestPart 13 [some (.ref 69), some (.int (nI w)), some (.int (nI s)), some (.int (nI m)), some (.int (nI k)), l5] [] (h.set 73 (ar P1)) (uj (gpr R w s r k P1 m).2 h) := by
  obtain ⟨_, _, ⟨c1, c2⟩, _, hn⟩ := ok
  intro r
  induction r with
  | zero =>
    intro k P1 m l5 hk hP hx hmk
    iterate 3 refine ev_nx rfl ?_
    refine ev_ge (fun _ => ?_) (fun h => absurd h (by omega))
    refine ev_nx rfl ?_
    exact ev_ri rfl rfl rfl ⟨rfl, P1, hP, rfl⟩
  | succ r ih =>
    intro k P1 m l5 hk hP hx hmk
    have g3 : R.getD (k * 30 + s) 0 < 32 := gd3 c2 (by omega)
    have g4 : P1.getD (R.getD (k * 30 + s) 0) 0 ≤ k := by
      rw [List.getD, List.getElem?_eq_getElem (by omega)]; exact hx _ (List.getElem_mem _)
    have hb := bt_lt w k
    have um := uat_p hm (P' := P1)
    rw [gpr]
    iterate 3 refine ev_nx rfl ?_
    refine ev_ge (fun h => absurd h (by omega)) (fun _ => ?_)
    iterate 2 refine ev_nx rfl ?_
    refine ev_ci rfl rfl (ec_le (Nat.zero_le d) (e_bitAt w k hw (by omega) _)) ?_
    iterate 2 refine ev_nx rfl ?_
    refine ev_ne (fun hc => ?_) (fun hc => ?_)
    · rw [if_neg hc]
      iterate 2 refine ev_nx rfl ?_
      rw [nI_add]
      exact ih (k + 1) P1 m _ (by omega) hP (fun x hxx => by have := hx x hxx; omega) (by omega)
    · rw [if_pos hc]
      refine ev_nx rfl ?_
      refine ev_gf rfl rfl um.1 rfl ?_
      iterate 5 refine ev_nx rfl ?_
      rw [pk_mul, nI_add]
      refine ev_ba rfl (am_arr_h (by decide) um.2.2.2.1) (mg (by omega)) ?_
      iterate 2 refine ev_nx rfl ?_
      refine ev_gf rfl rfl um.1 rfl ?_
      iterate 2 refine ev_nx rfl ?_
      refine ev_ia rfl (am_arr_h (by decide) um.2.2.2.2) (mg (by omega)) ?_
      iterate 2 refine ev_nx rfl ?_
      rw [nI_add]
      refine ev_is rfl um.2.2.2.2 (by rw [List.length_map]; omega) ?_
      rw [set_set, ms_]
      have u2 := uat_p hm (P' := P1.set (R.getD (k * 30 + s) 0) (P1.getD (R.getD (k * 30 + s) 0) 0 + 1))
      iterate 2 refine ev_nx rfl ?_
      refine ev_gf rfl rfl u2.1 rfl ?_
      refine ev_nx rfl ?_
      refine ev_ia rfl (am_arr_h (by decide) u2.2.2.2.2) (mg (by rw [List.length_set]; omega)) ?_
      rw [gd_s (by omega)]
      refine ev_nx rfl ?_
      rw [n_max (by omega) (by omega)]
      iterate 3 refine ev_nx rfl ?_
      rw [nI_add]
      refine ih (k + 1) _ _ _ (by omega) (by rw [List.length_set]; exact hP) (fun x hxx => ?_) (by omega)
      rcases List.mem_or_eq_of_mem_set hxx with q | q
      · have := hx x q; omega
      · omega
theorem e_greatestPart (hm : uat h ss sr R hr P n) (ok : uok ss sr R P n) {w s : Nat} (hw : w < 2147483648) (hs : s < 30) : Ec (d + 1) m_X7_greatestPart [.ref 69, .int (nI w), .int (nI s)] h (uj (gpt R w s) h) := by
  have hP := ok.2.2.2.1
  refine ec_in [some (.ref 69), some (.int (nI w)), some (.int (nI s)), none, none, none] rfl rfl ?_
  refine ev_nx rfl ?_
  refine ev_gf rfl rfl hm.1 rfl ?_
  refine ev_nx rfl ?_
  refine ev_cv rfl rfl (e_fill (v := nI 0) (by decide) hm.2.2.2.2 (by rw [List.length_map]; omega)) ?_
  rw [List.length_map, hP, show (Sum.inl (0, List.replicate 32 (nI 0)) : aC) = ar z32 from rfl]
  iterate 4 refine ev_nx rfl ?_
  exact lp_gp hm ok hw hs 25 0 z32 0 none rfl rfl (fun x hx => by rw [List.eq_of_mem_replicate hx]; exact Nat.le_refl _) (Nat.le_refl _)
theorem uok_p (ok : uok ss sr R P n) {P' : List Nat} (hP : P'.length = 32) : uok ss sr R P' n := ⟨ok.1, ok.2.1, ok.2.2.1, hP, ok.2.2.2.2⟩
/-- the sign with the least greatest part, from a sign on -/
def bsr (R : List Nat) (w : Nat) : Nat → Nat → Nat → Nat → Nat
  | 0, _, b, _ => b
  | r + 1, s, b, m => if m ≤ gpt R w s then bsr R w r (s + 1) b m else bsr R w r (s + 1) s (gpt R w s)
theorem gpr_le : ∀ r k P m w s, k + r ≤ 25 → m ≤ k → (∀ x ∈ P, x ≤ k) → (gpr R w s r k P m).2 ≤ 25 := by
  intro r
  induction r with
  | zero => intro k P m w s h1 h2 h3; show m ≤ 25; omega
  | succ r ih =>
    intro k P m w s h1 h2 h3
    have g4 : ∀ y, P.getD y 0 ≤ k := fun y => by
      rw [List.getD]
      cases hy : P[y]? with
      | none => exact Nat.zero_le _
      | some x => exact h3 x (List.mem_of_getElem? hy)
    rw [gpr]
    split
    · refine ih _ _ _ _ _ (by omega) (by have := g4 (R.getD (k * 30 + s) 0); omega) (fun x hxx => ?_)
      rcases List.mem_or_eq_of_mem_set hxx with q | q
      · have := h3 x q; omega
      · have := g4 (R.getD (k * 30 + s) 0); omega
    · exact ih _ _ _ _ _ (by omega) (by omega) (fun x hxx => by have := h3 x hxx; omega)
theorem gpt_le (w s : Nat) : gpt R w s ≤ 25 := gpr_le 25 0 z32 0 w s (by omega) (by omega) (fun x hx => by rw [List.eq_of_mem_replicate hx]; exact Nat.le_refl _)
theorem lp_bs (hm : uat h ss sr R hr P n) (ok : uok ss sr R P n) {w : Nat} (hw : w < 2147483648) : ∀ r s b m P1 l5, s + r = 30 → b ≤ 30 → m ≤ 26 → P1.length = 32 → Ev (d + 2) m_X7_bestSign 8 [some (.ref 69), some (.int (nI w)), some (.int (nI b)), some (.int (nI m)), some (.int (nI s)), l5] [] (h.set 73 (ar P1)) (uj (bsr R w r s b m) h) := by
  intro r
  induction r with
  | zero =>
    intro s b m P1 l5 hs hb hmm hP
    iterate 3 refine ev_nx rfl ?_
    refine ev_ge (fun _ => ?_) (fun h => absurd h (by omega))
    refine ev_nx rfl ?_
    exact ev_ri rfl rfl rfl ⟨rfl, P1, hP, rfl⟩
  | succ r ih =>
    intro s b m P1 l5 hs hb hmm hP
    have hg := gpt_le (R := R) w s
    rw [bsr]
    iterate 3 refine ev_nx rfl ?_
    refine ev_ge (fun h => absurd h (by omega)) (fun _ => ?_)
    iterate 3 refine ev_nx rfl ?_
    refine ev_v rfl rfl rfl rfl rfl rfl (uat_p hm).1 rfl (e_greatestPart (uat_p hm) (uok_p ok hP) hw (by omega)) (fun rv h2 q => ?_)
    obtain ⟨rfl, P2, hP2, rfl⟩ := q
    rw [set_set]
    iterate 4 refine ev_nx rfl ?_
    refine ev_ge (fun hc => ?_) (fun hc => ?_)
    · rw [if_pos hc]
      iterate 2 refine ev_nx rfl ?_
      rw [nI_add]
      exact ih (s + 1) b m P2 _ (by omega) hb hmm hP2
    · rw [if_neg (by omega)]
      iterate 6 refine ev_nx rfl ?_
      rw [nI_add]
      exact ih (s + 1) s _ P2 _ (by omega) (by omega) (by omega) hP2
theorem e_bestSign (hm : uat h ss sr R hr P n) (ok : uok ss sr R P n) {w : Nat} (hw : w < 2147483648) : Ec (d + 2) m_X7_bestSign [.ref 69, .int (nI w)] h (uj (bsr R w 30 0 0 26) h) := by
  refine ec_in [some (.ref 69), some (.int (nI w)), none, none, none, none] rfl rfl ?_
  iterate 6 refine ev_nx rfl ?_
  have H := lp_bs (d := d) hm ok hw 30 0 0 26 P none rfl (by decide) (by decide) ok.2.2.2.1
  rw [set_id hm.2.2.2.2] at H
  exact H
end SU
