/-! the arrangement: noteShown, keepIfBetter -/
def ao (mo : Int32) : aC := .inr (.inr (0, [.ref 89, .ref 90, .ref 91, .int mo]))
/-- the places of a needle where it shows its part of a sign, from a place on -/
def shp (K C : List Nat) (s n a : Nat) : Nat → Nat → List Nat → List Nat
  | 0, _, sh => sh
  | r + 1, p, sh => shp K C s n a r (p + 1) (if sbh (K.getD a 0) (C.getD p 0) (ahd C p) n 0 0 = pt s p then sh.set (a * 5 + p) (sh.getD (a * 5 + p) 0 ||| 1 * 2 ^ s) else sh)
def sha (K C : List Nat) (s n : Nat) : Nat → Nat → List Nat → List Nat
  | 0, _, sh => sh
  | r + 1, a, sh => sha K C s n r (a + 1) (shp K C s n a 5 0 sh)
theorem shp_len {K C : List Nat} {s n a : Nat} : ∀ r p sh, (shp K C s n a r p sh).length = sh.length := by
  intro r
  induction r with
  | zero => intro p sh; rfl
  | succ r ih =>
    intro p sh
    rw [shp, ih]
    split
    · rw [List.length_set]
    · rfl
theorem sbh_lt {k g a : Nat} (hg : g < 3) (ha : a < 3) : ∀ r o s, o < 3 → s < 3 → sbh k g a r o s < 3 := by
  intro r
  induction r with
  | zero => intro o s _ hs; exact hs
  | succ r ih => intro o s ho hs; exact ih g _ hg (stn_lt hg ha ho hs)
section AS
variable {h : aH} {i : Nat} {K S G C : List Nat} {c t j d : Nat} {mo : Int32} {Q : Option Value → aH → Prop}
theorem lp_nsp (hi : lI h i) (hi2 : i + 4 < 88) (ha : h[88]? = some (ao mo)) (h79 : 89 < h.length) (hK : K.length = 5 ∧ ∀ s ∈ K, s < 6) (hC : C.length = 5) (hC3 : ∀ s ∈ C, s < 3) {s n a : Nat} (hs : s < 20) (hn : n < 1000) (ha5 : a < 5) {T : List Nat} (KK : ∀ l6, Ev (d + 3) m_X0_noteShown 73 [some (.ref 88), some (.ref i), some (.int (nI s)), some (.int (nI n)), some (.int (nI a)), some (.int (nI 5)), l6] [] (lh (h.set 89 (ar T)) i K S G C c t j) Q) : ∀ r p sh l6, p + r = 5 → sh.length = 25 → T = shp K C s n a r p sh → Ev (d + 3) m_X0_noteShown 12 [some (.ref 88), some (.ref i), some (.int (nI s)), some (.int (nI n)), some (.int (nI a)), some (.int (nI p)), l6] [] (lh (h.set 89 (ar sh)) i K S G C c t j) Q := by
  have hk : K.getD a 0 < 6 := gd3 hK.2 (by omega)
  intro r
  induction r with
  | zero =>
    intro p sh l6 hp hl hT
    have e : p = 5 := by omega
    subst e
    iterate 3 refine ev_nx rfl ?_
    refine ev_ge (fun _ => ?_) (fun h => absurd h (by omega))
    have := KK l6
    rw [hT] at this
    exact this
  | succ r ih =>
    intro p sh l6 hp hl hT
    rw [shp] at hT
    have hI : lI (h.set 89 (ar sh)) i := ⟨by rw [List.length_set]; exact hi.1, by rw [List.length_set]; exact hi.2⟩
    have hg : C.getD p 0 < 3 := gd3 hC3 (by omega)
    have ha3 : ahd C p < 3 := by
      unfold ahd
      split
      · decide
      · exact gd3 hC3 (by omega)
    have hv := sbh_lt (k := K.getD a 0) hg ha3 n 0 0 (by decide) (by decide)
    obtain ⟨t1, t2⟩ := t0_at (x := s * 5 + p) (by omega)
    have f78 : (lh (h.set 89 (ar sh)) i K S G C c t j)[88]? = some (ao mo) := by rw [lh_o (by omega), gset_n (by decide)]; exact ha
    have f79 : (lh (h.set 89 (ar sh)) i K S G C c t j)[89]? = some (ar sh) := by rw [lh_o (by omega)]; exact List.getElem?_set_self h79
    iterate 3 refine ev_nx rfl ?_
    refine ev_ge (fun h => absurd h (by omega)) (fun _ => ?_)
    iterate 2 refine ev_nx rfl ?_
    refine ev_lf hI rfl rfl rfl rfl ?_
    refine ev_nx rfl ?_
    refine ev_lK hI rfl (by omega) ?_
    iterate 2 refine ev_nx rfl ?_
    refine ev_ci rfl rfl (e_standsBehind hI hC hC3 hk (by omega) hn) ?_
    iterate 8 refine ev_nx rfl ?_
    rw [pk_mul, nI_add]
    refine ev_ia (a := 100000) rfl rfl t1 ?_
    refine ev_nx rfl ?_
    refine ev_ne (fun hc => ?_) (fun hc => ?_)
    · rw [if_neg (show ¬ _ = pt s p from hc)] at hT
      iterate 2 refine ev_nx rfl ?_
      rw [nI_add]
      exact ih (p + 1) sh _ (by omega) hl hT
    · rw [if_pos (show _ = pt s p from hc)] at hT
      refine ev_nx rfl ?_
      refine ev_gf rfl rfl f78 rfl ?_
      iterate 6 refine ev_nx rfl ?_
      rw [pk_mul, nI_add]
      refine ev_ia rfl (am_arr_h (by decide) f79) (mg (by omega)) ?_
      iterate 3 refine ev_nx rfl ?_
      rw [n_shl (by omega) (by have := Nat.pow_lt_pow_right (a := 2) (by decide) hs; omega)]
      refine ev_nx rfl ?_
      rw [n_or]
      refine ev_is rfl f79 (by rw [List.length_map]; omega) ?_
      rw [ms_, lh_set hI.1 (by omega), set_set]
      iterate 2 refine ev_nx rfl ?_
      rw [nI_add]
      exact ih (p + 1) _ _ (by omega) (by rw [List.length_set]; exact hl) hT
theorem lp_nsa (hi : lI h i) (hi2 : i + 4 < 88) (ha : h[88]? = some (ao mo)) (h79 : 89 < h.length) (hK : K.length = 5 ∧ ∀ s ∈ K, s < 6) (hC : C.length = 5) (hC3 : ∀ s ∈ C, s < 3) {s n : Nat} (hs : s < 20) (hn : n < 1000) : ∀ r a sh l5 l6, a + r = 5 → sh.length = 25 → Ev (d + 3) m_X0_noteShown 3 [some (.ref 88), some (.ref i), some (.int (nI s)), some (.int (nI n)), some (.int (nI a)), l5, l6] [] (lh (h.set 89 (ar sh)) i K S G C c t j) (rtv (lh (h.set 89 (ar (sha K C s n r a sh))) i K S G C c t j)) := by
  intro r
  induction r with
  | zero =>
    intro a sh l5 l6 hp hl
    iterate 3 refine ev_nx rfl ?_
    refine ev_ge (fun _ => ?_) (fun h => absurd h (by omega))
    exact ev_rt rfl ⟨rfl, rfl⟩
  | succ r ih =>
    intro a sh l5 l6 hp hl
    rw [sha]
    iterate 3 refine ev_nx rfl ?_
    refine ev_ge (fun h => absurd h (by omega)) (fun _ => ?_)
    iterate 2 refine ev_nx rfl ?_
    refine lp_nsp hi hi2 ha h79 hK hC hC3 hs hn (a := a) (by omega) (T := shp K C s n a 5 0 sh) (fun l6 => ?_) 5 0 sh _ rfl hl rfl
    iterate 2 refine ev_nx rfl ?_
    rw [nI_add]
    exact ih (a + 1) _ _ _ (by omega) (by rw [shp_len]; exact hl)
theorem e_noteShown (hi : lI h i) (hi2 : i + 4 < 88) (ha : h[88]? = some (ao mo)) {sh : List Nat} (hsh : h[89]? = some (ar sh)) (hl : sh.length = 25) (hK : K.length = 5 ∧ ∀ s ∈ K, s < 6) (hC : C.length = 5) (hC3 : ∀ s ∈ C, s < 3) {s n : Nat} (hs : s < 20) (hn : n < 1000) : Ec (d + 3) m_X0_noteShown [.ref 88, .ref i, .int (nI s), .int (nI n)] (lh h i K S G C c t j) (rtv (lh (h.set 89 (ar (sha K C s n 5 0 sh))) i K S G C c t j)) := by
  refine ec_in [some (.ref 88), some (.ref i), some (.int (nI s)), some (.int (nI n)), none, none, none] rfl rfl ?_
  iterate 2 refine ev_nx rfl ?_
  have H := lp_nsa (d := d) (S := S) (G := G) (c := c) (t := t) (j := j) hi hi2 ha (List.getElem?_eq_some_iff.mp hsh).1 hK hC hC3 hs hn 5 0 sh none none rfl hl
  rw [set_id hsh] at H
  exact H
end AS
