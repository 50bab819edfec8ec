/-! the arrangement: standsBehind -/
/-- how a needle stands behind some beats of one carrying -/
def sbh (k g a : Nat) : Nat → Nat → Nat → Nat
  | 0, _, s => s
  | r + 1, o, s => sbh k g a r g (stn k g a o s)
section AR
variable {h : aH} {i : Nat} {K S G C : List Nat} {c t j d : Nat} {Q : Option Value → aH → Prop}
theorem lp_sb (hi : lI h i) (hC : C.length = 5) (hC3 : ∀ s ∈ C, s < 3) {k p n : Nat} (hk : k < 6) (hp : p < 5) (hn : n < 1000) : ∀ r a o s, a + r = n → o < 3 → s < 3 → Ev (d + 2) m_X0_standsBehind 9 [some (.ref i), some (.int (nI k)), some (.int (nI p)), some (.int (nI n)), some (.int (nI s)), some (.int (nI o)), some (.int (nI a))] [] (lh h i K S G C c t j) (rt (.int (nI (sbh k (C.getD p 0) (ahd C p) r o s))) (lh h i K S G C c t j)) := by
  have hg : C.getD p 0 < 3 := gd3 hC3 (by omega)
  have ha3 : ahd C p < 3 := by
    unfold ahd
    split
    · decide
    · exact gd3 hC3 (by omega)
  intro r
  induction r with
  | zero =>
    intro a o s ha ho hs
    iterate 3 refine ev_nx rfl ?_
    refine ev_ge (fun _ => ?_) (fun h => absurd h (by omega))
    refine ev_nx rfl ?_
    exact ev_ri rfl rfl rfl ⟨rfl, rfl⟩
  | succ r ih =>
    intro a o s ha ho hs
    rw [sbh]
    iterate 3 refine ev_nx rfl ?_
    refine ev_ge (fun h => absurd h (by omega)) (fun _ => ?_)
    iterate 2 refine ev_nx rfl ?_
    refine ev_lf hi rfl rfl rfl rfl ?_
    refine ev_nx rfl ?_
    refine ev_ia rfl (am_arr_h (by have := hi.1; have := hi.2; omega) (lh_4 hi.1)) (mg (by omega)) ?_
    iterate 2 refine ev_nx rfl ?_
    refine ev_vi rfl rfl rfl rfl rfl rfl (lh_0 hi.1) rfl (ec_le (Nat.zero_le (d + 1)) (e_aheadOf hi hC hp)) ?_ (by have := hi.1; have := hi.2; omega)
    iterate 2 refine ev_nx rfl ?_
    refine ev_ci rfl rfl (ec_le (show 1 ≤ d + 1 by omega) (e_standing k (C.getD p 0) (ahd C p) o s hk hg ha3 ho hs _)) ?_
    iterate 2 refine ev_nx rfl ?_
    refine ev_lf hi rfl rfl rfl rfl ?_
    refine ev_nx rfl ?_
    refine ev_ia rfl (am_arr_h (by have := hi.1; have := hi.2; omega) (lh_4 hi.1)) (mg (by omega)) ?_
    iterate 3 refine ev_nx rfl ?_
    rw [nI_add]
    exact ih (a + 1) (C.getD p 0) (stn k (C.getD p 0) (ahd C p) o s) (by omega) hg (stn_lt hg ha3 ho hs)
theorem e_standsBehind (hi : lI h i) (hC : C.length = 5) (hC3 : ∀ s ∈ C, s < 3) {k p n : Nat} (hk : k < 6) (hp : p < 5) (hn : n < 1000) : Ec (d + 2) m_X0_standsBehind [.ref i, .int (nI k), .int (nI p), .int (nI n)] (lh h i K S G C c t j) (rt (.int (nI (sbh k (C.getD p 0) (ahd C p) n 0 0))) (lh h i K S G C c t j)) := by
  refine ec_in [some (.ref i), some (.int (nI k)), some (.int (nI p)), some (.int (nI n)), none, none, none] rfl rfl ?_
  iterate 6 refine ev_nx rfl ?_
  exact lp_sb hi hC hC3 hk hp hn n 0 0 0 (by omega) (by decide) (by decide)
theorem lh_set {q : Nat} {x : aC} (hi : i + 4 < h.length) (hq : q < i ∨ i + 4 < q) : (lh h i K S G C c t j).set q x = lh (h.set q x) i K S G C c t j :=
  lh_ext (by rw [List.length_set]; exact hi) (by rw [List.length_set, List.length_set, lh_len]) (by rw [gset_n (by omega)]; exact lh_0 hi) (by rw [gset_n (by omega)]; exact lh_1 hi) (by rw [gset_n (by omega)]; exact lh_2 hi) (by rw [gset_n (by omega)]; exact lh_3 hi) (by rw [gset_n (by omega)]; exact lh_4 hi) (fun k hk => by rw [List.getElem?_set, List.getElem?_set, lh_len, lh_o hk])
end AR
