/-! a line as facts of its cells; copyFrom -/
def lat (g : aH) (o : Nat) (K S G C : List Nat) (c t j : Nat) : Prop := g[o]? = some (lo o c t j) ∧ g[o + 1]? = some (ar K) ∧ g[o + 2]? = some (ar S) ∧ g[o + 3]? = some (ar G) ∧ g[o + 4]? = some (ar C)
section LF
variable {g : aH} {i o : Nat} {K S G C K2 S2 G2 C2 : List Nat} {c t j c2 t2 j2 : Nat} {d : Nat} {Q : Option Value → aH → Prop}
theorem lat_lt (h : lat g o K S G C c t j) : o + 4 < g.length := (List.getElem?_eq_some_iff.mp h.2.2.2.2).1
theorem lat_self (h : lat g o K S G C c t j) : lh g o K S G C c t j = g := (lh_ext (lat_lt h) rfl h.1 h.2.1 h.2.2.1 h.2.2.2.1 h.2.2.2.2 (fun _ _ => rfl)).symm
theorem lat_of (hi : i + 4 < g.length) : lat (lh g i K S G C c t j) i K S G C c t j := ⟨lh_0 hi, lh_1 hi, lh_2 hi, lh_3 hi, lh_4 hi⟩
theorem lat_o (h : lat g o K2 S2 G2 C2 c2 t2 j2) (hd : o + 4 < i ∨ i + 4 < o) : lat (lh g i K S G C c t j) o K2 S2 G2 C2 c2 t2 j2 :=
  ⟨by rw [lh_o (by omega)]; exact h.1, by rw [lh_o (by omega)]; exact h.2.1, by rw [lh_o (by omega)]; exact h.2.2.1, by rw [lh_o (by omega)]; exact h.2.2.2.1, by rw [lh_o (by omega)]; exact h.2.2.2.2⟩
theorem lh_lh {K' S' G' C' : List Nat} {c' t' j' : Nat} (hi : i + 4 < g.length) : lh (lh g i K S G C c t j) i K' S' G' C' c' t' j' = lh g i K' S' G' C' c' t' j' :=
  lh_ext hi (by rw [lh_len, lh_len]) (lh_0 (by rw [lh_len]; exact hi)) (lh_1 (by rw [lh_len]; exact hi)) (lh_2 (by rw [lh_len]; exact hi)) (lh_3 (by rw [lh_len]; exact hi)) (lh_4 (by rw [lh_len]; exact hi)) (fun k hk => by rw [lh_o hk, lh_o hk])
theorem it_copy (hi : lI g i) (ho : o + 4 < 100000) (hd : o + 4 < i ∨ i + 4 < o) (hO : lat g o K2 S2 G2 C2 c2 t2 j2) (hK : K.length = 5) (hS : S.length = 5) (hG : G.length = 5) (hK2 : K2.length = 5) (hS2 : S2.length = 5) (hG2 : G2.length = 5) {p : Nat} (hp : p < 5) (k : Ev d m_X3_copyFrom 2 [some (.ref i), some (.ref o), some (.int (nI (p + 1)))] [] (lh g i (K.set p (K2.getD p 0)) (S.set p (S2.getD p 0)) (G.set p (G2.getD p 0)) C c t j) Q) : Ev d m_X3_copyFrom 2 [some (.ref i), some (.ref o), some (.int (nI p))] [] (lh g i K S G C c t j) Q := by
  iterate 3 refine ev_nx rfl ?_
  refine ev_ge (fun h => absurd h (by omega)) (fun _ => ?_)
  refine ev_nx rfl ?_
  refine ev_lf hi rfl rfl rfl rfl ?_
  iterate 2 refine ev_nx rfl ?_
  refine ev_gf rfl rfl (lat_o hO hd).1 rfl ?_
  refine ev_nx rfl ?_
  refine ev_ia rfl (am_arr_h (by omega) (lat_o hO hd).2.1) (mg (by omega)) ?_
  refine ev_sK hi rfl (by omega) ?_
  refine ev_nx rfl ?_
  refine ev_lf hi rfl rfl rfl rfl ?_
  iterate 2 refine ev_nx rfl ?_
  refine ev_gf rfl rfl (lat_o hO hd).1 rfl ?_
  refine ev_nx rfl ?_
  refine ev_ia rfl (am_arr_h (by omega) (lat_o hO hd).2.2.1) (mg (by omega)) ?_
  refine ev_sS hi rfl (by omega) ?_
  refine ev_nx rfl ?_
  refine ev_lf hi rfl rfl rfl rfl ?_
  iterate 2 refine ev_nx rfl ?_
  refine ev_gf rfl rfl (lat_o hO hd).1 rfl ?_
  refine ev_nx rfl ?_
  refine ev_ia rfl (am_arr_h (by omega) (lat_o hO hd).2.2.2.1) (mg (by omega)) ?_
  refine ev_sG hi rfl (by omega) ?_
  iterate 2 refine ev_nx rfl ?_
  rw [nI_add]
  exact k
theorem e_copyFrom (hi : lI g i) (hd : o + 4 < i ∨ i + 4 < o) (hO : lat g o K2 S2 G2 C2 c2 t2 j2) (hK : K.length = 5) (hS : S.length = 5) (hG : G.length = 5) (hK2 : K2.length = 5) (hS2 : S2.length = 5) (hG2 : G2.length = 5) : Ec d m_X3_copyFrom [.ref i, .ref o] (lh g i K S G C c t j) (rtv (lh g i K2 S2 G2 C c2 t2 j2)) := by
  have ho2 := lat_lt hO
  have hg := hi.2
  have ho : o + 4 < 100000 := by omega
  obtain ⟨k0, k1, k2, k3, k4, rfl⟩ := l5 hK
  obtain ⟨s0, s1, s2, s3, s4, rfl⟩ := l5 hS
  obtain ⟨g0, g1, g2, g3, g4, rfl⟩ := l5 hG
  obtain ⟨k20, k21, k22, k23, k24, rfl⟩ := l5 hK2
  obtain ⟨s20, s21, s22, s23, s24, rfl⟩ := l5 hS2
  obtain ⟨g20, g21, g22, g23, g24, rfl⟩ := l5 hG2
  refine ec_in [some (.ref i), some (.ref o), none] rfl rfl ?_
  iterate 2 refine ev_nx rfl ?_
  refine it_copy hi ho hd hO rfl rfl rfl rfl rfl rfl (p := 0) (by decide) ?_
  refine it_copy hi ho hd hO rfl rfl rfl rfl rfl rfl (p := 1) (by decide) ?_
  refine it_copy hi ho hd hO rfl rfl rfl rfl rfl rfl (p := 2) (by decide) ?_
  refine it_copy hi ho hd hO rfl rfl rfl rfl rfl rfl (p := 3) (by decide) ?_
  refine it_copy hi ho hd hO rfl rfl rfl rfl rfl rfl (p := 4) (by decide) ?_
  iterate 3 refine ev_nx rfl ?_
  refine ev_ge (fun _ => ?_) (fun h => absurd h (by decide))
  iterate 2 refine ev_nx rfl ?_
  refine ev_gf rfl rfl (lat_o hO hd).1 rfl ?_
  refine ev_lp (c' := c2) (t' := t) (j' := j) hi rfl rfl (by decide) (by decide) rfl ?_
  iterate 2 refine ev_nx rfl ?_
  refine ev_gf rfl rfl (lat_o hO hd).1 rfl ?_
  refine ev_lp (c' := c2) (t' := t2) (j' := j) hi rfl rfl (by decide) (by decide) rfl ?_
  iterate 2 refine ev_nx rfl ?_
  refine ev_gf rfl rfl (lat_o hO hd).1 rfl ?_
  refine ev_lp (c' := c2) (t' := t2) (j' := j2) hi rfl rfl (by decide) (by decide) rfl ?_
  exact ev_rt rfl ⟨rfl, rfl⟩
end LF
