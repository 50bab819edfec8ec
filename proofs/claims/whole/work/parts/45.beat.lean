/-! the reference: what is carried is the class's; stands, beat, readOf -/
section XC
variable {d : Nat} {h : aH} {Q : Option Value → aH → Prop} {z : aZ} {y : aY} {st nw be ge re rk br pt_ : List Nat} {wo : List Int32} {K S G C : List Nat} {c t j : Nat}
theorem e5 {a0 a1 a2 a3 a4 c0 c1 c2 c3 c4 : Nat} (h0 : a0 = c0) (h1 : a1 = c1) (h2 : a2 = c2) (h3 : a3 = c3) (h4 : a4 = c4) : [a0, a1, a2, a3, a4] = [c0, c1, c2, c3, c4] := by subst h0 h1 h2 h3 h4; rfl
theorem vI {a b : Nat} (e : a = b) : some (Value.int (nI a)) = some (Value.int (nI b)) := by rw [e]
theorem sg1 {c p b : Nat} (hb : b < 3 ∧ (¬ bt c p = 0 → b = 0)) : (if bt c p = 0 then maj ((if b = 1 then 1 else 0) + 0) ((if b = 2 then 1 else 0) + 0) else 0) = b := by
  unfold maj; (repeat' split) <;> omega
theorem mgr_g {b0 b1 b2 b3 b4 g0 g1 g2 g3 g4 : Nat} (h0 : b0 < 3 ∧ (¬ bt c 0 = 0 → b0 = 0)) (h1 : b1 < 3 ∧ (¬ bt c 1 = 0 → b1 = 0)) (h2 : b2 < 3 ∧ (¬ bt c 2 = 0 → b2 = 0)) (h3 : b3 < 3 ∧ (¬ bt c 3 = 0 → b3 = 0)) (h4 : b4 < 3 ∧ (¬ bt c 4 = 0 → b4 = 0)) (hj : j < 16) : mgr c j [b0, b1, b2, b3, b4] 5 0 [g0, g1, g2, g3, g4] = cst c j (cst c j (cst c j (cst c j [b0, b1, b2, b3, b4] 0) 1) 2) 3 := by
  rcases (show j = 0 ∨ j = 1 ∨ j = 2 ∨ j = 3 ∨ j = 4 ∨ j = 5 ∨ j = 6 ∨ j = 7 ∨ j = 8 ∨ j = 9 ∨ j = 10 ∨ j = 11 ∨ j = 12 ∨ j = 13 ∨ j = 14 ∨ j = 15 by omega) with rfl | rfl | rfl | rfl | rfl | rfl | rfl | rfl | rfl | rfl | rfl | rfl | rfl | rfl | rfl | rfl <;>
  exact e5 (by first | exact sg1 h0 | rfl) (by first | exact sg1 h1 | rfl) (by first | exact sg1 h2 | rfl) (by first | exact sg1 h3 | rfl) (by first | exact sg1 h4 | rfl)
theorem bcu_ok {s p : Nat} (hs : s < 31) (hp : p < 5) : bcu c t (pt s p) p < 3 ∧ (¬ bt c p = 0 → bcu c t (pt s p) p = 0) := by
  refine ⟨bcu_lt (pt_lt hs hp), fun h => ?_⟩
  have := bt_lt c p
  unfold bcu
  rw [if_pos (by omega)]
theorem mgr_cry {s : Nat} (hs : s < 31) (hj : j < 16) (hge : ge.length = 5) : mgr c j (crb s c t) 5 0 ge = cry s c t j := by
  obtain ⟨g0, g1, g2, g3, g4, rfl⟩ := l5 hge
  exact mgr_g (bcu_ok hs (by decide)) (bcu_ok hs (by decide)) (bcu_ok hs (by decide)) (bcu_ok hs (by decide)) (bcu_ok hs (by decide)) hj
theorem f_carries5 (ok : lok K S G c t j) (hbe : be.length = 5) (hge : ge.length = 5) {s : Nat} (hs : s < 31) : Ec (d + 1) m_X9_carries [.ref 0, .ref 5, .int (nI s)] (XM z y (ll K S G c t j) nw be ge re rk br pt_ wo) (rtv (XM z y (ll K S G c t j) nw (crb s c t) (cry s c t j) re rk br pt_ wo)) := by
  have := f_carriesR5 (d := d) (z := z) (y := y) (nw := nw) (re := re) (rk := rk) (br := br) (pt_ := pt_) (wo := wo) ok hbe hge hs
  rw [mgr_cry hs ok.2.2.2.2.2 hge] at this
  exact this
theorem f_stiff5 (ok : lok K S G c t j) (hC : C.length = 5) (hC3 : ∀ s ∈ C, s < 3) {p : Nat} (hp : p < 5) : Ec d m_X9_stiff [.ref 0, .ref 5, .int (nI p)] (XM z y (ll K S G c t j) nw be C re rk br pt_ wo) (rt (.int (nI (stf (C.getD p 0) (G.getD p 0)))) (XM z y (ll K S G c t j) nw be C re rk br pt_ wo)) := by
  refine ec_in [some (.ref 0), some (.ref 5), some (.int (nI p))] rfl rfl ?_
  have hl := ll_len ok
  have h1 : C.getD p 0 < 3 := gd3 hC3 (by omega)
  have h2 : G.getD p 0 < 3 := gd3 ok.2.2.1.2 (by have := ok.2.2.1.1; omega)
  iterate 3 refine ev_nx rfl ?_
  refine ev_lN rfl rfl (by first | omega | (simp only [List.length_set, List.length_replicate]; omega)) ?_
  iterate 3 refine ev_nx rfl ?_
  refine ev_add rfl ?_
  refine ev_lN rfl rfl (by omega) ?_
  rw [ll_G ok p hp]
  refine ev_nx rfl ?_
  refine ev_ne (fun b12 => ?_) (fun b12 => ?_)
  · refine ev_nx rfl ?_
    exact ev_ri rfl rfl rfl ⟨by rw [stf]; first | rw [if_neg b12] | rw [if_pos b12], rfl⟩
  · iterate 3 refine ev_nx rfl ?_
    refine ev_lN rfl rfl (by first | omega | (simp only [List.length_set, List.length_replicate]; omega)) ?_
    refine ev_nx rfl ?_
    exact ev_ri rfl rfl rfl ⟨by rw [stf]; first | rw [if_neg b12] | rw [if_pos b12], rfl⟩
theorem f_stands5 (ok : lok K S G c t j) (hC : C.length = 5) (hC3 : ∀ s ∈ C, s < 3) {p : Nat} (hp : p < 5) : Ec (d + 1) m_X9_stands [.ref 0, .ref 5, .int (nI p)] (XM z y (ll K S G c t j) nw be C re rk br pt_ wo) (rt (.int (nI (sb K C S G p))) (XM z y (ll K S G c t j) nw be C re rk br pt_ wo)) := by
  refine ec_in [some (.ref 0), some (.ref 5), some (.int (nI p)), none] rfl rfl ?_
  have hl := ll_len ok
  have h1 : C.getD p 0 < 3 := gd3 hC3 (by omega)
  have h2 : G.getD p 0 < 3 := gd3 ok.2.2.1.2 (by have := ok.2.2.1.1; omega)
  have h3 : K.getD p 0 < 6 := gd3 ok.1.2 (by have := ok.1.1; omega)
  have h4 : stf (C.getD p 0) (G.getD p 0) < 3 := stf_lt h1
  unfold sb
  iterate 3 refine ev_nx rfl ?_
  refine ev_lN rfl rfl (by first | omega | (simp only [List.length_set, List.length_replicate]; omega)) ?_
  iterate 4 refine ev_nx rfl ?_
  refine ev_add rfl ?_
  refine ev_lN rfl rfl (by omega) ?_
  rw [ll_K ok p hp]
  skip
  rcases (show K.getD p 0 = 0 ∨ K.getD p 0 = 1 ∨ K.getD p 0 = 2 ∨ K.getD p 0 = 3 ∨ K.getD p 0 = 4 ∨ K.getD p 0 = 5 by omega) with e | e | e | e | e | e <;> rw [e]
  · refine ev_nx (pc' := 116) rfl ?_
    refine ev_nx rfl ?_
    exact ev_ri rfl rfl rfl ⟨rfl, rfl⟩
  · refine ev_nx (pc' := 48) rfl ?_
    iterate 3 refine ev_nx rfl ?_
    refine ev_vi rfl rfl rfl rfl rfl rfl rfl rfl (f_stiff5 ok hC hC3 hp) ?_
    exact ev_ri rfl rfl rfl ⟨rfl, rfl⟩
  · refine ev_nx (pc' := 55) rfl ?_
    iterate 2 refine ev_nx rfl ?_
    refine ev_ne0 (fun b56 => ?_) (fun b56 => ?_)
    · refine ev_nx rfl ?_
      exact ev_ri rfl rfl rfl ⟨by simp only [stn]; first | rw [if_neg b56] | rw [if_pos b56], rfl⟩
    · iterate 3 refine ev_nx rfl ?_
      refine ev_add rfl ?_
      refine ev_lN rfl rfl (by omega) ?_
      rw [ll_G ok p hp]
      refine ev_nx rfl ?_
      exact ev_ri rfl rfl rfl ⟨by simp only [stn]; first | rw [if_neg b56] | rw [if_pos b56], rfl⟩
  · refine ev_nx (pc' := 70) rfl ?_
    iterate 2 refine ev_nx rfl ?_
    refine ev_ne0 (fun b71 => ?_) (fun b71 => ?_)
    · iterate 2 refine ev_nx rfl ?_
      exact ev_ri rfl rfl rfl ⟨vI (by simp only [stn, ahd]; (repeat' split) <;> omega), rfl⟩
    · iterate 2 refine ev_nx rfl ?_
      refine ev_ne0 (fun b75 => ?_) (fun b75 => ?_)
      · iterate 4 refine ev_nx rfl ?_
        refine ev_sub rfl (by omega) ?_
        refine ev_lN rfl rfl (by first | omega | (simp only [List.length_set, List.length_replicate]; omega)) ?_
        exact ev_ri rfl rfl rfl ⟨vI (by simp only [stn, ahd]; (repeat' split) <;> omega), rfl⟩
      · iterate 2 refine ev_nx rfl ?_
        exact ev_ri rfl rfl rfl ⟨vI (by simp only [stn, ahd]; (repeat' split) <;> omega), rfl⟩
  · refine ev_nx (pc' := 91) rfl ?_
    iterate 3 refine ev_nx rfl ?_
    refine ev_vi rfl rfl rfl rfl rfl rfl rfl rfl (f_stiff5 ok hC hC3 hp) ?_
    refine ev_ci rfl rfl (f_other _ (by omega) _) ?_
    exact ev_ri rfl rfl rfl ⟨rfl, rfl⟩
  · refine ev_nx (pc' := 101) rfl ?_
    iterate 2 refine ev_nx rfl ?_
    refine ev_ne0 (fun b102 => ?_) (fun b102 => ?_)
    · refine ev_nx rfl ?_
      exact ev_ri rfl rfl rfl ⟨by simp only [stn]; first | rw [if_neg b102] | rw [if_pos b102], rfl⟩
    · iterate 3 refine ev_nx rfl ?_
      refine ev_add rfl ?_
      refine ev_lN rfl rfl (by omega) ?_
      rw [ll_S ok p hp]
      refine ev_nx rfl ?_
      exact ev_ri rfl rfl rfl ⟨by simp only [stn]; first | rw [if_neg b102] | rw [if_pos b102], rfl⟩
theorem it_bS5 (ok : lok K S G c t j) (hC : C.length = 5) (hC3 : ∀ s ∈ C, s < 3) {s p : Nat} (hp : p < 5) (k : lok K (S.set p (sb K C S G p)) G c t j → Ev (d + 2) m_X9_beat 8 [some (.ref 0), some (.ref 5), some (.int (nI s)), some (.int (nI (p + 1)))] [] (XM z y (ll K (S.set p (sb K C S G p)) G c t j) nw be C re rk br pt_ wo) Q) : Ev (d + 2) m_X9_beat 8 [some (.ref 0), some (.ref 5), some (.int (nI s)), some (.int (nI p))] [] (XM z y (ll K S G c t j) nw be C re rk br pt_ wo) Q := by
  have hl := ll_len ok
  have ok2 : lok K (S.set p (sb K C S G p)) G c t j := ⟨ok.1, ⟨by rw [List.length_set]; exact ok.2.1.1, l_set_lt ok.2.1.2 (sb_lt hC hC3 ok.2.1.1 ok.2.1.2 ok.2.2.1.1 ok.2.2.1.2 hp)⟩, ok.2.2⟩
  iterate 3 refine ev_nx rfl ?_
  refine ev_ge (fun b10 => absurd b10 (by omega)) (fun b10 => ?_)
  iterate 3 refine ev_nx rfl ?_
  refine ev_add rfl ?_
  iterate 3 refine ev_nx rfl ?_
  refine ev_vi rfl rfl rfl rfl rfl rfl rfl rfl (f_stands5 ok hC hC3 hp) ?_
  refine ev_sN rfl rfl (by omega) ?_
  rw [ll_sS ok.1.1 ok.2.1.1 p _ hp]
  refine ev_inc rfl ⟨rfl, by decide⟩ rfl rfl ?_
  refine ev_nx rfl ?_
  exact k ok2
theorem it_bG5 (ok : lok K S G c t j) (hC : C.length = 5) (hC3 : ∀ s ∈ C, s < 3) {s p : Nat} (hp : p < 5) (k : lok K S (G.set p (C.getD p 0)) c t j → Ev (d + 2) m_X9_beat 33 [some (.ref 0), some (.ref 5), some (.int (nI s)), some (.int (nI (p + 1)))] [] (XM z y (ll K S (G.set p (C.getD p 0)) c t j) nw be C re rk br pt_ wo) Q) : Ev (d + 2) m_X9_beat 33 [some (.ref 0), some (.ref 5), some (.int (nI s)), some (.int (nI p))] [] (XM z y (ll K S G c t j) nw be C re rk br pt_ wo) Q := by
  have hl := ll_len ok
  have ok2 : lok K S (G.set p (C.getD p 0)) c t j := ⟨ok.1, ok.2.1, ⟨by rw [List.length_set]; exact ok.2.2.1.1, l_set_lt ok.2.2.1.2 (gd3 hC3 (by omega))⟩, ok.2.2.2⟩
  iterate 3 refine ev_nx rfl ?_
  refine ev_ge (fun b35 => absurd b35 (by omega)) (fun b35 => ?_)
  iterate 3 refine ev_nx rfl ?_
  refine ev_add rfl ?_
  iterate 3 refine ev_nx rfl ?_
  refine ev_lN rfl rfl (by omega) ?_
  refine ev_sN rfl rfl (by omega) ?_
  rw [ll_sG ok.1.1 ok.2.1.1 ok.2.2.1.1 p _ hp]
  refine ev_inc rfl ⟨rfl, by decide⟩ rfl rfl ?_
  refine ev_nx rfl ?_
  exact k ok2
theorem f_beat5 (ok : lok K S G c t j) (hbe : be.length = 5) (hge : ge.length = 5) {s : Nat} (hs : s < 31) : Ec (d + 2) m_X9_beat [.ref 0, .ref 5, .int (nI s)] (XM z y (ll K S G c t j) nw be ge re rk br pt_ wo) (rtv (XM z y (ll K (bst K (cry s c t j) S G) (cry s c t j) c t j) nw (crb s c t) (cry s c t j) re rk br pt_ wo)) := by
  refine ec_in [some (.ref 0), some (.ref 5), some (.int (nI s)), none] rfl rfl ?_
  iterate 3 refine ev_nx rfl ?_
  refine ev_vv rfl rfl rfl rfl rfl rfl rfl rfl (f_carries5 ok hbe hge hs) ?_
  iterate 2 refine ev_nx rfl ?_
  skip
  have hC := cry_len (s := s) (c := c) (t := t) (j := j)
  have hC3 := cry_lt (c := c) (t := t) (j := j) hs
  generalize cry s c t j = C at hC hC3 ⊢
  obtain ⟨s0, s1, s2, s3, s4, rfl⟩ := l5 ok.2.1.1
  obtain ⟨g0, g1, g2, g3, g4, rfl⟩ := l5 ok.2.2.1.1
  obtain ⟨x0, x1, x2, x3, x4, rfl⟩ := l5 hC
  refine it_bS5 (p := 0) ok rfl hC3 (by omega) (fun ok => ?_)
  refine it_bS5 (p := 1) ok rfl hC3 (by omega) (fun ok => ?_)
  refine it_bS5 (p := 2) ok rfl hC3 (by omega) (fun ok => ?_)
  refine it_bS5 (p := 3) ok rfl hC3 (by omega) (fun ok => ?_)
  refine it_bS5 (p := 4) ok rfl hC3 (by omega) (fun ok => ?_)
  iterate 3 refine ev_nx rfl ?_
  refine ev_ge (fun b10 => ?_) (fun b10 => absurd b10 (by omega))
  iterate 2 refine ev_nx rfl ?_
  skip
  refine it_bG5 (p := 0) ok rfl hC3 (by omega) (fun ok => ?_)
  refine it_bG5 (p := 1) ok rfl hC3 (by omega) (fun ok => ?_)
  refine it_bG5 (p := 2) ok rfl hC3 (by omega) (fun ok => ?_)
  refine it_bG5 (p := 3) ok rfl hC3 (by omega) (fun ok => ?_)
  refine it_bG5 (p := 4) ok rfl hC3 (by omega) (fun ok => ?_)
  iterate 3 refine ev_nx rfl ?_
  refine ev_ge (fun b35 => ?_) (fun b35 => absurd b35 (by omega))
  exact ev_rt rfl ⟨rfl, rfl⟩
theorem f_carries6 (ok : lok K S G c t j) (hbe : be.length = 5) (hge : ge.length = 5) {s : Nat} (hs : s < 31) : Ec (d + 1) m_X9_carries [.ref 0, .ref 6, .int (nI s)] (XM z y st (ll K S G c t j) be ge re rk br pt_ wo) (rtv (XM z y st (ll K S G c t j) (crb s c t) (cry s c t j) re rk br pt_ wo)) := by
  have := f_carriesR6 (d := d) (z := z) (y := y) (st := st) (re := re) (rk := rk) (br := br) (pt_ := pt_) (wo := wo) ok hbe hge hs
  rw [mgr_cry hs ok.2.2.2.2.2 hge] at this
  exact this
theorem f_stiff6 (ok : lok K S G c t j) (hC : C.length = 5) (hC3 : ∀ s ∈ C, s < 3) {p : Nat} (hp : p < 5) : Ec d m_X9_stiff [.ref 0, .ref 6, .int (nI p)] (XM z y st (ll K S G c t j) be C re rk br pt_ wo) (rt (.int (nI (stf (C.getD p 0) (G.getD p 0)))) (XM z y st (ll K S G c t j) be C re rk br pt_ wo)) := by
  refine ec_in [some (.ref 0), some (.ref 6), some (.int (nI p))] rfl rfl ?_
  have hl := ll_len ok
  have h1 : C.getD p 0 < 3 := gd3 hC3 (by omega)
  have h2 : G.getD p 0 < 3 := gd3 ok.2.2.1.2 (by have := ok.2.2.1.1; omega)
  iterate 3 refine ev_nx rfl ?_
  refine ev_lN rfl rfl (by first | omega | (simp only [List.length_set, List.length_replicate]; omega)) ?_
  iterate 3 refine ev_nx rfl ?_
  refine ev_add rfl ?_
  refine ev_lN rfl rfl (by omega) ?_
  rw [ll_G ok p hp]
  refine ev_nx rfl ?_
  refine ev_ne (fun b12 => ?_) (fun b12 => ?_)
  · refine ev_nx rfl ?_
    exact ev_ri rfl rfl rfl ⟨by rw [stf]; first | rw [if_neg b12] | rw [if_pos b12], rfl⟩
  · iterate 3 refine ev_nx rfl ?_
    refine ev_lN rfl rfl (by first | omega | (simp only [List.length_set, List.length_replicate]; omega)) ?_
    refine ev_nx rfl ?_
    exact ev_ri rfl rfl rfl ⟨by rw [stf]; first | rw [if_neg b12] | rw [if_pos b12], rfl⟩
theorem f_stands6 (ok : lok K S G c t j) (hC : C.length = 5) (hC3 : ∀ s ∈ C, s < 3) {p : Nat} (hp : p < 5) : Ec (d + 1) m_X9_stands [.ref 0, .ref 6, .int (nI p)] (XM z y st (ll K S G c t j) be C re rk br pt_ wo) (rt (.int (nI (sb K C S G p))) (XM z y st (ll K S G c t j) be C re rk br pt_ wo)) := by
  refine ec_in [some (.ref 0), some (.ref 6), some (.int (nI p)), none] rfl rfl ?_
  have hl := ll_len ok
  have h1 : C.getD p 0 < 3 := gd3 hC3 (by omega)
  have h2 : G.getD p 0 < 3 := gd3 ok.2.2.1.2 (by have := ok.2.2.1.1; omega)
  have h3 : K.getD p 0 < 6 := gd3 ok.1.2 (by have := ok.1.1; omega)
  have h4 : stf (C.getD p 0) (G.getD p 0) < 3 := stf_lt h1
  unfold sb
  iterate 3 refine ev_nx rfl ?_
  refine ev_lN rfl rfl (by first | omega | (simp only [List.length_set, List.length_replicate]; omega)) ?_
  iterate 4 refine ev_nx rfl ?_
  refine ev_add rfl ?_
  refine ev_lN rfl rfl (by omega) ?_
  rw [ll_K ok p hp]
  skip
  rcases (show K.getD p 0 = 0 ∨ K.getD p 0 = 1 ∨ K.getD p 0 = 2 ∨ K.getD p 0 = 3 ∨ K.getD p 0 = 4 ∨ K.getD p 0 = 5 by omega) with e | e | e | e | e | e <;> rw [e]
  · refine ev_nx (pc' := 116) rfl ?_
    refine ev_nx rfl ?_
    exact ev_ri rfl rfl rfl ⟨rfl, rfl⟩
  · refine ev_nx (pc' := 48) rfl ?_
    iterate 3 refine ev_nx rfl ?_
    refine ev_vi rfl rfl rfl rfl rfl rfl rfl rfl (f_stiff6 ok hC hC3 hp) ?_
    exact ev_ri rfl rfl rfl ⟨rfl, rfl⟩
  · refine ev_nx (pc' := 55) rfl ?_
    iterate 2 refine ev_nx rfl ?_
    refine ev_ne0 (fun b56 => ?_) (fun b56 => ?_)
    · refine ev_nx rfl ?_
      exact ev_ri rfl rfl rfl ⟨by simp only [stn]; first | rw [if_neg b56] | rw [if_pos b56], rfl⟩
    · iterate 3 refine ev_nx rfl ?_
      refine ev_add rfl ?_
      refine ev_lN rfl rfl (by omega) ?_
      rw [ll_G ok p hp]
      refine ev_nx rfl ?_
      exact ev_ri rfl rfl rfl ⟨by simp only [stn]; first | rw [if_neg b56] | rw [if_pos b56], rfl⟩
  · refine ev_nx (pc' := 70) rfl ?_
    iterate 2 refine ev_nx rfl ?_
    refine ev_ne0 (fun b71 => ?_) (fun b71 => ?_)
    · iterate 2 refine ev_nx rfl ?_
      exact ev_ri rfl rfl rfl ⟨vI (by simp only [stn, ahd]; (repeat' split) <;> omega), rfl⟩
    · iterate 2 refine ev_nx rfl ?_
      refine ev_ne0 (fun b75 => ?_) (fun b75 => ?_)
      · iterate 4 refine ev_nx rfl ?_
        refine ev_sub rfl (by omega) ?_
        refine ev_lN rfl rfl (by first | omega | (simp only [List.length_set, List.length_replicate]; omega)) ?_
        exact ev_ri rfl rfl rfl ⟨vI (by simp only [stn, ahd]; (repeat' split) <;> omega), rfl⟩
      · iterate 2 refine ev_nx rfl ?_
        exact ev_ri rfl rfl rfl ⟨vI (by simp only [stn, ahd]; (repeat' split) <;> omega), rfl⟩
  · refine ev_nx (pc' := 91) rfl ?_
    iterate 3 refine ev_nx rfl ?_
    refine ev_vi rfl rfl rfl rfl rfl rfl rfl rfl (f_stiff6 ok hC hC3 hp) ?_
    refine ev_ci rfl rfl (f_other _ (by omega) _) ?_
    exact ev_ri rfl rfl rfl ⟨rfl, rfl⟩
  · refine ev_nx (pc' := 101) rfl ?_
    iterate 2 refine ev_nx rfl ?_
    refine ev_ne0 (fun b102 => ?_) (fun b102 => ?_)
    · refine ev_nx rfl ?_
      exact ev_ri rfl rfl rfl ⟨by simp only [stn]; first | rw [if_neg b102] | rw [if_pos b102], rfl⟩
    · iterate 3 refine ev_nx rfl ?_
      refine ev_add rfl ?_
      refine ev_lN rfl rfl (by omega) ?_
      rw [ll_S ok p hp]
      refine ev_nx rfl ?_
      exact ev_ri rfl rfl rfl ⟨by simp only [stn]; first | rw [if_neg b102] | rw [if_pos b102], rfl⟩
theorem it_bS6 (ok : lok K S G c t j) (hC : C.length = 5) (hC3 : ∀ s ∈ C, s < 3) {s p : Nat} (hp : p < 5) (k : lok K (S.set p (sb K C S G p)) G c t j → Ev (d + 2) m_X9_beat 8 [some (.ref 0), some (.ref 6), some (.int (nI s)), some (.int (nI (p + 1)))] [] (XM z y st (ll K (S.set p (sb K C S G p)) G c t j) be C re rk br pt_ wo) Q) : Ev (d + 2) m_X9_beat 8 [some (.ref 0), some (.ref 6), some (.int (nI s)), some (.int (nI p))] [] (XM z y st (ll K S G c t j) be C re rk br pt_ wo) Q := by
  have hl := ll_len ok
  have ok2 : lok K (S.set p (sb K C S G p)) G c t j := ⟨ok.1, ⟨by rw [List.length_set]; exact ok.2.1.1, l_set_lt ok.2.1.2 (sb_lt hC hC3 ok.2.1.1 ok.2.1.2 ok.2.2.1.1 ok.2.2.1.2 hp)⟩, ok.2.2⟩
  iterate 3 refine ev_nx rfl ?_
  refine ev_ge (fun b10 => absurd b10 (by omega)) (fun b10 => ?_)
  iterate 3 refine ev_nx rfl ?_
  refine ev_add rfl ?_
  iterate 3 refine ev_nx rfl ?_
  refine ev_vi rfl rfl rfl rfl rfl rfl rfl rfl (f_stands6 ok hC hC3 hp) ?_
  refine ev_sN rfl rfl (by omega) ?_
  rw [ll_sS ok.1.1 ok.2.1.1 p _ hp]
  refine ev_inc rfl ⟨rfl, by decide⟩ rfl rfl ?_
  refine ev_nx rfl ?_
  exact k ok2
theorem it_bG6 (ok : lok K S G c t j) (hC : C.length = 5) (hC3 : ∀ s ∈ C, s < 3) {s p : Nat} (hp : p < 5) (k : lok K S (G.set p (C.getD p 0)) c t j → Ev (d + 2) m_X9_beat 33 [some (.ref 0), some (.ref 6), some (.int (nI s)), some (.int (nI (p + 1)))] [] (XM z y st (ll K S (G.set p (C.getD p 0)) c t j) be C re rk br pt_ wo) Q) : Ev (d + 2) m_X9_beat 33 [some (.ref 0), some (.ref 6), some (.int (nI s)), some (.int (nI p))] [] (XM z y st (ll K S G c t j) be C re rk br pt_ wo) Q := by
  have hl := ll_len ok
  have ok2 : lok K S (G.set p (C.getD p 0)) c t j := ⟨ok.1, ok.2.1, ⟨by rw [List.length_set]; exact ok.2.2.1.1, l_set_lt ok.2.2.1.2 (gd3 hC3 (by omega))⟩, ok.2.2.2⟩
  iterate 3 refine ev_nx rfl ?_
  refine ev_ge (fun b35 => absurd b35 (by omega)) (fun b35 => ?_)
  iterate 3 refine ev_nx rfl ?_
  refine ev_add rfl ?_
  iterate 3 refine ev_nx rfl ?_
  refine ev_lN rfl rfl (by omega) ?_
  refine ev_sN rfl rfl (by omega) ?_
  rw [ll_sG ok.1.1 ok.2.1.1 ok.2.2.1.1 p _ hp]
  refine ev_inc rfl ⟨rfl, by decide⟩ rfl rfl ?_
  refine ev_nx rfl ?_
  exact k ok2
theorem f_beat6 (ok : lok K S G c t j) (hbe : be.length = 5) (hge : ge.length = 5) {s : Nat} (hs : s < 31) : Ec (d + 2) m_X9_beat [.ref 0, .ref 6, .int (nI s)] (XM z y st (ll K S G c t j) be ge re rk br pt_ wo) (rtv (XM z y st (ll K (bst K (cry s c t j) S G) (cry s c t j) c t j) (crb s c t) (cry s c t j) re rk br pt_ wo)) := by
  refine ec_in [some (.ref 0), some (.ref 6), some (.int (nI s)), none] rfl rfl ?_
  iterate 3 refine ev_nx rfl ?_
  refine ev_vv rfl rfl rfl rfl rfl rfl rfl rfl (f_carries6 ok hbe hge hs) ?_
  iterate 2 refine ev_nx rfl ?_
  skip
  have hC := cry_len (s := s) (c := c) (t := t) (j := j)
  have hC3 := cry_lt (c := c) (t := t) (j := j) hs
  generalize cry s c t j = C at hC hC3 ⊢
  obtain ⟨s0, s1, s2, s3, s4, rfl⟩ := l5 ok.2.1.1
  obtain ⟨g0, g1, g2, g3, g4, rfl⟩ := l5 ok.2.2.1.1
  obtain ⟨x0, x1, x2, x3, x4, rfl⟩ := l5 hC
  refine it_bS6 (p := 0) ok rfl hC3 (by omega) (fun ok => ?_)
  refine it_bS6 (p := 1) ok rfl hC3 (by omega) (fun ok => ?_)
  refine it_bS6 (p := 2) ok rfl hC3 (by omega) (fun ok => ?_)
  refine it_bS6 (p := 3) ok rfl hC3 (by omega) (fun ok => ?_)
  refine it_bS6 (p := 4) ok rfl hC3 (by omega) (fun ok => ?_)
  iterate 3 refine ev_nx rfl ?_
  refine ev_ge (fun b10 => ?_) (fun b10 => absurd b10 (by omega))
  iterate 2 refine ev_nx rfl ?_
  skip
  refine it_bG6 (p := 0) ok rfl hC3 (by omega) (fun ok => ?_)
  refine it_bG6 (p := 1) ok rfl hC3 (by omega) (fun ok => ?_)
  refine it_bG6 (p := 2) ok rfl hC3 (by omega) (fun ok => ?_)
  refine it_bG6 (p := 3) ok rfl hC3 (by omega) (fun ok => ?_)
  refine it_bG6 (p := 4) ok rfl hC3 (by omega) (fun ok => ?_)
  iterate 3 refine ev_nx rfl ?_
  refine ev_ge (fun b35 => ?_) (fun b35 => absurd b35 (by omega))
  exact ev_rt rfl ⟨rfl, rfl⟩
end XC
