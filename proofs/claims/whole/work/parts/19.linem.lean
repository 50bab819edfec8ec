/-! the methods of a line -/
section LM
variable {h : aH} {i : Nat} {K S G C : List Nat} {c t j : Nat} {d : Nat} {Q : Option Value → aH → Prop}
theorem l5 {α : Type} {K : List α} (h : K.length = 5) : ∃ a b c d e, K = [a, b, c, d, e] := by
  match K, h with
  | [a, b, c, d, e], _ => exact ⟨a, b, c, d, e, rfl⟩
def ahd (C : List Nat) (p : Nat) : Nat := if p = 0 then 0 else C.getD (p - 1) 0
theorem e_aheadOf (hi : lI h i) (hC : C.length = 5) {p : Nat} (hp : p < 5) : Ec 0 m_X3_aheadOf [.ref i, .int (nI p)] (lh h i K S G C c t j) (rt (.int (nI (ahd C p))) (lh h i K S G C c t j)) := by
  refine ec_in [some (.ref i), some (.int (nI p))] rfl rfl ?_
  iterate 2 refine ev_nx rfl ?_
  refine ev_ne0 (fun hc => ?_) (fun hc => ?_)
  · refine ev_nx rfl ?_
    refine ev_lf hi rfl rfl rfl rfl ?_
    iterate 3 refine ev_nx rfl ?_
    rw [pk_sub (by omega)]
    refine ev_lC hi rfl (by omega) ?_
    exact ev_ri rfl rfl rfl ⟨by rw [ahd, if_neg hc], rfl⟩
  · iterate 2 refine ev_nx rfl ?_
    exact ev_ri rfl rfl rfl ⟨by rw [ahd, if_pos hc], rfl⟩
/-! rest -/
theorem it_rest (hi : lI h i) (hS : S.length = 5) (hG : G.length = 5) {p : Nat} (hp : p < 5) (k : Ev d m_X3_rest 2 [some (.ref i), some (.int (nI (p + 1)))] [] (lh h i K (S.set p 0) (G.set p 0) C c t j) Q) : Ev d m_X3_rest 2 [some (.ref i), some (.int (nI p))] [] (lh h i K S G C c t j) Q := by
  iterate 3 refine ev_nx rfl ?_
  refine ev_ge (fun h => absurd h (by omega)) (fun _ => ?_)
  refine ev_nx rfl ?_
  refine ev_lf hi rfl rfl rfl rfl ?_
  iterate 2 refine ev_nx rfl ?_
  first | refine ev_sK hi rfl (by omega) ?_ | refine ev_sS hi rfl (by omega) ?_ | refine ev_sG hi rfl (by omega) ?_ | refine ev_sC hi rfl (by omega) ?_
  refine ev_nx rfl ?_
  refine ev_lf hi rfl rfl rfl rfl ?_
  iterate 2 refine ev_nx rfl ?_
  first | refine ev_sK hi rfl (by omega) ?_ | refine ev_sS hi rfl (by omega) ?_ | refine ev_sG hi rfl (by omega) ?_ | refine ev_sC hi rfl (by omega) ?_
  iterate 2 refine ev_nx rfl ?_
  rw [nI_add]
  exact k
theorem e_rest (hi : lI h i) (hS : S.length = 5) (hG : G.length = 5) : Ec d m_X3_rest [.ref i] (lh h i K S G C c t j) (rtv (lh h i K [0, 0, 0, 0, 0] [0, 0, 0, 0, 0] C c t j)) := by
  obtain ⟨a0, a1, a2, a3, a4, rfl⟩ := l5 hS
  obtain ⟨b0, b1, b2, b3, b4, rfl⟩ := l5 hG
  refine ec_in [some (.ref i), none] rfl rfl ?_
  iterate 2 refine ev_nx rfl ?_
  refine it_rest hi rfl rfl (p := 0) (by decide) (it_rest hi rfl rfl (by decide) (it_rest hi rfl rfl (by decide) (it_rest hi rfl rfl (by decide) (it_rest hi rfl rfl (by decide) ?_))))
  iterate 3 refine ev_nx rfl ?_
  refine ev_ge (fun _ => ?_) (fun h => absurd h (by decide))
  exact ev_rt rfl ⟨rfl, rfl⟩
/-! makeWhole -/
theorem it_makeWhole (hi : lI h i) (hK : K.length = 5) {p : Nat} (hp : p < 5) (k : Ev d m_X3_makeWhole 2 [some (.ref i), some (.int (nI (p + 1)))] [] (lh h i (K.set p 0) S G C c t j) Q) : Ev d m_X3_makeWhole 2 [some (.ref i), some (.int (nI p))] [] (lh h i K S G C c t j) Q := by
  iterate 3 refine ev_nx rfl ?_
  refine ev_ge (fun h => absurd h (by omega)) (fun _ => ?_)
  refine ev_nx rfl ?_
  refine ev_lf hi rfl rfl rfl rfl ?_
  iterate 2 refine ev_nx rfl ?_
  first | refine ev_sK hi rfl (by omega) ?_ | refine ev_sS hi rfl (by omega) ?_ | refine ev_sG hi rfl (by omega) ?_ | refine ev_sC hi rfl (by omega) ?_
  iterate 2 refine ev_nx rfl ?_
  rw [nI_add]
  exact k
theorem e_makeWhole (hi : lI h i) (hK : K.length = 5) : Ec d m_X3_makeWhole [.ref i] (lh h i K S G C c t j) (rtv (lh h i [0, 0, 0, 0, 0] S G C 0 0 0)) := by
  obtain ⟨a0, a1, a2, a3, a4, rfl⟩ := l5 hK
  refine ec_in [some (.ref i), none] rfl rfl ?_
  iterate 2 refine ev_nx rfl ?_
  refine it_makeWhole hi rfl (p := 0) (by decide) (it_makeWhole hi rfl (by decide) (it_makeWhole hi rfl (by decide) (it_makeWhole hi rfl (by decide) (it_makeWhole hi rfl (by decide) ?_))))
  iterate 3 refine ev_nx rfl ?_
  refine ev_ge (fun _ => ?_) (fun h => absurd h (by decide))
  iterate 2 refine ev_nx rfl ?_
  refine ev_lp (c' := 0) (t' := t) (j' := j) hi rfl rfl (by decide) (by decide) rfl ?_
  iterate 2 refine ev_nx rfl ?_
  refine ev_lp (c' := 0) (t' := 0) (j' := j) hi rfl rfl (by decide) (by decide) rfl ?_
  iterate 2 refine ev_nx rfl ?_
  refine ev_lp (c' := 0) (t' := 0) (j' := 0) hi rfl rfl (by decide) (by decide) rfl ?_
  exact ev_rt rfl ⟨rfl, rfl⟩
/-! notUpright -/
def nu1 (s : Nat) : Nat := if s = 0 then 0 else 1
theorem it_notUpright (hi : lI h i) (hS : S.length = 5) (hS3 : ∀ s ∈ S, s < 3) {p n : Nat} (hp : p < 5) (hn : n ≤ p) (k : Ev d m_X3_notUpright 4 [some (.ref i), some (.int (nI (n + nu1 (S.getD p 0)))), some (.int (nI (p + 1)))] [] (lh h i K S G C c t j) Q) : Ev d m_X3_notUpright 4 [some (.ref i), some (.int (nI n)), some (.int (nI p))] [] (lh h i K S G C c t j) Q := by
  have hs : S.getD p 0 < 3 := hS3 _ (by rw [List.getD, List.getElem?_eq_getElem (by omega)]; exact List.getElem_mem _)
  iterate 3 refine ev_nx rfl ?_
  refine ev_ge (fun h => absurd h (by omega)) (fun _ => ?_)
  iterate 2 refine ev_nx rfl ?_
  refine ev_lf hi rfl rfl rfl rfl ?_
  refine ev_nx rfl ?_
  first | refine ev_lK hi rfl (by omega) ?_ | refine ev_lS hi rfl (by omega) ?_ | refine ev_lG hi rfl (by omega) ?_ | refine ev_lC hi rfl (by omega) ?_
  refine ev_nx rfl ?_
  refine ev_ne0 (fun hc => ?_) (fun hc => ?_)
  · iterate 5 refine ev_nx rfl ?_
    rw [nI_add, nI_add]
    rw [nu1, if_neg hc] at k
    exact k
  · iterate 6 refine ev_nx rfl ?_
    rw [nI_add, nI_add]
    rw [nu1, if_pos hc] at k
    exact k
def nuz (S : List Nat) : Nat := nu1 (S.getD 0 0) + nu1 (S.getD 1 0) + nu1 (S.getD 2 0) + nu1 (S.getD 3 0) + nu1 (S.getD 4 0)
theorem nu1_le (s : Nat) : nu1 s ≤ 1 := by unfold nu1; split <;> omega
theorem e_notUpright (hi : lI h i) (hS : S.length = 5) (hS3 : ∀ s ∈ S, s < 3) : Ec d m_X3_notUpright [.ref i] (lh h i K S G C c t j) (rt (.int (nI (nuz S))) (lh h i K S G C c t j)) := by
  have b0 := nu1_le (S.getD 0 0)
  have b1 := nu1_le (S.getD 1 0)
  have b2 := nu1_le (S.getD 2 0)
  have b3 := nu1_le (S.getD 3 0)
  refine ec_in [some (.ref i), none, none] rfl rfl ?_
  iterate 4 refine ev_nx rfl ?_
  refine it_notUpright hi hS hS3 (p := 0) (by decide) (Nat.le_refl 0) ?_
  refine it_notUpright hi hS hS3 (p := 1) (by decide) (by omega) ?_
  refine it_notUpright hi hS hS3 (p := 2) (by decide) (by omega) ?_
  refine it_notUpright hi hS hS3 (p := 3) (by decide) (by omega) ?_
  refine it_notUpright hi hS hS3 (p := 4) (by decide) (by omega) ?_
  iterate 3 refine ev_nx rfl ?_
  refine ev_ge (fun _ => ?_) (fun h => absurd h (by decide))
  refine ev_nx rfl ?_
  exact ev_ri rfl rfl rfl ⟨by simp [nuz], rfl⟩
/-! mendableWires, mendAll -/
def mdw (c t j : Nat) : Nat := c ||| t ||| j ||| j * 2
theorem e_mendableWires (hi : lI h i) (hj : j < 32) : Ec d m_X3_mendableWires [.ref i] (lh h i K S G C c t j) (rt (.int (nI (mdw c t j))) (lh h i K S G C c t j)) := by
  refine ec_in [some (.ref i)] rfl rfl ?_
  refine ev_nx rfl ?_
  refine ev_lf hi rfl rfl rfl rfl ?_
  refine ev_nx rfl ?_
  refine ev_lf hi rfl rfl rfl rfl ?_
  iterate 2 refine ev_nx rfl ?_
  refine ev_lf hi rfl rfl rfl rfl ?_
  iterate 2 refine ev_nx rfl ?_
  refine ev_lf hi rfl rfl rfl rfl ?_
  iterate 3 refine ev_nx rfl ?_
  rw [n_shl (by decide) (by omega), n_or, n_or, n_or]
  exact ev_ri rfl rfl rfl ⟨rfl, rfl⟩
def clr (c w : Nat) : Nat := c &&& (31 ^^^ w)
theorem clr_n : ∀ c w : Fin 32, nI c.val &&& (nI w.val ^^^ -(nI 1)) = nI (clr c.val w.val) := by decide +kernel
theorem clr_lt {c w : Nat} : clr c w ≤ c := Nat.and_le_left
def mdj (w : Nat) : Nat := w ||| w / 2
theorem mdj_n : ∀ w : Fin 32, nI w.val ||| nI w.val >>> (nI 1 &&& 31) = nI (mdj w.val) ∧ mdj w.val < 32 := by decide +kernel
theorem e_mendAll (hi : lI h i) (hc : c < 32) (ht : t < 32) (hj : j < 32) {w : Nat} (hw : w < 32) : Ec d m_X3_mendAll [.ref i, .int (nI w)] (lh h i K S G C c t j) (rtv (lh h i K S G C (clr c w) (clr t w) (clr j (mdj w)))) := by
  have e1 := clr_n ⟨c, hc⟩ ⟨w, hw⟩
  have e2 := clr_n ⟨t, ht⟩ ⟨w, hw⟩
  obtain ⟨e3, e4⟩ := mdj_n ⟨w, hw⟩
  have e5 := clr_n ⟨j, hj⟩ ⟨mdj w, e4⟩
  simp only at e1 e2 e3 e5
  refine ec_in [some (.ref i), some (.int (nI w))] rfl rfl ?_
  iterate 2 refine ev_nx rfl ?_
  refine ev_lf hi rfl rfl rfl rfl ?_
  iterate 4 refine ev_nx rfl ?_
  rw [e1]
  refine ev_lp (c' := clr c w) (t' := t) (j' := j) hi rfl rfl (by decide) (by decide) rfl ?_
  iterate 2 refine ev_nx rfl ?_
  refine ev_lf hi rfl rfl rfl rfl ?_
  iterate 4 refine ev_nx rfl ?_
  rw [e2]
  refine ev_lp (c' := clr c w) (t' := clr t w) (j' := j) hi rfl rfl (by decide) (by decide) rfl ?_
  iterate 2 refine ev_nx rfl ?_
  refine ev_lf hi rfl rfl rfl rfl ?_
  iterate 8 refine ev_nx rfl ?_
  rw [e3, e5]
  refine ev_lp (c' := clr c w) (t' := clr t w) (j' := clr j (mdj w)) hi rfl rfl (by decide) (by decide) rfl ?_
  exact ev_rt rfl ⟨rfl, rfl⟩
/-! swapNeedles -/
def swp (R : List Nat) (p q : Nat) : List Nat := (R.set p (R.getD q 0)).set q (R.getD p 0)
theorem e_swapIn {R : List Nat} {a p q : Nat} (ha : a < 100000) (hh : h[a]? = some (ar R)) (hp : p < R.length) (hq : q < R.length) (hR : R.length ≤ 1000) : Ec d m_X3_swapIn [.ref a, .int (nI p), .int (nI q)] h (rtv (h.set a (ar (swp R p q)))) := by
  have hl : a < h.length := (List.getElem?_eq_some_iff.mp hh).1
  refine ec_in [some (.ref a), some (.int (nI p)), some (.int (nI q)), none] rfl rfl ?_
  iterate 2 refine ev_nx rfl ?_
  refine ev_ia rfl (am_arr_h ha hh) (mg hp) ?_
  iterate 5 refine ev_nx rfl ?_
  refine ev_ia rfl (am_arr_h ha hh) (mg hq) ?_
  refine ev_is rfl hh (by simpa using hp) ?_
  iterate 3 refine ev_nx rfl ?_
  refine ev_is rfl (List.getElem?_set_self hl) (by simpa using hq) ?_
  rw [List.set_set, ms_, ms_]
  exact ev_rt rfl ⟨rfl, rfl⟩
theorem swp_len {R : List Nat} {p q : Nat} : (swp R p q).length = R.length := by simp [swp]
theorem e_swapNeedles (hi : lI h i) (hK : K.length = 5) (hS : S.length = 5) (hG : G.length = 5) {p q : Nat} (hp : p < 5) (hq : q < 5) : Ec (d + 1) m_X3_swapNeedles [.ref i, .int (nI p), .int (nI q)] (lh h i K S G C c t j) (rtv (lh h i (swp K p q) (swp S p q) (swp G p q) C c t j)) := by
  have h1 := hi.1
  have h2 := hi.2
  refine ec_in [some (.ref i), some (.int (nI p)), some (.int (nI q))] rfl rfl ?_
  refine ev_nx rfl ?_
  refine ev_lf hi rfl rfl rfl rfl ?_
  iterate 2 refine ev_nx rfl ?_
  refine ev_cv rfl rfl (e_swapIn (by omega) (lh_1 hi.1) (by omega) (by omega) (by omega)) ?_
  rw [lh_s1 hi.1]
  refine ev_nx rfl ?_
  refine ev_lf hi rfl rfl rfl rfl ?_
  iterate 2 refine ev_nx rfl ?_
  refine ev_cv rfl rfl (e_swapIn (by omega) (lh_2 hi.1) (by omega) (by omega) (by omega)) ?_
  rw [lh_s2 hi.1]
  refine ev_nx rfl ?_
  refine ev_lf hi rfl rfl rfl rfl ?_
  iterate 2 refine ev_nx rfl ?_
  refine ev_cv rfl rfl (e_swapIn (by omega) (lh_3 hi.1) (by omega) (by omega) (by omega)) ?_
  rw [lh_s3 hi.1]
  exact ev_rt rfl ⟨rfl, rfl⟩
end LM
