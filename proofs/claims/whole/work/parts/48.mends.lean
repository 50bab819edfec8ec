/-! the reference: touches, mayMend, mends, changes -/
section XF
variable {d : Nat} {h : aH} {Q : Option Value → aH → Prop} {K S G : List Nat} {c t j a : Nat}
theorem bt_tb (c p : Nat) : bt c p = if c.testBit p then 1 else 0 := by
  rw [Nat.testBit_eq_decide_div_mod_eq]
  unfold bt
  have := Nat.mod_lt (c / 2 ^ p) (show 0 < 2 by decide)
  by_cases h : c / 2 ^ p % 2 = 1
  · simp [h]
  · rw [if_neg (by simpa using h)]; omega
theorem bt_or (a b p : Nat) : bt (a ||| b) p = if bt a p = 1 ∨ bt b p = 1 then 1 else 0 := by
  rw [bt_tb, bt_tb, bt_tb, Nat.testBit_or]
  cases a.testBit p <;> cases b.testBit p <;> simp
theorem bt_dbl (j p : Nat) : bt (j * 2) p = if p = 0 then 0 else bt j (p - 1) := by
  rw [bt_tb, bt_tb, Nat.mul_comm]
  cases p with
  | zero => simp [Nat.testBit_zero]
  | succ p => rw [show 2 * j = 2 ^ 1 * j by omega, Nat.testBit_two_pow_mul]; simp
theorem bt_4 {j : Nat} (hj : j < 16) : bt j 4 = 0 := by unfold bt; rw [Nat.div_eq_of_lt (by omega)]
theorem mm_t1 {j p : Nat} (hj : j < 16) (hp : p < 5) : (∃ q, q < 4 ∧ nI p = nI q ∧ bt j p = bt j q) ∨ (wi (nI p) (nI 0) (nI 3) = 0 ∧ bt j p = 0) := by
  by_cases h4 : p < 4
  · exact .inl ⟨p, h4, rfl, rfl⟩
  · obtain rfl : p = 4 := by omega
    exact .inr ⟨by decide, bt_4 hj⟩
theorem mm_t2 {j p u : Nat} (hp : p < 5) (hu : u = (if p = 0 then 0 else bt j (p - 1))) : (∃ q, q < 4 ∧ nI p - nI 1 = nI q ∧ u = bt j q) ∨ (wi (nI p - nI 1) (nI 0) (nI 3) = 0 ∧ u = 0) := by
  by_cases h0 : p = 0
  · subst h0; exact .inr ⟨by decide, hu⟩
  · exact .inl ⟨p - 1, by omega, pk_sub (by omega), by rw [hu, if_neg h0]⟩
/-- does a wire touch the next one -/
theorem f_touches {x : Int32} {v : Nat} (ok : lok K S G c t j) (hA : h[a]? = some (ar (ll K S G c t j))) (ha : a < 100000) (hv : (∃ p, p < 4 ∧ x = nI p ∧ v = bt j p) ∨ (wi x (nI 0) (nI 3) = 0 ∧ v = 0)) : Ec (d + 1) m_X9_touches [.ref a, .int x] h (rt (.int (nI v)) h) := by
  have hl := ll_len ok
  refine ec_in [some (.ref a), some (.int x)] rfl rfl ?_
  rcases hv with ⟨p, hp, rfl, rfl⟩ | ⟨hw, rfl⟩
  · have hw : wi (nI p) (nI 0) (nI 3) = 1 := by rw [wi_n (by omega) (by omega) (by omega), if_pos (by omega)]
    have hb := bt_lt j p
    iterate 3 refine ev_nx rfl ?_
    refine ev_ci rfl rfl (f_in _ _ _ _) ?_
    rw [hw]
    refine ev_nx rfl ?_
    refine ev_f (by decide) ?_
    iterate 3 refine ev_nx rfl ?_
    refine ev_add rfl ?_
    refine ev_lN rfl hA (by omega) ?_
    rw [ll_j p hp]
    iterate 2 refine ev_nx rfl ?_
    refine ev_ne (fun b16 => ?_) (fun b16 => ?_)
    · refine ev_nx rfl ?_
      exact ev_ri rfl rfl rfl ⟨vI (by omega), rfl⟩
    · iterate 2 refine ev_nx rfl ?_
      exact ev_ri rfl rfl rfl ⟨vI (by omega), rfl⟩
  · iterate 3 refine ev_nx rfl ?_
    refine ev_ci rfl rfl (f_in _ _ _ _) ?_
    rw [hw]
    refine ev_nx rfl ?_
    refine ev_t (by decide) ?_
    refine ev_nx rfl ?_
    exact ev_ri rfl rfl rfl ⟨rfl, rfl⟩
theorem f_mayMend {p : Nat} (ok : lok K S G c t j) (hA : h[a]? = some (ar (ll K S G c t j))) (ha : a < 100000) (hp : p < 5) : Ec (d + 2) m_X9_mayMend [.ref a, .int (nI p)] h (rt (.int (nI (bt (mdw c t j) p))) h) := by
  have hl := ll_len ok
  have h1 := bt_lt c p
  have h2 := bt_lt t p
  have h3 := bt_lt j p
  have h4 := bt_lt j (p - 1)
  have hj16 := ok.2.2.2.2.2
  have e : bt (mdw c t j) p = if bt c p = 1 ∨ bt t p = 1 ∨ bt j p = 1 ∨ (p ≠ 0 ∧ bt j (p - 1) = 1) then 1 else 0 := by
    unfold mdw
    rw [bt_or, bt_or, bt_or, bt_dbl]
    (repeat' split) <;> omega
  obtain ⟨u, hu⟩ : ∃ u, u = (if p = 0 then 0 else bt j (p - 1)) := ⟨_, rfl⟩
  have hu2 : u < 2 := by rw [hu]; split <;> omega
  refine ec_in [some (.ref a), some (.int (nI p))] rfl rfl ?_
  rw [e]
  iterate 3 refine ev_nx rfl ?_
  refine ev_add rfl ?_
  refine ev_lN rfl hA (by omega) ?_
  rw [ll_c p hp]
  iterate 2 refine ev_nx rfl ?_
  refine ev_eq (fun b6 => ?_) (fun b6 => ?_)
  · iterate 2 refine ev_nx rfl ?_
    exact ev_ri rfl rfl rfl ⟨vI (by clear e; (repeat' split at hu) <;> (repeat' split) <;> omega), rfl⟩
  · iterate 3 refine ev_nx rfl ?_
    refine ev_add rfl ?_
    refine ev_lN rfl hA (by omega) ?_
    rw [ll_t p hp]
    iterate 2 refine ev_nx rfl ?_
    refine ev_eq (fun b15 => ?_) (fun b15 => ?_)
    · iterate 2 refine ev_nx rfl ?_
      exact ev_ri rfl rfl rfl ⟨vI (by clear e; (repeat' split at hu) <;> (repeat' split) <;> omega), rfl⟩
    · iterate 2 refine ev_nx rfl ?_
      refine ev_ci rfl rfl (f_touches ok hA ha (mm_t1 hj16 hp)) ?_
      refine ev_nx rfl ?_
      refine ev_ne0 (fun b23 => ?_) (fun b23 => ?_)
      · iterate 2 refine ev_nx rfl ?_
        exact ev_ri rfl rfl rfl ⟨vI (by clear e; (repeat' split at hu) <;> (repeat' split) <;> omega), rfl⟩
      · iterate 3 refine ev_nx rfl ?_
        refine ev_nx rfl ?_
        refine ev_ci rfl rfl (f_touches ok hA ha (mm_t2 hp hu)) ?_
        refine ev_nx rfl ?_
        refine ev_eq0 (fun b33 => ?_) (fun b33 => ?_)
        · refine ev_nx rfl ?_
          exact ev_ri rfl rfl rfl ⟨vI (by clear e; (repeat' split at hu) <;> (repeat' split) <;> omega), rfl⟩
        · iterate 2 refine ev_nx rfl ?_
          exact ev_ri rfl rfl rfl ⟨vI (by clear e; (repeat' split at hu) <;> (repeat' split) <;> omega), rfl⟩
theorem md_j : ∀ j : Fin 16, ∀ p : Fin 5, clr j.val (mdj (1 * 2 ^ p.val)) = (if 0 < p.val then clr (if p.val < 4 then clr j.val (1 * 2 ^ p.val) else j.val) (1 * 2 ^ (p.val - 1)) else (if p.val < 4 then clr j.val (1 * 2 ^ p.val) else j.val)) := by decide +kernel
theorem lok_md (ok : lok K S G c t j) {w w1 w2 : Nat} : lok K S G (clr c w) (clr t w1) (clr j w2) := ⟨ok.1, ok.2.1, ok.2.2.1, clr32 ok.2.2.2.1, clr32 ok.2.2.2.2.1, Nat.lt_of_le_of_lt clr_lt ok.2.2.2.2.2⟩
theorem f_mends {p : Nat} (ok : lok K S G c t j) (hA : h[a]? = some (ar (ll K S G c t j))) (ha : a < 100000) (hp : p < 5) : Ec d m_X9_mends [.ref a, .int (nI p)] h (rtv (h.set a (ar (ll K S G (clr c (1 * 2 ^ p)) (clr t (1 * 2 ^ p)) (clr j (mdj (1 * 2 ^ p))))))) := by
  have hal : a < h.length := (List.getElem?_eq_some_iff.mp hA).1
  have ok1 : lok K S G (clr c (1 * 2 ^ p)) t j := ⟨ok.1, ok.2.1, ok.2.2.1, clr32 ok.2.2.2.1, ok.2.2.2.2⟩
  have ok2 : lok K S G (clr c (1 * 2 ^ p)) (clr t (1 * 2 ^ p)) j := ⟨ok.1, ok.2.1, ok.2.2.1, clr32 ok.2.2.2.1, clr32 ok.2.2.2.2.1, ok.2.2.2.2.2⟩
  have ok3 : lok K S G (clr c (1 * 2 ^ p)) (clr t (1 * 2 ^ p)) (clr j (1 * 2 ^ p)) := lok_md ok
  have l0 := ll_len ok
  have l1 := ll_len ok1
  have l2 := ll_len ok2
  have l3 := ll_len ok3
  have hj16 := ok.2.2.2.2.2
  refine ec_in [some (.ref a), some (.int (nI p))] rfl rfl ?_
  rw [md_j ⟨j, hj16⟩ ⟨p, hp⟩]
  iterate 3 refine ev_nx rfl ?_
  refine ev_add rfl ?_
  refine ev_nx rfl ?_
  refine ev_sN rfl hA (by omega) ?_
  rw [ll_c0 p hp ok.2.2.2.1]
  iterate 3 refine ev_nx rfl ?_
  refine ev_add rfl ?_
  refine ev_nx rfl ?_
  refine ev_sN rfl (List.getElem?_set_self hal) (by omega) ?_
  rw [set_set, ll_t0 p hp ok.2.2.2.2.1]
  iterate 2 refine ev_nx rfl ?_
  skip
  show Ev _ _ _ _ _ _ (rtv (h.set a (ar (ll K S G (clr c (1 * 2 ^ p)) (clr t (1 * 2 ^ p)) (if 0 < p then clr (if p < 4 then clr j (1 * 2 ^ p) else j) (1 * 2 ^ (p - 1)) else (if p < 4 then clr j (1 * 2 ^ p) else j))))))
  refine ev_nx rfl ?_
  refine ev_ge (fun b14 => ?_) (fun b14 => ?_)
  · iterate 2 refine ev_nx rfl ?_
    refine ev_le0 (fun b25 => ?_) (fun b25 => ?_)
    · exact ev_rt rfl ⟨rfl, by first | (exfalso; omega) | (rw [if_pos (by omega), if_neg (by omega)]) | (rw [if_neg (by omega), if_neg (by omega)]) | (rw [if_pos (by omega), if_pos (by omega)]) | (rw [if_neg (by omega), if_pos (by omega)])⟩
    · iterate 3 refine ev_nx rfl ?_
      refine ev_add rfl ?_
      refine ev_nx rfl ?_
      refine ev_sub rfl (by omega) ?_
      rw [show 10 + p - 1 = 10 + (p - 1) by omega]
      refine ev_nx rfl ?_
      refine ev_sN rfl (List.getElem?_set_self hal) (by omega) ?_
      rw [set_set, ll_j0 (p - 1) (by omega) (by first | exact hj16 | exact ok3.2.2.2.2.2)]
      exact ev_rt rfl ⟨rfl, by first | (exfalso; omega) | (rw [if_pos (by omega), if_neg (by omega)]) | (rw [if_neg (by omega), if_neg (by omega)]) | (rw [if_pos (by omega), if_pos (by omega)]) | (rw [if_neg (by omega), if_pos (by omega)])⟩
  · iterate 3 refine ev_nx rfl ?_
    refine ev_add rfl ?_
    refine ev_nx rfl ?_
    refine ev_sN rfl (List.getElem?_set_self hal) (by omega) ?_
    rw [set_set, ll_j0 p (by omega) hj16]
    iterate 2 refine ev_nx rfl ?_
    refine ev_le0 (fun b25 => ?_) (fun b25 => ?_)
    · exact ev_rt rfl ⟨rfl, by first | (exfalso; omega) | (rw [if_pos (by omega), if_neg (by omega)]) | (rw [if_neg (by omega), if_neg (by omega)]) | (rw [if_pos (by omega), if_pos (by omega)]) | (rw [if_neg (by omega), if_pos (by omega)])⟩
    · iterate 3 refine ev_nx rfl ?_
      refine ev_add rfl ?_
      refine ev_nx rfl ?_
      refine ev_sub rfl (by omega) ?_
      rw [show 10 + p - 1 = 10 + (p - 1) by omega]
      refine ev_nx rfl ?_
      refine ev_sN rfl (List.getElem?_set_self hal) (by omega) ?_
      rw [set_set, ll_j0 (p - 1) (by omega) (by first | exact hj16 | exact ok3.2.2.2.2.2)]
      exact ev_rt rfl ⟨rfl, by first | (exfalso; omega) | (rw [if_pos (by omega), if_neg (by omega)]) | (rw [if_neg (by omega), if_neg (by omega)]) | (rw [if_pos (by omega), if_pos (by omega)]) | (rw [if_neg (by omega), if_pos (by omega)])⟩
theorem f_changes {p q : Nat} (ok : lok K S G c t j) (hA : h[a]? = some (ar (ll K S G c t j))) (ha : a < 100000) (hp : p < 5) (hq : q < 5) : Ec d m_X9_changes [.ref a, .int (nI p), .int (nI q)] h (rtv (h.set a (ar (ll (swp K p q) (swp S p q) (swp G p q) c t j)))) := by
  have hal : a < h.length := (List.getElem?_eq_some_iff.mp hA).1
  have it : ∀ (A : List Nat) (b : Nat) (l4 : Option Value) (Q : Option Value → aH → Prop), A.length = 29 → b < 25 → (∀ l4, Ev d m_X9_changes 3 [some (.ref a), some (.int (nI p)), some (.int (nI q)), some (.int (nI (b + 5))), l4] [] (h.set a (ar ((A.set (b + p) (A.getD (b + q) 0)).set (b + q) (A.getD (b + p) 0)))) Q) → Ev d m_X9_changes 3 [some (.ref a), some (.int (nI p)), some (.int (nI q)), some (.int (nI b)), l4] [] (h.set a (ar A)) Q := by
    intro A b l4 Q hA hb k
    iterate 3 refine ev_nx rfl ?_
    refine ev_ge (fun b6 => absurd b6 (by omega)) (fun b6 => ?_)
    iterate 3 refine ev_nx rfl ?_
    refine ev_add rfl ?_
    refine ev_lN rfl (List.getElem?_set_self hal) (by omega) ?_
    iterate 4 refine ev_nx rfl ?_
    refine ev_add rfl ?_
    iterate 3 refine ev_nx rfl ?_
    refine ev_add rfl ?_
    refine ev_lN rfl (List.getElem?_set_self hal) (by omega) ?_
    refine ev_sN rfl (List.getElem?_set_self hal) (by omega) ?_
    rw [set_set]
    iterate 3 refine ev_nx rfl ?_
    refine ev_add rfl ?_
    refine ev_nx rfl ?_
    refine ev_sN rfl (List.getElem?_set_self hal) (by first | omega | (simp only [List.length_set, List.length_replicate]; omega)) ?_
    rw [set_set]
    refine ev_inc rfl ⟨rfl, by decide⟩ rfl rfl ?_
    refine ev_nx rfl ?_
    exact k _
  have l0 := ll_len ok
  refine ec_in [some (.ref a), some (.int (nI p)), some (.int (nI q)), none, none] rfl rfl ?_
  iterate 2 refine ev_nx rfl ?_
  rw [← set_id hA]
  have e1 : (((ll K S G c t j).set (14 + p) ((ll K S G c t j).getD (14 + q) 0)).set (14 + q) ((ll K S G c t j).getD (14 + p) 0)) = ll (swp K p q) S G c t j := by
    rw [ll_K ok p hp, ll_K ok q hq, ll_sK ok.1.1 _ _ hp, ll_sK (by rw [List.length_set]; exact ok.1.1) _ _ hq]; rfl
  refine it _ 14 _ _ l0 (by omega) (fun l4 => ?_)
  rw [e1]
  have okK : (swp K p q).length = 5 := by rw [swp_len]; exact ok.1.1
  have okS : (swp S p q).length = 5 := by rw [swp_len]; exact ok.2.1.1
  have hm : ∀ (R : List Nat) (n : Nat), R.length = 5 → (∀ x ∈ R, x < n) → ∀ x ∈ swp R p q, x < n := fun R n hl hR => l_set_lt (l_set_lt hR (gd3 hR (by omega))) (gd3 hR (by omega))
  have ok1 : lok (swp K p q) S G c t j := ⟨⟨okK, hm K 6 ok.1.1 ok.1.2⟩, ok.2⟩
  have ok2 : lok (swp K p q) (swp S p q) G c t j := ⟨ok1.1, ⟨okS, hm S 3 ok.2.1.1 ok.2.1.2⟩, ok.2.2⟩
  refine it _ 19 _ _ (ll_len ok1) (by omega) (fun l4 => ?_)
  have e2 : (((ll (swp K p q) S G c t j).set (19 + p) ((ll (swp K p q) S G c t j).getD (19 + q) 0)).set (19 + q) ((ll (swp K p q) S G c t j).getD (19 + p) 0)) = ll (swp K p q) (swp S p q) G c t j := by
    rw [ll_S ok1 p hp, ll_S ok1 q hq, ll_sS okK ok.2.1.1 _ _ hp, ll_sS okK (by rw [List.length_set]; exact ok.2.1.1) _ _ hq]; rfl
  rw [e2]
  refine it _ 24 _ _ (ll_len ok2) (by omega) (fun l4 => ?_)
  have e3 : (((ll (swp K p q) (swp S p q) G c t j).set (24 + p) ((ll (swp K p q) (swp S p q) G c t j).getD (24 + q) 0)).set (24 + q) ((ll (swp K p q) (swp S p q) G c t j).getD (24 + p) 0)) = ll (swp K p q) (swp S p q) (swp G p q) c t j := by
    rw [ll_G ok2 p hp, ll_G ok2 q hq, ll_sG okK okS ok.2.2.1.1 _ _ hp, ll_sG okK okS (by rw [List.length_set]; exact ok.2.2.1.1) _ _ hq]; rfl
  rw [e3]
  iterate 3 refine ev_nx rfl ?_
  refine ev_ge (fun b6 => ?_) (fun b6 => absurd b6 (by omega))
  exact ev_rt rfl ⟨rfl, set_set.symm⟩
theorem lok_sw (ok : lok K S G c t j) {p q : Nat} (hp : p < 5) (hq : q < 5) : lok (swp K p q) (swp S p q) (swp G p q) c t j := by
  have hm : ∀ (R : List Nat) (n : Nat), R.length = 5 → (∀ x ∈ R, x < n) → ∀ x ∈ swp R p q, x < n := fun R n hl hR => l_set_lt (l_set_lt hR (gd3 hR (by omega))) (gd3 hR (by omega))
  exact ⟨⟨by rw [swp_len]; exact ok.1.1, hm K 6 ok.1.1 ok.1.2⟩, ⟨by rw [swp_len]; exact ok.2.1.1, hm S 3 ok.2.1.1 ok.2.1.2⟩, ⟨by rw [swp_len]; exact ok.2.2.1.1, hm G 3 ok.2.2.1.1 ok.2.2.1.2⟩, ok.2.2.2⟩
end XF
