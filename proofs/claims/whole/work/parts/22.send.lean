/-! carrySign, sendFor, copyFrom -/
section LS
variable {h : aH} {i : Nat} {K S G C : List Nat} {c t j : Nat} {d : Nat} {Q : Option Value → aH → Prop}
/-- at a place where wires that touch begin: they share -/
def cst (c j : Nat) (C : List Nat) (p : Nat) : List Nat := if (p = 0 ∨ bt j (p - 1) = 0) ∧ bt j p = 1 then shf c j C p else C
theorem cst_len {p : Nat} : (cst c j C p).length = C.length := by unfold cst; split; exact shf_len; rfl
theorem cst_lt {p : Nat} (hC3 : ∀ s ∈ C, s < 3) : ∀ s ∈ cst c j C p, s < 3 := by unfold cst; split; exact shf_lt hC3; exact hC3
theorem it_carry2 (hi : lI h i) (hC : C.length = 5) (hC3 : ∀ s ∈ C, s < 3) (hc32 : c < 32) (hj : j < 32) (hj0 : ¬ j = 0) {s p x : Nat} {l4 : Option Value} (hp : p < 4) (k : ∀ x, Ev (d + 1) m_X3_carrySign 71 [some (.ref i), some (.int (nI s)), some (.int (nI (p + 1))), some (.int (nI x)), l4] [] (lh h i K S G (cst c j C p) c t j) Q) : Ev (d + 1) m_X3_carrySign 71 [some (.ref i), some (.int (nI s)), some (.int (nI p)), some (.int (nI x)), l4] [] (lh h i K S G C c t j) Q := by
  have hb1 := bt_lt j p
  have hb2 := bt_lt j (p - 1)
  have H : ∀ y : Nat, (y = 1 ∧ (p = 0 ∨ bt j (p - 1) = 0)) ∨ (y = 0 ∧ ¬ (p = 0 ∨ bt j (p - 1) = 0)) → Ev (d + 1) m_X3_carrySign 105 [some (.ref i), some (.int (nI s)), some (.int (nI p)), some (.int (nI x)), l4] [.int (nI y)] (lh h i K S G C c t j) Q := by
    intro y hy
    iterate 3 refine ev_nx rfl ?_
    refine ev_eq0 (fun hc => ?_) (fun hc => ?_)
    · iterate 2 refine ev_nx rfl ?_
      rw [nI_add]
      have k1 := k y
      rw [cst, if_neg (by omega)] at k1
      exact k1
    · refine ev_nx rfl ?_
      refine ev_lf hi rfl rfl rfl rfl ?_
      refine ev_nx rfl ?_
      refine ev_ci rfl rfl (ec_le (Nat.zero_le d) (e_bitAt j p (by omega) (by omega) _)) ?_
      iterate 2 refine ev_nx rfl ?_
      refine ev_ne (fun hc2 => ?_) (fun hc2 => ?_)
      · iterate 2 refine ev_nx rfl ?_
        rw [nI_add]
        have k1 := k y
        rw [cst, if_neg (fun z => hc2 z.2)] at k1
        exact k1
      · iterate 2 refine ev_nx rfl ?_
        refine ev_vv rfl rfl rfl rfl rfl rfl (lh_0 hi.1) rfl (e_shareFrom hi hC hC3 hc32 hj (by omega)) ?_ (by have := hi.1; have := hi.2; omega)
        iterate 2 refine ev_nx rfl ?_
        rw [nI_add]
        have k1 := k y
        rw [cst, if_pos ⟨by omega, hc2⟩] at k1
        exact k1
  iterate 3 refine ev_nx rfl ?_
  refine ev_ge (fun h => absurd h (by omega)) (fun _ => ?_)
  refine ev_nx rfl ?_
  refine ev_lf hi rfl rfl rfl rfl ?_
  refine ev_nx rfl ?_
  refine ev_eq0 (fun h => absurd h hj0) (fun _ => ?_)
  iterate 2 refine ev_nx rfl ?_
  refine ev_eq0 (fun hc => ?_) (fun hc => ?_)
  · iterate 2 refine ev_nx rfl ?_
    exact H 1 (Or.inl ⟨rfl, Or.inl hc⟩)
  · refine ev_nx rfl ?_
    refine ev_lf hi rfl rfl rfl rfl ?_
    iterate 3 refine ev_nx rfl ?_
    rw [pk_sub (by omega)]
    refine ev_ci rfl rfl (ec_le (Nat.zero_le d) (e_bitAt j (p - 1) (by omega) (by omega) _)) ?_
    refine ev_nx rfl ?_
    refine ev_ne0 (fun hc2 => ?_) (fun hc2 => ?_)
    · refine ev_nx rfl ?_
      exact H 0 (Or.inr ⟨rfl, by omega⟩)
    · iterate 2 refine ev_nx rfl ?_
      exact H 1 (Or.inl ⟨rfl, Or.inr hc2⟩)
/-- what the wires carry by a sign -/
def crb (s c t : Nat) : List Nat := [bcu c t (pt s 0) 0, bcu c t (pt s 1) 1, bcu c t (pt s 2) 2, bcu c t (pt s 3) 3, bcu c t (pt s 4) 4]
def cry (s c t j : Nat) : List Nat := cst c j (cst c j (cst c j (cst c j (crb s c t) 0) 1) 2) 3
theorem bcu_lt {g p : Nat} (hg : g < 3) : bcu c t g p < 3 := by
  unfold bcu brn
  split
  · omega
  · split
    · exact oth_lt hg
    · exact hg
theorem crb_lt {s : Nat} (hs : s < 31) : ∀ x ∈ crb s c t, x < 3 := by
  intro x hx
  simp only [crb, List.mem_cons, List.not_mem_nil, or_false] at hx
  rcases hx with rfl | rfl | rfl | rfl | rfl <;> exact bcu_lt (pt_lt hs (by decide))
theorem cry_len {s : Nat} : (cry s c t j).length = 5 := by unfold cry; rw [cst_len, cst_len, cst_len, cst_len]; rfl
theorem cry_lt {s : Nat} (hs : s < 31) : ∀ x ∈ cry s c t j, x < 3 := by unfold cry; exact cst_lt (cst_lt (cst_lt (cst_lt (crb_lt hs))))
theorem cst_0 {p : Nat} : cst c 0 C p = C := by unfold cst; rw [if_neg]; simp [bt]
theorem e_carrySign (hi : lI h i) (hC : C.length = 5) (hc32 : c < 32) (ht32 : t < 32) (hj : j < 32) {s : Nat} (hs : s < 31) : Ec (d + 1) m_X3_carrySign [.ref i, .int (nI s)] (lh h i K S G C c t j) (rtv (lh h i K S G (cry s c t j) c t j)) := by
  obtain ⟨a0, a1, a2, a3, a4, rfl⟩ := l5 hC
  refine ec_in [some (.ref i), some (.int (nI s)), none, none, none] rfl rfl ?_
  iterate 2 refine ev_nx rfl ?_
  refine it_carry1 hi rfl hc32 ht32 (p := 0) hs (by decide) ?_ rfl
  refine it_carry1 hi rfl hc32 ht32 (p := 1) hs (by decide) ?_ rfl
  refine it_carry1 hi rfl hc32 ht32 (p := 2) hs (by decide) ?_ rfl
  refine it_carry1 hi rfl hc32 ht32 (p := 3) hs (by decide) ?_ rfl
  refine it_carry1 hi rfl hc32 ht32 (p := 4) hs (by decide) ?_ rfl
  iterate 3 refine ev_nx rfl ?_
  refine ev_ge (fun _ => ?_) (fun h => absurd h (by decide))
  iterate 2 refine ev_nx rfl ?_
  have hB : ∀ x ∈ crb s c t, x < 3 := crb_lt hs
  show Ev (d + 1) m_X3_carrySign 71 [some (.ref i), some (.int (nI s)), some (.int (nI 0)), some (.int (nI (pt s 4))), some (.int (nI (brn t (pt s 4) 4)))] [] (lh h i K S G (crb s c t) c t j) _
  by_cases hj0 : j = 0
  · subst hj0
    iterate 3 refine ev_nx rfl ?_
    refine ev_ge (fun h => absurd h (by decide)) (fun _ => ?_)
    refine ev_nx rfl ?_
    refine ev_lf hi rfl rfl rfl rfl ?_
    refine ev_nx rfl ?_
    refine ev_eq0 (fun _ => ?_) (fun h => absurd rfl h)
    unfold cry
    rw [cst_0, cst_0, cst_0, cst_0]
    exact ev_rt rfl ⟨rfl, rfl⟩
  · refine it_carry2 hi rfl hB hc32 hj hj0 (p := 0) (by decide) (fun x0 => ?_)
    refine it_carry2 hi (by rw [cst_len]; rfl) (cst_lt hB) hc32 hj hj0 (p := 1) (by decide) (fun x1 => ?_)
    refine it_carry2 hi (by rw [cst_len, cst_len]; rfl) (cst_lt (cst_lt hB)) hc32 hj hj0 (p := 2) (by decide) (fun x2 => ?_)
    refine it_carry2 hi (by rw [cst_len, cst_len, cst_len]; rfl) (cst_lt (cst_lt (cst_lt hB))) hc32 hj hj0 (p := 3) (by decide) (fun x3 => ?_)
    iterate 3 refine ev_nx rfl ?_
    refine ev_ge (fun _ => ?_) (fun h => absurd h (by decide))
    exact ev_rt rfl ⟨rfl, rfl⟩
/-! beats -/
def sb (K C S G : List Nat) (p : Nat) : Nat := stn (K.getD p 0) (C.getD p 0) (ahd C p) (G.getD p 0) (S.getD p 0)
/-- how the needles stand behind a beat -/
def bst (K C S G : List Nat) : List Nat := [sb K C S G 0, sb K C S G 1, sb K C S G 2, sb K C S G 3, sb K C S G 4]
/-- how they stand behind n beats, of which all carry C -/
def btn (K C : List Nat) : Nat → List Nat → List Nat → List Nat
  | 0, S, _ => S
  | n + 1, S, G => btn K C n (bst K C S G) C
/-- what they got -/
def gtn (C : List Nat) (n : Nat) (G : List Nat) : List Nat := if n = 0 then G else C
theorem ahd_lt {p : Nat} (hC : C.length = 5) (hC3 : ∀ s ∈ C, s < 3) (hp : p < 5) : ahd C p < 3 := by
  unfold ahd; split
  · omega
  · exact gd3 hC3 (by omega)
theorem it_send (hi : lI h i) (hK : K.length = 5) (hK6 : ∀ s ∈ K, s < 6) (hC : C.length = 5) (hC3 : ∀ s ∈ C, s < 3) (hS : S.length = 5) (hS3 : ∀ s ∈ S, s < 3) (hG : G.length = 5) (hG3 : ∀ s ∈ G, s < 3) {s n b p : Nat} (hp : p < 5) (k : Ev (d + 2) m_X3_sendFor 15 [some (.ref i), some (.int (nI s)), some (.int (nI n)), some (.int (nI b)), some (.int (nI (p + 1)))] [] (lh h i K (S.set p (sb K C S G p)) (G.set p (C.getD p 0)) C c t j) Q) : Ev (d + 2) m_X3_sendFor 15 [some (.ref i), some (.int (nI s)), some (.int (nI n)), some (.int (nI b)), some (.int (nI p))] [] (lh h i K S G C c t j) Q := by
  iterate 3 refine ev_nx rfl ?_
  refine ev_ge (fun h => absurd h (by omega)) (fun _ => ?_)
  refine ev_nx rfl ?_
  refine ev_lf hi rfl rfl rfl rfl ?_
  iterate 2 refine ev_nx rfl ?_
  refine ev_lf hi rfl rfl rfl rfl ?_
  refine ev_nx rfl ?_
  first | refine ev_lK hi rfl (by omega) ?_ | refine ev_lS hi rfl (by omega) ?_ | refine ev_lG hi rfl (by omega) ?_ | refine ev_lC hi rfl (by omega) ?_
  refine ev_nx rfl ?_
  refine ev_lf hi rfl rfl rfl rfl ?_
  refine ev_nx rfl ?_
  first | refine ev_lK hi rfl (by omega) ?_ | refine ev_lS hi rfl (by omega) ?_ | refine ev_lG hi rfl (by omega) ?_ | refine ev_lC hi rfl (by omega) ?_
  iterate 2 refine ev_nx rfl ?_
  refine ev_vi rfl rfl rfl rfl rfl rfl (lh_0 hi.1) rfl (ec_le (Nat.zero_le _) (e_aheadOf hi hC hp)) ?_ (by have := hi.1; have := hi.2; omega)
  refine ev_nx rfl ?_
  refine ev_lf hi rfl rfl rfl rfl ?_
  refine ev_nx rfl ?_
  first | refine ev_lK hi rfl (by omega) ?_ | refine ev_lS hi rfl (by omega) ?_ | refine ev_lG hi rfl (by omega) ?_ | refine ev_lC hi rfl (by omega) ?_
  refine ev_nx rfl ?_
  refine ev_lf hi rfl rfl rfl rfl ?_
  refine ev_nx rfl ?_
  first | refine ev_lK hi rfl (by omega) ?_ | refine ev_lS hi rfl (by omega) ?_ | refine ev_lG hi rfl (by omega) ?_ | refine ev_lC hi rfl (by omega) ?_
  refine ev_ci rfl rfl (ec_le (by omega) (e_standing _ _ _ _ _ (gd3 hK6 (by omega)) (gd3 hC3 (by omega)) (ahd_lt hC hC3 hp) (gd3 hG3 (by omega)) (gd3 hS3 (by omega)) _)) ?_
  first | refine ev_sK hi rfl (by omega) ?_ | refine ev_sS hi rfl (by omega) ?_ | refine ev_sG hi rfl (by omega) ?_ | refine ev_sC hi rfl (by omega) ?_
  refine ev_nx rfl ?_
  refine ev_lf hi rfl rfl rfl rfl ?_
  iterate 2 refine ev_nx rfl ?_
  refine ev_lf hi rfl rfl rfl rfl ?_
  refine ev_nx rfl ?_
  first | refine ev_lK hi rfl (by omega) ?_ | refine ev_lS hi rfl (by omega) ?_ | refine ev_lG hi rfl (by omega) ?_ | refine ev_lC hi rfl (by omega) ?_
  first | refine ev_sK hi rfl (by omega) ?_ | refine ev_sS hi rfl (by omega) ?_ | refine ev_sG hi rfl (by omega) ?_ | refine ev_sC hi rfl (by omega) ?_
  iterate 2 refine ev_nx rfl ?_
  rw [nI_add]
  exact k
theorem l_set_lt {S : List Nat} {p x n : Nat} (hS : ∀ s ∈ S, s < n) (hx : x < n) : ∀ s ∈ S.set p x, s < n := fun s hs => by
  rcases List.mem_or_eq_of_mem_set hs with h1 | h1
  · exact hS s h1
  · rw [h1]; exact hx
theorem sb_lt {p : Nat} (hC : C.length = 5) (hC3 : ∀ s ∈ C, s < 3) (hS : S.length = 5) (hS3 : ∀ s ∈ S, s < 3) (hG : G.length = 5) (hG3 : ∀ s ∈ G, s < 3) (hp : p < 5) : sb K C S G p < 3 := stn_lt (gd3 hC3 (by omega)) (ahd_lt hC hC3 hp) (gd3 hG3 (by omega)) (gd3 hS3 (by omega))
theorem bst_lt (hC : C.length = 5) (hC3 : ∀ s ∈ C, s < 3) (hS : S.length = 5) (hS3 : ∀ s ∈ S, s < 3) (hG : G.length = 5) (hG3 : ∀ s ∈ G, s < 3) : ∀ s ∈ bst K C S G, s < 3 := by
  intro x hx
  simp only [bst, List.mem_cons, List.not_mem_nil, or_false] at hx
  rcases hx with rfl | rfl | rfl | rfl | rfl <;> exact sb_lt hC hC3 hS hS3 hG hG3 (by decide)
theorem bt_send (hi : lI h i) (hK : K.length = 5) (hK6 : ∀ s ∈ K, s < 6) (hC : C.length = 5) (hC3 : ∀ s ∈ C, s < 3) (hS : S.length = 5) (hS3 : ∀ s ∈ S, s < 3) (hG : G.length = 5) (hG3 : ∀ s ∈ G, s < 3) {s n b : Nat} {l4 : Option Value} (hb : b < n) (hn : n < 1000) (k : Ev (d + 2) m_X3_sendFor 7 [some (.ref i), some (.int (nI s)), some (.int (nI n)), some (.int (nI (b + 1))), some (.int (nI 5))] [] (lh h i K (bst K C S G) C C c t j) Q) : Ev (d + 2) m_X3_sendFor 7 [some (.ref i), some (.int (nI s)), some (.int (nI n)), some (.int (nI b)), l4] [] (lh h i K S G C c t j) Q := by
  have hsb : ∀ p, p < 5 → sb K C S G p < 3 := fun p hp => sb_lt hC hC3 hS hS3 hG hG3 hp
  obtain ⟨k0, k1, k2, k3, k4, rfl⟩ := l5 hK
  obtain ⟨c0, c1, c2, c3, c4, rfl⟩ := l5 hC
  obtain ⟨s0, s1, s2, s3, s4, rfl⟩ := l5 hS
  obtain ⟨g0, g1, g2, g3, g4, rfl⟩ := l5 hG
  simp only [List.mem_cons, List.not_mem_nil, or_false, forall_eq_or_imp, forall_eq] at hK6 hC3 hS3 hG3
  iterate 3 refine ev_nx rfl ?_
  refine ev_ge (fun h => absurd h (by omega)) (fun _ => ?_)
  iterate 2 refine ev_nx rfl ?_
  have B0 := hsb 0 (by decide)
  have B1 := hsb 1 (by decide)
  have B2 := hsb 2 (by decide)
  have B3 := hsb 3 (by decide)
  simp only [sb] at B0 B1 B2 B3
  refine it_send hi rfl (by simp; omega) rfl (by simp; omega) rfl (by simp; omega) rfl (by simp; omega) (p := 0) (by decide) ?_
  refine it_send hi rfl (by simp; omega) rfl (by simp; omega) rfl (l_set_lt (by simp; omega) B0) rfl (by simp; omega) (p := 1) (by decide) ?_
  refine it_send hi rfl (by simp; omega) rfl (by simp; omega) rfl (l_set_lt (l_set_lt (by simp; omega) B0) B1) rfl (by simp; omega) (p := 2) (by decide) ?_
  refine it_send hi rfl (by simp; omega) rfl (by simp; omega) rfl (l_set_lt (l_set_lt (l_set_lt (by simp; omega) B0) B1) B2) rfl (by simp; omega) (p := 3) (by decide) ?_
  refine it_send hi rfl (by simp; omega) rfl (by simp; omega) rfl (l_set_lt (l_set_lt (l_set_lt (l_set_lt (by simp; omega) B0) B1) B2) B3) rfl (by simp; omega) (p := 4) (by decide) ?_
  iterate 3 refine ev_nx rfl ?_
  refine ev_ge (fun _ => ?_) (fun h => absurd h (by decide))
  iterate 2 refine ev_nx rfl ?_
  rw [nI_add]
  exact k
theorem lp_send (hi : lI h i) (hK : K.length = 5) (hK6 : ∀ s ∈ K, s < 6) (hC : C.length = 5) (hC3 : ∀ s ∈ C, s < 3) {s n : Nat} (hn : n < 1000) : ∀ (r b : Nat) (S G : List Nat) (l4 : Option Value), b + r = n → S.length = 5 → (∀ s ∈ S, s < 3) → G.length = 5 → (∀ s ∈ G, s < 3) → (∀ l4, Ev (d + 2) m_X3_sendFor 91 [some (.ref i), some (.int (nI s)), some (.int (nI n)), some (.int (nI n)), l4] [] (lh h i K (btn K C r S G) (gtn C r G) C c t j) Q) → Ev (d + 2) m_X3_sendFor 7 [some (.ref i), some (.int (nI s)), some (.int (nI n)), some (.int (nI b)), l4] [] (lh h i K S G C c t j) Q := by
  intro r
  induction r with
  | zero =>
    intro b S G l4 hb hS hS3 hG hG3 k
    have hb : b = n := by omega
    subst hb
    iterate 3 refine ev_nx rfl ?_
    exact ev_ge (fun _ => k l4) (fun h => absurd h (by omega))
  | succ r ih =>
    intro b S G l4 hb hS hS3 hG hG3 k
    refine bt_send hi hK hK6 hC hC3 hS hS3 hG hG3 (by omega) hn ?_
    refine ih (b + 1) _ _ _ (by omega) rfl (bst_lt hC hC3 hS hS3 hG hG3) hC hC3 (fun l4 => ?_)
    have k1 := k l4
    rw [btn, gtn, if_neg (by omega)] at k1
    have e : gtn C r C = C := by unfold gtn; split <;> rfl
    rw [e]
    exact k1
theorem btn_ok (hC : C.length = 5) (hC3 : ∀ s ∈ C, s < 3) : ∀ (r : Nat) (S G : List Nat), S.length = 5 → (∀ s ∈ S, s < 3) → G.length = 5 → (∀ s ∈ G, s < 3) → (btn K C r S G).length = 5 ∧ ∀ s ∈ btn K C r S G, s < 3
  | 0, S, G, hS, hS3, _, _ => ⟨hS, hS3⟩
  | r + 1, S, G, hS, hS3, hG, hG3 => btn_ok hC hC3 r _ _ rfl (bst_lt hC hC3 hS hS3 hG hG3) hC hC3
theorem gtn_ok (hC : C.length = 5) (hC3 : ∀ s ∈ C, s < 3) (r : Nat) (hG : G.length = 5) (hG3 : ∀ s ∈ G, s < 3) : (gtn C r G).length = 5 ∧ ∀ s ∈ gtn C r G, s < 3 := by
  unfold gtn; split
  · exact ⟨hG, hG3⟩
  · exact ⟨hC, hC3⟩
/-- a line is as it must be -/
def lok (K S G : List Nat) (c t j : Nat) : Prop := (K.length = 5 ∧ ∀ s ∈ K, s < 6) ∧ (S.length = 5 ∧ ∀ s ∈ S, s < 3) ∧ (G.length = 5 ∧ ∀ s ∈ G, s < 3) ∧ c < 32 ∧ t < 32 ∧ j < 16
theorem e_sendFor (hi : lI h i) (ok : lok K S G c t j) (hC : C.length = 5) {s n : Nat} (hs : s < 31) (hn : n < 1000) : Ec (d + 2) m_X3_sendFor [.ref i, .int (nI s), .int (nI n)] (lh h i K S G C c t j) (rt (.int (nI (rdS (btn K (cry s c t j) n S G)))) (lh h i K (btn K (cry s c t j) n S G) (gtn (cry s c t j) n G) (cry s c t j) c t j)) := by
  obtain ⟨⟨hK, hK6⟩, ⟨hS, hS3⟩, ⟨hG, hG3⟩, hc, ht, hj⟩ := ok
  have hb := btn_ok (K := K) (cry_len (s := s) (c := c) (t := t) (j := j)) (cry_lt hs) n S G hS hS3 hG hG3
  refine ec_in [some (.ref i), some (.int (nI s)), some (.int (nI n)), none, none] rfl rfl ?_
  iterate 2 refine ev_nx rfl ?_
  refine ev_vv rfl rfl rfl rfl rfl rfl (lh_0 hi.1) rfl (e_carrySign hi hC hc ht (by omega) hs) ?_ (by have := hi.1; have := hi.2; omega)
  iterate 2 refine ev_nx rfl ?_
  refine lp_send hi hK hK6 cry_len (cry_lt hs) hn n 0 S G _ (by omega) hS hS3 hG hG3 (fun l4 => ?_)
  refine ev_nx rfl ?_
  refine ev_vi rfl rfl rfl rfl rfl rfl (lh_0 hi.1) rfl (e_readSign hi hb.1 hb.2) ?_ (by have := hi.1; have := hi.2; omega)
  exact ev_ri rfl rfl rfl ⟨rfl, rfl⟩
def z5 : List Nat := [0, 0, 0, 0, 0]
theorem lok_rest {K S G : List Nat} {c t j : Nat} (ok : lok K S G c t j) : lok K z5 z5 c t j := ⟨ok.1, ⟨rfl, by decide⟩, ⟨rfl, by decide⟩, ok.2.2.2⟩
theorem e_sendFromRest (hi : lI h i) (ok : lok K S G c t j) (hC : C.length = 5) {s n : Nat} (hs : s < 31) (hn : n < 1000) : Ec (d + 3) m_X3_sendFromRest [.ref i, .int (nI s), .int (nI n)] (lh h i K S G C c t j) (rt (.int (nI (rdS (btn K (cry s c t j) n z5 z5)))) (lh h i K (btn K (cry s c t j) n z5 z5) (gtn (cry s c t j) n z5) (cry s c t j) c t j)) := by
  refine ec_in [some (.ref i), some (.int (nI s)), some (.int (nI n))] rfl rfl ?_
  refine ev_nx rfl ?_
  refine ev_vv rfl rfl rfl rfl rfl rfl (lh_0 hi.1) rfl (e_rest hi ok.2.1.1 ok.2.2.1.1) ?_ (by have := hi.1; have := hi.2; omega)
  iterate 3 refine ev_nx rfl ?_
  refine ev_vi rfl rfl rfl rfl rfl rfl (lh_0 hi.1) rfl (e_sendFor hi (lok_rest ok) hC hs hn) ?_ (by have := hi.1; have := hi.2; omega)
  exact ev_ri rfl rfl rfl ⟨rfl, rfl⟩
end LS
