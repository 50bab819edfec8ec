/-! what the wires carry -/
section LC
variable {h : aH} {i : Nat} {K S G C : List Nat} {c t j : Nat} {d : Nat} {Q : Option Value → aH → Prop}
def ptT : List Nat := [1, 0, 0, 0, 2, 1, 0, 0, 2, 0, 0, 1, 0, 0, 2, 1, 0, 2, 0, 0, 0, 1, 0, 2, 0, 0, 0, 1, 0, 2, 1, 2, 0, 0, 0, 0, 1, 2, 0, 0, 0, 0, 1, 2, 0, 0, 0, 0, 1, 2, 2, 1, 0, 0, 0, 0, 2, 1, 0, 0, 0, 0, 2, 1, 0, 0, 0, 0, 2, 1, 2, 0, 1, 0, 0, 0, 2, 0, 1, 0, 0, 0, 2, 0, 1, 2, 0, 0, 1, 0, 0, 2, 0, 0, 1, 2, 0, 0, 0, 1, 1, 0, 0, 0, 0, 0, 1, 0, 0, 0, 0, 0, 1, 0, 0, 0, 0, 0, 1, 0, 0, 0, 0, 0, 1, 2, 0, 0, 0, 0, 0, 2, 0, 0, 0, 0, 0, 2, 0, 0, 0, 0, 0, 2, 0, 0, 0, 0, 0, 2, 0, 0, 0, 0, 0]
/-- by a sign, as what the needle at a place is -/
def pt (s p : Nat) : Nat := ptT.getD (s * 5 + p) 0
theorem t0_at {x : Nat} (hx : x < 155) : am_t0[x]? = some (nI (ptT.getD x 0)) ∧ ptT.getD x 0 < 3 := (show ∀ x : Fin 155, am_t0[x.val]? = some (nI (ptT.getD x.val 0)) ∧ ptT.getD x.val 0 < 3 by decide +kernel) ⟨x, hx⟩
theorem pt_lt {s p : Nat} (hs : s < 31) (hp : p < 5) : pt s p < 3 := (t0_at (x := s * 5 + p) (by omega)).2
/-- what a wire bears -/
def brn (t g p : Nat) : Nat := if bt t p = 1 then oth g else g
def bcu (c t g p : Nat) : Nat := if bt c p = 1 then 0 else brn t g p
theorem it_carry1 (hi : lI h i) (hC : C.length = 5) (hc32 : c < 32) (ht32 : t < 32) {s p : Nat} {l3 l4 : Option Value} (hs : s < 31) (hp : p < 5) (k : Ev (d + 1) m_X3_carrySign 2 [some (.ref i), some (.int (nI s)), some (.int (nI (p + 1))), some (.int (nI (pt s p))), some (.int (nI (brn t (pt s p) p)))] [] (lh h i K S G (C.set p (bcu c t (pt s p) p)) c t j) Q) (hl3 : am_nl [some (.ref i), some (.int (nI s)), some (.int (nI p)), l3, l4] 4 = true) : Ev (d + 1) m_X3_carrySign 2 [some (.ref i), some (.int (nI s)), some (.int (nI p)), l3, l4] [] (lh h i K S G C c t j) Q := by
  have hpt := pt_lt hs hp
  have hb1 := bt_lt t p
  have hb2 := bt_lt c p
  have H : Ev (d + 1) m_X3_carrySign 39 [some (.ref i), some (.int (nI s)), some (.int (nI p)), some (.int (nI (pt s p))), some (.int (nI (brn t (pt s p) p)))] [] (lh h i K S G C c t j) Q := by
    refine ev_nx rfl ?_
    refine ev_lf hi rfl rfl rfl rfl ?_
    iterate 2 refine ev_nx rfl ?_
    refine ev_lf hi rfl rfl rfl rfl ?_
    refine ev_nx rfl ?_
    refine ev_ci rfl rfl (ec_le (Nat.zero_le d) (e_bitAt c p (by omega) (by omega) _)) ?_
    iterate 2 refine ev_nx rfl ?_
    refine ev_ne (fun hc => ?_) (fun hc => ?_)
    · refine ev_nx rfl ?_
      first | refine ev_sK hi rfl (by omega) ?_ | refine ev_sS hi rfl (by omega) ?_ | refine ev_sG hi rfl (by omega) ?_ | refine ev_sC hi rfl (by omega) ?_
      iterate 2 refine ev_nx rfl ?_
      rw [nI_add]
      rw [bcu, if_neg hc] at k
      exact k
    · iterate 2 refine ev_nx rfl ?_
      first | refine ev_sK hi rfl (by omega) ?_ | refine ev_sS hi rfl (by omega) ?_ | refine ev_sG hi rfl (by omega) ?_ | refine ev_sC hi rfl (by omega) ?_
      iterate 2 refine ev_nx rfl ?_
      rw [nI_add]
      rw [bcu, if_pos hc] at k
      exact k
  iterate 3 refine ev_nx rfl ?_
  refine ev_ge (fun h => absurd h (by omega)) (fun _ => ?_)
  iterate 6 refine ev_nx rfl ?_
  rw [pk_mul, nI_add]
  refine ev_ia (a := 100000) rfl rfl (t0_at (by omega)).1 ?_
  iterate 2 refine ev_nx rfl ?_
  refine ev_lf hi rfl rfl rfl rfl ?_
  refine ev_nx rfl ?_
  refine ev_ci rfl rfl (ec_le (Nat.zero_le d) (e_bitAt t p (by omega) (by omega) _)) ?_
  iterate 2 refine ev_nx rfl ?_
  refine ev_ne (fun hc => ?_) (fun hc => ?_)
  · iterate 2 refine ev_nx rfl ?_
    rw [brn, if_neg hc] at H
    exact H
  · refine ev_nx rfl ?_
    refine ev_ci rfl rfl (ec_le (Nat.zero_le d) (e_otherWay (pt s p) (by omega) _)) ?_
    iterate 2 refine ev_nx rfl ?_
    rw [brn, if_pos hc] at H
    exact H
/-! wires that touch -/
theorem an_n : ∀ (j : Fin 32) (q : Fin 5), nI j.val &&& (nI 1 <<< (nI q.val &&& 31)) = nI (j.val &&& 2 ^ q.val) ∧ (j.val &&& 2 ^ q.val = 0 ↔ bt j.val q.val = 0) ∧ j.val &&& 2 ^ q.val < 32 := by decide +kernel
/-- the last one of those together with q -/
def gE (j : Nat) : Nat → Nat → Nat
  | q, 0 => q
  | q, n + 1 => if q < 4 ∧ ¬ bt j q = 0 then gE j (q + 1) n else q
theorem gE_le (j : Nat) : ∀ (n q : Nat), q ≤ 4 → q ≤ gE j q n ∧ gE j q n ≤ 4
  | 0, q, h => ⟨Nat.le_refl _, h⟩
  | n + 1, q, h => by
    unfold gE
    split
    · rename_i hc
      have := gE_le j n (q + 1) (by omega)
      omega
    · omega
theorem lp_share1 (hi : lI h i) (hj : j < 32) {f : Nat} {l3 l4 l5 : Option Value} : ∀ (n q : Nat), q + n = 4 → Ev d m_X3_shareFrom 24 [some (.ref i), some (.int (nI f)), some (.int (nI (gE j q n))), l3, l4, l5] [] (lh h i K S G C c t j) Q → Ev d m_X3_shareFrom 2 [some (.ref i), some (.int (nI f)), some (.int (nI q)), l3, l4, l5] [] (lh h i K S G C c t j) Q := by
  intro n
  induction n with
  | zero =>
    intro q hq k
    iterate 3 refine ev_nx rfl ?_
    exact ev_ge (fun _ => k) (fun h => absurd h (by omega))
  | succ n ih =>
    intro q hq k
    obtain ⟨e1, e2, e3⟩ := an_n ⟨j, hj⟩ ⟨q, by omega⟩
    simp only at e1 e2 e3
    iterate 3 refine ev_nx rfl ?_
    refine ev_ge (fun h => absurd h (by omega)) (fun _ => ?_)
    refine ev_nx rfl ?_
    refine ev_lf hi rfl rfl rfl rfl ?_
    iterate 4 refine ev_nx rfl ?_
    rw [e1]
    refine ev_nx rfl ?_
    refine ev_eq0 (fun hc => ?_) (fun hc => ?_)
    · rw [gE, if_neg (fun z => z.2 (e2.mp hc))] at k
      exact k
    · rw [gE, if_pos ⟨by omega, fun z => hc (e2.mpr z)⟩] at k
      iterate 2 refine ev_nx rfl ?_
      rw [nI_add]
      exact ih (q + 1) (by omega) k
/-- how many of n from p on are v -/
def sgc (C : List Nat) (v : Nat) : Nat → Nat → Nat
  | _, 0 => 0
  | p, n + 1 => (if C.getD p 0 = v then 1 else 0) + sgc C v (p + 1) n
theorem sgc_le (C : List Nat) (v : Nat) : ∀ n p, sgc C v p n ≤ n
  | 0, p => Nat.le_refl _
  | n + 1, p => by
    have := sgc_le C v n (p + 1)
    unfold sgc
    split <;> omega
theorem n_pm (a b x y : Nat) : nI a - nI b + nI x - nI y = nI (a + x) - nI (b + y) := by
  rw [← nI_add, ← nI_add]
  simp only [Int32.sub_eq_add_neg, Int32.neg_add]
  ac_rfl
theorem n_le0 {a b : Nat} (ha : a < 100) (hb : b < 100) : (am_c2 .le (nI a - nI b) 0 = true ↔ a ≤ b) ∧ (am_c2 .ge (nI a - nI b) 0 = true ↔ b ≤ a) := by
  have h := pk_sub_toInt (a := a) (b := b) (by omega) (by omega)
  simp only [am_c2, decide_eq_true_eq, Int32.le_iff_toInt_le, h]
  have h0 : (0 : Int32).toInt = 0 := rfl
  rw [h0]
  omega
theorem lp_share2 (hi : lI h i) (hC : C.length = 5) (hC3 : ∀ s ∈ C, s < 3) {f q : Nat} {l5 : Option Value} (hq : q < 5) : ∀ (n p a b : Nat), p + n = q + 1 → a + n ≤ 10 → b + n ≤ 10 → Ev d m_X3_shareFrom 79 [some (.ref i), some (.int (nI f)), some (.int (nI q)), some (.int (nI (a + sgc C 1 p n) - nI (b + sgc C 2 p n))), some (.int (nI (q + 1))), l5] [] (lh h i K S G C c t j) Q → Ev d m_X3_shareFrom 29 [some (.ref i), some (.int (nI f)), some (.int (nI q)), some (.int (nI a - nI b)), some (.int (nI p)), l5] [] (lh h i K S G C c t j) Q := by
  intro n
  induction n with
  | zero =>
    intro p a b hp ha hb k
    have hp : p = q + 1 := by omega
    subst hp
    iterate 3 refine ev_nx rfl ?_
    exact ev_gt (fun _ => k) (fun h => absurd h (by omega))
  | succ n ih =>
    intro p a b hp ha hb k
    have hs := gd3 hC3 (p := p) (by omega)
    have H : ∀ x y : Nat, x = (if C.getD p 0 = 1 then 1 else 0) → y = (if C.getD p 0 = 2 then 1 else 0) → Ev d m_X3_shareFrom 29 [some (.ref i), some (.int (nI f)), some (.int (nI q)), some (.int (nI a - nI b + nI x - nI y)), some (.int (nI p + nI 1)), l5] [] (lh h i K S G C c t j) Q := by
      intro x y hx hy
      have hx1 : x ≤ 1 := by rw [hx]; split <;> omega
      have hy1 : y ≤ 1 := by rw [hy]; split <;> omega
      rw [n_pm, nI_add]
      refine ih (p + 1) (a + x) (b + y) (by omega) (by omega) (by omega) ?_
      rw [sgc, sgc, ← hx, ← hy, ← Nat.add_assoc, ← Nat.add_assoc] at k
      exact k
    have H2 : ∀ x : Nat, x = (if C.getD p 0 = 1 then 1 else 0) → Ev d m_X3_shareFrom 54 [some (.ref i), some (.int (nI f)), some (.int (nI q)), some (.int (nI a - nI b + nI x)), some (.int (nI p)), l5] [] (lh h i K S G C c t j) Q := by
      intro x hx
      iterate 2 refine ev_nx rfl ?_
      refine ev_lf hi rfl rfl rfl rfl ?_
      refine ev_nx rfl ?_
      first | refine ev_lK hi rfl (by omega) ?_ | refine ev_lS hi rfl (by omega) ?_ | refine ev_lG hi rfl (by omega) ?_ | refine ev_lC hi rfl (by omega) ?_
      refine ev_nx rfl ?_
      refine ev_nx rfl ?_
      refine ev_ne (fun hc => ?_) (fun hc => ?_)
      · iterate 5 refine ev_nx rfl ?_
        exact H x 0 hx (by rw [if_neg hc])
      · iterate 6 refine ev_nx rfl ?_
        exact H x 1 hx (by rw [if_pos hc])
    iterate 3 refine ev_nx rfl ?_
    refine ev_gt (fun h => absurd h (by omega)) (fun _ => ?_)
    iterate 2 refine ev_nx rfl ?_
    refine ev_lf hi rfl rfl rfl rfl ?_
    refine ev_nx rfl ?_
    first | refine ev_lK hi rfl (by omega) ?_ | refine ev_lS hi rfl (by omega) ?_ | refine ev_lG hi rfl (by omega) ?_ | refine ev_lC hi rfl (by omega) ?_
    refine ev_nx rfl ?_
    refine ev_nx rfl ?_
    refine ev_ne (fun hc => ?_) (fun hc => ?_)
    · iterate 3 refine ev_nx rfl ?_
      exact H2 0 (by rw [if_neg hc])
    · iterate 4 refine ev_nx rfl ?_
      exact H2 1 (by rw [if_pos hc])
/-- each of n from p on has what is shared, if it isn't cut -/
def shs (c v : Nat) : Nat → Nat → List Nat → List Nat
  | _, 0, C => C
  | p, n + 1, C => shs c v (p + 1) n (C.set p (if bt c p = 0 then v else 0))
theorem shs_len (c v : Nat) : ∀ n p C, (shs c v p n C).length = C.length
  | 0, p, C => rfl
  | n + 1, p, C => by rw [shs, shs_len c v n]; simp
theorem shs_lt {c v : Nat} (hv : v < 3) : ∀ n p C, (∀ s ∈ C, s < 3) → ∀ s ∈ shs c v p n C, s < 3
  | 0, p, C, h => h
  | n + 1, p, C, h => by
    rw [shs]
    refine shs_lt hv n (p + 1) _ (fun s hs => ?_)
    rcases List.mem_or_eq_of_mem_set hs with h1 | h1
    · exact h s h1
    · rw [h1]; split <;> omega
theorem lp_share3 (hi : lI h i) (hc32 : c < 32) {f q v : Nat} {l3 : Option Value} (hq : q < 5) (hnl : am_nl [some (.ref i), some (.int (nI f)), some (.int (nI q)), l3, some (.int (nI v))] 5 = true) : ∀ (n p : Nat) (C : List Nat), C.length = 5 → p + n = q + 1 → Ev d m_X3_shareFrom 138 [some (.ref i), some (.int (nI f)), some (.int (nI q)), l3, some (.int (nI v)), some (.int (nI (q + 1)))] [] (lh h i K S G (shs c v p n C) c t j) Q → Ev d m_X3_shareFrom 101 [some (.ref i), some (.int (nI f)), some (.int (nI q)), l3, some (.int (nI v)), some (.int (nI p))] [] (lh h i K S G C c t j) Q := by
  intro n
  induction n with
  | zero =>
    intro p C hC hp k
    have hp : p = q + 1 := by omega
    subst hp
    iterate 3 refine ev_nx rfl ?_
    exact ev_gt (fun _ => k) (fun h => absurd h (by omega))
  | succ n ih =>
    intro p C hC hp k
    obtain ⟨e1, e2, e3⟩ := an_n ⟨c, hc32⟩ ⟨p, by omega⟩
    simp only at e1 e2 e3
    iterate 3 refine ev_nx rfl ?_
    refine ev_gt (fun h => absurd h (by omega)) (fun _ => ?_)
    refine ev_nx rfl ?_
    refine ev_lf hi rfl rfl rfl rfl ?_
    iterate 2 refine ev_nx rfl ?_
    refine ev_lf hi rfl rfl rfl rfl ?_
    iterate 4 refine ev_nx rfl ?_
    rw [e1]
    refine ev_nx rfl ?_
    rw [shs] at k
    refine ev_eq0 (fun hc => ?_) (fun hc => ?_)
    · refine ev_nx rfl ?_
      first | refine ev_sK hi rfl (by omega) ?_ | refine ev_sS hi rfl (by omega) ?_ | refine ev_sG hi rfl (by omega) ?_ | refine ev_sC hi rfl (by omega) ?_
      iterate 2 refine ev_nx rfl ?_
      rw [nI_add]
      rw [if_pos (e2.mp hc)] at k
      exact ih (p + 1) _ (by simp [hC]) (by omega) k
    · iterate 2 refine ev_nx rfl ?_
      first | refine ev_sK hi rfl (by omega) ?_ | refine ev_sS hi rfl (by omega) ?_ | refine ev_sG hi rfl (by omega) ?_ | refine ev_sC hi rfl (by omega) ?_
      iterate 2 refine ev_nx rfl ?_
      rw [nI_add]
      rw [if_neg (fun z => hc (e2.mpr z))] at k
      exact ih (p + 1) _ (by simp [hC]) (by omega) k
/-- the greater number: to the right, to the left, neither -/
def maj (a b : Nat) : Nat := if a ≤ b then (if b ≤ a then 0 else 2) else 1
theorem maj_lt (a b : Nat) : maj a b < 3 := by unfold maj; split <;> (try split) <;> omega
def shf (c j : Nat) (C : List Nat) (f : Nat) : List Nat := shs c (maj (sgc C 1 f (gE j f (4 - f) + 1 - f)) (sgc C 2 f (gE j f (4 - f) + 1 - f))) f (gE j f (4 - f) + 1 - f) C
theorem e_shareFrom (hi : lI h i) (hC : C.length = 5) (hC3 : ∀ s ∈ C, s < 3) (hc32 : c < 32) (hj : j < 32) {f : Nat} (hf : f < 5) : Ec d m_X3_shareFrom [.ref i, .int (nI f)] (lh h i K S G C c t j) (rtv (lh h i K S G (shf c j C f) c t j)) := by
  obtain ⟨g1, g2⟩ := gE_le j (4 - f) f (by omega)
  have hR := sgc_le C 1 (gE j f (4 - f) + 1 - f) f
  have hL := sgc_le C 2 (gE j f (4 - f) + 1 - f) f
  unfold shf
  refine ec_in [some (.ref i), some (.int (nI f)), none, none, none, none] rfl rfl ?_
  iterate 2 refine ev_nx rfl ?_
  refine lp_share1 hi hj (4 - f) f (by omega) ?_
  iterate 4 refine ev_nx rfl ?_
  rw [show nI 0 = nI 0 - nI 0 from rfl]
  refine lp_share2 hi hC hC3 (q := gE j f (4 - f)) (by omega) (gE j f (4 - f) + 1 - f) f 0 0 (by omega) (by omega) (by omega) ?_
  rw [Nat.zero_add, Nat.zero_add]
  generalize hq : gE j f (4 - f) = q at *
  generalize hn : q + 1 - f = n at *
  generalize ha : sgc C 1 f n = a at *
  generalize hb : sgc C 2 f n = b at *
  obtain ⟨n1, n2⟩ := n_le0 (a := a) (b := b) (by omega) (by omega)
  have H : ∀ v : Nat, v = maj a b → Ev d m_X3_shareFrom 98 [some (.ref i), some (.int (nI f)), some (.int (nI q)), some (.int (nI a - nI b)), some (.int (nI v)), none] [] (lh h i K S G C c t j) (rtv (lh h i K S G (shs c (maj a b) f n C) c t j)) := by
    intro v hv
    iterate 2 refine ev_nx rfl ?_
    refine lp_share3 hi hc32 (by omega) rfl n f C hC (by omega) ?_
    rw [hv]
    exact ev_rt rfl ⟨rfl, rfl⟩
  iterate 2 refine ev_nx rfl ?_
  refine ev_c n1 (fun hc => ?_) (fun hc => ?_)
  · iterate 2 refine ev_nx rfl ?_
    refine ev_c n2 (fun hc2 => ?_) (fun hc2 => ?_)
    · iterate 2 refine ev_nx rfl ?_
      exact H 0 (by rw [maj, if_pos hc, if_pos hc2])
    · iterate 3 refine ev_nx rfl ?_
      exact H 2 (by rw [maj, if_pos hc, if_neg hc2])
  · iterate 3 refine ev_nx rfl ?_
    exact H 1 (by rw [maj, if_neg hc])
theorem shf_len {f : Nat} : (shf c j C f).length = C.length := by unfold shf; exact shs_len _ _ _ _ _
theorem shf_lt {f : Nat} (hC3 : ∀ s ∈ C, s < 3) : ∀ s ∈ shf c j C f, s < 3 := by unfold shf; exact shs_lt (maj_lt _ _) _ _ _ hC3
end LC
