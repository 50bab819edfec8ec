/-! what is read -/
section LR
variable {h : aH} {i : Nat} {K S G C : List Nat} {c t j : Nat} {d : Nat} {Q : Option Value → aH → Prop}
theorem gd3 {S : List Nat} {n p : Nat} (hS : ∀ s ∈ S, s < n) (hp : p < S.length) : S.getD p 0 < n := hS _ (by rw [List.getD, List.getElem?_eq_getElem hp]; exact List.getElem_mem _)
def lbT : List Nat := [31, 6, 3, 1, 0, 10, 31, 7, 4, 2, 14, 11, 31, 8, 5, 17, 15, 12, 31, 9, 19, 18, 16, 13, 31]
theorem t1_at {x : Nat} (hx : x < 25) : am_t1[x]? = some (nI (lbT.getD x 0)) := (show ∀ x : Fin 25, am_t1[x.val]? = some (nI (lbT.getD x.val 0)) by decide +kernel) ⟨x, hx⟩
def rdA (r l ra la : Nat) : Nat := if 1 < r ∨ 1 < l then 31 else if r = 1 then (if l = 1 then lbT.getD (ra * 5 + la) 0 else 20 + ra) else if l = 1 then 25 + la else 30
theorem it_readSign (hi : lI h i) (hS : S.length = 5) (hS3 : ∀ s ∈ S, s < 3) {p r l ra la : Nat} (hp : p < 5) (k : Ev d m_X3_readSign 12 [some (.ref i), some (.int (nI (if S.getD p 0 = 1 then r + 1 else r))), some (.int (nI (if S.getD p 0 = 2 then l + 1 else l))), some (.int (nI (if S.getD p 0 = 1 then p else ra))), some (.int (nI (if S.getD p 0 = 2 then p else la))), some (.int (nI (p + 1)))] [] (lh h i K S G C c t j) Q) : Ev d m_X3_readSign 12 [some (.ref i), some (.int (nI r)), some (.int (nI l)), some (.int (nI ra)), some (.int (nI la)), some (.int (nI p))] [] (lh h i K S G C c t j) Q := by
  have hs : S.getD p 0 < 3 := gd3 hS3 (by omega)
  iterate 3 refine ev_nx rfl ?_
  refine ev_ge (fun h => absurd h (by omega)) (fun _ => ?_)
  refine ev_nx rfl ?_
  refine ev_lf hi rfl rfl rfl rfl ?_
  refine ev_nx rfl ?_
  first | refine ev_lK hi rfl (by omega) ?_ | refine ev_lS hi rfl (by omega) ?_ | refine ev_lG hi rfl (by omega) ?_ | refine ev_lC hi rfl (by omega) ?_
  refine ev_nx rfl ?_
  refine ev_nx rfl ?_
  refine ev_ne (fun hc => ?_) (fun hc => ?_)
  · refine ev_nx rfl ?_
    refine ev_lf hi rfl rfl rfl rfl ?_
    refine ev_nx rfl ?_
    first | refine ev_lK hi rfl (by omega) ?_ | refine ev_lS hi rfl (by omega) ?_ | refine ev_lG hi rfl (by omega) ?_ | refine ev_lC hi rfl (by omega) ?_
    refine ev_nx rfl ?_
    refine ev_nx rfl ?_
    simp only [if_neg hc] at k
    refine ev_ne (fun hc2 => ?_) (fun hc2 => ?_)
    · iterate 2 refine ev_nx rfl ?_
      simp only [if_neg hc2] at k
      rw [nI_add]
      exact k
    · iterate 5 refine ev_nx rfl ?_
      simp only [if_pos hc2] at k
      rw [nI_add, nI_add]
      exact k
  · iterate 6 refine ev_nx rfl ?_
    have hc2 : ¬ S.getD p 0 = 2 := by omega
    simp only [if_pos hc, if_neg hc2] at k
    rw [nI_add, nI_add]
    exact k
theorem x_readSign {r l ra la : Nat} {L : aL} (hr : r < 10) (hl : l < 10) (hra : ra < 5) (hla : la < 5) (hL : L = [some (.ref i), some (.int (nI r)), some (.int (nI l)), some (.int (nI ra)), some (.int (nI la)), some (.int (nI 5))]) : Ev d m_X3_readSign 62 L [] h (rt (.int (nI (rdA r l ra la))) h) := by
  subst hL
  unfold rdA
  iterate 3 refine ev_nx rfl ?_
  refine ev_gt (fun hc => ?_) (fun hc => ?_)
  · rw [if_pos (Or.inl hc)]
    refine ev_nx rfl ?_
    exact ev_ri rfl rfl rfl ⟨rfl, rfl⟩
  · iterate 3 refine ev_nx rfl ?_
    refine ev_leq (fun hc2 => ?_) (fun hc2 => ?_)
    · rw [if_neg (by omega)]
      iterate 3 refine ev_nx rfl ?_
      refine ev_ne (fun hr1 => ?_) (fun hr1 => ?_)
      · rw [if_neg hr1]
        iterate 3 refine ev_nx rfl ?_
        refine ev_ne (fun hl1 => ?_) (fun hl1 => ?_)
        · rw [if_neg hl1]
          refine ev_nx rfl ?_
          exact ev_ri rfl rfl rfl ⟨rfl, rfl⟩
        · rw [if_pos hl1]
          iterate 4 refine ev_nx rfl ?_
          rw [nI_add]
          exact ev_ri rfl rfl rfl ⟨rfl, rfl⟩
      · rw [if_pos hr1]
        iterate 3 refine ev_nx rfl ?_
        refine ev_ne (fun hl1 => ?_) (fun hl1 => ?_)
        · rw [if_neg hl1]
          iterate 3 refine ev_nx rfl ?_
          rw [nI_add]
          exact ev_ri rfl rfl rfl ⟨rfl, rfl⟩
        · rw [if_pos hl1]
          iterate 6 refine ev_nx rfl ?_
          rw [pk_mul, nI_add]
          refine ev_ia (a := 100001) rfl rfl (t1_at (by omega)) ?_
          refine ev_nx rfl ?_
          exact ev_ri rfl rfl rfl ⟨rfl, rfl⟩
    · rw [if_pos (Or.inr hc2)]
      refine ev_nx rfl ?_
      exact ev_ri rfl rfl rfl ⟨rfl, rfl⟩
def rsF : List Nat → Nat → Nat → Nat → Nat → Nat → Nat
  | [], _, r, l, ra, la => rdA r l ra la
  | s :: S, p, r, l, ra, la => rsF S (p + 1) (if s = 1 then r + 1 else r) (if s = 2 then l + 1 else l) (if s = 1 then p else ra) (if s = 2 then p else la)
/-- what is read by needles that stand so -/
def rdS (S : List Nat) : Nat := rsF S 0 0 0 0 0
theorem ite_le1 {P : Prop} [Decidable P] (r n : Nat) (h : r ≤ n) : (if P then r + 1 else r) ≤ n + 1 := by split <;> omega
theorem ite_lt5 {P : Prop} [Decidable P] (p ra : Nat) (h : p < 5) (h2 : ra < 5) : (if P then p else ra) < 5 := by split <;> omega
theorem e_readSign (hi : lI h i) (hS : S.length = 5) (hS3 : ∀ s ∈ S, s < 3) : Ec d m_X3_readSign [.ref i] (lh h i K S G C c t j) (rt (.int (nI (rdS S))) (lh h i K S G C c t j)) := by
  obtain ⟨a0, a1, a2, a3, a4, rfl⟩ := l5 hS
  refine ec_in [some (.ref i), none, none, none, none, none] rfl rfl ?_
  iterate 10 refine ev_nx rfl ?_
  refine it_readSign hi rfl hS3 (p := 0) (r := 0) (l := 0) (ra := 0) (la := 0) (by decide) ?_
  refine it_readSign hi rfl hS3 (p := 1) (by decide) ?_
  refine it_readSign hi rfl hS3 (p := 2) (by decide) ?_
  refine it_readSign hi rfl hS3 (p := 3) (by decide) ?_
  refine it_readSign hi rfl hS3 (p := 4) (by decide) ?_
  iterate 3 refine ev_nx rfl ?_
  refine ev_ge (fun _ => ?_) (fun h => absurd h (by decide))
  refine x_readSign ?_ ?_ ?_ ?_ rfl
  · exact Nat.lt_of_le_of_lt (ite_le1 _ 4 (ite_le1 _ 3 (ite_le1 _ 2 (ite_le1 _ 1 (ite_le1 _ 0 (Nat.le_refl 0)))))) (by decide)
  · exact Nat.lt_of_le_of_lt (ite_le1 _ 4 (ite_le1 _ 3 (ite_le1 _ 2 (ite_le1 _ 1 (ite_le1 _ 0 (Nat.le_refl 0)))))) (by decide)
  · exact ite_lt5 _ _ (by decide) (ite_lt5 _ _ (by decide) (ite_lt5 _ _ (by decide) (ite_lt5 _ _ (by decide) (ite_lt5 _ _ (by decide) (by decide)))))
  · exact ite_lt5 _ _ (by decide) (ite_lt5 _ _ (by decide) (ite_lt5 _ _ (by decide) (ite_lt5 _ _ (by decide) (ite_lt5 _ _ (by decide) (by decide)))))
end LR
