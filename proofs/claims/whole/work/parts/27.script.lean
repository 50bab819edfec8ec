/-! the text -/
def sat (h : aH) (l : List Nat) (n : Nat) : Prop := h[1]? = some (.inr (.inr (6, [.ref 2, .int (nI n)]))) ∧ h[2]? = some (.inl (1, l.map nI))
def sok (l : List Nat) (n : Nat) : Prop := l.length = 200 ∧ n ≤ 200 ∧ ∀ x ∈ l, x < 65536
/-- the letter at a place, 0 behind the end -/
def lt_ (l : List Nat) (n k : Nat) : Nat := if k < n then l.getD k 0 else 0
/-- a figure, or -1 -/
def fg (x : Nat) : Int32 := if 48 ≤ x ∧ x ≤ 57 then nI (x - 48) else -(nI 1)
/-- an end, or -4 -/
def eo : Option Nat → Int32
  | some n => nI n
  | none => -(nI 4)
def wE (l : List Nat) (n k m : Nat) : Option Nat := if (48 ≤ lt_ l n (k + 1) ∧ lt_ l n (k + 1) ≤ 48 + m) ∧ lt_ l n (k + 2) = 59 then some (k + 3) else none
def nE (l : List Nat) (n k : Nat) : Option Nat := if (48 ≤ lt_ l n (k + 1) ∧ lt_ l n (k + 1) ≤ 52) ∧ lt_ l n (k + 2) = 44 ∧ (48 ≤ lt_ l n (k + 3) ∧ lt_ l n (k + 3) ≤ 53) ∧ lt_ l n (k + 4) = 59 then some (k + 5) else none
/-- how many capitals from a place, of at most f -/
def cps (l : List Nat) (n : Nat) : Nat → Nat → Nat
  | 0, _ => 0
  | f + 1, k => if 65 ≤ lt_ l n k ∧ lt_ l n k ≤ 90 then cps l n f (k + 1) + 1 else 0
def mE (l : List Nat) (n k : Nat) : Option Nat := if 0 < cps l n 8 (k + 1) ∧ lt_ l n (k + 1 + cps l n 8 (k + 1)) = 59 then some (k + cps l n 8 (k + 1) + 2) else none
def iE (l : List Nat) (n k : Nat) : Option Nat := if lt_ l n k = 110 then nE l n k else if lt_ l n k = 99 then wE l n k 4 else if lt_ l n k = 116 then wE l n k 4 else if lt_ l n k = 106 then wE l n k 3 else if lt_ l n k = 109 then mE l n k else none
section SC
variable {h : aH} {l : List Nat} {n d : Nat} {Q : Option Value → aH → Prop}
theorem lt_lt (ok : sok l n) (k : Nat) : lt_ l n k < 65536 := by
  unfold lt_
  split
  · rename_i hk
    rw [List.getD, List.getElem?_eq_getElem (by have := ok.1; have := ok.2.1; omega)]
    exact ok.2.2 _ (List.getElem_mem _)
  · decide
theorem e_letterAt (hm : sat h l n) (ok : sok l n) {k : Nat} (hk : k < 1000) : Ec d m_X6_letterAt [.ref 1, .int (nI k)] h (rt (.int (nI (lt_ l n k))) h) := by
  have hn := ok.2.1
  have hl := ok.1
  have hc := lt_lt ok k
  refine ec_in [some (.ref 1), some (.int (nI k))] rfl rfl ?_
  have J : ∀ y, y = lt_ l n k → Ev d m_X6_letterAt 22 [some (.ref 1), some (.int (nI k))] [.int (nI y)] h (rt (.int (nI (lt_ l n k))) h) := by
    intro y hy
    subst hy
    exact ev_ri rfl rfl (pk_charN hc).1 ⟨rfl, rfl⟩
  iterate 2 refine ev_nx rfl ?_
  refine ev_lt0 ?_
  iterate 2 refine ev_nx rfl ?_
  refine ev_gf rfl rfl hm.1 rfl ?_
  refine ev_nx rfl ?_
  refine ev_ge (fun hc => ?_) (fun hc => ?_)
  · refine ev_nx rfl ?_
    exact J 0 (by rw [lt_, if_neg (by omega)])
  · refine ev_nx rfl ?_
    refine ev_gf rfl rfl hm.1 rfl ?_
    refine ev_nx rfl ?_
    refine ev_ca rfl (am_arr_h (by decide) hm.2) (mg (by omega)) ?_
    refine ev_nx rfl ?_
    exact J _ (by rw [lt_, if_pos hc])
theorem e_figureAt (hm : sat h l n) (ok : sok l n) {k : Nat} (hk : k < 1000) : Ec (d + 1) m_X6_figureAt [.ref 1, .int (nI k)] h (rt (.int (fg (lt_ l n k))) h) := by
  have hc := lt_lt ok k
  refine ec_in [some (.ref 1), some (.int (nI k)), none] rfl rfl ?_
  iterate 2 refine ev_nx rfl ?_
  refine ev_vi rfl rfl rfl rfl rfl rfl hm.1 rfl (e_letterAt hm ok hk) ?_
  iterate 4 refine ev_nx rfl ?_
  refine ev_ci rfl rfl (ec_le (Nat.zero_le d) (e_within (nI (lt_ l n k)) (nI 48) (nI 57) h)) ?_
  rw [wi_n hc (by decide) (by decide)]
  unfold fg
  by_cases hw : 48 ≤ lt_ l n k ∧ lt_ l n k ≤ 57
  · rw [if_pos hw, if_pos hw]
    refine ev_nx rfl ?_
    refine ev_f (by decide) ?_
    iterate 4 refine ev_nx rfl ?_
    rw [pk_sub hw.1]
    exact ev_ri rfl rfl rfl ⟨rfl, rfl⟩
  · rw [if_neg hw, if_neg hw]
    refine ev_nx rfl ?_
    refine ev_t (by decide) ?_
    refine ev_nx rfl ?_
    exact ev_ri rfl rfl rfl ⟨rfl, rfl⟩
theorem wi_fg {x m : Nat} (hm : m ≤ 9) : wi (fg x) (nI 0) (nI m) = if 48 ≤ x ∧ x ≤ 48 + m then 1 else 0 := by
  unfold fg
  by_cases hw : 48 ≤ x ∧ x ≤ 57
  · rw [if_pos hw, wi_n (by omega) (by decide) (by omega)]
    by_cases hv : 48 ≤ x ∧ x ≤ 48 + m
    · rw [if_pos hv, if_pos (by omega)]
    · rw [if_neg hv, if_neg (by omega)]
  · rw [if_neg hw, if_neg (by omega), wi, if_neg (fun q => absurd q.1 (by decide))]
theorem e_wireEnd (hm : sat h l n) (ok : sok l n) {k m : Nat} (hk : k < 900) (hm9 : m ≤ 9) : Ec (d + 2) m_X6_wireEnd [.ref 1, .int (nI k), .int (nI m)] h (rt (.int (eo (wE l n k m))) h) := by
  have hc1 := lt_lt ok (k + 1)
  have hc2 := lt_lt ok (k + 2)
  refine ec_in [some (.ref 1), some (.int (nI k)), some (.int (nI m)), none] rfl rfl ?_
  have J : ∀ y : Nat, y = (if (48 ≤ lt_ l n (k + 1) ∧ lt_ l n (k + 1) ≤ 48 + m) ∧ lt_ l n (k + 2) = 59 then 1 else 0) → Ev (d + 2) m_X6_wireEnd 32 [some (.ref 1), some (.int (nI k)), some (.int (nI m)), none] [.int (nI y)] h (rt (.int (eo (wE l n k m))) h) := by
    intro y hy
    unfold wE
    by_cases hw : (48 ≤ lt_ l n (k + 1) ∧ lt_ l n (k + 1) ≤ 48 + m) ∧ lt_ l n (k + 2) = 59
    · rw [if_pos hw] at hy ⊢
      subst hy
      iterate 3 refine ev_nx rfl ?_
      refine ev_f (by decide) ?_
      iterate 4 refine ev_nx rfl ?_
      rw [nI_add]
      exact ev_ri rfl rfl rfl ⟨rfl, rfl⟩
    · rw [if_neg hw] at hy ⊢
      subst hy
      iterate 3 refine ev_nx rfl ?_
      refine ev_t (by decide) ?_
      refine ev_nx rfl ?_
      exact ev_ri rfl rfl rfl ⟨rfl, rfl⟩
  iterate 4 refine ev_nx rfl ?_
  rw [nI_add]
  refine ev_vi rfl rfl rfl rfl rfl rfl hm.1 rfl (e_figureAt hm ok (by omega)) ?_
  iterate 2 refine ev_nx rfl ?_
  refine ev_ci rfl rfl (ec_le (Nat.zero_le (d + 1)) (e_within (fg (lt_ l n (k + 1))) (nI 0) (nI m) h)) ?_
  rw [wi_fg hm9]
  by_cases hw : 48 ≤ lt_ l n (k + 1) ∧ lt_ l n (k + 1) ≤ 48 + m
  · rw [if_pos hw]
    refine ev_nx rfl ?_
    refine ev_f (by decide) ?_
    iterate 4 refine ev_nx rfl ?_
    rw [nI_add]
    refine ev_vi rfl rfl rfl rfl rfl rfl hm.1 rfl (e_letterAt hm ok (by omega)) ?_
    iterate 2 refine ev_nx rfl ?_
    refine ev_ne (fun hc => ?_) (fun hc => ?_)
    · refine ev_nx rfl ?_
      exact J 0 (by rw [if_neg (fun q => hc q.2)])
    · iterate 2 refine ev_nx rfl ?_
      exact J 1 (by rw [if_pos ⟨hw, hc⟩])
  · rw [if_neg hw]
    refine ev_nx rfl ?_
    refine ev_t (by decide) ?_
    refine ev_nx rfl ?_
    exact J 0 (by rw [if_neg (fun q => hw q.1)])
theorem e_needleEnd (hm : sat h l n) (ok : sok l n) {k : Nat} (hk : k < 900) : Ec (d + 2) m_X6_needleEnd [.ref 1, .int (nI k)] h (rt (.int (eo (nE l n k))) h) := by
  have hc2 := lt_lt ok (k + 2)
  have hc4 := lt_lt ok (k + 4)
  refine ec_in [some (.ref 1), some (.int (nI k)), none] rfl rfl ?_
  have J : ∀ y : Nat, y = (if (48 ≤ lt_ l n (k + 1) ∧ lt_ l n (k + 1) ≤ 52) ∧ lt_ l n (k + 2) = 44 ∧ (48 ≤ lt_ l n (k + 3) ∧ lt_ l n (k + 3) ≤ 53) ∧ lt_ l n (k + 4) = 59 then 1 else 0) → Ev (d + 2) m_X6_needleEnd 57 [some (.ref 1), some (.int (nI k)), none] [.int (nI y)] h (rt (.int (eo (nE l n k))) h) := by
    intro y hy
    unfold nE
    by_cases hw : (48 ≤ lt_ l n (k + 1) ∧ lt_ l n (k + 1) ≤ 52) ∧ lt_ l n (k + 2) = 44 ∧ (48 ≤ lt_ l n (k + 3) ∧ lt_ l n (k + 3) ≤ 53) ∧ lt_ l n (k + 4) = 59
    · rw [if_pos hw] at hy ⊢
      subst hy
      iterate 3 refine ev_nx rfl ?_
      refine ev_f (by decide) ?_
      iterate 4 refine ev_nx rfl ?_
      rw [nI_add]
      exact ev_ri rfl rfl rfl ⟨rfl, rfl⟩
    · rw [if_neg hw] at hy ⊢
      subst hy
      iterate 3 refine ev_nx rfl ?_
      refine ev_t (by decide) ?_
      refine ev_nx rfl ?_
      exact ev_ri rfl rfl rfl ⟨rfl, rfl⟩
  iterate 4 refine ev_nx rfl ?_
  rw [nI_add]
  refine ev_vi rfl rfl rfl rfl rfl rfl hm.1 rfl (e_figureAt hm ok (by omega)) ?_
  refine ev_ci rfl rfl (ec_le (by omega) (e_isPlace (fg (lt_ l n (k + 1))) h)) ?_
  rw [wi_fg (by decide)]
  by_cases hw : 48 ≤ lt_ l n (k + 1) ∧ lt_ l n (k + 1) ≤ 48 + 4
  · rw [if_pos hw]
    refine ev_nx rfl ?_
    refine ev_f (by decide) ?_
    iterate 4 refine ev_nx rfl ?_
    rw [nI_add]
    refine ev_vi rfl rfl rfl rfl rfl rfl hm.1 rfl (e_letterAt hm ok (by omega)) ?_
    iterate 2 refine ev_nx rfl ?_
    refine ev_ne (fun hc => ?_) (fun hc => ?_)
    · refine ev_nx rfl ?_
      exact J 0 (by rw [if_neg (fun q => hc q.2.1)])
    · iterate 4 refine ev_nx rfl ?_
      rw [nI_add]
      refine ev_vi rfl rfl rfl rfl rfl rfl hm.1 rfl (e_figureAt hm ok (by omega)) ?_
      iterate 2 refine ev_nx rfl ?_
      refine ev_ci rfl rfl (ec_le (Nat.zero_le (d + 1)) (e_within (fg (lt_ l n (k + 3))) (nI 0) (nI 5) h)) ?_
      rw [wi_fg (by decide)]
      by_cases hw2 : 48 ≤ lt_ l n (k + 3) ∧ lt_ l n (k + 3) ≤ 48 + 5
      · rw [if_pos hw2]
        refine ev_nx rfl ?_
        refine ev_f (by decide) ?_
        iterate 4 refine ev_nx rfl ?_
        rw [nI_add]
        refine ev_vi rfl rfl rfl rfl rfl rfl hm.1 rfl (e_letterAt hm ok (by omega)) ?_
        iterate 2 refine ev_nx rfl ?_
        refine ev_ne (fun hc => ?_) (fun hc2 => ?_)
        · refine ev_nx rfl ?_
          exact J 0 (by rw [if_neg (fun q => hc q.2.2.2)])
        · iterate 2 refine ev_nx rfl ?_
          exact J 1 (by rw [if_pos ⟨hw, hc, hw2, hc2⟩])
      · rw [if_neg hw2]
        refine ev_nx rfl ?_
        refine ev_t (by decide) ?_
        refine ev_nx rfl ?_
        exact J 0 (by rw [if_neg (fun q => hw2 q.2.2.1)])
  · rw [if_neg hw]
    refine ev_nx rfl ?_
    refine ev_t (by decide) ?_
    refine ev_nx rfl ?_
    exact J 0 (by rw [if_neg (fun q => hw q.1)])
theorem cps_le : ∀ f k, cps l n f k ≤ f := by
  intro f
  induction f with
  | zero => intro k; exact Nat.le_refl _
  | succ f ih =>
    intro k
    unfold cps
    split
    · have := ih (k + 1); omega
    · omega
theorem lp_mend (hm : sat h l n) (ok : sok l n) {k T : Nat} (hk : k < 900) (K : Ev (d + 2) m_X6_messageEnd 33 [some (.ref 1), some (.int (nI k)), some (.int (nI T))] [] h Q) : ∀ f a, a + f = 8 → T = a + cps l n f (k + 1 + a) → Ev (d + 2) m_X6_messageEnd 2 [some (.ref 1), some (.int (nI k)), some (.int (nI a))] [] h Q := by
  intro f
  induction f with
  | zero =>
    intro a ha he
    iterate 3 refine ev_nx rfl ?_
    refine ev_ge (fun _ => ?_) (fun h => absurd h (by omega))
    rw [he] at K
    exact K
  | succ f ih =>
    intro a ha he
    have hc := lt_lt ok (k + 1 + a)
    iterate 3 refine ev_nx rfl ?_
    refine ev_ge (fun h => absurd h (by omega)) (fun _ => ?_)
    iterate 6 refine ev_nx rfl ?_
    rw [nI_add, nI_add]
    refine ev_vi rfl rfl rfl rfl rfl rfl hm.1 rfl (e_letterAt hm ok (by omega)) ?_
    iterate 2 refine ev_nx rfl ?_
    refine ev_ci rfl rfl (ec_le (Nat.zero_le (d + 1)) (e_within (nI (lt_ l n (k + 1 + a))) (nI 65) (nI 90) h)) ?_
    rw [wi_n hc (by decide) (by decide)]
    rw [cps] at he
    by_cases hw : 65 ≤ lt_ l n (k + 1 + a) ∧ lt_ l n (k + 1 + a) ≤ 90
    · rw [if_pos hw] at he ⊢
      refine ev_nx rfl ?_
      refine ev_f (by decide) ?_
      iterate 2 refine ev_nx rfl ?_
      rw [nI_add]
      exact ih (a + 1) (by omega) (by rw [he, ← Nat.add_assoc (k + 1) a 1]; omega)
    · rw [if_neg hw] at he ⊢
      refine ev_nx rfl ?_
      refine ev_t (by decide) ?_
      rw [he] at K
      exact K
theorem e_messageEnd (hm : sat h l n) (ok : sok l n) {k : Nat} (hk : k < 900) : Ec (d + 2) m_X6_messageEnd [.ref 1, .int (nI k)] h (rt (.int (eo (mE l n k))) h) := by
  have h8 := cps_le (l := l) (n := n) 8 (k + 1)
  have hc := lt_lt ok (k + 1 + cps l n 8 (k + 1))
  refine ec_in [some (.ref 1), some (.int (nI k)), none] rfl rfl ?_
  iterate 2 refine ev_nx rfl ?_
  refine lp_mend (T := cps l n 8 (k + 1)) hm ok hk ?_ 8 0 rfl (by rw [Nat.zero_add, Nat.add_zero])
  unfold mE
  iterate 2 refine ev_nx rfl ?_
  refine ev_le0 (fun hc => ?_) (fun hc => ?_)
  · rw [if_neg (fun q => absurd q.1 (by omega))]
    refine ev_nx rfl ?_
    exact ev_ri rfl rfl rfl ⟨rfl, rfl⟩
  · iterate 6 refine ev_nx rfl ?_
    rw [nI_add, nI_add]
    refine ev_vi rfl rfl rfl rfl rfl rfl hm.1 rfl (e_letterAt hm ok (by omega)) ?_
    iterate 2 refine ev_nx rfl ?_
    refine ev_ne (fun hc2 => ?_) (fun hc2 => ?_)
    · rw [if_neg (fun q => hc2 q.2)]
      refine ev_nx rfl ?_
      exact ev_ri rfl rfl rfl ⟨rfl, rfl⟩
    · rw [if_pos ⟨hc, hc2⟩]
      iterate 6 refine ev_nx rfl ?_
      rw [nI_add, nI_add]
      exact ev_ri rfl rfl rfl ⟨rfl, rfl⟩
end SC
