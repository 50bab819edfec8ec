/-! the class's words are the reference's: messages told -/
theorem ext_gd {A B : List Nat} (hl : A.length = B.length) (h : ∀ i, i < A.length → A.getD i 0 = B.getD i 0) : A = B := by
  refine List.ext_getElem hl (fun i h1 h2 => ?_)
  have := h i h1
  rw [List.getD, List.getD, List.getElem?_eq_getElem h1, List.getElem?_eq_getElem h2] at this
  exact this
section MSG
variable {l : List Nat} {n : Nat}
theorem cps_cap : ∀ f k i, i < cps l n f k → 65 ≤ lt_ l n (k + i) ∧ lt_ l n (k + i) ≤ 90 := by
  intro f
  induction f with
  | zero => intro k i h; rw [cps] at h; omega
  | succ f ih =>
    intro k i h
    rw [cps] at h
    split at h
    · rename_i hc
      cases i with
      | zero => exact hc
      | succ i =>
        have := ih (k + 1) i (by omega)
        rw [show k + (i + 1) = k + 1 + i by omega]
        exact this
    · omega
theorem spx_rpf {mn : Nat} : ∀ r a p sg ln, ln.getD mn 0 = a → mn < ln.length → a + r ≤ 8 → (∀ i, i < r → 65 ≤ lt_ l n (p + i) ∧ lt_ l n (p + i) ≤ 90) → spx l n (mn + 1) r p sg ln = (rpf l n mn r a p sg, if r = 0 then ln else ln.set mn (a + r)) := by
  intro r
  induction r with
  | zero => intro a p sg ln _ _ _ _; rfl
  | succ r ih =>
    intro a p sg ln ha hm h8 hc
    have c0 := hc 0 (by omega)
    rw [Nat.add_zero] at c0
    have ok : spo ln (mn + 1) (lt_ l n p) := ⟨by omega, by rw [Nat.add_sub_cancel, ha]; omega, c0⟩
    rw [spx, sps, spl, if_pos ok, if_pos ok, Nat.add_sub_cancel, ha]
    rw [ih (a + 1) (p + 1) _ _ (gd_s hm) (by rw [List.length_set]; exact hm) (by omega) (fun i hi => by rw [show p + 1 + i = p + (i + 1) by omega]; exact hc (i + 1) (by omega))]
    rw [rpf, if_neg (Nat.succ_ne_zero r)]
    congr 1
    split
    · rename_i h; subst h; rfl
    · rw [List.set_set, show a + 1 + r = a + (r + 1) by omega]
theorem rpf_at {mn : Nat} : ∀ r a p sg x, x < sg.length → (rpf l n mn r a p sg).getD x 0 = if mn * 8 + a ≤ x ∧ x < mn * 8 + a + r then leT.getD (lt_ l n (p + (x - (mn * 8 + a))) - 65) 0 else sg.getD x 0 := by
  intro r
  induction r with
  | zero => intro a p sg x hx; rw [rpf, if_neg (by omega)]
  | succ r ih =>
    intro a p sg x hx
    rw [rpf, ih _ _ _ x (by rw [List.length_set]; exact hx)]
    by_cases h : x = mn * 8 + a
    · subst h
      rw [if_neg (by omega), if_pos (by omega), gd_s hx, Nat.sub_self, Nat.add_zero]
    · rw [gd_n (fun e => h e.symm)]
      by_cases h2 : mn * 8 + (a + 1) ≤ x ∧ x < mn * 8 + (a + 1) + r
      · rw [if_pos h2, if_pos (by omega), show p + 1 + (x - (mn * 8 + (a + 1))) = p + (x - (mn * 8 + a)) by omega]
      · rw [if_neg h2, if_neg (by omega)]
/-- the same lines, as many messages, each spelt alike -/
def mrl (T U : aT) : Prop := T.1 = U.1 ∧ T.2.2.2 = U.2.2.2 ∧ ∀ q, q < T.2.2.2 → msg T.2.1 T.2.2.1 q = msg U.2.1 U.2.2.1 q
theorem mrl_m {sg ln sp sz : List Nat} {mn cn p : Nat} (m1 : mok sg ln 6) (m2 : mok sp sz 6) (hm : mn < 6) (hc : cn ≤ 8) (h : ∀ q, q < mn → msg sg ln q = msg sp sz q) : ∀ q, q < mn + 1 → msg (rpf l n mn cn 0 p sg) (ln.set mn cn) q = msg (rpf l n mn cn 0 p sp) (sz.set mn cn) q := by
  intro q hq
  have a1 := m1.1
  have a2 := m2.1
  have b1 := m1.2.2.1
  have b2 := m2.2.2.1
  rcases Nat.lt_or_ge q mn with h1 | h1
  · have e := h q h1
    have l1 := mok8 m1 (show q < 6 by omega)
    have l2 := mok8 m2 (show q < 6 by omega)
    have g1 : (ln.set mn cn).getD q 0 = ln.getD q 0 := gd_n (by omega)
    have g2 : (sz.set mn cn).getD q 0 = sz.getD q 0 := gd_n (by omega)
    have le : ln.getD q 0 = sz.getD q 0 := by rw [← msg_len a1 (show q < 6 by omega) l1, ← msg_len a2 (show q < 6 by omega) l2, e]
    refine ext_gd (by rw [msg_len (by rw [rpf_len]; exact a1) (by omega) (by rw [g1]; exact l1), msg_len (by rw [rpf_len]; exact a2) (by omega) (by rw [g2]; exact l2), g1, g2, le]) (fun i hi => ?_)
    rw [msg_len (by rw [rpf_len]; exact a1) (by omega) (by rw [g1]; exact l1), g1] at hi
    rw [msg_at (by rw [g1]; exact hi), msg_at (by rw [g2, ← le]; exact hi), rpf_at _ _ _ _ _ (by omega), rpf_at _ _ _ _ _ (by omega), if_neg (by omega), if_neg (by omega), ← msg_at hi, ← msg_at (by rw [← le]; exact hi), e]
  · obtain rfl : q = mn := by omega
    have g1 : (ln.set q cn).getD q 0 = cn := gd_s (by omega)
    have g2 : (sz.set q cn).getD q 0 = cn := gd_s (by omega)
    refine ext_gd (by rw [msg_len (by rw [rpf_len]; exact a1) (by omega) (by rw [g1]; exact hc), msg_len (by rw [rpf_len]; exact a2) (by omega) (by rw [g2]; exact hc), g1, g2]) (fun i hi => ?_)
    rw [msg_len (by rw [rpf_len]; exact a1) (by omega) (by rw [g1]; exact hc), g1] at hi
    rw [msg_at (by rw [g1]; exact hi), msg_at (by rw [g2]; exact hi), rpf_at _ _ _ _ _ (by omega), rpf_at _ _ _ _ _ (by omega), if_pos (by omega), if_pos (by omega)]
theorem mE_of {k e : Nat} (hm : lt_ l n k = 109) (he : iE l n k = some e) : e = k + cps l n 8 (k + 1) + 2 ∧ 0 < cps l n 8 (k + 1) := by
  unfold iE at he
  rw [if_neg (by omega), if_neg (by omega), if_neg (by omega), if_neg (by omega), if_pos hm] at he
  unfold mE at he
  split at he
  · rename_i hc
    exact ⟨(Option.some.inj he).symm, hc.1⟩
  · cases he
theorem mok6 {sg ln : List Nat} {mn : Nat} (mo : mok sg ln mn) : mok sg ln 6 := ⟨mo.1, mo.2.1, mo.2.2.1, mo.2.2.2.1, Nat.le_refl _⟩
theorem mrl_i {k e : Nat} {T U : aT} (h : mrl T U) (m1 : mok T.2.1 T.2.2.1 T.2.2.2) (m2 : mok U.2.1 U.2.2.1 6) (he : iE l n k = some e) (h6 : lt_ l n k = 109 → T.2.2.2 < 6) : mrl (tI1 l n k e T) (mI1 l n k e U) ∧ (tI1 l n k e T).2.2.2 = T.2.2.2 + (if lt_ l n k = 109 then 1 else 0) := by
  obtain ⟨x, sg, ln, mn⟩ := T
  obtain ⟨x', sp, sz, mn'⟩ := U
  obtain ⟨rfl, rfl, hq⟩ := h
  by_cases hm : lt_ l n k = 109
  · have h6' : mn < 6 := h6 hm
    obtain ⟨rfl, hc0⟩ := mE_of hm he
    have hc8 := cps8 (l := l) (n := n) (k := k + 1)
    have cap := cps_cap (l := l) (n := n) 8 (k + 1)
    have b1 := m1.2.2.1
    have e1 : tI1 l n k (k + cps l n 8 (k + 1) + 2) (x, sg, ln, mn) = (x, rpf l n mn (cps l n 8 (k + 1)) 0 (k + 1) sg, ln.set mn (cps l n 8 (k + 1)), mn + 1) := by
      unfold tI1
      rw [if_neg (by omega), if_neg (by omega), if_neg (by omega), if_neg (by omega)]
      show (x, (spx l n (bgm mn) (k + cps l n 8 (k + 1) + 2 - 1 - (k + 1)) (k + 1) sg (bgl ln mn)).1, (spx l n (bgm mn) (k + cps l n 8 (k + 1) + 2 - 1 - (k + 1)) (k + 1) sg (bgl ln mn)).2, bgm mn) = _
      have q1 : bgm mn = mn + 1 := by rw [bgm, if_pos h6']
      have q2 : bgl ln mn = ln.set mn 0 := by rw [bgl, if_pos h6']
      rw [q1, q2, show k + cps l n 8 (k + 1) + 2 - 1 - (k + 1) = cps l n 8 (k + 1) by omega]
      rw [spx_rpf (cps l n 8 (k + 1)) 0 (k + 1) sg (ln.set mn 0) (gd_s (show mn < ln.length by have : ln.length = 6 := b1; omega)) (by rw [List.length_set]; have : ln.length = 6 := b1; omega) (by omega) cap, if_neg (by omega), List.set_set, Nat.zero_add]
    have e2 : mI1 l n k (k + cps l n 8 (k + 1) + 2) (x, sp, sz, mn) = (x, rpf l n mn (cps l n 8 (k + 1)) 0 (k + 1) sp, sz.set mn (cps l n 8 (k + 1)), mn + 1) := by
      unfold mI1
      rw [if_pos hm, show k + cps l n 8 (k + 1) + 2 - 2 - k = cps l n 8 (k + 1) by omega]
    rw [e1, e2, if_pos hm]
    exact ⟨⟨rfl, rfl, mrl_m (mok6 m1) m2 h6' hc8 hq⟩, rfl⟩
  · have h109 : lt_ l n k = 110 ∨ lt_ l n k = 99 ∨ lt_ l n k = 116 ∨ lt_ l n k = 106 := by
      unfold iE at he
      (repeat' split at he) <;> first | omega | (cases he)
    have e1 : (tI1 l n k e (x, sg, ln, mn)).2 = (sg, ln, mn) ∧ (tI1 l n k e (x, sg, ln, mn)).1 = (tI1 l n k e (x, sp, sz, mn)).1 := by
      unfold tI1
      (repeat' split) <;> first | exact ⟨rfl, rfl⟩ | omega
    have e2 : mI1 l n k e (x, sp, sz, mn) = ((tI1 l n k e (x, sp, sz, mn)).1, sp, sz, mn) := by
      unfold mI1
      rw [if_neg hm]
    rw [e2, if_neg hm]
    refine ⟨⟨e1.2, by rw [e1.1], ?_⟩, by rw [e1.1]; rfl⟩
    rw [e1.1]
    exact hq
theorem mrl_all : ∀ f k T U, ffr l n f k T.2.2.2 = none → mrl T U → lokN T.1 → mok T.2.1 T.2.2.1 T.2.2.2 → mok U.2.1 U.2.2.1 6 → mrl (tll l n f k T) (mll l n f k U) := by
  intro f
  induction f with
  | zero => intro k T U _ h _ _ _; exact h
  | succ f ih =>
    intro k T U hf h ok m1 m2
    rw [ffr] at hf
    rw [tll, mll]
    split
    · rename_i hk
      rw [if_pos hk] at hf
      cases he : iE l n k with
      | none => rw [he] at hf; cases hf
      | some e =>
        rw [he] at hf
        have hf2 : (if 6 < T.2.2.2 + (if lt_ l n k = 109 then 1 else 0) then some k else ffr l n f e (T.2.2.2 + (if lt_ l n k = 109 then 1 else 0))) = none := hf
        have h6 : ¬ 6 < T.2.2.2 + (if lt_ l n k = 109 then 1 else 0) := fun q => by rw [if_pos q] at hf2; cases hf2
        rw [if_neg h6] at hf2
        have h6' : lt_ l n k = 109 → T.2.2.2 < 6 := fun q => by rw [if_pos q] at h6; omega
        obtain ⟨q1, q2⟩ := mrl_i h m1 m2 he h6'
        rw [← q2] at hf2
        have mU := (mI1_ok (l := l) (n := n) (T := U) (h.1 ▸ ok) m2 he (fun q => h.2.1 ▸ h6' q) (by have := m1.2.2.2.2; have := h.2.1; omega)).2.1
        exact ih e _ _ hf2 q1 (tI1_lok2 ok he) (tI1_ok m1 ok.1.1).1 mU
    · exact h
/-! a message is told where there is an m -/
theorem tll_mono : ∀ f k T, T.2.2.2 ≤ (tll l n f k T).2.2.2 := by
  intro f
  induction f with
  | zero => intro k T; exact Nat.le_refl _
  | succ f ih =>
    intro k T
    rw [tll]
    split
    · cases he : iE l n k with
      | none => exact Nat.le_refl _
      | some e =>
        refine Nat.le_trans ?_ (ih e (tI1 l n k e T))
        unfold tI1
        (repeat' split) <;> first | exact Nat.le_refl _ | (show T.2.2.2 ≤ bgm T.2.2.2; unfold bgm; split <;> omega)
    · exact Nat.le_refl _
theorem no_m {k e i : Nat} (he : iE l n k = some e) (hm : ¬ lt_ l n k = 109) (h1 : k ≤ i) (h2 : i < e) : ¬ lt_ l n i = 109 := by
  have W : ∀ m, m ≤ 4 → wE l n k m = some e → ¬ lt_ l n i = 109 := by
    intro m hm4 hw
    unfold wE at hw
    split at hw
    · rename_i hc
      have : k + 3 = e := Option.some.inj hw
      rcases (show i = k ∨ i = k + 1 ∨ i = k + 2 by omega) with rfl | rfl | rfl <;> omega
    · cases hw
  unfold iE at he
  by_cases a1 : lt_ l n k = 110
  · rw [if_pos a1] at he
    unfold nE at he
    split at he
    · rename_i hc
      have : k + 5 = e := Option.some.inj he
      rcases (show i = k ∨ i = k + 1 ∨ i = k + 2 ∨ i = k + 3 ∨ i = k + 4 by omega) with rfl | rfl | rfl | rfl | rfl <;> omega
    · cases he
  rw [if_neg a1] at he
  by_cases a2 : lt_ l n k = 99
  · rw [if_pos a2] at he; exact W 4 (by decide) he
  rw [if_neg a2] at he
  by_cases a3 : lt_ l n k = 116
  · rw [if_pos a3] at he; exact W 4 (by decide) he
  rw [if_neg a3] at he
  by_cases a4 : lt_ l n k = 106
  · rw [if_pos a4] at he; exact W 3 (by decide) he
  rw [if_neg a4, if_neg hm] at he
  cases he
theorem tells_iff (hn : n ≤ 200) : ∀ f k T, 200 ≤ f + k → ffr l n f k T.2.2.2 = none → mok T.2.1 T.2.2.1 T.2.2.2 → T.1.1.length = 5 → ((∃ i, k ≤ i ∧ i < n ∧ lt_ l n i = 109) ↔ T.2.2.2 < (tll l n f k T).2.2.2) := by
  intro f
  induction f with
  | zero =>
    intro k T hk _ _ _
    constructor
    · rintro ⟨i, h1, h2, _⟩; omega
    · intro h; exact absurd h (Nat.lt_irrefl _)
  | succ f ih =>
    intro k T hk hf mo hK
    rw [ffr] at hf
    rw [tll]
    by_cases hkn : k < n
    · rw [if_pos hkn] at hf ⊢
      cases he : iE l n k with
      | none => rw [he] at hf; cases hf
      | some e =>
        rw [he] at hf
        have hf2 : (if 6 < T.2.2.2 + (if lt_ l n k = 109 then 1 else 0) then some k else ffr l n f e (T.2.2.2 + (if lt_ l n k = 109 then 1 else 0))) = none := hf
        have h6 : ¬ 6 < T.2.2.2 + (if lt_ l n k = 109 then 1 else 0) := fun q => by rw [if_pos q] at hf2; cases hf2
        rw [if_neg h6] at hf2
        have hle := iE_le he
        obtain ⟨k1, k2⟩ := tI1_ok (l := l) (n := n) (k := k) (e := e) mo hK
        by_cases hm : lt_ l n k = 109
        · have hmn : (tI1 l n k e T).2.2.2 = T.2.2.2 + 1 := by
            rw [if_pos hm] at h6
            unfold tI1
            rw [if_neg (by omega), if_neg (by omega), if_neg (by omega), if_neg (by omega)]
            show bgm T.2.2.2 = _
            rw [bgm, if_pos (by omega)]
          have := tll_mono (l := l) (n := n) f e (tI1 l n k e T)
          constructor
          · intro _
            show T.2.2.2 < (tll l n f e (tI1 l n k e T)).2.2.2
            omega
          · intro _; exact ⟨k, Nat.le_refl _, hkn, hm⟩
        · have hmn : (tI1 l n k e T).2.2.2 = T.2.2.2 := by
            have h109 : lt_ l n k = 110 ∨ lt_ l n k = 99 ∨ lt_ l n k = 116 ∨ lt_ l n k = 106 := by
              unfold iE at he
              (repeat' split at he) <;> first | omega | (cases he)
            unfold tI1
            (repeat' split) <;> first | rfl | omega
          rw [if_neg hm, Nat.add_zero] at hf2
          have IH := ih e (tI1 l n k e T) (by omega) (by rw [hmn]; exact hf2) k1 k2
          rw [hmn] at IH
          show _ ↔ T.2.2.2 < (tll l n f e (tI1 l n k e T)).2.2.2
          rw [← IH]
          constructor
          · rintro ⟨i, h1, h2, h3⟩
            rcases Nat.lt_or_ge i e with q | q
            · exact absurd h3 (no_m he hm h1 q)
            · exact ⟨i, q, h2, h3⟩
          · rintro ⟨i, h1, h2, h3⟩
            exact ⟨i, by omega, h2, h3⟩
    · rw [if_neg hkn]
      constructor
      · rintro ⟨i, h1, h2, _⟩; omega
      · intro h; exact absurd h (Nat.lt_irrefl _)
theorem any_iff (sk : sok l n) : (l.take n).any (· == 109) = true ↔ ∃ i, 0 ≤ i ∧ i < n ∧ lt_ l n i = 109 := by
  have h1 := sk.1
  have h2 := sk.2.1
  rw [List.any_eq_true]
  constructor
  · rintro ⟨x, hx, e⟩
    obtain ⟨i, hi, rfl⟩ := List.getElem_of_mem hx
    rw [List.length_take] at hi
    refine ⟨i, Nat.zero_le _, by omega, ?_⟩
    rw [lt_in (by omega), List.getD, List.getElem?_eq_getElem (by omega)]
    rw [List.getElem_take] at e
    simpa using e
  · rintro ⟨i, _, hi, e⟩
    rw [lt_in hi, List.getD, List.getElem?_eq_getElem (by omega)] at e
    refine ⟨l[i]'(by omega), ?_, by simpa using e⟩
    rw [List.mem_take_iff_getElem]
    exact ⟨i, by omega, rfl⟩
end MSG
