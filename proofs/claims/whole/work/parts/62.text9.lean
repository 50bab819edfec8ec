/-! the reference: the text read -/
def hrx (l : List Nat) (n p : Nat) : Int32 := if p < n then nI (l.getD p 0) else -(nI 1)
def figR (l : List Nat) (n mx : Nat) (y : aY) (q : Nat) (y' : aY) : Prop := y'.2.2 = y.2.2 ∧ y'.1 ≤ y.1 + 1 ∧ q ≤ mx ∧ ((y.2.1 = 0 ∧ y'.2.1 = 0 ∧ (48 ≤ lt_ l n y.1 ∧ lt_ l n y.1 ≤ 48 + mx) ∧ y'.1 = y.1 + 1 ∧ q = lt_ l n y.1 - 48) ∨ (y'.2.1 = 1 ∧ (y.2.1 = 1 ∨ ¬ (48 ≤ lt_ l n y.1 ∧ lt_ l n y.1 ≤ 48 + mx))))
def sgnR (l : List Nat) (n c : Nat) (y y' : aY) : Prop := y'.2.2 = y.2.2 ∧ y'.1 = y.1 + 1 ∧ ((y.2.1 = 0 ∧ y'.2.1 = 0 ∧ lt_ l n y.1 = c) ∨ (y'.2.1 = 1 ∧ (y.2.1 = 1 ∨ ¬ lt_ l n y.1 = c)))
section XU
variable {d : Nat} {h : aH} {z : aZ} {y : aY} {st nw be ge re rl br pt_ : List Nat} {wo : List Int32} {K S G : List Nat} {c t j : Nat}
theorem wi_sub {c mx : Nat} (hc : c < 65536) (hm : mx ≤ 9) : wi (nI c - nI 48) (nI 0) (nI mx) = if 48 ≤ c ∧ c ≤ 48 + mx then 1 else 0 := by
  have e : (nI c - nI 48).toInt = (c : Int) - 48 := pk_sub_toInt (by omega) (by decide)
  have e0 : (nI 0).toInt = 0 := nI_toInt (by decide)
  have em : (nI mx).toInt = mx := nI_toInt (by omega)
  unfold wi
  by_cases hh : 48 ≤ c ∧ c ≤ 48 + mx
  · rw [if_pos hh, if_pos]
    exact ⟨Int32.le_iff_toInt_le.mpr (by omega), Int32.le_iff_toInt_le.mpr (by omega)⟩
  · rw [if_neg hh, if_neg]
    rintro ⟨q1, q2⟩
    have q1 := Int32.le_iff_toInt_le.mp q1
    have q2 := Int32.le_iff_toInt_le.mp q2
    omega
theorem wi_m49 : ∀ mx : Fin 10, wi (-(nI 1) - nI 48) (nI 0) (nI mx.val) = 0 := by decide
theorem lt_in {l : List Nat} {n p : Nat} (h : p < n) : lt_ l n p = l.getD p 0 := if_pos h
theorem lt_out {l : List Nat} {n p : Nat} (h : ¬ p < n) : lt_ l n p = 0 := if_neg h
theorem f_here (sk : sok z.2.1 z.1.1) (hy : y.1 < 900) : Ec d m_X9_here [.ref 0] (XM z y st nw be ge re rl br pt_ wo) (rt (.int (hrx z.2.1 z.1.1 y.1)) (XM z y st nw be ge re rl br pt_ wo)) := by
  have h1 := sk.1
  have h2 := sk.2.1
  refine ec_in [some (.ref 0)] rfl rfl ?_
  iterate 5 refine ev_nx rfl ?_
  refine ev_ge (fun b8 => ?_) (fun b8 => ?_)
  · refine ev_nx rfl ?_
    exact ev_ri rfl rfl rfl ⟨by unfold hrx; first | rw [if_pos b8] | rw [if_neg (by omega)], rfl⟩
  · iterate 4 refine ev_nx rfl ?_
    refine ev_lN rfl rfl (by first | omega | (simp only [List.length_set, List.length_replicate]; omega)) ?_
    refine ev_nx rfl ?_
    exact ev_ri rfl rfl rfl ⟨by unfold hrx; first | rw [if_pos b8] | rw [if_neg (by omega)], rfl⟩
theorem f_figure {mx : Nat} (sk : sok z.2.1 z.1.1) (hy : y.1 < 900) (hw : y.2.1 ≤ 1) (hm : mx ≤ 9) : Ec (d + 1) m_X9_figure [.ref 0, .int (nI mx)] (XM z y st nw be ge re rl br pt_ wo) (fun v h' => ∃ q y', v = some (.int (nI q)) ∧ figR z.2.1 z.1.1 mx y q y' ∧ h' = (XM z y' st nw be ge re rl br pt_ wo)) := by
  refine ec_in [some (.ref 0), some (.int (nI mx)), none] rfl rfl ?_
  have hlt := lt_lt sk y.1
  have bad : ¬ (48 ≤ lt_ z.2.1 z.1.1 y.1 ∧ lt_ z.2.1 z.1.1 y.1 ≤ 48 + mx) → wi (hrx z.2.1 z.1.1 y.1 - nI 48) (nI 0) (nI mx) = 0 := by
    intro hb
    by_cases hc : y.1 < z.1.1
    · rw [lt_in hc] at hb hlt
      rw [hrx, if_pos hc, wi_sub hlt hm, if_neg hb]
    · rw [hrx, if_neg hc]; exact wi_m49 ⟨mx, by omega⟩
  by_cases hg : 48 ≤ lt_ z.2.1 z.1.1 y.1 ∧ lt_ z.2.1 z.1.1 y.1 ≤ 48 + mx
  · have hc : y.1 < z.1.1 := by
      rcases Nat.lt_or_ge y.1 z.1.1 with q | q
      · exact q
      · rw [lt_out (by omega)] at hg; omega
    have e : hrx z.2.1 z.1.1 y.1 - nI 48 = nI (lt_ z.2.1 z.1.1 y.1 - 48) := by
      rw [hrx, if_pos hc, ← lt_in hc, pk_sub hg.1]
    have hw1 : wi (nI (lt_ z.2.1 z.1.1 y.1 - 48)) (nI 0) (nI mx) = 1 := by rw [wi_n (by omega) (by omega) (by omega), if_pos (by omega)]
    refine ev_nx rfl ?_
    refine ev_vi rfl rfl rfl rfl rfl rfl rfl rfl (f_here sk hy) ?_
    refine ev_nx rfl ?_
    refine ev_nx rfl ?_
    rw [e]
    iterate 4 refine ev_nx rfl ?_
    refine ev_si rfl rfl (by decide) rfl rfl rfl rfl (f_in _ _ _ _) ?_
    rw [hw1]
    refine ev_nx rfl ?_
    refine ev_t (by decide) ?_
    iterate 4 refine ev_nx rfl ?_
    refine ev_add rfl ?_
    refine ev_pM rfl rfl rfl rfl rfl rfl rfl ?_
    refine ev_nx rfl ?_
    refine ev_ri rfl rfl rfl ⟨lt_ z.2.1 z.1.1 y.1 - 48, (y.1 + 1, y.2), rfl, ⟨rfl, Nat.le_refl _, by omega, ?_⟩, rfl⟩
    rcases (show y.2.1 = 0 ∨ y.2.1 = 1 by omega) with q | q
    · exact .inl ⟨q, q, hg, rfl, rfl⟩
    · exact .inr ⟨q, .inl q⟩
  · have hw1 := bad hg
    refine ev_nx rfl ?_
    refine ev_vi rfl rfl rfl rfl rfl rfl rfl rfl (f_here sk hy) ?_
    refine ev_nx rfl ?_
    refine ev_nx rfl ?_
    iterate 4 refine ev_nx rfl ?_
    refine ev_si rfl rfl (by decide) rfl rfl rfl rfl (f_in _ _ _ _) ?_
    rw [hw1]
    refine ev_nx rfl ?_
    refine ev_f (by decide) ?_
    iterate 2 refine ev_nx rfl ?_
    refine ev_pM rfl rfl rfl rfl rfl rfl rfl ?_
    refine ev_nx rfl ?_
    exact ev_ri rfl rfl rfl ⟨0, (y.1, 1, y.2.2), rfl, ⟨rfl, Nat.le_succ _, Nat.zero_le _, .inr ⟨rfl, .inr hg⟩⟩, rfl⟩
theorem hrx_ne {l : List Nat} {n p c : Nat} (hl : lt_ l n p < 65536) (hc : 0 < c ∧ c < 65536) : am_c2 .eq (hrx l n p) (nI c) = decide (lt_ l n p = c) := by
  unfold hrx
  by_cases h : p < n
  · rw [if_pos h, ← lt_in h]
    show (nI (lt_ l n p) == nI c) = _
    rw [Bool.beq_eq_decide_eq]
    congr 1
    exact propext (nI_eq (by omega) (by omega))
  · rw [if_neg h, lt_out h]
    show (-(nI 1) == nI c) = _
    rw [Bool.beq_eq_decide_eq, decide_eq_decide]
    constructor
    · intro e
      have := lt_m1 (n := c) (by omega)
      rw [e] at this
      exact absurd (Int32.lt_iff_toInt_lt.mp this) (Int.lt_irrefl _)
    · intro e; omega
theorem f_sign {cc : Nat} (sk : sok z.2.1 z.1.1) (hy : y.1 < 900) (hw : y.2.1 ≤ 1) (hc : 0 < cc ∧ cc < 65536) : Ec (d + 1) m_X9_sign [.ref 0, .int (nI cc)] (XM z y st nw be ge re rl br pt_ wo) (fun v h' => ∃ y', v = none ∧ sgnR z.2.1 z.1.1 cc y y' ∧ h' = (XM z y' st nw be ge re rl br pt_ wo)) := by
  refine ec_in [some (.ref 0), some (.int (nI cc))] rfl rfl ?_
  have hlt := lt_lt sk y.1
  rcases (show y.2.1 = 0 ∨ y.2.1 = 1 by omega) with q | q
  · have e : am_c2 .eq (hrx z.2.1 z.1.1 y.1) (nI cc) = decide (lt_ z.2.1 z.1.1 y.1 = cc) := hrx_ne hlt hc
    iterate 3 refine ev_nx rfl ?_
    rw [q]
    refine ev_nx rfl ?_
    refine ev_f (by decide) ?_
    refine ev_nx rfl ?_
    refine ev_vi rfl rfl rfl rfl rfl rfl rfl rfl (f_here sk hy) ?_
    iterate 2 refine ev_nx rfl ?_
    by_cases hg : lt_ z.2.1 z.1.1 y.1 = cc
    · refine ev_t (by rw [e]; exact decide_eq_true hg) ?_
      refine ev_nx rfl ?_
      refine ev_pM rfl rfl rfl rfl rfl rfl rfl ?_
      iterate 4 refine ev_nx rfl ?_
      refine ev_add rfl ?_
      refine ev_pM rfl rfl rfl rfl rfl rfl rfl ?_
      exact ev_rt rfl ⟨(y.1 + 1, 0, y.2.2), rfl, ⟨rfl, rfl, .inl ⟨q, rfl, hg⟩⟩, rfl⟩
    · refine ev_f (by rw [e]; exact decide_eq_false hg) ?_
      iterate 2 refine ev_nx rfl ?_
      refine ev_pM rfl rfl rfl rfl rfl rfl rfl ?_
      iterate 4 refine ev_nx rfl ?_
      refine ev_add rfl ?_
      refine ev_pM rfl rfl rfl rfl rfl rfl rfl ?_
      exact ev_rt rfl ⟨(y.1 + 1, 1, y.2.2), rfl, ⟨rfl, rfl, .inr ⟨rfl, .inr hg⟩⟩, rfl⟩
  · iterate 3 refine ev_nx rfl ?_
    rw [q]
    refine ev_nx rfl ?_
    refine ev_t (by decide) ?_
    iterate 2 refine ev_nx rfl ?_
    refine ev_pM rfl rfl rfl rfl rfl rfl rfl ?_
    iterate 4 refine ev_nx rfl ?_
    refine ev_add rfl ?_
    refine ev_pM rfl rfl rfl rfl rfl rfl rfl ?_
    exact ev_rt rfl ⟨(y.1 + 1, 1, y.2.2), rfl, ⟨rfl, rfl, .inr ⟨rfl, .inl q⟩⟩, rfl⟩
theorem f_signOf {v : Nat} (hv : v < 26) : Ec d m_X9_signOf [.int (nI v)] h (rt (.int (nI (leT.getD v 0))) h) := by
  rcases (show v = 0 ∨ v = 1 ∨ v = 2 ∨ v = 3 ∨ v = 4 ∨ v = 5 ∨ v = 6 ∨ v = 7 ∨ v = 8 ∨ v = 9 ∨ v = 10 ∨ v = 11 ∨ v = 12 ∨ v = 13 ∨ v = 14 ∨ v = 15 ∨ v = 16 ∨ v = 17 ∨ v = 18 ∨ v = 19 ∨ v = 20 ∨ v = 21 ∨ v = 22 ∨ v = 23 ∨ v = 24 ∨ v = 25 by omega) with rfl | rfl | rfl | rfl | rfl | rfl | rfl | rfl | rfl | rfl | rfl | rfl | rfl | rfl | rfl | rfl | rfl | rfl | rfl | rfl | rfl | rfl | rfl | rfl | rfl | rfl <;>
  · refine ec_in [some (.int (nI _))] rfl rfl ?_
    repeat refine ev_nx rfl ?_
    exact ev_ri rfl rfl rfl ⟨congrArg (fun v => some (Value.int v)) (by decide), rfl⟩
/-- signs of letters, put into a row -/
def rpf (l : List Nat) (n rm : Nat) : Nat → Nat → Nat → List Nat → List Nat
  | 0, _, _, rp => rp
  | r + 1, i, p, rp => rpf l n rm r (i + 1) (p + 1) (rp.set (rm * 8 + i) (leT.getD (lt_ l n p - 65) 0))
theorem rpf_len {l : List Nat} {n rm : Nat} : ∀ r i p rp, (rpf l n rm r i p rp).length = rp.length
  | 0, _, _, _ => rfl
  | r + 1, i, p, rp => by rw [rpf, rpf_len r, List.length_set]
theorem leT_lt (v : Nat) : leT.getD v 0 < 31 := by
  rcases Nat.lt_or_ge v 26 with h | h
  · have := (t2_at h).2; omega
  · rw [List.getD, List.getElem?_eq_none (by simpa [leT] using h)]; decide
theorem rpf_lt {l : List Nat} {n rm : Nat} : ∀ r i p rp, (∀ s ∈ rp, s < 31) → ∀ s ∈ rpf l n rm r i p rp, s < 31
  | 0, _, _, _, h => h
  | r + 1, i, p, rp, h => by rw [rpf]; exact rpf_lt r _ _ _ (l_set_lt h (leT_lt _))
def yok (y : aY) : Prop := y.2.2.2.1.length = 29 ∧ mok y.2.2.2.2.2 y.2.2.2.2.1 6
theorem wi_hr {l : List Nat} {n p : Nat} (hl : lt_ l n p < 65536) : wi (hrx l n p) (nI 65) (nI 90) = if 65 ≤ lt_ l n p ∧ lt_ l n p ≤ 90 then 1 else 0 := by
  unfold hrx
  by_cases h : p < n
  · rw [if_pos h, ← lt_in h, wi_n hl (by decide) (by decide)]
  · rw [if_neg h, lt_out h]; decide
theorem lp_rm {p wr rm : Nat} {rd rz : List Nat} {QQ : Option Value → aH → Prop} (sk : sok z.2.1 z.1.1) (hp : p < 800) (hrm : rm < 6) : ∀ f a rp, a + f = 8 → rp.length = 48 → (Ev (d + 2) m_X9_readMessage 71 [some (.ref 0), some (.int (nI (a + cps z.2.1 z.1.1 f (p + a))))] [] (XM z (p + a + cps z.2.1 z.1.1 f (p + a), wr, rm, rd, rz, rpf z.2.1 z.1.1 rm (cps z.2.1 z.1.1 f (p + a)) a (p + a) rp) st nw be ge re rl br pt_ wo) QQ) → Ev (d + 2) m_X9_readMessage 2 [some (.ref 0), some (.int (nI a))] [] (XM z (p + a, wr, rm, rd, rz, rp) st nw be ge re rl br pt_ wo) QQ := by
  intro f
  induction f with
  | zero =>
    intro a rp ha hl kk
    have hlt := lt_lt sk (p + a)
    have hw := wi_hr (l := z.2.1) (n := z.1.1) (p := p + a) hlt
    by_cases hc : 65 ≤ lt_ z.2.1 z.1.1 (p + a) ∧ lt_ z.2.1 z.1.1 (p + a) ≤ 90
    · rw [if_pos hc] at hw
      refine ev_nx rfl ?_
      refine ev_vi rfl rfl rfl rfl rfl rfl rfl rfl (f_here sk (by show p + a < 900; omega)) ?_
      iterate 2 refine ev_nx rfl ?_
      refine ev_si rfl rfl (by decide) rfl rfl rfl rfl (f_in _ _ _ _) ?_
      rw [hw]
      refine ev_nx rfl ?_
      refine ev_f (by decide) ?_
      iterate 3 refine ev_nx rfl ?_
      refine ev_ge (fun b19 => ?_) (fun b19 => absurd b19 (by omega))
      exact kk
    · rw [if_neg hc] at hw
      refine ev_nx rfl ?_
      refine ev_vi rfl rfl rfl rfl rfl rfl rfl rfl (f_here sk (by show p + a < 900; omega)) ?_
      iterate 2 refine ev_nx rfl ?_
      refine ev_si rfl rfl (by decide) rfl rfl rfl rfl (f_in _ _ _ _) ?_
      rw [hw]
      refine ev_nx rfl ?_
      refine ev_t (by decide) ?_
      exact kk
  | succ f ih =>
    intro a rp ha hl kk
    have hlt := lt_lt sk (p + a)
    have hw := wi_hr (l := z.2.1) (n := z.1.1) (p := p + a) hlt
    rw [cps] at kk
    by_cases hc : 65 ≤ lt_ z.2.1 z.1.1 (p + a) ∧ lt_ z.2.1 z.1.1 (p + a) ≤ 90
    · rw [if_pos hc] at hw kk
      have hin : p + a < z.1.1 := by
        rcases Nat.lt_or_ge (p + a) z.1.1 with q | q
        · exact q
        · rw [lt_out (by omega)] at hc; omega
      have eh : hrx z.2.1 z.1.1 (p + a) - nI 65 = nI (lt_ z.2.1 z.1.1 (p + a) - 65) := by rw [hrx, if_pos hin, ← lt_in hin, pk_sub hc.1]
      have fin := ih (a + 1) (rp.set (rm * 8 + a) (leT.getD (lt_ z.2.1 z.1.1 (p + a) - 65) 0)) (by omega) (by rw [List.length_set, hl]) (by
        rw [rpf] at kk
        rw [show a + 1 + cps z.2.1 z.1.1 f (p + (a + 1)) = a + (cps z.2.1 z.1.1 f (p + a + 1) + 1) by rw [show p + (a + 1) = p + a + 1 by omega]; omega, show p + (a + 1) + cps z.2.1 z.1.1 f (p + (a + 1)) = p + a + (cps z.2.1 z.1.1 f (p + a + 1) + 1) by rw [show p + (a + 1) = p + a + 1 by omega]; omega, show p + (a + 1) = p + a + 1 by omega]
        exact kk)
      refine ev_nx rfl ?_
      refine ev_vi rfl rfl rfl rfl rfl rfl rfl rfl (f_here sk (by show p + a < 900; omega)) ?_
      iterate 2 refine ev_nx rfl ?_
      refine ev_si rfl rfl (by decide) rfl rfl rfl rfl (f_in _ _ _ _) ?_
      rw [hw]
      refine ev_nx rfl ?_
      refine ev_f (by decide) ?_
      iterate 3 refine ev_nx rfl ?_
      refine ev_ge (fun b19 => absurd b19 (by omega)) (fun b19 => ?_)
      refine ev_nx rfl ?_
      refine ev_nx rfl ?_
      show Ev _ _ _ _ (.int (nI rm) :: _) _ _
      iterate 2 refine ev_nx rfl ?_
      refine ev_ge (fun b28 => absurd b28 (by omega)) (fun b28 => ?_)
      iterate 4 refine ev_nx rfl ?_
      refine ev_nx rfl ?_
      show Ev _ _ _ _ (.int (nI rm) :: _) _ _
      refine ev_mul rfl ?_
      refine ev_nx rfl ?_
      refine ev_add rfl ?_
      rw [show 8 * rm + a = rm * 8 + a by omega]
      refine ev_nx rfl ?_
      refine ev_vi rfl rfl rfl rfl rfl rfl rfl rfl (f_here sk (by show p + a < 900; omega)) ?_
      refine ev_nx rfl ?_
      refine ev_nx rfl ?_
      rw [eh]
      refine ev_si rfl rfl (by decide) rfl rfl rfl rfl (f_signOf (by omega)) ?_
      refine ev_sN rfl rfl ⟨by rw [hl]; omega, by omega, by decide⟩ ?_
      refine ev_inc rfl ⟨rfl, by decide⟩ rfl rfl ?_
      iterate 4 refine ev_nx rfl ?_
      refine ev_add rfl ?_
      refine ev_pM rfl rfl rfl rfl rfl rfl rfl ?_
      refine ev_nx rfl ?_
      exact fin
    · rw [if_neg hc] at hw kk
      refine ev_nx rfl ?_
      refine ev_vi rfl rfl rfl rfl rfl rfl rfl rfl (f_here sk (by show p + a < 900; omega)) ?_
      iterate 2 refine ev_nx rfl ?_
      refine ev_si rfl rfl (by decide) rfl rfl rfl rfl (f_in _ _ _ _) ?_
      rw [hw]
      refine ev_nx rfl ?_
      refine ev_t (by decide) ?_
      exact kk
theorem cps8 {l : List Nat} {n k : Nat} : cps l n 8 k ≤ 8 := cps_le 8 k
/-- a message read -/
def rmR (l : List Nat) (n p : Nat) (y y' : aY) : Prop :=
  ((y.2.2.1 < 6 ∧ 0 < cps l n 8 p ∧ lt_ l n (p + cps l n 8 p) = 59) ∧ y' = (p + cps l n 8 p + 1, 0, y.2.2.1 + 1, y.2.2.2.1, y.2.2.2.2.1.set y.2.2.1 (cps l n 8 p), rpf l n y.2.2.1 (cps l n 8 p) 0 p y.2.2.2.2.2)) ∨ (¬ (y.2.2.1 < 6 ∧ 0 < cps l n 8 p ∧ lt_ l n (p + cps l n 8 p) = 59) ∧ y'.2.1 = 1 ∧ yok y')
theorem f_readMessage {p rm : Nat} {rd rz rp : List Nat} (sk : sok z.2.1 z.1.1) (hp : p < 800) (hrm : rm ≤ 6) (hrd : rd.length = 29) (hmo : mok rp rz 6) : Ec (d + 2) m_X9_readMessage [.ref 0] (XM z (p, 0, rm, rd, rz, rp) st nw be ge re rl br pt_ wo) (fun v h' => ∃ y', v = none ∧ rmR z.2.1 z.1.1 p (p, 0, rm, rd, rz, rp) y' ∧ h' = (XM z y' st nw be ge re rl br pt_ wo)) := by
  refine ec_in [some (.ref 0), none] rfl rfl ?_
  have hc8 := cps8 (l := z.2.1) (n := z.1.1) (k := p)
  have hrzl := hmo.2.2.1
  rcases Nat.lt_or_ge rm 6 with h6 | h6
  · have H := lp_rm (d := d) (z := z) (st := st) (nw := nw) (be := be) (ge := ge) (re := re) (rl := rl) (br := br) (pt_ := pt_) (wo := wo) (wr := 0) (rd := rd) (rz := rz) (QQ := fun v h' => ∃ y', v = none ∧ rmR z.2.1 z.1.1 p (p, 0, rm, rd, rz, rp) y' ∧ h' = (XM z y' st nw be ge re rl br pt_ wo)) sk hp h6 8 0 rp rfl hmo.1
    rw [Nat.add_zero, Nat.zero_add] at H
    iterate 2 refine ev_nx rfl ?_
    refine H ?_
    have hmk : mok (rpf z.2.1 z.1.1 rm (cps z.2.1 z.1.1 8 p) 0 p rp) rz 6 := ⟨by rw [rpf_len]; exact hmo.1, rpf_lt _ _ _ _ hmo.2.1, hmo.2.2⟩
    generalize hcE : cps z.2.1 z.1.1 8 p = cn at hc8 hmk ⊢
    rcases Nat.eq_zero_or_pos cn with rfl | hcn
    · iterate 2 refine ev_nx rfl ?_
      refine ev_f (by decide) ?_
      iterate 2 refine ev_nx rfl ?_
      refine ev_pM rfl rfl rfl rfl rfl rfl rfl ?_
      exact ev_rt rfl ⟨(p + 0, 1, rm, rd, rz, rpf z.2.1 z.1.1 rm 0 0 p rp), rfl, .inr ⟨fun q => absurd q.2.1 (by rw [hcE]; omega), rfl, hrd, hmk⟩, rfl⟩
    · have hmk2 : mok (rpf z.2.1 z.1.1 rm cn 0 p rp) (rz.set rm cn) 6 := ⟨hmk.1, hmk.2.1, by rw [List.length_set]; exact hmk.2.2.1, fun x hx => (by rcases List.mem_or_eq_of_mem_set hx with q | q; exact hmk.2.2.2.1 x q; omega), Nat.le_refl _⟩
      iterate 2 refine ev_nx rfl ?_
      refine ev_ne0 (fun b72 => ?_) (fun b72 => absurd b72 (by omega))
      iterate 3 refine ev_nx rfl ?_
      refine ev_nx rfl ?_
      show Ev _ _ _ _ (.int (nI rm) :: _) _ _
      refine ev_nx rfl ?_
      refine ev_sN rfl rfl ⟨by show rm < rz.length; omega, by omega, by decide⟩ ?_
      iterate 2 refine ev_nx rfl ?_
      refine ev_nx rfl ?_
      show Ev _ _ _ _ (.int (nI rm) :: _) _ _
      refine ev_nx rfl ?_
      refine ev_add rfl ?_
      refine ev_pM rfl rfl rfl rfl rfl rfl rfl ?_
      iterate 2 refine ev_nx rfl ?_
      refine ev_v rfl rfl rfl rfl rfl rfl rfl rfl (f_sign (y := (p + cn, 0, rm + 1, rd, rz.set rm cn, rpf z.2.1 z.1.1 rm cn 0 p rp)) sk (by show p + cn < 900; omega) (Nat.zero_le _) (by decide)) (fun rv h2 q => ?_)
      obtain ⟨y', rfl, hs, rfl⟩ := q
      refine ev_rt rfl ⟨y', rfl, ?_, rfl⟩
      obtain ⟨s1, s2, s3⟩ := hs
      obtain ⟨a, b, r⟩ := y'
      obtain rfl : r = (rm + 1, rd, rz.set rm cn, rpf z.2.1 z.1.1 rm cn 0 p rp) := s1
      obtain rfl : a = p + cn + 1 := s2
      unfold rmR
      rw [hcE]
      rcases s3 with ⟨_, rfl, e⟩ | ⟨rfl, e | e⟩
      · exact .inl ⟨⟨h6, hcn, e⟩, rfl⟩
      · cases e
      · exact .inr ⟨fun q => e q.2.2, rfl, hrd, hmk2⟩
  · obtain rfl : rm = 6 := by omega
    have hlt := lt_lt sk p
    have hw := wi_hr (l := z.2.1) (n := z.1.1) (p := p) hlt
    have K71 : Ev (d + 2) m_X9_readMessage 71 [some (.ref 0), some (.int (nI 0))] [] (XM z (p, 0, 6, rd, rz, rp) st nw be ge re rl br pt_ wo) (fun v h' => ∃ y', v = none ∧ rmR z.2.1 z.1.1 p (p, 0, 6, rd, rz, rp) y' ∧ h' = (XM z y' st nw be ge re rl br pt_ wo)) := by
      iterate 2 refine ev_nx rfl ?_
      refine ev_f (by decide) ?_
      iterate 2 refine ev_nx rfl ?_
      refine ev_pM rfl rfl rfl rfl rfl rfl rfl ?_
      exact ev_rt rfl ⟨(p, 1, 6, rd, rz, rp), rfl, .inr ⟨fun q => absurd q.1 (by show ¬ 6 < 6; decide), rfl, hrd, hmo⟩, rfl⟩
    by_cases hc : 65 ≤ lt_ z.2.1 z.1.1 p ∧ lt_ z.2.1 z.1.1 p ≤ 90
    · rw [if_pos hc] at hw
      iterate 3 refine ev_nx rfl ?_
      refine ev_vi rfl rfl rfl rfl rfl rfl rfl rfl (f_here sk (by show p < 900; omega)) ?_
      iterate 2 refine ev_nx rfl ?_
      refine ev_si rfl rfl (by decide) rfl rfl rfl rfl (f_in _ _ _ _) ?_
      rw [hw]
      refine ev_nx rfl ?_
      refine ev_f (by decide) ?_
      iterate 3 refine ev_nx rfl ?_
      refine ev_ge (fun b19 => absurd b19 (by omega)) (fun b19 => ?_)
      refine ev_nx rfl ?_
      refine ev_nx rfl ?_
      show Ev _ _ _ _ (.int (nI 6) :: _) _ _
      iterate 2 refine ev_nx rfl ?_
      refine ev_t (by decide) ?_
      exact K71
    · rw [if_neg hc] at hw
      iterate 3 refine ev_nx rfl ?_
      refine ev_vi rfl rfl rfl rfl rfl rfl rfl rfl (f_here sk (by show p < 900; omega)) ?_
      iterate 2 refine ev_nx rfl ?_
      refine ev_si rfl rfl (by decide) rfl rfl rfl rfl (f_in _ _ _ _) ?_
      rw [hw]
      refine ev_nx rfl ?_
      refine ev_t (by decide) ?_
      exact K71
end XU
