/-! the reference: reading, fault, lay -/
section XW
variable {d : Nat} {h : aH} {z : aZ} {y : aY} {st nw be ge re rl br pt_ : List Nat} {wo : List Int32} {K S G : List Nat} {c t j : Nat} {l : List Nat} {n : Nat}
theorem tI1_lok {k e : Nat} {T : aT} (ok : lokN T.1) (he : iE l n k = some e) (hm : ¬ lt_ l n k = 109) : lokN (tI1 l n k e T).1 := by
  unfold iE at he
  unfold tI1
  by_cases h1 : lt_ l n k = 110
  · rw [if_pos h1] at he ⊢
    have q := iE_n he
    exact ⟨⟨by show (T.1.1.set _ _).length = 5; rw [List.length_set]; exact ok.1.1, l_set_lt ok.1.2 (by omega)⟩, ok.2⟩
  rw [if_neg h1] at he ⊢
  by_cases h2 : lt_ l n k = 99
  · rw [if_pos h2] at he ⊢
    have q := iE_1 he
    exact ⟨ok.1, ok.2.1, ok.2.2.1, or32 ok.2.2.2.1 (p2_32 (by omega)), ok.2.2.2.2⟩
  rw [if_neg h2] at he ⊢
  by_cases h3 : lt_ l n k = 116
  · rw [if_pos h3] at he ⊢
    have q := iE_1 he
    exact ⟨ok.1, ok.2.1, ok.2.2.1, ok.2.2.2.1, or32 ok.2.2.2.2.1 (p2_32 (by omega)), ok.2.2.2.2.2⟩
  rw [if_neg h3] at he ⊢
  by_cases h4 : lt_ l n k = 106
  · rw [if_pos h4] at he ⊢
    have q := iE_1 he
    exact ⟨ok.1, ok.2.1, ok.2.2.1, ok.2.2.2.1, ok.2.2.2.2.1, or16 ok.2.2.2.2.2 (p2_16 (by omega))⟩
  rw [if_neg h4, if_neg hm] at he
  cases he
theorem mI1_ok {k e : Nat} {T : aT} (ok : lokN T.1) (hmo : mok T.2.1 T.2.2.1 6) (he : iE l n k = some e) (h6 : lt_ l n k = 109 → T.2.2.2 < 6) (hrm : T.2.2.2 ≤ 6) : lokN (mI1 l n k e T).1 ∧ mok (mI1 l n k e T).2.1 (mI1 l n k e T).2.2.1 6 ∧ (mI1 l n k e T).2.2.2 = T.2.2.2 + (if lt_ l n k = 109 then 1 else 0) := by
  unfold mI1
  by_cases hm : lt_ l n k = 109
  · have hle := iE_le he
    rw [if_pos hm, if_pos hm]
    refine ⟨ok, ⟨by rw [rpf_len]; exact hmo.1, rpf_lt _ _ _ _ hmo.2.1, by rw [List.length_set]; exact hmo.2.2.1, fun x hx => ?_, Nat.le_refl _⟩, rfl⟩
    rcases List.mem_or_eq_of_mem_set hx with q | q
    · exact hmo.2.2.2.1 x q
    · omega
  · rw [if_neg hm, if_neg hm]
    exact ⟨tI1_lok ok he hm, hmo, rfl⟩
theorem lokN_z : lokN zN := ⟨⟨rfl, by decide⟩, ⟨rfl, by decide⟩, ⟨rfl, by decide⟩, by decide, by decide, by decide⟩
def yR (l : List Nat) (n : Nat) (o : Option Nat) (T : aT) (y' : aY) : Prop := yok y' ∧ (o = none → (lokN T.1 ∧ T.2.2.2 ≤ 6) ∧ ∃ e, y' = yT e T)
theorem lp_rd9 (sk : sok z.2.1 z.1.1) : ∀ f k T l1, 200 ≤ f + k → k < 900 → lokN T.1 → mok T.2.1 T.2.2.1 6 → T.2.2.2 ≤ 6 → Ev (d + 4) m_X9_reading 36 [some (.ref 0), l1] [] (XM z (yT k T) st nw be ge re rl br pt_ wo) (fun v h' => v = some (.int (eo (ffr z.2.1 z.1.1 f k T.2.2.2))) ∧ ∃ y', yR z.2.1 z.1.1 (ffr z.2.1 z.1.1 f k T.2.2.2) (mll z.2.1 z.1.1 f k T) y' ∧ h' = (XM z y' st nw be ge re rl br pt_ wo)) := by
  have hsk := sk.2.1
  intro f
  induction f with
  | zero =>
    intro k T l1 hf hk ok hmo hrm
    have hy : yok (yT k T) := ⟨ll_len ok, hmo⟩
    refine ev_nx rfl ?_
    refine ev_nx rfl ?_
    show Ev _ _ _ _ (.int (nI k) :: _) _ _
    iterate 3 refine ev_nx rfl ?_
    refine ev_ge (fun b44 => ?_) (fun b44 => absurd b44 (by omega))
    refine ev_nx rfl ?_
    exact ev_ri rfl rfl rfl ⟨rfl, yT k T, ⟨hy, fun _ => ⟨⟨ok, hrm⟩, k, rfl⟩⟩, rfl⟩
  | succ f ih =>
    intro k T l1 hf hk ok hmo hrm
    have hy : yok (yT k T) := ⟨ll_len ok, hmo⟩
    rw [ffr, mll]
    by_cases hkn : k < z.1.1
    · rw [if_pos hkn, if_pos hkn]
      have bad : ∀ y', (iE z.2.1 z.1.1 k = none ∨ (lt_ z.2.1 z.1.1 k = 109 ∧ 6 ≤ T.2.2.2)) → y'.2.1 = 1 → yok y' → Ev (d + 4) m_X9_reading 56 [some (.ref 0), some (.int (nI k))] [] (XM z y' st nw be ge re rl br pt_ wo) (fun v h' => v = some (.int (eo (match iE z.2.1 z.1.1 k with
        | none => some k
        | some e => if 6 < T.2.2.2 + (if lt_ z.2.1 z.1.1 k = 109 then 1 else 0) then some k else ffr z.2.1 z.1.1 f e (T.2.2.2 + (if lt_ z.2.1 z.1.1 k = 109 then 1 else 0))))) ∧ ∃ y', yR z.2.1 z.1.1 (match iE z.2.1 z.1.1 k with
        | none => some k
        | some e => if 6 < T.2.2.2 + (if lt_ z.2.1 z.1.1 k = 109 then 1 else 0) then some k else ffr z.2.1 z.1.1 f e (T.2.2.2 + (if lt_ z.2.1 z.1.1 k = 109 then 1 else 0))) (match iE z.2.1 z.1.1 k with
        | none => T
        | some e => mll z.2.1 z.1.1 f e (mI1 z.2.1 z.1.1 k e T)) y' ∧ h' = (XM z y' st nw be ge re rl br pt_ wo)) := by
        intro y' hb hw hyk
        have E : (match iE z.2.1 z.1.1 k with
          | none => some k
          | some e => if 6 < T.2.2.2 + (if lt_ z.2.1 z.1.1 k = 109 then 1 else 0) then some k else ffr z.2.1 z.1.1 f e (T.2.2.2 + (if lt_ z.2.1 z.1.1 k = 109 then 1 else 0))) = some k := by
          rcases hb with hb | ⟨hb1, hb2⟩
          · rw [hb]
          · cases iE z.2.1 z.1.1 k with
            | none => rfl
            | some e =>
              show (if _ then _ else _) = _
              rw [if_pos hb1, if_pos (by omega)]
        rw [E]
        iterate 2 refine ev_nx rfl ?_
        rw [hw]
        refine ev_nx rfl ?_
        refine ev_f (by decide) ?_
        refine ev_nx rfl ?_
        exact ev_ri rfl rfl rfl ⟨rfl, y', ⟨hyk, fun e => (by cases e)⟩, rfl⟩
      refine ev_nx rfl ?_
      refine ev_nx rfl ?_
      show Ev _ _ _ _ (.int (nI k) :: _) _ _
      iterate 3 refine ev_nx rfl ?_
      refine ev_ge (fun b44 => absurd b44 (by omega)) (fun b44 => ?_)
      refine ev_nx rfl ?_
      refine ev_nx rfl ?_
      show Ev _ _ _ _ (.int (nI k) :: _) _ _
      iterate 2 refine ev_nx rfl ?_
      refine ev_v rfl rfl rfl rfl rfl rfl rfl rfl (f_readItem sk hkn ok hmo hrm) (fun rv h2 q => ?_)
      obtain ⟨y', rfl, hr, rfl⟩ := q
      skip
      rcases hr with ⟨e, g1, g2, rfl⟩ | ⟨g1, g2, g3⟩
      · obtain ⟨k1, k2, k3⟩ := mI1_ok ok hmo g1 g2 hrm
        have hle := iE_le g1
        have k4 : T.2.2.2 + (if lt_ z.2.1 z.1.1 k = 109 then 1 else 0) ≤ 6 := by
          split
          · rename_i q; have := g2 q; omega
          · omega
        rw [g1]
        have IH := ih e (mI1 z.2.1 z.1.1 k e T) (some (.int (nI k))) (by omega) (by omega) k1 k2 (by omega)
        rw [k3] at IH
        show Ev (d + 4) m_X9_reading 56 _ [] (XM z (yT e (mI1 z.2.1 z.1.1 k e T)) st nw be ge re rl br pt_ wo) (fun v h' => v = some (.int (eo (if 6 < T.2.2.2 + (if lt_ z.2.1 z.1.1 k = 109 then 1 else 0) then some k else ffr z.2.1 z.1.1 f e (T.2.2.2 + (if lt_ z.2.1 z.1.1 k = 109 then 1 else 0))))) ∧ ∃ y', yR z.2.1 z.1.1 (if 6 < T.2.2.2 + (if lt_ z.2.1 z.1.1 k = 109 then 1 else 0) then some k else ffr z.2.1 z.1.1 f e (T.2.2.2 + (if lt_ z.2.1 z.1.1 k = 109 then 1 else 0))) (mll z.2.1 z.1.1 f e (mI1 z.2.1 z.1.1 k e T)) y' ∧ h' = (XM z y' st nw be ge re rl br pt_ wo))
        rw [if_neg (show ¬ 6 < T.2.2.2 + (if lt_ z.2.1 z.1.1 k = 109 then 1 else 0) by omega)]
        iterate 2 refine ev_nx rfl ?_
        refine ev_nx rfl ?_
        refine ev_t (by show am_c2 .eq (nI 0) 0 = true; decide) ?_
        refine ev_nx rfl ?_
        exact IH
      · exact bad y' g1 g2 g3
    · rw [if_neg hkn, if_neg hkn]
      refine ev_nx rfl ?_
      refine ev_nx rfl ?_
      show Ev _ _ _ _ (.int (nI k) :: _) _ _
      iterate 3 refine ev_nx rfl ?_
      refine ev_ge (fun b44 => ?_) (fun b44 => absurd b44 (by omega))
      refine ev_nx rfl ?_
      exact ev_ri rfl rfl rfl ⟨rfl, yT k T, ⟨hy, fun _ => ⟨⟨ok, hrm⟩, k, rfl⟩⟩, rfl⟩
/-- what the text tells, read from its beginning -/
def tT (z : aZ) (y : aY) : aT := mll z.2.1 z.1.1 200 0 (zN, y.2.2.2.2.2, y.2.2.2.2.1, 0)
theorem f_reading (sk : sok z.2.1 z.1.1) (hy : yok y) : Ec (d + 4) m_X9_reading [.ref 0] (XM z y st nw be ge re rl br pt_ wo) (fun v h' => v = some (.int (eo (ffr z.2.1 z.1.1 200 0 0))) ∧ ∃ y', yR z.2.1 z.1.1 (ffr z.2.1 z.1.1 200 0 0) (tT z y) y' ∧ h' = (XM z y' st nw be ge re rl br pt_ wo)) := by
  obtain ⟨a, b, c, rd, rz, rp⟩ := y
  refine ec_in [some (.ref 0), none] rfl rfl ?_
  have H : ∀ r k rd, k + r = 29 → rd.length = 29 → zfl r k rd = llN zN → Ev (d + 4) m_X9_reading 17 [some (.ref 0), some (.int (nI k))] [] (XM z (0, 0, 0, rd, rz, rp) st nw be ge re rl br pt_ wo) (fun v h' => v = some (.int (eo (ffr z.2.1 z.1.1 200 0 0))) ∧ ∃ y', yR z.2.1 z.1.1 (ffr z.2.1 z.1.1 200 0 0) (mll z.2.1 z.1.1 200 0 (zN, rp, rz, 0)) y' ∧ h' = (XM z y' st nw be ge re rl br pt_ wo)) := by
    intro r
    induction r with
    | zero =>
      intro k rd hk hl e
      obtain rfl : rd = llN zN := e
      iterate 3 refine ev_nx rfl ?_
      refine ev_ge (fun b20 => ?_) (fun b20 => absurd b20 (by omega))
      exact lp_rd9 (d := d) sk 200 0 (zN, rp, rz, 0) _ (by omega) (by omega) lokN_z hy.2 (Nat.zero_le _)
    | succ r ih =>
      intro k rd hk hl e
      iterate 3 refine ev_nx rfl ?_
      refine ev_ge (fun b20 => absurd b20 (by omega)) (fun b20 => ?_)
      iterate 4 refine ev_nx rfl ?_
      refine ev_sN rfl rfl ⟨by show k < rd.length; omega, by omega, by decide⟩ ?_
      refine ev_inc rfl ⟨rfl, by decide⟩ rfl rfl ?_
      refine ev_nx rfl ?_
      exact ih (k + 1) _ (by omega) (by rw [List.length_set, hl]) e
  have hrd : rd.length = 29 := hy.1
  iterate 2 refine ev_nx rfl ?_
  refine ev_pM rfl rfl rfl rfl rfl rfl rfl ?_
  iterate 2 refine ev_nx rfl ?_
  refine ev_pM rfl rfl rfl rfl rfl rfl rfl ?_
  iterate 2 refine ev_nx rfl ?_
  refine ev_pM rfl rfl rfl rfl rfl rfl rfl ?_
  iterate 2 refine ev_nx rfl ?_
  exact H 29 0 rd rfl hrd (by rw [zfl_0 hrd]; rfl)
theorem g_fault (sk : sok z.2.1 z.1.1) (hy : yok y) (hJ : Mq z y st h) : Ec (d + 5) m_X9_fault [.ref 0] h (fun v h' => v = some (.int (eo (ffr z.2.1 z.1.1 200 0 0))) ∧ ∃ y', yok y' ∧ Mq z y' st h') := by
  obtain ⟨nw, be, ge, re, rl, br, pt_, wo, hln, rfl⟩ := hJ
  refine ec_in [some (.ref 0)] rfl rfl ?_
  refine ev_nx rfl ?_
  refine ev_v rfl rfl rfl rfl rfl rfl rfl rfl (f_reading sk hy) (fun rv h2 q => ?_)
  obtain ⟨rfl, y', hr, rfl⟩ := q
  exact ev_ri rfl rfl rfl ⟨rfl, y', hr.1, nw, be, ge, re, rl, br, pt_, wo, hln, rfl⟩
def zly (z : aZ) (T : aT) : aZ := zhm (zsm (zke (zun (zsp (zsz (zme z T.2.2.2) T.2.2.1) T.2.1) 0) 0) 0) 0
theorem g_lay (sk : sok z.2.1 z.1.1) (hy : yok y) (hJ : Mq z y st h) (hst : st.length = 29) (hsz : z.2.2.1.length = 6) (hsp : z.2.2.2.1.length = 48) : Ec (d + 5) m_X9_lay [.ref 0] h (fun v h' => ∃ y', yok y' ∧ (((ffr z.2.1 z.1.1 200 0 0 = none ∧ 0 < (tT z y).2.2.2) ∧ v = some (.int (nI (tT z y).2.2.2)) ∧ (lokN (tT z y).1 ∧ mok (tT z y).2.1 (tT z y).2.2.1 6 ∧ (tT z y).2.2.2 ≤ 6) ∧ Mq (zly z (tT z y)) y' (llN (tT z y).1) h') ∨ (¬ (ffr z.2.1 z.1.1 200 0 0 = none ∧ 0 < (tT z y).2.2.2) ∧ v = some (.int (-(nI 2))) ∧ Mq z y' st h'))) := by
  obtain ⟨nw, be, ge, re, rl, br, pt_, wo, hln, rfl⟩ := hJ
  refine ec_in [some (.ref 0)] rfl rfl ?_
  refine ev_nx rfl ?_
  refine ev_v rfl rfl rfl rfl rfl rfl rfl rfl (f_reading sk hy) (fun rv h2 q => ?_)
  obtain ⟨rfl, y', hr, rfl⟩ := q
  refine ev_nx rfl ?_
  refine ev_nx rfl ?_
  cases hf : ffr z.2.1 z.1.1 200 0 0 with
  | some k =>
    have hk : k < 1000 := by
      have : ∀ f k c e, k < 900 → ffr z.2.1 z.1.1 f k c = some e → e < 900 := by
        intro f
        induction f with
        | zero => intro k c e _ q; cases q
        | succ f ih =>
          intro k c e hk q
          rw [ffr] at q
          split at q
          · rename_i hkn
            have := sk.2.1
            split at q
            · cases q; exact hk
            · rename_i e2 he
              have := iE_le he
              generalize c + (if lt_ z.2.1 z.1.1 k = 109 then 1 else 0) = c2 at q
              split at q
              · cases q; exact hk
              · exact ih e2 _ e (by omega) q
          · cases q
      have := this 200 0 0 k (by omega) hf
      omega
    refine ev_if (fun _ => ?_) (fun q => absurd (show nI k = -(nI 4) by simpa [am_c2, eo] using q) (eo_c hk))
    refine ev_nx rfl ?_
    exact ev_ri rfl rfl rfl ⟨y', hr.1, .inr ⟨fun q => (by cases q.1), rfl, nw, be, ge, re, rl, br, pt_, wo, hln, rfl⟩⟩
  | none =>
    rw [hf] at hr
    obtain ⟨⟨ok, h6⟩, e, rfl⟩ := hr.2 rfl
    have hy1 := hr.1
    refine ev_f (by show am_c2 .ne (-(nI 4)) (-(nI 4)) = false; decide) ?_
    generalize tT z y = T at ok h6 hy1 ⊢
    obtain ⟨x, rp, rz, rm⟩ := T
    have hmo : mok rp rz 6 := hy1.2
    have hl : (llN x).length = 29 := ll_len ok
    refine ev_nx rfl ?_
    refine ev_nx rfl ?_
    show Ev (d + 5) m_X9_lay 13 _ (.int (nI rm) :: _) _ _
    have h6' : rm ≤ 6 := h6
    refine ev_nx rfl ?_
    refine ev_ne0 (fun hrm => ?_) (fun hrm => ?_)
    · have B1 := bring_n (d := d + 4) (A := rz) (B := z.2.2.1) (C := rz) (a := 12) (b := 3) (i := 0) (k := 0) (n := 6) (by rw [brg_id hmo.2.2.1 hsz]) (by decide) (by decide) (by have := hmo.2.2.1; omega) (by omega)
      have B2 := bring_n (d := d + 4) (A := rp) (B := z.2.2.2.1) (C := rp) (a := 13) (b := 4) (i := 0) (k := 0) (n := 48) (by rw [brg_id hmo.1 hsp]) (by decide) (by decide) (by have := hmo.1; omega) (by omega)
      have B3 := bring_n (d := d + 4) (A := llN x) (B := st) (C := llN x) (a := 11) (b := 5) (i := 0) (k := 0) (n := 29) (by rw [brg_id hl hst]) (by decide) (by decide) (by omega) (by omega)
      iterate 2 refine ev_nx rfl ?_
      refine ev_nx rfl ?_
      show Ev _ _ _ _ (.int (nI rm) :: _) _ _
      refine ev_pM rfl rfl rfl rfl rfl rfl rfl ?_
      iterate 7 refine ev_nx rfl ?_
      refine ev_sv rfl rfl (by decide) rfl rfl rfl rfl (B1 _ rfl rfl) ?_
      iterate 7 refine ev_nx rfl ?_
      refine ev_sv rfl rfl (by decide) rfl rfl rfl rfl (B2 _ rfl rfl) ?_
      iterate 7 refine ev_nx rfl ?_
      refine ev_sv rfl rfl (by decide) rfl rfl rfl rfl (B3 _ rfl rfl) ?_
      iterate 2 refine ev_nx rfl ?_
      refine ev_pM rfl rfl rfl rfl rfl rfl rfl ?_
      iterate 2 refine ev_nx rfl ?_
      refine ev_pM rfl rfl rfl rfl rfl rfl rfl ?_
      iterate 2 refine ev_nx rfl ?_
      refine ev_pM rfl rfl rfl rfl rfl rfl rfl ?_
      iterate 2 refine ev_nx rfl ?_
      refine ev_pM rfl rfl rfl rfl rfl rfl rfl ?_
      iterate 2 refine ev_nx rfl ?_
      exact ev_ri rfl rfl rfl ⟨yT e (x, rp, rz, rm), hy1, .inl ⟨⟨rfl, by show 0 < rm; omega⟩, rfl, ⟨ok, hmo, h6⟩, nw, be, ge, re, rl, br, pt_, wo, hln, rfl⟩⟩
    · refine ev_nx rfl ?_
      exact ev_ri rfl rfl rfl ⟨yT e (x, rp, rz, rm), hy1, .inr ⟨fun q => absurd q.2 (by show ¬ 0 < rm; omega), rfl, nw, be, ge, re, rl, br, pt_, wo, hln, rfl⟩⟩
end XW
