/-! the reference: items, the text read whole -/
/-- an item read -/
def mI1 (l : List Nat) (n k e : Nat) (z : aT) : aT := if lt_ l n k = 109 then (z.1, rpf l n z.2.2.2 (e - 2 - k) 0 (k + 1) z.2.1, z.2.2.1.set z.2.2.2 (e - 2 - k), z.2.2.2 + 1) else ((tI1 l n k e z).1, z.2)
def mll (l : List Nat) (n : Nat) : Nat → Nat → aT → aT
  | 0, _, z => z
  | f + 1, k, z => if k < n then (match iE l n k with
    | none => z
    | some e => mll l n f e (mI1 l n k e z)) else z
/-- the reading's rows for a told thing -/
def yT (e : Nat) (T : aT) : aY := (e, 0, T.2.2.2, llN T.1, T.2.2.1, T.2.1)
def riR (l : List Nat) (n k : Nat) (T : aT) (y' : aY) : Prop :=
  (∃ e, iE l n k = some e ∧ (lt_ l n k = 109 → T.2.2.2 < 6) ∧ y' = yT e (mI1 l n k e T)) ∨ ((iE l n k = none ∨ (lt_ l n k = 109 ∧ 6 ≤ T.2.2.2)) ∧ y'.2.1 = 1 ∧ yok y')
section XV
variable {d : Nat} {h : aH} {z : aZ} {y : aY} {st nw be ge re rl br pt_ : List Nat} {wo : List Int32} {K S G : List Nat} {c t j : Nat} {l : List Nat} {n : Nat}
theorem rn_w {k mx q1 : Nat} {R R' : Nat × List Nat × List Nat × List Nat} {y1 y2 : aY} (hf : figR l n mx (k + 1, 0, R) q1 y1) (hs : sgnR l n 59 (y1.1, y1.2.1, R') y2) : y2.2.2 = R' ∧ q1 ≤ mx ∧ ((wE l n k mx = some (k + 3) ∧ y2.1 = k + 3 ∧ y2.2.1 = 0 ∧ q1 = lt_ l n (k + 1) - 48) ∨ (wE l n k mx = none ∧ y2.2.1 = 1)) := by
  obtain ⟨a1, a2, a3, a4⟩ := hf
  obtain ⟨s1, s2, s3⟩ := hs
  refine ⟨s1, a3, ?_⟩
  unfold wE
  rcases a4 with ⟨_, b1, b2, b3, b4⟩ | ⟨b1, b2⟩
  · have b3' : y1.1 = k + 2 := b3
    have s3' : (y1.2.1 = 0 ∧ y2.2.1 = 0 ∧ lt_ l n y1.1 = 59) ∨ (y2.2.1 = 1 ∧ (y1.2.1 = 1 ∨ ¬ lt_ l n y1.1 = 59)) := s3
    rw [b3'] at s3'
    rcases s3' with ⟨_, c1, c2⟩ | ⟨c1, c2 | c2⟩
    · rw [if_pos ⟨b2, c2⟩]
      exact .inl ⟨rfl, by rw [s2]; show y1.1 + 1 = _; omega, c1, b4⟩
    · omega
    · rw [if_neg (fun q => c2 q.2)]; exact .inr ⟨rfl, c1⟩
  · have hn : ¬ (48 ≤ lt_ l n (k + 1) ∧ lt_ l n (k + 1) ≤ 48 + mx) := by
      rcases b2 with b2 | b2
      · cases b2
      · exact b2
    rw [if_neg (fun q => hn q.1)]
    rcases s3 with ⟨c0, _, _⟩ | ⟨c1, _⟩
    · have : y1.2.1 = 0 := c0
      omega
    · exact .inr ⟨rfl, c1⟩
theorem rn_n {k q1 q2 : Nat} {R : Nat × List Nat × List Nat × List Nat} {y1 y2 y3 y4 : aY} (hf : figR l n 4 (k + 1, 0, R) q1 y1) (hs : sgnR l n 44 y1 y2) (hf3 : figR l n 5 y2 q2 y3) (hs4 : sgnR l n 59 y3 y4) : y4.2.2 = R ∧ q1 ≤ 4 ∧ q2 ≤ 5 ∧ ((nE l n k = some (k + 5) ∧ y4.1 = k + 5 ∧ y4.2.1 = 0 ∧ q1 = lt_ l n (k + 1) - 48 ∧ q2 = lt_ l n (k + 3) - 48) ∨ (nE l n k = none ∧ y4.2.1 = 1)) := by
  obtain ⟨a1, a2, a3, a4⟩ := hf
  obtain ⟨s1, s2, s3⟩ := hs
  obtain ⟨f1, f2, f3, f4⟩ := hf3
  obtain ⟨g1, g2, g3⟩ := hs4
  refine ⟨by rw [g1, f1, s1, a1], a3, f3, ?_⟩
  unfold nE
  have w4 : y3.2.1 = 1 → y4.2.1 = 1 := fun e => by rcases g3 with ⟨q, _⟩ | ⟨q, _⟩ <;> omega
  have w3 : y2.2.1 = 1 → y4.2.1 = 1 := fun e => w4 (by rcases f4 with ⟨q, _⟩ | ⟨q, _⟩ <;> omega)
  have w2 : y1.2.1 = 1 → y4.2.1 = 1 := fun e => w3 (by rcases s3 with ⟨q, _⟩ | ⟨q, _⟩ <;> omega)
  rcases a4 with ⟨_, b1, b2, b3, b4⟩ | ⟨b1, b2⟩
  · have b3' : y1.1 = k + 2 := b3
    rw [b3'] at s2 s3
    rcases s3 with ⟨_, c1, c2⟩ | ⟨c1, c2 | c2⟩
    · rw [s2] at f4 f2
      rcases f4 with ⟨_, e1, e2, e3, e4⟩ | ⟨e1, e2⟩
      · have e3' : y3.1 = k + 4 := e3
        rw [e3'] at g2 g3
        rcases g3 with ⟨_, i1, i2⟩ | ⟨i1, i2 | i2⟩
        · rw [if_pos ⟨b2, c2, e2, i2⟩]
          exact .inl ⟨rfl, by omega, i1, b4, e4⟩
        · omega
        · rw [if_neg (fun q => i2 q.2.2.2)]; exact .inr ⟨rfl, i1⟩
      · have hn : ¬ (48 ≤ lt_ l n (k + 3) ∧ lt_ l n (k + 3) ≤ 53) := by
          rcases e2 with e2 | e2
          · omega
          · exact e2
        rw [if_neg (fun q => hn q.2.2.1)]; exact .inr ⟨rfl, w4 e1⟩
    · omega
    · rw [if_neg (fun q => c2 q.2.1)]; exact .inr ⟨rfl, w3 c1⟩
  · have hn : ¬ (48 ≤ lt_ l n (k + 1) ∧ lt_ l n (k + 1) ≤ 52) := by
      rcases b2 with b2 | b2
      · cases b2
      · exact b2
    rw [if_neg (fun q => hn q.1)]; exact .inr ⟨rfl, w2 b1⟩
theorem f_readItem {k : Nat} {T : aT} (sk : sok z.2.1 z.1.1) (hk : k < z.1.1) (ok : lokN T.1) (hmo : mok T.2.1 T.2.2.1 6) (hrm : T.2.2.2 ≤ 6) : Ec (d + 3) m_X9_readItem [.ref 0] (XM z (yT k T) st nw be ge re rl br pt_ wo) (fun v h' => ∃ y', v = none ∧ riR z.2.1 z.1.1 k T y' ∧ h' = (XM z y' st nw be ge re rl br pt_ wo)) := by
  obtain ⟨x, rp, rz, rm⟩ := T
  have hk2 : k < 900 := by have := sk.2.1; omega
  have hlt := lt_lt sk k
  have hl : (llN x).length = 29 := ll_len ok
  have eh : hrx z.2.1 z.1.1 k = nI (lt_ z.2.1 z.1.1 k) := by rw [hrx, if_pos hk, lt_in hk]
  refine ec_in [some (.ref 0), none, none, none] rfl rfl ?_
  have mo2 : mok rp rz 6 := hmo
  show Ev _ _ _ _ _ (XM z (k, 0, rm, llN x, rz, rp) st nw be ge re rl br pt_ wo) _
  refine ev_nx rfl ?_
  refine ev_vi rfl rfl rfl rfl rfl rfl rfl rfl (f_here sk hk2) ?_
  show Ev _ _ _ _ (.int (hrx z.2.1 z.1.1 k) :: _) _ _
  rw [eh]
  iterate 3 refine ev_nx rfl ?_
  refine ev_nx rfl ?_
  refine ev_nx rfl ?_
  refine ev_add rfl ?_
  refine ev_pM rfl rfl rfl rfl rfl rfl rfl ?_
  show Ev (d + 3) m_X9_readItem 15 [some (.ref 0), some (.int (nI (lt_ z.2.1 z.1.1 k))), none, none] [] (XM z (k + 1, 0, rm, llN x, rz, rp) st nw be ge re rl br pt_ wo) _
  have F4 := fun (y : aY) (a : y.1 < 900) (b : y.2.1 ≤ 1) => f_figure (d := d + 1) (z := z) (y := y) (st := st) (nw := nw) (be := be) (ge := ge) (re := re) (rl := rl) (br := br) (pt_ := pt_) (wo := wo) (mx := 4) sk a b (by decide)
  have F5 := fun (y : aY) (a : y.1 < 900) (b : y.2.1 ≤ 1) => f_figure (d := d + 1) (z := z) (y := y) (st := st) (nw := nw) (be := be) (ge := ge) (re := re) (rl := rl) (br := br) (pt_ := pt_) (wo := wo) (mx := 5) sk a b (by decide)
  have F3 := fun (y : aY) (a : y.1 < 900) (b : y.2.1 ≤ 1) => f_figure (d := d + 1) (z := z) (y := y) (st := st) (nw := nw) (be := be) (ge := ge) (re := re) (rl := rl) (br := br) (pt_ := pt_) (wo := wo) (mx := 3) sk a b (by decide)
  have SG := fun (y : aY) (c : Nat) (a : y.1 < 900) (b : y.2.1 ≤ 1) (hc : 0 < c ∧ c < 65536) => f_sign (d := d + 1) (z := z) (y := y) (st := st) (nw := nw) (be := be) (ge := ge) (re := re) (rl := rl) (br := br) (pt_ := pt_) (wo := wo) (cc := c) sk a b hc
  have figw : ∀ {mx q : Nat} {y y' : aY}, figR z.2.1 z.1.1 mx y q y' → y'.2.1 ≤ 1 ∧ y'.1 ≤ y.1 + 1 := fun q => ⟨by rcases q.2.2.2 with r | r <;> omega, q.2.1⟩
  have sgnw : ∀ {c : Nat} {y y' : aY}, sgnR z.2.1 z.1.1 c y y' → y'.2.1 ≤ 1 ∧ y'.1 = y.1 + 1 := fun q => ⟨by rcases q.2.2 with r | r <;> omega, q.2.1⟩
  have hsk := sk.2.1
  by_cases hn : lt_ z.2.1 z.1.1 k = 110
  · have e1 : iE z.2.1 z.1.1 k = nE z.2.1 z.1.1 k := by rw [iE, if_pos hn]
    iterate 3 refine ev_nx rfl ?_
    refine ev_ne (fun b18 => absurd b18 (by omega)) (fun b18 => ?_)
    iterate 2 refine ev_nx rfl ?_
    refine ev_v rfl rfl rfl rfl rfl rfl rfl rfl (F4 (k + 1, 0, rm, llN x, rz, rp) (by show k + 1 < 900; omega) (Nat.zero_le _)) (fun rv h2 q => ?_)
    obtain ⟨q1, y1, rfl, hf1, rfl⟩ := q
    have v1 := figw hf1
    iterate 3 refine ev_nx rfl ?_
    refine ev_v rfl rfl rfl rfl rfl rfl rfl rfl (SG y1 44 (by have : y1.1 ≤ k + 1 + 1 := v1.2; omega) v1.1 (by decide)) (fun rv h2 q => ?_)
    obtain ⟨y2, rfl, hs2, rfl⟩ := q
    have v2 := sgnw hs2
    iterate 2 refine ev_nx rfl ?_
    refine ev_v rfl rfl rfl rfl rfl rfl rfl rfl (F5 y2 (by have : y1.1 ≤ k + 1 + 1 := v1.2; omega) v2.1) (fun rv h2 q => ?_)
    obtain ⟨q2, y3, rfl, hf3, rfl⟩ := q
    have v3 := figw hf3
    iterate 3 refine ev_nx rfl ?_
    refine ev_v rfl rfl rfl rfl rfl rfl rfl rfl (SG y3 59 (by have : y1.1 ≤ k + 1 + 1 := v1.2; omega) v3.1 (by decide)) (fun rv h2 q => ?_)
    obtain ⟨y4, rfl, hs4, rfl⟩ := q
    have R := rn_n hf1 hs2 hf3 hs4
    obtain ⟨r1, r2, r3, r4⟩ := R
    obtain ⟨a4, w4, R4⟩ := y4
    obtain rfl : R4 = (rm, llN x, rz, rp) := r1
    iterate 4 refine ev_nx rfl ?_
    refine ev_add rfl ?_
    refine ev_nx rfl ?_
    refine ev_sN rfl rfl ⟨by show 14 + q1 < (llN x).length; omega, by omega, by decide⟩ ?_
    refine ev_nx rfl ?_
    refine ev_rt rfl ⟨(a4, w4, rm, (llN x).set (14 + q1) q2, rz, rp), rfl, ?_, rfl⟩
    rcases r4 with ⟨g1, g2, g3, g4, g5⟩ | ⟨g1, g2⟩
    · refine .inl ⟨k + 5, by rw [e1, g1], fun q => absurd q (by omega), ?_⟩
      have ga : a4 = k + 5 := g2
      have gb : w4 = 0 := g3
      have E : (llN x).set (14 + q1) q2 = llN (mI1 z.2.1 z.1.1 k (k + 5) (x, rp, rz, rm)).1 := by
        unfold mI1
        rw [if_neg (show ¬ lt_ z.2.1 z.1.1 k = 109 by omega)]
        unfold tI1
        rw [if_pos hn, g4, g5]
        exact ll_sK ok.1.1 _ _ (by rw [← g4]; omega)
      unfold yT
      rw [← E, ga, gb]
      unfold mI1
      rw [if_neg (show ¬ lt_ z.2.1 z.1.1 k = 109 by omega)]
    · exact .inr ⟨.inl (by rw [e1, g1]), g2, by show ((llN x).set (14 + q1) q2).length = 29; rw [List.length_set, hl], mo2⟩
  by_cases hc : lt_ z.2.1 z.1.1 k = 99
  · have e1 : iE z.2.1 z.1.1 k = wE z.2.1 z.1.1 k 4 := by rw [iE, if_neg hn, if_pos hc]
    iterate 3 refine ev_nx rfl ?_
    refine ev_ne (fun b18 => ?_) (fun b18 => absurd b18 (by omega))
    iterate 3 refine ev_nx rfl ?_
    refine ev_ne (fun b61 => absurd b61 (by omega)) (fun b61 => ?_)
    iterate 5 refine ev_nx rfl ?_
    refine ev_v rfl rfl rfl rfl rfl rfl rfl rfl (F4 (k + 1, 0, rm, llN x, rz, rp) (by show k + 1 < 900; omega) (Nat.zero_le _)) (fun rv h2 q => ?_)
    obtain ⟨q1, y1, rfl, hf1, rfl⟩ := q
    have v1 := figw hf1
    have r1 := hf1.1
    obtain ⟨a1, w1, R1⟩ := y1
    obtain rfl : R1 = (rm, llN x, rz, rp) := r1
    have hq1 := hf1.2.2.1
    refine ev_add rfl ?_
    refine ev_nx rfl ?_
    refine ev_sN rfl rfl ⟨by show 0 + q1 < (llN x).length; omega, by omega, by decide⟩ ?_
    iterate 2 refine ev_nx rfl ?_
    refine ev_v rfl rfl rfl rfl rfl rfl rfl rfl (SG (a1, w1, rm, (llN x).set (0 + q1) 1, rz, rp) 59 (by have : a1 ≤ k + 1 + 1 := v1.2; show a1 < 900; omega) v1.1 (by decide)) (fun rv h2 q => ?_)
    obtain ⟨y2, rfl, hs2, rfl⟩ := q
    have R := rn_w (R' := (rm, (llN x).set (0 + q1) 1, rz, rp)) hf1 hs2
    obtain ⟨r1, r2, r4⟩ := R
    obtain ⟨a4, w4, R4⟩ := y2
    obtain rfl : R4 = (rm, (llN x).set (0 + q1) 1, rz, rp) := r1
    refine ev_nx rfl ?_
    refine ev_rt rfl ⟨(a4, w4, rm, (llN x).set (0 + q1) 1, rz, rp), rfl, ?_, rfl⟩
    rcases r4 with ⟨g1, g2, g3, g4⟩ | ⟨g1, g2⟩
    · refine .inl ⟨k + 3, by rw [e1, g1], fun q => absurd q (by omega), ?_⟩
      have ga : a4 = k + 3 := g2
      have gb : w4 = 0 := g3
      have E : (llN x).set (0 + q1) 1 = llN (mI1 z.2.1 z.1.1 k (k + 3) (x, rp, rz, rm)).1 := by
        unfold mI1
        rw [if_neg (show ¬ lt_ z.2.1 z.1.1 k = 109 by omega)]
        unfold tI1
        rw [if_neg hn, if_pos hc, ← g4]
        exact ll_c1 _ (by omega) ok.2.2.2.1
      unfold yT
      rw [← E, ga, gb]
      unfold mI1
      rw [if_neg (show ¬ lt_ z.2.1 z.1.1 k = 109 by omega)]
    · exact .inr ⟨.inl (by rw [e1, g1]), g2, by show ((llN x).set (0 + q1) 1).length = 29; rw [List.length_set, hl], mo2⟩
  by_cases ht : lt_ z.2.1 z.1.1 k = 116
  · have e1 : iE z.2.1 z.1.1 k = wE z.2.1 z.1.1 k 4 := by rw [iE, if_neg hn, if_neg hc, if_pos ht]
    iterate 3 refine ev_nx rfl ?_
    refine ev_ne (fun b18 => ?_) (fun b18 => absurd b18 (by omega))
    iterate 3 refine ev_nx rfl ?_
    refine ev_ne (fun b61 => ?_) (fun b61 => absurd b61 (by omega))
    iterate 3 refine ev_nx rfl ?_
    refine ev_ne (fun b89 => absurd b89 (by omega)) (fun b89 => ?_)
    iterate 5 refine ev_nx rfl ?_
    refine ev_v rfl rfl rfl rfl rfl rfl rfl rfl (F4 (k + 1, 0, rm, llN x, rz, rp) (by show k + 1 < 900; omega) (Nat.zero_le _)) (fun rv h2 q => ?_)
    obtain ⟨q1, y1, rfl, hf1, rfl⟩ := q
    have v1 := figw hf1
    have r1 := hf1.1
    obtain ⟨a1, w1, R1⟩ := y1
    obtain rfl : R1 = (rm, llN x, rz, rp) := r1
    have hq1 := hf1.2.2.1
    refine ev_add rfl ?_
    refine ev_nx rfl ?_
    refine ev_sN rfl rfl ⟨by show 5 + q1 < (llN x).length; omega, by omega, by decide⟩ ?_
    iterate 2 refine ev_nx rfl ?_
    refine ev_v rfl rfl rfl rfl rfl rfl rfl rfl (SG (a1, w1, rm, (llN x).set (5 + q1) 1, rz, rp) 59 (by have : a1 ≤ k + 1 + 1 := v1.2; show a1 < 900; omega) v1.1 (by decide)) (fun rv h2 q => ?_)
    obtain ⟨y2, rfl, hs2, rfl⟩ := q
    have R := rn_w (R' := (rm, (llN x).set (5 + q1) 1, rz, rp)) hf1 hs2
    obtain ⟨r1, r2, r4⟩ := R
    obtain ⟨a4, w4, R4⟩ := y2
    obtain rfl : R4 = (rm, (llN x).set (5 + q1) 1, rz, rp) := r1
    refine ev_nx rfl ?_
    refine ev_rt rfl ⟨(a4, w4, rm, (llN x).set (5 + q1) 1, rz, rp), rfl, ?_, rfl⟩
    rcases r4 with ⟨g1, g2, g3, g4⟩ | ⟨g1, g2⟩
    · refine .inl ⟨k + 3, by rw [e1, g1], fun q => absurd q (by omega), ?_⟩
      have ga : a4 = k + 3 := g2
      have gb : w4 = 0 := g3
      have E : (llN x).set (5 + q1) 1 = llN (mI1 z.2.1 z.1.1 k (k + 3) (x, rp, rz, rm)).1 := by
        unfold mI1
        rw [if_neg (show ¬ lt_ z.2.1 z.1.1 k = 109 by omega)]
        unfold tI1
        rw [if_neg hn, if_neg hc, if_pos ht, ← g4]
        exact ll_t1 _ (by omega) ok.2.2.2.2.1
      unfold yT
      rw [← E, ga, gb]
      unfold mI1
      rw [if_neg (show ¬ lt_ z.2.1 z.1.1 k = 109 by omega)]
    · exact .inr ⟨.inl (by rw [e1, g1]), g2, by show ((llN x).set (5 + q1) 1).length = 29; rw [List.length_set, hl], mo2⟩
  by_cases hj : lt_ z.2.1 z.1.1 k = 106
  · have e1 : iE z.2.1 z.1.1 k = wE z.2.1 z.1.1 k 3 := by rw [iE, if_neg hn, if_neg hc, if_neg ht, if_pos hj]
    iterate 3 refine ev_nx rfl ?_
    refine ev_ne (fun b18 => ?_) (fun b18 => absurd b18 (by omega))
    iterate 3 refine ev_nx rfl ?_
    refine ev_ne (fun b61 => ?_) (fun b61 => absurd b61 (by omega))
    iterate 3 refine ev_nx rfl ?_
    refine ev_ne (fun b89 => ?_) (fun b89 => absurd b89 (by omega))
    iterate 3 refine ev_nx rfl ?_
    refine ev_ne (fun b117 => absurd b117 (by omega)) (fun b117 => ?_)
    iterate 5 refine ev_nx rfl ?_
    refine ev_v rfl rfl rfl rfl rfl rfl rfl rfl (F3 (k + 1, 0, rm, llN x, rz, rp) (by show k + 1 < 900; omega) (Nat.zero_le _)) (fun rv h2 q => ?_)
    obtain ⟨q1, y1, rfl, hf1, rfl⟩ := q
    have v1 := figw hf1
    have r1 := hf1.1
    obtain ⟨a1, w1, R1⟩ := y1
    obtain rfl : R1 = (rm, llN x, rz, rp) := r1
    have hq1 := hf1.2.2.1
    refine ev_add rfl ?_
    refine ev_nx rfl ?_
    refine ev_sN rfl rfl ⟨by show 10 + q1 < (llN x).length; omega, by omega, by decide⟩ ?_
    iterate 2 refine ev_nx rfl ?_
    refine ev_v rfl rfl rfl rfl rfl rfl rfl rfl (SG (a1, w1, rm, (llN x).set (10 + q1) 1, rz, rp) 59 (by have : a1 ≤ k + 1 + 1 := v1.2; show a1 < 900; omega) v1.1 (by decide)) (fun rv h2 q => ?_)
    obtain ⟨y2, rfl, hs2, rfl⟩ := q
    have R := rn_w (R' := (rm, (llN x).set (10 + q1) 1, rz, rp)) hf1 hs2
    obtain ⟨r1, r2, r4⟩ := R
    obtain ⟨a4, w4, R4⟩ := y2
    obtain rfl : R4 = (rm, (llN x).set (10 + q1) 1, rz, rp) := r1
    refine ev_nx rfl ?_
    refine ev_rt rfl ⟨(a4, w4, rm, (llN x).set (10 + q1) 1, rz, rp), rfl, ?_, rfl⟩
    rcases r4 with ⟨g1, g2, g3, g4⟩ | ⟨g1, g2⟩
    · refine .inl ⟨k + 3, by rw [e1, g1], fun q => absurd q (by omega), ?_⟩
      have ga : a4 = k + 3 := g2
      have gb : w4 = 0 := g3
      have E : (llN x).set (10 + q1) 1 = llN (mI1 z.2.1 z.1.1 k (k + 3) (x, rp, rz, rm)).1 := by
        unfold mI1
        rw [if_neg (show ¬ lt_ z.2.1 z.1.1 k = 109 by omega)]
        unfold tI1
        rw [if_neg hn, if_neg hc, if_neg ht, if_pos hj, ← g4]
        exact ll_j1 _ (by omega) ok.2.2.2.2.2
      unfold yT
      rw [← E, ga, gb]
      unfold mI1
      rw [if_neg (show ¬ lt_ z.2.1 z.1.1 k = 109 by omega)]
    · exact .inr ⟨.inl (by rw [e1, g1]), g2, by show ((llN x).set (10 + q1) 1).length = 29; rw [List.length_set, hl], mo2⟩
  by_cases hm : lt_ z.2.1 z.1.1 k = 109
  · have e1 : iE z.2.1 z.1.1 k = mE z.2.1 z.1.1 k := by rw [iE, if_neg hn, if_neg hc, if_neg ht, if_neg hj, if_pos hm]
    iterate 3 refine ev_nx rfl ?_
    refine ev_ne (fun b18 => ?_) (fun b18 => absurd b18 (by omega))
    iterate 3 refine ev_nx rfl ?_
    refine ev_ne (fun b61 => ?_) (fun b61 => absurd b61 (by omega))
    iterate 3 refine ev_nx rfl ?_
    refine ev_ne (fun b89 => ?_) (fun b89 => absurd b89 (by omega))
    iterate 3 refine ev_nx rfl ?_
    refine ev_ne (fun b117 => ?_) (fun b117 => absurd b117 (by omega))
    iterate 3 refine ev_nx rfl ?_
    refine ev_ne (fun b146 => absurd b146 (by omega)) (fun b146 => ?_)
    refine ev_nx rfl ?_
    refine ev_v rfl rfl rfl rfl rfl rfl rfl rfl (f_readMessage sk (by have := sk.2.1; omega) hrm hl mo2) (fun rv h2 q => ?_)
    obtain ⟨y', rfl, hr, rfl⟩ := q
    refine ev_nx rfl ?_
    refine ev_rt rfl ⟨y', rfl, ?_, rfl⟩
    have h8 := cps8 (l := z.2.1) (n := z.1.1) (k := k + 1)
    unfold rmR at hr
    rcases hr with ⟨⟨q1, q2, q3⟩, rfl⟩ | ⟨q1, q2, q3⟩
    · refine .inl ⟨k + cps z.2.1 z.1.1 8 (k + 1) + 2, by rw [e1, mE, if_pos ⟨q2, q3⟩], fun _ => q1, ?_⟩
      unfold yT mI1
      rw [if_pos hm, show k + cps z.2.1 z.1.1 8 (k + 1) + 2 - 2 - k = cps z.2.1 z.1.1 8 (k + 1) by omega, show k + 1 + cps z.2.1 z.1.1 8 (k + 1) + 1 = k + cps z.2.1 z.1.1 8 (k + 1) + 2 by omega]
    · refine .inr ⟨?_, q2, q3⟩
      by_cases h6 : rm < 6
      · left
        rw [e1, mE, if_neg (fun q => q1 ⟨h6, q⟩)]
      · exact .inr ⟨hm, by show 6 ≤ rm; omega⟩
  · have e1 : iE z.2.1 z.1.1 k = none := by rw [iE, if_neg hn, if_neg hc, if_neg ht, if_neg hj, if_neg hm]
    iterate 3 refine ev_nx rfl ?_
    refine ev_ne (fun b18 => ?_) (fun b18 => absurd b18 (by omega))
    iterate 3 refine ev_nx rfl ?_
    refine ev_ne (fun b61 => ?_) (fun b61 => absurd b61 (by omega))
    iterate 3 refine ev_nx rfl ?_
    refine ev_ne (fun b89 => ?_) (fun b89 => absurd b89 (by omega))
    iterate 3 refine ev_nx rfl ?_
    refine ev_ne (fun b117 => ?_) (fun b117 => absurd b117 (by omega))
    iterate 3 refine ev_nx rfl ?_
    refine ev_ne (fun b146 => ?_) (fun b146 => absurd b146 (by omega))
    iterate 2 refine ev_nx rfl ?_
    refine ev_pM rfl rfl rfl rfl rfl rfl rfl ?_
    exact ev_rt rfl ⟨(k + 1, 1, rm, llN x, rz, rp), rfl, .inr ⟨.inl e1, rfl, hl, mo2⟩, rfl⟩
end XV
