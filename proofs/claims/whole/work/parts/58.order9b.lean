/-! the reference: order -/
section XQ
variable {d : Nat} {h : aH} {z : aZ} {y : aY} {st nw be ge re rl br pt_ : List Nat} {wo : List Int32} {K S G K1 S1 G1 : List Nat} {c t j : Nat}
theorem clf_lt {f : Nat → Nat} {N : Nat} : ∀ n s w, s + n ≤ N → w < 2 ^ N → clf f n s w < 2 ^ N := by
  intro n
  induction n with
  | zero => intro s w _ hw; exact hw
  | succ n ih =>
    intro s w hs hw
    rw [clf]
    refine ih _ _ (by omega) ?_
    split
    · refine Nat.or_lt_two_pow hw ?_
      rw [Nat.one_mul]
      exact Nat.pow_lt_pow_right (by decide) (by omega)
    · exact hw
theorem it_or {r p : Nat} {k m mo : Int32} {R : List Nat} {QQ : Option Value → aH → Prop} (ok : lok K S G c t j) (hK1 : K1.length = 5) (hS1 : S1.length = 5) (hG1 : G1.length = 5) (hR : R.length = 5) (hR5 : ∀ x ∈ R, x < 5) (hp : p < 5) (kk : Ev (d + 5) m_X9_order 61 [some (.ref 0), some (.int (nI r)), some (.int k), some (.int mo), some (.int m), some (.int (nI (p + 1)))] [] (XM z y (ll K S G c t j) (ll (K1.set p (K.getD (R.getD p 0) 0)) S1 G1 c t j) be ge re R br pt_ wo) QQ) : Ev (d + 5) m_X9_order 61 [some (.ref 0), some (.int (nI r)), some (.int k), some (.int mo), some (.int m), some (.int (nI p))] [] (XM z y (ll K S G c t j) (ll K1 S1 G1 c t j) be ge re R br pt_ wo) QQ := by
  have hl := ll_len ok
  have hl1 : (ll K1 S1 G1 c t j).length = 29 := by simp [ll, b5, b4, hK1, hS1, hG1]
  have hr : R.getD p 0 < 5 := gd3 hR5 (by omega)
  iterate 3 refine ev_nx rfl ?_
  refine ev_ge (fun b64 => absurd b64 (by omega)) (fun b64 => ?_)
  iterate 4 refine ev_nx rfl ?_
  refine ev_add rfl ?_
  iterate 6 refine ev_nx rfl ?_
  refine ev_lN rfl rfl (by first | omega | (simp only [List.length_set, List.length_replicate]; omega)) ?_
  refine ev_add rfl ?_
  refine ev_lN rfl rfl (by omega) ?_
  rw [ll_K ok _ hr]
  refine ev_sN rfl rfl (by omega) ?_
  rw [ll_sK hK1 p _ hp]
  refine ev_inc rfl ⟨rfl, by decide⟩ rfl rfl ?_
  refine ev_nx rfl ?_
  exact kk
theorem lp_or {r : Nat} {k : Option Nat} {f : List Nat → Nat} (hf : f = fun R => pcn (clf (fs_ (prm K R) c t j r) 20 0 0)) (ok : lok K S G c t j) (hr : 1 ≤ r ∧ r ≤ 3) (hk : ∀ q, k = some q → q ≤ 4) (hre : re.length = 8) (hpt : pt_.length = 32) (hwo : wo.length = 1296) : ∀ l R s K1 S1 G1 be ge x5, chb (R :: l) = true → (∀ R' ∈ R :: l, R'.length = 5 ∧ ∀ x ∈ R', x < 5) → lok K1 S1 G1 c t j → be.length = 5 → ge.length = 5 → (∀ x, s.1 = some x → x < 1000) → s.2.length = 5 → Ev (d + 5) m_X9_order 53 [some (.ref 0), some (.int (nI r)), some (.int (oI k)), some (.int (eo1 s.1)), some (.int (nI 1)), x5] [] (XM z y (ll K S G c t j) (ll K1 S1 G1 c t j) be ge re R s.2 pt_ wo) (fun v h' => v = some (.int (orA k ((R :: l).foldl (ost f) s))) ∧ Mq z y (ll K S G c t j) h') := by
  have fin : ∀ s (K1 S1 G1 be ge R : List Nat) x5, R.length = 5 → lok K1 S1 G1 c t j → be.length = 5 → ge.length = 5 → s.2.length = 5 → Ev (d + 5) m_X9_order 53 [some (.ref 0), some (.int (nI r)), some (.int (oI k)), some (.int (eo1 s.1)), some (.int (nI 0)), x5] [] (XM z y (ll K S G c t j) (ll K1 S1 G1 c t j) be ge re R s.2 pt_ wo) (fun v h' => v = some (.int (orA k (s))) ∧ Mq z y (ll K S G c t j) h') := by
    intro s K1 S1 G1 be ge R x5 hR ok1 hbe hge hs2
    cases k with
    | none =>
      iterate 2 refine ev_nx rfl ?_
      refine ev_t (by decide) ?_
      iterate 2 refine ev_nx rfl ?_
      refine ev_f (by decide) ?_
      iterate 2 refine ev_nx rfl ?_
      exact ev_ri rfl rfl rfl ⟨rfl, _, be, ge, re, R, s.2, pt_, wo, ⟨ll_len ok1, hbe, hge, hre, hR, hs2, hpt, hwo⟩, rfl⟩
    | some k =>
      have := hk k rfl
      iterate 2 refine ev_nx rfl ?_
      refine ev_t (by decide) ?_
      refine ev_nx rfl ?_
      show Ev _ _ _ _ (.int (nI k) :: _) _ _
      refine ev_nx rfl ?_
      refine ev_ge0 ?_
      iterate 2 refine ev_nx rfl ?_
      refine ev_nx rfl ?_
      show Ev _ _ _ _ (.int (nI k) :: _) _ _
      refine ev_lN rfl rfl (by omega) ?_
      exact ev_ri rfl rfl rfl ⟨rfl, _, be, ge, re, R, s.2, pt_, wo, ⟨ll_len ok1, hbe, hge, hre, hR, hs2, hpt, hwo⟩, rfl⟩
  intro l
  induction l with
  | nil =>
    intro R s K1 S1 G1 be ge x5 hc hRs ok1 hbe hge hs1 hs2
    have hn : nxo R = none := by simpa [chb] using hc
    obtain ⟨hR, hR5⟩ := hRs R List.mem_cons_self
    rw [List.foldl_cons]
    have okp : ∀ S' G', (S'.length = 5 ∧ ∀ s ∈ S', s < 3) → (G'.length = 5 ∧ ∀ s ∈ G', s < 3) → lok (prm K R) S' G' c t j := fun S' G' => prm_ok ok hR hR5
    have HN := fun nw be ge br => f_next (d := d + 4) (z := z) (y := y) (st := ll K S G c t j) (nw := nw) (be := be) (ge := ge) (re := re) (br := br) (pt_ := pt_) (wo := wo) hR hR5
    skip
    have hcl : clf (fs_ (prm K R) c t j r) 20 0 0 < 2 ^ 20 := clf_lt 20 0 0 (by omega) (by decide)
    have hfR : f R = pcn (clf (fs_ (prm K R) c t j r) 20 0 0) := by rw [hf]
    have hpl := pcn_le (clf (fs_ (prm K R) c t j r) 20 0 0)
    have K2 : ∀ s' S2 G2 be ge x5, s' = ost f s R → lok (prm K R) S2 G2 c t j → be.length = 5 → ge.length = 5 → (∀ x, s'.1 = some x → x < 1000) → s'.2.length = 5 → Ev (d + 5) m_X9_order 133 [some (.ref 0), some (.int (nI r)), some (.int (oI k)), some (.int (eo1 s'.1)), some (.int (nI 1)), x5] [] (XM z y (ll K S G c t j) (ll (prm K R) S2 G2 c t j) be ge re R s'.2 pt_ wo) (fun v h' => v = some (.int (orA k (([]).foldl (ost f) (ost f s R)))) ∧ Mq z y (ll K S G c t j) h') := by
      intro s' S2 G2 be ge x5 hs' ok2 hbe hge q1 q2
      rw [← hs']
      refine ev_nx rfl ?_
      refine ev_vi rfl rfl rfl rfl rfl rfl rfl rfl (HN _ _ _ _) ?_
      refine ev_nx rfl ?_
      refine ev_nx rfl ?_
      rw [hn]
      exact fin s' _ _ _ be ge R _ hR ok2 hbe hge q2
    obtain ⟨k0, k1, k2, k3, k4, rfl⟩ := l5 ok1.1.1
    iterate 2 refine ev_nx rfl ?_
    refine ev_f (by decide) ?_
    iterate 2 refine ev_nx rfl ?_
    refine it_or (p := 0) ok rfl ok1.2.1.1 ok1.2.2.1.1 hR hR5 (by decide) ?_
    refine it_or (p := 1) ok rfl ok1.2.1.1 ok1.2.2.1.1 hR hR5 (by decide) ?_
    refine it_or (p := 2) ok rfl ok1.2.1.1 ok1.2.2.1.1 hR hR5 (by decide) ?_
    refine it_or (p := 3) ok rfl ok1.2.1.1 ok1.2.2.1.1 hR hR5 (by decide) ?_
    refine it_or (p := 4) ok rfl ok1.2.1.1 ok1.2.2.1.1 hR hR5 (by decide) ?_
    have hJ : JL z y (ll K S G c t j) (prm K R) c t j re R s.2 pt_ wo (XM z y (ll K S G c t j) (ll (prm K R) S1 G1 c t j) be ge re R s.2 pt_ wo) := ⟨S1, G1, okp S1 G1 ok1.2.1 ok1.2.2.1, be, ge, hbe, hge, rfl⟩
    show Ev (d + 5) m_X9_order 61 _ [] (XM z y (ll K S G c t j) (ll (prm K R) S1 G1 c t j) be ge re R s.2 pt_ wo) _
    iterate 3 refine ev_nx rfl ?_
    refine ev_ge (fun _ => ?_) (fun b => absurd b (by decide))
    iterate 3 refine ev_nx rfl ?_
    refine ev_v rfl rfl rfl rfl rfl rfl rfl rfl (g_clearOf hJ (by omega) (by omega)) (fun rv h2 q => ?_)
    obtain ⟨rfl, S2, G2, ok2, be2, ge2, hbe2, hge2, rfl⟩ := q
    refine ev_si rfl rfl (by decide) rfl rfl rfl rfl (f_bits (by omega)) ?_
    rw [← hfR]
    iterate 4 refine ev_nx rfl ?_
    have up : btr (f R) s.1 = true → Ev (d + 5) m_X9_order 116 [some (.ref 0), some (.int (nI r)), some (.int (oI k)), some (.int (eo1 s.1)), some (.int (nI 1)), some (.int (nI (f R)))] [] (XM z y (ll K S G c t j) (ll (prm K R) S2 G2 c t j) be2 ge2 re R s.2 pt_ wo) (fun v h' => v = some (.int (orA k (([]).foldl (ost f) (ost f s R)))) ∧ Mq z y (ll K S G c t j) h') := by
      intro hb
      have HB := f_bring (d := d + 4) (h := XM z y (ll K S G c t j) (ll (prm K R) S2 G2 c t j) be2 ge2 re R s.2 pt_ wo) (A := R) (B := s.2) (a := 17) (b := 18) (i := 0) (k := 0) (n := 5) rfl rfl (by decide) (by decide) (by omega) (by omega)
      rw [brg_id hR hs2] at HB
      iterate 9 refine ev_nx rfl ?_
      refine ev_sv rfl rfl (by decide) rfl rfl rfl rfl HB ?_
      exact K2 (some (f R), R) S2 G2 be2 ge2 _ (by rw [ost, if_pos hb]) ok2 hbe2 hge2 (fun x e => (by cases e; omega)) hR
    have no : btr (f R) s.1 = false → Ev (d + 5) m_X9_order 133 [some (.ref 0), some (.int (nI r)), some (.int (oI k)), some (.int (eo1 s.1)), some (.int (nI 1)), some (.int (nI (f R)))] [] (XM z y (ll K S G c t j) (ll (prm K R) S2 G2 c t j) be2 ge2 re R s.2 pt_ wo) (fun v h' => v = some (.int (orA k (([]).foldl (ost f) (ost f s R)))) ∧ Mq z y (ll K S G c t j) h') := by
      intro hb
      exact K2 s S2 G2 be2 ge2 _ (by rw [ost, hb, if_neg (by decide)]) ok2 hbe2 hge2 hs1 hs2
    obtain ⟨mo, B⟩ := s
    cases mo with
    | none =>
      refine ev_f ?_ (up rfl)
      show decide (nI (f R) ≤ -(nI 1)) = false
      rw [decide_eq_false_iff_not]
      exact Int32.not_le.mpr (lt_m1 (by omega))
    | some x =>
      have hx := hs1 x rfl
      refine ev_leq (a := f R) (b := x) (fun b113 => no ?_) (fun b113 => up ?_)
      · show decide (x < f R) = false
        rw [decide_eq_false_iff_not]; omega
      · show decide (x < f R) = true
        rw [decide_eq_true_eq]; exact b113
  | cons R' l ih =>
    intro R s K1 S1 G1 be ge x5 hc hRs ok1 hbe hge hs1 hs2
    have hn : nxo R = some R' ∧ chb (R' :: l) = true := by
      rw [chb] at hc
      simpa using hc
    obtain ⟨hR, hR5⟩ := hRs R List.mem_cons_self
    rw [List.foldl_cons]
    have okp : ∀ S' G', (S'.length = 5 ∧ ∀ s ∈ S', s < 3) → (G'.length = 5 ∧ ∀ s ∈ G', s < 3) → lok (prm K R) S' G' c t j := fun S' G' => prm_ok ok hR hR5
    have HN := fun nw be ge br => f_next (d := d + 4) (z := z) (y := y) (st := ll K S G c t j) (nw := nw) (be := be) (ge := ge) (re := re) (br := br) (pt_ := pt_) (wo := wo) hR hR5
    skip
    have hcl : clf (fs_ (prm K R) c t j r) 20 0 0 < 2 ^ 20 := clf_lt 20 0 0 (by omega) (by decide)
    have hfR : f R = pcn (clf (fs_ (prm K R) c t j r) 20 0 0) := by rw [hf]
    have hpl := pcn_le (clf (fs_ (prm K R) c t j r) 20 0 0)
    have K2 : ∀ s' S2 G2 be ge x5, s' = ost f s R → lok (prm K R) S2 G2 c t j → be.length = 5 → ge.length = 5 → (∀ x, s'.1 = some x → x < 1000) → s'.2.length = 5 → Ev (d + 5) m_X9_order 133 [some (.ref 0), some (.int (nI r)), some (.int (oI k)), some (.int (eo1 s'.1)), some (.int (nI 1)), x5] [] (XM z y (ll K S G c t j) (ll (prm K R) S2 G2 c t j) be ge re R s'.2 pt_ wo) (fun v h' => v = some (.int (orA k ((R' :: l).foldl (ost f) (ost f s R)))) ∧ Mq z y (ll K S G c t j) h') := by
      intro s' S2 G2 be ge x5 hs' ok2 hbe hge q1 q2
      rw [← hs']
      refine ev_nx rfl ?_
      refine ev_vi rfl rfl rfl rfl rfl rfl rfl rfl (HN _ _ _ _) ?_
      refine ev_nx rfl ?_
      refine ev_nx rfl ?_
      rw [hn.1]
      exact ih R' s' (prm K R) S2 G2 be ge _ hn.2 (fun R2 hR2 => hRs R2 (List.mem_cons_of_mem _ hR2)) ok2 hbe hge q1 q2
    obtain ⟨k0, k1, k2, k3, k4, rfl⟩ := l5 ok1.1.1
    iterate 2 refine ev_nx rfl ?_
    refine ev_f (by decide) ?_
    iterate 2 refine ev_nx rfl ?_
    refine it_or (p := 0) ok rfl ok1.2.1.1 ok1.2.2.1.1 hR hR5 (by decide) ?_
    refine it_or (p := 1) ok rfl ok1.2.1.1 ok1.2.2.1.1 hR hR5 (by decide) ?_
    refine it_or (p := 2) ok rfl ok1.2.1.1 ok1.2.2.1.1 hR hR5 (by decide) ?_
    refine it_or (p := 3) ok rfl ok1.2.1.1 ok1.2.2.1.1 hR hR5 (by decide) ?_
    refine it_or (p := 4) ok rfl ok1.2.1.1 ok1.2.2.1.1 hR hR5 (by decide) ?_
    have hJ : JL z y (ll K S G c t j) (prm K R) c t j re R s.2 pt_ wo (XM z y (ll K S G c t j) (ll (prm K R) S1 G1 c t j) be ge re R s.2 pt_ wo) := ⟨S1, G1, okp S1 G1 ok1.2.1 ok1.2.2.1, be, ge, hbe, hge, rfl⟩
    show Ev (d + 5) m_X9_order 61 _ [] (XM z y (ll K S G c t j) (ll (prm K R) S1 G1 c t j) be ge re R s.2 pt_ wo) _
    iterate 3 refine ev_nx rfl ?_
    refine ev_ge (fun _ => ?_) (fun b => absurd b (by decide))
    iterate 3 refine ev_nx rfl ?_
    refine ev_v rfl rfl rfl rfl rfl rfl rfl rfl (g_clearOf hJ (by omega) (by omega)) (fun rv h2 q => ?_)
    obtain ⟨rfl, S2, G2, ok2, be2, ge2, hbe2, hge2, rfl⟩ := q
    refine ev_si rfl rfl (by decide) rfl rfl rfl rfl (f_bits (by omega)) ?_
    rw [← hfR]
    iterate 4 refine ev_nx rfl ?_
    have up : btr (f R) s.1 = true → Ev (d + 5) m_X9_order 116 [some (.ref 0), some (.int (nI r)), some (.int (oI k)), some (.int (eo1 s.1)), some (.int (nI 1)), some (.int (nI (f R)))] [] (XM z y (ll K S G c t j) (ll (prm K R) S2 G2 c t j) be2 ge2 re R s.2 pt_ wo) (fun v h' => v = some (.int (orA k ((R' :: l).foldl (ost f) (ost f s R)))) ∧ Mq z y (ll K S G c t j) h') := by
      intro hb
      have HB := f_bring (d := d + 4) (h := XM z y (ll K S G c t j) (ll (prm K R) S2 G2 c t j) be2 ge2 re R s.2 pt_ wo) (A := R) (B := s.2) (a := 17) (b := 18) (i := 0) (k := 0) (n := 5) rfl rfl (by decide) (by decide) (by omega) (by omega)
      rw [brg_id hR hs2] at HB
      iterate 9 refine ev_nx rfl ?_
      refine ev_sv rfl rfl (by decide) rfl rfl rfl rfl HB ?_
      exact K2 (some (f R), R) S2 G2 be2 ge2 _ (by rw [ost, if_pos hb]) ok2 hbe2 hge2 (fun x e => (by cases e; omega)) hR
    have no : btr (f R) s.1 = false → Ev (d + 5) m_X9_order 133 [some (.ref 0), some (.int (nI r)), some (.int (oI k)), some (.int (eo1 s.1)), some (.int (nI 1)), some (.int (nI (f R)))] [] (XM z y (ll K S G c t j) (ll (prm K R) S2 G2 c t j) be2 ge2 re R s.2 pt_ wo) (fun v h' => v = some (.int (orA k ((R' :: l).foldl (ost f) (ost f s R)))) ∧ Mq z y (ll K S G c t j) h') := by
      intro hb
      exact K2 s S2 G2 be2 ge2 _ (by rw [ost, hb, if_neg (by decide)]) ok2 hbe2 hge2 hs1 hs2
    obtain ⟨mo, B⟩ := s
    cases mo with
    | none =>
      refine ev_f ?_ (up rfl)
      show decide (nI (f R) ≤ -(nI 1)) = false
      rw [decide_eq_false_iff_not]
      exact Int32.not_le.mpr (lt_m1 (by omega))
    | some x =>
      have hx := hs1 x rfl
      refine ev_leq (a := f R) (b := x) (fun b113 => no ?_) (fun b113 => up ?_)
      · show decide (x < f R) = false
        rw [decide_eq_false_iff_not]; omega
      · show decide (x < f R) = true
        rw [decide_eq_true_eq]; exact b113
theorem g_order {r : Nat} {k : Option Nat} (ok : lok K S G c t j) (hJ : Mq z y (ll K S G c t j) h) (hr : 1 ≤ r ∧ r ≤ 3) (hk : ∀ q, k = some q → q ≤ 4) : Ec (d + 5) m_X9_order [.ref 0, .int (nI r), .int (oI k)] h (fun v h' => v = some (.int (orA k ((dpm 5 0).foldl (ost (fun R => pcn (clf (fs_ (prm K R) c t j r) 20 0 0))) (none, z5)))) ∧ Mq z y (ll K S G c t j) h') := by
  have w1 : wi (nI r) (nI 1) (nI 3) = 1 := by rw [wi_n (by omega) (by omega) (by omega), if_pos (by omega)]
  have w2 := wi_oI (n := 4) (by omega) hk
  obtain ⟨nw, be, ge, re, rl, br, pt_, wo, ⟨hn, hbe, hge, hre, hrl, hbr, hpt, hwo⟩, rfl⟩ := hJ
  refine ec_in [some (.ref 0), some (.int (nI r)), some (.int (oI k)), none, none, none] rfl rfl ?_
  obtain ⟨f, hf⟩ : ∃ f : List Nat → Nat, f = fun R => pcn (clf (fs_ (prm K R) c t j r) 20 0 0) := ⟨_, rfl⟩
  rw [← hf]
  obtain ⟨l, hD⟩ : ∃ l, dpm 5 0 = [0, 1, 2, 3, 4] :: l := by
    have q := dpm_ok.2.1
    cases hE : dpm 5 0 with
    | nil => rw [hE] at q; cases q
    | cons a l =>
      rw [hE] at q
      obtain rfl : a = [0, 1, 2, 3, 4] := Option.some.inj q
      exact ⟨l, rfl⟩
  have hch := dpm_ok.1
  have hall := dpm_ok.2.2
  rw [hD] at hch hall ⊢
  have e0 : ([0, 1, 2, 3, 4] :: l).foldl (ost f) (none, z5) = ([0, 1, 2, 3, 4] :: l).foldl (ost f) (none, br) := rfl
  rw [e0]
  have HL := lp_or (d := d) (z := z) (y := y) (k := k) (re := re) (pt_ := pt_) (wo := wo) hf ok hr hk hre hpt hwo l [0, 1, 2, 3, 4] (none, br) K S G be ge (some (.int (nI 5))) hch hall ok hbe hge (fun x e => (by cases e)) hbr
  have it : ∀ p R (Q1 : Option Value → aH → Prop), p < 5 → R.length = 5 → Ev (d + 5) m_X9_order 28 [some (.ref 0), some (.int (nI r)), some (.int (oI k)), some (.int (-(nI 1))), some (.int (nI 1)), some (.int (nI (p + 1)))] [] (XM z y (ll K S G c t j) nw be ge re (R.set p p) br pt_ wo) Q1 → Ev (d + 5) m_X9_order 28 [some (.ref 0), some (.int (nI r)), some (.int (oI k)), some (.int (-(nI 1))), some (.int (nI 1)), some (.int (nI p))] [] (XM z y (ll K S G c t j) nw be ge re R br pt_ wo) Q1 := by
    intro p R Q1 hp hR kk
    iterate 3 refine ev_nx rfl ?_
    refine ev_ge (fun b31 => absurd b31 (by omega)) (fun b31 => ?_)
    iterate 4 refine ev_nx rfl ?_
    refine ev_sN rfl rfl (by omega) ?_
    refine ev_inc rfl ⟨rfl, by decide⟩ rfl rfl ?_
    refine ev_nx rfl ?_
    exact kk
  obtain ⟨r0, r1, r2, r3, r4, rfl⟩ := l5 hrl
  iterate 3 refine ev_nx rfl ?_
  refine ev_si rfl rfl (by decide) rfl rfl rfl rfl (f_in _ _ _ _) ?_
  rw [w1]
  refine ev_nx rfl ?_
  refine ev_f (by decide) ?_
  iterate 3 refine ev_nx rfl ?_
  refine ev_si rfl rfl (by decide) rfl rfl rfl rfl (f_in _ _ _ _) ?_
  rw [w2]
  refine ev_nx rfl ?_
  refine ev_t (by decide) ?_
  iterate 6 refine ev_nx rfl ?_
  refine it 0 _ _ (by decide) rfl (it 1 _ _ (by decide) rfl (it 2 _ _ (by decide) rfl (it 3 _ _ (by decide) rfl (it 4 _ _ (by decide) rfl ?_))))
  iterate 3 refine ev_nx rfl ?_
  refine ev_ge (fun b31 => ?_) (fun b31 => absurd b31 (by omega))
  refine ev_nx rfl ?_
  refine ev_vv rfl rfl rfl rfl rfl rfl rfl rfl (f_asItIs (ll_len ok) hn) ?_
  exact HL
end XQ
