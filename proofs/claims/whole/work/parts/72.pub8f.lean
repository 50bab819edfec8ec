/-! the class: duel, chances, days -/
section PF
variable {h h' : aH} {V : aV} {d i : Nat} {x : aN} {K S G sg ln : List Nat} {c t j mn : Nat}
theorem XH_8 (X : XH V h) (l : h'.length = h.length) (f : ∀ q, q < 76 ∨ 87 < q → h'[q]? = h[q]?) (x : xq8 h') : XH V h' := by
  obtain ⟨h0, h1, h2, h3, h4, h5, h6, h7, h8, h9⟩ := X
  exact ⟨xq0_mv h0 l (f _ (by omega)), xq1_mv h1 (fun q _ _ => f q (by omega)), xq2_mv h2 (fun q _ _ => f q (by omega)), xq3_mv h3 (fun q _ _ => f q (by omega)), xq4_mv h4 (fun q _ _ => f q (by omega)), xq5_mv h5 (fun q _ _ => f q (by omega)), xq6_mv h6 (fun q _ _ => f q (by omega)), xq7_mv h7 (fun q _ _ => f q (by omega)), x, xq9_mv h9 (fun q _ _ => f q (by omega))⟩
theorem c_duel {m n : Nat} (X : XH V h) (hm : m < V.2.1.2.2) (hn : n ≤ 4) : Ec (d + 10) m_X8_duel [.ref 0, .int (nI m), .int (nI n)] h (fun v h' => v = some (.int (nI (outc V.2.2.1.1 V.2.2.1.2.2.2.2.1 V.2.2.1.2.2.2.2.2 (msg V.2.1.1 V.2.1.2.1 m) n true 0 V.2.2.1.2.2.2.1))) ∧ XH V h') := by
  have mo := X.2.2.1.2.1
  have h6 := mo.2.2.2.2
  have w1 : wi (nI m) (nI 0) (nI (V.2.1.2.2 - 1)) = 1 := by rw [wi_n (by omega) (by omega) (by omega), if_pos (by omega)]
  have w2 : wi (nI n) (nI 0) (nI 4) = 1 := by rw [wi_n (by omega) (by omega) (by omega), if_pos (by omega)]
  obtain ⟨⟨em, m0, hc, hl⟩, ⟨K1, c1, t1, j1, S1, G1, ls, oks⟩, K2, c2, t2, j2, S2, G2, lt, okt⟩ := X.2.2.2.2.2.2.2.2.1
  have ok := X.2.2.2.1.2
  refine ec_in [some (.ref 0), some (.int (nI m)), some (.int (nI n))] rfl rfl ?_
  iterate 2 refine ev_nx rfl ?_
  refine ev_vi rfl rfl rfl rfl rfl rfl X.1.2 rfl (c_isMessage X) ?_
  rw [w1]
  refine ev_nx rfl ?_
  refine ev_f (by decide) ?_
  iterate 3 refine ev_nx rfl ?_
  refine ev_si rfl rfl (by decide) rfl rfl rfl rfl (ec_le (by omega) (e_within _ _ _ _)) ?_
  rw [w2]
  refine ev_nx rfl ?_
  refine ev_t (by decide) ?_
  refine ev_nx rfl ?_
  refine ev_gf rfl rfl X.1.2 rfl ?_
  refine ev_nx rfl ?_
  refine ev_gf rfl rfl X.1.2 rfl ?_
  refine ev_nx rfl ?_
  refine ev_v rfl rfl rfl rfl rfl rfl hc.1 rfl (ec_le (d := d + 1) (by omega) (e_beginFor hc hl ls X.2.2.2.1.1 ⟨oks.1.1, oks.2.1.1, oks.2.2.1.1⟩ ⟨ok.1.1, ok.2.1.1, ok.2.2.1.1⟩ (XH_len X))) (fun rv h2 q => ?_)
  obtain ⟨rfl, q1, qx, q2⟩ := q
  have X2 : XH V h2 := XH_8 X q2.1 (fun q hq => q2.2 q (by omega) (by omega)) ⟨⟨_, m, q1, List.length_replicate⟩, ⟨_, _, _, _, _, _, qx, ok⟩, K2, c2, t2, j2, S2, G2, ltx_fr lt (fun q a b => q2.2 q (by omega) (by omega)), okt⟩
  have hci : cin V.2.2.1.1 V.2.2.1.2.2.2.2.1 V.2.2.1.2.2.2.2.2 (msg V.2.1.1 V.2.1.2.1 m) m h2 := ⟨⟨_, q1, mem_new⟩, X2.2.2.2.2.2.2.2.2.1.2.2⟩
  refine ev_nx rfl ?_
  refine ev_gf rfl rfl X2.1.2 rfl ?_
  refine ev_nx rfl ?_
  refine ev_gf rfl rfl X2.1.2 rfl ?_
  iterate 4 refine ev_nx rfl ?_
  refine ev_gf rfl rfl X2.1.2 rfl ?_
  refine ev_gf rfl rfl (XH_6o X2) rfl ?_
  refine ev_v rfl rfl rfl rfl rfl rfl q1.1 rfl (ec_le (by omega) (e_outcome (d := d) ok mo (by omega) n true 0 V.2.2.1.2.2.2.1 h2 (by omega) (by decide) ok.2.2.2.1 hci qx X2.2.2.1.1 (XH_len X2))) (fun rv h3 q => ?_)
  obtain ⟨rfl, q3, q4⟩ := q
  exact ev_ri rfl rfl rfl ⟨rfl, XH_8 X2 q4.1 (fun q hq => q4.2 q (by omega) (by omega)) ⟨by obtain ⟨⟨em2, a, b⟩, _⟩ := q3; exact ⟨em2, m, a, b.1⟩, ⟨_, _, _, _, _, _, cin_x qx q4, ok⟩, q3.2⟩⟩
/-! chances -/
theorem e_slackShare {s w x : Nat} (hs : s < 3) (hw : w < 3) (hx : x ≤ 10) : Ec d m_X8_slackShare [.int (nI s), .int (nI w), .int (nI x)] h (rt (.int (nI (slk s w x))) h) := by
  refine ec_in [some (.int (nI s)), some (.int (nI w)), some (.int (nI x))] rfl rfl ?_
  iterate 3 refine ev_nx rfl ?_
  refine ev_ne (fun b2 => ?_) (fun b2 => ?_)
  · iterate 2 refine ev_nx rfl ?_
    refine ev_ne0 (fun b20 => ?_) (fun b20 => ?_)
    · refine ev_nx rfl ?_
      exact ev_ri rfl rfl rfl ⟨vI (by unfold slk; (repeat' split) <;> omega), rfl⟩
    · iterate 2 refine ev_nx rfl ?_
      exact ev_ri rfl rfl rfl ⟨vI (by unfold slk; (repeat' split) <;> omega), rfl⟩
  · iterate 2 refine ev_nx rfl ?_
    refine ev_ne0 (fun b6 => ?_) (fun b6 => ?_)
    · iterate 2 refine ev_nx rfl ?_
      refine ev_sub rfl (by omega) ?_
      exact ev_ri rfl rfl rfl ⟨vI (by unfold slk; (repeat' split) <;> omega), rfl⟩
    · iterate 2 refine ev_nx rfl ?_
      exact ev_ri rfl rfl rfl ⟨vI (by unfold slk; (repeat' split) <;> omega), rfl⟩
/-- sent in a beat from rest: how the trial line stands then -/
theorem t_sf1 {s : Nat} (X : XT V K c t j h) (hs : s < 31) : Ec (d + 3) m_X3_sendFromRest [.ref 11, .int (nI s), .int (nI 1)] h (fun r h' => (∃ y, r = some (.int y)) ∧ XT V K c t j h' ∧ ltx h' 11 (K, bst K (cry s c t j) z5 z5, cry s c t j, c, t, j)) := by
  obtain ⟨S, G, hx, ok⟩ := X.2
  obtain ⟨C, hC, e, hi⟩ := ltx_lh hx (XH_len X.1)
  have H := e_sendFromRest (d := d) (h := h) (i := 11) (K := K) (S := S) (G := G) (C := C) (c := c) (t := t) (j := j) hi ok hC hs (show 1 < 1000 by decide)
  have e' : lh h 11 K S G C c t j = h := e
  rw [e'] at H
  refine ec_mono H ?_
  rintro r h' ⟨rfl, rfl⟩
  have q := lh_ltx (K := K) (S := bst K (cry s c t j) z5 z5) (G := cry s c t j) (C := cry s c t j) (c := c) (t := t) (j := j) hi cry_len
  exact ⟨⟨_, rfl⟩, XT_f X.1 q.2 ⟨_, _, q.1, bst_ok (lok_rest ok) hs⟩, q.1⟩
theorem e_slack {s x : Nat} (X : XT V K c t j h) (hs : s < 31) (hx : x ≤ 10) : Ec (d + 4) m_X8_slackChances [.ref 0, .int (nI s), .int (nI x)] h (fun r h' => r = some (.int (nI (lky K c t j s x))) ∧ XT V K c t j h') := by
  refine ec_in [some (.ref 0), some (.int (nI s)), some (.int (nI x)), none, none] rfl rfl ?_
  refine ev_nx rfl ?_
  refine ev_gf rfl rfl X.1.1.2 rfl ?_
  iterate 2 refine ev_nx rfl ?_
  refine ev_v rfl rfl rfl rfl rfl rfl (XT_o X) rfl (t_sf1 X hs) (fun rv h2 q => ?_)
  obtain ⟨⟨yy, rfl⟩, X2, hl2⟩ := q
  iterate 5 refine ev_nx rfl ?_
  skip
  have okz := XT_ok X
  have okb := bst_ok okz hs
  obtain ⟨C, hC, hl⟩ := hl2
  have H : ∀ n p a, p + n = 5 → Ev (d + 4) m_X8_slackChances 15 [some (.ref 0), some (.int (nI s)), some (.int (nI x)), some (.int (nI a)), some (.int (nI p))] [] h2 (fun r h' => r = some (.int (nI (lyk (bst K (cry s c t j) z5 z5) s x n p a))) ∧ XT V K c t j h') := by
    intro n
    induction n with
    | zero =>
      intro p a hp
      iterate 3 refine ev_nx rfl ?_
      refine ev_ge (fun b18 => ?_) (fun b18 => absurd b18 (by omega))
      refine ev_nx rfl ?_
      exact ev_ri rfl rfl rfl ⟨rfl, X2⟩
    | succ n ih =>
      intro p a hp
      have hpt := pt_lt hs (show p < 5 by omega)
      have hst : (bst K (cry s c t j) z5 z5).getD p 0 < 3 := gd3 okb.2.1.2 (by rw [okb.2.1.1]; omega)
      have hll : (bst K (cry s c t j) z5 z5).length = 5 := rfl
      rw [lyk]
      iterate 3 refine ev_nx rfl ?_
      refine ev_ge (fun b18 => absurd b18 (by omega)) (fun b18 => ?_)
      iterate 2 refine ev_nx rfl ?_
      refine ev_gf rfl rfl X2.1.1.2 rfl ?_
      refine ev_gf rfl rfl hl.1 rfl ?_
      refine ev_nx rfl ?_
      refine ev_lN rfl hl.2.2.1 ⟨by show p < (bst K (cry s c t j) z5 z5).length; omega, by omega, by decide⟩ ?_
      show Ev _ _ _ _ (.int (nI ((bst K (cry s c t j) z5 z5).getD p 0)) :: _) _ _
      iterate 3 refine ev_nx rfl ?_
      refine ev_mul rfl ?_
      refine ev_nx rfl ?_
      refine ev_add rfl ?_
      refine ev_ia (a := 100000) rfl rfl (t0_at (by omega)).1 ?_
      show Ev _ _ _ _ (.int (nI (pt s p)) :: _) _ _
      refine ev_nx rfl ?_
      refine ev_si rfl rfl (by decide) rfl rfl rfl rfl (e_slackShare hst hpt hx) ?_
      refine ev_mul rfl ?_
      refine ev_nx rfl ?_
      refine ev_inc rfl ⟨rfl, by decide⟩ rfl rfl ?_
      refine ev_nx rfl ?_
      exact ih (p + 1) _ (by omega)
  exact H 5 0 1 rfl
theorem gcd_half {a r : Nat} (hr : 0 < r) (hra : r ≤ a) : 2 * (a % r) < a := by
  have h1 := Nat.mod_lt a hr
  have h2 : a % r + r ≤ a := by
    have := Nat.div_add_mod a r
    have h3 : 1 ≤ a / r := (Nat.le_div_iff_mul_le hr).mpr (by omega)
    have h4 : r * 1 ≤ r * (a / r) := Nat.mul_le_mul_left _ h3
    omega
  omega
theorem e_commonDivisor {a b : Nat} (ha : a < 1048576) (hb : b < 2147483648) : Ec d m_X8_commonDivisor [.int (nI a), .int (nI b)] h (rt (.int (nI (Nat.gcd a b))) h) := by
  refine ec_in [some (.int (nI a)), some (.int (nI b)), none, none] rfl rfl ?_
  have E : ∀ k b l3, b < 2147483648 → Ev d m_X8_commonDivisor 2 [some (.int (nI 0)), some (.int (nI b)), some (.int (nI k)), l3] [] h (rt (.int (nI (Nat.gcd 0 b))) h) := by
    intro k b l3 hb
    rw [Nat.gcd_zero_left]
    refine ev_nx rfl ?_
    refine ev_nx rfl ?_
    refine ev_nx rfl ?_
    refine ev_if (fun _ => ?_) (fun _ => ?_)
    · refine ev_nx rfl ?_
      exact ev_ri rfl rfl rfl ⟨rfl, rfl⟩
    · iterate 2 refine ev_nx rfl ?_
      refine ev_t (by decide) ?_
      refine ev_nx rfl ?_
      exact ev_ri rfl rfl rfl ⟨rfl, rfl⟩
  have st : ∀ k a b l3 (Q : Option Value → aH → Prop), k < 64 → 0 < a → a < 2147483648 → b < 2147483648 → (∀ l3, Ev d m_X8_commonDivisor 2 [some (.int (nI (b % a))), some (.int (nI a)), some (.int (nI (k + 1))), l3] [] h Q) → Ev d m_X8_commonDivisor 2 [some (.int (nI a)), some (.int (nI b)), some (.int (nI k)), l3] [] h Q := by
    intro k a b l3 Q hk ha ha2 hb kk
    iterate 3 refine ev_nx rfl ?_
    refine ev_ge (fun b5 => absurd b5 (by omega)) (fun b5 => ?_)
    iterate 2 refine ev_nx rfl ?_
    refine ev_eq0 (fun b9 => absurd b9 (by omega)) (fun b9 => ?_)
    iterate 2 refine ev_nx rfl ?_
    refine ev_rem rfl (by omega) (by omega) ?_
    iterate 5 refine ev_nx rfl ?_
    refine ev_inc rfl ⟨rfl, by decide⟩ rfl rfl ?_
    refine ev_nx rfl ?_
    exact kk _
  have H : ∀ n a b k l3, a < 2 ^ n → n ≤ 20 → k + 2 * n ≤ 64 → b < 2147483648 → Ev d m_X8_commonDivisor 2 [some (.int (nI a)), some (.int (nI b)), some (.int (nI k)), l3] [] h (rt (.int (nI (Nat.gcd a b))) h) := by
    intro n
    induction n with
    | zero =>
      intro a b k l3 ha _ hk hb
      obtain rfl : a = 0 := by simpa using ha
      exact E k b l3 hb
    | succ n ih =>
      intro a b k l3 ha hn hk hb
      have h20 : 2 ^ (n + 1) ≤ 2 ^ 20 := Nat.pow_le_pow_right (by decide) hn
      rcases Nat.eq_zero_or_pos a with rfl | hp
      · exact E k b l3 hb
      · have e1 : Nat.gcd a b = Nat.gcd (b % a) a := Nat.gcd_rec a b
        rw [e1]
        have hm := Nat.mod_lt b hp
        refine st k a b l3 _ (by omega) hp (by omega) hb (fun l3 => ?_)
        rcases Nat.eq_zero_or_pos (b % a) with hz | hz
        · rw [hz]; exact E (k + 1) a l3 (by omega)
        · rw [Nat.gcd_rec (b % a) a]
          have hh := gcd_half hz (Nat.le_of_lt hm)
          refine st (k + 1) (b % a) a l3 _ (by omega) hz (by omega) (by omega) (fun l3 => ?_)
          rw [Nat.pow_succ] at ha
          exact ih _ _ _ _ (by omega) (by omega) (by omega) (by omega)
  iterate 2 refine ev_nx rfl ?_
  exact H 20 a b 0 _ ha (by decide) (by decide) hb
theorem e_lowest {up w : Nat} (hu : up < 1048576) (hw : w ≤ 1) : Ec (d + 1) m_X8_lowestTerms [.int (nI up), .int (nI w)] h (rt (.int (nI (ptA up w))) h) := by
  have g0 : 0 < Nat.gcd up 100000 := Nat.gcd_pos_of_pos_right _ (by decide)
  have g1 : Nat.gcd up 100000 ≤ 100000 := Nat.gcd_le_right _ (by decide)
  refine ec_in [some (.int (nI up)), some (.int (nI w)), none] rfl rfl ?_
  refine ev_nx rfl ?_
  refine ev_nx rfl ?_
  show Ev _ _ _ _ (.int (nI 100000) :: _) _ _
  refine ev_si rfl rfl (by decide) rfl rfl rfl rfl (e_commonDivisor hu (by decide)) ?_
  iterate 3 refine ev_nx rfl ?_
  refine ev_ne0 (fun b9 => ?_) (fun b9 => absurd b9 (by omega))
  iterate 2 refine ev_nx rfl ?_
  refine ev_ne0 (fun b15 => ?_) (fun b15 => ?_)
  · refine ev_nx rfl ?_
    show Ev _ _ _ _ (.int (nI 100000) :: _) _ _
    refine ev_nx rfl ?_
    refine ev_div rfl (by omega) (by omega) ?_
    exact ev_ri rfl rfl rfl ⟨vI (by unfold ptA; first | rw [if_pos b15] | rw [if_neg b15]), rfl⟩
  · iterate 3 refine ev_nx rfl ?_
    refine ev_div rfl (by omega) (by omega) ?_
    exact ev_ri rfl rfl rfl ⟨vI (by unfold ptA; first | rw [if_pos b15] | rw [if_neg b15]), rfl⟩
theorem c_odds {s x w : Nat} (X : XH V h) (hs : s ≤ 29) (hx : x ≤ 10) (hw : w ≤ 1) : Ec (d + 5) m_X8_odds [.ref 0, .int (nI s), .int (nI x), .int (nI w)] h (fun v h' => v = some (.int (nI (ptA (lky V.2.2.1.1 V.2.2.1.2.2.2.1 V.2.2.1.2.2.2.2.1 V.2.2.1.2.2.2.2.2 s x) w))) ∧ XH V h') := by
  have w1 : wi (nI s) (nI 0) (nI 29) = 1 := by rw [wi_n (by omega) (by omega) (by omega), if_pos (by omega)]
  have w2 : wi (nI x) (nI 0) (nI 10) = 1 := by rw [wi_n (by omega) (by omega) (by omega), if_pos (by omega)]
  have w3 : wi (nI w) (nI 0) (nI 1) = 1 := by rw [wi_n (by omega) (by omega) (by omega), if_pos (by omega)]
  obtain ⟨c1, t1, j1, e11⟩ := XH_11 X
  have HC := c_copyT (d := d + 4) X
  generalize V.2.2.1.1 = K at HC ⊢
  generalize V.2.2.1.2.2.2.1 = c at HC ⊢
  generalize V.2.2.1.2.2.2.2.1 = t at HC ⊢
  generalize V.2.2.1.2.2.2.2.2 = j at HC ⊢
  have hle := lky_le (K := K) (c := c) (t := t) (j := j) (s := s) hx
  refine ec_in [some (.ref 0), some (.int (nI s)), some (.int (nI x)), some (.int (nI w))] rfl rfl ?_
  iterate 3 refine ev_nx rfl ?_
  refine ev_si rfl rfl (by decide) rfl rfl rfl rfl (ec_le (by omega) (e_within _ _ _ _)) ?_
  rw [w1]
  refine ev_nx rfl ?_
  refine ev_f (by decide) ?_
  iterate 3 refine ev_nx rfl ?_
  refine ev_si rfl rfl (by decide) rfl rfl rfl rfl (ec_le (by omega) (e_within _ _ _ _)) ?_
  rw [w2]
  refine ev_nx rfl ?_
  refine ev_f (by decide) ?_
  iterate 3 refine ev_nx rfl ?_
  refine ev_si rfl rfl (by decide) rfl rfl rfl rfl (ec_le (by omega) (e_within _ _ _ _)) ?_
  rw [w3]
  refine ev_nx rfl ?_
  refine ev_t (by decide) ?_
  refine ev_nx rfl ?_
  refine ev_gf rfl rfl X.1.2 rfl ?_
  refine ev_nx rfl ?_
  refine ev_gf rfl rfl X.1.2 rfl ?_
  refine ev_v rfl rfl rfl rfl rfl rfl e11 rfl HC (fun rv h2 q => ?_)
  obtain ⟨rfl, X2⟩ := q
  iterate 3 refine ev_nx rfl ?_
  refine ev_v rfl rfl rfl rfl rfl rfl X2.1.1.2 rfl (e_slack X2 (by omega) hx) (fun rv h3 q => ?_)
  obtain ⟨rfl, X3⟩ := q
  refine ev_nx rfl ?_
  refine ev_si rfl rfl (by decide) rfl rfl rfl rfl (e_lowest (by omega) hw) ?_
  exact ev_ri rfl rfl rfl ⟨rfl, X3.1⟩
theorem c_mean {m x w : Nat} (X : XH V h) (hm : m < V.2.1.2.2) (hx : x ≤ 10) (hw : w ≤ 1) : Ec (d + 5) m_X8_mean [.ref 0, .int (nI m), .int (nI x), .int (nI w)] h (fun v h' => v = some (.int (nI (ptA (sml (fun s => lky V.2.2.1.1 V.2.2.1.2.2.2.1 V.2.2.1.2.2.2.2.1 V.2.2.1.2.2.2.2.2 s x) (msg V.2.1.1 V.2.1.2.1 m)) w))) ∧ XH V h') := by
  have mo := X.2.2.1.2.1
  have h6 := mo.2.2.2.2
  have h8 := mok8 mo (show m < 6 by omega)
  have hsl := mo.1
  have hml := msg_len mo.1 (show m < 6 by omega) h8
  have w1 : wi (nI m) (nI 0) (nI (V.2.1.2.2 - 1)) = 1 := by rw [wi_n (by omega) (by omega) (by omega), if_pos (by omega)]
  have w2 : wi (nI x) (nI 0) (nI 10) = 1 := by rw [wi_n (by omega) (by omega) (by omega), if_pos (by omega)]
  have w3 : wi (nI w) (nI 0) (nI 1) = 1 := by rw [wi_n (by omega) (by omega) (by omega), if_pos (by omega)]
  obtain ⟨c1, t1, j1, e11⟩ := XH_11 X
  have HC := c_copyT (d := d + 4) X
  generalize V.2.2.1.1 = K at HC ⊢
  generalize V.2.2.1.2.2.2.1 = c at HC ⊢
  generalize V.2.2.1.2.2.2.2.1 = t at HC ⊢
  generalize V.2.2.1.2.2.2.2.2 = j at HC ⊢
  refine ec_in [some (.ref 0), some (.int (nI m)), some (.int (nI x)), some (.int (nI w)), none, none] rfl rfl ?_
  have H : ∀ n k a h1, k + n = V.2.1.2.1.getD m 0 → a ≤ 100000 * k → XT V K c t j h1 → Ev (d + 5) m_X8_mean 46 [some (.ref 0), some (.int (nI m)), some (.int (nI x)), some (.int (nI w)), some (.int (nI a)), some (.int (nI k))] [] h1 (fun v h' => v = some (.int (nI (ptA (a + sml (fun s => lky K c t j s x) ((msg V.2.1.1 V.2.1.2.1 m).drop k)) w))) ∧ XH V h') := by
    intro n
    induction n with
    | zero =>
      intro k a h1 hk ha X1
      rw [List.drop_eq_nil_of_le (by omega)]
      iterate 2 refine ev_nx rfl ?_
      refine ev_gf rfl rfl X1.1.1.2 rfl ?_
      refine ev_nx rfl ?_
      refine ev_vi rfl rfl rfl rfl rfl rfl X1.1.2.2.1.1.1 rfl (e_lengthOf X1.1.2.2.1.1 mo.2.2.1 (by omega)) ?_
      refine ev_nx rfl ?_
      refine ev_ge (fun b56 => ?_) (fun b56 => absurd b56 (by omega))
      iterate 2 refine ev_nx rfl ?_
      refine ev_si rfl rfl (by decide) rfl rfl rfl rfl (e_lowest (by omega) hw) ?_
      exact ev_ri rfl rfl rfl ⟨rfl, X1.1⟩
    | succ n ih =>
      intro k a h1 hk ha X1
      rw [msg_drop mo.1 (by omega) h8 (by omega), sml]
      have hsk : V.2.1.1.getD (m * 8 + k) 0 < 31 := gd3 mo.2.1 (by omega)
      have hle := lky_le (K := K) (c := c) (t := t) (j := j) (s := V.2.1.1.getD (m * 8 + k) 0) hx
      iterate 2 refine ev_nx rfl ?_
      refine ev_gf rfl rfl X1.1.1.2 rfl ?_
      refine ev_nx rfl ?_
      refine ev_vi rfl rfl rfl rfl rfl rfl X1.1.2.2.1.1.1 rfl (e_lengthOf X1.1.2.2.1.1 mo.2.2.1 (by omega)) ?_
      refine ev_nx rfl ?_
      refine ev_ge (fun b56 => absurd b56 (by omega)) (fun b56 => ?_)
      iterate 3 refine ev_nx rfl ?_
      refine ev_gf rfl rfl X1.1.1.2 rfl ?_
      iterate 2 refine ev_nx rfl ?_
      refine ev_vi rfl rfl rfl rfl rfl rfl X1.1.2.2.1.1.1 rfl (e_signOf X1.1.2.2.1.1 mo.1 (by omega) (by omega)) ?_
      refine ev_nx rfl ?_
      refine ev_v rfl rfl rfl rfl rfl rfl X1.1.1.2 rfl (e_slack X1 hsk hx) (fun rv h2 q => ?_)
      obtain ⟨rfl, X2⟩ := q
      refine ev_add rfl ?_
      refine ev_nx rfl ?_
      refine ev_inc rfl ⟨rfl, by decide⟩ rfl rfl ?_
      refine ev_nx rfl ?_
      rw [← Nat.add_assoc]
      exact ih (k + 1) _ h2 (by omega) (by omega) X2
  iterate 2 refine ev_nx rfl ?_
  refine ev_vi rfl rfl rfl rfl rfl rfl X.1.2 rfl (c_isMessage X) ?_
  rw [w1]
  refine ev_nx rfl ?_
  refine ev_f (by decide) ?_
  iterate 3 refine ev_nx rfl ?_
  refine ev_si rfl rfl (by decide) rfl rfl rfl rfl (ec_le (by omega) (e_within _ _ _ _)) ?_
  rw [w2]
  refine ev_nx rfl ?_
  refine ev_f (by decide) ?_
  iterate 3 refine ev_nx rfl ?_
  refine ev_si rfl rfl (by decide) rfl rfl rfl rfl (ec_le (by omega) (e_within _ _ _ _)) ?_
  rw [w3]
  refine ev_nx rfl ?_
  refine ev_t (by decide) ?_
  refine ev_nx rfl ?_
  refine ev_gf rfl rfl X.1.2 rfl ?_
  refine ev_nx rfl ?_
  refine ev_gf rfl rfl X.1.2 rfl ?_
  refine ev_v rfl rfl rfl rfl rfl rfl e11 rfl HC (fun rv h2 q => ?_)
  obtain ⟨rfl, X2⟩ := q
  iterate 4 refine ev_nx rfl ?_
  have := H (V.2.1.2.1.getD m 0) 0 0 h2 (by omega) (by omega) X2
  rw [List.drop_zero, Nat.zero_add] at this
  exact this
/-! days -/
theorem e_drawOf {zz k : Nat} (hz : zz ≤ 9999) (hk : k < 1000) : Ec d m_X8_drawOf [.int (nI zz), .int (nI k)] h (rt (.int (nI (dr zz k))) h) := by
  refine ec_in [some (.int (nI zz)), some (.int (nI k)), none, none] rfl rfl ?_
  iterate 18 refine ev_nx rfl ?_
  exact ev_ri rfl rfl rfl ⟨congrArg (fun v => some (Value.int v)) (draw_e hz hk), rfl⟩
/-- the class's heap, its trial line just such a one -/
def XX (V : aV) (x : aN) (h : aH) : Prop := XH V h ∧ ltx h 11 x ∧ lokN x
theorem XX_f {y : aN} (X : XH V h) (f : fr 11 15 h h') (hx : ltx h' 11 y) (ok : lokN y) : XX V y h' := ⟨XH_4 X f ⟨_, _, _, _, _, _, hx, ok⟩, hx, ok⟩
theorem XX_o (X : XX V x h) : h[11]? = some (lo 11 x.2.2.2.1 x.2.2.2.2.1 x.2.2.2.2.2) := by
  obtain ⟨C, hC, hl⟩ := X.2.1
  exact hl.1
theorem e_doDrawn {q p : Nat} (X : XX V x h) (hq : 5 ≤ q ∧ q ≤ 7) (hp : p < 5) : Ec (d + 2) m_X8_doDrawn [.ref 0, .int (nI q), .int (nI p)] h (fun r h' => r = none ∧ XX V (if q = 5 then dyC p x else if q = 6 then dyM p x else dyS p ((p + 1) % 5) x) h') := by
  have ok := X.2.2
  have hp1 : (p + 1) % 5 < 5 := Nat.mod_lt _ (by decide)
  refine ec_in [some (.ref 0), some (.int (nI q)), some (.int (nI p))] rfl rfl ?_
  iterate 3 refine ev_nx rfl ?_
  refine ev_ne (fun b2 => ?_) (fun b2 => ?_)
  · iterate 3 refine ev_nx rfl ?_
    refine ev_ne (fun b26 => ?_) (fun b26 => ?_)
    · refine ev_nx rfl ?_
      first | refine ev_gf rfl rfl X.1.1.2 rfl ?_ | refine ev_gf rfl rfl (XX_o X) rfl ?_
      iterate 3 refine ev_nx rfl ?_
      refine ev_add rfl ?_
      refine ev_nx rfl ?_
      refine ev_rem rfl (by omega) (by omega) ?_
      refine ev_v rfl rfl rfl rfl rfl rfl (XX_o X) rfl (l_swap X.2.1 ok (XH_len X.1) hp hp1) (fun rv h2 qq => ?_)
      obtain ⟨rfl, q1, q2⟩ := qq
      simp only [if_neg b2, if_neg b26]
      have X2 : XX V (dyS p ((p + 1) % 5) x) h2 := XX_f X.1 q2 q1 (lokN_S ok hp hp1)
      exact ev_rt rfl ⟨rfl, X2⟩
    · refine ev_nx rfl ?_
      first | refine ev_gf rfl rfl X.1.1.2 rfl ?_ | refine ev_gf rfl rfl (XX_o X) rfl ?_
      iterate 2 refine ev_nx rfl ?_
      refine ev_sh1 rfl (by omega) ?_
      refine ev_v rfl rfl rfl rfl rfl rfl (XX_o X) rfl (l_mend X.2.1 ok (XH_len X.1) (p2_32 hp)) (fun rv h2 qq => ?_)
      obtain ⟨rfl, q1, q2⟩ := qq
      simp only [if_neg b2, if_pos b26]
      have X2 : XX V (dyM p x) h2 := XX_f X.1 q2 q1 (lokN_M ok)
      refine ev_nx rfl ?_
      exact ev_rt rfl ⟨rfl, X2⟩
  · refine ev_nx rfl ?_
    first | refine ev_gf rfl rfl X.1.1.2 rfl ?_ | refine ev_gf rfl rfl (XX_o X) rfl ?_
    refine ev_nx rfl ?_
    first | refine ev_gf rfl rfl X.1.1.2 rfl ?_ | refine ev_gf rfl rfl (XX_o X) rfl ?_
    iterate 2 refine ev_nx rfl ?_
    refine ev_sh1 rfl (by omega) ?_
    refine ev_or rfl ?_
    refine ev_pM rfl rfl (XX_o X) rfl rfl rfl rfl ?_
    have q1 := l_put (c := x.2.2.2.1 ||| 1 * 2 ^ p) (t := x.2.2.2.2.1) (j := x.2.2.2.2.2) X.2.1 (XH_len X.1)
    simp only [if_pos b2]
    refine ev_nx rfl ?_
    exact ev_rt rfl ⟨rfl, XX_f X.1 q1.2 q1.1 (lokN_C ok hp)⟩
theorem c_day {zz n w : Nat} (X : XH V h) (hz : zz ≤ 9999) (hn : 1 ≤ n ∧ n ≤ 60) (hw : w ≤ 2) : Ec (d + 3) m_X8_day [.ref 0, .int (nI zz), .int (nI n), .int (nI w)] h (fun v h' => v = some (.int (nI (dyA w (dyr zz n 0 (V.2.2.1, 0, 0))))) ∧ XH V h') := by
  have w1 : wi (nI zz) (nI 0) (nI 9999) = 1 := by rw [wi_n (by omega) (by omega) (by omega), if_pos (by omega)]
  have w2 : wi (nI n) (nI 1) (nI 60) = 1 := by rw [wi_n (by omega) (by omega) (by omega), if_pos (by omega)]
  have w3 : wi (nI w) (nI 0) (nI 2) = 1 := by rw [wi_n (by omega) (by omega) (by omega), if_pos (by omega)]
  obtain ⟨c1, t1, j1, e11⟩ := XH_11 X
  refine ec_in [some (.ref 0), some (.int (nI zz)), some (.int (nI n)), some (.int (nI w)), none, none, none, none, none, none] rfl rfl ?_
  have H : ∀ m k (s : aD) h1 l7 l8 l9, k + m = n → s.2.1 ≤ k → s.2.2 ≤ k → XX V s.1 h1 → am_nl [l7] 1 = true → am_nl [l8] 1 = true → Ev (d + 3) m_X8_day 52 [some (.ref 0), some (.int (nI zz)), some (.int (nI n)), some (.int (nI w)), some (.int (nI s.2.1)), some (.int (nI s.2.2)), some (.int (nI k)), l7, l8, l9] [] h1 (fun v h' => v = some (.int (nI (dyA w (dyr zz m k s)))) ∧ XH V h') := by
    intro m
    induction m with
    | zero =>
      intro k s h1 l7 l8 l9 hk hs1 hs2 X1 n7 n8
      have hc := X1.2.2.2.2.2.1
      rw [dyr]
      iterate 3 refine ev_nx rfl ?_
      refine ev_ge (fun b55 => ?_) (fun b55 => absurd b55 (by omega))
      iterate 2 refine ev_nx rfl ?_
      refine ev_ne0 (fun b157 => ?_) (fun b157 => ?_)
      · iterate 3 refine ev_nx rfl ?_
        refine ev_ne (fun b165 => ?_) (fun b165 => ?_)
        · refine ev_nx rfl ?_
          refine ev_gf rfl rfl X1.1.1.2 rfl ?_
          refine ev_gf rfl rfl (XX_o X1) rfl ?_
          refine ev_si rfl rfl (by decide) rfl rfl rfl rfl (e_bitCount (by omega)) ?_
          exact ev_ri rfl rfl rfl ⟨vI (by unfold dyA; (repeat' split) <;> omega), X1.1⟩
        · iterate 2 refine ev_nx rfl ?_
          exact ev_ri rfl rfl rfl ⟨vI (by unfold dyA; (repeat' split) <;> omega), X1.1⟩
      · refine ev_nx rfl ?_
        exact ev_ri rfl rfl rfl ⟨vI (by unfold dyA; (repeat' split) <;> omega), X1.1⟩
    | succ m ih =>
      intro k s h1 l7 l8 l9 hk hs1 hs2 X1 n7 n8
      rw [dyr]
      have hd := dr_lt zz k
      generalize hdd : dr zz k = dd at hd ⊢
      have h1' : dd / 8 % 31 < 31 := Nat.mod_lt _ (by decide)
      have h2' : dd / 64 % 5 < 5 := Nat.mod_lt _ (by decide)
      have okB := lokN_B X1.2.2 h1'
      have hrd : rdS (dyB (dd / 8 % 31) s.1).2.1 < 32 := rdS_lt okB.2.1.1
      have HS := l_send (d := d) X1.2.1 X1.2.2 (XH_len X1.1) h1' (show 1 < 1000 by decide)
      have c1 : dd % 8 < 5 → dst dd s = (dyB (dd / 8 % 31) s.1, s.2.1 + (if rdS (dyB (dd / 8 % 31) s.1).2.1 = dd / 8 % 31 then 1 else 0), s.2.2 + (if rdS (dyB (dd / 8 % 31) s.1).2.1 = 31 then 1 else 0)) := fun q => by rw [dst, if_pos q]
      have c2 : ¬ dd % 8 < 5 → dst dd s = ((if dd % 8 = 5 then dyC (dd / 64 % 5) s.1 else if dd % 8 = 6 then dyM (dd / 64 % 5) s.1 else dyS (dd / 64 % 5) ((dd / 64 % 5 + 1) % 5) s.1), s.2.1, s.2.2) := fun q => by rw [dst, if_neg q]; (repeat' split) <;> rfl
      have go : ∀ (x' : aN) (a b : Nat) (h2 : aH) (l7 l8 l9 : Option Value), dst dd s = (x', a, b) → a ≤ k + 1 → b ≤ k + 1 → XX V x' h2 → am_nl [l7] 1 = true → am_nl [l8] 1 = true → Ev (d + 3) m_X8_day 150 [some (.ref 0), some (.int (nI zz)), some (.int (nI n)), some (.int (nI w)), some (.int (nI a)), some (.int (nI b)), some (.int (nI k)), l7, l8, l9] [] h2 (fun v h' => v = some (.int (nI (dyA w (dyr zz m (k + 1) (dst dd s))))) ∧ XH V h') := by
        intro x' a b h2 l7 l8 l9 e ha hb X2 n7 n8
        rw [e]
        refine ev_inc rfl ⟨rfl, by decide⟩ rfl rfl ?_
        refine ev_nx rfl ?_
        exact ih (k + 1) (x', a, b) h2 _ _ _ (by omega) ha hb X2 n7 n8
      iterate 3 refine ev_nx rfl ?_
      refine ev_ge (fun b55 => absurd b55 (by omega)) (fun b55 => ?_)
      iterate 2 refine ev_nx rfl ?_
      refine ev_si rfl rfl (by decide) rfl rfl rfl rfl (e_drawOf hz (by omega)) ?_
      rw [hdd]
      iterate 3 refine ev_nx rfl ?_
      refine ev_rem rfl (by omega) (by omega) ?_
      iterate 2 refine ev_nx rfl ?_
      refine ev_ge (fun b72 => ?_) (fun b72 => ?_)
      · iterate 3 refine ev_nx rfl ?_
        refine ev_rem rfl (by omega) (by omega) ?_
        iterate 2 refine ev_nx rfl ?_
        refine ev_div rfl (by omega) (by omega) ?_
        refine ev_nx rfl ?_
        refine ev_rem rfl (by omega) (by omega) ?_
        refine ev_v rfl rfl rfl rfl rfl rfl X1.1.1.2 rfl (e_doDrawn X1 (by omega) h2') (fun rv h2 q => ?_)
        obtain ⟨rfl, X2⟩ := q
        exact go _ _ _ h2 _ _ _ (c2 (by omega)) (by omega) (by omega) X2 rfl n8
      · iterate 2 refine ev_nx rfl ?_
        refine ev_div rfl (by omega) (by omega) ?_
        refine ev_nx rfl ?_
        refine ev_rem rfl (by omega) (by omega) ?_
        iterate 2 refine ev_nx rfl ?_
        refine ev_gf rfl rfl X1.1.1.2 rfl ?_
        iterate 2 refine ev_nx rfl ?_
        refine ev_v rfl rfl rfl rfl rfl rfl (XX_o X1) rfl HS (fun rv h2 q => ?_)
        obtain ⟨rfl, q1, q2⟩ := q
        have X2 : XX V (dyB (dd / 8 % 31) s.1) h2 := XX_f X1.1 q2 q1 okB
        show Ev _ _ _ _ (.int (nI (rdS (dyB (dd / 8 % 31) s.1).2.1)) :: _) _ _
        iterate 5 refine ev_nx rfl ?_
        refine ev_ne (fun b103 => ?_) (fun b103 => ?_)
        · refine ev_nx rfl ?_
          refine ev_add rfl ?_
          iterate 5 refine ev_nx rfl ?_
          refine ev_ne (fun b120 => ?_) (fun b120 => ?_)
          · refine ev_nx rfl ?_
            refine ev_add rfl ?_
            refine ev_nx rfl ?_
            refine ev_nx rfl ?_
            exact go (dyB (dd / 8 % 31) s.1) _ _ h2 _ _ _ (by rw [c1 (by omega)]; first | rw [if_pos b103, if_pos b120] | rw [if_pos b103, if_neg b120] | rw [if_neg b103, if_pos b120] | rw [if_neg b103, if_neg b120]) (by omega) (by omega) X2 rfl rfl
          · iterate 2 refine ev_nx rfl ?_
            refine ev_add rfl ?_
            refine ev_nx rfl ?_
            refine ev_nx rfl ?_
            exact go (dyB (dd / 8 % 31) s.1) _ _ h2 _ _ _ (by rw [c1 (by omega)]; first | rw [if_pos b103, if_pos b120] | rw [if_pos b103, if_neg b120] | rw [if_neg b103, if_pos b120] | rw [if_neg b103, if_neg b120]) (by omega) (by omega) X2 rfl rfl
        · iterate 2 refine ev_nx rfl ?_
          refine ev_add rfl ?_
          iterate 5 refine ev_nx rfl ?_
          refine ev_ne (fun b120 => ?_) (fun b120 => ?_)
          · refine ev_nx rfl ?_
            refine ev_add rfl ?_
            refine ev_nx rfl ?_
            refine ev_nx rfl ?_
            exact go (dyB (dd / 8 % 31) s.1) _ _ h2 _ _ _ (by rw [c1 (by omega)]; first | rw [if_pos b103, if_pos b120] | rw [if_pos b103, if_neg b120] | rw [if_neg b103, if_pos b120] | rw [if_neg b103, if_neg b120]) (by omega) (by omega) X2 rfl rfl
          · iterate 2 refine ev_nx rfl ?_
            refine ev_add rfl ?_
            refine ev_nx rfl ?_
            refine ev_nx rfl ?_
            exact go (dyB (dd / 8 % 31) s.1) _ _ h2 _ _ _ (by rw [c1 (by omega)]; first | rw [if_pos b103, if_pos b120] | rw [if_pos b103, if_neg b120] | rw [if_neg b103, if_pos b120] | rw [if_neg b103, if_neg b120]) (by omega) (by omega) X2 rfl rfl
  have HC := c_copy (d := d + 2) X
  iterate 3 refine ev_nx rfl ?_
  refine ev_si rfl rfl (by decide) rfl rfl rfl rfl (ec_le (by omega) (e_within _ _ _ _)) ?_
  rw [w1]
  refine ev_nx rfl ?_
  refine ev_f (by decide) ?_
  iterate 3 refine ev_nx rfl ?_
  refine ev_si rfl rfl (by decide) rfl rfl rfl rfl (ec_le (by omega) (e_within _ _ _ _)) ?_
  rw [w2]
  refine ev_nx rfl ?_
  refine ev_f (by decide) ?_
  iterate 3 refine ev_nx rfl ?_
  refine ev_si rfl rfl (by decide) rfl rfl rfl rfl (ec_le (by omega) (e_within _ _ _ _)) ?_
  rw [w3]
  refine ev_nx rfl ?_
  refine ev_t (by decide) ?_
  refine ev_nx rfl ?_
  refine ev_gf rfl rfl X.1.2 rfl ?_
  refine ev_nx rfl ?_
  refine ev_gf rfl rfl X.1.2 rfl ?_
  refine ev_v rfl rfl rfl rfl rfl rfl e11 rfl HC (fun rv h2 q => ?_)
  obtain ⟨rfl, q1, q2, -⟩ := q
  have X2 : XX V V.2.2.1 h2 := XX_f X q2 q1 X.2.2.2.1.2
  iterate 6 refine ev_nx rfl ?_
  exact H n 0 (V.2.2.1, 0, 0) h2 _ _ _ (by omega) (Nat.le_refl 0) (Nat.le_refl 0) X2 rfl rfl
end PF
