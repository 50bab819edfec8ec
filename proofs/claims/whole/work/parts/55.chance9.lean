/-! the reference: mend, fits, chances, days -/
section XN
variable {d : Nat} {h : aH} {z : aZ} {y : aY} {st nw be ge re rl br pt_ : List Nat} {wo : List Int32} {K S G : List Nat} {c t j : Nat}
theorem g_mend {p : Nat} (ok : lok K S G c t j) (hJ : Mq z y (ll K S G c t j) h) (hp : p < 5) (hb : z.2.2.2.2.1.length = 232) (hu : z.1.2.2.1 ≤ 8) : Ec (d + 3) m_X9_mend [.ref 0, .int (nI p)] h (fun v h' => v = some (.int (if bt (mdw c t j) p = 0 then -(nI 2) else nI (pcn (clr c (1 * 2 ^ p) ||| clr t (1 * 2 ^ p) ||| clr j (mdj (1 * 2 ^ p)))))) ∧ Mq (if bt (mdw c t j) p = 0 then z else znt (ll K S G c t j) z) y (if bt (mdw c t j) p = 0 then ll K S G c t j else ll K S G (clr c (1 * 2 ^ p)) (clr t (1 * 2 ^ p)) (clr j (mdj (1 * 2 ^ p)))) h') := by
  have w1 : wi (nI p) (nI 0) (nI 4) = 1 := by rw [wi_n (by omega) (by omega) (by omega), if_pos (by omega)]
  obtain ⟨nw, be, ge, re, rl, br, pt_, wo, hln, rfl⟩ := hJ
  have hl := ll_len ok
  have hbt := bt_lt (mdw c t j) p
  have ok2 : lok K S G (clr c (1 * 2 ^ p)) (clr t (1 * 2 ^ p)) (clr j (mdj (1 * 2 ^ p))) := lok_md ok
  refine ec_in [some (.ref 0), some (.int (nI p)), none, none] rfl rfl ?_
  by_cases hE : bt (mdw c t j) p = 0
  · simp only [if_pos hE]
    refine ev_nx rfl ?_
    refine ev_si rfl rfl (by decide) rfl rfl rfl rfl (f_isPlace _ _) ?_
    rw [w1]
    refine ev_nx rfl ?_
    refine ev_t (by decide) ?_
    iterate 3 refine ev_nx rfl ?_
    refine ev_si rfl rfl (by decide) rfl rfl rfl rfl (f_mayMend ok rfl (by decide) hp) ?_
    rw [hE]
    refine ev_nx rfl ?_
    refine ev_f (by decide) ?_
    refine ev_nx rfl ?_
    exact ev_ri rfl rfl rfl ⟨rfl, nw, be, ge, re, rl, br, pt_, wo, hln, rfl⟩
  simp only [if_neg hE]
  have HM := f_mends (d := d + 2) (h := XM (znt (ll K S G c t j) z) y (ll K S G c t j) nw be ge re rl br pt_ wo) (a := 5) ok rfl (by decide) hp
  generalize clr c (1 * 2 ^ p) = c2 at ok2 HM ⊢
  generalize clr t (1 * 2 ^ p) = t2 at ok2 HM ⊢
  generalize clr j (mdj (1 * 2 ^ p)) = j2 at ok2 HM ⊢
  have hl2 := ll_len ok2
  have H : ∀ q n (Q1 : Option Value → aH → Prop), q < 5 → Ev (d + 3) m_X9_mend 39 [some (.ref 0), some (.int (nI p)), some (.int (nI (n + bt (c2 ||| t2 ||| j2) q))), some (.int (nI (q + 1)))] [] (XM (znt (ll K S G c t j) z) y (ll K S G c2 t2 j2) nw be ge re rl br pt_ wo) Q1 → Ev (d + 3) m_X9_mend 39 [some (.ref 0), some (.int (nI p)), some (.int (nI n)), some (.int (nI q))] [] (XM (znt (ll K S G c t j) z) y (ll K S G c2 t2 j2) nw be ge re rl br pt_ wo) Q1 := by
    intro q n Q1 hq k
    have e : bt (c2 ||| t2 ||| j2) q = if bt c2 q = 1 ∨ bt t2 q = 1 ∨ bt j2 q = 1 then 1 else 0 := by
      rw [bt_or, bt_or]; (repeat' split) <;> omega
    have b1 := bt_lt c2 q
    have b2 := bt_lt t2 q
    have b3 := bt_lt j2 q
    rw [e] at k
    clear e
    iterate 3 refine ev_nx rfl ?_
    refine ev_ge (fun b41 => absurd b41 (by omega)) (fun b41 => ?_)
    iterate 5 refine ev_nx rfl ?_
    refine ev_add rfl ?_
    refine ev_lN rfl rfl (by omega) ?_
    rw [ll_c q hq]
    iterate 2 refine ev_nx rfl ?_
    refine ev_eq (fun b54 => ?_) (fun b54 => ?_)
    · iterate 2 refine ev_nx rfl ?_
      refine ev_add rfl ?_
      refine ev_nx rfl ?_
      refine ev_inc rfl ⟨rfl, by decide⟩ rfl rfl ?_
      refine ev_nx rfl ?_
      first | (rw [if_pos (by omega)] at k; exact k) | (rw [if_neg (by omega)] at k; exact k)
    · iterate 4 refine ev_nx rfl ?_
      refine ev_add rfl ?_
      refine ev_lN rfl rfl (by omega) ?_
      rw [ll_t q hq]
      iterate 2 refine ev_nx rfl ?_
      refine ev_eq (fun b66 => ?_) (fun b66 => ?_)
      · iterate 2 refine ev_nx rfl ?_
        refine ev_add rfl ?_
        refine ev_nx rfl ?_
        refine ev_inc rfl ⟨rfl, by decide⟩ rfl rfl ?_
        refine ev_nx rfl ?_
        first | (rw [if_pos (by omega)] at k; exact k) | (rw [if_neg (by omega)] at k; exact k)
      · iterate 3 refine ev_nx rfl ?_
        refine ev_si rfl rfl (by decide) rfl rfl rfl rfl (f_touches ok2 rfl (by decide) (mm_t1 ok2.2.2.2.2.2 hq)) ?_
        refine ev_nx rfl ?_
        refine ev_eq0 (fun b77 => ?_) (fun b77 => ?_)
        · refine ev_nx rfl ?_
          refine ev_add rfl ?_
          refine ev_nx rfl ?_
          refine ev_inc rfl ⟨rfl, by decide⟩ rfl rfl ?_
          refine ev_nx rfl ?_
          first | (rw [if_pos (by omega)] at k; exact k) | (rw [if_neg (by omega)] at k; exact k)
        · iterate 2 refine ev_nx rfl ?_
          refine ev_add rfl ?_
          refine ev_nx rfl ?_
          refine ev_inc rfl ⟨rfl, by decide⟩ rfl rfl ?_
          refine ev_nx rfl ?_
          first | (rw [if_pos (by omega)] at k; exact k) | (rw [if_neg (by omega)] at k; exact k)
  have hj2 := ok2.2.2.2.2.2
  have hc32 : c2 ||| t2 ||| j2 < 32 := or32 (or32 ok2.2.2.2.1 ok2.2.2.2.2.1) (by omega)
  have e5 : bt (c2 ||| t2 ||| j2) 0 + (bt (c2 ||| t2 ||| j2) 1 + (bt (c2 ||| t2 ||| j2) 2 + (bt (c2 ||| t2 ||| j2) 3 + (bt (c2 ||| t2 ||| j2) 4 + 0)))) = pcn (c2 ||| t2 ||| j2) := pcn_5 ⟨c2 ||| t2 ||| j2, hc32⟩
  refine ev_nx rfl ?_
  refine ev_si rfl rfl (by decide) rfl rfl rfl rfl (f_isPlace _ _) ?_
  rw [w1]
  refine ev_nx rfl ?_
  refine ev_t (by decide) ?_
  iterate 3 refine ev_nx rfl ?_
  refine ev_si rfl rfl (by decide) rfl rfl rfl rfl (f_mayMend ok rfl (by decide) hp) ?_
  rw [show bt (mdw c t j) p = 1 by omega]
  refine ev_nx rfl ?_
  refine ev_t (by decide) ?_
  refine ev_nx rfl ?_
  refine ev_vv rfl rfl rfl rfl rfl rfl rfl rfl (f_notes (ll_len ok) hb hu) ?_
  iterate 3 refine ev_nx rfl ?_
  refine ev_sv rfl rfl (by decide) rfl rfl rfl rfl HM ?_
  iterate 4 refine ev_nx rfl ?_
  refine H 0 0 _ (by decide) (H 1 _ _ (by decide) (H 2 _ _ (by decide) (H 3 _ _ (by decide) (H 4 _ _ (by decide) ?_))))
  iterate 3 refine ev_nx rfl ?_
  refine ev_ge (fun b41 => ?_) (fun b41 => absurd b41 (by omega))
  refine ev_nx rfl ?_
  exact ev_ri rfl rfl rfl ⟨vI (by rw [← e5]; omega), nw, be, ge, re, rl, br, pt_, wo, hln, rfl⟩
theorem Mq_10 (hJ : Mq z y st h) : h[10]? = some (ar z.2.2.2.2.2.2.2) := by
  obtain ⟨nw, be, ge, re, rl, br, pt_, wo, _, rfl⟩ := hJ; rfl
theorem lp_ft {m w T : Nat} {QQ : Option Value → aH → Prop} (mo : mok z.2.2.2.1 z.2.2.1 z.1.2.1) (hJ : Mq z y st h) (hm : m < 6) (hd8 : z.2.2.2.2.2.2.2.length = 8) (hn : z.1.2.2.2.2.2 ≤ 8) (h32 : ∀ s ∈ z.2.2.2.2.2.2.2, s < 32) (he : z.2.2.1.getD m 0 = z.1.2.2.2.2.2) (kk : ∀ l4, Ev d m_X9_fits 93 [some (.ref 0), some (.int (nI w)), some (.int (nI m)), some (.int (nI T)), l4] [] h QQ) : ∀ r k, k + r = z.1.2.2.2.2.2 → T = b2n (lik ((z.2.2.2.2.2.2.2.take z.1.2.2.2.2.2).drop k) ((msg z.2.2.2.1 z.2.2.1 m).drop k)) → Ev d m_X9_fits 34 [some (.ref 0), some (.int (nI w)), some (.int (nI m)), some (.int (nI 1)), some (.int (nI k))] [] h QQ := by
  have hsl := mo.1
  intro r
  induction r with
  | zero =>
    intro k hk hT
    rw [List.drop_eq_nil_of_le (by rw [List.length_take]; omega), List.drop_eq_nil_of_le (by rw [msg_len mo.1 hm (by omega)]; omega)] at hT
    obtain rfl : T = 1 := hT
    iterate 2 refine ev_nx rfl ?_
    refine ev_gf rfl rfl (Mq_0 hJ) rfl ?_
    refine ev_nx rfl ?_
    refine ev_ge (fun b40 => ?_) (fun b40 => absurd b40 (by omega))
    exact kk _
  | succ r ih =>
    intro k hk hT
    rw [tk_drop (by omega) (by omega), msg_drop mo.1 hm (by omega) (by omega)] at hT
    unfold lik at hT
    have g1 : z.2.2.2.2.2.2.2.getD k 0 < 32 := gd3 h32 (by omega)
    have g2 : z.2.2.2.1.getD (m * 8 + k) 0 < 31 := gd3 mo.2.1 (by omega)
    have Z : T = 0 → Ev d m_X9_fits 34 [some (.ref 0), some (.int (nI w)), some (.int (nI m)), some (.int (nI 0)), some (.int (nI (k + 1)))] [] h QQ := by
      rintro rfl
      iterate 2 refine ev_nx rfl ?_
      refine ev_gf rfl rfl (Mq_0 hJ) rfl ?_
      refine ev_nx rfl ?_
      refine ev_ge (fun b40 => ?_) (fun b40 => ?_)
      · exact kk _
      · iterate 2 refine ev_nx rfl ?_
        refine ev_t (by decide) ?_
        exact kk _
    iterate 2 refine ev_nx rfl ?_
    refine ev_gf rfl rfl (Mq_0 hJ) rfl ?_
    refine ev_nx rfl ?_
    refine ev_ge (fun b40 => absurd b40 (by omega)) (fun b40 => ?_)
    iterate 2 refine ev_nx rfl ?_
    refine ev_f (by decide) ?_
    refine ev_nx rfl ?_
    refine ev_gf rfl rfl (Mq_0 hJ) rfl ?_
    refine ev_nx rfl ?_
    refine ev_lN rfl (Mq_10 hJ) (by omega) ?_
    iterate 2 refine ev_nx rfl ?_
    refine ev_eq (fun b56 => ?_) (fun b56 => ?_)
    · iterate 3 refine ev_nx rfl ?_
      refine ev_inc rfl ⟨rfl, by decide⟩ rfl rfl ?_
      refine ev_nx rfl ?_
      first | (rw [if_pos b56] at hT; exact ih (k + 1) (by omega) hT) | (rw [if_neg b56, if_pos b78] at hT; exact ih (k + 1) (by omega) hT) | (rw [if_neg b56, if_neg b78] at hT; exact Z hT)
    · refine ev_nx rfl ?_
      refine ev_gf rfl rfl (Mq_0 hJ) rfl ?_
      refine ev_nx rfl ?_
      refine ev_lN rfl (Mq_10 hJ) (by omega) ?_
      refine ev_nx rfl ?_
      refine ev_gf rfl rfl (Mq_0 hJ) rfl ?_
      iterate 2 refine ev_nx rfl ?_
      refine ev_mul rfl ?_
      refine ev_nx rfl ?_
      refine ev_add rfl ?_
      rw [show 8 * m + k = m * 8 + k by omega]
      refine ev_lN rfl (Mq_4 hJ) (by omega) ?_
      refine ev_nx rfl ?_
      refine ev_ne (fun b78 => ?_) (fun b78 => ?_)
      · iterate 2 refine ev_nx rfl ?_
        refine ev_inc rfl ⟨rfl, by decide⟩ rfl rfl ?_
        refine ev_nx rfl ?_
        first | (rw [if_pos b56] at hT; exact ih (k + 1) (by omega) hT) | (rw [if_neg b56, if_pos b78] at hT; exact ih (k + 1) (by omega) hT) | (rw [if_neg b56, if_neg b78] at hT; exact Z hT)
      · iterate 3 refine ev_nx rfl ?_
        refine ev_inc rfl ⟨rfl, by decide⟩ rfl rfl ?_
        refine ev_nx rfl ?_
        first | (rw [if_pos b56] at hT; exact ih (k + 1) (by omega) hT) | (rw [if_neg b56, if_pos b78] at hT; exact ih (k + 1) (by omega) hT) | (rw [if_neg b56, if_neg b78] at hT; exact Z hT)
theorem g_fits (mo : mok z.2.2.2.1 z.2.2.1 z.1.2.1) (hJ : Mq z y st h) (hd8 : z.2.2.2.2.2.2.2.length = 8) (hn : z.1.2.2.2.2.2 ≤ 8) (h32 : ∀ s ∈ z.2.2.2.2.2.2.2, s < 32) : Ec d m_X9_fits [.ref 0] h (rt (.int (nI (fts (z.2.2.2.2.2.2.2.take z.1.2.2.2.2.2) z.2.2.2.1 z.2.2.1 z.1.2.1 0 0))) h) := by
  have h6 := mo.2.2.2.2
  have hzl := mo.2.2.1
  refine ec_in [some (.ref 0), none, none, none, none] rfl rfl ?_
  have H : ∀ r m w l3 l4, m + r = z.1.2.1 → am_nl [some (.ref 0), some (.int (nI w)), some (.int (nI m)), l3] 4 = true → Ev d m_X9_fits 4 [some (.ref 0), some (.int (nI w)), some (.int (nI m)), l3, l4] [] h (rt (.int (nI (fts (z.2.2.2.2.2.2.2.take z.1.2.2.2.2.2) z.2.2.2.1 z.2.2.1 r m w))) h) := by
    intro r
    induction r with
    | zero =>
      intro m w l3 l4 hm hnl
      iterate 2 refine ev_nx rfl ?_
      refine ev_gf rfl rfl (Mq_0 hJ) rfl ?_
      refine ev_nx rfl ?_
      refine ev_ge (fun b9 => ?_) (fun b9 => absurd b9 (by omega))
      refine ev_nx rfl ?_
      exact ev_ri rfl rfl rfl ⟨rfl, rfl⟩
    | succ r ih =>
      intro m w l3 l4 hm hnl
      have h8 := mok8 mo (show m < 6 by omega)
      rw [fts]
      have K1 : lik (z.2.2.2.2.2.2.2.take z.1.2.2.2.2.2) (msg z.2.2.2.1 z.2.2.1 m) = true → ∀ l4, Ev d m_X9_fits 93 [some (.ref 0), some (.int (nI w)), some (.int (nI m)), some (.int (nI 1)), l4] [] h (rt (.int (nI (fts (z.2.2.2.2.2.2.2.take z.1.2.2.2.2.2) z.2.2.2.1 z.2.2.1 r (m + 1) (if lik (z.2.2.2.2.2.2.2.take z.1.2.2.2.2.2) (msg z.2.2.2.1 z.2.2.1 m) then w ||| 1 * 2 ^ m else w)))) h) := by
        intro e l4
        rw [e, if_pos rfl]
        iterate 3 refine ev_nx rfl ?_
        refine ev_f (by decide) ?_
        iterate 2 refine ev_nx rfl ?_
        refine ev_sh1 rfl (by omega) ?_
        refine ev_nx rfl ?_
        refine ev_or rfl ?_
        refine ev_nx rfl ?_
        refine ev_inc rfl ⟨rfl, by decide⟩ rfl rfl ?_
        refine ev_nx rfl ?_
        exact ih (m + 1) _ _ _ (by omega) rfl
      have K0 : lik (z.2.2.2.2.2.2.2.take z.1.2.2.2.2.2) (msg z.2.2.2.1 z.2.2.1 m) = false → ∀ l4, Ev d m_X9_fits 93 [some (.ref 0), some (.int (nI w)), some (.int (nI m)), some (.int (nI 0)), l4] [] h (rt (.int (nI (fts (z.2.2.2.2.2.2.2.take z.1.2.2.2.2.2) z.2.2.2.1 z.2.2.1 r (m + 1) (if lik (z.2.2.2.2.2.2.2.take z.1.2.2.2.2.2) (msg z.2.2.2.1 z.2.2.1 m) then w ||| 1 * 2 ^ m else w)))) h) := by
        intro e l4
        rw [e, if_neg (by decide)]
        iterate 3 refine ev_nx rfl ?_
        refine ev_t (by decide) ?_
        refine ev_nx rfl ?_
        refine ev_or rfl ?_
        rw [Nat.or_zero]
        refine ev_nx rfl ?_
        refine ev_inc rfl ⟨rfl, by decide⟩ rfl rfl ?_
        refine ev_nx rfl ?_
        exact ih (m + 1) _ _ _ (by omega) rfl
      have hml := msg_len mo.1 (show m < 6 by omega) h8
      by_cases he : z.2.2.1.getD m 0 = z.1.2.2.2.2.2
      · iterate 2 refine ev_nx rfl ?_
        refine ev_gf rfl rfl (Mq_0 hJ) rfl ?_
        refine ev_nx rfl ?_
        refine ev_ge (fun b9 => absurd b9 (by omega)) (fun b9 => ?_)
        refine ev_nx rfl ?_
        refine ev_gf rfl rfl (Mq_0 hJ) rfl ?_
        refine ev_nx rfl ?_
        refine ev_lN rfl (Mq_3 hJ) (by omega) ?_
        refine ev_nx rfl ?_
        refine ev_gf rfl rfl (Mq_0 hJ) rfl ?_
        refine ev_nx rfl ?_
        refine ev_ne (fun b22 => absurd b22 (by omega)) (fun b22 => ?_)
        iterate 5 refine ev_nx rfl ?_
        refine lp_ft (T := b2n (lik (z.2.2.2.2.2.2.2.take z.1.2.2.2.2.2) (msg z.2.2.2.1 z.2.2.1 m))) mo hJ (by omega) hd8 hn h32 he (fun l4 => ?_) z.1.2.2.2.2.2 0 (by omega) (by rw [List.drop_zero, List.drop_zero])
        cases hL : lik (z.2.2.2.2.2.2.2.take z.1.2.2.2.2.2) (msg z.2.2.2.1 z.2.2.1 m) with
        | true =>
          have := K1 hL l4
          rw [hL] at this
          exact this
        | false =>
          have := K0 hL l4
          rw [hL] at this
          exact this
      · have hL : lik (z.2.2.2.2.2.2.2.take z.1.2.2.2.2.2) (msg z.2.2.2.1 z.2.2.1 m) = false := lik_len _ _ (by rw [hml, List.length_take]; omega)
        iterate 2 refine ev_nx rfl ?_
        refine ev_gf rfl rfl (Mq_0 hJ) rfl ?_
        refine ev_nx rfl ?_
        refine ev_ge (fun b9 => absurd b9 (by omega)) (fun b9 => ?_)
        refine ev_nx rfl ?_
        refine ev_gf rfl rfl (Mq_0 hJ) rfl ?_
        refine ev_nx rfl ?_
        refine ev_lN rfl (Mq_3 hJ) (by omega) ?_
        refine ev_nx rfl ?_
        refine ev_gf rfl rfl (Mq_0 hJ) rfl ?_
        refine ev_nx rfl ?_
        refine ev_ne (fun b22 => ?_) (fun b22 => absurd b22 (by omega))
        iterate 6 refine ev_nx rfl ?_
        refine ev_gf rfl rfl (Mq_0 hJ) rfl ?_
        refine ev_nx rfl ?_
        refine ev_ge (fun b40 => ?_) (fun b40 => ?_)
        · exact K0 hL _
        · iterate 2 refine ev_nx rfl ?_
          refine ev_t (by decide) ?_
          exact K0 hL _
  iterate 4 refine ev_nx rfl ?_
  exact H z.1.2.1 0 0 _ _ (by omega) rfl
/-! chances -/
def slk (s w x : Nat) : Nat := if s = w then (if s = 0 then 10 else 10 - x) else if w = 0 then x else 0
theorem slk_le {s w x : Nat} (hx : x ≤ 10) : slk s w x ≤ 10 := by unfold slk; (repeat' split) <;> omega
def lyk (S : List Nat) (s x : Nat) : Nat → Nat → Nat → Nat
  | 0, _, a => a
  | n + 1, p, a => lyk S s x n (p + 1) (a * slk (S.getD p 0) (pt s p) x)
/-- of 100000, how often a sign is right -/
def lky (K : List Nat) (c t j s x : Nat) : Nat := lyk (bst K (cry s c t j) z5 z5) s x 5 0 1
theorem lyk_le {S : List Nat} {s x : Nat} (hx : x ≤ 10) : ∀ n p a, lyk S s x n p a ≤ a * 10 ^ n := by
  intro n
  induction n with
  | zero => intro p a; simp [lyk]
  | succ n ih =>
    intro p a
    rw [lyk]
    refine Nat.le_trans (ih _ _) ?_
    rw [Nat.pow_succ', ← Nat.mul_assoc]
    exact Nat.mul_le_mul_right _ (Nat.mul_le_mul_left _ (slk_le hx))
theorem lky_le {s x : Nat} (hx : x ≤ 10) : lky K c t j s x ≤ 100000 := by
  have := lyk_le (S := bst K (cry s c t j) z5 z5) (s := s) hx 5 0 1
  exact this
theorem g_likely {s x : Nat} (hJ : MJ z y st K c t j h) (hs : s < 31) (hx : x ≤ 10) : Ec (d + 3) m_X9_likely [.ref 0, .int (nI s), .int (nI x)] h (fun v h' => v = some (.int (nI (lky K c t j s x))) ∧ MJ z y st K c t j h') := by
  obtain ⟨re, rl, br, pt_, wo, hl, S, G, ok, be, ge, hbe, hge, rfl⟩ := hJ
  refine ec_in [some (.ref 0), some (.int (nI s)), some (.int (nI x)), none, none, none, none] rfl rfl ?_
  have okz := lok_rest ok
  have okb := bst_ok okz hs
  have hll := ll_len okb
  have H : ∀ n p a be ge l5 l6, p + n = 5 → be.length = 5 → ge.length = 5 → am_nl [some (.ref 0), some (.int (nI s)), some (.int (nI x)), some (.int (nI a)), some (.int (nI p)), l5] 6 = true → Ev (d + 3) m_X9_likely 18 [some (.ref 0), some (.int (nI s)), some (.int (nI x)), some (.int (nI a)), some (.int (nI p)), l5, l6] [] (XM z y st (ll K (bst K (cry s c t j) z5 z5) (cry s c t j) c t j) be ge re rl br pt_ wo) (fun v h' => v = some (.int (nI (lyk (bst K (cry s c t j) z5 z5) s x n p a))) ∧ MJ z y st K c t j h') := by
    intro n
    induction n with
    | zero =>
      intro p a be ge l5 l6 hp hbe hge hnl
      iterate 3 refine ev_nx rfl ?_
      refine ev_ge (fun b21 => ?_) (fun b21 => absurd b21 (by omega))
      refine ev_nx rfl ?_
      exact ev_ri rfl rfl rfl ⟨rfl, re, rl, br, pt_, wo, hl, _, _, okb, be, ge, hbe, hge, rfl⟩
    | succ n ih =>
      intro p a be ge l5 l6 hp hbe hge hnl
      have hpt := pt_lt hs (show p < 5 by omega)
      have hst : (bst K (cry s c t j) z5 z5).getD p 0 < 3 := gd3 okb.2.1.2 (by rw [okb.2.1.1]; omega)
      rw [lyk]
      iterate 3 refine ev_nx rfl ?_
      refine ev_ge (fun b21 => absurd b21 (by omega)) (fun b21 => ?_)
      iterate 4 refine ev_nx rfl ?_
      refine ev_mul rfl ?_
      refine ev_nx rfl ?_
      refine ev_add rfl ?_
      rw [show 5 * s + p = s * 5 + p by omega]
      refine ev_lN rfl rfl ⟨show s * 5 + p < 155 by omega, by omega, by decide⟩ ?_
      show Ev _ _ _ _ (.int (nI (pt s p)) :: _) _ _
      iterate 5 refine ev_nx rfl ?_
      refine ev_add rfl ?_
      refine ev_lN rfl rfl (by omega) ?_
      rw [ll_S okb p (by omega)]
      iterate 5 refine ev_nx rfl ?_
      refine ev_ne (fun b54 => ?_) (fun b54 => ?_)
      · iterate 2 refine ev_nx rfl ?_
        refine ev_ne0 (fun b76 => ?_) (fun b76 => ?_)
        · refine ev_nx rfl ?_
          refine ev_mul rfl ?_
          refine ev_nx rfl ?_
          refine ev_inc rfl ⟨rfl, by decide⟩ rfl rfl ?_
          refine ev_nx rfl ?_
          first | (rw [slk, if_pos b54, if_pos (by omega)]; exact ih (p + 1) _ be ge _ _ (by omega) hbe hge rfl) | (rw [slk, if_pos b54, if_neg (by omega)]; exact ih (p + 1) _ be ge _ _ (by omega) hbe hge rfl) | (rw [slk, if_neg b54, if_pos b76]; exact ih (p + 1) _ be ge _ _ (by omega) hbe hge rfl) | (rw [slk, if_neg b54, if_neg b76]; exact ih (p + 1) _ be ge _ _ (by omega) hbe hge rfl)
        · iterate 2 refine ev_nx rfl ?_
          refine ev_mul rfl ?_
          refine ev_nx rfl ?_
          refine ev_inc rfl ⟨rfl, by decide⟩ rfl rfl ?_
          refine ev_nx rfl ?_
          first | (rw [slk, if_pos b54, if_pos (by omega)]; exact ih (p + 1) _ be ge _ _ (by omega) hbe hge rfl) | (rw [slk, if_pos b54, if_neg (by omega)]; exact ih (p + 1) _ be ge _ _ (by omega) hbe hge rfl) | (rw [slk, if_neg b54, if_pos b76]; exact ih (p + 1) _ be ge _ _ (by omega) hbe hge rfl) | (rw [slk, if_neg b54, if_neg b76]; exact ih (p + 1) _ be ge _ _ (by omega) hbe hge rfl)
      · iterate 2 refine ev_nx rfl ?_
        refine ev_ne0 (fun b59 => ?_) (fun b59 => ?_)
        · iterate 2 refine ev_nx rfl ?_
          refine ev_sub rfl (by omega) ?_
          refine ev_nx rfl ?_
          refine ev_mul rfl ?_
          refine ev_nx rfl ?_
          refine ev_inc rfl ⟨rfl, by decide⟩ rfl rfl ?_
          refine ev_nx rfl ?_
          first | (rw [slk, if_pos b54, if_pos (by omega)]; exact ih (p + 1) _ be ge _ _ (by omega) hbe hge rfl) | (rw [slk, if_pos b54, if_neg (by omega)]; exact ih (p + 1) _ be ge _ _ (by omega) hbe hge rfl) | (rw [slk, if_neg b54, if_pos b76]; exact ih (p + 1) _ be ge _ _ (by omega) hbe hge rfl) | (rw [slk, if_neg b54, if_neg b76]; exact ih (p + 1) _ be ge _ _ (by omega) hbe hge rfl)
        · iterate 2 refine ev_nx rfl ?_
          refine ev_mul rfl ?_
          refine ev_nx rfl ?_
          refine ev_inc rfl ⟨rfl, by decide⟩ rfl rfl ?_
          refine ev_nx rfl ?_
          first | (rw [slk, if_pos b54, if_pos (by omega)]; exact ih (p + 1) _ be ge _ _ (by omega) hbe hge rfl) | (rw [slk, if_pos b54, if_neg (by omega)]; exact ih (p + 1) _ be ge _ _ (by omega) hbe hge rfl) | (rw [slk, if_neg b54, if_pos b76]; exact ih (p + 1) _ be ge _ _ (by omega) hbe hge rfl) | (rw [slk, if_neg b54, if_neg b76]; exact ih (p + 1) _ be ge _ _ (by omega) hbe hge rfl)
  iterate 3 refine ev_nx rfl ?_
  refine ev_vv rfl rfl rfl rfl rfl rfl rfl rfl (f_rests ok) ?_
  iterate 4 refine ev_nx rfl ?_
  refine ev_vv rfl rfl rfl rfl rfl rfl rfl rfl (f_beat6 okz hbe hge hs) ?_
  iterate 2 refine ev_nx rfl ?_
  exact H 5 0 1 _ _ _ _ rfl rfl cry_len rfl
theorem f_divisor : ∀ b a, a < 2147483648 → b < 2147483648 → Ec d m_X9_divisor [.int (nI a), .int (nI b)] h (rt (.int (nI (Nat.gcd a b))) h) := by
  have H : ∀ n x0 y0 x b l4, b < n → x < 2147483648 → b < 2147483648 → Ev d m_X9_divisor 4 [some (.int (nI x0)), some (.int (nI y0)), some (.int (nI x)), some (.int (nI b)), l4] [] h (rt (.int (nI (Nat.gcd x b))) h) := by
    intro n
    induction n with
    | zero => intro x0 y0 x b l4 hn; omega
    | succ n ih =>
      intro x0 y0 x b l4 hn hx hb
      iterate 2 refine ev_nx rfl ?_
      refine ev_le0 (fun b5 => ?_) (fun b5 => ?_)
      · refine ev_nx rfl ?_
        subst b5
        exact ev_ri rfl rfl rfl ⟨by rw [Nat.gcd_zero_right], rfl⟩
      · iterate 2 refine ev_nx rfl ?_
        refine ev_rem rfl (by omega) (by omega) ?_
        iterate 6 refine ev_nx rfl ?_
        rw [Nat.gcd_comm x b, Nat.gcd_rec b x, Nat.gcd_comm (x % b) b]
        have hm := Nat.mod_lt x b5
        exact ih x0 y0 b (x % b) _ (by omega) hb (by omega)
  intro b a ha hb
  refine ec_in [some (.int (nI a)), some (.int (nI b)), none, none, none] rfl rfl ?_
  iterate 4 refine ev_nx rfl ?_
  exact H (b + 1) a b a b _ (by omega) ha hb
def ptA (up w : Nat) : Nat := if w = 0 then up / Nat.gcd up 100000 else 100000 / Nat.gcd up 100000
theorem f_part {up w : Nat} (hu : up < 2147483648) (hw : w ≤ 1) : Ec (d + 1) m_X9_part [.int (nI up), .int (nI w)] h (rt (.int (nI (ptA up w))) h) := by
  refine ec_in [some (.int (nI up)), some (.int (nI w)), none] rfl rfl ?_
  have g0 : 0 < Nat.gcd up 100000 := Nat.gcd_pos_of_pos_right _ (by decide)
  have g1 : Nat.gcd up 100000 ≤ 100000 := Nat.gcd_le_right _ (by decide)
  have k1 : (100000 : Int32) = nI 100000 := rfl
  refine ev_nx rfl ?_
  refine ev_nx rfl ?_
  show Ev _ _ _ _ (.int (nI 100000) :: _) _ _
  refine ev_si rfl rfl (by decide) rfl rfl rfl rfl (f_divisor 100000 up hu (by decide)) ?_
  iterate 3 refine ev_nx rfl ?_
  refine ev_ne0 (fun b8 => ?_) (fun b8 => ?_)
  · refine ev_nx rfl ?_
    show Ev _ _ _ _ (.int (nI 100000) :: _) _ _
    refine ev_nx rfl ?_
    refine ev_div rfl (by omega) (by omega) ?_
    exact ev_ri rfl rfl rfl ⟨vI (by unfold ptA; first | rw [if_pos b8] | rw [if_neg b8]), rfl⟩
  · iterate 2 refine ev_nx rfl ?_
    refine ev_div rfl (by omega) (by omega) ?_
    refine ev_nx rfl ?_
    exact ev_ri rfl rfl rfl ⟨vI (by unfold ptA; first | rw [if_pos b8] | rw [if_neg b8]), rfl⟩
theorem g_odds {s x w : Nat} (ok : lok K S G c t j) (hJ : Mq z y (ll K S G c t j) h) (hs : s ≤ 29) (hx : x ≤ 10) (hw : w ≤ 1) : Ec (d + 4) m_X9_odds [.ref 0, .int (nI s), .int (nI x), .int (nI w)] h (fun v h' => v = some (.int (nI (ptA (lky K c t j s x) w))) ∧ Mq z y (ll K S G c t j) h') := by
  have w1 : wi (nI s) (nI 0) (nI 29) = 1 := by rw [wi_n (by omega) (by omega) (by omega), if_pos (by omega)]
  have w2 : wi (nI x) (nI 0) (nI 10) = 1 := by rw [wi_n (by omega) (by omega) (by omega), if_pos (by omega)]
  have w3 : wi (nI w) (nI 0) (nI 1) = 1 := by rw [wi_n (by omega) (by omega) (by omega), if_pos (by omega)]
  have hle := lky_le (K := K) (c := c) (t := t) (j := j) (s := s) hx
  refine ec_in [some (.ref 0), some (.int (nI s)), some (.int (nI x)), some (.int (nI w))] rfl rfl ?_
  iterate 3 refine ev_nx rfl ?_
  refine ev_si rfl rfl (by decide) rfl rfl rfl rfl (f_in _ _ _ _) ?_
  rw [w1]
  refine ev_nx rfl ?_
  refine ev_f (by decide) ?_
  iterate 3 refine ev_nx rfl ?_
  refine ev_si rfl rfl (by decide) rfl rfl rfl rfl (f_in _ _ _ _) ?_
  rw [w2]
  refine ev_nx rfl ?_
  refine ev_f (by decide) ?_
  iterate 3 refine ev_nx rfl ?_
  refine ev_si rfl rfl (by decide) rfl rfl rfl rfl (f_in _ _ _ _) ?_
  rw [w3]
  refine ev_nx rfl ?_
  refine ev_t (by decide) ?_
  refine ev_nx rfl ?_
  refine ev_v rfl rfl rfl rfl rfl rfl (Mq_0 hJ) rfl (g_asItIs hJ ok) (fun rv h1 q => ?_)
  obtain ⟨rfl, hJ1⟩ := q
  iterate 3 refine ev_nx rfl ?_
  refine ev_v rfl rfl rfl rfl rfl rfl (MJ_0 hJ1) rfl (g_likely hJ1 (by omega) hx) (fun rv h2 q => ?_)
  obtain ⟨rfl, hJ2⟩ := q
  refine ev_nx rfl ?_
  refine ev_si rfl rfl (by decide) rfl rfl rfl rfl (f_part (by omega) hw) ?_
  exact ev_ri rfl rfl rfl ⟨rfl, MJ_Q hJ2⟩
/-- the sum over some signs -/
def sml (f : Nat → Nat) : List Nat → Nat
  | [] => 0
  | s :: l => f s + sml f l
theorem g_mean {m x w : Nat} (mo : mok z.2.2.2.1 z.2.2.1 z.1.2.1) (ok : lok K S G c t j) (hJ : Mq z y (ll K S G c t j) h) (hm : m < z.1.2.1) (hx : x ≤ 10) (hw : w ≤ 1) : Ec (d + 4) m_X9_mean [.ref 0, .int (nI m), .int (nI x), .int (nI w)] h (fun v h' => v = some (.int (nI (ptA (sml (fun s => lky K c t j s x) (msg z.2.2.2.1 z.2.2.1 m)) w))) ∧ Mq z y (ll K S G c t j) h') := by
  have h6 := mo.2.2.2.2
  have h8 := mok8 mo (show m < 6 by omega)
  have hzl := mo.2.2.1
  have hsl := mo.1
  have hml := msg_len mo.1 (show m < 6 by omega) h8
  have w1 : wi (nI m) (nI 0) (nI (z.1.2.1 - 1)) = 1 := by rw [wi_n (by omega) (by omega) (by omega), if_pos (by omega)]
  have w2 : wi (nI x) (nI 0) (nI 10) = 1 := by rw [wi_n (by omega) (by omega) (by omega), if_pos (by omega)]
  have w3 : wi (nI w) (nI 0) (nI 1) = 1 := by rw [wi_n (by omega) (by omega) (by omega), if_pos (by omega)]
  refine ec_in [some (.ref 0), some (.int (nI m)), some (.int (nI x)), some (.int (nI w)), none, none] rfl rfl ?_
  have sl : ∀ l : List Nat, sml (fun s => lky K c t j s x) l ≤ 100000 * l.length := by
    intro l
    induction l with
    | nil => exact Nat.le_refl _
    | cons s l ih =>
      have := lky_le (K := K) (c := c) (t := t) (j := j) (s := s) hx
      rw [sml, List.length_cons]
      omega
  have H : ∀ n k a h1, k + n = z.2.2.1.getD m 0 → a ≤ 100000 * k → MJ z y (ll K S G c t j) K c t j h1 → Ev (d + 4) m_X9_mean 39 [some (.ref 0), some (.int (nI m)), some (.int (nI x)), some (.int (nI w)), some (.int (nI a)), some (.int (nI k))] [] h1 (fun v h' => v = some (.int (nI (ptA (a + sml (fun s => lky K c t j s x) ((msg z.2.2.2.1 z.2.2.1 m).drop k)) w))) ∧ Mq z y (ll K S G c t j) h') := by
    intro n
    induction n with
    | zero =>
      intro k a h1 hk ha hJ1
      rw [List.drop_eq_nil_of_le (by omega)]
      iterate 2 refine ev_nx rfl ?_
      refine ev_gf rfl rfl (MJ_0 hJ1) rfl ?_
      refine ev_nx rfl ?_
      refine ev_lN rfl (Mq_3 (MJ_Q hJ1)) (by omega) ?_
      refine ev_nx rfl ?_
      refine ev_ge (fun b47 => ?_) (fun b47 => absurd b47 (by omega))
      iterate 2 refine ev_nx rfl ?_
      refine ev_si rfl rfl (by decide) rfl rfl rfl rfl (f_part (by omega) hw) ?_
      exact ev_ri rfl rfl rfl ⟨rfl, MJ_Q hJ1⟩
    | succ n ih =>
      intro k a h1 hk ha hJ1
      rw [msg_drop mo.1 (by omega) h8 (by omega), sml]
      have hsk : z.2.2.2.1.getD (m * 8 + k) 0 < 31 := gd3 mo.2.1 (by omega)
      have hle := lky_le (K := K) (c := c) (t := t) (j := j) (s := z.2.2.2.1.getD (m * 8 + k) 0) hx
      iterate 2 refine ev_nx rfl ?_
      refine ev_gf rfl rfl (MJ_0 hJ1) rfl ?_
      refine ev_nx rfl ?_
      refine ev_lN rfl (Mq_3 (MJ_Q hJ1)) (by omega) ?_
      refine ev_nx rfl ?_
      refine ev_ge (fun b47 => absurd b47 (by omega)) (fun b47 => ?_)
      iterate 3 refine ev_nx rfl ?_
      refine ev_gf rfl rfl (MJ_0 hJ1) rfl ?_
      iterate 2 refine ev_nx rfl ?_
      refine ev_mul rfl ?_
      refine ev_nx rfl ?_
      refine ev_add rfl ?_
      rw [show 8 * m + k = m * 8 + k by omega]
      refine ev_lN rfl (Mq_4 (MJ_Q hJ1)) (by omega) ?_
      refine ev_nx rfl ?_
      refine ev_v rfl rfl rfl rfl rfl rfl (MJ_0 hJ1) rfl (g_likely hJ1 hsk hx) (fun rv h2 q => ?_)
      obtain ⟨rfl, hJ2⟩ := q
      refine ev_add rfl ?_
      refine ev_nx rfl ?_
      refine ev_inc rfl ⟨rfl, by decide⟩ rfl rfl ?_
      refine ev_nx rfl ?_
      rw [← Nat.add_assoc]
      exact ih (k + 1) _ h2 (by omega) (by omega) hJ2
  iterate 2 refine ev_nx rfl ?_
  refine ev_vi rfl rfl rfl rfl rfl rfl (Mq_0 hJ) rfl (f_isMessage hJ (by omega)) ?_
  rw [w1]
  refine ev_nx rfl ?_
  refine ev_f (by decide) ?_
  iterate 3 refine ev_nx rfl ?_
  refine ev_si rfl rfl (by decide) rfl rfl rfl rfl (f_in _ _ _ _) ?_
  rw [w2]
  refine ev_nx rfl ?_
  refine ev_f (by decide) ?_
  iterate 3 refine ev_nx rfl ?_
  refine ev_si rfl rfl (by decide) rfl rfl rfl rfl (f_in _ _ _ _) ?_
  rw [w3]
  refine ev_nx rfl ?_
  refine ev_t (by decide) ?_
  iterate 3 refine ev_nx rfl ?_
  refine ev_v rfl rfl rfl rfl rfl rfl (Mq_0 hJ) rfl (g_asItIs hJ ok) (fun rv h1 q => ?_)
  obtain ⟨rfl, hJ1⟩ := q
  iterate 2 refine ev_nx rfl ?_
  have := H (z.2.2.1.getD m 0) 0 0 h1 (by omega) (by omega) hJ1
  rw [List.drop_zero, Nat.zero_add] at this
  exact this
end XN
