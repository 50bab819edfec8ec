/-! the reference: mending, changing -/
theorem ev_sq {d : Nat} {m : aM} {pc np r x : Nat} {L : aL} {S : List Value} {h : aH} {Q Q1 : Option Value → aH → Prop} {o x' c n k : Nat} {as : List Value} {m' : aM} (hc : am_cd m pc = some (.invokestatic x, np, r)) (hq : am_ms[r]? = some (o, x', c, k, n)) (hk : k = 1 ∨ k = 4) (hl : n.ble S.length = true) (ht : (S.take n).reverse = as) (hsum : (am_sum (S.drop n)).ble 8 = true) (hm : am_tab[c]? = some m') (hcall : Ec d m' as h Q1) (kk : ∀ rv h2, Q1 rv h2 → Ev (d + 1) m np L (rv.toList ++ S.drop n) h2 Q) : Ev (d + 1) m pc L S h Q := by
  refine ev_call (c := c) (as := as) (pc' := np) (L' := L) (S' := S.drop n) (h' := h) ?_ hm hcall kk
  simp only [am_go, hc, am_op, hq]
  subst ht
  have e : ∀ k, k = 1 ∨ k = 4 → am_call (o, x', c, k, n) np L S h = (if n ≤ S.length ∧ am_sum (S.drop n) ≤ 8 then some (.inr (.inr (c, (S.take n).reverse, np, L, S.drop n, h))) else none) := by
    rintro k (rfl | rfl) <;> rfl
  rw [e k hk, if_pos ⟨Nat.le_of_ble_eq_true hl, Nat.le_of_ble_eq_true hsum⟩]
/-- the set of the fewest, of several the least -/
def mnF (P : Nat → Bool) : Nat → Nat → Option Nat → Option Nat
  | 0, _, b => b
  | n + 1, k, b => mnF P n (k + 1) (if P k = true ∧ (∀ x, b = some x → pcn k < pcn x) then some k else b)
/-- the best change of a place with those behind it -/
def chQ (f : Nat → Nat → Nat) (p : Nat) : Nat → Nat → Option Nat × Nat → Option Nat × Nat
  | 0, _, s => s
  | n + 1, q, s => chQ f p n (q + 1) (if s.2 < f p q then (some (10 * p + q), f p q) else s)
def chP (f : Nat → Nat → Nat) : Nat → Nat → Option Nat × Nat → Option Nat × Nat
  | 0, _, s => s
  | n + 1, p, s => chP f n (p + 1) (chQ f p (4 - p) (p + 1) s)
def chA (w : Nat) (s : Option Nat × Nat) : Int32 := match s.1 with
  | none => -(nI 4)
  | some b => if w = 0 then nI b else nI s.2
/-- one wire of a set is mended -/
def md1 (w p : Nat) (x : Nat × Nat × Nat) : Nat × Nat × Nat := if bt w p = 1 then (clr x.1 (1 * 2 ^ p), clr x.2.1 (1 * 2 ^ p), clr x.2.2 (mdj (1 * 2 ^ p))) else x
def md5 (w : Nat) (x : Nat × Nat × Nat) : Nat × Nat × Nat := md1 w 4 (md1 w 3 (md1 w 2 (md1 w 1 (md1 w 0 x))))
def mc1 (w p c : Nat) : Nat := if bt w p = 1 then clr c (1 * 2 ^ p) else c
def mj1 (w p c : Nat) : Nat := if bt w p = 1 then clr c (mdj (1 * 2 ^ p)) else c
theorem md1_e (w p c t j : Nat) : md1 w p (c, t, j) = (mc1 w p c, mc1 w p t, mj1 w p j) := by
  unfold md1 mc1 mj1; split <;> rfl
theorem mc5 : ∀ w c : Fin 32, mc1 w.val 4 (mc1 w.val 3 (mc1 w.val 2 (mc1 w.val 1 (mc1 w.val 0 c.val)))) = clr c.val w.val := by decide +kernel
theorem mj5 : ∀ w : Fin 32, ∀ c : Fin 16, mj1 w.val 4 (mj1 w.val 3 (mj1 w.val 2 (mj1 w.val 1 (mj1 w.val 0 c.val)))) = clr c.val (mdj w.val) := by decide +kernel
theorem md5_e {w c t j : Nat} (hw : w < 32) (hc : c < 32) (ht : t < 32) (hj : j < 16) : md5 w (c, t, j) = (clr c w, clr t w, clr j (mdj w)) := by
  unfold md5
  rw [md1_e, md1_e, md1_e, md1_e, md1_e]
  rw [mc5 ⟨w, hw⟩ ⟨c, hc⟩, mc5 ⟨w, hw⟩ ⟨t, ht⟩, mj5 ⟨w, hw⟩ ⟨j, hj⟩]
section XI
variable {d : Nat} {h : aH} {Q : Option Value → aH → Prop} {z : aZ} {y : aY} {st nw be ge re rl br pt_ : List Nat} {wo : List Int32} {K S G C K' : List Nat} {c t j c' t' j' : Nat}
theorem g_mends {p : Nat} (hJ : MJ z y st K c t j h) (hp : p < 5) : Ec d m_X9_mends [.ref 6, .int (nI p)] h (fun r h' => r = none ∧ MJ z y st K (clr c (1 * 2 ^ p)) (clr t (1 * 2 ^ p)) (clr j (mdj (1 * 2 ^ p))) h') := by
  obtain ⟨re, rl, br, pt_, wo, hl, S, G, ok, be, ge, hbe, hge, rfl⟩ := hJ
  refine ec_mono (f_mends (a := 6) ok rfl (by decide) hp) ?_
  rintro r h' ⟨rfl, rfl⟩
  exact ⟨rfl, re, rl, br, pt_, wo, hl, S, G, lok_md ok, be, ge, hbe, hge, rfl⟩
theorem g_changes {p q : Nat} (hJ : MJ z y st K c t j h) (hp : p < 5) (hq : q < 5) : Ec d m_X9_changes [.ref 6, .int (nI p), .int (nI q)] h (fun r h' => r = none ∧ MJ z y st (swp K p q) c t j h') := by
  obtain ⟨re, rl, br, pt_, wo, hl, S, G, ok, be, ge, hbe, hge, rfl⟩ := hJ
  refine ec_mono (f_changes (a := 6) ok rfl (by decide) hp hq) ?_
  rintro r h' ⟨rfl, rfl⟩
  exact ⟨rfl, re, rl, br, pt_, wo, hl, _, _, lok_sw ok hp hq, be, ge, hbe, hge, rfl⟩
theorem it_mn {m r g w p : Nat} {x : Nat × Nat × Nat} {bb : Int32} (hw : w < 32) (hp : p < 5) (hJ : MJ z y st K x.1 x.2.1 x.2.2 h) (k : ∀ h1, MJ z y st K (md1 w p x).1 (md1 w p x).2.1 (md1 w p x).2.2 h1 → Ev (d + 4) m_X9_mending 39 [some (.ref 0), some (.int (nI m)), some (.int (nI r)), some (.int (nI g)), some (.int bb), some (.int (nI w)), some (.int (nI (p + 1)))] [] h1 Q) : Ev (d + 4) m_X9_mending 39 [some (.ref 0), some (.int (nI m)), some (.int (nI r)), some (.int (nI g)), some (.int bb), some (.int (nI w)), some (.int (nI p))] [] h Q := by
  have hb := bt_lt w p
  iterate 3 refine ev_nx rfl ?_
  refine ev_ge (fun b42 => absurd b42 (by omega)) (fun b42 => ?_)
  iterate 2 refine ev_nx rfl ?_
  refine ev_shr rfl (by omega) (by omega) ?_
  refine ev_nx rfl ?_
  refine ev_bit rfl (by omega) ?_
  iterate 2 refine ev_nx rfl ?_
  refine ev_ne (fun b53 => ?_) (fun b53 => ?_)
  · refine ev_inc rfl ⟨rfl, by decide⟩ rfl rfl ?_
    refine ev_nx rfl ?_
    first | exact k h (by rw [md1, if_neg b53]; exact hJ) | exact k h2 (by rw [md1, if_pos b53]; exact hJ2)
  · refine ev_nx rfl ?_
    refine ev_gf rfl rfl (MJ_0 hJ) rfl ?_
    refine ev_nx rfl ?_
    refine ev_sq rfl rfl (by decide) rfl rfl rfl rfl (g_mends hJ hp) (fun rv h2 q => ?_)
    obtain ⟨rfl, hJ2⟩ := q
    refine ev_inc rfl ⟨rfl, by decide⟩ rfl rfl ?_
    refine ev_nx rfl ?_
    first | exact k h (by rw [md1, if_neg b53]; exact hJ) | exact k h2 (by rw [md1, if_pos b53]; exact hJ2)
theorem g_mending {m r g : Nat} (mo : mok z.2.2.2.1 z.2.2.1 z.1.2.1) (hJ : Mq z y (ll K S G c t j) h) (ok : lok K S G c t j) (hm : m < z.1.2.1) (hr : 1 ≤ r ∧ r ≤ 3) (hg : g ≤ 3) : Ec (d + 4) m_X9_mending [.ref 0, .int (nI m), .int (nI r), .int (nI g)] h (fun v h' => v = some (.int (eo (mnF (fun w => decide (rgt K (clr c w) (clr t w) (clr j (mdj w)) r g (msg z.2.2.2.1 z.2.2.1 m) z55 = (msg z.2.2.2.1 z.2.2.1 m).length)) 32 0 none))) ∧ Mq z y (ll K S G c t j) h') := by
  have h6 := mo.2.2.2.2
  have h8 := mok8 mo (show m < 6 by omega)
  have hzl := mo.2.2.1
  have hml := msg_len mo.1 (show m < 6 by omega) h8
  refine ec_in [some (.ref 0), some (.int (nI m)), some (.int (nI r)), some (.int (nI g)), none, none, none] rfl rfl ?_
  have w1 : wi (nI m) (nI 0) (nI (z.1.2.1 - 1)) = 1 := by rw [wi_n (by omega) (by omega) (by omega), if_pos (by omega)]
  have w2 : isp (nI r) (nI g) = 1 := by rw [isp_n (by omega) (by omega), if_pos (by omega)]
  obtain ⟨P, hP⟩ : ∃ P : Nat → Bool, P = fun w => decide (rgt K (clr c w) (clr t w) (clr j (mdj w)) r g (msg z.2.2.2.1 z.2.2.1 m) z55 = (msg z.2.2.2.1 z.2.2.1 m).length) := ⟨_, rfl⟩
  rw [← hP]
  have H : ∀ n w b h1 l6, w + n = 32 → (∀ x, b = some x → x < 32) → Mq z y (ll K S G c t j) h1 → Ev (d + 4) m_X9_mending 25 [some (.ref 0), some (.int (nI m)), some (.int (nI r)), some (.int (nI g)), some (.int (eo b)), some (.int (nI w)), l6] [] h1 (fun v h' => v = some (.int (eo (mnF P n w b))) ∧ Mq z y (ll K S G c t j) h') := by
    intro n
    induction n with
    | zero =>
      intro w b h1 l6 hw hb hJ1
      iterate 3 refine ev_nx rfl ?_
      refine ev_ge (fun b29 => ?_) (fun b29 => absurd b29 (by omega))
      refine ev_nx rfl ?_
      exact ev_ri rfl rfl rfl ⟨rfl, hJ1⟩
    | succ n ih =>
      intro w b h1 l6 hw hb hJ1
      rw [mnF]
      iterate 3 refine ev_nx rfl ?_
      refine ev_ge (fun b29 => absurd b29 (by omega)) (fun b29 => ?_)
      refine ev_nx rfl ?_
      refine ev_v rfl rfl rfl rfl rfl rfl (Mq_0 hJ1) rfl (g_asItIs hJ1 ok) (fun rv h2 q => ?_)
      obtain ⟨rfl, hJ2⟩ := q
      iterate 2 refine ev_nx rfl ?_
      refine it_mn (p := 0) (x := (c, t, j)) (by omega) (by decide) hJ2 (fun h2 hJ2 => ?_)
      refine it_mn (p := 1) (by omega) (by decide) hJ2 (fun h2 hJ2 => ?_)
      refine it_mn (p := 2) (by omega) (by decide) hJ2 (fun h2 hJ2 => ?_)
      refine it_mn (p := 3) (by omega) (by decide) hJ2 (fun h2 hJ2 => ?_)
      refine it_mn (p := 4) (by omega) (by decide) hJ2 (fun h2 hJ2 => ?_)
      have hJ3 : MJ z y (ll K S G c t j) K (clr c w) (clr t w) (clr j (mdj w)) h2 := by
        have q : MJ z y (ll K S G c t j) K (md5 w (c, t, j)).1 (md5 w (c, t, j)).2.1 (md5 w (c, t, j)).2.2 h2 := hJ2
        rw [md5_e (by omega) ok.2.2.2.1 ok.2.2.2.2.1 ok.2.2.2.2.2] at q
        exact q
      have hle := rgt_le (K := K) (c := clr c w) (t := clr t w) (j := clr j (mdj w)) (r := r) (g := g) (msg z.2.2.2.1 z.2.2.1 m) z55
      have hPk : P w = true ↔ rgt K (clr c w) (clr t w) (clr j (mdj w)) r g (msg z.2.2.2.1 z.2.2.1 m) z55 = z.2.2.1.getD m 0 := by rw [hP, ← hml]; simp only [decide_eq_true_eq]
      have pl : ∀ w n k, pc_ w n k ≤ n := by
        intro w n
        induction n with
        | zero => intro k; exact Nat.le_refl _
        | succ n ih => intro k; rw [pc_]; have := ih (k + 1); have := bt_lt w k; omega
      have pcl : ∀ w, pcn w ≤ 30 := fun w => pl w 30 0
      have fin : ∀ h3 l6, Mq z y (ll K S G c t j) h3 → Ev (d + 4) m_X9_mending 128 [some (.ref 0), some (.int (nI m)), some (.int (nI r)), some (.int (nI g)), some (.int (eo (if P w = true ∧ (∀ x, b = some x → pcn w < pcn x) then some w else b))), some (.int (nI w)), l6] [] h3 (fun v h' => v = some (.int (eo (mnF P n (w + 1) (if P w = true ∧ (∀ x, b = some x → pcn w < pcn x) then some w else b)))) ∧ Mq z y (ll K S G c t j) h') := by
        intro h3 l6 hJ3
        refine ev_inc rfl ⟨rfl, by decide⟩ rfl rfl ?_
        refine ev_nx rfl ?_
        refine ih (w + 1) _ h3 _ (by omega) ?_ hJ3
        intro x hx
        split at hx
        · cases hx; omega
        · exact hb x hx
      have K0 : ∀ h3, Mq z y (ll K S G c t j) h3 → ¬ P w = true → Ev (d + 4) m_X9_mending 92 [some (.ref 0), some (.int (nI m)), some (.int (nI r)), some (.int (nI g)), some (.int (eo b)), some (.int (nI w)), some (.int (nI (4 + 1)))] [.int (nI 0)] h3 (fun v h' => v = some (.int (eo (mnF P n (w + 1) (if P w = true ∧ (∀ x, b = some x → pcn w < pcn x) then some w else b)))) ∧ Mq z y (ll K S G c t j) h') := by
        intro h3 hQ hn
        rw [if_neg (show ¬ (P w = true ∧ ∀ x, b = some x → pcn w < pcn x) from fun q => hn q.1)] at fin ⊢
        iterate 3 refine ev_nx rfl ?_
        refine ev_t (by decide) ?_
        iterate 2 refine ev_nx rfl ?_
        exact fin h3 _ hQ
      have K1 : ∀ h3, Mq z y (ll K S G c t j) h3 → P w = true → Ev (d + 4) m_X9_mending 92 [some (.ref 0), some (.int (nI m)), some (.int (nI r)), some (.int (nI g)), some (.int (eo b)), some (.int (nI w)), some (.int (nI (4 + 1)))] [.int (nI 1)] h3 (fun v h' => v = some (.int (eo (mnF P n (w + 1) (if P w = true ∧ (∀ x, b = some x → pcn w < pcn x) then some w else b)))) ∧ Mq z y (ll K S G c t j) h') := by
        intro h3 hQ hPw
        cases b with
        | none =>
          rw [if_pos (show (P w = true ∧ ∀ x, (none : Option Nat) = some x → pcn w < pcn x) from ⟨hPw, fun x e => (by cases e)⟩)] at fin ⊢
          iterate 3 refine ev_nx rfl ?_
          refine ev_f (by decide) ?_
          iterate 3 refine ev_nx rfl ?_
          refine ev_t (by decide) ?_
          iterate 3 refine ev_nx rfl ?_
          exact fin h3 _ hQ
        | some x =>
          have hx := hb x rfl
          have q1 := pcl w
          have q2 := pcl x
          iterate 3 refine ev_nx rfl ?_
          refine ev_f (by decide) ?_
          iterate 2 refine ev_nx rfl ?_
          skip
          refine ev_nx rfl ?_
          refine ev_if (fun q => absurd (show nI x = -(nI 4) by simpa [am_c2, eo] using q) (eo_c (show x < 1000 by omega))) (fun _ => ?_)
          refine ev_nx rfl ?_
          refine ev_si rfl rfl (by decide) rfl rfl rfl rfl (f_bits (by omega)) ?_
          refine ev_nx rfl ?_
          refine ev_si rfl rfl (by decide) rfl rfl rfl rfl (f_bits (w := x) (by omega)) ?_
          refine ev_nx rfl ?_
          refine ev_ge (fun b116 => ?_) (fun b116 => ?_)
          · iterate 2 refine ev_nx rfl ?_
            first | (rw [if_neg (show ¬ (P w = true ∧ ∀ y, some x = some y → pcn w < pcn y) from fun q => absurd (q.2 x rfl) (by omega))] at fin ⊢; exact fin h3 _ hQ) | (rw [if_pos (show (P w = true ∧ ∀ y, some x = some y → pcn w < pcn y) from ⟨hPw, fun y e => (by cases e; omega)⟩)] at fin ⊢; exact fin h3 _ hQ)
          · iterate 3 refine ev_nx rfl ?_
            first | (rw [if_neg (show ¬ (P w = true ∧ ∀ y, some x = some y → pcn w < pcn y) from fun q => absurd (q.2 x rfl) (by omega))] at fin ⊢; exact fin h3 _ hQ) | (rw [if_pos (show (P w = true ∧ ∀ y, some x = some y → pcn w < pcn y) from ⟨hPw, fun y e => (by cases e; omega)⟩)] at fin ⊢; exact fin h3 _ hQ)
      iterate 3 refine ev_nx rfl ?_
      refine ev_ge (fun b42 => ?_) (fun b42 => absurd b42 (by omega))
      iterate 4 refine ev_nx rfl ?_
      refine ev_v rfl rfl rfl rfl rfl rfl (MJ_0 hJ3) rfl (g_says mo (by omega) (by omega) (by omega) hJ3) (fun rv h3 q => ?_)
      obtain ⟨rfl, -, hJ4⟩ := q
      have hQ := MJ_Q hJ4
      refine ev_nx rfl ?_
      refine ev_gf rfl rfl (Mq_0 hQ) rfl ?_
      refine ev_nx rfl ?_
      refine ev_lN rfl (Mq_3 hQ) (by omega) ?_
      refine ev_nx rfl ?_
      refine ev_ne (fun b84 => ?_) (fun b84 => ?_)
      · refine ev_nx rfl ?_
        first | exact K0 h3 hQ (fun q => b84 (hPk.mp q)) | exact K1 h3 hQ (hPk.mpr b84)
      · iterate 2 refine ev_nx rfl ?_
        first | exact K0 h3 hQ (fun q => b84 (hPk.mp q)) | exact K1 h3 hQ (hPk.mpr b84)
  iterate 2 refine ev_nx rfl ?_
  refine ev_vi rfl rfl rfl rfl rfl rfl (Mq_0 hJ) rfl (f_isMessage hJ (by omega)) ?_
  rw [w1]
  refine ev_nx rfl ?_
  refine ev_f (by decide) ?_
  iterate 2 refine ev_nx rfl ?_
  refine ev_si rfl rfl (by decide) rfl rfl rfl rfl (f_isPace _ _ _) ?_
  rw [w2]
  refine ev_nx rfl ?_
  refine ev_t (by decide) ?_
  iterate 4 refine ev_nx rfl ?_
  exact H 32 0 none h _ rfl (fun x e => (by cases e)) hJ
theorem g_changing {m r g w : Nat} (mo : mok z.2.2.2.1 z.2.2.1 z.1.2.1) (hJ : Mq z y (ll K S G c t j) h) (ok : lok K S G c t j) (hm : m < z.1.2.1) (hr : 1 ≤ r ∧ r ≤ 3) (hg : g ≤ 3) (hw : w ≤ 1) : Ec (d + 4) m_X9_changing [.ref 0, .int (nI m), .int (nI r), .int (nI g), .int (nI w)] h (fun v h' => v = some (.int (chA w (chP (fun p q => rgt (swp K p q) c t j r g (msg z.2.2.2.1 z.2.2.1 m) z55) 5 0 (none, rgt K c t j r g (msg z.2.2.2.1 z.2.2.1 m) z55)))) ∧ Mq z y (ll K S G c t j) h') := by
  have h6 := mo.2.2.2.2
  have h8 := mok8 mo (show m < 6 by omega)
  have hml := msg_len mo.1 (show m < 6 by omega) h8
  refine ec_in [some (.ref 0), some (.int (nI m)), some (.int (nI r)), some (.int (nI g)), some (.int (nI w)), none, none, none, none, none] rfl rfl ?_
  have w1 : wi (nI m) (nI 0) (nI (z.1.2.1 - 1)) = 1 := by rw [wi_n (by omega) (by omega) (by omega), if_pos (by omega)]
  have w2 : isp (nI r) (nI g) = 1 := by rw [isp_n (by omega) (by omega), if_pos (by omega)]
  have w3 : wi (nI w) (nI 0) (nI 1) = 1 := by rw [wi_n (by omega) (by omega) (by omega), if_pos (by omega)]
  obtain ⟨f, hf⟩ : ∃ f : Nat → Nat → Nat, f = fun p q => rgt (swp K p q) c t j r g (msg z.2.2.2.1 z.2.2.1 m) z55 := ⟨_, rfl⟩
  rw [← hf]
  have hfl : ∀ p q, f p q ≤ 8 := fun p q => by rw [hf]; exact Nat.le_trans (rgt_le _ _) (by omega)
  have Hq : ∀ (Q : Option Value → aH → Prop) (p : Nat) (T : Option Nat × Nat), p < 5 → (∀ h1 l9, Mq z y (ll K S G c t j) h1 → Ev (d + 4) m_X9_changing 134 [some (.ref 0), some (.int (nI m)), some (.int (nI r)), some (.int (nI g)), some (.int (nI w)), some (.int (eo T.1)), some (.int (nI T.2)), some (.int (nI p)), some (.int (nI 5)), l9] [] h1 Q) → ∀ n q s h1 l9, q + n = 5 → p < q → s.2 ≤ 8 → T = chQ f p n q s → Mq z y (ll K S G c t j) h1 → Ev (d + 4) m_X9_changing 60 [some (.ref 0), some (.int (nI m)), some (.int (nI r)), some (.int (nI g)), some (.int (nI w)), some (.int (eo s.1)), some (.int (nI s.2)), some (.int (nI p)), some (.int (nI q)), l9] [] h1 Q := by
    intro Q p T hp kk n
    induction n with
    | zero =>
      intro q s h1 l9 hq hpq hs hT hJ1
      obtain rfl : q = 5 := by omega
      obtain rfl : T = s := hT
      iterate 3 refine ev_nx rfl ?_
      refine ev_ge (fun b63 => ?_) (fun b63 => absurd b63 (by omega))
      exact kk h1 _ hJ1
    | succ n ih =>
      intro q s h1 l9 hq hpq hs hT hJ1
      rw [chQ] at hT
      have hfq := hfl p q
      iterate 3 refine ev_nx rfl ?_
      refine ev_ge (fun b63 => absurd b63 (by omega)) (fun b63 => ?_)
      refine ev_nx rfl ?_
      refine ev_v rfl rfl rfl rfl rfl rfl (Mq_0 hJ1) rfl (g_asItIs hJ1 ok) (fun rv h2 q => ?_)
      obtain ⟨rfl, hJ2⟩ := q
      refine ev_nx rfl ?_
      refine ev_gf rfl rfl (MJ_0 hJ2) rfl ?_
      iterate 2 refine ev_nx rfl ?_
      refine ev_sq rfl rfl (by decide) rfl rfl rfl rfl (g_changes hJ2 hp (by omega)) (fun rv h3 q => ?_)
      obtain ⟨rfl, hJ3⟩ := q
      iterate 4 refine ev_nx rfl ?_
      refine ev_v rfl rfl rfl rfl rfl rfl (MJ_0 hJ3) rfl (g_says mo (by omega) (by omega) (by omega) hJ3) (fun rv h4 qq => ?_)
      obtain ⟨rfl, -, hJ4⟩ := qq
      have hQ := MJ_Q hJ4
      have ef : rgt (swp K p q) c t j r g (msg z.2.2.2.1 z.2.2.1 m) z55 = f p q := by rw [hf]
      rw [ef]
      iterate 4 refine ev_nx rfl ?_
      refine ev_leq (fun b94 => ?_) (fun b94 => ?_)
      · iterate 5 refine ev_nx rfl ?_
        refine ev_leq (fun b116 => ?_) (fun b116 => ?_)
        · iterate 2 refine ev_nx rfl ?_
          refine ev_inc rfl ⟨rfl, by decide⟩ rfl rfl ?_
          refine ev_nx rfl ?_
          first | exact ih (q + 1) (some (10 * p + q), f p q) h4 _ (by omega) (by omega) hfq (by rw [hT, if_pos b94]) hQ | exact ih (q + 1) s h4 _ (by omega) (by omega) hs (by rw [hT, if_neg (by omega)]) hQ | (exfalso; omega)
        · iterate 3 refine ev_nx rfl ?_
          refine ev_inc rfl ⟨rfl, by decide⟩ rfl rfl ?_
          refine ev_nx rfl ?_
          first | exact ih (q + 1) (some (10 * p + q), f p q) h4 _ (by omega) (by omega) hfq (by rw [hT, if_pos b94]) hQ | exact ih (q + 1) s h4 _ (by omega) (by omega) hs (by rw [hT, if_neg (by omega)]) hQ | (exfalso; omega)
      · iterate 2 refine ev_nx rfl ?_
        refine ev_mul rfl ?_
        refine ev_nx rfl ?_
        refine ev_add rfl ?_
        iterate 5 refine ev_nx rfl ?_
        refine ev_leq (fun b116 => ?_) (fun b116 => ?_)
        · iterate 2 refine ev_nx rfl ?_
          refine ev_inc rfl ⟨rfl, by decide⟩ rfl rfl ?_
          refine ev_nx rfl ?_
          first | exact ih (q + 1) (some (10 * p + q), f p q) h4 _ (by omega) (by omega) hfq (by rw [hT, if_pos b94]) hQ | exact ih (q + 1) s h4 _ (by omega) (by omega) hs (by rw [hT, if_neg (by omega)]) hQ | (exfalso; omega)
        · iterate 3 refine ev_nx rfl ?_
          refine ev_inc rfl ⟨rfl, by decide⟩ rfl rfl ?_
          refine ev_nx rfl ?_
          first | exact ih (q + 1) (some (10 * p + q), f p q) h4 _ (by omega) (by omega) hfq (by rw [hT, if_pos b94]) hQ | exact ih (q + 1) s h4 _ (by omega) (by omega) hs (by rw [hT, if_neg (by omega)]) hQ | (exfalso; omega)
  have chl : ∀ p n q s, s.2 ≤ 8 → (chQ f p n q s).2 ≤ 8 := by
    intro p n
    induction n with
    | zero => intro q s hs; exact hs
    | succ n ih =>
      intro q s hs
      rw [chQ]
      refine ih _ _ ?_
      split
      · exact hfl p q
      · exact hs
  have chb : ∀ p n q s, p < 5 → q + n = 5 → (∀ b, s.1 = some b → b < 100) → ∀ b, (chQ f p n q s).1 = some b → b < 100 := by
    intro p n
    induction n with
    | zero => intro q s _ _ hs; exact hs
    | succ n ih =>
      intro q s hp hq hs
      rw [chQ]
      refine ih _ _ hp (by omega) ?_
      split
      · intro b e
        cases e
        omega
      · exact hs
  have H : ∀ n p s h1 l8 l9, p + n = 5 → s.2 ≤ 8 → (∀ b, s.1 = some b → b < 100) → Mq z y (ll K S G c t j) h1 → Ev (d + 4) m_X9_changing 48 [some (.ref 0), some (.int (nI m)), some (.int (nI r)), some (.int (nI g)), some (.int (nI w)), some (.int (eo s.1)), some (.int (nI s.2)), some (.int (nI p)), l8, l9] [] h1 (fun v h' => v = some (.int (chA w (chP f n p s))) ∧ Mq z y (ll K S G c t j) h') := by
    intro n
    induction n with
    | zero =>
      intro p s h1 l8 l9 hp hs hb hJ1
      obtain ⟨b, v⟩ := s
      rw [chP]
      iterate 3 refine ev_nx rfl ?_
      refine ev_ge (fun b51 => ?_) (fun b51 => absurd b51 (by omega))
      iterate 2 refine ev_nx rfl ?_
      skip
      cases b with
      | none =>
        refine ev_nx rfl ?_
        refine ev_f (by show am_c2 .ne (-(nI 4)) (-(nI 4)) = false; decide) ?_
        iterate 2 refine ev_nx rfl ?_
        exact ev_ri rfl rfl rfl ⟨rfl, hJ1⟩
      | some b =>
        refine ev_nx rfl ?_
        refine ev_if (fun _ => ?_) (fun q => absurd (show nI b = -(nI 4) by simpa [am_c2, eo] using q) (eo_c (show b < 1000 by have := hb b rfl; omega)))
        iterate 2 refine ev_nx rfl ?_
        refine ev_ne0 (fun b154 => ?_) (fun b154 => ?_)
        · refine ev_nx rfl ?_
          exact ev_ri rfl rfl rfl ⟨by show _ = some (Value.int (if w = 0 then nI b else nI v)); first | rw [if_pos b154]; rfl | rw [if_neg b154], hJ1⟩
        · iterate 2 refine ev_nx rfl ?_
          exact ev_ri rfl rfl rfl ⟨by show _ = some (Value.int (if w = 0 then nI b else nI v)); first | rw [if_pos b154]; rfl | rw [if_neg b154], hJ1⟩
    | succ n ih =>
      intro p s h1 l8 l9 hp hs hb hJ1
      rw [chP]
      iterate 3 refine ev_nx rfl ?_
      refine ev_ge (fun b51 => absurd b51 (by omega)) (fun b51 => ?_)
      iterate 2 refine ev_nx rfl ?_
      refine ev_add rfl ?_
      refine ev_nx rfl ?_
      refine Hq _ p (chQ f p (4 - p) (p + 1) s) (by omega) (fun h2 l9 hJ2 => ?_) (4 - p) (p + 1) s h1 _ (by omega) (by omega) hs rfl hJ1
      refine ev_inc rfl ⟨rfl, by decide⟩ rfl rfl ?_
      refine ev_nx rfl ?_
      exact ih (p + 1) _ h2 _ _ (by omega) (chl p _ _ s hs) (chb p _ _ s (by omega) (by omega) hb) hJ2
  have hle := rgt_le (K := K) (c := c) (t := t) (j := j) (r := r) (g := g) (msg z.2.2.2.1 z.2.2.1 m) z55
  iterate 2 refine ev_nx rfl ?_
  refine ev_vi rfl rfl rfl rfl rfl rfl (Mq_0 hJ) rfl (f_isMessage hJ (by omega)) ?_
  rw [w1]
  refine ev_nx rfl ?_
  refine ev_f (by decide) ?_
  iterate 2 refine ev_nx rfl ?_
  refine ev_si rfl rfl (by decide) rfl rfl rfl rfl (f_isPace _ _ _) ?_
  rw [w2]
  refine ev_nx rfl ?_
  refine ev_f (by decide) ?_
  iterate 3 refine ev_nx rfl ?_
  refine ev_si rfl rfl (by decide) rfl rfl rfl rfl (f_in _ _ _ _) ?_
  rw [w3]
  refine ev_nx rfl ?_
  refine ev_t (by decide) ?_
  refine ev_nx rfl ?_
  refine ev_v rfl rfl rfl rfl rfl rfl (Mq_0 hJ) rfl (g_asItIs hJ ok) (fun rv h2 q => ?_)
  obtain ⟨rfl, hJ2⟩ := q
  iterate 6 refine ev_nx rfl ?_
  refine ev_v rfl rfl rfl rfl rfl rfl (MJ_0 hJ2) rfl (g_says mo (by omega) (by omega) (by omega) hJ2) (fun rv h4 qq => ?_)
  obtain ⟨rfl, -, hJ4⟩ := qq
  have hQ := MJ_Q hJ4
  iterate 3 refine ev_nx rfl ?_
  exact H 5 0 (none, rgt K c t j r g (msg z.2.2.2.1 z.2.2.1 m) z55) h4 _ _ rfl (by show rgt K c t j r g (msg z.2.2.2.1 z.2.2.1 m) z55 ≤ 8; omega) (fun b e => (by cases e)) hQ
end XI
