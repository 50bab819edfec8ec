/-! the reference: pace, clear, like -/
/-- a call of a static method -/
theorem ev_si {d : Nat} {m : aM} {pc np r x : Nat} {L : aL} {S : List Value} {h : aH} {Q : Option Value → aH → Prop} {o x' c n k : Nat} {as : List Value} {m' : aM} {v : Value} {h2 : aH} (hc : am_cd m pc = some (.invokestatic x, np, r)) (hq : am_ms[r]? = some (o, x', c, k, n)) (hk : k = 1 ∨ k = 4) (hl : n.ble S.length = true) (ht : (S.take n).reverse = as) (hsum : (am_sum (S.drop n)).ble 8 = true) (hm : am_tab[c]? = some m') (hcall : Ec d m' as h (rt v h2)) (kk : Ev (d + 1) m np L (v :: S.drop n) h2 Q) : Ev (d + 1) m pc L S h Q := by
  refine ev_ci (c := c) (as := as) (pc' := np) (L' := L) (S' := S.drop n) (h' := h) ?_ hm hcall kk
  simp only [am_go, hc, am_op, hq]
  subst ht
  have e : ∀ k, k = 1 ∨ k = 4 → am_call (o, x', c, k, n) np L S h = (if n ≤ S.length ∧ am_sum (S.drop n) ≤ 8 then some (.inr (.inr (c, (S.take n).reverse, np, L, S.drop n, h))) else none) := by
    rintro k (rfl | rfl) <;> rfl
  rw [e k hk, if_pos ⟨Nat.le_of_ble_eq_true hl, Nat.le_of_ble_eq_true hsum⟩]
theorem ev_sv {d : Nat} {m : aM} {pc np r x : Nat} {L : aL} {S : List Value} {h : aH} {Q : Option Value → aH → Prop} {o x' c n k : Nat} {as : List Value} {m' : aM} {h2 : aH} (hc : am_cd m pc = some (.invokestatic x, np, r)) (hq : am_ms[r]? = some (o, x', c, k, n)) (hk : k = 1 ∨ k = 4) (hl : n.ble S.length = true) (ht : (S.take n).reverse = as) (hsum : (am_sum (S.drop n)).ble 8 = true) (hm : am_tab[c]? = some m') (hcall : Ec d m' as h (rtv h2)) (kk : Ev (d + 1) m np L (S.drop n) h2 Q) : Ev (d + 1) m pc L S h Q := by
  refine ev_cv (c := c) (as := as) (pc' := np) (L' := L) (S' := S.drop n) (h' := h) ?_ hm hcall kk
  simp only [am_go, hc, am_op, hq]
  subst ht
  have e : ∀ k, k = 1 ∨ k = 4 → am_call (o, x', c, k, n) np L S h = (if n ≤ S.length ∧ am_sum (S.drop n) ≤ 8 then some (.inr (.inr (c, (S.take n).reverse, np, L, S.drop n, h))) else none) := by
    rintro k (rfl | rfl) <;> rfl
  rw [e k hk, if_pos ⟨Nat.le_of_ble_eq_true hl, Nat.le_of_ble_eq_true hsum⟩]
/-- the first r and g of a sum -/
def pcR (P : Nat → Nat → Bool) (s : Nat) : Nat → Nat → Option (Nat × Nat)
  | 0, _ => none
  | n + 1, r => if (r ≤ s ∧ s - r ≤ 3) ∧ P r (s - r) = true then some (r, s - r) else pcR P s n (r + 1)
def pcS (P : Nat → Nat → Bool) : Nat → Nat → Option (Nat × Nat)
  | 0, _ => none
  | n + 1, s => match pcR P s 3 1 with
    | some x => some x
    | none => pcS P n (s + 1)
def pcA (w : Nat) : Option (Nat × Nat) → Int32
  | none => -(nI 4)
  | some x => if w = 0 then nI x.1 else nI x.2
/-- clear signs, from one on -/
def clf (f : Nat → Nat) : Nat → Nat → Nat → Nat
  | 0, _, w => w
  | n + 1, s, w => clf f n (s + 1) (if f s = s then w ||| 1 * 2 ^ s else w)
/-- the first that is alike -/
def lkr (f : Nat → Nat) (v : Nat) : Nat → Nat → Nat
  | 0, k => k
  | n + 1, k => if f k = v then k else lkr f v n (k + 1)
/-- what is read for a sign, sent from rest -/
def fs_ (K : List Nat) (c t j r s : Nat) : Nat := rdS (btn K (cry s c t j) r z5 z5)
theorem fs_lt {K : List Nat} {c t j r s : Nat} (hK : lok K z5 z5 c t j) (hs : s < 31) : fs_ K c t j r s < 32 := rk_lt (x := z55) hK hs
section XH
variable {d : Nat} {h : aH} {Q : Option Value → aH → Prop} {z : aZ} {y : aY} {st nw be ge re rl br pt_ : List Nat} {wo : List Int32} {K S G C K' : List Nat} {c t j c' t' j' : Nat}
theorem MJ_ok (hJ : MJ z y st K c t j h) : lok K z5 z5 c t j := by
  obtain ⟨re, rl, br, pt_, wo, hl, S, G, ok, _⟩ := hJ
  exact lok_rest ok
theorem isp_neg {r s : Nat} (hr : r ≤ 3) (hs : s < r) : isp (nI r) (nI s - nI r) = 0 := by
  unfold isp
  rw [if_neg]
  rintro ⟨_, h2⟩
  have : ∀ r s : Fin 4, s < r → ¬ wi (nI s.val - nI r.val) (nI 0) (nI 3) = 1 := by decide
  exact this ⟨r, by omega⟩ ⟨s, by omega⟩ hs h2
theorem g_pace {m w : Nat} (mo : mok z.2.2.2.1 z.2.2.1 z.1.2.1) (hJ : Mq z y (ll K S G c t j) h) (ok : lok K S G c t j) (hm : m < z.1.2.1) (hw : w ≤ 1) : Ec (d + 4) m_X9_pace [.ref 0, .int (nI m), .int (nI w)] h (fun v h' => v = some (.int (pcA w (pcS (fun r g => decide (rgt K c t j r g (msg z.2.2.2.1 z.2.2.1 m) z55 = (msg z.2.2.2.1 z.2.2.1 m).length)) 6 1))) ∧ Mq z y (ll K S G c t j) h') := by
  have h6 := mo.2.2.2.2
  have h8 := mok8 mo (show m < 6 by omega)
  have hzl := mo.2.2.1
  have hml := msg_len mo.1 (show m < 6 by omega) h8
  refine ec_in [some (.ref 0), some (.int (nI m)), some (.int (nI w)), none, none] rfl rfl ?_
  have w1 : wi (nI m) (nI 0) (nI (z.1.2.1 - 1)) = 1 := by rw [wi_n (by omega) (by omega) (by omega), if_pos (by omega)]
  have w2 : wi (nI w) (nI 0) (nI 1) = 1 := by rw [wi_n (by omega) (by omega) (by omega), if_pos (by omega)]
  obtain ⟨P, hP⟩ : ∃ P : Nat → Nat → Bool, P = fun r g => decide (rgt K c t j r g (msg z.2.2.2.1 z.2.2.1 m) z55 = (msg z.2.2.2.1 z.2.2.1 m).length) := ⟨_, rfl⟩
  rw [← hP]
  have R : ∀ (s : Nat) (X : Option (Nat × Nat)), s ≤ 6 → (∀ h1, MJ z y (ll K S G c t j) K c t j h1 → Ev (d + 4) m_X9_pace 92 [some (.ref 0), some (.int (nI m)), some (.int (nI w)), some (.int (nI s)), some (.int (nI 4))] [] h1 (fun v h' => v = some (.int (pcA w X)) ∧ Mq z y (ll K S G c t j) h')) → ∀ n r h1, r + n = 4 → 1 ≤ r → MJ z y (ll K S G c t j) K c t j h1 → Ev (d + 4) m_X9_pace 34 [some (.ref 0), some (.int (nI m)), some (.int (nI w)), some (.int (nI s)), some (.int (nI r))] [] h1 (fun v h' => v = some (.int (pcA w (match pcR P s n r with
    | some x => some x
    | none => X))) ∧ Mq z y (ll K S G c t j) h') := by
    intro s X hs kk n
    induction n with
    | zero =>
      intro r h1 hr h1r hJ1
      obtain rfl : r = 4 := by omega
      iterate 3 refine ev_nx rfl ?_
      refine ev_ge (fun b37 => ?_) (fun b37 => absurd b37 (by omega))
      exact kk h1 hJ1
    | succ n ih =>
      intro r h1 hr h1r hJ1
      rw [pcR]
      by_cases hrs : r ≤ s
      · have e1 := isp_n (r := r) (g := s - r) (by omega) (by omega)
        by_cases hg3 : s - r ≤ 3
        · rw [if_pos (by omega)] at e1
          have hle := rgt_le (K := K) (c := c) (t := t) (j := j) (r := r) (g := s - r) (msg z.2.2.2.1 z.2.2.1 m) z55
          iterate 3 refine ev_nx rfl ?_
          refine ev_ge (fun b37 => absurd b37 (by omega)) (fun b37 => ?_)
          iterate 3 refine ev_nx rfl ?_
          refine ev_sub rfl (by omega) ?_
          refine ev_si rfl rfl (by decide) rfl rfl rfl rfl (f_isPace _ _ _) ?_
          rw [e1]
          refine ev_nx rfl ?_
          refine ev_f (by decide) ?_
          iterate 5 refine ev_nx rfl ?_
          refine ev_sub rfl (by omega) ?_
          refine ev_v rfl rfl rfl rfl rfl rfl (MJ_0 hJ1) rfl (g_says mo (by omega) (by omega) (by omega) hJ1) (fun rv h2 q => ?_)
          obtain ⟨rfl, _, hJ2⟩ := q
          refine ev_nx rfl ?_
          refine ev_gf rfl rfl (MJ_0 hJ2) rfl ?_
          refine ev_nx rfl ?_
          refine ev_lN rfl (Mq_3 (MJ_Q hJ2)) (by omega) ?_
          refine ev_nx rfl ?_
          refine ev_ne (fun b69 => ?_) (fun b69 => ?_)
          · refine ev_inc rfl ⟨rfl, by decide⟩ rfl rfl ?_
            refine ev_nx rfl ?_
            rw [if_neg (by rw [hP]; simp only [decide_eq_true_eq]; omega)]
            exact ih (r + 1) h2 (by omega) (by omega) hJ2
          · iterate 2 refine ev_nx rfl ?_
            refine ev_ne0 (fun b73 => ?_) (fun b73 => ?_)
            · iterate 2 refine ev_nx rfl ?_
              refine ev_sub rfl (by omega) ?_
              rw [if_pos (by rw [hP]; simp only [decide_eq_true_eq]; omega)]
              exact ev_ri rfl rfl rfl ⟨by show _ = some (Value.int (if w = 0 then nI r else nI (s - r))); first | rw [if_pos b73] | rw [if_neg b73], MJ_Q hJ2⟩
            · iterate 2 refine ev_nx rfl ?_
              rw [if_pos (by rw [hP]; simp only [decide_eq_true_eq]; omega)]
              exact ev_ri rfl rfl rfl ⟨by show _ = some (Value.int (if w = 0 then nI r else nI (s - r))); first | rw [if_pos b73] | rw [if_neg b73], MJ_Q hJ2⟩
        · rw [if_neg (by omega)] at e1
          rw [if_neg (by omega)]
          iterate 3 refine ev_nx rfl ?_
          refine ev_ge (fun b37 => absurd b37 (by omega)) (fun b37 => ?_)
          iterate 3 refine ev_nx rfl ?_
          refine ev_sub rfl (by omega) ?_
          refine ev_si rfl rfl (by decide) rfl rfl rfl rfl (f_isPace _ _ _) ?_
          rw [e1]
          refine ev_nx rfl ?_
          refine ev_t (by decide) ?_
          refine ev_inc rfl ⟨rfl, by decide⟩ rfl rfl ?_
          refine ev_nx rfl ?_
          exact ih (r + 1) h1 (by omega) (by omega) hJ1
      · rw [if_neg (by omega)]
        have e1 := isp_neg (r := r) (s := s) (by omega) (by omega)
        iterate 3 refine ev_nx rfl ?_
        refine ev_ge (fun b37 => absurd b37 (by omega)) (fun b37 => ?_)
        iterate 3 refine ev_nx rfl ?_
        refine ev_nx rfl ?_
        refine ev_si rfl rfl (by decide) rfl rfl rfl rfl (f_isPace _ _ _) ?_
        rw [e1]
        refine ev_nx rfl ?_
        refine ev_t (by decide) ?_
        refine ev_inc rfl ⟨rfl, by decide⟩ rfl rfl ?_
        refine ev_nx rfl ?_
        exact ih (r + 1) h1 (by omega) (by omega) hJ1
  have H : ∀ n s h1 l4, s + n = 7 → MJ z y (ll K S G c t j) K c t j h1 → Ev (d + 4) m_X9_pace 25 [some (.ref 0), some (.int (nI m)), some (.int (nI w)), some (.int (nI s)), l4] [] h1 (fun v h' => v = some (.int (pcA w (pcS P n s))) ∧ Mq z y (ll K S G c t j) h') := by
    intro n
    induction n with
    | zero =>
      intro s h1 l4 hs hJ1
      iterate 3 refine ev_nx rfl ?_
      refine ev_ge (fun b28 => ?_) (fun b28 => absurd b28 (by omega))
      refine ev_nx rfl ?_
      exact ev_ri rfl rfl rfl ⟨rfl, MJ_Q hJ1⟩
    | succ n ih =>
      intro s h1 l4 hs hJ1
      rw [pcS]
      iterate 3 refine ev_nx rfl ?_
      refine ev_ge (fun b28 => absurd b28 (by omega)) (fun b28 => ?_)
      iterate 2 refine ev_nx rfl ?_
      refine R s (pcS P n (s + 1)) (by omega) (fun h2 hJ2 => ?_) 3 1 h1 rfl (by omega) hJ1
      refine ev_inc rfl ⟨rfl, by decide⟩ rfl rfl ?_
      refine ev_nx rfl ?_
      exact ih (s + 1) h2 _ (by omega) hJ2
  iterate 2 refine ev_nx rfl ?_
  refine ev_vi rfl rfl rfl rfl rfl rfl (Mq_0 hJ) rfl (f_isMessage hJ (by omega)) ?_
  rw [w1]
  refine ev_nx rfl ?_
  refine ev_f (by decide) ?_
  iterate 3 refine ev_nx rfl ?_
  refine ev_si rfl rfl (by decide) rfl rfl rfl rfl (f_in _ _ _ _) ?_
  rw [w2]
  refine ev_nx rfl ?_
  refine ev_t (by decide) ?_
  refine ev_nx rfl ?_
  refine ev_v rfl rfl rfl rfl rfl rfl (Mq_0 hJ) rfl (g_asItIs hJ ok) (fun rv h1 q => ?_)
  obtain ⟨rfl, hJ1⟩ := q
  iterate 2 refine ev_nx rfl ?_
  exact H 6 1 h1 _ rfl hJ1
theorem g_clearOf {r n : Nat} (hJ : JL z y st K c t j re rl br pt_ wo h) (hr : r < 1000) (hn : n ≤ 30) : Ec (d + 4) m_X9_clearOf [.ref 0, .int (nI r), .int (nI n)] h (fun v h' => v = some (.int (nI (clf (fs_ K c t j r) n 0 0))) ∧ JL z y st K c t j re rl br pt_ wo h') := by
  refine ec_in [some (.ref 0), some (.int (nI r)), some (.int (nI n)), none, none] rfl rfl ?_
  have okz : lok K z5 z5 c t j := by obtain ⟨S, G, ok, _⟩ := hJ; exact lok_rest ok
  have H : ∀ k s w h1, s + k = n → JL z y st K c t j re rl br pt_ wo h1 → Ev (d + 4) m_X9_clearOf 5 [some (.ref 0), some (.int (nI r)), some (.int (nI n)), some (.int (nI w)), some (.int (nI s))] [] h1 (fun v h' => v = some (.int (nI (clf (fs_ K c t j r) k s w))) ∧ JL z y st K c t j re rl br pt_ wo h') := by
    intro k
    induction k with
    | zero =>
      intro s w h1 hs hJ1
      iterate 3 refine ev_nx rfl ?_
      refine ev_ge (fun b8 => ?_) (fun b8 => absurd b8 (by omega))
      refine ev_nx rfl ?_
      exact ev_ri rfl rfl rfl ⟨rfl, hJ1⟩
    | succ k ih =>
      intro s w h1 hs hJ1
      rw [clf]
      have hf := fs_lt (r := r) okz (show s < 31 by omega)
      have h0 : h1[0]? = some (xo z.1.1 z.1.2.1 z.1.2.2.1 z.1.2.2.2.1 z.1.2.2.2.2.1 z.1.2.2.2.2.2 y.1 y.2.1 y.2.2.1) := by
        obtain ⟨S, G, ok, be, ge, _, _, rfl⟩ := hJ1; rfl
      iterate 3 refine ev_nx rfl ?_
      refine ev_ge (fun b8 => absurd b8 (by omega)) (fun b8 => ?_)
      iterate 4 refine ev_nx rfl ?_
      refine ev_v rfl rfl rfl rfl rfl rfl h0 rfl (f_sent hJ1 (by omega) hr) (fun rv h2 q => ?_)
      obtain ⟨rfl, hJ2⟩ := q
      show Ev _ _ _ _ (.int (nI (fs_ K c t j r s)) :: _) _ _
      iterate 2 refine ev_nx rfl ?_
      refine ev_ne (fun b21 => ?_) (fun b21 => ?_)
      · refine ev_nx rfl ?_
        refine ev_or rfl ?_
        refine ev_nx rfl ?_
        refine ev_inc rfl ⟨rfl, by decide⟩ rfl rfl ?_
        refine ev_nx rfl ?_
        first | rw [if_pos b21] | (rw [if_neg b21, Nat.or_zero])
        exact ih (s + 1) _ h2 (by omega) hJ2
      · iterate 2 refine ev_nx rfl ?_
        refine ev_sh1 rfl (by omega) ?_
        refine ev_nx rfl ?_
        refine ev_or rfl ?_
        refine ev_nx rfl ?_
        refine ev_inc rfl ⟨rfl, by decide⟩ rfl rfl ?_
        refine ev_nx rfl ?_
        first | rw [if_pos b21] | (rw [if_neg b21, Nat.or_zero])
        exact ih (s + 1) _ h2 (by omega) hJ2
  iterate 4 refine ev_nx rfl ?_
  exact H n 0 0 h (by omega) hJ
theorem g_clear {r : Nat} (hJ : Mq z y (ll K S G c t j) h) (ok : lok K S G c t j) (hr : 1 ≤ r ∧ r ≤ 3) : Ec (d + 5) m_X9_clear [.ref 0, .int (nI r)] h (fun v h' => v = some (.int (nI (clf (fs_ K c t j r) 30 0 0))) ∧ Mq z y (ll K S G c t j) h') := by
  refine ec_in [some (.ref 0), some (.int (nI r))] rfl rfl ?_
  have w1 : wi (nI r) (nI 1) (nI 3) = 1 := by rw [wi_n (by omega) (by omega) (by omega), if_pos (by omega)]
  iterate 3 refine ev_nx rfl ?_
  refine ev_si rfl rfl (by decide) rfl rfl rfl rfl (f_in _ _ _ _) ?_
  rw [w1]
  refine ev_nx rfl ?_
  refine ev_t (by decide) ?_
  refine ev_nx rfl ?_
  refine ev_v rfl rfl rfl rfl rfl rfl (Mq_0 hJ) rfl (g_asItIs hJ ok) (fun rv h1 q => ?_)
  obtain ⟨rfl, hJ1⟩ := q
  have h0 := MJ_0 hJ1
  obtain ⟨re, rl, br, pt_, wo, hl, hJ1⟩ := hJ1
  iterate 3 refine ev_nx rfl ?_
  refine ev_v rfl rfl rfl rfl rfl rfl h0 rfl (g_clearOf hJ1 (by omega) (by omega)) (fun rv h2 q => ?_)
  obtain ⟨rfl, hJ2⟩ := q
  exact ev_ri rfl rfl rfl ⟨rfl, MJ_Q ⟨re, rl, br, pt_, wo, hl, hJ2⟩⟩
theorem g_like {s : Nat} (hJ : Mq z y (ll K S G c t j) h) (ok : lok K S G c t j) (hs : s ≤ 30) : Ec (d + 4) m_X9_like [.ref 0, .int (nI s)] h (fun v h' => v = some (.int (nI (lkr (fs_ K c t j 1) (fs_ K c t j 1 s) s 0))) ∧ Mq z y (ll K S G c t j) h') := by
  refine ec_in [some (.ref 0), some (.int (nI s)), none, none] rfl rfl ?_
  have w1 : wi (nI s) (nI 0) (nI 30) = 1 := by rw [wi_n (by omega) (by omega) (by omega), if_pos (by omega)]
  have okz := lok_rest ok
  have hfs := fs_lt (r := 1) okz (show s < 31 by omega)
  have H : ∀ n k h1, k + n = s → MJ z y (ll K S G c t j) K c t j h1 → Ev (d + 4) m_X9_like 25 [some (.ref 0), some (.int (nI s)), some (.int (nI (fs_ K c t j 1 s))), some (.int (nI k))] [] h1 (fun v h' => v = some (.int (nI (lkr (fs_ K c t j 1) (fs_ K c t j 1 s) n k))) ∧ Mq z y (ll K S G c t j) h') := by
    intro n
    induction n with
    | zero =>
      intro k h1 hk hJ1
      obtain rfl : k = s := by omega
      iterate 3 refine ev_nx rfl ?_
      refine ev_v rfl rfl rfl rfl rfl rfl (MJ_0 hJ1) rfl (g_sent hJ1 (by omega) (by omega)) (fun rv h2 q => ?_)
      obtain ⟨rfl, hJ2⟩ := q
      show Ev _ _ _ _ (.int (nI (fs_ K c t j 1 k)) :: _) _ _
      iterate 2 refine ev_nx rfl ?_
      refine ev_eq (fun b32 => ?_) (fun b32 => absurd b32 (by omega))
      refine ev_nx rfl ?_
      exact ev_ri rfl rfl rfl ⟨rfl, MJ_Q hJ2⟩
    | succ n ih =>
      intro k h1 hk hJ1
      rw [lkr]
      have hf := fs_lt (r := 1) okz (show k < 31 by omega)
      iterate 3 refine ev_nx rfl ?_
      refine ev_v rfl rfl rfl rfl rfl rfl (MJ_0 hJ1) rfl (g_sent hJ1 (by omega) (by omega)) (fun rv h2 q => ?_)
      obtain ⟨rfl, hJ2⟩ := q
      show Ev _ _ _ _ (.int (nI (fs_ K c t j 1 k)) :: _) _ _
      iterate 2 refine ev_nx rfl ?_
      refine ev_eq (fun b32 => ?_) (fun b32 => ?_)
      · refine ev_nx rfl ?_
        rw [if_pos b32]
        exact ev_ri rfl rfl rfl ⟨rfl, MJ_Q hJ2⟩
      · refine ev_inc rfl ⟨rfl, by decide⟩ rfl rfl ?_
        refine ev_nx rfl ?_
        rw [if_neg b32]
        exact ih (k + 1) h2 (by omega) hJ2
  iterate 3 refine ev_nx rfl ?_
  refine ev_si rfl rfl (by decide) rfl rfl rfl rfl (f_in _ _ _ _) ?_
  rw [w1]
  refine ev_nx rfl ?_
  refine ev_t (by decide) ?_
  refine ev_nx rfl ?_
  refine ev_v rfl rfl rfl rfl rfl rfl (Mq_0 hJ) rfl (g_asItIs hJ ok) (fun rv h1 q => ?_)
  obtain ⟨rfl, hJ1⟩ := q
  iterate 3 refine ev_nx rfl ?_
  refine ev_v rfl rfl rfl rfl rfl rfl (MJ_0 hJ1) rfl (g_sent hJ1 (by omega) (by omega)) (fun rv h2 q => ?_)
  obtain ⟨rfl, hJ2⟩ := q
  show Ev _ _ _ _ (.int (nI (fs_ K c t j 1 s)) :: _) _ _
  iterate 3 refine ev_nx rfl ?_
  exact H s 0 h2 (by omega) hJ2
end XH
