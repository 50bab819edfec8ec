/-! the class: clear, like, mending, changing, duel -/
section PE
variable {h h' : aH} {V : aV} {d i : Nat} {x : aN} {K S G sg ln : List Nat} {c t j mn : Nat}
theorem XT_o (X : XT V K c t j h) : h[11]? = some (lo 11 c t j) := lnw_o X.2
theorem t_sfr {s m : Nat} (X : XT V K c t j h) (hs : s < 31) (hm : m < 1000) : Ec (d + 3) m_X3_sendFromRest [.ref 11, .int (nI s), .int (nI m)] h (fun r h' => r = some (.int (nI (fs_ K c t j m s))) ∧ XT V K c t j h') := by
  refine ec_mono (e_sfr X.2 (XH_len X.1) hs hm) ?_
  rintro r h' ⟨rfl, q1, q2⟩
  exact ⟨rfl, XT_f X.1 q2 q1⟩
theorem XT_ok (X : XT V K c t j h) : lok K z5 z5 c t j := by
  obtain ⟨S, G, _, ok⟩ := X.2
  exact lok_rest ok
theorem c_copyT (X : XH V h) : Ec d m_X3_copyFrom [.ref 11, .ref 6] h (fun r h' => r = none ∧ XT V V.2.2.1.1 V.2.2.1.2.2.2.1 V.2.2.1.2.2.2.2.1 V.2.2.1.2.2.2.2.2 h') := ec_mono (c_copy X) (fun r h' q => ⟨q.1, q.2.2.2⟩)
theorem c_clear {r : Nat} (X : XH V h) (hr : 1 ≤ r ∧ r ≤ 3) : Ec (d + 4) m_X8_clear [.ref 0, .int (nI r)] h (fun v h' => v = some (.int (nI (clf (fs_ V.2.2.1.1 V.2.2.1.2.2.2.1 V.2.2.1.2.2.2.2.1 V.2.2.1.2.2.2.2.2 r) 30 0 0))) ∧ XH V h') := by
  have w1 : wi (nI r) (nI 1) (nI 3) = 1 := by rw [wi_n (by omega) (by omega) (by omega), if_pos (by omega)]
  obtain ⟨c1, t1, j1, e11⟩ := XH_11 X
  have HC := c_copyT (d := d + 3) X
  generalize V.2.2.1.1 = K at HC ⊢
  generalize V.2.2.1.2.2.2.1 = c at HC ⊢
  generalize V.2.2.1.2.2.2.2.1 = t at HC ⊢
  generalize V.2.2.1.2.2.2.2.2 = j at HC ⊢
  refine ec_in [some (.ref 0), some (.int (nI r)), none, none] rfl rfl ?_
  have H : ∀ k s w h1, s + k = 30 → XT V K c t j h1 → Ev (d + 4) m_X8_clear 24 [some (.ref 0), some (.int (nI r)), some (.int (nI w)), some (.int (nI s))] [] h1 (fun v h' => v = some (.int (nI (clf (fs_ K c t j r) k s w))) ∧ XH V h') := by
    intro k
    induction k with
    | zero =>
      intro s w h1 hs X1
      iterate 3 refine ev_nx rfl ?_
      refine ev_gt (fun b27 => ?_) (fun b27 => absurd b27 (by omega))
      refine ev_nx rfl ?_
      exact ev_ri rfl rfl rfl ⟨rfl, X1.1⟩
    | succ k ih =>
      intro s w h1 hs X1
      rw [clf]
      have hf := fs_lt (r := r) (XT_ok X1) (show s < 31 by omega)
      iterate 3 refine ev_nx rfl ?_
      refine ev_gt (fun b27 => absurd b27 (by omega)) (fun b27 => ?_)
      refine ev_nx rfl ?_
      refine ev_gf rfl rfl X1.1.1.2 rfl ?_
      iterate 2 refine ev_nx rfl ?_
      refine ev_v rfl rfl rfl rfl rfl rfl (XT_o X1) rfl (t_sfr X1 (by omega) (by omega)) (fun rv h2 q => ?_)
      obtain ⟨rfl, X2⟩ := q
      iterate 2 refine ev_nx rfl ?_
      refine ev_ne (fun b40 => ?_) (fun b40 => ?_)
      · refine ev_inc rfl ⟨rfl, by decide⟩ rfl rfl ?_
        refine ev_nx rfl ?_
        first | (rw [if_neg b40]; exact ih (s + 1) _ h2 (by omega) X2) | (rw [if_pos b40]; exact ih (s + 1) _ h2 (by omega) X2)
      · iterate 3 refine ev_nx rfl ?_
        refine ev_sh1 rfl (by omega) ?_
        refine ev_or rfl ?_
        refine ev_nx rfl ?_
        refine ev_inc rfl ⟨rfl, by decide⟩ rfl rfl ?_
        refine ev_nx rfl ?_
        first | (rw [if_neg b40]; exact ih (s + 1) _ h2 (by omega) X2) | (rw [if_pos b40]; exact ih (s + 1) _ h2 (by omega) X2)
  refine ev_nx rfl ?_
  refine ev_si rfl rfl (by decide) rfl rfl rfl rfl (ec_le (by omega) (e_isBeats _ _)) ?_
  rw [w1]
  refine ev_nx rfl ?_
  refine ev_t (by decide) ?_
  refine ev_nx rfl ?_
  refine ev_gf rfl rfl X.1.2 rfl ?_
  refine ev_nx rfl ?_
  refine ev_gf rfl rfl X.1.2 rfl ?_
  refine ev_v rfl rfl rfl rfl rfl rfl e11 rfl HC (fun rv h2 q => ?_)
  obtain ⟨rfl, X2⟩ := q
  iterate 4 refine ev_nx rfl ?_
  exact H 30 0 0 h2 rfl X2
theorem c_like {s : Nat} (X : XH V h) (hs : s ≤ 30) : Ec (d + 4) m_X8_like [.ref 0, .int (nI s)] h (fun v h' => v = some (.int (nI (lkr (fs_ V.2.2.1.1 V.2.2.1.2.2.2.1 V.2.2.1.2.2.2.2.1 V.2.2.1.2.2.2.2.2 1) (fs_ V.2.2.1.1 V.2.2.1.2.2.2.1 V.2.2.1.2.2.2.2.1 V.2.2.1.2.2.2.2.2 1 s) s 0))) ∧ XH V h') := by
  have w1 : wi (nI s) (nI 0) (nI 30) = 1 := by rw [wi_n (by omega) (by omega) (by omega), if_pos (by omega)]
  obtain ⟨c1, t1, j1, e11⟩ := XH_11 X
  have HC := c_copyT (d := d + 3) X
  generalize V.2.2.1.1 = K at HC ⊢
  generalize V.2.2.1.2.2.2.1 = c at HC ⊢
  generalize V.2.2.1.2.2.2.2.1 = t at HC ⊢
  generalize V.2.2.1.2.2.2.2.2 = j at HC ⊢
  refine ec_in [some (.ref 0), some (.int (nI s)), none, none] rfl rfl ?_
  have H : ∀ n k h1, k + n = s → XT V K c t j h1 → Ev (d + 4) m_X8_like 35 [some (.ref 0), some (.int (nI s)), some (.int (nI (fs_ K c t j 1 s))), some (.int (nI k))] [] h1 (fun v h' => v = some (.int (nI (lkr (fs_ K c t j 1) (fs_ K c t j 1 s) n k))) ∧ XH V h') := by
    intro n
    induction n with
    | zero =>
      intro k h1 hk X1
      obtain rfl : k = s := by omega
      iterate 3 refine ev_nx rfl ?_
      refine ev_ge (fun b37 => ?_) (fun b37 => absurd b37 (by omega))
      refine ev_nx rfl ?_
      exact ev_ri rfl rfl rfl ⟨rfl, X1.1⟩
    | succ n ih =>
      intro k h1 hk X1
      rw [lkr]
      have hf := fs_lt (r := 1) (XT_ok X1) (show k < 31 by omega)
      have hf2 := fs_lt (r := 1) (XT_ok X1) (show s < 31 by omega)
      iterate 3 refine ev_nx rfl ?_
      refine ev_ge (fun b37 => absurd b37 (by omega)) (fun b37 => ?_)
      refine ev_nx rfl ?_
      refine ev_gf rfl rfl X1.1.1.2 rfl ?_
      iterate 2 refine ev_nx rfl ?_
      refine ev_v rfl rfl rfl rfl rfl rfl (XT_o X1) rfl (t_sfr X1 (by omega) (by omega)) (fun rv h2 q => ?_)
      obtain ⟨rfl, X2⟩ := q
      iterate 2 refine ev_nx rfl ?_
      refine ev_ne (fun b50 => ?_) (fun b50 => ?_)
      · refine ev_inc rfl ⟨rfl, by decide⟩ rfl rfl ?_
        refine ev_nx rfl ?_
        rw [if_neg b50]
        exact ih (k + 1) h2 (by omega) X2
      · refine ev_nx rfl ?_
        rw [if_pos b50]
        exact ev_ri rfl rfl rfl ⟨rfl, X2.1⟩
  iterate 3 refine ev_nx rfl ?_
  refine ev_si rfl rfl (by decide) rfl rfl rfl rfl (ec_le (by omega) (e_within _ _ _ _)) ?_
  rw [w1]
  refine ev_nx rfl ?_
  refine ev_t (by decide) ?_
  refine ev_nx rfl ?_
  refine ev_gf rfl rfl X.1.2 rfl ?_
  refine ev_nx rfl ?_
  refine ev_gf rfl rfl X.1.2 rfl ?_
  refine ev_v rfl rfl rfl rfl rfl rfl e11 rfl HC (fun rv h2 q => ?_)
  obtain ⟨rfl, X2⟩ := q
  refine ev_nx rfl ?_
  refine ev_gf rfl rfl X2.1.1.2 rfl ?_
  iterate 2 refine ev_nx rfl ?_
  refine ev_v rfl rfl rfl rfl rfl rfl (XT_o X2) rfl (t_sfr X2 (by omega) (by omega)) (fun rv h3 q => ?_)
  obtain ⟨rfl, X3⟩ := q
  iterate 3 refine ev_nx rfl ?_
  exact H s 0 h3 (by omega) X3
/-! mending -/
def mnW (P : Nat → Bool) (s : Nat) : Nat → Nat → Option Nat
  | 0, _ => none
  | n + 1, w => if pcn w = s ∧ P w = true then some w else mnW P s n (w + 1)
def mnC (P : Nat → Bool) : Nat → Nat → Option Nat
  | 0, _ => none
  | n + 1, s => match mnW P s 32 0 with
    | some w => some w
    | none => mnC P n (s + 1)
theorem c_arm {w m r g : Nat} (X : XH V h) (hw : w < 32) (hm : m < 6) (hr : r < 1000) (hg : g < 1000) : Ec (d + 4) m_X8_isAllRightMended [.ref 0, .int (nI w), .int (nI m), .int (nI r), .int (nI g)] h (fun v h' => v = some (.int (nI (b2n (alr V.2.2.1.1 (clr V.2.2.1.2.2.2.1 w) (clr V.2.2.1.2.2.2.2.1 w) (clr V.2.2.1.2.2.2.2.2 (mdj w)) r g (msg V.2.1.1 V.2.1.2.1 m) z55)))) ∧ XH V h') := by
  obtain ⟨c1, t1, j1, e11⟩ := XH_11 X
  have ok := X.2.2.2.1.2
  have mo := X.2.2.1.2.1
  refine ec_in [some (.ref 0), some (.int (nI w)), some (.int (nI m)), some (.int (nI r)), some (.int (nI g))] rfl rfl ?_
  refine ev_nx rfl ?_
  refine ev_gf rfl rfl X.1.2 rfl ?_
  refine ev_nx rfl ?_
  refine ev_gf rfl rfl X.1.2 rfl ?_
  refine ev_v rfl rfl rfl rfl rfl rfl e11 rfl (c_copy X) (fun rv h2 q => ?_)
  obtain ⟨rfl, hx2, -, X2⟩ := q
  refine ev_nx rfl ?_
  refine ev_gf rfl rfl X2.1.1.2 rfl ?_
  refine ev_nx rfl ?_
  refine ev_v rfl rfl rfl rfl rfl rfl (XT_o X2) rfl (l_mend hx2 ok (XH_len X2.1) hw) (fun rv h3 q => ?_)
  obtain ⟨rfl, q1, q2⟩ := q
  have X3 : XT V V.2.2.1.1 (clr V.2.2.1.2.2.2.1 w) (clr V.2.2.1.2.2.2.2.1 w) (clr V.2.2.1.2.2.2.2.2 (mdj w)) h3 := XT_f X2.1 q2 ⟨_, _, q1, lok_md ok⟩
  refine ev_nx rfl ?_
  refine ev_gf rfl rfl X3.1.1.2 rfl ?_
  refine ev_nx rfl ?_
  refine ev_gf rfl rfl X3.1.1.2 rfl ?_
  iterate 3 refine ev_nx rfl ?_
  refine ev_v rfl rfl rfl rfl rfl rfl X3.1.2.2.1.1.1 rfl (l_all X3.2 X3.1.2.2.1.1 mo (XH_len X3.1) hm hr hg) (fun rv h4 q => ?_)
  obtain ⟨rfl, q3, q4⟩ := q
  refine ev_ri rfl rfl (nr2 (by unfold b2n; split <;> omega)) ⟨rfl, (XT_f X3.1 q4 q3).1⟩
theorem c_mending {m r g : Nat} (X : XH V h) (hm : m < V.2.1.2.2) (hr : 1 ≤ r ∧ r ≤ 3) (hg : g ≤ 3) : Ec (d + 5) m_X8_mending [.ref 0, .int (nI m), .int (nI r), .int (nI g)] h (fun v h' => v = some (.int (eo (mnC (fun w => alr V.2.2.1.1 (clr V.2.2.1.2.2.2.1 w) (clr V.2.2.1.2.2.2.2.1 w) (clr V.2.2.1.2.2.2.2.2 (mdj w)) r g (msg V.2.1.1 V.2.1.2.1 m) z55) 6 0))) ∧ XH V h') := by
  have h6 := X.2.2.1.2.1.2.2.2.2
  have w1 := isy_1 (V := V) (m := m) (r := r) (g := g) hm h6 hr hg
  obtain ⟨P, hP⟩ : ∃ P : Nat → Bool, P = fun w => alr V.2.2.1.1 (clr V.2.2.1.2.2.2.1 w) (clr V.2.2.1.2.2.2.2.1 w) (clr V.2.2.1.2.2.2.2.2 (mdj w)) r g (msg V.2.1.1 V.2.1.2.1 m) z55 := ⟨_, rfl⟩
  rw [← hP]
  refine ec_in [some (.ref 0), some (.int (nI m)), some (.int (nI r)), some (.int (nI g)), none, none] rfl rfl ?_
  have W : ∀ (s : Nat) (Y : Option Nat), s ≤ 5 → (∀ h1, XH V h1 → Ev (d + 5) m_X8_mending 62 [some (.ref 0), some (.int (nI m)), some (.int (nI r)), some (.int (nI g)), some (.int (nI s)), some (.int (nI 32))] [] h1 (fun v h' => v = some (.int (eo Y)) ∧ XH V h')) → ∀ n w h1, w + n = 32 → XH V h1 → Ev (d + 5) m_X8_mending 24 [some (.ref 0), some (.int (nI m)), some (.int (nI r)), some (.int (nI g)), some (.int (nI s)), some (.int (nI w))] [] h1 (fun v h' => v = some (.int (eo (match mnW P s n w with
    | some w => some w
    | none => Y))) ∧ XH V h') := by
    intro s Y hs kk n
    induction n with
    | zero =>
      intro w h1 hw X1
      obtain rfl : w = 32 := by omega
      iterate 3 refine ev_nx rfl ?_
      refine ev_ge (fun b28 => ?_) (fun b28 => absurd b28 (by omega))
      exact kk h1 X1
    | succ n ih =>
      intro w h1 hw X1
      rw [mnW]
      have hpl := pcn_le w
      by_cases hps : pcn w = s
      · iterate 3 refine ev_nx rfl ?_
        refine ev_ge (fun b28 => absurd b28 (by omega)) (fun b28 => ?_)
        refine ev_nx rfl ?_
        refine ev_si rfl rfl (by decide) rfl rfl rfl rfl (e_bitCount (by omega)) ?_
        iterate 2 refine ev_nx rfl ?_
        refine ev_ne (fun b38 => absurd b38 (by omega)) (fun b38 => ?_)
        iterate 5 refine ev_nx rfl ?_
        refine ev_v rfl rfl rfl rfl rfl rfl X1.1.2 rfl (c_arm X1 (by omega) (by omega) (by omega) (by omega)) (fun rv h2 q => ?_)
        obtain ⟨rfl, X2⟩ := q
        skip
        have eP : P w = alr V.2.2.1.1 (clr V.2.2.1.2.2.2.1 w) (clr V.2.2.1.2.2.2.2.1 w) (clr V.2.2.1.2.2.2.2.2 (mdj w)) r g (msg V.2.1.1 V.2.1.2.1 m) z55 := by rw [hP]
        rw [← eP]
        cases hPe : P w with
        | true =>
          rw [if_pos (show pcn w = s ∧ true = true from ⟨hps, rfl⟩)]
          refine ev_nx rfl ?_
          refine ev_f (by decide) ?_
          refine ev_nx rfl ?_
          exact ev_ri rfl rfl rfl ⟨rfl, X2⟩
        | false =>
          rw [if_neg (show ¬ (pcn w = s ∧ false = true) from fun q => (by cases q.2))]
          refine ev_nx rfl ?_
          refine ev_t (by decide) ?_
          refine ev_inc rfl ⟨rfl, by decide⟩ rfl rfl ?_
          refine ev_nx rfl ?_
          exact ih (w + 1) h2 (by omega) X2
      · rw [if_neg (show ¬ (pcn w = s ∧ P w = true) from fun q => hps q.1)]
        iterate 3 refine ev_nx rfl ?_
        refine ev_ge (fun b28 => absurd b28 (by omega)) (fun b28 => ?_)
        refine ev_nx rfl ?_
        refine ev_si rfl rfl (by decide) rfl rfl rfl rfl (e_bitCount (by omega)) ?_
        iterate 2 refine ev_nx rfl ?_
        refine ev_ne (fun b38 => ?_) (fun b38 => absurd b38 (by omega))
        refine ev_inc rfl ⟨rfl, by decide⟩ rfl rfl ?_
        refine ev_nx rfl ?_
        exact ih (w + 1) h1 (by omega) X1
  have H : ∀ n s h1 l5, s + n = 6 → XH V h1 → Ev (d + 5) m_X8_mending 15 [some (.ref 0), some (.int (nI m)), some (.int (nI r)), some (.int (nI g)), some (.int (nI s)), l5] [] h1 (fun v h' => v = some (.int (eo (mnC P n s))) ∧ XH V h') := by
    intro n
    induction n with
    | zero =>
      intro s h1 l5 hs X1
      iterate 3 refine ev_nx rfl ?_
      refine ev_gt (fun b18 => ?_) (fun b18 => absurd b18 (by omega))
      refine ev_nx rfl ?_
      exact ev_ri rfl rfl rfl ⟨rfl, X1⟩
    | succ n ih =>
      intro s h1 l5 hs X1
      rw [mnC]
      iterate 3 refine ev_nx rfl ?_
      refine ev_gt (fun b18 => absurd b18 (by omega)) (fun b18 => ?_)
      iterate 2 refine ev_nx rfl ?_
      refine W s (mnC P n (s + 1)) (by omega) (fun h2 X2 => ?_) 32 0 h1 rfl X1
      refine ev_inc rfl ⟨rfl, by decide⟩ rfl rfl ?_
      refine ev_nx rfl ?_
      exact ih (s + 1) h2 _ (by omega) X2
  iterate 4 refine ev_nx rfl ?_
  refine ev_vi rfl rfl rfl rfl rfl rfl X.1.2 rfl (c_isSaying X) ?_
  rw [w1]
  refine ev_nx rfl ?_
  refine ev_t (by decide) ?_
  iterate 2 refine ev_nx rfl ?_
  exact H 6 0 h _ rfl X
/-! changing -/
theorem swp_swp {R : List Nat} {p q : Nat} (hR : R.length = 5) (hp : p < 5) (hq : q < 5) : swp (swp R p q) p q = R := by
  obtain ⟨r0, r1, r2, r3, r4, rfl⟩ := l5 hR
  rcases c5 hp with rfl | rfl | rfl | rfl | rfl <;> rcases c5 hq with rfl | rfl | rfl | rfl | rfl <;> rfl
theorem t_swap {p q : Nat} (X : XT V K c t j h) (hp : p < 5) (hq : q < 5) : Ec (d + 1) m_X3_swapNeedles [.ref 11, .int (nI p), .int (nI q)] h (fun r h' => r = none ∧ XT V (swp K p q) c t j h') := by
  obtain ⟨S, G, hx, ok⟩ := X.2
  refine ec_mono (l_swap hx ok (XH_len X.1) hp hq) ?_
  rintro r h' ⟨rfl, q1, q2⟩
  exact ⟨rfl, XT_f X.1 q2 ⟨_, _, q1, lok_sw ok hp hq⟩⟩
theorem t_right {m r g : Nat} (X : XT V K c t j h) (hm : m < 6) (hr : r < 1000) (hg : g < 1000) : Ec (d + 3) m_X4_rightOn [.ref 3, .ref 11, .int (nI m), .int (nI r), .int (nI g)] h (fun v h' => v = some (.int (nI (rgt K c t j r g (msg V.2.1.1 V.2.1.2.1 m) z55))) ∧ XT V K c t j h') := by
  refine ec_mono (l_right X.2 X.1.2.2.1.1 X.1.2.2.1.2.1 (XH_len X.1) hm hr hg) ?_
  rintro r h' ⟨rfl, q1, q2⟩
  exact ⟨rfl, XT_f X.1 q2 q1⟩
theorem c_changing {m r g w : Nat} (X : XH V h) (hm : m < V.2.1.2.2) (hr : 1 ≤ r ∧ r ≤ 3) (hg : g ≤ 3) (hw : w ≤ 1) : Ec (d + 4) m_X8_changing [.ref 0, .int (nI m), .int (nI r), .int (nI g), .int (nI w)] h (fun v h' => v = some (.int (chA w (chP (fun p q => rgt (swp V.2.2.1.1 p q) V.2.2.1.2.2.2.1 V.2.2.1.2.2.2.2.1 V.2.2.1.2.2.2.2.2 r g (msg V.2.1.1 V.2.1.2.1 m) z55) 5 0 (none, rgt V.2.2.1.1 V.2.2.1.2.2.2.1 V.2.2.1.2.2.2.2.1 V.2.2.1.2.2.2.2.2 r g (msg V.2.1.1 V.2.1.2.1 m) z55)))) ∧ XH V h') := by
  have mo := X.2.2.1.2.1
  have h6 := mo.2.2.2.2
  have h8 := mok8 mo (show m < 6 by omega)
  have hml := msg_len mo.1 (show m < 6 by omega) h8
  have w1 := isy_1 (V := V) (m := m) (r := r) (g := g) hm h6 hr hg
  have w3 : wi (nI w) (nI 0) (nI 1) = 1 := by rw [wi_n (by omega) (by omega) (by omega), if_pos (by omega)]
  obtain ⟨c1, t1, j1, e11⟩ := XH_11 X
  have HC := c_copyT (d := d + 3) X
  have hK5 : V.2.2.1.1.length = 5 := X.2.2.2.1.2.1.1
  generalize V.2.2.1.1 = K at HC hK5 ⊢
  generalize V.2.2.1.2.2.2.1 = c at HC ⊢
  generalize V.2.2.1.2.2.2.2.1 = t at HC ⊢
  generalize V.2.2.1.2.2.2.2.2 = j at HC ⊢
  obtain ⟨f, hf⟩ : ∃ f : Nat → Nat → Nat, f = fun p q => rgt (swp K p q) c t j r g (msg V.2.1.1 V.2.1.2.1 m) z55 := ⟨_, rfl⟩
  rw [← hf]
  have hfl : ∀ p q, f p q ≤ 8 := fun p q => by rw [hf]; exact Nat.le_trans (rgt_le _ _) (by omega)
  refine ec_in [some (.ref 0), some (.int (nI m)), some (.int (nI r)), some (.int (nI g)), some (.int (nI w)), none, none, none, none, none] rfl rfl ?_
  have Hq : ∀ (Q : Option Value → aH → Prop) (p : Nat) (T : Option Nat × Nat), p < 5 → (∀ h1 l9, XT V K c t j h1 → Ev (d + 4) m_X8_changing 139 [some (.ref 0), some (.int (nI m)), some (.int (nI r)), some (.int (nI g)), some (.int (nI w)), some (.int (nI T.2)), some (.int (eo T.1)), some (.int (nI p)), some (.int (nI 5)), l9] [] h1 Q) → ∀ n q s h1 l9, q + n = 5 → p < q → s.2 ≤ 8 → T = chQ f p n q s → XT V K c t j h1 → Ev (d + 4) m_X8_changing 68 [some (.ref 0), some (.int (nI m)), some (.int (nI r)), some (.int (nI g)), some (.int (nI w)), some (.int (nI s.2)), some (.int (eo s.1)), some (.int (nI p)), some (.int (nI q)), l9] [] h1 Q := by
    intro Q p T hp kk n
    induction n with
    | zero =>
      intro q s h1 l9 hq hpq hs hT X1
      obtain rfl : q = 5 := by omega
      obtain rfl : T = s := hT
      iterate 3 refine ev_nx rfl ?_
      refine ev_ge (fun b71 => ?_) (fun b71 => absurd b71 (by omega))
      exact kk h1 _ X1
    | succ n ih =>
      intro q s h1 l9 hq hpq hs hT X1
      rw [chQ] at hT
      have hfq := hfl p q
      iterate 3 refine ev_nx rfl ?_
      refine ev_ge (fun b71 => absurd b71 (by omega)) (fun b71 => ?_)
      refine ev_nx rfl ?_
      refine ev_gf rfl rfl X1.1.1.2 rfl ?_
      iterate 2 refine ev_nx rfl ?_
      refine ev_v rfl rfl rfl rfl rfl rfl (XT_o X1) rfl (t_swap X1 hp (by omega)) (fun rv h2 qq => ?_)
      obtain ⟨rfl, X2⟩ := qq
      refine ev_nx rfl ?_
      refine ev_gf rfl rfl X2.1.1.2 rfl ?_
      refine ev_nx rfl ?_
      refine ev_gf rfl rfl X2.1.1.2 rfl ?_
      iterate 3 refine ev_nx rfl ?_
      refine ev_v rfl rfl rfl rfl rfl rfl X2.1.2.2.1.1.1 rfl (t_right X2 (by omega) (by omega) (by omega)) (fun rv h3 qq => ?_)
      obtain ⟨rfl, X3⟩ := qq
      have ef : rgt (swp K p q) c t j r g (msg V.2.1.1 V.2.1.2.1 m) z55 = f p q := by rw [hf]
      rw [ef]
      iterate 2 refine ev_nx rfl ?_
      refine ev_gf rfl rfl X3.1.1.2 rfl ?_
      iterate 2 refine ev_nx rfl ?_
      refine ev_v rfl rfl rfl rfl rfl rfl (XT_o X3) rfl (t_swap X3 hp (show q < 5 by omega)) (fun rv h4 qq => ?_)
      obtain ⟨rfl, X4⟩ := qq
      rw [swp_swp hK5 hp (show q < 5 by omega)] at X4
      iterate 3 refine ev_nx rfl ?_
      refine ev_leq (fun b116 => ?_) (fun b116 => ?_)
      · refine ev_inc rfl ⟨rfl, by decide⟩ rfl rfl ?_
        refine ev_nx rfl ?_
        first | exact ih (q + 1) s h4 _ (by omega) (by omega) hs (by rw [hT, if_neg (by omega)]) X4 | exact ih (q + 1) (some (10 * p + q), f p q) h4 _ (by omega) (by omega) hfq (by rw [hT, if_pos b116]) X4
      · iterate 4 refine ev_nx rfl ?_
        refine ev_mul rfl ?_
        refine ev_nx rfl ?_
        refine ev_add rfl ?_
        refine ev_nx rfl ?_
        refine ev_inc rfl ⟨rfl, by decide⟩ rfl rfl ?_
        refine ev_nx rfl ?_
        first | exact ih (q + 1) s h4 _ (by omega) (by omega) hs (by rw [hT, if_neg (by omega)]) X4 | exact ih (q + 1) (some (10 * p + q), f p q) h4 _ (by omega) (by omega) hfq (by rw [hT, if_pos b116]) X4
  have chl : ∀ p n q s, s.2 ≤ 8 → (chQ f p n q s).2 ≤ 8 := by
    intro p n
    induction n with
    | zero => intro q s hs; exact hs
    | succ n ih =>
      intro q s hs
      rw [chQ]
      refine ih _ _ ?_
      split
      · exact hfl p q
      · exact hs
  have chb : ∀ p n q s, p < 5 → q + n = 5 → (∀ b, s.1 = some b → b < 100) → ∀ b, (chQ f p n q s).1 = some b → b < 100 := by
    intro p n
    induction n with
    | zero => intro q s _ _ hs; exact hs
    | succ n ih =>
      intro q s hp hq hs
      rw [chQ]
      refine ih _ _ hp (by omega) ?_
      split
      · intro b e
        cases e
        omega
      · exact hs
  have H : ∀ n p s h1 l8 l9, p + n = 5 → s.2 ≤ 8 → (∀ b, s.1 = some b → b < 100) → XT V K c t j h1 → Ev (d + 4) m_X8_changing 56 [some (.ref 0), some (.int (nI m)), some (.int (nI r)), some (.int (nI g)), some (.int (nI w)), some (.int (nI s.2)), some (.int (eo s.1)), some (.int (nI p)), l8, l9] [] h1 (fun v h' => v = some (.int (chA w (chP f n p s))) ∧ XH V h') := by
    intro n
    induction n with
    | zero =>
      intro p s h1 l8 l9 hp hs hb X1
      obtain ⟨b, v⟩ := s
      rw [chP]
      cases b with
      | none =>
        iterate 3 refine ev_nx rfl ?_
        refine ev_ge (fun b59 => ?_) (fun b59 => absurd b59 (by omega))
        iterate 2 refine ev_nx rfl ?_
        refine ev_eq0 (fun b147 => ?_) (fun b147 => ?_)
        · iterate 2 refine ev_nx rfl ?_
          exact ev_ri rfl rfl rfl ⟨rfl, X1.1⟩
        · iterate 2 refine ev_nx rfl ?_
          refine ev_nx rfl ?_
          refine ev_f (by show am_c2 .ne (-(nI 4)) (-(nI 4)) = false; decide) ?_
          iterate 2 refine ev_nx rfl ?_
          exact ev_ri rfl rfl rfl ⟨rfl, X1.1⟩
      | some b =>
        have hb1 := hb b rfl
        iterate 3 refine ev_nx rfl ?_
        refine ev_ge (fun b59 => ?_) (fun b59 => absurd b59 (by omega))
        iterate 2 refine ev_nx rfl ?_
        refine ev_eq0 (fun b147 => ?_) (fun b147 => ?_)
        · iterate 2 refine ev_nx rfl ?_
          exact ev_ri rfl rfl rfl ⟨by show _ = some (Value.int (if w = 0 then nI b else nI v)); rw [if_pos b147]; rfl, X1.1⟩
        · iterate 2 refine ev_nx rfl ?_
          refine ev_nx rfl ?_
          refine ev_if (fun _ => ?_) (fun q => absurd (show nI b = -(nI 4) by simpa [am_c2, eo] using q) (eo_c (by omega)))
          refine ev_nx rfl ?_
          exact ev_ri rfl rfl rfl ⟨by show _ = some (Value.int (if w = 0 then nI b else nI v)); rw [if_neg b147], X1.1⟩
    | succ n ih =>
      intro p s h1 l8 l9 hp hs hb X1
      rw [chP]
      iterate 3 refine ev_nx rfl ?_
      refine ev_ge (fun b59 => absurd b59 (by omega)) (fun b59 => ?_)
      iterate 2 refine ev_nx rfl ?_
      refine ev_add rfl ?_
      refine ev_nx rfl ?_
      refine Hq _ p (chQ f p (4 - p) (p + 1) s) (by omega) (fun h2 l9 X2 => ?_) (4 - p) (p + 1) s h1 _ (by omega) (by omega) hs rfl X1
      refine ev_inc rfl ⟨rfl, by decide⟩ rfl rfl ?_
      refine ev_nx rfl ?_
      exact ih (p + 1) _ h2 _ _ (by omega) (chl p _ _ s hs) (chb p _ _ s (by omega) (by omega) hb) X2
  have hle := rgt_le (K := K) (c := c) (t := t) (j := j) (r := r) (g := g) (msg V.2.1.1 V.2.1.2.1 m) z55
  iterate 4 refine ev_nx rfl ?_
  refine ev_vi rfl rfl rfl rfl rfl rfl X.1.2 rfl (c_isSaying X) ?_
  rw [w1]
  refine ev_nx rfl ?_
  refine ev_f (by decide) ?_
  iterate 3 refine ev_nx rfl ?_
  refine ev_si rfl rfl (by decide) rfl rfl rfl rfl (ec_le (by omega) (e_within _ _ _ _)) ?_
  rw [w3]
  refine ev_nx rfl ?_
  refine ev_t (by decide) ?_
  refine ev_nx rfl ?_
  refine ev_gf rfl rfl X.1.2 rfl ?_
  refine ev_nx rfl ?_
  refine ev_gf rfl rfl X.1.2 rfl ?_
  refine ev_v rfl rfl rfl rfl rfl rfl e11 rfl HC (fun rv h2 q => ?_)
  obtain ⟨rfl, X2⟩ := q
  refine ev_nx rfl ?_
  refine ev_gf rfl rfl X2.1.1.2 rfl ?_
  refine ev_nx rfl ?_
  refine ev_gf rfl rfl X2.1.1.2 rfl ?_
  iterate 3 refine ev_nx rfl ?_
  refine ev_v rfl rfl rfl rfl rfl rfl X2.1.2.2.1.1.1 rfl (t_right X2 (by omega) (by omega) (by omega)) (fun rv h3 qq => ?_)
  obtain ⟨rfl, X3⟩ := qq
  iterate 5 refine ev_nx rfl ?_
  exact H 5 0 (none, rgt K c t j r g (msg V.2.1.1 V.2.1.2.1 m) z55) h3 _ _ rfl (by show rgt K c t j r g (msg V.2.1.1 V.2.1.2.1 m) z55 ≤ 8; omega) (fun b e => (by cases e)) X3
end PE
