/-! the class: what would be read -/
section PD
variable {h h' : aH} {V : aV} {d i : Nat} {x : aN} {K S G sg ln : List Nat} {c t j mn : Nat}
theorem l_right (hx : lnw h 11 K c t j) (hm : mat h sg ln mn) (mo : mok sg ln mn) (hh : h.length ≤ 100000) {x r g : Nat} (hx6 : x < 6) (hr : r < 1000) (hg : g < 1000) : Ec (d + 3) m_X4_rightOn [.ref 3, .ref 11, .int (nI x), .int (nI r), .int (nI g)] h (fun v h' => v = some (.int (nI (rgt K c t j r g (msg sg ln x) z55))) ∧ lnw h' 11 K c t j ∧ fr 11 15 h h') := by
  obtain ⟨S, G, ⟨C, hC, a⟩, ok⟩ := hx
  have hl := lat_lt a
  have H := e_rightOn (d := d) (h := h) (i := 11) (C := C) ⟨hl, hh⟩ (by decide) hm mo.1 mo.2.2.1 mo.2.1 hx6 (mok8 mo hx6) hr hg ok hC
  rw [lat_self a] at H
  refine ec_mono H (fun r h' q => ?_)
  obtain ⟨rfl, S2, G2, C2, rfl, ok2, hC2⟩ := q
  exact ⟨rfl, ⟨S2, G2, ⟨C2, hC2, lat_of hl⟩, ok2⟩, lh_len, fun q hq => lh_o (by omega)⟩
theorem l_all (hx : lnw h 11 K c t j) (hm : mat h sg ln mn) (mo : mok sg ln mn) (hh : h.length ≤ 100000) {x r g : Nat} (hx6 : x < 6) (hr : r < 1000) (hg : g < 1000) : Ec (d + 3) m_X4_isAllRightOn [.ref 3, .ref 11, .int (nI x), .int (nI r), .int (nI g)] h (fun v h' => v = some (.int (nI (b2n (alr K c t j r g (msg sg ln x) z55)))) ∧ lnw h' 11 K c t j ∧ fr 11 15 h h') := by
  obtain ⟨S, G, ⟨C, hC, a⟩, ok⟩ := hx
  have hl := lat_lt a
  have H := e_isAllRightOn (d := d) (h := h) (i := 11) (C := C) ⟨hl, hh⟩ (by decide) hm mo.1 mo.2.2.1 mo.2.1 hx6 (mok8 mo hx6) hr hg ok hC
  rw [lat_self a] at H
  refine ec_mono H (fun r h' q => ?_)
  obtain ⟨rfl, S2, G2, C2, rfl, ok2, hC2⟩ := q
  exact ⟨rfl, ⟨S2, G2, ⟨C2, hC2, lat_of hl⟩, ok2⟩, lh_len, fun q hq => lh_o (by omega)⟩
theorem l_rdk (hx : lnw h 11 K c t j) (hm : mat h sg ln mn) (mo : mok sg ln mn) (hh : h.length ≤ 100000) {x r g k : Nat} (hx6 : x < 6) (hk : k < ln.getD x 0) (hr : r < 1000) (hg : g < 1000) : Ec (d + 3) m_X4_readOn [.ref 3, .ref 11, .int (nI x), .int (nI r), .int (nI g), .int (nI k)] h (fun v h' => v = some (.int (nI (rdk K c t j r g (msg sg ln x) k z55))) ∧ lnw h' 11 K c t j ∧ fr 11 15 h h') := by
  obtain ⟨S, G, ⟨C, hC, a⟩, ok⟩ := hx
  have hl := lat_lt a
  have H := e_readOn (d := d) (h := h) (i := 11) (C := C) ⟨hl, hh⟩ (by decide) hm mo.1 mo.2.2.1 mo.2.1 hx6 (mok8 mo hx6) hk hr hg ok hC
  rw [lat_self a] at H
  refine ec_mono H (fun r h' q => ?_)
  obtain ⟨rfl, S2, G2, C2, rfl, ok2, hC2⟩ := q
  exact ⟨rfl, ⟨S2, G2, ⟨C2, hC2, lat_of hl⟩, ok2⟩, lh_len, fun q hq => lh_o (by omega)⟩
/-- the class's heap, with such a trial line -/
def XT (V : aV) (K : List Nat) (c t j : Nat) (h : aH) : Prop := XH V h ∧ lnw h 11 K c t j
theorem XT_f (X : XH V h) (f : fr 11 15 h h') (x : lnw h' 11 K c t j) : XT V K c t j h' := ⟨XH_4 X f ⟨K, c, t, j, x⟩, x⟩
theorem c_copy (X : XH V h) : Ec d m_X3_copyFrom [.ref 11, .ref 6] h (fun r h' => r = none ∧ ltx h' 11 V.2.2.1 ∧ fr 11 15 h h' ∧ XT V V.2.2.1.1 V.2.2.1.2.2.2.1 V.2.2.1.2.2.2.2.1 V.2.2.1.2.2.2.2.2 h') := by
  obtain ⟨K, c, t, j, S, G, hl, ok⟩ := X.2.2.2.2.1
  refine ec_mono (e_copy hl X.2.2.2.1.1 (nokN ok) (nokN X.2.2.2.1.2) (by decide) (XH_len X)) ?_
  rintro r h' ⟨rfl, q1, q2⟩
  exact ⟨rfl, q1, q2, XT_f X q2 ⟨_, _, q1, X.2.2.2.1.2⟩⟩
theorem XH_11 (X : XH V h) : ∃ c t j, h[11]? = some (lo 11 c t j) := by
  obtain ⟨K, c, t, j, hx⟩ := X.2.2.2.2.1
  exact ⟨c, t, j, lnw_o hx⟩
theorem c_isMessage {y : Int32} (X : XH V h) : Ec (d + 1) m_X8_isMessage [.ref 0, .int y] h (rt (.int (nI (wi y (nI 0) (nI (V.2.1.2.2 - 1))))) h) := by
  have hp := X.2.2.1.2.2
  refine ec_in [some (.ref 0), some (.int y)] rfl rfl ?_
  iterate 3 refine ev_nx rfl ?_
  refine ev_gf rfl rfl X.1.2 rfl ?_
  refine ev_gf rfl rfl X.2.2.1.1.1 rfl ?_
  refine ev_nx rfl ?_
  refine ev_sub rfl (by omega) ?_
  refine ev_si rfl rfl (by decide) rfl rfl rfl rfl (ec_le (by omega) (e_within _ _ _ _)) ?_
  exact ev_ri rfl rfl wi_nr ⟨rfl, rfl⟩
def isy (V : aV) (m r g : Int32) : Nat := if wi m (nI 0) (nI (V.2.1.2.2 - 1)) = 1 ∧ wi r (nI 1) (nI 3) = 1 ∧ wi g (nI 0) (nI 3) = 1 then 1 else 0
theorem c_isSaying {m r g : Int32} (X : XH V h) : Ec (d + 2) m_X8_isSaying [.ref 0, .int m, .int r, .int g] h (rt (.int (nI (isy V m r g))) h) := by
  have h1 := wi_lt m (nI 0) (nI (V.2.1.2.2 - 1))
  have h2 := wi_lt r (nI 1) (nI 3)
  have h3 := wi_lt g (nI 0) (nI 3)
  refine ec_in [some (.ref 0), some (.int m), some (.int r), some (.int g)] rfl rfl ?_
  iterate 2 refine ev_nx rfl ?_
  refine ev_vi rfl rfl rfl rfl rfl rfl X.1.2 rfl (c_isMessage X) ?_
  refine ev_nx rfl ?_
  refine ev_eq0 (fun b5 => ?_) (fun b5 => ?_)
  · refine ev_nx rfl ?_
    exact ev_ri rfl rfl rfl ⟨vI (by unfold isy; split <;> omega), rfl⟩
  · refine ev_nx rfl ?_
    refine ev_si rfl rfl (by decide) rfl rfl rfl rfl (ec_le (by omega) (e_isBeats _ _)) ?_
    refine ev_nx rfl ?_
    refine ev_eq0 (fun b12 => ?_) (fun b12 => ?_)
    · refine ev_nx rfl ?_
      exact ev_ri rfl rfl rfl ⟨vI (by unfold isy; split <;> omega), rfl⟩
    · iterate 3 refine ev_nx rfl ?_
      refine ev_si rfl rfl (by decide) rfl rfl rfl rfl (ec_le (by omega) (e_within _ _ _ _)) ?_
      refine ev_nx rfl ?_
      refine ev_eq0 (fun b21 => ?_) (fun b21 => ?_)
      · refine ev_nx rfl ?_
        exact ev_ri rfl rfl rfl ⟨vI (by unfold isy; split <;> omega), rfl⟩
      · iterate 2 refine ev_nx rfl ?_
        exact ev_ri rfl rfl rfl ⟨vI (by unfold isy; split <;> omega), rfl⟩
theorem isy_1 {m r g : Nat} (hm : m < V.2.1.2.2) (h6 : V.2.1.2.2 ≤ 6) (hr : 1 ≤ r ∧ r ≤ 3) (hg : g ≤ 3) : isy V (nI m) (nI r) (nI g) = 1 := by
  have a1 : wi (nI m) (nI 0) (nI (V.2.1.2.2 - 1)) = 1 := by rw [wi_n (by omega) (by omega) (by omega), if_pos (by omega)]
  have a2 : wi (nI r) (nI 1) (nI 3) = 1 := by rw [wi_n (by omega) (by omega) (by omega), if_pos (by omega)]
  have a3 : wi (nI g) (nI 0) (nI 3) = 1 := by rw [wi_n (by omega) (by omega) (by omega), if_pos (by omega)]
  rw [isy, if_pos ⟨a1, a2, a3⟩]
theorem c_spelt {m : Nat} {k : Option Nat} (X : XH V h) (hm : m < V.2.1.2.2) (hk : ∀ q, k = some q → q ≤ 7) : Ec (d + 2) m_X8_spelt [.ref 0, .int (nI m), .int (oI k)] h (rt (.int (spA (msg V.2.1.1 V.2.1.2.1 m) k)) h) := by
  have mo := X.2.2.1.2.1
  have h6 := mo.2.2.2.2
  have h8 := mok8 mo (show m < 6 by omega)
  have hml := msg_len mo.1 (show m < 6 by omega) h8
  have w1 : wi (nI m) (nI 0) (nI (V.2.1.2.2 - 1)) = 1 := by rw [wi_n (by omega) (by omega) (by omega), if_pos (by omega)]
  have w3 := wi_oI (n := 7) (by omega) hk
  refine ec_in [some (.ref 0), some (.int (nI m)), some (.int (oI k))] rfl rfl ?_
  iterate 2 refine ev_nx rfl ?_
  refine ev_vi rfl rfl rfl rfl rfl rfl X.1.2 rfl (c_isMessage X) ?_
  rw [w1]
  refine ev_nx rfl ?_
  refine ev_f (by decide) ?_
  iterate 3 refine ev_nx rfl ?_
  refine ev_si rfl rfl (by decide) rfl rfl rfl rfl (ec_le (by omega) (e_within _ _ _ _)) ?_
  rw [w3]
  refine ev_nx rfl ?_
  refine ev_t (by decide) ?_
  iterate 2 refine ev_nx rfl ?_
  skip
  cases k with
  | none =>
    refine ev_nx rfl ?_
    refine ev_f (by decide) ?_
    refine ev_nx rfl ?_
    refine ev_gf rfl rfl X.1.2 rfl ?_
    refine ev_nx rfl ?_
    refine ev_vi rfl rfl rfl rfl rfl rfl X.2.2.1.1.1 rfl (e_lengthOf X.2.2.1.1 mo.2.2.1 (by omega)) ?_
    exact ev_ri rfl rfl rfl ⟨by rw [spA, hml], rfl⟩
  | some k =>
    have hk7 := hk k rfl
    refine ev_nx rfl ?_
    refine ev_if (fun _ => ?_) (fun q => absurd (show nI k = -(nI 1) by simpa [am_c2, oI] using q) (fun e => by have := lt_m1 (n := k) (by omega); rw [e] at this; exact absurd (Int32.lt_iff_toInt_lt.mp this) (Int.lt_irrefl _)))
    refine ev_nx rfl ?_
    show Ev _ _ _ _ (.int (nI k) :: _) _ _
    refine ev_nx rfl ?_
    refine ev_gf rfl rfl X.1.2 rfl ?_
    refine ev_nx rfl ?_
    refine ev_vi rfl rfl rfl rfl rfl rfl X.2.2.1.1.1 rfl (e_lengthOf X.2.2.1.1 mo.2.2.1 (by omega)) ?_
    refine ev_nx rfl ?_
    refine ev_ge (fun b43 => ?_) (fun b43 => ?_)
    · refine ev_nx rfl ?_
      first | exact ev_ri rfl rfl rfl ⟨by rw [spA, if_pos (by omega), msg_at (by omega)], rfl⟩ | exact ev_ri rfl rfl rfl ⟨by rw [spA, if_neg (by omega)], rfl⟩
    · refine ev_nx rfl ?_
      refine ev_gf rfl rfl X.1.2 rfl ?_
      refine ev_nx rfl ?_
      refine ev_nx rfl ?_
      show Ev _ _ _ _ (.int (nI k) :: _) _ _
      refine ev_vi rfl rfl rfl rfl rfl rfl X.2.2.1.1.1 rfl (e_signOf X.2.2.1.1 mo.1 (by omega) (by omega)) ?_
      refine ev_nx rfl ?_
      first | exact ev_ri rfl rfl rfl ⟨by rw [spA, if_pos (by omega), msg_at (by omega)], rfl⟩ | exact ev_ri rfl rfl rfl ⟨by rw [spA, if_neg (by omega)], rfl⟩
theorem oI_ne {k : Nat} (hk : k < 1000) : ¬ nI k = -(nI 1) := fun e => by
  have := lt_m1 (n := k) (by omega)
  rw [e] at this
  exact absurd (Int32.lt_iff_toInt_lt.mp this) (Int.lt_irrefl _)
theorem c_said {m r g : Nat} {k : Option Nat} (X : XH V h) (hm : m < V.2.1.2.2) (hr : 1 ≤ r ∧ r ≤ 3) (hg : g ≤ 3) (hk : ∀ q, k = some q → q ≤ 7) : Ec (d + 4) m_X8_said [.ref 0, .int (nI m), .int (nI r), .int (nI g), .int (oI k)] h (fun v h' => v = some (.int (sdA V.2.2.1.1 V.2.2.1.2.2.2.1 V.2.2.1.2.2.2.2.1 V.2.2.1.2.2.2.2.2 r g (msg V.2.1.1 V.2.1.2.1 m) k)) ∧ XH V h') := by
  have mo := X.2.2.1.2.1
  have h6 := mo.2.2.2.2
  have h8 := mok8 mo (show m < 6 by omega)
  have hml := msg_len mo.1 (show m < 6 by omega) h8
  have w1 := isy_1 (V := V) (m := m) (r := r) (g := g) hm h6 hr hg
  have w3 := wi_oI (n := 7) (by omega) hk
  obtain ⟨c1, t1, j1, e11⟩ := XH_11 X
  refine ec_in [some (.ref 0), some (.int (nI m)), some (.int (nI r)), some (.int (nI g)), some (.int (oI k))] rfl rfl ?_
  iterate 4 refine ev_nx rfl ?_
  refine ev_vi rfl rfl rfl rfl rfl rfl X.1.2 rfl (c_isSaying X) ?_
  rw [w1]
  refine ev_nx rfl ?_
  refine ev_f (by decide) ?_
  iterate 3 refine ev_nx rfl ?_
  refine ev_si rfl rfl (by decide) rfl rfl rfl rfl (ec_le (by omega) (e_within _ _ _ _)) ?_
  rw [w3]
  refine ev_nx rfl ?_
  refine ev_t (by decide) ?_
  iterate 2 refine ev_nx rfl ?_
  refine ev_gf rfl rfl X.1.2 rfl ?_
  refine ev_nx rfl ?_
  refine ev_vi rfl rfl rfl rfl rfl rfl X.2.2.1.1.1 rfl (e_lengthOf X.2.2.1.1 mo.2.2.1 (by omega)) ?_
  skip
  have go : (∀ q, k = some q → q < V.2.1.2.1.getD m 0) → Ev (d + 4) m_X8_said 39 [some (.ref 0), some (.int (nI m)), some (.int (nI r)), some (.int (nI g)), some (.int (oI k))] [] h (fun v h' => v = some (.int (sdA V.2.2.1.1 V.2.2.1.2.2.2.1 V.2.2.1.2.2.2.2.1 V.2.2.1.2.2.2.2.2 r g (msg V.2.1.1 V.2.1.2.1 m) k)) ∧ XH V h') := by
    intro hkl
    refine ev_nx rfl ?_
    refine ev_gf rfl rfl X.1.2 rfl ?_
    refine ev_nx rfl ?_
    refine ev_gf rfl rfl X.1.2 rfl ?_
    refine ev_v rfl rfl rfl rfl rfl rfl e11 rfl (c_copy X) (fun rv h2 q => ?_)
    obtain ⟨rfl, -, -, X2⟩ := q
    iterate 2 refine ev_nx rfl ?_
    skip
    cases k with
    | none =>
      refine ev_nx rfl ?_
      refine ev_f (by decide) ?_
      refine ev_nx rfl ?_
      refine ev_gf rfl rfl X2.1.1.2 rfl ?_
      refine ev_nx rfl ?_
      refine ev_gf rfl rfl X2.1.1.2 rfl ?_
      iterate 3 refine ev_nx rfl ?_
      refine ev_v rfl rfl rfl rfl rfl rfl X2.1.2.2.1.1.1 rfl (l_right X2.2 X2.1.2.2.1.1 mo (XH_len X2.1) (by omega) (by omega) (by omega)) (fun rv h3 q => ?_)
      obtain ⟨rfl, q1, q2⟩ := q
      refine ev_nx rfl ?_
      exact ev_ri rfl rfl rfl ⟨rfl, (XT_f X2.1 q2 q1).1⟩
    | some k =>
      have hk7 := hk k rfl
      refine ev_nx rfl ?_
      refine ev_if (fun _ => ?_) (fun q => absurd (show nI k = -(nI 1) by simpa [am_c2, oI] using q) (oI_ne (by omega)))
      refine ev_nx rfl ?_
      refine ev_gf rfl rfl X2.1.1.2 rfl ?_
      refine ev_nx rfl ?_
      refine ev_gf rfl rfl X2.1.1.2 rfl ?_
      iterate 3 refine ev_nx rfl ?_
      refine ev_nx rfl ?_
      show Ev _ _ _ _ (.int (nI k) :: _) _ _
      refine ev_v rfl rfl rfl rfl rfl rfl X2.1.2.2.1.1.1 rfl (l_rdk X2.2 X2.1.2.2.1.1 mo (XH_len X2.1) (by omega) (hkl k rfl) (by omega) (by omega)) (fun rv h3 q => ?_)
      obtain ⟨rfl, q1, q2⟩ := q
      exact ev_ri rfl rfl rfl ⟨by rw [sdA, if_pos (by have := hkl k rfl; omega)], (XT_f X2.1 q2 q1).1⟩
  cases k with
  | none =>
    refine ev_nx rfl ?_
    refine ev_t ?_ (go (fun q e => (by cases e)))
    show decide (-(nI 1) < nI _) = true
    rw [decide_eq_true_eq]
    exact lt_m1 (by omega)
  | some k =>
    have hk7 := hk k rfl
    refine ev_nx rfl ?_
    refine ev_lt (a := k) (fun b33 => go (fun q e => (by cases e; exact b33))) (fun b33 => ?_)
    refine ev_nx rfl ?_
    exact ev_ri rfl rfl rfl ⟨by rw [sdA, if_neg (by omega)], X⟩
theorem c_pace {m w : Nat} (X : XH V h) (hm : m < V.2.1.2.2) (hw : w ≤ 1) : Ec (d + 4) m_X8_pace [.ref 0, .int (nI m), .int (nI w)] h (fun v h' => v = some (.int (pcA w (pcS (fun r g => alr V.2.2.1.1 V.2.2.1.2.2.2.1 V.2.2.1.2.2.2.2.1 V.2.2.1.2.2.2.2.2 r g (msg V.2.1.1 V.2.1.2.1 m) z55) 6 1))) ∧ XH V h') := by
  have mo := X.2.2.1.2.1
  have h6 := mo.2.2.2.2
  have w1 : wi (nI m) (nI 0) (nI (V.2.1.2.2 - 1)) = 1 := by rw [wi_n (by omega) (by omega) (by omega), if_pos (by omega)]
  have w2 : wi (nI w) (nI 0) (nI 1) = 1 := by rw [wi_n (by omega) (by omega) (by omega), if_pos (by omega)]
  obtain ⟨c1, t1, j1, e11⟩ := XH_11 X
  rcases hxE : V.2.2.1 with ⟨K, S, G, c, t, j⟩
  obtain ⟨P, hP⟩ : ∃ P : Nat → Nat → Bool, P = fun r g => alr K c t j r g (msg V.2.1.1 V.2.1.2.1 m) z55 := ⟨_, rfl⟩
  show Ec (d + 4) m_X8_pace _ h (fun v h' => v = some (.int (pcA w (pcS (fun r g => alr K c t j r g (msg V.2.1.1 V.2.1.2.1 m) z55) 6 1))) ∧ XH V h')
  rw [← hP]
  refine ec_in [some (.ref 0), some (.int (nI m)), some (.int (nI w)), none, none, none] rfl rfl ?_
  have R : ∀ (s : Nat) (Y : Option (Nat × Nat)), s ≤ 6 → (∀ h1 l5, XT V K c t j h1 → Ev (d + 4) m_X8_pace 100 [some (.ref 0), some (.int (nI m)), some (.int (nI w)), some (.int (nI s)), some (.int (nI 4)), l5] [] h1 (fun v h' => v = some (.int (pcA w Y)) ∧ XH V h')) → ∀ n r h1 l5, r + n = 4 → 1 ≤ r → XT V K c t j h1 → Ev (d + 4) m_X8_pace 41 [some (.ref 0), some (.int (nI m)), some (.int (nI w)), some (.int (nI s)), some (.int (nI r)), l5] [] h1 (fun v h' => v = some (.int (pcA w (match pcR P s n r with
    | some x => some x
    | none => Y))) ∧ XH V h') := by
    intro s Y hs kk n
    induction n with
    | zero =>
      intro r h1 l5 hr h1r X1
      obtain rfl : r = 4 := by omega
      iterate 3 refine ev_nx rfl ?_
      refine ev_gt (fun b44 => ?_) (fun b44 => absurd b44 (by omega))
      exact kk h1 _ X1
    | succ n ih =>
      intro r h1 l5 hr h1r X1
      rw [pcR]
      by_cases hrs : r ≤ s
      · have e1 : wi (nI (s - r)) (nI 0) (nI 3) = if s - r ≤ 3 then 1 else 0 := by
          rw [wi_n (by omega) (by omega) (by omega)]; (repeat' split) <;> omega
        by_cases hg3 : s - r ≤ 3
        · rw [if_pos hg3] at e1
          iterate 3 refine ev_nx rfl ?_
          refine ev_gt (fun b44 => absurd b44 (by omega)) (fun b44 => ?_)
          iterate 2 refine ev_nx rfl ?_
          refine ev_sub rfl (by omega) ?_
          iterate 4 refine ev_nx rfl ?_
          refine ev_si rfl rfl (by decide) rfl rfl rfl rfl (ec_le (by omega) (e_within _ _ _ _)) ?_
          rw [e1]
          refine ev_nx rfl ?_
          refine ev_f (by decide) ?_
          refine ev_nx rfl ?_
          refine ev_gf rfl rfl X1.1.1.2 rfl ?_
          refine ev_nx rfl ?_
          refine ev_gf rfl rfl X1.1.1.2 rfl ?_
          iterate 3 refine ev_nx rfl ?_
          refine ev_v rfl rfl rfl rfl rfl rfl X1.1.2.2.1.1.1 rfl (l_all X1.2 X1.1.2.2.1.1 mo (XH_len X1.1) (by omega) (by omega) (by omega)) (fun rv h2 q => ?_)
          obtain ⟨rfl, q1, q2⟩ := q
          have X2 := XT_f X1.1 q2 q1
          skip
          have eP : P r (s - r) = alr K c t j r (s - r) (msg V.2.1.1 V.2.1.2.1 m) z55 := by rw [hP]
          rw [← eP]
          cases hPe : P r (s - r) with
          | true =>
            rw [if_pos (show (r ≤ s ∧ s - r ≤ 3) ∧ true = true from ⟨⟨hrs, hg3⟩, rfl⟩)]
            refine ev_nx rfl ?_
            refine ev_f (by decide) ?_
            iterate 2 refine ev_nx rfl ?_
            refine ev_ne0 (fun b83 => ?_) (fun b83 => ?_)
            · refine ev_nx rfl ?_
              exact ev_ri rfl rfl rfl ⟨by show _ = some (Value.int (if w = 0 then nI r else nI (s - r))); first | rw [if_pos b83] | rw [if_neg b83], X2.1⟩
            · iterate 2 refine ev_nx rfl ?_
              exact ev_ri rfl rfl rfl ⟨by show _ = some (Value.int (if w = 0 then nI r else nI (s - r))); first | rw [if_pos b83] | rw [if_neg b83], X2.1⟩
          | false =>
            rw [if_neg (show ¬ ((r ≤ s ∧ s - r ≤ 3) ∧ false = true) from fun q => (by cases q.2))]
            refine ev_nx rfl ?_
            refine ev_t (by decide) ?_
            refine ev_inc rfl ⟨rfl, by decide⟩ rfl rfl ?_
            refine ev_nx rfl ?_
            exact ih (r + 1) h2 _ (by omega) (by omega) X2
        · rw [if_neg hg3] at e1
          rw [if_neg (by omega)]
          iterate 3 refine ev_nx rfl ?_
          refine ev_gt (fun b44 => absurd b44 (by omega)) (fun b44 => ?_)
          iterate 2 refine ev_nx rfl ?_
          refine ev_sub rfl (by omega) ?_
          iterate 4 refine ev_nx rfl ?_
          refine ev_si rfl rfl (by decide) rfl rfl rfl rfl (ec_le (by omega) (e_within _ _ _ _)) ?_
          rw [e1]
          refine ev_nx rfl ?_
          refine ev_t (by decide) ?_
          refine ev_inc rfl ⟨rfl, by decide⟩ rfl rfl ?_
          refine ev_nx rfl ?_
          exact ih (r + 1) h1 _ (by omega) (by omega) X1
      · rw [if_neg (by omega)]
        have e1 : wi (nI s - nI r) (nI 0) (nI 3) = 0 := by
          have q : ∀ r s : Fin 4, s < r → wi (nI s.val - nI r.val) (nI 0) (nI 3) = 0 := by decide
          exact q ⟨r, by omega⟩ ⟨s, by omega⟩ (by show s < r; omega)
        iterate 3 refine ev_nx rfl ?_
        refine ev_gt (fun b44 => absurd b44 (by omega)) (fun b44 => ?_)
        iterate 2 refine ev_nx rfl ?_
        refine ev_nx rfl ?_
        iterate 4 refine ev_nx rfl ?_
        refine ev_si rfl rfl (by decide) rfl rfl rfl rfl (ec_le (by omega) (e_within _ _ _ _)) ?_
        rw [e1]
        refine ev_nx rfl ?_
        refine ev_t (by decide) ?_
        refine ev_inc rfl ⟨rfl, by decide⟩ rfl rfl ?_
        refine ev_nx rfl ?_
        exact ih (r + 1) h1 _ (by omega) (by omega) X1
  have H : ∀ n s h1 l4 l5, s + n = 7 → am_nl [l4] 1 = true → XT V K c t j h1 → Ev (d + 4) m_X8_pace 32 [some (.ref 0), some (.int (nI m)), some (.int (nI w)), some (.int (nI s)), l4, l5] [] h1 (fun v h' => v = some (.int (pcA w (pcS P n s))) ∧ XH V h') := by
    intro n
    induction n with
    | zero =>
      intro s h1 l4 l5 hs hnl X1
      iterate 3 refine ev_nx rfl ?_
      refine ev_gt (fun b35 => ?_) (fun b35 => absurd b35 (by omega))
      refine ev_nx rfl ?_
      exact ev_ri rfl rfl rfl ⟨rfl, X1.1⟩
    | succ n ih =>
      intro s h1 l4 l5 hs hnl X1
      rw [pcS]
      iterate 3 refine ev_nx rfl ?_
      refine ev_gt (fun b35 => absurd b35 (by omega)) (fun b35 => ?_)
      iterate 2 refine ev_nx rfl ?_
      refine R s (pcS P n (s + 1)) (by omega) (fun h2 l5 X2 => ?_) 3 1 h1 _ rfl (by omega) X1
      refine ev_inc rfl ⟨rfl, by decide⟩ rfl rfl ?_
      refine ev_nx rfl ?_
      exact ih (s + 1) h2 _ _ (by omega) rfl X2
  have HC := c_copy (d := d + 3) X
  rw [hxE] at HC
  iterate 2 refine ev_nx rfl ?_
  refine ev_vi rfl rfl rfl rfl rfl rfl X.1.2 rfl (c_isMessage X) ?_
  rw [w1]
  refine ev_nx rfl ?_
  refine ev_f (by decide) ?_
  iterate 3 refine ev_nx rfl ?_
  refine ev_si rfl rfl (by decide) rfl rfl rfl rfl (ec_le (by omega) (e_within _ _ _ _)) ?_
  rw [w2]
  refine ev_nx rfl ?_
  refine ev_t (by decide) ?_
  refine ev_nx rfl ?_
  refine ev_gf rfl rfl X.1.2 rfl ?_
  refine ev_nx rfl ?_
  refine ev_gf rfl rfl X.1.2 rfl ?_
  refine ev_v rfl rfl rfl rfl rfl rfl e11 rfl HC (fun rv h2 q => ?_)
  obtain ⟨rfl, -, -, X2⟩ := q
  iterate 2 refine ev_nx rfl ?_
  exact H 6 1 h2 _ _ rfl rfl X2
end PD
