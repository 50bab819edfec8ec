/-! the reference: draw, day -/
def dr (z k : Nat) : Nat := (7919 * z + 6151 * k + 1) * (7919 * z + 6151 * k + 1) % 65521
theorem dr_lt (z k : Nat) : dr z k < 65521 := Nat.mod_lt _ (by decide)
theorem draw_e {z k : Nat} (hz : z ≤ 9999) (hk : k < 1000) : ((((7919 : Int64) * (nI z).toInt64 + 6151 * (nI k).toInt64 + Int64.ofNat 1) * (7919 * (nI z).toInt64 + 6151 * (nI k).toInt64 + Int64.ofNat 1)) - (((7919 : Int64) * (nI z).toInt64 + 6151 * (nI k).toInt64 + Int64.ofNat 1) * (7919 * (nI z).toInt64 + 6151 * (nI k).toInt64 + Int64.ofNat 1)) / 65521 * 65521).toInt32 = nI (dr z k) := by
  rw [nI_l (by omega), nI_l (by omega)]
  rw [show (7919 : Int64) = lN 7919 from rfl, show (6151 : Int64) = lN 6151 from rfl, show Int64.ofNat 1 = lN 1 from rfl, show (65521 : Int64) = lN 65521 from rfl]
  rw [lN_mul, lN_mul, lN_add, lN_add, lN_mul, pk_lRem ?_ (by decide) (by decide), lN_i]
  · rfl
  · have h1 : 7919 * z + 6151 * k + 1 ≤ 100000000 := by omega
    exact Nat.lt_of_le_of_lt (Nat.mul_le_mul h1 h1) (by decide)
/-- a line, how many are right, how many muddles -/
abbrev aD : Type := aN × Nat × Nat
def lokN (x : aN) : Prop := lok x.1 x.2.1 x.2.2.1 x.2.2.2.1 x.2.2.2.2.1 x.2.2.2.2.2
def llN (x : aN) : List Nat := ll x.1 x.2.1 x.2.2.1 x.2.2.2.1 x.2.2.2.2.1 x.2.2.2.2.2
def dyB (s : Nat) (x : aN) : aN := (x.1, bst x.1 (cry s x.2.2.2.1 x.2.2.2.2.1 x.2.2.2.2.2) x.2.1 x.2.2.1, cry s x.2.2.2.1 x.2.2.2.2.1 x.2.2.2.2.2, x.2.2.2)
def dyC (p : Nat) (x : aN) : aN := (x.1, x.2.1, x.2.2.1, x.2.2.2.1 ||| 1 * 2 ^ p, x.2.2.2.2.1, x.2.2.2.2.2)
def dyM (p : Nat) (x : aN) : aN := (x.1, x.2.1, x.2.2.1, clr x.2.2.2.1 (1 * 2 ^ p), clr x.2.2.2.2.1 (1 * 2 ^ p), clr x.2.2.2.2.2 (mdj (1 * 2 ^ p)))
def dyS (p q : Nat) (x : aN) : aN := (swp x.1 p q, swp x.2.1 p q, swp x.2.2.1 p q, x.2.2.2)
def dst (d : Nat) (s : aD) : aD :=
  if d % 8 < 5 then (dyB (d / 8 % 31) s.1, s.2.1 + (if rdS (dyB (d / 8 % 31) s.1).2.1 = d / 8 % 31 then 1 else 0), s.2.2 + (if rdS (dyB (d / 8 % 31) s.1).2.1 = 31 then 1 else 0))
  else if d % 8 = 5 then (dyC (d / 64 % 5) s.1, s.2)
  else if d % 8 = 6 then (dyM (d / 64 % 5) s.1, s.2)
  else (dyS (d / 64 % 5) ((d / 64 % 5 + 1) % 5) s.1, s.2)
def dyr (z : Nat) : Nat → Nat → aD → aD
  | 0, _, s => s
  | n + 1, k, s => dyr z n (k + 1) (dst (dr z k) s)
def dyA (w : Nat) (s : aD) : Nat := if w = 0 then s.2.1 else if w = 1 then s.2.2 else pcn s.1.2.2.2.1
section XO
variable {d : Nat} {h : aH} {z : aZ} {y : aY} {st nw be ge re rl br pt_ : List Nat} {wo : List Int32} {K S G : List Nat} {c t j : Nat}
theorem f_draw {zz k : Nat} (hz : zz ≤ 9999) (hk : k < 1000) : Ec d m_X9_draw [.int (nI zz), .int (nI k)] h (rt (.int (nI (dr zz k))) h) := by
  refine ec_in [some (.int (nI zz)), some (.int (nI k)), none, none] rfl rfl ?_
  iterate 18 refine ev_nx rfl ?_
  exact ev_ri rfl rfl rfl ⟨congrArg (fun v => some (Value.int v)) (draw_e hz hk), rfl⟩
theorem lokN_B {s : Nat} {x : aN} (ok : lokN x) (hs : s < 31) : lokN (dyB s x) := bst_ok ok hs
theorem lokN_C {p : Nat} {x : aN} (ok : lokN x) (hp : p < 5) : lokN (dyC p x) := ⟨ok.1, ok.2.1, ok.2.2.1, or32 ok.2.2.2.1 (p2_32 hp), ok.2.2.2.2⟩
theorem lokN_M {p : Nat} {x : aN} (ok : lokN x) : lokN (dyM p x) := lok_md ok
theorem lokN_S {p q : Nat} {x : aN} (ok : lokN x) (hp : p < 5) (hq : q < 5) : lokN (dyS p q x) := lok_sw ok hp hq
theorem lokN_d {dd : Nat} {s : aD} (ok : lokN s.1) : lokN (dst dd s).1 := by
  have h1 : dd / 8 % 31 < 31 := Nat.mod_lt _ (by decide)
  have h2 : dd / 64 % 5 < 5 := Nat.mod_lt _ (by decide)
  have h3 : (dd / 64 % 5 + 1) % 5 < 5 := Nat.mod_lt _ (by decide)
  unfold dst
  split
  · exact lokN_B ok h1
  · split
    · exact lokN_C ok h2
    · split
      · exact lokN_M ok
      · exact lokN_S ok h2 h3
theorem g_day {zz n w : Nat} {x : aN} (ok : lokN x) (hJ : Mq z y (llN x) h) (hz : zz ≤ 9999) (hn : 1 ≤ n ∧ n ≤ 60) (hw : w ≤ 2) : Ec (d + 3) m_X9_day [.ref 0, .int (nI zz), .int (nI n), .int (nI w)] h (fun v h' => v = some (.int (nI (dyA w (dyr zz n 0 (x, 0, 0))))) ∧ Mq z y (llN x) h') := by
  have w1 : wi (nI zz) (nI 0) (nI 9999) = 1 := by rw [wi_n (by omega) (by omega) (by omega), if_pos (by omega)]
  have w2 : wi (nI n) (nI 1) (nI 60) = 1 := by rw [wi_n (by omega) (by omega) (by omega), if_pos (by omega)]
  have w3 : wi (nI w) (nI 0) (nI 2) = 1 := by rw [wi_n (by omega) (by omega) (by omega), if_pos (by omega)]
  refine ec_in [some (.ref 0), some (.int (nI zz)), some (.int (nI n)), some (.int (nI w)), none, none, none, none, none, none, none] rfl rfl ?_
  obtain ⟨nw, be, ge, re, rl, br, pt_, wo, hln, rfl⟩ := hJ
  generalize hst : llN x = st at *
  have hs29 : st.length = 29 := by rw [← hst]; exact ll_len ok
  have H : ∀ m k (s : aD) be ge l7 l8 l9 l10, k + m = n → lokN s.1 → s.2.1 ≤ k → s.2.2 ≤ k → be.length = 5 → ge.length = 5 → am_nl [l7] 1 = true → am_nl [l8] 1 = true → am_nl [l9] 1 = true → Ev (d + 3) m_X9_day 45 [some (.ref 0), some (.int (nI zz)), some (.int (nI n)), some (.int (nI w)), some (.int (nI s.2.1)), some (.int (nI s.2.2)), some (.int (nI k)), l7, l8, l9, l10] [] (XM z y st (llN s.1) be ge re rl br pt_ wo) (fun v h' => v = some (.int (nI (dyA w (dyr zz m k s)))) ∧ Mq z y st h') := by
    intro m
    induction m with
    | zero =>
      intro k s be ge l7 l8 l9 l10 hk oks hs1 hs2 hbe hge n7 n8 n9
      rw [dyr]
      iterate 3 refine ev_nx rfl ?_
      refine ev_ge (fun b48 => ?_) (fun b48 => absurd b48 (by omega))
      iterate 2 refine ev_nx rfl ?_
      refine ev_ne0 (fun b210 => ?_) (fun b210 => ?_)
      · iterate 3 refine ev_nx rfl ?_
        refine ev_ne (fun b220 => ?_) (fun b220 => ?_)
        · iterate 4 refine ev_nx rfl ?_
          refine ev_si rfl rfl (by decide) rfl rfl rfl rfl (g_sumc oks rfl (by decide)) ?_
          exact ev_ri rfl rfl rfl ⟨vI (by unfold dyA; (repeat' split) <;> omega), _, be, ge, re, rl, br, pt_, wo, ⟨ll_len oks, hbe, hge, hln.2.2.2⟩, rfl⟩
        · iterate 2 refine ev_nx rfl ?_
          exact ev_ri rfl rfl rfl ⟨vI (by unfold dyA; (repeat' split) <;> omega), _, be, ge, re, rl, br, pt_, wo, ⟨ll_len oks, hbe, hge, hln.2.2.2⟩, rfl⟩
      · iterate 2 refine ev_nx rfl ?_
        exact ev_ri rfl rfl rfl ⟨vI (by unfold dyA; (repeat' split) <;> omega), _, be, ge, re, rl, br, pt_, wo, ⟨ll_len oks, hbe, hge, hln.2.2.2⟩, rfl⟩
    | succ m ih =>
      intro k s be ge l7 l8 l9 l10 hk oks hs1 hs2 hbe hge n7 n8 n9
      rw [dyr]
      have hd := dr_lt zz k
      have okd := lokN_d (dd := dr zz k) oks
      generalize hdd : dr zz k = dd at hd okd ⊢
      have h1 : dd / 8 % 31 < 31 := Nat.mod_lt _ (by decide)
      have h2 : dd / 64 % 5 < 5 := Nat.mod_lt _ (by decide)
      have h3 : (dd / 64 % 5 + 1) % 5 < 5 := Nat.mod_lt _ (by decide)
      have hl : (llN s.1).length = 29 := ll_len oks
      have okB := lokN_B oks h1
      have hrd : rdS (dyB (dd / 8 % 31) s.1).2.1 < 32 := rdS_lt okB.2.1.1
      have c1 : dd % 8 < 5 → dst dd s = (dyB (dd / 8 % 31) s.1, s.2.1 + (if rdS (dyB (dd / 8 % 31) s.1).2.1 = dd / 8 % 31 then 1 else 0), s.2.2 + (if rdS (dyB (dd / 8 % 31) s.1).2.1 = 31 then 1 else 0)) := fun q => by rw [dst, if_pos q]
      have c2 : ¬ dd % 8 < 5 → dd % 8 = 5 → dst dd s = (dyC (dd / 64 % 5) s.1, s.2.1, s.2.2) := fun q q2 => by rw [dst, if_neg q, if_pos q2]
      have c3 : ¬ dd % 8 < 5 → ¬ dd % 8 = 5 → dd % 8 = 6 → dst dd s = (dyM (dd / 64 % 5) s.1, s.2.1, s.2.2) := fun q q2 q3 => by rw [dst, if_neg q, if_neg q2, if_pos q3]
      have c4 : ¬ dd % 8 < 5 → ¬ dd % 8 = 5 → ¬ dd % 8 = 6 → dst dd s = (dyS (dd / 64 % 5) ((dd / 64 % 5 + 1) % 5) s.1, s.2.1, s.2.2) := fun q q2 q3 => by rw [dst, if_neg q, if_neg q2, if_neg q3]
      have go : ∀ (x' : aN) (a b : Nat) (be ge : List Nat) (l7 l8 l9 l10 : Option Value), dst dd s = (x', a, b) → a ≤ k + 1 → b ≤ k + 1 → be.length = 5 → ge.length = 5 → am_nl [l7] 1 = true → am_nl [l8] 1 = true → am_nl [l9] 1 = true → Ev (d + 3) m_X9_day 203 [some (.ref 0), some (.int (nI zz)), some (.int (nI n)), some (.int (nI w)), some (.int (nI a)), some (.int (nI b)), some (.int (nI k)), l7, l8, l9, l10] [] (XM z y st (llN x') be ge re rl br pt_ wo) (fun v h' => v = some (.int (nI (dyA w (dyr zz m (k + 1) (dst dd s))))) ∧ Mq z y st h') := by
        intro x' a b be ge l7 l8 l9 l10 e ha hb hbe hge n7 n8 n9
        rw [e] at okd ⊢
        refine ev_inc rfl ⟨rfl, by decide⟩ rfl rfl ?_
        refine ev_nx rfl ?_
        exact ih (k + 1) (x', a, b) be ge _ _ _ _ (by omega) okd ha hb hbe hge n7 n8 n9
      have HM := f_mends (d := d + 2) (h := XM z y st (llN s.1) be ge re rl br pt_ wo) (a := 6) oks rfl (by decide) h2
      have HS := f_changes (d := d + 2) (h := XM z y st (llN s.1) be ge re rl br pt_ wo) (a := 6) oks rfl (by decide) h2 h3
      have HC : (llN s.1).set (0 + dd / 64 % 5) 1 = llN (dyC (dd / 64 % 5) s.1) := ll_c1 (dd / 64 % 5) h2 oks.2.2.2.1
      have HB := f_beat6 (d := d) (z := z) (y := y) (st := st) (re := re) (rk := rl) (br := br) (pt_ := pt_) (wo := wo) oks hbe hge h1
      have HR := fun be ge => f_readOf6 (d := d + 1) (z := z) (y := y) (st := st) (be := be) (ge := ge) (re := re) (rk := rl) (br := br) (pt_ := pt_) (wo := wo) okB
      iterate 3 refine ev_nx rfl ?_
      refine ev_ge (fun b48 => absurd b48 (by omega)) (fun b48 => ?_)
      iterate 2 refine ev_nx rfl ?_
      refine ev_si rfl rfl (by decide) rfl rfl rfl rfl (f_draw hz (by omega)) ?_
      rw [hdd]
      iterate 3 refine ev_nx rfl ?_
      refine ev_div rfl (by omega) (by omega) ?_
      refine ev_nx rfl ?_
      refine ev_rem rfl (by omega) (by omega) ?_
      iterate 3 refine ev_nx rfl ?_
      refine ev_div rfl (by omega) (by omega) ?_
      refine ev_nx rfl ?_
      refine ev_rem rfl (by omega) (by omega) ?_
      iterate 3 refine ev_nx rfl ?_
      refine ev_rem rfl (by omega) (by omega) ?_
      iterate 2 refine ev_nx rfl ?_
      refine ev_ge (fun b84 => ?_) (fun b84 => ?_)
      · iterate 2 refine ev_nx rfl ?_
        refine ev_rem rfl (by omega) (by omega) ?_
        iterate 2 refine ev_nx rfl ?_
        refine ev_ne (fun b150 => ?_) (fun b150 => ?_)
        · iterate 2 refine ev_nx rfl ?_
          refine ev_rem rfl (by omega) (by omega) ?_
          iterate 2 refine ev_nx rfl ?_
          refine ev_ne (fun b173 => ?_) (fun b173 => ?_)
          · iterate 5 refine ev_nx rfl ?_
            refine ev_add rfl ?_
            refine ev_nx rfl ?_
            refine ev_rem rfl (by omega) (by omega) ?_
            refine ev_sv rfl rfl (by decide) rfl rfl rfl rfl HS ?_
            exact go (dyS (dd / 64 % 5) ((dd / 64 % 5 + 1) % 5) s.1) _ _ _ _ _ _ _ _ (c4 (by omega) b150 b173) (by omega) (by omega) hbe hge rfl rfl rfl
          · iterate 3 refine ev_nx rfl ?_
            refine ev_sv rfl rfl (by decide) rfl rfl rfl rfl HM ?_
            refine ev_nx rfl ?_
            exact go (dyM (dd / 64 % 5) s.1) _ _ _ _ _ _ _ _ (c3 (by omega) b150 b173) (by omega) (by omega) hbe hge rfl rfl rfl
        · iterate 4 refine ev_nx rfl ?_
          refine ev_add rfl ?_
          refine ev_nx rfl ?_
          refine ev_sN rfl rfl (by omega) ?_
          rw [HC]
          refine ev_nx rfl ?_
          exact go (dyC (dd / 64 % 5) s.1) _ _ _ _ _ _ _ _ (c2 (by omega) b150) (by omega) (by omega) hbe hge rfl rfl rfl
      · iterate 4 refine ev_nx rfl ?_
        refine ev_vv rfl rfl rfl rfl rfl rfl rfl rfl HB ?_
        iterate 3 refine ev_nx rfl ?_
        refine ev_vi rfl rfl rfl rfl rfl rfl rfl rfl (HR _ _) ?_
        iterate 5 refine ev_nx rfl ?_
        refine ev_ne (fun b113 => ?_) (fun b113 => ?_)
        · refine ev_nx rfl ?_
          refine ev_add rfl ?_
          iterate 5 refine ev_nx rfl ?_
          refine ev_ne (fun b130 => ?_) (fun b130 => ?_)
          · refine ev_nx rfl ?_
            refine ev_add rfl ?_
            refine ev_nx rfl ?_
            refine ev_nx rfl ?_
            exact go (dyB (dd / 8 % 31) s.1) _ _ _ _ _ _ _ _ (by rw [c1 (by omega)]; first | rw [if_pos b113, if_pos b130] | rw [if_pos b113, if_neg b130] | rw [if_neg b113, if_pos b130] | rw [if_neg b113, if_neg b130]) (by omega) (by omega) rfl cry_len rfl rfl rfl
          · iterate 2 refine ev_nx rfl ?_
            refine ev_add rfl ?_
            refine ev_nx rfl ?_
            refine ev_nx rfl ?_
            exact go (dyB (dd / 8 % 31) s.1) _ _ _ _ _ _ _ _ (by rw [c1 (by omega)]; first | rw [if_pos b113, if_pos b130] | rw [if_pos b113, if_neg b130] | rw [if_neg b113, if_pos b130] | rw [if_neg b113, if_neg b130]) (by omega) (by omega) rfl cry_len rfl rfl rfl
        · iterate 2 refine ev_nx rfl ?_
          refine ev_add rfl ?_
          iterate 5 refine ev_nx rfl ?_
          refine ev_ne (fun b130 => ?_) (fun b130 => ?_)
          · refine ev_nx rfl ?_
            refine ev_add rfl ?_
            refine ev_nx rfl ?_
            refine ev_nx rfl ?_
            exact go (dyB (dd / 8 % 31) s.1) _ _ _ _ _ _ _ _ (by rw [c1 (by omega)]; first | rw [if_pos b113, if_pos b130] | rw [if_pos b113, if_neg b130] | rw [if_neg b113, if_pos b130] | rw [if_neg b113, if_neg b130]) (by omega) (by omega) rfl cry_len rfl rfl rfl
          · iterate 2 refine ev_nx rfl ?_
            refine ev_add rfl ?_
            refine ev_nx rfl ?_
            refine ev_nx rfl ?_
            exact go (dyB (dd / 8 % 31) s.1) _ _ _ _ _ _ _ _ (by rw [c1 (by omega)]; first | rw [if_pos b113, if_pos b130] | rw [if_pos b113, if_neg b130] | rw [if_neg b113, if_pos b130] | rw [if_neg b113, if_neg b130]) (by omega) (by omega) rfl cry_len rfl rfl rfl
  iterate 3 refine ev_nx rfl ?_
  refine ev_si rfl rfl (by decide) rfl rfl rfl rfl (f_in _ _ _ _) ?_
  rw [w1]
  refine ev_nx rfl ?_
  refine ev_f (by decide) ?_
  iterate 3 refine ev_nx rfl ?_
  refine ev_si rfl rfl (by decide) rfl rfl rfl rfl (f_in _ _ _ _) ?_
  rw [w2]
  refine ev_nx rfl ?_
  refine ev_f (by decide) ?_
  iterate 3 refine ev_nx rfl ?_
  refine ev_si rfl rfl (by decide) rfl rfl rfl rfl (f_in _ _ _ _) ?_
  rw [w3]
  refine ev_nx rfl ?_
  refine ev_t (by decide) ?_
  iterate 5 refine ev_nx rfl ?_
  refine ev_vv rfl rfl rfl rfl rfl rfl rfl rfl (f_asItIs hs29 hln.1) ?_
  iterate 2 refine ev_nx rfl ?_
  have HH := H n 0 (x, 0, 0) be ge none none none none (by omega) ok (Nat.le_refl 0) (Nat.le_refl 0) hln.2.1 hln.2.2.1 rfl rfl rfl
  rw [hst] at HH
  exact HH
end XO
