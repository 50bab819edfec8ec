/-! the reference: deeds -/
def zle (z : aZ) (v : Nat) : aZ := ((v, z.1.2), z.2)
def zme (z : aZ) (v : Nat) : aZ := ((z.1.1, v, z.1.2.2), z.2)
def zun (z : aZ) (v : Nat) : aZ := ((z.1.1, z.1.2.1, v, z.1.2.2.2), z.2)
def zke (z : aZ) (v : Nat) : aZ := ((z.1.1, z.1.2.1, z.1.2.2.1, v, z.1.2.2.2.2), z.2)
def zsm (z : aZ) (v : Nat) : aZ := ((z.1.1, z.1.2.1, z.1.2.2.1, z.1.2.2.2.1, v, z.1.2.2.2.2.2), z.2)
def zhm (z : aZ) (v : Nat) : aZ := ((z.1.1, z.1.2.1, z.1.2.2.1, z.1.2.2.2.1, z.1.2.2.2.2.1, v), z.2)
def ztx (z : aZ) (l : List Nat) : aZ := (z.1, (l, z.2.2))
def zsz (z : aZ) (l : List Nat) : aZ := (z.1, (z.2.1, l, z.2.2.2))
def zsp (z : aZ) (l : List Nat) : aZ := (z.1, (z.2.1, z.2.2.1, l, z.2.2.2.2))
def zbk (z : aZ) (l : List Nat) : aZ := (z.1, (z.2.1, z.2.2.1, z.2.2.2.1, l, z.2.2.2.2.2))
def zkp (z : aZ) (l : List Nat) : aZ := (z.1, (z.2.1, z.2.2.1, z.2.2.2.1, z.2.2.2.2.1, l, z.2.2.2.2.2.2))
def zsn (z : aZ) (l : List Nat) : aZ := (z.1, (z.2.1, z.2.2.1, z.2.2.2.1, z.2.2.2.2.1, z.2.2.2.2.2.1, l, z.2.2.2.2.2.2.2))
def zhd (z : aZ) (l : List Nat) : aZ := (z.1, (z.2.1, z.2.2.1, z.2.2.2.1, z.2.2.2.2.1, z.2.2.2.2.2.1, z.2.2.2.2.2.2.1, l))
theorem ev_pM {d : Nat} {m : aM} {pc np r x a : Nat} {L : aL} {S : List Value} {h : aH} {Q : Option Value → aH → Prop} {y : Nat × Nat × Nat × Nat × FieldType × Bool} {fs : List Value} {v : Value} (hc : am_cd m pc = some (.putfield x, np, r)) (hy : am_fs[r]? = some y) (hh : h[a]? = some (.inr (.inr (y.2.2.1, fs)))) (hl : Nat.blt y.2.2.2.1 fs.length = true) (hn : narrow y.2.2.2.2.1 v = v) (hf : fits y.2.2.2.2.1 v = true) (hfin : y.2.2.2.2.2 = false) (k : Ev d m np L S (h.set a (.inr (.inr (y.2.2.1, fs.set y.2.2.2.1 v)))) Q) (ha : a < 100000 := by omega) : Ev d m pc L (v :: .ref a :: S) h Q :=
  ev_pf hc hy hh (Nat.le_of_ble_eq_true hl) hn hf hfin k ha
section XL
variable {d : Nat} {h : aH} {z : aZ} {y : aY} {st nw be ge re rl br pt_ : List Nat} {wo : List Int32} {K S G : List Nat} {c t j : Nat}
theorem g_write {x : Nat} (hJ : Mq z y st h) (hx : 32 ≤ x ∧ x ≤ 126) (hl : z.1.1 ≤ 200) (ht : z.2.1.length = 200) : Ec (d + 1) m_X9_write [.ref 0, .int (nI x)] h (fun v h' => v = some (.int (if z.1.1 < 200 then nI (z.1.1 + 1) else -(nI 3))) ∧ Mq (if z.1.1 < 200 then zle (ztx z (z.2.1.set z.1.1 x)) (z.1.1 + 1) else z) y st h') := by
  have w1 : wi (nI x) (nI 32) (nI 126) = 1 := by rw [wi_n (by omega) (by omega) (by omega), if_pos (by omega)]
  obtain ⟨nw, be, ge, re, rl, br, pt_, wo, hln, rfl⟩ := hJ
  refine ec_in [some (.ref 0), some (.int (nI x))] rfl rfl ?_
  iterate 3 refine ev_nx rfl ?_
  refine ev_si rfl rfl (by decide) rfl rfl rfl rfl (f_in _ _ _ _) ?_
  rw [w1]
  refine ev_nx rfl ?_
  refine ev_t (by decide) ?_
  iterate 4 refine ev_nx rfl ?_
  refine ev_ne (fun b20 => ?_) (fun b20 => ?_)
  · iterate 5 refine ev_nx rfl ?_
    refine ev_sN rfl rfl (by first | omega | (simp only [List.length_set, List.length_replicate]; omega)) ?_
    iterate 4 refine ev_nx rfl ?_
    refine ev_add rfl ?_
    refine ev_pM rfl rfl rfl rfl rfl rfl rfl ?_
    iterate 2 refine ev_nx rfl ?_
    simp only [if_pos (show z.1.1 < 200 by omega)]
    exact ev_ri rfl rfl rfl ⟨rfl, nw, be, ge, re, rl, br, pt_, wo, hln, rfl⟩
  · refine ev_nx rfl ?_
    simp only [if_neg (show ¬ z.1.1 < 200 by omega)]
    exact ev_ri rfl rfl rfl ⟨rfl, nw, be, ge, re, rl, br, pt_, wo, hln, rfl⟩
theorem g_wipe (hJ : Mq z y st h) : Ec d m_X9_wipe [.ref 0] h (fun v h' => v = some (.int (nI z.1.1)) ∧ Mq (zle z 0) y st h') := by
  obtain ⟨nw, be, ge, re, rl, br, pt_, wo, hln, rfl⟩ := hJ
  refine ec_in [some (.ref 0), none] rfl rfl ?_
  iterate 5 refine ev_nx rfl ?_
  refine ev_pM rfl rfl rfl rfl rfl rfl rfl ?_
  refine ev_nx rfl ?_
  exact ev_ri rfl rfl rfl ⟨rfl, nw, be, ge, re, rl, br, pt_, wo, hln, rfl⟩
theorem g_see {s r : Nat} (hJ : Mq z y st h) (hs : s ≤ 29) (hr : r ≤ 31) (hm : z.1.2.2.2.2.1 ≤ 8) (hl : z.2.2.2.2.2.2.1.length = 16) : Ec (d + 1) m_X9_see [.ref 0, .int (nI s), .int (nI r)] h (fun v h' => v = some (.int (if z.1.2.2.2.2.1 < 8 then nI (z.1.2.2.2.2.1 + 1) else -(nI 3))) ∧ Mq (if z.1.2.2.2.2.1 < 8 then zsm (zsn z ((z.2.2.2.2.2.2.1.set (2 * z.1.2.2.2.2.1) s).set (2 * z.1.2.2.2.2.1 + 1) r)) (z.1.2.2.2.2.1 + 1) else z) y st h') := by
  have w1 : wi (nI s) (nI 0) (nI 29) = 1 := by rw [wi_n (by omega) (by omega) (by omega), if_pos (by omega)]
  have w2 : wi (nI r) (nI 0) (nI 31) = 1 := by rw [wi_n (by omega) (by omega) (by omega), if_pos (by omega)]
  obtain ⟨nw, be, ge, re, rl, br, pt_, wo, hln, rfl⟩ := hJ
  refine ec_in [some (.ref 0), some (.int (nI s)), some (.int (nI r))] rfl rfl ?_
  iterate 3 refine ev_nx rfl ?_
  refine ev_si rfl rfl (by decide) rfl rfl rfl rfl (f_in _ _ _ _) ?_
  rw [w1]
  refine ev_nx rfl ?_
  refine ev_f (by decide) ?_
  iterate 3 refine ev_nx rfl ?_
  refine ev_si rfl rfl (by decide) rfl rfl rfl rfl (f_in _ _ _ _) ?_
  rw [w2]
  refine ev_nx rfl ?_
  refine ev_t (by decide) ?_
  iterate 4 refine ev_nx rfl ?_
  refine ev_ne (fun b28 => ?_) (fun b28 => ?_)
  · iterate 5 refine ev_nx rfl ?_
    refine ev_mul rfl ?_
    refine ev_nx rfl ?_
    refine ev_sN rfl rfl (by first | omega | (simp only [List.length_set, List.length_replicate]; omega)) ?_
    iterate 5 refine ev_nx rfl ?_
    refine ev_mul rfl ?_
    refine ev_nx rfl ?_
    refine ev_add rfl ?_
    refine ev_nx rfl ?_
    refine ev_sN rfl rfl (by first | omega | (simp only [List.length_set, List.length_replicate]; omega)) ?_
    iterate 4 refine ev_nx rfl ?_
    refine ev_add rfl ?_
    refine ev_pM rfl rfl rfl rfl rfl rfl rfl ?_
    iterate 2 refine ev_nx rfl ?_
    simp only [if_pos (show z.1.2.2.2.2.1 < 8 by omega)]
    exact ev_ri rfl rfl rfl ⟨rfl, nw, be, ge, re, rl, br, pt_, wo, hln, rfl⟩
  · refine ev_nx rfl ?_
    simp only [if_neg (show ¬ z.1.2.2.2.2.1 < 8 by omega)]
    exact ev_ri rfl rfl rfl ⟨rfl, nw, be, ge, re, rl, br, pt_, wo, hln, rfl⟩
theorem g_hear1 {s : Nat} (hJ : Mq z y st h) (hm : z.1.2.2.2.2.2 ≤ 8) (hl : z.2.2.2.2.2.2.2.length = 8) : Ev (d + 1) m_X9_hear 18 [some (.ref 0), some (.int (nI s))] [] h (fun v h' => v = some (.int (if z.1.2.2.2.2.2 < 8 then nI (z.1.2.2.2.2.2 + 1) else -(nI 3))) ∧ Mq (if z.1.2.2.2.2.2 < 8 then zhm (zhd z (z.2.2.2.2.2.2.2.set z.1.2.2.2.2.2 s)) (z.1.2.2.2.2.2 + 1) else z) y st h') := by
  obtain ⟨nw, be, ge, re, rl, br, pt_, wo, hln, rfl⟩ := hJ
  iterate 4 refine ev_nx rfl ?_
  refine ev_ne (fun b24 => ?_) (fun b24 => ?_)
  · iterate 5 refine ev_nx rfl ?_
    refine ev_sN rfl rfl (by first | omega | (simp only [List.length_set, List.length_replicate]; omega)) ?_
    iterate 4 refine ev_nx rfl ?_
    refine ev_add rfl ?_
    refine ev_pM rfl rfl rfl rfl rfl rfl rfl ?_
    iterate 2 refine ev_nx rfl ?_
    simp only [if_pos (show z.1.2.2.2.2.2 < 8 by omega)]
    exact ev_ri rfl rfl rfl ⟨rfl, nw, be, ge, re, rl, br, pt_, wo, hln, rfl⟩
  · refine ev_nx rfl ?_
    simp only [if_neg (show ¬ z.1.2.2.2.2.2 < 8 by omega)]
    exact ev_ri rfl rfl rfl ⟨rfl, nw, be, ge, re, rl, br, pt_, wo, hln, rfl⟩
theorem g_hear {s : Nat} (hJ : Mq z y st h) (hs : s ≤ 19 ∨ s = 31) (hm : z.1.2.2.2.2.2 ≤ 8) (hl : z.2.2.2.2.2.2.2.length = 8) : Ec (d + 1) m_X9_hear [.ref 0, .int (nI s)] h (fun v h' => v = some (.int (if z.1.2.2.2.2.2 < 8 then nI (z.1.2.2.2.2.2 + 1) else -(nI 3))) ∧ Mq (if z.1.2.2.2.2.2 < 8 then zhm (zhd z (z.2.2.2.2.2.2.2.set z.1.2.2.2.2.2 s)) (z.1.2.2.2.2.2 + 1) else z) y st h') := by
  refine ec_in [some (.ref 0), some (.int (nI s))] rfl rfl ?_
  rcases hs with hs | rfl
  · have w1 : wi (nI s) (nI 0) (nI 19) = 1 := by rw [wi_n (by omega) (by omega) (by omega), if_pos (by omega)]
    iterate 3 refine ev_nx rfl ?_
    refine ev_si rfl rfl (by decide) rfl rfl rfl rfl (f_in _ _ _ _) ?_
    rw [w1]
    refine ev_nx rfl ?_
    refine ev_t (by decide) ?_
    exact g_hear1 hJ hm hl
  · have w1 : wi (nI 31) (nI 0) (nI 19) = 0 := by decide
    iterate 3 refine ev_nx rfl ?_
    refine ev_si rfl rfl (by decide) rfl rfl rfl rfl (f_in _ _ _ _) ?_
    rw [w1]
    refine ev_nx rfl ?_
    refine ev_f (by decide) ?_
    iterate 3 refine ev_nx rfl ?_
    refine ev_t (by decide) ?_
    exact g_hear1 hJ hm hl
theorem g_forget {w : Nat} (hJ : Mq z y st h) (hw : w ≤ 1) : Ec (d + 1) m_X9_forget [.ref 0, .int (nI w)] h (fun v h' => v = some (.int (nI (if w = 0 then z.1.2.2.2.2.1 else z.1.2.2.2.2.2))) ∧ Mq (if w = 0 then zsm z 0 else zhm z 0) y st h') := by
  have w1 : wi (nI w) (nI 0) (nI 1) = 1 := by rw [wi_n (by omega) (by omega) (by omega), if_pos (by omega)]
  obtain ⟨nw, be, ge, re, rl, br, pt_, wo, hln, rfl⟩ := hJ
  refine ec_in [some (.ref 0), some (.int (nI w)), none] rfl rfl ?_
  rcases (show w = 0 ∨ w = 1 by omega) with rfl | rfl
  · iterate 3 refine ev_nx rfl ?_
    refine ev_si rfl rfl (by decide) rfl rfl rfl rfl (f_in _ _ _ _) ?_
    rw [w1]
    refine ev_nx rfl ?_
    refine ev_t (by decide) ?_
    iterate 2 refine ev_nx rfl ?_
    refine ev_f (by decide) ?_
    iterate 7 refine ev_nx rfl ?_
    refine ev_f (by decide) ?_
    iterate 2 refine ev_nx rfl ?_
    refine ev_pM rfl rfl rfl rfl rfl rfl rfl ?_
    iterate 4 refine ev_nx rfl ?_
    refine ev_t (by decide) ?_
    iterate 2 refine ev_nx rfl ?_
    refine ev_pM rfl rfl rfl rfl rfl rfl rfl ?_
    refine ev_nx rfl ?_
    exact ev_ri rfl rfl rfl ⟨rfl, nw, be, ge, re, rl, br, pt_, wo, hln, rfl⟩
  · iterate 3 refine ev_nx rfl ?_
    refine ev_si rfl rfl (by decide) rfl rfl rfl rfl (f_in _ _ _ _) ?_
    rw [w1]
    refine ev_nx rfl ?_
    refine ev_t (by decide) ?_
    iterate 2 refine ev_nx rfl ?_
    refine ev_t (by decide) ?_
    iterate 6 refine ev_nx rfl ?_
    refine ev_t (by decide) ?_
    iterate 2 refine ev_nx rfl ?_
    refine ev_pM rfl rfl rfl rfl rfl rfl rfl ?_
    iterate 4 refine ev_nx rfl ?_
    refine ev_f (by decide) ?_
    iterate 2 refine ev_nx rfl ?_
    refine ev_pM rfl rfl rfl rfl rfl rfl rfl ?_
    refine ev_nx rfl ?_
    exact ev_ri rfl rfl rfl ⟨rfl, nw, be, ge, re, rl, br, pt_, wo, hln, rfl⟩
/-! the book -/
def ntb (st : List Nat) (un : Nat) (bk : List Nat) : List Nat := if un = 8 then brg st (bsg 29 0 203 0 bk) 0 (29 * 7) 29 0 else brg st bk 0 (29 * un) 29 0
def ntu (un : Nat) : Nat := if un = 8 then 8 else un + 1
def znt (st : List Nat) (z : aZ) : aZ := zun (zbk z (ntb st z.1.2.2.1 z.2.2.2.2.1)) (ntu z.1.2.2.1)
theorem bsg_len {i k : Nat} : ∀ n q (B : List Nat), (bsg i k n q B).length = B.length
  | 0, _, _ => rfl
  | n + 1, q, B => by rw [bsg, bsg_len n, List.length_set]
theorem bring_n {A B C : List Nat} {a b i k n : Nat} (hC : C = brg A B i k n 0) (hab : a ≠ b) (ha : a < 100000 ∧ b < 100000) (h1 : i + n ≤ A.length ∧ A.length < 10000) (h2 : k + n ≤ B.length ∧ B.length < 10000) (h : aH) (hA : h[a]? = some (ar A)) (hB : h[b]? = some (ar B)) : Ec d m_X9_bring [.ref a, .int (nI i), .ref b, .int (nI k), .int (nI n)] h (rtv (h.set b (ar C))) := by
  rw [hC]; exact f_bring hA hB hab ha h1 h2
theorem bring_s {B C : List Nat} {b i k n : Nat} (hC : C = bsg i k n 0 B) (hb : b < 100000) (h1 : i + n ≤ B.length ∧ B.length < 10000) (h2 : k + n ≤ B.length) (h : aH) (hB : h[b]? = some (ar B)) : Ec d m_X9_bring [.ref b, .int (nI i), .ref b, .int (nI k), .int (nI n)] h (rtv (h.set b (ar C))) := by
  rw [hC]; exact f_bringS hB hb h1 h2
theorem f_notes (hs : st.length = 29) (hb : z.2.2.2.2.1.length = 232) (hu : z.1.2.2.1 ≤ 8) : Ec (d + 1) m_X9_notes [.ref 0] (XM z y st nw be ge re rl br pt_ wo) (rtv (XM (znt st z) y st nw be ge re rl br pt_ wo)) := by
  refine ec_in [some (.ref 0)] rfl rfl ?_
  by_cases h8 : z.1.2.2.1 = 8
  · obtain ⟨B1, e1⟩ : ∃ B1, B1 = bsg 29 0 203 0 z.2.2.2.2.1 := ⟨_, rfl⟩
    have l1 : B1.length = 232 := by rw [e1, bsg_len, hb]
    obtain ⟨B2, e2⟩ : ∃ B2, B2 = brg st B1 0 (29 * 7) 29 0 := ⟨_, rfl⟩
    have e : znt st z = zun (zbk z B2) 8 := by rw [znt, ntb, ntu, if_pos h8, if_pos h8, e2, e1]
    have H1 := bring_s (d := d) (b := 7) e1 (by decide) (by omega) (by omega)
    have H2 := bring_n (d := d) (a := 5) (b := 7) e2 (by decide) (by decide) (by omega) (by omega)
    rw [e]
    clear e e1 e2
    iterate 4 refine ev_nx rfl ?_
    refine ev_ne (fun b6 => absurd b6 (by omega)) (fun b6 => ?_)
    iterate 7 refine ev_nx rfl ?_
    refine ev_sv rfl rfl (by decide) rfl rfl rfl rfl (H1 _ rfl) ?_
    iterate 4 refine ev_nx rfl ?_
    refine ev_sub rfl (by omega) ?_
    rw [show z.1.2.2.1 - 1 = 7 by omega]
    refine ev_pM rfl rfl rfl rfl rfl rfl rfl ?_
    iterate 8 refine ev_nx rfl ?_
    refine ev_mul rfl ?_
    refine ev_nx rfl ?_
    refine ev_sv rfl rfl (by decide) rfl rfl rfl rfl (H2 _ rfl rfl) ?_
    iterate 4 refine ev_nx rfl ?_
    refine ev_add rfl ?_
    refine ev_pM rfl rfl rfl rfl rfl rfl rfl ?_
    exact ev_rt rfl ⟨rfl, rfl⟩
  · obtain ⟨B2, e2⟩ : ∃ B2, B2 = brg st z.2.2.2.2.1 0 (29 * z.1.2.2.1) 29 0 := ⟨_, rfl⟩
    have e : znt st z = zun (zbk z B2) (z.1.2.2.1 + 1) := by rw [znt, ntb, ntu, if_neg h8, if_neg h8, e2]
    have H2 := bring_n (d := d) (a := 5) (b := 7) e2 (by decide) (by decide) (by omega) (by omega)
    rw [e]
    clear e e2
    iterate 4 refine ev_nx rfl ?_
    refine ev_ne (fun b6 => ?_) (fun b6 => absurd b6 (by omega))
    iterate 8 refine ev_nx rfl ?_
    refine ev_mul rfl ?_
    refine ev_nx rfl ?_
    refine ev_sv rfl rfl (by decide) rfl rfl rfl rfl (H2 _ rfl rfl) ?_
    iterate 4 refine ev_nx rfl ?_
    refine ev_add rfl ?_
    refine ev_pM rfl rfl rfl rfl rfl rfl rfl ?_
    exact ev_rt rfl ⟨rfl, rfl⟩
theorem g_send {s : Nat} (ok : lok K S G c t j) (hJ : Mq z y (ll K S G c t j) h) (hs : s ≤ 30) (hb : z.2.2.2.2.1.length = 232) (hu : z.1.2.2.1 ≤ 8) : Ec (d + 3) m_X9_send [.ref 0, .int (nI s)] h (fun v h' => v = some (.int (nI (rdS (bst K (cry s c t j) S G)))) ∧ Mq (znt (ll K S G c t j) z) y (ll K (bst K (cry s c t j) S G) (cry s c t j) c t j) h') := by
  have w1 : wi (nI s) (nI 0) (nI 30) = 1 := by rw [wi_n (by omega) (by omega) (by omega), if_pos (by omega)]
  obtain ⟨nw, be, ge, re, rl, br, pt_, wo, hln, rfl⟩ := hJ
  refine ec_in [some (.ref 0), some (.int (nI s))] rfl rfl ?_
  iterate 3 refine ev_nx rfl ?_
  refine ev_si rfl rfl (by decide) rfl rfl rfl rfl (f_in _ _ _ _) ?_
  rw [w1]
  refine ev_nx rfl ?_
  refine ev_t (by decide) ?_
  refine ev_nx rfl ?_
  refine ev_vv rfl rfl rfl rfl rfl rfl rfl rfl (f_notes (ll_len ok) hb hu) ?_
  iterate 4 refine ev_nx rfl ?_
  refine ev_vv rfl rfl rfl rfl rfl rfl rfl rfl (f_beat5 ok hln.2.1 hln.2.2.1 (by omega)) ?_
  iterate 3 refine ev_nx rfl ?_
  refine ev_vi rfl rfl rfl rfl rfl rfl rfl rfl (f_readOf5 (bst_ok ok (by omega))) ?_
  exact ev_ri rfl rfl rfl ⟨rfl, nw, _, _, re, rl, br, pt_, wo, ⟨hln.1, rfl, cry_len, hln.2.2.2⟩, rfl⟩
theorem g_cut {p : Nat} (ok : lok K S G c t j) (hJ : Mq z y (ll K S G c t j) h) (hp : p < 5) (hb : z.2.2.2.2.1.length = 232) (hu : z.1.2.2.1 ≤ 8) : Ec (d + 2) m_X9_cut [.ref 0, .int (nI p)] h (fun v h' => v = some (.int (if bt c p = 1 then -(nI 2) else nI (pcn (c ||| 1 * 2 ^ p)))) ∧ Mq (if bt c p = 1 then z else znt (ll K S G c t j) z) y (if bt c p = 1 then ll K S G c t j else ll K S G (c ||| 1 * 2 ^ p) t j) h') := by
  have w1 : wi (nI p) (nI 0) (nI 4) = 1 := by rw [wi_n (by omega) (by omega) (by omega), if_pos (by omega)]
  obtain ⟨nw, be, ge, re, rl, br, pt_, wo, hln, rfl⟩ := hJ
  have hl := ll_len ok
  have hbt := bt_lt c p
  have ok2 : lok K S G (c ||| 1 * 2 ^ p) t j := ⟨ok.1, ok.2.1, ok.2.2.1, or32 ok.2.2.2.1 (p2_32 hp), ok.2.2.2.2⟩
  refine ec_in [some (.ref 0), some (.int (nI p))] rfl rfl ?_
  refine ev_nx rfl ?_
  refine ev_si rfl rfl (by decide) rfl rfl rfl rfl (f_isPlace _ _) ?_
  rw [w1]
  refine ev_nx rfl ?_
  refine ev_t (by decide) ?_
  iterate 4 refine ev_nx rfl ?_
  refine ev_add rfl ?_
  refine ev_lN rfl rfl (by omega) ?_
  rw [ll_c p hp]
  iterate 2 refine ev_nx rfl ?_
  refine ev_ne (fun b18 => ?_) (fun b18 => ?_)
  · refine ev_nx rfl ?_
    refine ev_vv rfl rfl rfl rfl rfl rfl rfl rfl (f_notes (ll_len ok) hb hu) ?_
    iterate 4 refine ev_nx rfl ?_
    refine ev_add rfl ?_
    refine ev_nx rfl ?_
    refine ev_sN rfl rfl (by omega) ?_
    rw [ll_c1 p hp ok.2.2.2.1]
    iterate 4 refine ev_nx rfl ?_
    refine ev_si rfl rfl (by decide) rfl rfl rfl rfl (g_sumc ok2 rfl (by decide)) ?_
    simp only [if_neg b18]
    exact ev_ri rfl rfl rfl ⟨rfl, nw, be, ge, re, rl, br, pt_, wo, hln, rfl⟩
  · refine ev_nx rfl ?_
    simp only [if_pos b18]
    exact ev_ri rfl rfl rfl ⟨rfl, nw, be, ge, re, rl, br, pt_, wo, hln, rfl⟩
theorem xor32 {a b : Nat} (ha : a < 32) (hb : b < 32) : a ^^^ b < 32 := Nat.xor_lt_two_pow (n := 5) ha hb
theorem g_turn {p : Nat} (ok : lok K S G c t j) (hJ : Mq z y (ll K S G c t j) h) (hp : p < 5) (hb : z.2.2.2.2.1.length = 232) (hu : z.1.2.2.1 ≤ 8) : Ec (d + 2) m_X9_turn [.ref 0, .int (nI p)] h (fun v h' => v = some (.int (nI (pcn (t ^^^ 1 * 2 ^ p)))) ∧ Mq (znt (ll K S G c t j) z) y (ll K S G c (t ^^^ 1 * 2 ^ p) j) h') := by
  have w1 : wi (nI p) (nI 0) (nI 4) = 1 := by rw [wi_n (by omega) (by omega) (by omega), if_pos (by omega)]
  obtain ⟨nw, be, ge, re, rl, br, pt_, wo, hln, rfl⟩ := hJ
  have hl := ll_len ok
  have hbt := bt_lt t p
  have ok2 : lok K S G c (t ^^^ 1 * 2 ^ p) j := ⟨ok.1, ok.2.1, ok.2.2.1, ok.2.2.2.1, xor32 ok.2.2.2.2.1 (p2_32 hp), ok.2.2.2.2.2⟩
  refine ec_in [some (.ref 0), some (.int (nI p))] rfl rfl ?_
  refine ev_nx rfl ?_
  refine ev_si rfl rfl (by decide) rfl rfl rfl rfl (f_isPlace _ _) ?_
  rw [w1]
  refine ev_nx rfl ?_
  refine ev_t (by decide) ?_
  refine ev_nx rfl ?_
  refine ev_vv rfl rfl rfl rfl rfl rfl rfl rfl (f_notes (ll_len ok) hb hu) ?_
  iterate 4 refine ev_nx rfl ?_
  refine ev_add rfl ?_
  iterate 5 refine ev_nx rfl ?_
  refine ev_add rfl ?_
  refine ev_lN rfl rfl (by omega) ?_
  rw [ll_t p hp]
  refine ev_sub rfl (by omega) ?_
  refine ev_sN rfl rfl (by omega) ?_
  rw [ll_tx p hp ok.2.2.2.2.1]
  iterate 4 refine ev_nx rfl ?_
  refine ev_si rfl rfl (by decide) rfl rfl rfl rfl (g_sumt ok2 rfl (by decide)) ?_
  exact ev_ri rfl rfl rfl ⟨rfl, nw, be, ge, re, rl, br, pt_, wo, hln, rfl⟩
theorem or16 {a b : Nat} (ha : a < 16) (hb : b < 16) : a ||| b < 16 := Nat.or_lt_two_pow (n := 4) ha hb
theorem p2_16 {p : Nat} (hp : p < 4) : 1 * 2 ^ p < 16 := by
  rcases c4 hp with rfl | rfl | rfl | rfl <;> decide
theorem g_touch {p : Nat} (ok : lok K S G c t j) (hJ : Mq z y (ll K S G c t j) h) (hp : p < 4) (hb : z.2.2.2.2.1.length = 232) (hu : z.1.2.2.1 ≤ 8) : Ec (d + 2) m_X9_touch [.ref 0, .int (nI p)] h (fun v h' => v = some (.int (if bt j p = 1 then -(nI 2) else nI (pcn (j ||| 1 * 2 ^ p)))) ∧ Mq (if bt j p = 1 then z else znt (ll K S G c t j) z) y (if bt j p = 1 then ll K S G c t j else ll K S G c t (j ||| 1 * 2 ^ p)) h') := by
  have w1 : wi (nI p) (nI 0) (nI 3) = 1 := by rw [wi_n (by omega) (by omega) (by omega), if_pos (by omega)]
  obtain ⟨nw, be, ge, re, rl, br, pt_, wo, hln, rfl⟩ := hJ
  have hl := ll_len ok
  have hbt := bt_lt j p
  have ok2 : lok K S G c t (j ||| 1 * 2 ^ p) := ⟨ok.1, ok.2.1, ok.2.2.1, ok.2.2.2.1, ok.2.2.2.2.1, or16 ok.2.2.2.2.2 (p2_16 hp)⟩
  refine ec_in [some (.ref 0), some (.int (nI p))] rfl rfl ?_
  iterate 3 refine ev_nx rfl ?_
  refine ev_si rfl rfl (by decide) rfl rfl rfl rfl (f_in _ _ _ _) ?_
  rw [w1]
  refine ev_nx rfl ?_
  refine ev_t (by decide) ?_
  iterate 4 refine ev_nx rfl ?_
  refine ev_add rfl ?_
  refine ev_lN rfl rfl (by omega) ?_
  rw [ll_j p hp]
  iterate 2 refine ev_nx rfl ?_
  refine ev_ne (fun b21 => ?_) (fun b21 => ?_)
  · refine ev_nx rfl ?_
    refine ev_vv rfl rfl rfl rfl rfl rfl rfl rfl (f_notes (ll_len ok) hb hu) ?_
    iterate 4 refine ev_nx rfl ?_
    refine ev_add rfl ?_
    refine ev_nx rfl ?_
    refine ev_sN rfl rfl (by omega) ?_
    rw [ll_j1 p hp ok.2.2.2.2.2]
    iterate 4 refine ev_nx rfl ?_
    refine ev_si rfl rfl (by decide) rfl rfl rfl rfl (g_sumj ok2 rfl (by decide)) ?_
    simp only [if_neg b21]
    exact ev_ri rfl rfl rfl ⟨rfl, nw, be, ge, re, rl, br, pt_, wo, hln, rfl⟩
  · refine ev_nx rfl ?_
    simp only [if_pos b21]
    exact ev_ri rfl rfl rfl ⟨rfl, nw, be, ge, re, rl, br, pt_, wo, hln, rfl⟩
theorem g_change {p q : Nat} (ok : lok K S G c t j) (hJ : Mq z y (ll K S G c t j) h) (hp : p < 5) (hq : q < 5) (hpq : p ≠ q) (hb : z.2.2.2.2.1.length = 232) (hu : z.1.2.2.1 ≤ 8) : Ec (d + 2) m_X9_change [.ref 0, .int (nI p), .int (nI q)] h (fun v h' => v = some (.int (nI ((swp K p q).getD p 0))) ∧ Mq (znt (ll K S G c t j) z) y (ll (swp K p q) (swp S p q) (swp G p q) c t j) h') := by
  have w1 : wi (nI p) (nI 0) (nI 4) = 1 := by rw [wi_n (by omega) (by omega) (by omega), if_pos (by omega)]
  have w2 : wi (nI q) (nI 0) (nI 4) = 1 := by rw [wi_n (by omega) (by omega) (by omega), if_pos (by omega)]
  obtain ⟨nw, be, ge, re, rl, br, pt_, wo, hln, rfl⟩ := hJ
  have hl := ll_len ok
  have ok2 := lok_sw ok hp hq
  have hl2 := ll_len ok2
  refine ec_in [some (.ref 0), some (.int (nI p)), some (.int (nI q))] rfl rfl ?_
  refine ev_nx rfl ?_
  refine ev_si rfl rfl (by decide) rfl rfl rfl rfl (f_isPlace _ _) ?_
  rw [w1]
  refine ev_nx rfl ?_
  refine ev_f (by decide) ?_
  refine ev_nx rfl ?_
  refine ev_si rfl rfl (by decide) rfl rfl rfl rfl (f_isPlace _ _) ?_
  rw [w2]
  refine ev_nx rfl ?_
  refine ev_f (by decide) ?_
  iterate 3 refine ev_nx rfl ?_
  refine ev_ne (fun b16 => ?_) (fun b16 => absurd b16 (by omega))
  refine ev_nx rfl ?_
  refine ev_vv rfl rfl rfl rfl rfl rfl rfl rfl (f_notes (ll_len ok) hb hu) ?_
  iterate 4 refine ev_nx rfl ?_
  refine ev_sv rfl rfl (by decide) rfl rfl rfl rfl (f_changes ok rfl (by decide) hp hq) ?_
  iterate 4 refine ev_nx rfl ?_
  refine ev_add rfl ?_
  refine ev_lN rfl rfl (by omega) ?_
  rw [ll_K ok2 p hp]
  exact ev_ri rfl rfl rfl ⟨rfl, nw, be, ge, re, rl, br, pt_, wo, hln, rfl⟩
theorem g_undo (hJ : Mq z y st h) (hs : st.length = 29) (hb : z.2.2.2.2.1.length = 232) (hu : z.1.2.2.1 ≤ 8) : Ec (d + 1) m_X9_undo [.ref 0] h (fun v h' => v = some (.int (if z.1.2.2.1 = 0 then -(nI 2) else nI (z.1.2.2.1 - 1))) ∧ Mq (if z.1.2.2.1 = 0 then z else zun z (z.1.2.2.1 - 1)) y (if z.1.2.2.1 = 0 then st else brg z.2.2.2.2.1 st (29 * (z.1.2.2.1 - 1)) 0 29 0) h') := by
  obtain ⟨nw, be, ge, re, rl, br, pt_, wo, hln, rfl⟩ := hJ
  refine ec_in [some (.ref 0)] rfl rfl ?_
  by_cases hE : z.1.2.2.1 = 0
  · simp only [if_pos hE]
    iterate 3 refine ev_nx rfl ?_
    refine ev_ne0 (fun b4 => absurd b4 (by omega)) (fun b4 => ?_)
    refine ev_nx rfl ?_
    exact ev_ri rfl rfl rfl ⟨rfl, nw, be, ge, re, rl, br, pt_, wo, hln, rfl⟩
  obtain ⟨B2, e2⟩ : ∃ B2, B2 = brg z.2.2.2.2.1 st (29 * (z.1.2.2.1 - 1)) 0 29 0 := ⟨_, rfl⟩
  have H2 := bring_n (d := d) (a := 7) (b := 5) e2 (by decide) (by decide) (by omega) (by omega)
  simp only [if_neg hE]
  rw [← e2]
  clear e2
  iterate 3 refine ev_nx rfl ?_
  refine ev_ne0 (fun b4 => ?_) (fun b4 => absurd b4 (by omega))
  iterate 4 refine ev_nx rfl ?_
  refine ev_sub rfl (by omega) ?_
  refine ev_pM rfl rfl rfl rfl rfl rfl rfl ?_
  iterate 5 refine ev_nx rfl ?_
  refine ev_mul rfl ?_
  iterate 4 refine ev_nx rfl ?_
  refine ev_sv rfl rfl (by decide) rfl rfl rfl rfl (H2 _ rfl rfl) ?_
  iterate 2 refine ev_nx rfl ?_
  exact ev_ri rfl rfl rfl ⟨rfl, nw, be, ge, re, rl, br, pt_, wo, hln, rfl⟩
theorem g_keep (hJ : Mq z y st h) (hs : st.length = 29) (hb : z.2.2.2.2.2.1.length = 58) (hu : z.1.2.2.2.1 ≤ 2) : Ec (d + 1) m_X9_keep [.ref 0] h (fun v h' => v = some (.int (if z.1.2.2.2.1 = 2 then -(nI 3) else nI (z.1.2.2.2.1 + 1))) ∧ Mq (if z.1.2.2.2.1 = 2 then z else zke (zkp z (brg st z.2.2.2.2.2.1 0 (29 * z.1.2.2.2.1) 29 0)) (z.1.2.2.2.1 + 1)) y st h') := by
  obtain ⟨nw, be, ge, re, rl, br, pt_, wo, hln, rfl⟩ := hJ
  refine ec_in [some (.ref 0)] rfl rfl ?_
  by_cases hE : z.1.2.2.2.1 = 2
  · simp only [if_pos hE]
    iterate 4 refine ev_nx rfl ?_
    refine ev_ne (fun b5 => absurd b5 (by omega)) (fun b5 => ?_)
    refine ev_nx rfl ?_
    exact ev_ri rfl rfl rfl ⟨rfl, nw, be, ge, re, rl, br, pt_, wo, hln, rfl⟩
  obtain ⟨B2, e2⟩ : ∃ B2, B2 = brg st z.2.2.2.2.2.1 0 (29 * z.1.2.2.2.1) 29 0 := ⟨_, rfl⟩
  have H2 := bring_n (d := d) (a := 5) (b := 8) e2 (by decide) (by decide) (by omega) (by omega)
  simp only [if_neg hE]
  rw [← e2]
  clear e2
  iterate 4 refine ev_nx rfl ?_
  refine ev_ne (fun b5 => ?_) (fun b5 => absurd b5 (by omega))
  iterate 8 refine ev_nx rfl ?_
  refine ev_mul rfl ?_
  refine ev_nx rfl ?_
  refine ev_sv rfl rfl (by decide) rfl rfl rfl rfl (H2 _ rfl rfl) ?_
  iterate 4 refine ev_nx rfl ?_
  refine ev_add rfl ?_
  refine ev_pM rfl rfl rfl rfl rfl rfl rfl ?_
  iterate 2 refine ev_nx rfl ?_
  exact ev_ri rfl rfl rfl ⟨rfl, nw, be, ge, re, rl, br, pt_, wo, hln, rfl⟩
theorem g_back (hJ : Mq z y st h) (hs : st.length = 29) (hb : z.2.2.2.2.2.1.length = 58) (hu : z.1.2.2.2.1 ≤ 2) : Ec (d + 1) m_X9_back [.ref 0] h (fun v h' => v = some (.int (if z.1.2.2.2.1 = 0 then -(nI 2) else nI (z.1.2.2.2.1 - 1))) ∧ Mq (if z.1.2.2.2.1 = 0 then z else zun (zke z (z.1.2.2.2.1 - 1)) 0) y (if z.1.2.2.2.1 = 0 then st else brg z.2.2.2.2.2.1 st (29 * (z.1.2.2.2.1 - 1)) 0 29 0) h') := by
  obtain ⟨nw, be, ge, re, rl, br, pt_, wo, hln, rfl⟩ := hJ
  refine ec_in [some (.ref 0)] rfl rfl ?_
  by_cases hE : z.1.2.2.2.1 = 0
  · simp only [if_pos hE]
    iterate 3 refine ev_nx rfl ?_
    refine ev_ne0 (fun b4 => absurd b4 (by omega)) (fun b4 => ?_)
    refine ev_nx rfl ?_
    exact ev_ri rfl rfl rfl ⟨rfl, nw, be, ge, re, rl, br, pt_, wo, hln, rfl⟩
  obtain ⟨B2, e2⟩ : ∃ B2, B2 = brg z.2.2.2.2.2.1 st (29 * (z.1.2.2.2.1 - 1)) 0 29 0 := ⟨_, rfl⟩
  have H2 := bring_n (d := d) (a := 8) (b := 5) e2 (by decide) (by decide) (by omega) (by omega)
  simp only [if_neg hE]
  rw [← e2]
  clear e2
  iterate 3 refine ev_nx rfl ?_
  refine ev_ne0 (fun b4 => ?_) (fun b4 => absurd b4 (by omega))
  iterate 4 refine ev_nx rfl ?_
  refine ev_sub rfl (by omega) ?_
  refine ev_pM rfl rfl rfl rfl rfl rfl rfl ?_
  iterate 5 refine ev_nx rfl ?_
  refine ev_mul rfl ?_
  iterate 4 refine ev_nx rfl ?_
  refine ev_sv rfl rfl (by decide) rfl rfl rfl rfl (H2 _ rfl rfl) ?_
  iterate 2 refine ev_nx rfl ?_
  refine ev_pM rfl rfl rfl rfl rfl rfl rfl ?_
  iterate 2 refine ev_nx rfl ?_
  exact ev_ri rfl rfl rfl ⟨rfl, nw, be, ge, re, rl, br, pt_, wo, hln, rfl⟩
end XL
