/-! the contest: laying out, ends -/
def co (m : Nat) : aC := .inr (.inr (1, [.ref 77, .ref 82, .ref 87, .int (nI m)]))
def eo1 : Option Nat → Int32
  | some n => nI n
  | none => -(nI 1)
def cat (h : aH) (em : List (Option Nat)) (m : Nat) : Prop := h[76]? = some (co m) ∧ h[87]? = some (.inl (0, em.map eo1))
/-- how many are right at the end: w mended, cc cut -/
def env (K : List Nat) (t j : Nat) (l : List Nat) (w cc : Nat) : Nat := rgt K cc (clr t w) (clr j (mdj w)) 1 1 l z55
def mem (K : List Nat) (t j : Nat) (l : List Nat) (em : List (Option Nat)) : Prop := em.length = 1024 ∧ ∀ w cc, w < 32 → cc < 32 → em.getD (w * 32 + cc) none = none ∨ em.getD (w * 32 + cc) none = some (env K t j l w cc)
/-- only the contest's scratch line and the ends have changed -/
def fe (h h' : aH) : Prop := h'.length = h.length ∧ ∀ q, q < 82 ∨ 86 < q → ¬ q = 87 → h'[q]? = h[q]?
section CO
variable {h : aH} {K K' S G sg ln : List Nat} {em : List (Option Nat)} {c t j c' t' j' m mn d : Nat} {Q : Option Value → aH → Prop}
theorem fe_tr {h1 h2 : aH} (x : fe h h1) (y : fe h1 h2) : fe h h2 := ⟨y.1.trans x.1, fun q a b => (y.2 q a b).trans (x.2 q a b)⟩
theorem fe_fr {h1 : aH} (x : fr 82 86 h h1) : fe h h1 := ⟨x.1, fun q a _ => x.2 q a⟩
theorem cat_fr {h1 : aH} (hm : cat h em m) (x : fr 82 86 h h1) : cat h1 em m := ⟨by rw [x.2 _ (by omega)]; exact hm.1, by rw [x.2 _ (by omega)]; exact hm.2⟩
theorem mat_fr {h1 : aH} {a b : Nat} (hm : mat h sg ln mn) (x : fr a b h h1) (ha : 5 < a) : mat h1 sg ln mn := ⟨by rw [x.2 _ (by omega)]; exact hm.1, by rw [x.2 _ (by omega)]; exact hm.2.1, by rw [x.2 _ (by omega)]; exact hm.2.2⟩
theorem clr32 {c w : Nat} (hc : c < 32) : clr c w < 32 := Nat.lt_of_le_of_lt clr_lt hc
theorem e_right (hx : lnw h 82 K c t j) (hm : mat h sg ln mn) (mo : mok sg ln mn) (hh : h.length ≤ 100000) {x r g : Nat} (hx6 : x < 6) (hr : r < 1000) (hg : g < 1000) : Ec (d + 3) m_X4_rightOn [.ref 3, .ref 82, .int (nI x), .int (nI r), .int (nI g)] h (fun v h' => v = some (.int (nI (rgt K c t j r g (msg sg ln x) z55))) ∧ lnw h' 82 K c t j ∧ fr 82 86 h h') := by
  obtain ⟨S, G, ⟨C, hC, a⟩, ok⟩ := hx
  have hl := lat_lt a
  have h8 : ln.getD x 0 ≤ 8 := by
    have := mo.2.2.1
    rw [List.getD, List.getElem?_eq_getElem (by omega)]; exact mo.2.2.2.1 _ (List.getElem_mem _)
  have H := e_rightOn (d := d) (h := h) (i := 82) (C := C) ⟨hl, hh⟩ (by decide) hm mo.1 mo.2.2.1 mo.2.1 hx6 h8 hr hg ok hC
  rw [lat_self a] at H
  refine ec_mono H (fun r h' q => ?_)
  obtain ⟨rfl, S2, G2, C2, rfl, ok2, hC2⟩ := q
  exact ⟨rfl, ⟨S2, G2, ⟨C2, hC2, lat_of hl⟩, ok2⟩, lh_len, fun q hq => lh_o (by omega)⟩
theorem e_layOut (hc : cat h em m) (hx : ltx h 77 (K, S, G, c, t, j)) (ok : lok K S G c t j) (hs : lnw h 82 K' c' t' j') (hh : h.length ≤ 100000) {w cc : Nat} (hw : w < 32) (hcc : cc < 32) : Ec (d + 1) m_X1_layOut [.ref 76, .int (nI w), .int (nI cc)] h (fun r h' => r = none ∧ lnw h' 82 K cc (clr t w) (clr j (mdj w)) ∧ fr 82 86 h h') := by
  obtain ⟨S', G', hs1, ok'⟩ := hs
  refine ec_in [some (.ref 76), some (.int (nI w)), some (.int (nI cc))] rfl rfl ?_
  refine ev_nx rfl ?_
  refine ev_gf rfl rfl hc.1 rfl ?_
  refine ev_nx rfl ?_
  refine ev_gf rfl rfl hc.1 rfl ?_
  obtain ⟨c1, t1, j1, ho⟩ := ltx_o hs1
  refine ev_v rfl rfl rfl rfl rfl rfl ho rfl (e_copy hs1 hx ⟨ok'.1.1, ok'.2.1.1, ok'.2.2.1.1⟩ ⟨ok.1.1, ok.2.1.1, ok.2.2.1.1⟩ (by decide) hh) (fun rv h2 q => ?_)
  obtain ⟨rfl, q1, q2⟩ := q
  have hc2 := cat_fr hc q2
  obtain ⟨C, hC, a⟩ := q1
  have hl := lat_lt a
  have hI : lI h2 82 := ⟨hl, by rw [q2.1]; exact hh⟩
  have hself := lat_self a
  have H := e_mendAll (d := d) (S := S) (G := G) (C := C) (K := K) hI ok.2.2.2.1 ok.2.2.2.2.1 (show j < 32 by have := ok.2.2.2.2.2; omega) hw
  simp only at hself
  rw [hself] at H
  refine ev_nx rfl ?_
  refine ev_gf rfl rfl hc2.1 rfl ?_
  refine ev_nx rfl ?_
  refine ev_vv rfl rfl rfl rfl rfl rfl a.1 rfl H ?_
  refine ev_nx rfl ?_
  refine ev_gf rfl rfl (show (lh h2 82 K S G C (clr c w) (clr t w) (clr j (mdj w)))[76]? = some (co m) by rw [lh_o (by omega)]; exact hc2.1) rfl ?_
  refine ev_nx rfl ?_
  refine ev_lp (c' := cc) (t' := clr t w) (j' := clr j (mdj w)) hI rfl rfl (by decide) (by decide) rfl ?_
  refine ev_rt rfl ⟨rfl, ⟨S, G, ⟨C, hC, lat_of hl⟩, ok.1, ok.2.1, ok.2.2.1, hcc, clr32 ok.2.2.2.2.1, Nat.lt_of_le_of_lt clr_lt ok.2.2.2.2.2⟩, by rw [lh_len]; exact q2.1, fun q hq => by rw [lh_o (by omega)]; exact q2.2 q hq⟩
theorem e_mendableBehind (hc : cat h em m) (hx : ltx h 77 (K, S, G, c, t, j)) (ok : lok K S G c t j) (hs : lnw h 82 K' c' t' j') (hh : h.length ≤ 100000) {w cc : Nat} (hw : w < 32) (hcc : cc < 32) : Ec (d + 2) m_X1_mendableBehind [.ref 76, .int (nI w), .int (nI cc)] h (fun r h' => r = some (.int (nI (mdw cc (clr t w) (clr j (mdj w))))) ∧ lnw h' 82 K cc (clr t w) (clr j (mdj w)) ∧ fr 82 86 h h') := by
  refine ec_in [some (.ref 76), some (.int (nI w)), some (.int (nI cc))] rfl rfl ?_
  iterate 3 refine ev_nx rfl ?_
  refine ev_v rfl rfl rfl rfl rfl rfl hc.1 rfl (e_layOut hc hx ok hs hh hw hcc) (fun rv h2 q => ?_)
  obtain ⟨rfl, q1, q2⟩ := q
  have q1' := q1
  obtain ⟨S2, G2, ⟨C, hC, a⟩, ok2⟩ := q1
  have hl := lat_lt a
  have H := e_mendableWires (d := d + 1) (h := h2) (i := 82) (K := K) (S := S2) (G := G2) (C := C) (c := cc) (t := clr t w) ⟨hl, by rw [q2.1]; exact hh⟩ (show clr j (mdj w) < 32 by have := ok2.2.2.2.2.2; omega)
  have hself := lat_self a
  simp only at hself
  rw [hself] at H
  refine ev_nx rfl ?_
  refine ev_gf rfl rfl (cat_fr hc q2).1 rfl ?_
  refine ev_vi rfl rfl rfl rfl rfl rfl a.1 rfl H ?_
  exact ev_ri rfl rfl rfl ⟨rfl, q1', q2⟩
theorem q_ix : ∀ w cc : Fin 32, w.val * 2 ^ 5 ||| cc.val = w.val * 32 + cc.val := by decide +kernel
theorem rgt_le {r g : Nat} : ∀ l x, rgt K c t j r g l x ≤ l.length := by
  intro l
  induction l with
  | nil => intro x; exact Nat.le_refl _
  | cons s l ih =>
    intro x
    rw [rgt, List.length_cons]
    have := ih (sy K c t j r g s x)
    split <;> omega
theorem mgo {q : Nat} (hq : q < em.length) : (em.map eo1)[q]? = some (eo1 (em.getD q none)) := by
  rw [List.getElem?_map, List.getD, List.getElem?_eq_getElem hq]; rfl
end CO
