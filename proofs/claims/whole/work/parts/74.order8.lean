/-! the class: find, order, lay -/
/-- what is shown by which needle where, over some signs -/
def shn (K : List Nat) (c t j r : Nat) : Nat → Nat → List Nat → List Nat
  | 0, _, sh => sh
  | n + 1, s, sh => shn K c t j r n (s + 1) (sha K (cry s c t j) s r 5 0 sh)
def z25 : List Nat := List.replicate 25 0
theorem sha_len {K C : List Nat} {s n : Nat} : ∀ r a sh, (sha K C s n r a sh).length = sh.length := by
  intro r
  induction r with
  | zero => intro a sh; rfl
  | succ r ih => intro a sh; rw [sha, ih, shp_len]
theorem shn_len {K : List Nat} {c t j r : Nat} : ∀ n s sh, (shn K c t j r n s sh).length = sh.length := by
  intro n
  induction n with
  | zero => intro s sh; rfl
  | succ n ih => intro s sh; rw [shn, ih, sha_len]
section PH
variable {h h' : aH} {V : aV} {d i : Nat} {sh ch be K S G : List Nat} {c t j : Nat} {mo : Option Nat}
/-- only the trial line and the arrangement have changed -/
def fa (h h' : aH) : Prop := h'.length = h.length ∧ ∀ q, q < 11 ∨ 15 < q → q < 88 ∨ 91 < q → h'[q]? = h[q]?
theorem e_find {r : Nat} (hx : lnw h 11 K c t j) (ha : aat h sh ch be mo) (hl : sh.length = 25 ∧ ch.length = 5 ∧ be.length = 5) (hh : h.length ≤ 100000) (hr : r < 1000) : Ec (d + 7) m_X0_find [.ref 88, .ref 11, .int (nI r)] h (fun v h' => v = none ∧ lnw h' 11 K c t j ∧ (∃ ch', aat h' (shn K c t j r 20 0 z25) ch' ((dpm 5 0).foldl (osb (shn K c t j r 20 0 z25) 0 1048575 []) (none, be)).2 ((dpm 5 0).foldl (osb (shn K c t j r 20 0 z25) 0 1048575 []) (none, be)).1 ∧ ch'.length = 5) ∧ fa h h') := by
  obtain ⟨S, G, ⟨C, hC, hlat⟩, ok⟩ := hx
  have hlt := lat_lt hlat
  have h82 : 91 < h.length := (List.getElem?_eq_some_iff.mp ha.2.2.2).1
  refine ec_in [some (.ref 88), some (.ref 11), some (.int (nI r)), none] rfl rfl ?_
  have HF := e_fill (d := d + 6) (h := h) (a := 89) (l := sh.map nI) (v := nI 0) (by decide) ha.2.1 (by rw [List.length_map]; omega)
  have e25 : (.inl (0, List.replicate (sh.map nI).length (nI 0)) : aC) = ar z25 := by
    rw [List.length_map, hl.1]; rfl
  rw [e25] at HF
  have H : ∀ n s sh1 C1, s + n = 20 → sh1.length = 25 → C1.length = 5 → shn K c t j r n s sh1 = shn K c t j r 20 0 z25 → Ev (d + 7) m_X0_find 10 [some (.ref 88), some (.ref 11), some (.int (nI r)), some (.int (nI s))] [] (lh (h.set 89 (ar sh1)) 11 K S G C1 c t j) (fun v h' => v = none ∧ lnw h' 11 K c t j ∧ (∃ ch', aat h' (shn K c t j r 20 0 z25) ch' ((dpm 5 0).foldl (osb (shn K c t j r 20 0 z25) 0 1048575 []) (none, be)).2 ((dpm 5 0).foldl (osb (shn K c t j r 20 0 z25) 0 1048575 []) (none, be)).1 ∧ ch'.length = 5) ∧ fa h h') := by
    intro n
    induction n with
    | zero =>
      intro s sh1 C1 hs hsh hC1 he
      have hi : lI (h.set 89 (ar sh1)) 11 := ⟨by rw [List.length_set]; exact hlt, by rw [List.length_set]; exact hh⟩
      obtain rfl : sh1 = shn K c t j r 20 0 z25 := he
      generalize shn K c t j r 20 0 z25 = shF at hsh hi ⊢
      have k78 : (lh (h.set 89 (ar shF)) 11 K S G C1 c t j)[88]? = some (ao (eo1 mo)) := by rw [lh_o (by omega), gset_n (by decide)]; exact ha.1
      have A1 : aat ((lh (h.set 89 (ar shF)) 11 K S G C1 c t j).set 88 (ao (-(nI 1)))) shF ch be none := ⟨gset_s k78, by rw [gset_n (by decide), lh_o (by omega), List.getElem?_set_self (by omega)], by rw [gset_n (by decide), lh_o (by omega), gset_n (by decide)]; exact ha.2.2.1, by rw [gset_n (by decide), lh_o (by omega), gset_n (by decide)]; exact ha.2.2.2⟩
      have L1 : ltx ((lh (h.set 89 (ar shF)) 11 K S G C1 c t j).set 88 (ao (-(nI 1)))) 11 (K, S, G, c, t, j) := ltx_fr (lh_ltx hi hC1).1 (fun q a b => List.getElem?_set_ne (show 88 ≠ q by omega))
      have F1 : fa h ((lh (h.set 89 (ar shF)) 11 K S G C1 c t j).set 88 (ao (-(nI 1)))) := ⟨by rw [List.length_set, lh_len, List.length_set], fun q a b => by rw [gset_n (by omega), lh_o (by omega), gset_n (by omega)]⟩
      have IH := e_fillFrom (d := d) hsh 5 0 0 1048575 ch (none, be) ((lh (h.set 89 (ar shF)) 11 K S G C1 c t j).set 88 (ao (-(nI 1)))) rfl (by decide) (by decide) A1 hl.2.1 hl.2.2 (fun v e => (by cases e))
      iterate 3 refine ev_nx rfl ?_
      refine ev_ge (fun b13 => ?_) (fun b13 => absurd b13 (by omega))
      iterate 2 refine ev_nx rfl ?_
      refine ev_pM rfl rfl k78 rfl rfl rfl rfl ?_
      iterate 3 refine ev_nx rfl ?_
      refine ev_nx rfl ?_
      show Ev _ _ _ _ (.int (nI 1048575) :: _) _ _
      refine ev_v rfl rfl rfl rfl rfl rfl A1.1 rfl (ec_le (by omega) IH) (fun rv h2 q => ?_)
      obtain ⟨rfl, ⟨ch2, q1, q2, q3⟩, q4⟩ := q
      refine ev_rt rfl ⟨rfl, ⟨S, G, ltx_fr L1 (fun q a b => q4.2 q (by omega)), ok⟩, ⟨ch2, q1, q2⟩, ?_⟩
      exact ⟨by rw [q4.1]; exact F1.1, fun q a b => by rw [q4.2 q b]; exact F1.2 q a b⟩
    | succ n ih =>
      intro s sh1 C1 hs hsh hC1 he
      have hi : lI (h.set 89 (ar sh1)) 11 := ⟨by rw [List.length_set]; exact hlt, by rw [List.length_set]; exact hh⟩
      rw [shn] at he
      have hjj := ok.2.2.2.2.2
      have HC := e_carrySign (d := d + 5) (h := h.set 89 (ar sh1)) (i := 11) (K := K) (S := S) (G := G) (C := C1) (c := c) (t := t) (j := j) hi hC1 ok.2.2.2.1 ok.2.2.2.2.1 (show j < 32 by omega) (s := s) (by omega)
      have HN := e_noteShown (d := d + 3) (h := h.set 89 (ar sh1)) (i := 11) (K := K) (S := S) (G := G) (C := cry s c t j) (c := c) (t := t) (j := j) (mo := eo1 mo) hi (by decide) (by rw [gset_n (by decide)]; exact ha.1) (sh := sh1) (List.getElem?_set_self (by omega)) hsh ok.1 cry_len (cry_lt (by omega)) (s := s) (n := r) (by omega) hr
      rw [set_set] at HN
      have k78 : ∀ C, (lh (h.set 89 (ar sh1)) 11 K S G C c t j)[88]? = some (ao (eo1 mo)) := fun C => by rw [lh_o (by omega), gset_n (by decide)]; exact ha.1
      iterate 3 refine ev_nx rfl ?_
      refine ev_ge (fun b13 => absurd b13 (by omega)) (fun b13 => ?_)
      iterate 2 refine ev_nx rfl ?_
      refine ev_vv rfl rfl rfl rfl rfl rfl (lh_0 hi.1) rfl HC ?_
      iterate 4 refine ev_nx rfl ?_
      refine ev_vv rfl rfl rfl rfl rfl rfl (k78 _) rfl HN ?_
      refine ev_inc rfl ⟨rfl, by decide⟩ rfl rfl ?_
      refine ev_nx rfl ?_
      exact ih (s + 1) _ _ (by omega) (by rw [sha_len]; exact hsh) cry_len he
  have e0 : h.set 89 (ar z25) = lh (h.set 89 (ar z25)) 11 K S G C c t j := by
    refine (lat_self (g := h.set 89 (ar z25)) (o := 11) ⟨?_, ?_, ?_, ?_, ?_⟩).symm
    · rw [gset_n (by decide)]; exact hlat.1
    · rw [gset_n (by decide)]; exact hlat.2.1
    · rw [gset_n (by decide)]; exact hlat.2.2.1
    · rw [gset_n (by decide)]; exact hlat.2.2.2.1
    · rw [gset_n (by decide)]; exact hlat.2.2.2.2
  refine ev_nx rfl ?_
  refine ev_gf rfl rfl ha.1 rfl ?_
  refine ev_nx rfl ?_
  refine ev_sv rfl rfl (by decide) rfl rfl rfl rfl HF ?_
  iterate 2 refine ev_nx rfl ?_
  rw [e0]
  exact H 20 0 z25 C rfl rfl hC rfl
theorem XH_49 (X : XH V h) (f : fa h h') (x : xq4 h') (y : xq9 h') : XH V h' := by
  obtain ⟨h0, h1, h2, h3, h4, h5, h6, h7, h8, h9⟩ := X
  exact ⟨xq0_mv h0 f.1 (f.2 _ (by omega) (by omega)), xq1_mv h1 (fun q _ _ => f.2 q (by omega) (by omega)), xq2_mv h2 (fun q _ _ => f.2 q (by omega) (by omega)), xq3_mv h3 (fun q _ _ => f.2 q (by omega) (by omega)), x, xq5_mv h5 (fun q _ _ => f.2 q (by omega) (by omega)), xq6_mv h6 (fun q _ _ => f.2 q (by omega) (by omega)), xq7_mv h7 (fun q _ _ => f.2 q (by omega) (by omega)), xq8_mv h8 (fun q _ _ => f.2 q (by omega) (by omega)), y⟩
theorem c_order {r : Nat} {k : Option Nat} (X : XH V h) (hr : 1 ≤ r ∧ r ≤ 3) (hk : ∀ q, k = some q → q ≤ 4) : Ec (d + 8) m_X8_order [.ref 0, .int (nI r), .int (oI k)] h (fun v h' => v = some (.int (orA k ((dpm 5 0).foldl (osb (shn V.2.2.1.1 V.2.2.1.2.2.2.1 V.2.2.1.2.2.2.2.1 V.2.2.1.2.2.2.2.2 r 20 0 z25) 0 1048575 []) (none, z5)))) ∧ XH V h') := by
  have w1 : wi (nI r) (nI 1) (nI 3) = 1 := by rw [wi_n (by omega) (by omega) (by omega), if_pos (by omega)]
  have w2 := wi_oI (n := 4) (by omega) hk
  obtain ⟨c1, t1, j1, e11⟩ := XH_11 X
  have HC := c_copyT (d := d + 7) X
  generalize V.2.2.1.1 = K at HC ⊢
  generalize V.2.2.1.2.2.2.1 = c at HC ⊢
  generalize V.2.2.1.2.2.2.2.1 = t at HC ⊢
  generalize V.2.2.1.2.2.2.2.2 = j at HC ⊢
  obtain ⟨l, hD⟩ : ∃ l, dpm 5 0 = [0, 1, 2, 3, 4] :: l := by
    have q := dpm_ok.2.1
    cases hE : dpm 5 0 with
    | nil => rw [hE] at q; cases q
    | cons a l =>
      rw [hE] at q
      obtain rfl : a = [0, 1, 2, 3, 4] := Option.some.inj q
      exact ⟨l, rfl⟩
  have hDl := dpm_len 5 0
  refine ec_in [some (.ref 0), some (.int (nI r)), some (.int (oI k))] rfl rfl ?_
  refine ev_nx rfl ?_
  refine ev_si rfl rfl (by decide) rfl rfl rfl rfl (ec_le (by omega) (e_isBeats _ _)) ?_
  rw [w1]
  refine ev_nx rfl ?_
  refine ev_f (by decide) ?_
  iterate 3 refine ev_nx rfl ?_
  refine ev_si rfl rfl (by decide) rfl rfl rfl rfl (ec_le (by omega) (e_within _ _ _ _)) ?_
  rw [w2]
  refine ev_nx rfl ?_
  refine ev_t (by decide) ?_
  refine ev_nx rfl ?_
  refine ev_gf rfl rfl X.1.2 rfl ?_
  refine ev_nx rfl ?_
  refine ev_gf rfl rfl X.1.2 rfl ?_
  refine ev_v rfl rfl rfl rfl rfl rfl e11 rfl HC (fun rv h2 q => ?_)
  obtain ⟨rfl, X2⟩ := q
  obtain ⟨sh, ch, be, mo, ha, hl⟩ := X2.1.2.2.2.2.2.2.2.2.2
  refine ev_nx rfl ?_
  refine ev_gf rfl rfl X2.1.1.2 rfl ?_
  refine ev_nx rfl ?_
  refine ev_gf rfl rfl X2.1.1.2 rfl ?_
  refine ev_nx rfl ?_
  refine ev_v rfl rfl rfl rfl rfl rfl ha.1 rfl (e_find X2.2 ha hl (XH_len X2.1) (by omega)) (fun rv h3 q => ?_)
  obtain ⟨rfl, q1, ⟨ch2, q2, q3⟩, q4⟩ := q
  iterate 2 refine ev_nx rfl ?_
  skip
  have e0 : (dpm 5 0).foldl (osb (shn K c t j r 20 0 z25) 0 1048575 []) (none, z5) = (dpm 5 0).foldl (osb (shn K c t j r 20 0 z25) 0 1048575 []) (none, be) := by
    rw [hD]; rfl
  rw [e0]
  have hlF : ((dpm 5 0).foldl (osb (shn K c t j r 20 0 z25) 0 1048575 []) (none, be)).2.length = 5 := fold_l _ _ hl.2.2 (fun R hR => by rw [List.nil_append]; exact hDl R hR)
  have hsl : (shn K c t j r 20 0 z25).length = 25 := by rw [shn_len]; rfl
  generalize (dpm 5 0).foldl (osb (shn K c t j r 20 0 z25) 0 1048575 []) (none, be) = sF at hlF q2 ⊢
  have X3 : XH V h3 := XH_49 X2.1 q4 ⟨K, c, t, j, q1⟩ ⟨_, ch2, sF.2, sF.1, q2, hsl, q3, hlF⟩
  cases k with
  | none =>
    refine ev_nx rfl ?_
    refine ev_f (by decide) ?_
    refine ev_nx rfl ?_
    refine ev_gf rfl rfl X3.1.2 rfl ?_
    refine ev_gf rfl rfl q2.1 rfl ?_
    refine ev_nx rfl ?_
    exact ev_ri rfl rfl rfl ⟨rfl, X3⟩
  | some k =>
    have hk4 := hk k rfl
    refine ev_nx rfl ?_
    refine ev_if (fun _ => ?_) (fun q => absurd (show nI k = -(nI 1) by simpa [am_c2, oI] using q) (oI_ne (by omega)))
    refine ev_nx rfl ?_
    refine ev_gf rfl rfl X3.1.2 rfl ?_
    refine ev_gf rfl rfl q2.1 rfl ?_
    refine ev_nx rfl ?_
    show Ev _ _ _ _ (.int (nI k) :: _) _ _
    refine ev_lN rfl q2.2.2.2 (by omega) ?_
    exact ev_ri rfl rfl rfl ⟨rfl, X3⟩
end PH
