/-! the class's words are the reference's: pace, mending, tries, duel -/
theorem alr_rgt {K : List Nat} {c t j r g : Nat} : ∀ (l : List Nat) (x : List Nat × List Nat), alr K c t j r g l x = decide (rgt K c t j r g l x = l.length) := by
  intro l
  induction l with
  | nil => intro x; rfl
  | cons s l ih =>
    intro x
    have hle := rgt_le (K := K) (c := c) (t := t) (j := j) (r := r) (g := g) l (sy K c t j r g s x)
    rw [alr, rgt, List.length_cons]
    split
    · rw [ih]
      congr 1
      exact propext ⟨fun h => by omega, fun h => by omega⟩
    · symm
      rw [decide_eq_false_iff_not]
      omega
/-! the set of the fewest -/
def mnP (P : Nat → Bool) (N : Nat) (o : Option Nat) : Prop := (o = none ∧ ∀ w, w < N → P w = false) ∨ (∃ w, o = some w ∧ w < N ∧ P w = true ∧ ∀ v, v < N → P v = true → pcn w < pcn v ∨ (pcn w = pcn v ∧ w ≤ v))
theorem mnP_u {P : Nat → Bool} {N : Nat} {o o' : Option Nat} (h : mnP P N o) (h' : mnP P N o') : o = o' := by
  rcases h with ⟨rfl, h1⟩ | ⟨w, rfl, h1, h2, h3⟩
  · rcases h' with ⟨rfl, _⟩ | ⟨w', rfl, k1, k2, _⟩
    · rfl
    · rw [h1 w' k1] at k2; cases k2
  · rcases h' with ⟨rfl, k1⟩ | ⟨w', rfl, k1, k2, k3⟩
    · rw [k1 w h1] at h2; cases h2
    · have a := h3 w' k1 k2
      have b := k3 w h1 h2
      congr 1
      omega
theorem mnF_P {P : Nat → Bool} : ∀ n k b, mnP P k b → mnP P (k + n) (mnF P n k b) := by
  intro n
  induction n with
  | zero => intro k b h; exact h
  | succ n ih =>
    intro k b h
    rw [mnF, show k + (n + 1) = k + 1 + n by omega]
    refine ih (k + 1) _ ?_
    split
    · rename_i hc
      refine .inr ⟨k, rfl, by omega, hc.1, fun v hv hP => ?_⟩
      rcases Nat.lt_or_ge v k with q | q
      · rcases h with ⟨rfl, h1⟩ | ⟨w, rfl, h1, h2, h3⟩
        · rw [h1 v q] at hP; cases hP
        · have a := h3 v q hP
          have b := hc.2 w rfl
          omega
      · obtain rfl : v = k := by omega
        exact .inr ⟨rfl, Nat.le_refl _⟩
    · rename_i hc
      rcases h with ⟨rfl, h1⟩ | ⟨w, rfl, h1, h2, h3⟩
      · refine .inl ⟨rfl, fun w hw => ?_⟩
        rcases Nat.lt_or_ge w k with q | q
        · exact h1 w q
        · obtain rfl : w = k := by omega
          cases hP : P w with
          | false => rfl
          | true => exact absurd ⟨hP, fun x e => (by cases e)⟩ hc
      · refine .inr ⟨w, rfl, by omega, h2, fun v hv hP => ?_⟩
        rcases Nat.lt_or_ge v k with q | q
        · exact h3 v q hP
        · obtain rfl : v = k := by omega
          have : ¬ pcn v < pcn w := fun e => hc ⟨hP, fun x ex => (by cases ex; exact e)⟩
          omega
theorem mnW_P {P : Nat → Bool} {s : Nat} : ∀ n w, (∀ v, v < w → ¬ (pcn v = s ∧ P v = true)) → (mnW P s n w = none ∧ ∀ v, v < w + n → ¬ (pcn v = s ∧ P v = true)) ∨ (∃ u, mnW P s n w = some u ∧ u < w + n ∧ pcn u = s ∧ P u = true ∧ ∀ v, v < u → ¬ (pcn v = s ∧ P v = true)) := by
  intro n
  induction n with
  | zero => intro w h; exact .inl ⟨rfl, h⟩
  | succ n ih =>
    intro w h
    rw [mnW]
    split
    · rename_i hc
      exact .inr ⟨w, rfl, by omega, hc.1, hc.2, h⟩
    · rename_i hc
      have := ih (w + 1) (fun v hv => by
        rcases Nat.lt_or_ge v w with q | q
        · exact h v q
        · obtain rfl : v = w := by omega
          exact hc)
      rwa [show w + 1 + n = w + (n + 1) by omega] at this
theorem pcn32 : ∀ w : Fin 32, pcn w.val ≤ 5 := by decide +kernel
theorem mnC_P {P : Nat → Bool} : ∀ n s, s + n = 6 → (∀ v, v < 32 → P v = true → s ≤ pcn v) → mnP P 32 (mnC P n s) := by
  intro n
  induction n with
  | zero =>
    intro s hs h
    refine .inl ⟨rfl, fun w hw => ?_⟩
    cases hP : P w with
    | false => rfl
    | true => have a := h w hw hP; have b : pcn w ≤ 5 := pcn32 ⟨w, hw⟩; omega
  | succ n ih =>
    intro s hs h
    rw [mnC]
    rcases mnW_P (P := P) (s := s) 32 0 (fun v hv => absurd hv (Nat.not_lt_zero _)) with ⟨e, q⟩ | ⟨u, e, q1, q2, q3, q4⟩
    · rw [e]
      refine ih (s + 1) (by omega) (fun v hv hP => ?_)
      have a := h v hv hP
      rcases Nat.lt_or_ge s (pcn v) with r | r
      · exact r
      · exact absurd ⟨by omega, hP⟩ (q v (by omega))
    · rw [e]
      refine .inr ⟨u, rfl, by omega, q3, fun v hv hP => ?_⟩
      have a := h v hv hP
      rcases Nat.lt_or_ge s (pcn v) with r | r
      · exact .inl (by omega)
      · refine .inr ⟨by omega, ?_⟩
        rcases Nat.lt_or_ge v u with r2 | r2
        · exact absurd ⟨by omega, hP⟩ (q4 v r2)
        · exact r2
theorem mnF_mnC (P : Nat → Bool) : mnF P 32 0 none = mnC P 6 0 := mnP_u (mnF_P (P := P) 32 0 none (.inl ⟨rfl, fun w hw => absurd hw (Nat.not_lt_zero _)⟩)) (mnC_P 6 0 rfl (fun _ _ _ => Nat.zero_le _))
/-! tries -/
theorem mtr_bsr {W : Nat} : ∀ r s b, mtr W r s (b, gpt RT W b) = (bsr RT W r s b (gpt RT W b), gpt RT W (bsr RT W r s b (gpt RT W b))) := by
  intro r
  induction r with
  | zero => intro s b; rfl
  | succ r ih =>
    intro s b
    rw [mtr, bsr]
    by_cases h : gpt RT W s < gpt RT W b
    · rw [if_pos (show gpt RT W s < (b, gpt RT W b).2 from h), if_neg (by omega)]
      exact ih (s + 1) s
    · rw [if_neg (show ¬ gpt RT W s < (b, gpt RT W b).2 from h), if_pos (by omega)]
      exact ih (s + 1) b
theorem trA_trB (W w : Nat) : trA W w = trB W w := by
  have hg := gpt_le (R := RT) W 0
  have e : bsr RT W 30 0 0 26 = bsr RT W 29 1 0 (gpt RT W 0) := by
    rw [bsr, if_neg (by omega)]
  unfold trA trB
  rw [mtr_bsr, e]
  by_cases h : pcn W < 2
  · rw [if_pos h, if_pos (by omega)]
  · rw [if_neg h, if_neg (show ¬ pcn W ≤ 1 by omega)]
/-! duel -/
theorem cut_z : ∀ cc : Fin 32, ∀ p : Fin 5, ((31 ^^^ cc.val) &&& 1 * 2 ^ p.val = 0 ↔ bt cc.val p.val = 1) := by decide +kernel
theorem and_z : ∀ a : Fin 32, ∀ p : Fin 5, (a.val &&& 1 * 2 ^ p.val = 0 ↔ bt a.val p.val = 0) := by decide +kernel
theorem clr_or : ∀ t w : Fin 32, ∀ p : Fin 5, clr (clr t.val w.val) (1 * 2 ^ p.val) = clr t.val (w.val ||| 1 * 2 ^ p.val) := by decide +kernel
theorem clr_orj : ∀ j : Fin 16, ∀ w : Fin 32, ∀ p : Fin 5, clr (clr j.val (mdj w.val)) (mdj (1 * 2 ^ p.val)) = clr j.val (mdj (w.val ||| 1 * 2 ^ p.val)) := by decide +kernel
theorem fo_fold {a : Nat} {g : Nat → Nat → Nat} (v : Nat) : fo a g 5 0 v = (List.range 5).foldl (fun v p => if a &&& 1 * 2 ^ p = 0 then v else g p v) v := rfl
theorem fold5 {f g : Nat → Nat → Nat} (h : ∀ p v, p < 5 → f v p = g v p) (v : Nat) : (List.range 5).foldl f v = (List.range 5).foldl g v := by
  show List.foldl f v [0, 1, 2, 3, 4] = List.foldl g v [0, 1, 2, 3, 4]
  simp only [List.foldl_cons, List.foldl_nil]
  rw [h 0 _ (by decide), h 1 _ (by decide), h 2 _ (by decide), h 3 _ (by decide), h 4 _ (by decide)]
theorem outc_gv {K l : List Nat} {t j : Nat} (ht : t < 32) (hj : j < 16) : ∀ n k w cc, w < 32 → cc < 32 → outc K t j l n (decide (k % 2 = 0)) w cc = gv K l n k (cc, clr t w, clr j (mdj w)) := by
  intro n
  induction n with
  | zero => intro k w cc hw hcc; rfl
  | succ n ih =>
    intro k w cc hw hcc
    rw [outc, gv, fo_fold]
    have hct : clr t w < 32 := clr32 ht
    have hcj : clr j (mdj w) < 16 := Nat.lt_of_le_of_lt clr_lt hj
    have hmd : mdw cc (clr t w) (clr j (mdj w)) < 32 := or32 (or32 (or32 hcc hct) (by omega)) (by omega)
    have e0 : outc K t j l n (!decide (k % 2 = 0)) w cc = gv K l n (k + 1) (cc, clr t w, clr j (mdj w)) := by
      rw [← ih (k + 1) w cc hw hcc]
      congr 1
      rcases (show k % 2 = 0 ∨ k % 2 = 1 by omega) with q | q
      · have q' : ¬ (k + 1) % 2 = 0 := by omega
        simp [q, q']
      · have q' : (k + 1) % 2 = 0 := by omega
        simp [q, q']
    rw [e0]
    refine fold5 (fun p v hp => ?_) _
    have h2 := p2_32 hp
    unfold stp
    rw [if_neg (Nat.succ_ne_zero p), Nat.add_sub_cancel]
    rcases (show k % 2 = 0 ∨ k % 2 = 1 by omega) with q | q
    · have d1 : decide (k % 2 = 0) = true := by simp [q]
      have d2 : decide ((k + 1) % 2 = 0) = false := by simp; omega
      rw [if_pos q, d1]
      have z := cut_z ⟨cc, hcc⟩ ⟨p, hp⟩
      have IH := ih (k + 1) w (cc ||| 1 * 2 ^ p) hw (or32 hcc h2)
      rw [d2] at IH
      show (if (31 ^^^ cc) &&& 1 * 2 ^ p = 0 then v else min v (outc K t j l n false w (cc ||| 1 * 2 ^ p))) = _
      by_cases hb : bt cc p = 1
      · rw [if_pos (z.mpr hb), if_pos hb]
      · rw [if_neg (fun e => hb (z.mp e)), if_neg hb, IH]
        show _ = if k % 2 = 0 then _ else _
        rw [if_pos q]
    · have d1 : decide (k % 2 = 0) = false := by simp; omega
      have d2 : decide ((k + 1) % 2 = 0) = true := by simp; omega
      rw [if_neg (show ¬ k % 2 = 0 by omega), d1]
      have z := and_z ⟨mdw cc (clr t w) (clr j (mdj w)), hmd⟩ ⟨p, hp⟩
      have IH := ih (k + 1) (w ||| 1 * 2 ^ p) (clr cc (1 * 2 ^ p)) (or32 hw h2) (clr32 hcc)
      rw [d2] at IH
      have c1 := clr_or ⟨t, ht⟩ ⟨w, hw⟩ ⟨p, hp⟩
      have c2 := clr_orj ⟨j, hj⟩ ⟨w, hw⟩ ⟨p, hp⟩
      show (if mdw cc (clr t w) (clr j (mdj w)) &&& 1 * 2 ^ p = 0 then v else max v (outc K t j l n true (w ||| 1 * 2 ^ p) (clr cc (1 * 2 ^ p)))) = _
      by_cases hb : bt (mdw cc (clr t w) (clr j (mdj w))) p = 0
      · rw [if_pos (z.mpr hb), if_pos hb]
      · rw [if_neg (fun e => hb (z.mp e)), if_neg hb, IH]
        show _ = if k % 2 = 0 then _ else _
        rw [if_neg (show ¬ k % 2 = 0 by omega)]
        show _ = max v (gv K l n (k + 1) (clr cc (1 * 2 ^ p), clr (clr t w) (1 * 2 ^ p), clr (clr j (mdj w)) (mdj (1 * 2 ^ p))))
        rw [c1, c2]
theorem clr_0 : ∀ t : Fin 32, clr t.val 0 = t.val := by decide +kernel
theorem duel_eq {K l : List Nat} {c t j n : Nat} (hc : c < 32) (ht : t < 32) (hj : j < 16) : outc K t j l n true 0 c = gv K l n 0 (c, t, j) := by
  have e := outc_gv (K := K) (l := l) ht hj n 0 0 c (by decide) hc
  have e1 : clr t 0 = t := clr_0 ⟨t, ht⟩
  have e2 : clr j (mdj 0) = j := clr_0 ⟨j, by omega⟩
  rw [e1, e2] at e
  exact e
