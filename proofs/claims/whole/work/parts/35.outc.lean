/-! the contest: outcome -/
def fo (a : Nat) (g : Nat → Nat → Nat) : Nat → Nat → Nat → Nat
  | 0, _, v => v
  | r + 1, p, v => fo a g r (p + 1) (if a &&& 1 * 2 ^ p = 0 then v else g p v)
/-- the wires that may be cut, or mended -/
def och (t j : Nat) (b : Bool) (w cc : Nat) : Nat := if b then 31 ^^^ cc else mdw cc (clr t w) (clr j (mdj w))
/-- how many are right when both do their best, n deeds to come; b: the next one cuts -/
def outc (K : List Nat) (t j : Nat) (l : List Nat) : Nat → Bool → Nat → Nat → Nat
  | 0, _, w, cc => env K t j l w cc
  | n + 1, b, w, cc => fo (och t j b w cc) (fun p v => if b then min v (outc K t j l n false w (cc ||| 1 * 2 ^ p)) else max v (outc K t j l n true (w ||| 1 * 2 ^ p) (clr cc (1 * 2 ^ p)))) 5 0 (outc K t j l n (!b) w cc)
section CU
variable {h : aH} {K S G sg ln l : List Nat} {c t j m mn d : Nat} {Q : Option Value → aH → Prop}
theorem fo_le {a B : Nat} {g : Nat → Nat → Nat} (hg : ∀ p v, v ≤ B → g p v ≤ B) : ∀ r p v, v ≤ B → fo a g r p v ≤ B := by
  intro r
  induction r with
  | zero => intro p v hv; exact hv
  | succ r ih =>
    intro p v hv
    rw [fo]
    refine ih _ _ ?_
    split
    · exact hv
    · exact hg p v hv
theorem outc_le : ∀ n b w cc, outc K t j l n b w cc ≤ l.length := by
  intro n
  induction n with
  | zero => intro b w cc; exact rgt_le _ _
  | succ n ih =>
    intro b w cc
    rw [outc]
    refine fo_le (fun p v hv => ?_) _ _ _ (ih _ _ _)
    have h1 := ih false w (cc ||| 1 * 2 ^ p)
    have h2 := ih true (w ||| 1 * 2 ^ p) (clr cc (1 * 2 ^ p))
    split <;> omega
theorem nt_and : ∀ cc : Fin 32, ∀ p : Fin 5, (nI cc.val ^^^ -(nI 1)) &&& nI (1 * 2 ^ p.val) = nI ((31 ^^^ cc.val) &&& 1 * 2 ^ p.val) := by decide +kernel
theorem or32 {a b : Nat} (ha : a < 32) (hb : b < 32) : a ||| b < 32 := Nat.or_lt_two_pow (n := 5) ha hb
theorem p2_32 {p : Nat} (hp : p < 5) : 1 * 2 ^ p < 32 := by
  have := Nat.pow_lt_pow_right (a := 2) (by decide) hp; omega
def b01 (b : Bool) : Nat := if b then 1 else 0
theorem cin_x {h1 : aH} {x : aN} (hx : ltx h 77 x) (hf : fe h h1) : ltx h1 77 x := ltx_fr hx (fun q h1 h2 => hf.2 q (by omega) (by omega))
theorem mat_fe {h1 : aH} (hm : mat h sg ln mn) (x : fe h h1) : mat h1 sg ln mn := ⟨by rw [x.2 _ (by omega) (by omega)]; exact hm.1, by rw [x.2 _ (by omega) (by omega)]; exact hm.2.1, by rw [x.2 _ (by omega) (by omega)]; exact hm.2.2⟩
theorem e_outcome (ok : lok K S G c t j) (mo : mok sg ln mn) (hm6 : m < 6) : ∀ n b w cc h, n < 1000 → w < 32 → cc < 32 → cin K t j (msg sg ln m) m h → ltx h 77 (K, S, G, c, t, j) → mat h sg ln mn → h.length ≤ 100000 → Ec (d + 5 + n) m_X1_outcome [.ref 76, .ref 3, .int (nI n), .int (nI (b01 b)), .int (nI w), .int (nI cc)] h (fun r h' => r = some (.int (nI (outc K t j (msg sg ln m) n b w cc))) ∧ cin K t j (msg sg ln m) m h' ∧ fe h h') := by
  have hml : (msg sg ln m).length ≤ 48 := by
    unfold msg; rw [List.length_take, List.length_drop, mo.1]; omega
  have hj := ok.2.2.2.2.2
  have ht := ok.2.2.2.2.1
  intro n
  induction n with
  | zero =>
    intro b w cc h hn hw hcc hci hx hM hh
    refine ec_in [some (.ref 76), some (.ref 3), some (.int (nI 0)), some (.int (nI (b01 b))), some (.int (nI w)), some (.int (nI cc)), none, none, none, none] rfl rfl ?_
    iterate 2 refine ev_nx rfl ?_
    refine ev_f (by decide) ?_
    iterate 4 refine ev_nx rfl ?_
    have hci' := hci
    obtain ⟨⟨em, hc, me⟩, _⟩ := hci
    refine ev_v rfl rfl rfl rfl rfl rfl hc.1 rfl (e_endOf hci' hx ok hM mo hm6 hh hw hcc) (fun rv h2 q => ?_)
    obtain ⟨rfl, q1, q2⟩ := q
    exact ev_ri rfl rfl rfl ⟨rfl, q1, q2⟩
  | succ n ih =>
    intro b w cc h hn hw hcc hci hx hM hh
    have LP : ∀ (X : Int32), (∀ p, p < 5 → X &&& nI (1 * 2 ^ p) = nI (och t j b w cc &&& 1 * 2 ^ p)) → ∀ r p v h1 l8, p + r = 5 → v ≤ 48 → cin K t j (msg sg ln m) m h1 → fe h h1 → Ev (d + 5 + n + 1) m_X1_outcome 61 [some (.ref 76), some (.ref 3), some (.int (nI (n + 1))), some (.int (nI (b01 b))), some (.int (nI w)), some (.int (nI cc)), some (.int (nI v)), some (.int X), some (.int (nI p)), l8] [] h1 (fun r' h' => r' = some (.int (nI (fo (och t j b w cc) (fun p v => if b then min v (outc K t j (msg sg ln m) n false w (cc ||| 1 * 2 ^ p)) else max v (outc K t j (msg sg ln m) n true (w ||| 1 * 2 ^ p) (clr cc (1 * 2 ^ p)))) r p v))) ∧ cin K t j (msg sg ln m) m h' ∧ fe h h') := by
      intro X hX r
      induction r with
      | zero =>
        intro p v h1 l8 hp hv hc1 hf
        iterate 3 refine ev_nx rfl ?_
        refine ev_ge (fun _ => ?_) (fun h => absurd h (by omega))
        refine ev_nx rfl ?_
        exact ev_ri rfl rfl rfl ⟨rfl, hc1, hf⟩
      | succ r ihr =>
        intro p v h1 l8 hp hv hc1 hf
        have hp5 : p < 5 := by omega
        have h32 := p2_32 hp5
        have hl1 : h1.length ≤ 100000 := by rw [hf.1]; exact hh
        have hc1' := hc1
        obtain ⟨⟨em, hc, me⟩, _⟩ := hc1
        rw [fo]
        iterate 3 refine ev_nx rfl ?_
        refine ev_ge (fun h => absurd h (by omega)) (fun _ => ?_)
        iterate 3 refine ev_nx rfl ?_
        rw [n_shl (by omega) (p2_lt hp5)]
        iterate 4 refine ev_nx rfl ?_
        rw [hX p hp5]
        have ha : och t j b w cc &&& 1 * 2 ^ p ≤ 1 * 2 ^ p := Nat.and_le_right
        refine ev_nx rfl ?_
        refine ev_ne0 (fun h0 => ?_) (fun h0 => ?_)
        · rw [if_neg h0]
          cases b with
          | true =>
            iterate 2 refine ev_nx rfl ?_
            refine ev_f (by decide) ?_
            iterate 6 refine ev_nx rfl ?_
            rw [pk_sub (by omega), Nat.add_sub_cancel]
            iterate 5 refine ev_nx rfl ?_
            rw [n_or]
            refine ev_v rfl rfl rfl rfl rfl rfl hc.1 rfl (ih false w (cc ||| 1 * 2 ^ p) h1 (by omega) hw (or32 hcc h32) hc1' (cin_x hx hf) (mat_fe hM hf) hl1) (fun rv h2 q => ?_)
            obtain ⟨rfl, q1, q2⟩ := q
            have ho := outc_le (K := K) (t := t) (j := j) (l := msg sg ln m) n false w (cc ||| 1 * 2 ^ p)
            refine ev_nx rfl ?_
            rw [n_min (by omega) (by omega)]
            iterate 4 refine ev_nx rfl ?_
            rw [nI_add]
            exact ihr (p + 1) _ h2 _ (by omega) (by first | omega | (simp only [if_true]; omega)) q1 (fe_tr hf q2)
          | false =>
            have hcl := clr_n ⟨cc, hcc⟩ ⟨1 * 2 ^ p, h32⟩
            simp only at hcl
            iterate 2 refine ev_nx rfl ?_
            refine ev_t (by decide) ?_
            iterate 6 refine ev_nx rfl ?_
            rw [pk_sub (by omega), Nat.add_sub_cancel]
            iterate 4 refine ev_nx rfl ?_
            rw [n_or]
            iterate 5 refine ev_nx rfl ?_
            rw [hcl]
            refine ev_v rfl rfl rfl rfl rfl rfl hc.1 rfl (ih true (w ||| 1 * 2 ^ p) (clr cc (1 * 2 ^ p)) h1 (by omega) (or32 hw h32) (clr32 hcc) hc1' (cin_x hx hf) (mat_fe hM hf) hl1) (fun rv h2 q => ?_)
            obtain ⟨rfl, q1, q2⟩ := q
            have ho := outc_le (K := K) (t := t) (j := j) (l := msg sg ln m) n true (w ||| 1 * 2 ^ p) (clr cc (1 * 2 ^ p))
            refine ev_nx rfl ?_
            rw [n_max (by omega) (by omega)]
            iterate 3 refine ev_nx rfl ?_
            rw [nI_add]
            exact ihr (p + 1) _ h2 _ (by omega) (by first | omega | (simp only [Bool.false_eq_true, if_false]; omega)) q1 (fe_tr hf q2)
        · rw [if_pos h0]
          iterate 3 refine ev_nx rfl ?_
          rw [nI_add]
          exact ihr (p + 1) v h1 _ (by omega) hv hc1' hf
    have hci' := hci
    obtain ⟨⟨em, hc, me⟩, K', c', t', j', hs⟩ := hci
    refine ec_in [some (.ref 76), some (.ref 3), some (.int (nI (n + 1))), some (.int (nI (b01 b))), some (.int (nI w)), some (.int (nI cc)), none, none, none, none] rfl rfl ?_
    rw [outc]
    iterate 2 refine ev_nx rfl ?_
    refine ev_gt0 (fun _ => ?_) (fun h => absurd h (by omega))
    iterate 5 refine ev_nx rfl ?_
    rw [pk_sub (by omega), Nat.add_sub_cancel]
    have ho := outc_le (K := K) (t := t) (j := j) (l := msg sg ln m) n (!b) w cc
    cases b with
    | true =>
      iterate 2 refine ev_nx rfl ?_
      refine ev_t (by decide) ?_
      iterate 3 refine ev_nx rfl ?_
      refine ev_v rfl rfl rfl rfl rfl rfl hc.1 rfl (ih false w cc h (by omega) hw hcc hci' hx hM hh) (fun rv h2 q => ?_)
      obtain ⟨rfl, q1, q2⟩ := q
      iterate 3 refine ev_nx rfl ?_
      refine ev_f (by decide) ?_
      iterate 7 refine ev_nx rfl ?_
      exact LP _ (fun p hp => nt_and ⟨cc, hcc⟩ ⟨p, hp⟩) 5 0 _ h2 none rfl (by simp only [Bool.not_true] at ho; omega) q1 q2
    | false =>
      iterate 2 refine ev_nx rfl ?_
      refine ev_f (by decide) ?_
      iterate 4 refine ev_nx rfl ?_
      refine ev_v rfl rfl rfl rfl rfl rfl hc.1 rfl (ih true w cc h (by omega) hw hcc hci' hx hM hh) (fun rv h2 q => ?_)
      obtain ⟨rfl, q1, q2⟩ := q
      have q1' := q1
      obtain ⟨⟨em2, hc2, me2⟩, K2, c2, t2, j2, hs2⟩ := q1
      iterate 3 refine ev_nx rfl ?_
      refine ev_t (by decide) ?_
      iterate 3 refine ev_nx rfl ?_
      refine ev_v rfl rfl rfl rfl rfl rfl hc2.1 rfl (ec_le (d := d + 2) (d' := d + 5 + n) (by omega) (e_mendableBehind hc2 (cin_x hx q2) ok hs2 (by rw [q2.1]; exact hh) hw hcc)) (fun rv h3 q => ?_)
      obtain ⟨rfl, q3, q4⟩ := q
      iterate 3 refine ev_nx rfl ?_
      exact LP _ (fun p hp => n_and _ _) 5 0 _ h3 none rfl (by simp only [Bool.not_false] at ho; omega) ⟨⟨em2, cat_fr hc2 q4, me2⟩, _, _, _, _, q3⟩ (fe_tr q2 (fe_fr q4))
end CU
