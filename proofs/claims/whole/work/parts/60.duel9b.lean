/-! the reference: worthOf, chosen, duel -/
/-- the better one for one who wants few, or many -/
def cho (few : Bool) (b v : Option Nat) : Option Nat := match b, v with
  | b, none => b
  | none, some v => if few then none else some v
  | some b, some v => if few then (if v < b then some v else some b) else (if v < b then some b else some v)
/-- the value, m turns to come, the k-th first -/
def gv (K l : List Nat) : Nat → Nat → Nat × Nat × Nat → Nat
  | 0, _, x => wv K l x
  | m + 1, k, x => (List.range 5).foldl (fun b g => match stp k x (g + 1) with
    | none => b
    | some x' => if k % 2 = 0 then min b (gv K l m (k + 1) x') else max b (gv K l m (k + 1) x')) (gv K l m (k + 1) x)
section XS
variable {d : Nat} {h : aH} {z : aZ} {y : aY} {st nw be ge re rl br pt_ : List Nat} {wo : List Int32} {K S G : List Nat} {c t j : Nat}
theorem JW_0 (hJ : JW z y st rl br pt_ wo h) : h[0]? = some (xo z.1.1 z.1.2.1 z.1.2.2.1 z.1.2.2.2.1 z.1.2.2.2.2.1 z.1.2.2.2.2.2 y.1 y.2.1 y.2.2.1) := by
  obtain ⟨nw, be, ge, re, hl, rfl⟩ := hJ; rfl
theorem JW_20 (hJ : JW z y st rl br pt_ wo h) : h[20]? = some (.inl (0, wo)) := by
  obtain ⟨nw, be, ge, re, hl, rfl⟩ := hJ; rfl
theorem JW_s {wo' : List Int32} (hJ : JW z y st rl br pt_ wo h) : JW z y st rl br pt_ wo' (h.set 20 (.inl (0, wo'))) := by
  obtain ⟨nw, be, ge, re, hl, rfl⟩ := hJ; exact ⟨nw, be, ge, re, hl, rfl⟩
theorem f_worthOf {m code n : Nat} (ok : lok K S G c t j) (mo : mok z.2.2.2.1 z.2.2.1 z.1.2.1) (hm : m < 6) (hc : code < 2147483648) (hn : n ≤ 4) (hJ : JW z y (ll K S G c t j) rl br pt_ wo h) : Ec (d + 4) m_X9_worthOf [.ref 0, .int (nI m), .int (nI code), .int (nI n)] h (fun v h' => v = some (.int (eo1 ((stM code n 0 (c, t, j)).map (wv K (msg z.2.2.2.1 z.2.2.1 m))))) ∧ JW z y (ll K S G c t j) rl br pt_ wo h') := by
  obtain ⟨nw, be, ge, re, ⟨hn9, hbe, hge, hre⟩, rfl⟩ := hJ
  refine ec_in [some (.ref 0), some (.int (nI m)), some (.int (nI code)), some (.int (nI n)), none, none, none] rfl rfl ?_
  have H : ∀ r k, k + r = n → 1 ≤ k → Ev (d + 4) m_X9_worthOf 6 [some (.ref 0), some (.int (nI m)), some (.int (nI code)), some (.int (nI n)), some (.int (nI (6 ^ (k - 1)))), some (.int (nI k)), none] [] (XM z y (ll K S G c t j) nw be ge re rl br pt_ wo) (fun v h' => v = some (.int (eo1 ((stM code n 0 (c, t, j)).map (wv K (msg z.2.2.2.1 z.2.2.1 m))))) ∧ JW z y (ll K S G c t j) rl br pt_ wo h') := by
    intro r
    induction r with
    | zero =>
      intro k hk h1
      obtain rfl : k = n := by omega
      iterate 3 refine ev_nx rfl ?_
      refine ev_ge (fun b9 => ?_) (fun b9 => absurd b9 (by omega))
      refine ev_nx rfl ?_
      refine ev_vv rfl rfl rfl rfl rfl rfl rfl rfl (f_asItIs (ll_len ok) hn9) ?_
      iterate 2 refine ev_nx rfl ?_
      exact lp_wo mo hm hc hn hbe hge hre k 0 (c, t, j) _ (by omega) ok
    | succ r ih =>
      intro k hk h1
      iterate 3 refine ev_nx rfl ?_
      refine ev_ge (fun b9 => absurd b9 (by omega)) (fun b9 => ?_)
      iterate 2 refine ev_nx rfl ?_
      refine ev_mul rfl ?_
      rw [show 6 ^ (k - 1) * 6 = 6 ^ (k + 1 - 1) by rw [← Nat.pow_succ]; congr 1; omega]
      refine ev_nx rfl ?_
      refine ev_inc rfl ⟨rfl, by decide⟩ rfl rfl ?_
      refine ev_nx rfl ?_
      exact ih (k + 1) (by omega) (by omega)
  rcases Nat.eq_zero_or_pos n with rfl | hn0
  · iterate 7 refine ev_nx rfl ?_
    refine ev_ge (fun b9 => ?_) (fun b9 => absurd b9 (by omega))
    refine ev_nx rfl ?_
    refine ev_vv rfl rfl rfl rfl rfl rfl rfl rfl (f_asItIs (ll_len ok) hn9) ?_
    iterate 2 refine ev_nx rfl ?_
    exact lp_wo mo hm hc hn hbe hge hre 0 0 (c, t, j) _ (by omega) ok
  · iterate 4 refine ev_nx rfl ?_
    exact H (n - 1) 1 (by omega) (by omega)
theorem eo1_le {a b : Option Nat} (ha : ∀ x, a = some x → x < 1000) (hb : ∀ x, b = some x → x < 1000) : (eo1 b ≤ eo1 a) ↔ (match b, a with
    | none, _ => True
    | some _, none => False
    | some x, some v => x ≤ v) := by
  cases b with
  | none =>
    simp only [iff_true]
    cases a with
    | none => exact Int32.le_refl _
    | some v => exact Int32.le_of_lt (lt_m1 (by have := ha v rfl; omega))
  | some x =>
    cases a with
    | none =>
      simp only [iff_false]
      exact Int32.not_le.mpr (lt_m1 (by have := hb x rfl; omega))
    | some v => exact nI_leI (by have := hb x rfl; omega) (by have := ha v rfl; omega)
def wOk (em : List (Option Nat)) : Prop := ∀ q x, em.getD q none = some x → x < 1000
def b2 (b : Bool) : Nat := if b then 1 else 0
theorem mge {em : List (Option Nat)} {q : Nat} (hq : q < em.length) : (em.map eo1)[q]? = some (eo1 (em.getD q none)) := by
  rw [List.getElem?_map, List.getD, List.getElem?_eq_getElem hq]; rfl
theorem f_chosen {E : Nat → Option Nat} {code : Nat} {few : Bool} (hJ : JW z y st rl br pt_ wo h) (hE : ∀ g, g < 6 → wo[6 * code + g]? = some (eo1 (E g))) (hc : 6 * code + 5 < 1296) (hw : ∀ g x, E g = some x → x < 1000) : Ec d m_X9_chosen [.ref 0, .int (nI code), .int (nI (b2 few))] h (rt (.int (eo1 ((List.range 5).foldl (fun b g => cho few b (E (g + 1))) (E 0)))) h) := by
  refine ec_in [some (.ref 0), some (.int (nI code)), some (.int (nI (b2 few))), none, none, none] rfl rfl ?_
  have it : ∀ g (b : Option Nat) l5 (QQ : Option Value → aH → Prop), g < 5 → (∀ x, b = some x → x < 1000) → (∀ l5, Ev d m_X9_chosen 13 [some (.ref 0), some (.int (nI code)), some (.int (nI (b2 few))), some (.int (eo1 (cho few b (E (g + 1))))), some (.int (nI (g + 2))), l5] [] h QQ) → Ev d m_X9_chosen 13 [some (.ref 0), some (.int (nI code)), some (.int (nI (b2 few))), some (.int (eo1 b)), some (.int (nI (g + 1))), l5] [] h QQ := by
    intro g b l5 QQ hg hb kk
    have hv := hw (g + 1)
    iterate 3 refine ev_nx rfl ?_
    refine ev_ge (fun b17 => absurd b17 (by omega)) (fun b17 => ?_)
    refine ev_nx rfl ?_
    refine ev_gf rfl rfl (JW_0 hJ) rfl ?_
    iterate 2 refine ev_nx rfl ?_
    refine ev_mul rfl ?_
    refine ev_nx rfl ?_
    refine ev_add rfl ?_
    refine ev_ia rfl (am_arr_h (by decide) (JW_20 hJ)) (hE (g + 1) (by omega)) ?_
    refine ev_nx rfl ?_
    skip
    generalize E (g + 1) = v at hv kk ⊢
    cases v with
    | none =>
      have kk2 : ∀ l5, Ev d m_X9_chosen 13 [some (.ref 0), some (.int (nI code)), some (.int (nI (b2 few))), some (.int (eo1 b)), some (.int (nI (g + 2))), l5] [] h QQ := by
        intro l5
        have := kk l5
        cases b <;> exact this
      iterate 2 refine ev_nx rfl ?_
      refine ev_t (by decide) ?_
      iterate 2 refine ev_nx rfl ?_
      refine ev_inc rfl ⟨rfl, by decide⟩ rfl rfl ?_
      refine ev_nx rfl ?_
      exact kk2 _
    | some v =>
      have hv1 := hv v rfl
      refine ev_nx rfl ?_
      show Ev d m_X9_chosen 36 _ (.int (nI v) :: _) h QQ
      refine ev_nx rfl ?_
      refine ev_lt0 ?_
      iterate 4 refine ev_nx rfl ?_
      cases b with
      | none =>
        refine ev_t (by show decide (eo1 none ≤ nI v) = true; rw [decide_eq_true_eq]; exact Int32.le_of_lt (lt_m1 (by omega))) ?_
        cases few with
        | true =>
          iterate 2 refine ev_nx rfl ?_
          refine ev_t (by decide) ?_
          iterate 2 refine ev_nx rfl ?_
          refine ev_inc rfl ⟨rfl, by decide⟩ rfl rfl ?_
          refine ev_nx rfl ?_
          exact kk _
        | false =>
          iterate 2 refine ev_nx rfl ?_
          refine ev_f (by decide) ?_
          iterate 3 refine ev_nx rfl ?_
          refine ev_inc rfl ⟨rfl, by decide⟩ rfl rfl ?_
          refine ev_nx rfl ?_
          exact kk _
      | some b =>
        have hb1 := hb b rfl
        refine ev_ge (a := v) (b := b) (fun b43 => ?_) (fun b43 => ?_)
        · have e : cho few (some b) (some v) = if few then some b else some v := by
            show (if few then (if v < b then some v else some b) else (if v < b then some b else some v)) = _
            simp only [if_neg (show ¬ v < b by omega)]
          rw [e] at kk
          cases few with
          | true =>
            iterate 2 refine ev_nx rfl ?_
            refine ev_t (by decide) ?_
            iterate 2 refine ev_nx rfl ?_
            refine ev_inc rfl ⟨rfl, by decide⟩ rfl rfl ?_
            refine ev_nx rfl ?_
            exact kk _
          | false =>
            iterate 2 refine ev_nx rfl ?_
            refine ev_f (by decide) ?_
            iterate 3 refine ev_nx rfl ?_
            refine ev_inc rfl ⟨rfl, by decide⟩ rfl rfl ?_
            refine ev_nx rfl ?_
            exact kk _
        · have e : cho few (some b) (some v) = if few then some v else some b := by
            show (if few then (if v < b then some v else some b) else (if v < b then some b else some v)) = _
            simp only [if_pos b43]
          rw [e] at kk
          cases few with
          | true =>
            iterate 3 refine ev_nx rfl ?_
            refine ev_f (by decide) ?_
            iterate 3 refine ev_nx rfl ?_
            refine ev_inc rfl ⟨rfl, by decide⟩ rfl rfl ?_
            refine ev_nx rfl ?_
            exact kk _
          | false =>
            iterate 3 refine ev_nx rfl ?_
            refine ev_t (by decide) ?_
            iterate 2 refine ev_nx rfl ?_
            refine ev_inc rfl ⟨rfl, by decide⟩ rfl rfl ?_
            refine ev_nx rfl ?_
            exact kk _
  have co : ∀ b g, (∀ x, b = some x → x < 1000) → ∀ x, cho few b (E (g + 1)) = some x → x < 1000 := by
    intro b g hb x
    have hv := hw (g + 1)
    generalize E (g + 1) = v at hv ⊢
    intro e
    cases v with
    | none => cases b <;> exact hb x e
    | some v =>
      have h1 := hv v rfl
      cases b with
      | none =>
        cases few with
        | true => cases e
        | false => cases e; exact h1
      | some b =>
        have h2 := hb b rfl
        have e2 : (if few then (if v < b then some v else some b) else (if v < b then some b else some v)) = some x := e
        (repeat' split at e2) <;> cases e2 <;> assumption
  have h0 := hw 0
  refine ev_nx rfl ?_
  refine ev_gf rfl rfl (JW_0 hJ) rfl ?_
  iterate 2 refine ev_nx rfl ?_
  refine ev_mul rfl ?_
  refine ev_ia rfl (am_arr_h (by decide) (JW_20 hJ)) (hE 0 (by omega)) ?_
  iterate 3 refine ev_nx rfl ?_
  refine it 0 _ _ _ (by decide) h0 (fun l5 => it 1 _ _ _ (by decide) (co _ _ h0) (fun l5 => it 2 _ _ _ (by decide) (co _ _ (co _ _ h0)) (fun l5 => it 3 _ _ _ (by decide) (co _ _ (co _ _ (co _ _ h0))) (fun l5 => it 4 _ _ _ (by decide) (co _ _ (co _ _ (co _ _ (co _ _ h0)))) (fun l5 => ?_)))))
  iterate 3 refine ev_nx rfl ?_
  refine ev_ge (fun b17 => ?_) (fun b17 => absurd b17 (by omega))
  refine ev_nx rfl ?_
  exact ev_ri rfl rfl rfl ⟨rfl, rfl⟩
end XS
