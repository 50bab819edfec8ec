/-! the reference: duel -/
def vl (K l : List Nat) (x0 : Nat × Nat × Nat) (n k code : Nat) : Option Nat := (stM code k 0 x0).map (gv K l (n - k) k)
section XT
variable {d : Nat} {h : aH} {z : aZ} {y : aY} {st nw be ge re rl br pt_ : List Nat} {wo : List Int32} {K S G l : List Nat} {c t j : Nat} {x0 : Nat × Nat × Nat}
theorem gv_le : ∀ m k x, gv K l m k x ≤ l.length := by
  intro m
  induction m with
  | zero => intro k x; exact rgt_le _ _
  | succ m ih =>
    intro k x
    rw [gv]
    have H : ∀ (L : List Nat) b, b ≤ l.length → L.foldl (fun b g => match stp k x (g + 1) with
      | none => b
      | some x' => if k % 2 = 0 then min b (gv K l m (k + 1) x') else max b (gv K l m (k + 1) x')) b ≤ l.length := by
      intro L
      induction L with
      | nil => intro b hb; exact hb
      | cons g L ihL =>
        intro b hb
        rw [List.foldl_cons]
        refine ihL _ ?_
        cases stp k x (g + 1) with
        | none => exact hb
        | some x' =>
          have := ih (k + 1) x'
          show (if k % 2 = 0 then min b (gv K l m (k + 1) x') else max b (gv K l m (k + 1) x')) ≤ _
          split <;> omega
    exact H _ _ (ih (k + 1) x)
theorem vl_lt (hl : l.length ≤ 8) {n k code x : Nat} (e : vl K l x0 n k code = some x) : x < 1000 := by
  unfold vl at e
  cases hs : stM code k 0 x0 with
  | none => rw [hs] at e; cases e
  | some x' =>
    rw [hs] at e
    have e2 : gv K l (n - k) k x' = x := Option.some.inj e
    have := gv_le (K := K) (l := l) (n - k) k x'
    omega
theorem cho_f {few : Bool} {F : Nat → Option Nat} : ∀ (L : List Nat) b, L.foldl (fun b g => cho few b (F g)) (some b) = some (L.foldl (fun b g => match F g with
    | none => b
    | some v => if few then min b v else max b v) b) := by
  intro L
  induction L with
  | nil => intro b; rfl
  | cons g L ih =>
    intro b
    rw [List.foldl_cons, List.foldl_cons]
    cases hF : F g with
    | none => exact ih b
    | some v =>
      have e : cho few (some b) (some v) = some (if few then min b v else max b v) := by
        show (if few then (if v < b then some v else some b) else (if v < b then some b else some v)) = _
        cases few with
        | true =>
          show (if v < b then some v else some b) = some (min b v)
          split
          · rw [Nat.min_eq_right (by omega)]
          · rw [Nat.min_eq_left (by omega)]
        | false =>
          show (if v < b then some b else some v) = some (max b v)
          split
          · rw [Nat.max_eq_left (by omega)]
          · rw [Nat.max_eq_right (by omega)]
      rw [e]
      exact ih _
theorem vl_at {n k code g : Nat} (hg : g < 6) : vl K l x0 n (k + 1) (6 * code + g) = ((stM code k 0 x0).bind (fun x' => stp k x' g)).map (gv K l (n - (k + 1)) (k + 1)) := by
  unfold vl
  rw [stM_s, show (6 * code + g) / 6 = code by omega, show (6 * code + g) % 6 = g by omega, Nat.zero_add]
theorem vl_s {n k code : Nat} (hk : k < n) : (List.range 5).foldl (fun b g => cho (k % 2 == 0) b (vl K l x0 n (k + 1) (6 * code + (g + 1)))) (vl K l x0 n (k + 1) (6 * code + 0)) = vl K l x0 n k code := by
  have e1 : (List.range 5).foldl (fun b g => cho (k % 2 == 0) b (vl K l x0 n (k + 1) (6 * code + (g + 1)))) (vl K l x0 n (k + 1) (6 * code + 0)) = (List.range 5).foldl (fun b g => cho (k % 2 == 0) b (((stM code k 0 x0).bind (fun x' => stp k x' (g + 1))).map (gv K l (n - (k + 1)) (k + 1)))) (((stM code k 0 x0).bind (fun x' => stp k x' 0)).map (gv K l (n - (k + 1)) (k + 1))) := by
    show List.foldl _ _ [0, 1, 2, 3, 4] = List.foldl _ _ [0, 1, 2, 3, 4]
    simp only [List.foldl_cons, List.foldl_nil]
    rw [vl_at (by omega), vl_at (by omega), vl_at (by omega), vl_at (by omega), vl_at (by omega), vl_at (by omega)]
  rw [e1]
  unfold vl
  cases hs : stM code k 0 x0 with
  | none => rfl
  | some x =>
    show (List.range 5).foldl (fun b g => cho (k % 2 == 0) b ((stp k x (g + 1)).map (gv K l (n - (k + 1)) (k + 1)))) (some (gv K l (n - (k + 1)) (k + 1) x)) = some (gv K l (n - k) k x)
    rw [cho_f, show n - k = (n - (k + 1)) + 1 by omega, gv]
    congr 2
    funext b g
    cases stp k x (g + 1) with
    | none => rfl
    | some x' =>
      show (if (k % 2 == 0) = true then _ else _) = (if k % 2 = 0 then _ else _)
      simp only [beq_iff_eq]
theorem g_duel {m n : Nat} (ok : lok K S G c t j) (mo : mok z.2.2.2.1 z.2.2.1 z.1.2.1) (hJ : Mq z y (ll K S G c t j) h) (hm : m < z.1.2.1) (hn : n ≤ 4) : Ec (d + 5) m_X9_duel [.ref 0, .int (nI m), .int (nI n)] h (fun v h' => v = some (.int (nI (gv K (msg z.2.2.2.1 z.2.2.1 m) n 0 (c, t, j)))) ∧ Mq z y (ll K S G c t j) h') := by
  have h6 := mo.2.2.2.2
  have h8 := mok8 mo (show m < 6 by omega)
  have hml := msg_len mo.1 (show m < 6 by omega) h8
  have w1 : wi (nI m) (nI 0) (nI (z.1.2.1 - 1)) = 1 := by rw [wi_n (by omega) (by omega) (by omega), if_pos (by omega)]
  have w2 : wi (nI n) (nI 0) (nI 4) = 1 := by rw [wi_n (by omega) (by omega) (by omega), if_pos (by omega)]
  have hJ0 := hJ
  obtain ⟨nw, be, ge, re, rl, br, pt_, wo, ⟨hn9, hbe, hge, hre, hrl, hbr, hpt, hwo⟩, rfl⟩ := hJ
  refine ec_in [some (.ref 0), some (.int (nI m)), some (.int (nI n)), none, none, none] rfl rfl ?_
  have p6 : ∀ i, i ≤ 4 → 6 ^ i ≤ 1296 := fun i hi => Nat.le_trans (Nat.pow_le_pow_right (by decide) hi) (by decide)
  obtain ⟨V, hV⟩ : ∃ V : Nat → Nat → Option Nat, V = vl K (msg z.2.2.2.1 z.2.2.1 m) (c, t, j) n := ⟨_, rfl⟩
  have hVl : ∀ i q x, V i q = some x → x < 1000 := fun i q x e => by rw [hV] at e; exact vl_lt (by omega) e
  have hVs : ∀ i q, i < n → (List.range 5).foldl (fun b g => cho (i % 2 == 0) b (V (i + 1) (6 * q + (g + 1)))) (V (i + 1) (6 * q + 0)) = V i q := fun i q hi => by rw [hV]; exact vl_s hi
  have hVn : ∀ q, V n q = (stM q n 0 (c, t, j)).map (wv K (msg z.2.2.2.1 z.2.2.1 m)) := fun q => by
    rw [hV]; unfold vl; rw [Nat.sub_self]; rfl
  have hV0 : V 0 0 = some (gv K (msg z.2.2.2.1 z.2.2.1 m) n 0 (c, t, j)) := by rw [hV]; rfl
  have JQ : ∀ wo h1, wo.length = 1296 → JW z y (ll K S G c t j) rl br pt_ wo h1 → Mq z y (ll K S G c t j) h1 := by
    rintro wo h1 hwo ⟨nw, be, ge, re, hl, rfl⟩
    exact ⟨nw, be, ge, re, rl, br, pt_, wo, ⟨hl.1, hl.2.1, hl.2.2.1, hl.2.2.2, hrl, hbr, hpt, hwo⟩, rfl⟩
  have H2 : ∀ i wo h1 l5, i ≤ n → wo.length = 1296 → JW z y (ll K S G c t j) rl br pt_ wo h1 → (∀ q, q < 6 ^ i → wo[q]? = some (eo1 (V i q))) → Ev (d + 5) m_X9_duel 76 [some (.ref 0), some (.int (nI m)), some (.int (nI n)), some (.int (nI (6 ^ i))), some (.int (nI i - nI 1)), l5] [] h1 (fun v h' => v = some (.int (nI (gv K (msg z.2.2.2.1 z.2.2.1 m) n 0 (c, t, j)))) ∧ Mq z y (ll K S G c t j) h') := by
    intro i
    induction i with
    | zero =>
      intro wo h1 l5 hi hwo hJ1 hE
      have e0 := hE 0 (by decide)
      rw [hV0] at e0
      iterate 2 refine ev_nx rfl ?_
      refine ev_t (by decide) ?_
      refine ev_nx rfl ?_
      refine ev_gf rfl rfl (JW_0 hJ1) rfl ?_
      refine ev_nx rfl ?_
      refine ev_ia (j := 0) rfl (am_arr_h (by decide) (JW_20 hJ1)) e0 ?_
      exact ev_ri rfl rfl rfl ⟨rfl, JQ wo h1 hwo hJ1⟩
    | succ i ih =>
      intro wo h1 l5 hi hwo hJ1 hE
      rw [pk_sub (by omega), Nat.add_sub_cancel]
      have p1 := p6 (i + 1) (by omega)
      have hp0 : 0 < 6 ^ i := Nat.pow_pos (by decide)
      have hps : 6 ^ (i + 1) = 6 * 6 ^ i := by rw [Nat.pow_succ, Nat.mul_comm]
      have H3 : ∀ r code wo h1, code + r = 6 ^ i → wo.length = 1296 → JW z y (ll K S G c t j) rl br pt_ wo h1 → (∀ q, q < code → wo[q]? = some (eo1 (V i q))) → (∀ q, code ≤ q → q < 6 ^ (i + 1) → wo[q]? = some (eo1 (V (i + 1) q))) → Ev (d + 5) m_X9_duel 89 [some (.ref 0), some (.int (nI m)), some (.int (nI n)), some (.int (nI (6 ^ i))), some (.int (nI i)), some (.int (nI code))] [] h1 (fun v h' => v = some (.int (nI (gv K (msg z.2.2.2.1 z.2.2.1 m) n 0 (c, t, j)))) ∧ Mq z y (ll K S G c t j) h') := by
        intro r
        induction r with
        | zero =>
          intro code wo h1 hc hwo hJ1 hA hB
          obtain rfl : code = 6 ^ i := by omega
          iterate 3 refine ev_nx rfl ?_
          refine ev_ge (fun b92 => ?_) (fun b92 => absurd b92 (by omega))
          iterate 2 refine ev_nx rfl ?_
          exact ih wo h1 _ (by omega) hwo hJ1 hA
        | succ r ihr =>
          intro code wo h1 hc hwo hJ1 hA hB
          have HC := fun few => f_chosen (d := d + 4) (few := few) (code := code) (E := fun g => V (i + 1) (6 * code + g)) hJ1 (fun g hg => hB _ (by omega) (by omega)) (by omega) (fun g x e => hVl _ _ _ e)
          have HC1 := HC (i % 2 == 0)
          rw [hVs i code (by omega)] at HC1
          have hJ2 : JW z y (ll K S G c t j) rl br pt_ (wo.set code (eo1 (V i code))) (h1.set 20 (.inl (0, wo.set code (eo1 (V i code))))) := JW_s hJ1
          have fin := ihr (code + 1) _ _ (by omega) (by rw [List.length_set, hwo]) hJ2 (fun q hq => by
            rcases Nat.lt_or_ge q code with q1 | q1
            · rw [List.getElem?_set_ne (by omega)]; exact hA q q1
            · obtain rfl : q = code := by omega
              rw [List.getElem?_set_self (by omega)]) (fun q q1 q2 => by rw [List.getElem?_set_ne (by omega)]; exact hB q (by omega) q2)
          rcases (show i % 2 = 0 ∨ i % 2 = 1 by omega) with hp | hp
          · rw [hp] at HC1
            iterate 3 refine ev_nx rfl ?_
            refine ev_ge (fun b92 => absurd b92 (by omega)) (fun b92 => ?_)
            refine ev_nx rfl ?_
            refine ev_gf rfl rfl (JW_0 hJ1) rfl ?_
            iterate 5 refine ev_nx rfl ?_
            refine ev_rem rfl (by omega) (by omega) ?_
            rw [hp]
            refine ev_nx rfl ?_
            refine ev_f (by decide) ?_
            iterate 2 refine ev_nx rfl ?_
            refine ev_vi rfl rfl rfl rfl rfl rfl (JW_0 hJ1) rfl HC1 ?_
            refine ev_is rfl (JW_20 hJ1) (by omega) ?_
            refine ev_inc rfl ⟨rfl, by decide⟩ rfl rfl ?_
            refine ev_nx rfl ?_
            exact fin
          · rw [hp] at HC1
            iterate 3 refine ev_nx rfl ?_
            refine ev_ge (fun b92 => absurd b92 (by omega)) (fun b92 => ?_)
            refine ev_nx rfl ?_
            refine ev_gf rfl rfl (JW_0 hJ1) rfl ?_
            iterate 5 refine ev_nx rfl ?_
            refine ev_rem rfl (by omega) (by omega) ?_
            rw [hp]
            refine ev_nx rfl ?_
            refine ev_t (by decide) ?_
            refine ev_nx rfl ?_
            refine ev_vi rfl rfl rfl rfl rfl rfl (JW_0 hJ1) rfl HC1 ?_
            refine ev_is rfl (JW_20 hJ1) (by omega) ?_
            refine ev_inc rfl ⟨rfl, by decide⟩ rfl rfl ?_
            refine ev_nx rfl ?_
            exact fin
      iterate 2 refine ev_nx rfl ?_
      refine ev_lt0 ?_
      iterate 2 refine ev_nx rfl ?_
      refine ev_div rfl (by omega) (by omega) ?_
      rw [show 6 ^ (i + 1) / 6 = 6 ^ i by omega]
      iterate 3 refine ev_nx rfl ?_
      exact H3 (6 ^ i) 0 wo h1 (by omega) hwo hJ1 (fun q hq => absurd hq (Nat.not_lt_zero _)) (fun q _ hq => hE q hq)
  have pn := p6 n hn
  have H1 : ∀ r code wo h1, code + r = 6 ^ n → wo.length = 1296 → JW z y (ll K S G c t j) rl br pt_ wo h1 → (∀ q, q < code → wo[q]? = some (eo1 (V n q))) → Ev (d + 5) m_X9_duel 44 [some (.ref 0), some (.int (nI m)), some (.int (nI n)), some (.int (nI (6 ^ n))), some (.int (nI code)), none] [] h1 (fun v h' => v = some (.int (nI (gv K (msg z.2.2.2.1 z.2.2.1 m) n 0 (c, t, j)))) ∧ Mq z y (ll K S G c t j) h') := by
    intro r
    induction r with
    | zero =>
      intro code wo h1 hc hwo hJ1 hA
      obtain rfl : code = 6 ^ n := by omega
      iterate 3 refine ev_nx rfl ?_
      refine ev_ge (fun b47 => ?_) (fun b47 => absurd b47 (by omega))
      iterate 2 refine ev_nx rfl ?_
      refine ev_nx rfl ?_
      refine ev_nx rfl ?_
      exact H2 n wo h1 _ (Nat.le_refl _) hwo hJ1 hA
    | succ r ih =>
      intro code wo h1 hc hwo hJ1 hA
      iterate 3 refine ev_nx rfl ?_
      refine ev_ge (fun b47 => absurd b47 (by omega)) (fun b47 => ?_)
      refine ev_nx rfl ?_
      refine ev_gf rfl rfl (JW_0 hJ1) rfl ?_
      iterate 5 refine ev_nx rfl ?_
      refine ev_v rfl rfl rfl rfl rfl rfl (JW_0 hJ1) rfl (f_worthOf ok mo (by omega) (by omega) hn hJ1) (fun rv h2 q => ?_)
      obtain ⟨rfl, hJ2⟩ := q
      rw [← hVn]
      refine ev_is rfl (JW_20 hJ2) (by omega) ?_
      refine ev_inc rfl ⟨rfl, by decide⟩ rfl rfl ?_
      refine ev_nx rfl ?_
      refine ih (code + 1) _ _ (by omega) (by rw [List.length_set, hwo]) (JW_s hJ2) (fun q hq => ?_)
      rcases Nat.lt_or_ge q code with q1 | q1
      · rw [List.getElem?_set_ne (by omega)]; exact hA q q1
      · obtain rfl : q = code := by omega
        rw [List.getElem?_set_self (by omega)]
  have H0 : ∀ r k, k + r = n → Ev (d + 5) m_X9_duel 24 [some (.ref 0), some (.int (nI m)), some (.int (nI n)), some (.int (nI (6 ^ k))), some (.int (nI k)), none] [] (XM z y (ll K S G c t j) nw be ge re rl br pt_ wo) (fun v h' => v = some (.int (nI (gv K (msg z.2.2.2.1 z.2.2.1 m) n 0 (c, t, j)))) ∧ Mq z y (ll K S G c t j) h') := by
    intro r
    induction r with
    | zero =>
      intro k hk
      obtain rfl : k = n := by omega
      iterate 3 refine ev_nx rfl ?_
      refine ev_ge (fun b27 => ?_) (fun b27 => absurd b27 (by omega))
      iterate 2 refine ev_nx rfl ?_
      exact H1 (6 ^ k) 0 wo _ (by omega) hwo ⟨nw, be, ge, re, ⟨hn9, hbe, hge, hre⟩, rfl⟩ (fun q hq => absurd hq (Nat.not_lt_zero _))
    | succ r ih =>
      intro k hk
      iterate 3 refine ev_nx rfl ?_
      refine ev_ge (fun b27 => absurd b27 (by omega)) (fun b27 => ?_)
      iterate 2 refine ev_nx rfl ?_
      refine ev_mul rfl ?_
      rw [← Nat.pow_succ]
      refine ev_nx rfl ?_
      refine ev_inc rfl ⟨rfl, by decide⟩ rfl rfl ?_
      refine ev_nx rfl ?_
      exact ih (k + 1) (by omega)
  iterate 2 refine ev_nx rfl ?_
  refine ev_vi rfl rfl rfl rfl rfl rfl rfl rfl (f_isMessage hJ0 (by omega)) ?_
  rw [w1]
  refine ev_nx rfl ?_
  refine ev_f (by decide) ?_
  iterate 3 refine ev_nx rfl ?_
  refine ev_si rfl rfl (by decide) rfl rfl rfl rfl (f_in _ _ _ _) ?_
  rw [w2]
  refine ev_nx rfl ?_
  refine ev_t (by decide) ?_
  iterate 4 refine ev_nx rfl ?_
  exact H0 n 0 (by omega)
end XT
