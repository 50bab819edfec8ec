/-! the text: items, faults -/
section SD
variable {h : aH} {l : List Nat} {n d : Nat} {Q : Option Value → aH → Prop}
theorem ev_lk {m : aM} {pc np r v p : Nat} {dd : Int} {ps : Array (Int × Int)} {L : aL} {S : List Value} (hv : v < 65536) (hc : am_cd m pc = some (.lookupswitch dd ps, np, r)) (hs : (ps.toList.zip (ps.toList.drop 1)).all (fun (a, next) => a.1 < next.1) = true) (hp : 0 ≤ (pc : Int) + Op.lookupswitch.offset ps.toList dd (v : Int) ∧ am_jmp pc (Op.lookupswitch.offset ps.toList dd (v : Int)) = p) (k : Ev d m p L S h Q) : Ev d m pc L (.int (nI v) :: S) h Q := by
  refine ev_nx (pc' := p) (L' := L) (S' := S) (h' := h) ?_ k
  simp only [am_go, hc, am_op, am_lsw, nI_toInt (show v < 2 ^ 31 by omega)]
  rw [if_pos ⟨hs, hp.1⟩, hp.2]
  rfl
theorem lk5 {v : Nat} (h1 : ¬ v = 110) (h2 : ¬ v = 99) (h3 : ¬ v = 116) (h4 : ¬ v = 106) (h5 : ¬ v = 109) : Op.lookupswitch.offset [(99, 57), (106, 71), (109, 78), (110, 51), (116, 64)] 84 (v : Int) = 84 := by
  simp only [Op.lookupswitch.offset]
  rw [if_neg (by omega), if_neg (by omega), if_neg (by omega), if_neg (by omega), if_neg (by omega)]
theorem e_itemEnd (hm : sat h l n) (ok : sok l n) {k : Nat} (hk : k < 900) : Ec (d + 3) m_X6_itemEnd [.ref 1, .int (nI k)] h (rt (.int (eo (iE l n k))) h) := by
  have hc := lt_lt ok k
  refine ec_in [some (.ref 1), some (.int (nI k))] rfl rfl ?_
  iterate 2 refine ev_nx rfl ?_
  refine ev_vi rfl rfl rfl rfl rfl rfl hm.1 rfl (e_letterAt hm ok (by omega)) ?_
  unfold iE
  by_cases e1 : lt_ l n k = 110
  · rw [if_pos e1]
    refine ev_lk (p := 56) hc rfl (by decide) (by rw [e1]; decide) ?_
    iterate 2 refine ev_nx rfl ?_
    refine ev_vi rfl rfl rfl rfl rfl rfl hm.1 rfl (e_needleEnd hm ok hk) ?_
    exact ev_ri rfl rfl rfl ⟨rfl, rfl⟩
  rw [if_neg e1]
  by_cases e2 : lt_ l n k = 99
  · rw [if_pos e2]
    refine ev_lk (p := 62) hc rfl (by decide) (by rw [e2]; decide) ?_
    iterate 3 refine ev_nx rfl ?_
    refine ev_vi rfl rfl rfl rfl rfl rfl hm.1 rfl (e_wireEnd hm ok hk (by decide)) ?_
    exact ev_ri rfl rfl rfl ⟨rfl, rfl⟩
  rw [if_neg e2]
  by_cases e3 : lt_ l n k = 116
  · rw [if_pos e3]
    refine ev_lk (p := 69) hc rfl (by decide) (by rw [e3]; decide) ?_
    iterate 3 refine ev_nx rfl ?_
    refine ev_vi rfl rfl rfl rfl rfl rfl hm.1 rfl (e_wireEnd hm ok hk (by decide)) ?_
    exact ev_ri rfl rfl rfl ⟨rfl, rfl⟩
  rw [if_neg e3]
  by_cases e4 : lt_ l n k = 106
  · rw [if_pos e4]
    refine ev_lk (p := 76) hc rfl (by decide) (by rw [e4]; decide) ?_
    iterate 3 refine ev_nx rfl ?_
    refine ev_vi rfl rfl rfl rfl rfl rfl hm.1 rfl (e_wireEnd hm ok hk (by decide)) ?_
    exact ev_ri rfl rfl rfl ⟨rfl, rfl⟩
  rw [if_neg e4]
  by_cases e5 : lt_ l n k = 109
  · rw [if_pos e5]
    refine ev_lk (p := 83) hc rfl (by decide) (by rw [e5]; decide) ?_
    iterate 2 refine ev_nx rfl ?_
    refine ev_vi rfl rfl rfl rfl rfl rfl hm.1 rfl (e_messageEnd hm ok hk) ?_
    exact ev_ri rfl rfl rfl ⟨rfl, rfl⟩
  rw [if_neg e5]
  refine ev_lk (p := 89) hc rfl (by decide) (by rw [show (#[((99 : Int), (57 : Int)), (106, 71), (109, 78), (110, 51), (116, 64)]).toList = [(99, 57), (106, 71), (109, 78), (110, 51), (116, 64)] from rfl, lk5 e1 e2 e3 e4 e5]; decide) ?_
  refine ev_nx rfl ?_
  exact ev_ri rfl rfl rfl ⟨rfl, rfl⟩
theorem iE_le {k e : Nat} (he : iE l n k = some e) : k + 2 < e ∧ e ≤ k + 10 := by
  have h8 := cps_le (l := l) (n := n) 8 (k + 1)
  have hW : ∀ m e, wE l n k m = some e → k + 2 < e ∧ e ≤ k + 10 := by
    intro m e he
    unfold wE at he
    split at he
    · cases he; omega
    · cases he
  unfold iE at he
  split at he
  · unfold nE at he
    split at he
    · cases he; omega
    · cases he
  · split at he
    · exact hW _ _ he
    · split at he
      · exact hW _ _ he
      · split at he
        · exact hW _ _ he
        · split at he
          · unfold mE at he
            split at he
            · cases he; omega
            · cases he
          · cases he
/-- the first fault from a place, c messages ahead of it -/
def ffr (l : List Nat) (n : Nat) : Nat → Nat → Nat → Option Nat
  | 0, _, _ => none
  | f + 1, k, c => if k < n then (match iE l n k with
    | none => some k
    | some e => if 6 < c + (if lt_ l n k = 109 then 1 else 0) then some k else ffr l n f e (c + (if lt_ l n k = 109 then 1 else 0))) else none
theorem eo_c {e : Nat} (he : e < 1000) : ¬ nI e = -(nI 4) := by
  intro q
  have := congrArg Int32.toInt q
  rw [nI_toInt (by omega)] at this
  have h2 : (-(nI 4)).toInt = -4 := by decide
  omega
theorem lp_fault (hm : sat h l n) (ok : sok l n) : ∀ f a k c l4, a + f = 200 → k < 900 → c ≤ a → Ev (d + 4) m_X6_firstFault 6 [some (.ref 1), some (.int (nI k)), some (.int (nI c)), some (.int (nI a)), l4] [] h (rt (.int (eo (ffr l n f k c))) h) := by
  intro f
  have hn := ok.2.1
  induction f with
  | zero =>
    intro a k c l4 ha hk hca
    iterate 3 refine ev_nx rfl ?_
    refine ev_ge (fun _ => ?_) (fun h => absurd h (by omega))
    refine ev_nx rfl ?_
    exact ev_ri rfl rfl rfl ⟨rfl, rfl⟩
  | succ f ih =>
    intro a k c l4 ha hk hca
    have hc := lt_lt ok k
    rw [ffr]
    iterate 3 refine ev_nx rfl ?_
    refine ev_ge (fun h => absurd h (by omega)) (fun _ => ?_)
    iterate 2 refine ev_nx rfl ?_
    refine ev_gf rfl rfl hm.1 rfl ?_
    refine ev_nx rfl ?_
    refine ev_ge (fun hc => ?_) (fun hkn => ?_)
    · rw [if_neg (by omega)]
      refine ev_nx rfl ?_
      exact ev_ri rfl rfl rfl ⟨rfl, rfl⟩
    · rw [if_pos hkn]
      iterate 2 refine ev_nx rfl ?_
      refine ev_vi rfl rfl rfl rfl rfl rfl hm.1 rfl (e_itemEnd hm ok hk) ?_
      iterate 4 refine ev_nx rfl ?_
      refine ev_vi rfl rfl rfl rfl rfl rfl hm.1 rfl (e_letterAt hm ok (by omega)) ?_
      have J : ∀ y : Nat, y = (if lt_ l n k = 109 then 1 else 0) → Ev (d + 4) m_X6_firstFault 44 [some (.ref 1), some (.int (nI k)), some (.int (nI c)), some (.int (nI a)), some (.int (eo (iE l n k)))] [.int (nI y), .int (nI c)] h (rt (.int (eo (match iE l n k with
          | none => some k
          | some e => if 6 < c + (if lt_ l n k = 109 then 1 else 0) then some k else ffr l n f e (c + (if lt_ l n k = 109 then 1 else 0))))) h) := by
        intro y hy
        rw [← hy]
        have hy1 : y ≤ 1 := by rw [hy]; split <;> omega
        iterate 2 refine ev_nx rfl ?_
        rw [nI_add]
        cases hE : iE l n k with
        | none =>
          iterate 3 refine ev_nx rfl ?_
          refine ev_t (by decide) ?_
          refine ev_nx rfl ?_
          exact ev_ri rfl rfl rfl ⟨rfl, rfl⟩
        | some e =>
          have he := iE_le hE
          iterate 3 refine ev_nx rfl ?_
          refine ev_f (by simp only [am_c2, eo, beq_eq_false_iff_ne, decide_eq_false_iff_not]; exact eo_c (by omega)) ?_
          iterate 3 refine ev_nx rfl ?_
          refine ev_leq (fun hc => ?_) (fun hc => ?_)
          · show Ev _ _ _ _ _ _ (rt (.int (eo (if _ then _ else _))) h)
            rw [if_neg (by omega)]
            iterate 4 refine ev_nx rfl ?_
            rw [nI_add]
            exact ih (a + 1) e (c + y) _ (by omega) (by omega) (by omega)
          · show Ev _ _ _ _ _ _ (rt (.int (eo (if _ then _ else _))) h)
            rw [if_pos (by omega)]
            refine ev_nx rfl ?_
            exact ev_ri rfl rfl rfl ⟨rfl, rfl⟩
      iterate 2 refine ev_nx rfl ?_
      refine ev_ne (fun hc => ?_) (fun hc => ?_)
      · refine ev_nx rfl ?_
        exact J 0 (by rw [if_neg hc])
      · iterate 2 refine ev_nx rfl ?_
        exact J 1 (by rw [if_pos hc])
theorem e_firstFault (hm : sat h l n) (ok : sok l n) : Ec (d + 4) m_X6_firstFault [.ref 1] h (rt (.int (eo (ffr l n 200 0 0))) h) := by
  refine ec_in [some (.ref 1), none, none, none, none] rfl rfl ?_
  iterate 6 refine ev_nx rfl ?_
  exact lp_fault hm ok 200 0 0 0 none rfl (by decide) (by decide)
theorem e_sempty (hm : sat h l n) : Ec d m_X6_empty [.ref 1] h (fun r h' => r = some (.int (nI n)) ∧ sat h' l 0 ∧ fr 1 2 h h') := by
  refine ec_in [some (.ref 1), none] rfl rfl ?_
  refine ev_nx rfl ?_
  refine ev_gf rfl rfl hm.1 rfl ?_
  iterate 3 refine ev_nx rfl ?_
  refine ev_pf rfl rfl hm.1 (by show 1 < 2; decide) rfl rfl rfl ?_
  refine ev_nx rfl ?_
  refine ev_ri rfl rfl rfl ⟨rfl, ⟨?_, ?_⟩, by simp, fun q hq => ?_⟩
  · rw [gset_s hm.1]; rfl
  · rw [gset_n (by decide)]; exact hm.2
  · rw [gset_n (by omega)]
theorem e_append (hm : sat h l n) (ok : sok l n) {x : Nat} (hx : x < 65536) : Ec d m_X6_append [.ref 1, .int (nI x)] h (fun r h' => r = none ∧ sat h' (if n < 200 then l.set n x else l) (if n < 200 then n + 1 else n) ∧ fr 1 2 h h') := by
  have hn := ok.2.1
  have hl := ok.1
  refine ec_in [some (.ref 1), some (.int (nI x))] rfl rfl ?_
  refine ev_nx rfl ?_
  refine ev_gf rfl rfl hm.1 rfl ?_
  iterate 2 refine ev_nx rfl ?_
  refine ev_ge (fun hc => ?_) (fun hc => ?_)
  · rw [if_neg (by omega), if_neg (by omega)]
    exact ev_rt rfl ⟨rfl, hm, rfl, fun _ _ => rfl⟩
  · rw [if_pos (by omega), if_pos (by omega)]
    refine ev_nx rfl ?_
    refine ev_gf rfl rfl hm.1 rfl ?_
    refine ev_nx rfl ?_
    refine ev_gf rfl rfl hm.1 rfl ?_
    refine ev_nx rfl ?_
    refine ev_cs rfl hm.2 (by rw [List.length_map]; omega) ?_
    rw [show vp_nar .char (nI x) = nI x by unfold vp_nar; rw [(pk_charN hx).1]]
    have hm1 : ∀ y, (h.set 2 y)[1]? = some (.inr (.inr (6, [.ref 2, .int (nI n)]))) := fun y => by rw [gset_n (by decide)]; exact hm.1
    iterate 2 refine ev_nx rfl ?_
    refine ev_gf rfl rfl (hm1 _) rfl ?_
    iterate 2 refine ev_nx rfl ?_
    rw [nI_add]
    refine ev_pf rfl rfl (hm1 _) (by show 1 < 2; decide) rfl rfl rfl ?_
    refine ev_rt rfl ⟨rfl, ⟨?_, ?_⟩, by simp, fun q hq => ?_⟩
    · rw [gset_s (hm1 _)]; rfl
    · rw [gset_n (by decide), gset_s hm.2, ms_]
    · rw [gset_n (by omega), gset_n (by omega)]
theorem lp_tells (hm : sat h l n) (ok : sok l n) : ∀ r k, k + r = n → Ev d m_X6_tellsMessage 2 [some (.ref 1), some (.int (nI k))] [] h (rt (.int (nI (b2n (((l.take n).drop k).any (· == 109))))) h) := by
  have hn := ok.2.1
  have hl := ok.1
  intro r
  induction r with
  | zero =>
    intro k hk
    iterate 2 refine ev_nx rfl ?_
    refine ev_gf rfl rfl hm.1 rfl ?_
    refine ev_nx rfl ?_
    refine ev_ge (fun _ => ?_) (fun h => absurd h (by omega))
    refine ev_nx rfl ?_
    refine ev_ri rfl rfl rfl ⟨?_, rfl⟩
    rw [List.drop_eq_nil_of_le (by rw [List.length_take]; omega)]
    rfl
  | succ r ih =>
    intro k hk
    have hlk : l.getD k 0 < 65536 := gd3 ok.2.2 (by omega)
    rw [tk_drop (by omega) (by omega), List.any_cons]
    iterate 2 refine ev_nx rfl ?_
    refine ev_gf rfl rfl hm.1 rfl ?_
    refine ev_nx rfl ?_
    refine ev_ge (fun h => absurd h (by omega)) (fun _ => ?_)
    refine ev_nx rfl ?_
    refine ev_gf rfl rfl hm.1 rfl ?_
    refine ev_nx rfl ?_
    refine ev_ca rfl (am_arr_h (by decide) hm.2) (mg (by omega)) ?_
    iterate 2 refine ev_nx rfl ?_
    refine ev_ne (fun hc => ?_) (fun hc => ?_)
    · rw [show (l.getD k 0 == 109) = false by rw [beq_eq_false_iff_ne]; exact hc, Bool.false_or]
      iterate 2 refine ev_nx rfl ?_
      rw [nI_add]
      exact ih (k + 1) (by omega)
    · rw [show (l.getD k 0 == 109) = true by rw [beq_iff_eq]; exact hc, Bool.true_or]
      refine ev_nx rfl ?_
      exact ev_ri rfl rfl rfl ⟨rfl, rfl⟩
theorem e_tellsMessage (hm : sat h l n) (ok : sok l n) : Ec d m_X6_tellsMessage [.ref 1] h (rt (.int (nI (b2n ((l.take n).any (· == 109))))) h) := by
  refine ec_in [some (.ref 1), none] rfl rfl ?_
  iterate 2 refine ev_nx rfl ?_
  have H := lp_tells (d := d) hm ok n 0 (by omega)
  rw [List.drop_zero] at H
  exact H
end SD
