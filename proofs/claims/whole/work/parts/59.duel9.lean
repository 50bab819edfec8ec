/-! the reference: by turns -/
/-- a turn: none, or one wire cut, or mended -/
def stp (k : Nat) (x : Nat × Nat × Nat) (g : Nat) : Option (Nat × Nat × Nat) :=
  if g = 0 then some x else if k % 2 = 0 then (if bt x.1 (g - 1) = 1 then none else some (x.1 ||| 1 * 2 ^ (g - 1), x.2.1, x.2.2))
  else (if bt (mdw x.1 x.2.1 x.2.2) (g - 1) = 0 then none else some (clr x.1 (1 * 2 ^ (g - 1)), clr x.2.1 (1 * 2 ^ (g - 1)), clr x.2.2 (mdj (1 * 2 ^ (g - 1)))))
/-- turns, told by the figures of a code -/
def stM (code : Nat) : Nat → Nat → Nat × Nat × Nat → Option (Nat × Nat × Nat)
  | 0, _, x => some x
  | r + 1, k, x => match stp k x (code / 6 ^ r % 6) with
    | none => none
    | some x' => stM code r (k + 1) x'
def wv (K l : List Nat) (x : Nat × Nat × Nat) : Nat := rgt K x.1 x.2.1 x.2.2 1 1 l z55
theorem stM_s (code : Nat) : ∀ r k x, stM code (r + 1) k x = (stM (code / 6) r k x).bind (fun x' => stp (k + r) x' (code % 6)) := by
  intro r
  induction r with
  | zero =>
    intro k x
    rw [stM, stM, Nat.pow_zero, Nat.div_one]
    show _ = stp (k + 0) x (code % 6)
    cases stp k x (code % 6) <;> rfl
  | succ r ih =>
    intro k x
    rw [stM, stM, show code / 6 ^ (r + 1) = code / 6 / 6 ^ r by rw [Nat.div_div_eq_div_mul, Nat.pow_succ']]
    cases stp k x (code / 6 / 6 ^ r % 6) with
    | none => rfl
    | some x' =>
      show stM code (r + 1) (k + 1) x' = _
      rw [ih (k + 1) x', show k + 1 + r = k + (r + 1) by omega]
/-- the reference's heap but for what saying leaves -/
def JW (z : aZ) (y : aY) (st rl br pt_ : List Nat) (wo : List Int32) (h : aH) : Prop := ∃ nw be ge re, (nw.length = 29 ∧ be.length = 5 ∧ ge.length = 5 ∧ re.length = 8) ∧ h = XM z y st nw be ge re rl br pt_ wo
section XR
variable {d : Nat} {h : aH} {z : aZ} {y : aY} {st nw be ge re rl br pt_ : List Nat} {wo : List Int32} {K S G : List Nat} {c t j : Nat}
theorem lp_wo {m code n : Nat} (mo : mok z.2.2.2.1 z.2.2.1 z.1.2.1) (hm : m < 6) (hc : code < 2147483648) (hn : n ≤ 4) (hbe : be.length = 5) (hge : ge.length = 5) (hre : re.length = 8) : ∀ r k (x : Nat × Nat × Nat) l6, k + r = n → lok K S G x.1 x.2.1 x.2.2 → Ev (d + 4) m_X9_worthOf 32 [some (.ref 0), some (.int (nI m)), some (.int (nI code)), some (.int (nI n)), some (.int (nI (6 ^ (r - 1)))), some (.int (nI k)), l6] [] (XM z y st (ll K S G x.1 x.2.1 x.2.2) be ge re rl br pt_ wo) (fun v h' => v = some (.int (eo1 ((stM code r k x).map (wv K (msg z.2.2.2.1 z.2.2.1 m))))) ∧ JW z y st rl br pt_ wo h') := by
  intro r
  induction r with
  | zero =>
    intro k x l6 hk ok
    have hJ : JL z y st K x.1 x.2.1 x.2.2 re rl br pt_ wo (XM z y st (ll K S G x.1 x.2.1 x.2.2) be ge re rl br pt_ wo) := ⟨S, G, ok, be, ge, hbe, hge, rfl⟩
    iterate 3 refine ev_nx rfl ?_
    refine ev_ge (fun b35 => ?_) (fun b35 => absurd b35 (by omega))
    iterate 4 refine ev_nx rfl ?_
    refine ev_v rfl rfl rfl rfl rfl rfl rfl rfl (f_says mo hm (by decide) (by decide) hre hJ) (fun rv h2 q => ?_)
    obtain ⟨rfl, re2, ⟨hre2, -⟩, S2, G2, ok2, be2, ge2, hbe2, hge2, rfl⟩ := q
    exact ev_ri rfl rfl rfl ⟨rfl, _, be2, ge2, re2, ⟨ll_len ok2, hbe2, hge2, hre2⟩, rfl⟩
  | succ r ih =>
    intro k x l6 hk ok
    have hl := ll_len ok
    have hb0 : 0 < 6 ^ r := Nat.pow_pos (by decide)
    have hb1 : 6 ^ r < 2000 := Nat.lt_of_le_of_lt (Nat.pow_le_pow_right (by decide) (show r ≤ 4 by omega)) (by decide)
    rw [stM]
    have hb : (if k < n - 1 then 6 ^ r / 6 else 6 ^ r) = 6 ^ (r - 1) := by
      cases r with
      | zero => rw [if_neg (by omega)]
      | succ r => rw [if_pos (by omega), Nat.pow_succ, Nat.mul_div_cancel _ (by decide)]; rfl
    rw [show r + 1 - 1 = r from rfl]
    have gl : code / 6 ^ r % 6 < 6 := Nat.mod_lt _ (by decide)
    generalize 6 ^ r = b at hb0 hb1 hb gl ⊢
    have go : ∀ b' l6 x', b' = (if k < n - 1 then b / 6 else b) → lok K S G x'.1 x'.2.1 x'.2.2 → stp k x (code / b % 6) = some x' → Ev (d + 4) m_X9_worthOf 150 [some (.ref 0), some (.int (nI m)), some (.int (nI code)), some (.int (nI n)), some (.int (nI b')), some (.int (nI k)), l6] [] (XM z y st (ll K S G x'.1 x'.2.1 x'.2.2) be ge re rl br pt_ wo) (fun v h' => v = some (.int (eo1 ((match stp k x (code / b % 6) with
      | none => none
      | some x' => stM code r (k + 1) x').map (wv K (msg z.2.2.2.1 z.2.2.1 m))))) ∧ JW z y st rl br pt_ wo h') := by
      intro b' l6 x' hb' ok' e
      rw [e, hb', hb]
      refine ev_inc rfl ⟨rfl, by decide⟩ rfl rfl ?_
      refine ev_nx rfl ?_
      exact ih (k + 1) x' _ (by omega) ok'
    by_cases hg : code / b % 6 = 0
    · iterate 3 refine ev_nx rfl ?_
      refine ev_ge (fun b35 => absurd b35 (by omega)) (fun b35 => ?_)
      iterate 2 refine ev_nx rfl ?_
      refine ev_div rfl hc (by omega) ?_
      refine ev_nx rfl ?_
      refine ev_rem rfl (Nat.lt_of_le_of_lt (Nat.div_le_self _ _) hc) (by omega) ?_
      rw [hg]
      refine ev_nx rfl ?_
      refine ev_nx rfl ?_
      iterate 4 refine ev_nx rfl ?_
      refine ev_sub rfl (by omega) ?_
      refine ev_nx rfl ?_
      refine ev_ge (fun b54 => ?_) (fun b54 => ?_)
      · iterate 4 refine ev_nx rfl ?_
        refine ev_t (by decide) ?_
        iterate 2 refine ev_nx rfl ?_
        refine ev_t (by decide) ?_
        iterate 2 refine ev_nx rfl ?_
        refine ev_t (by decide) ?_
        rw [hg] at go
        first | exact go _ _ x (by rw [if_pos b54]) ok rfl | exact go _ _ x (by rw [if_neg (by omega)]) ok rfl
      · iterate 2 refine ev_nx rfl ?_
        refine ev_div rfl (by omega) (by omega) ?_
        iterate 4 refine ev_nx rfl ?_
        refine ev_t (by decide) ?_
        iterate 2 refine ev_nx rfl ?_
        refine ev_t (by decide) ?_
        iterate 2 refine ev_nx rfl ?_
        refine ev_t (by decide) ?_
        rw [hg] at go
        first | exact go _ _ x (by rw [if_pos b54]) ok rfl | exact go _ _ x (by rw [if_neg (by omega)]) ok rfl
    · have hb1' : bt x.1 (code / b % 6 - 1) < 2 := bt_lt _ _
      have hb2' : bt (mdw x.1 x.2.1 x.2.2) (code / b % 6 - 1) < 2 := bt_lt _ _
      have hsE : stp k x (code / b % 6) = if k % 2 = 0 then (if bt x.1 (code / b % 6 - 1) = 1 then none else some (x.1 ||| 1 * 2 ^ (code / b % 6 - 1), x.2.1, x.2.2)) else (if bt (mdw x.1 x.2.1 x.2.2) (code / b % 6 - 1) = 0 then none else some (clr x.1 (1 * 2 ^ (code / b % 6 - 1)), clr x.2.1 (1 * 2 ^ (code / b % 6 - 1)), clr x.2.2 (mdj (1 * 2 ^ (code / b % 6 - 1))))) := by rw [stp, if_neg hg]
      have hq5 : code / b % 6 - 1 < 5 := by omega
      have HM := f_mends (d := d + 3) (h := XM z y st (ll K S G x.1 x.2.1 x.2.2) be ge re rl br pt_ wo) (a := 6) ok rfl (by decide) hq5
      have HY := f_mayMend (d := d + 1) (h := XM z y st (ll K S G x.1 x.2.1 x.2.2) be ge re rl br pt_ wo) (a := 6) ok rfl (by decide) hq5
      have okC : lok K S G (x.1 ||| 1 * 2 ^ (code / b % 6 - 1)) x.2.1 x.2.2 := ⟨ok.1, ok.2.1, ok.2.2.1, or32 ok.2.2.2.1 (p2_32 hq5), ok.2.2.2.2⟩
      have okM : lok K S G (clr x.1 (1 * 2 ^ (code / b % 6 - 1))) (clr x.2.1 (1 * 2 ^ (code / b % 6 - 1))) (clr x.2.2 (mdj (1 * 2 ^ (code / b % 6 - 1)))) := lok_md ok
      have HC : (ll K S G x.1 x.2.1 x.2.2).set (0 + (code / b % 6 - 1)) 1 = ll K S G (x.1 ||| 1 * 2 ^ (code / b % 6 - 1)) x.2.1 x.2.2 := ll_c1 _ hq5 ok.2.2.2.1
      have no : stp k x (code / b % 6) = none → JW z y st rl br pt_ wo (XM z y st (ll K S G x.1 x.2.1 x.2.2) be ge re rl br pt_ wo) ∧ (eo1 ((match stp k x (code / b % 6) with
        | none => none
        | some x' => stM code r (k + 1) x').map (wv K (msg z.2.2.2.1 z.2.2.1 m)))) = -(nI 1) := fun e => ⟨⟨_, be, ge, re, ⟨hl, hbe, hge, hre⟩, rfl⟩, by rw [e]; rfl⟩
      have hdl : code / b ≤ code := Nat.div_le_self _ _
      iterate 3 refine ev_nx rfl ?_
      refine ev_ge (fun b35 => absurd b35 (by omega)) (fun b35 => ?_)
      iterate 2 refine ev_nx rfl ?_
      refine ev_div rfl hc (by omega) ?_
      refine ev_nx rfl ?_
      refine ev_rem rfl (Nat.lt_of_le_of_lt hdl hc) (by omega) ?_
      refine ev_nx rfl ?_
      refine ev_sub rfl (by omega) ?_
      iterate 4 refine ev_nx rfl ?_
      refine ev_sub rfl (by omega) ?_
      refine ev_nx rfl ?_
      refine ev_ge (fun b54 => ?_) (fun b54 => ?_)
      · iterate 4 refine ev_nx rfl ?_
        refine ev_lt0 ?_
        iterate 2 refine ev_nx rfl ?_
        refine ev_rem rfl (by omega) (by omega) ?_
        refine ev_nx rfl ?_
        refine ev_ne0 (fun b78 => ?_) (fun b78 => ?_)
        · iterate 3 refine ev_nx rfl ?_
          refine ev_si rfl rfl (by decide) rfl rfl rfl rfl HY ?_
          refine ev_nx rfl ?_
          refine ev_ne0 (fun b106 => ?_) (fun b106 => ?_)
          · iterate 2 refine ev_nx rfl ?_
            refine ev_lt0 ?_
            iterate 2 refine ev_nx rfl ?_
            refine ev_rem rfl (by omega) (by omega) ?_
            refine ev_nx rfl ?_
            refine ev_ne0 (fun b120 => ?_) (fun b120 => absurd b120 (by omega))
            iterate 2 refine ev_nx rfl ?_
            refine ev_lt0 ?_
            iterate 3 refine ev_nx rfl ?_
            refine ev_sv rfl rfl (by decide) rfl rfl rfl rfl HM ?_
            first | exact go _ _ (clr x.1 (1 * 2 ^ (code / b % 6 - 1)), clr x.2.1 (1 * 2 ^ (code / b % 6 - 1)), clr x.2.2 (mdj (1 * 2 ^ (code / b % 6 - 1)))) (by rw [if_pos b54]) okM (by rw [hsE, if_neg b78, if_neg b106]) | exact go _ _ (clr x.1 (1 * 2 ^ (code / b % 6 - 1)), clr x.2.1 (1 * 2 ^ (code / b % 6 - 1)), clr x.2.2 (mdj (1 * 2 ^ (code / b % 6 - 1)))) (by rw [if_neg (by omega)]) okM (by rw [hsE, if_neg b78, if_neg b106])
          · refine ev_nx rfl ?_
            first | (have e := no (by rw [hsE, if_pos b78, if_pos b91]); rw [e.2]; exact ev_ri rfl rfl rfl ⟨rfl, e.1⟩) | (have e := no (by rw [hsE, if_neg b78, if_pos b106]); rw [e.2]; exact ev_ri rfl rfl rfl ⟨rfl, e.1⟩)
        · iterate 4 refine ev_nx rfl ?_
          refine ev_add rfl ?_
          refine ev_lN rfl rfl (by omega) ?_
          rw [ll_c _ hq5]
          iterate 2 refine ev_nx rfl ?_
          refine ev_ne (fun b91 => ?_) (fun b91 => ?_)
          · iterate 2 refine ev_nx rfl ?_
            refine ev_lt0 ?_
            iterate 2 refine ev_nx rfl ?_
            refine ev_rem rfl (by omega) (by omega) ?_
            refine ev_nx rfl ?_
            refine ev_ne0 (fun b120 => absurd b120 (by omega)) (fun b120 => ?_)
            iterate 4 refine ev_nx rfl ?_
            refine ev_add rfl ?_
            refine ev_nx rfl ?_
            refine ev_sN rfl rfl (by omega) ?_
            rw [HC]
            refine ev_nx rfl ?_
            first | exact go _ _ (x.1 ||| 1 * 2 ^ (code / b % 6 - 1), x.2.1, x.2.2) (by rw [if_pos b54]) okC (by rw [hsE, if_pos b78, if_neg b91]) | exact go _ _ (x.1 ||| 1 * 2 ^ (code / b % 6 - 1), x.2.1, x.2.2) (by rw [if_neg (by omega)]) okC (by rw [hsE, if_pos b78, if_neg b91])
          · iterate 2 refine ev_nx rfl ?_
            first | (have e := no (by rw [hsE, if_pos b78, if_pos b91]); rw [e.2]; exact ev_ri rfl rfl rfl ⟨rfl, e.1⟩) | (have e := no (by rw [hsE, if_neg b78, if_pos b106]); rw [e.2]; exact ev_ri rfl rfl rfl ⟨rfl, e.1⟩)
      · iterate 2 refine ev_nx rfl ?_
        refine ev_div rfl (by omega) (by omega) ?_
        iterate 4 refine ev_nx rfl ?_
        refine ev_lt0 ?_
        iterate 2 refine ev_nx rfl ?_
        refine ev_rem rfl (by omega) (by omega) ?_
        refine ev_nx rfl ?_
        refine ev_ne0 (fun b78 => ?_) (fun b78 => ?_)
        · iterate 3 refine ev_nx rfl ?_
          refine ev_si rfl rfl (by decide) rfl rfl rfl rfl HY ?_
          refine ev_nx rfl ?_
          refine ev_ne0 (fun b106 => ?_) (fun b106 => ?_)
          · iterate 2 refine ev_nx rfl ?_
            refine ev_lt0 ?_
            iterate 2 refine ev_nx rfl ?_
            refine ev_rem rfl (by omega) (by omega) ?_
            refine ev_nx rfl ?_
            refine ev_ne0 (fun b120 => ?_) (fun b120 => absurd b120 (by omega))
            iterate 2 refine ev_nx rfl ?_
            refine ev_lt0 ?_
            iterate 3 refine ev_nx rfl ?_
            refine ev_sv rfl rfl (by decide) rfl rfl rfl rfl HM ?_
            first | exact go _ _ (clr x.1 (1 * 2 ^ (code / b % 6 - 1)), clr x.2.1 (1 * 2 ^ (code / b % 6 - 1)), clr x.2.2 (mdj (1 * 2 ^ (code / b % 6 - 1)))) (by rw [if_pos b54]) okM (by rw [hsE, if_neg b78, if_neg b106]) | exact go _ _ (clr x.1 (1 * 2 ^ (code / b % 6 - 1)), clr x.2.1 (1 * 2 ^ (code / b % 6 - 1)), clr x.2.2 (mdj (1 * 2 ^ (code / b % 6 - 1)))) (by rw [if_neg (by omega)]) okM (by rw [hsE, if_neg b78, if_neg b106])
          · refine ev_nx rfl ?_
            first | (have e := no (by rw [hsE, if_pos b78, if_pos b91]); rw [e.2]; exact ev_ri rfl rfl rfl ⟨rfl, e.1⟩) | (have e := no (by rw [hsE, if_neg b78, if_pos b106]); rw [e.2]; exact ev_ri rfl rfl rfl ⟨rfl, e.1⟩)
        · iterate 4 refine ev_nx rfl ?_
          refine ev_add rfl ?_
          refine ev_lN rfl rfl (by omega) ?_
          rw [ll_c _ hq5]
          iterate 2 refine ev_nx rfl ?_
          refine ev_ne (fun b91 => ?_) (fun b91 => ?_)
          · iterate 2 refine ev_nx rfl ?_
            refine ev_lt0 ?_
            iterate 2 refine ev_nx rfl ?_
            refine ev_rem rfl (by omega) (by omega) ?_
            refine ev_nx rfl ?_
            refine ev_ne0 (fun b120 => absurd b120 (by omega)) (fun b120 => ?_)
            iterate 4 refine ev_nx rfl ?_
            refine ev_add rfl ?_
            refine ev_nx rfl ?_
            refine ev_sN rfl rfl (by omega) ?_
            rw [HC]
            refine ev_nx rfl ?_
            first | exact go _ _ (x.1 ||| 1 * 2 ^ (code / b % 6 - 1), x.2.1, x.2.2) (by rw [if_pos b54]) okC (by rw [hsE, if_pos b78, if_neg b91]) | exact go _ _ (x.1 ||| 1 * 2 ^ (code / b % 6 - 1), x.2.1, x.2.2) (by rw [if_neg (by omega)]) okC (by rw [hsE, if_pos b78, if_neg b91])
          · iterate 2 refine ev_nx rfl ?_
            first | (have e := no (by rw [hsE, if_pos b78, if_pos b91]); rw [e.2]; exact ev_ri rfl rfl rfl ⟨rfl, e.1⟩) | (have e := no (by rw [hsE, if_neg b78, if_pos b106]); rw [e.2]; exact ev_ri rfl rfl rfl ⟨rfl, e.1⟩)
end XR
