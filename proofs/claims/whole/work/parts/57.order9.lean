/-! the reference: nextOrder, order -/
/-- the place from which on it falls -/
def nkf (R : List Nat) : Nat → Option Nat
  | 0 => if R.getD 1 0 < R.getD 0 0 then none else some 0
  | k + 1 => if R.getD (k + 2) 0 < R.getD (k + 1) 0 then nkf R k else some (k + 1)
/-- the last one that isn't less -/
def nif (R : List Nat) (v : Nat) : Nat → Nat
  | 0 => 0
  | i + 1 => if R.getD (i + 1) 0 < v then nif R v i else i + 1
def nrv : Nat → Nat → Nat → List Nat → List Nat
  | 0, _, _, R => R
  | n + 1, a, b, R => if a < b then nrv n (a + 1) (b - 1) (swp R a b) else R
def nxo (R : List Nat) : Option (List Nat) := match nkf R 3 with
  | none => none
  | some k => some (nrv 5 (k + 1) 4 (swp R k (nif R (R.getD k 0) 4)))
section XP
variable {d : Nat} {h : aH} {z : aZ} {y : aY} {st nw be ge re rl br pt_ : List Nat} {wo : List Int32} {K S G : List Nat} {c t j : Nat}
theorem nkf_ok {R : List Nat} : ∀ k q, nkf R k = some q → q ≤ k ∧ R.getD q 0 ≤ R.getD (q + 1) 0 := by
  intro k
  induction k with
  | zero =>
    intro q e
    rw [nkf] at e
    split at e
    · cases e
    · cases e; exact ⟨Nat.le_refl _, by simp only [Nat.zero_add]; omega⟩
  | succ k ih =>
    intro q e
    rw [nkf] at e
    split at e
    · have := ih q e; exact ⟨by omega, this.2⟩
    · cases e; exact ⟨Nat.le_refl _, by show R.getD (k + 1) 0 ≤ R.getD (k + 2) 0; omega⟩
theorem nif_ok {R : List Nat} {v q : Nat} (hq : v ≤ R.getD q 0) : ∀ i, q ≤ i → q ≤ nif R v i ∧ nif R v i ≤ i := by
  intro i
  induction i with
  | zero => intro h; exact ⟨h, Nat.le_refl _⟩
  | succ i ih =>
    intro h
    rw [nif]
    split
    · rename_i hc
      have : q ≤ i := by
        rcases Nat.lt_or_ge i q with q1 | q1
        · have : q = i + 1 := by omega
          subst this; omega
        · exact q1
      have := ih this
      omega
    · omega
theorem f_next {R : List Nat} (hR : R.length = 5) (hR5 : ∀ x ∈ R, x < 5) : Ec d m_X9_nextOrder [.ref 0] (XM z y st nw be ge re R br pt_ wo) (rt (.int (nI (if (nxo R).isSome then 1 else 0))) (XM z y st nw be ge re ((nxo R).getD R) br pt_ wo)) := by
  have hg : ∀ p, p < 5 → R.getD p 0 < 5 := fun p hp => gd3 hR5 (by omega)
  refine ec_in [some (.ref 0), none, none, none, none, none] rfl rfl ?_
  have Rv : ∀ n a b (R : List Nat) (k i : Nat) (l3 : Option Value), R.length = 5 → a ≤ 5 → b < 5 → b ≤ a + n → am_nl [l3] 1 = true → Ev d m_X9_nextOrder 92 [some (.ref 0), some (.int (nI k)), some (.int (nI i)), l3, some (.int (nI a)), some (.int (nI b))] [] (XM z y st nw be ge re R br pt_ wo) (rt (.int (nI 1)) (XM z y st nw be ge re (nrv n a b R) br pt_ wo)) := by
    intro n
    induction n with
    | zero =>
      intro a b R k i l3 hR ha hb hab hnl
      iterate 3 refine ev_nx rfl ?_
      refine ev_ge (fun b96 => ?_) (fun b96 => absurd b96 (by omega))
      refine ev_nx rfl ?_
      exact ev_ri rfl rfl rfl ⟨rfl, rfl⟩
    | succ n ih =>
      intro a b R k i l3 hR ha hb hab hnl
      rw [nrv]
      iterate 3 refine ev_nx rfl ?_
      refine ev_ge (fun b96 => ?_) (fun b96 => ?_)
      · refine ev_nx rfl ?_
        rw [if_neg (by omega)]
        exact ev_ri rfl rfl rfl ⟨rfl, rfl⟩
      · iterate 3 refine ev_nx rfl ?_
        refine ev_lN rfl rfl (by first | omega | (simp only [List.length_set, List.length_replicate]; omega)) ?_
        iterate 7 refine ev_nx rfl ?_
        refine ev_lN rfl rfl (by first | omega | (simp only [List.length_set, List.length_replicate]; omega)) ?_
        refine ev_sN rfl rfl (by omega) ?_
        iterate 4 refine ev_nx rfl ?_
        refine ev_sN rfl rfl (by rw [List.length_set]; omega) ?_
        refine ev_inc rfl ⟨rfl, by decide⟩ rfl rfl ?_
        refine ev_nx rfl ?_
        rw [pk_sub (by omega)]
        refine ev_nx rfl ?_
        rw [if_pos (by omega)]
        exact ih (a + 1) (b - 1) (swp R a b) k i _ (by rw [swp_len, hR]) (by omega) (by omega) (by omega) rfl
  have ne : ∀ {k i : Nat}, R.getD k 0 ≤ R.getD (k + 1) 0 → R.getD (i + 1) 0 < R.getD k 0 → k + 1 ≤ i + 1 → k + 1 ≤ i := by
    intro k i q1 q2 q3
    rcases Nat.lt_or_ge i (k + 1) with q | q
    · exfalso
      obtain rfl : i = k := by omega
      omega
    · exact q
  have Iv : ∀ (k : Nat) (T : Nat), k < 4 → R.getD k 0 ≤ R.getD (k + 1) 0 → Ev d m_X9_nextOrder 58 [some (.ref 0), some (.int (nI k)), some (.int (nI T)), none, none, none] [] (XM z y st nw be ge re R br pt_ wo) (rt (.int (nI 1)) (XM z y st nw be ge re (nrv 5 (k + 1) 4 (swp R k T)) br pt_ wo)) → ∀ i, i < 5 → k + 1 ≤ i → T = nif R (R.getD k 0) i → Ev d m_X9_nextOrder 37 [some (.ref 0), some (.int (nI k)), some (.int (nI i)), none, none, none] [] (XM z y st nw be ge re R br pt_ wo) (rt (.int (nI 1)) (XM z y st nw be ge re (nrv 5 (k + 1) 4 (swp R k T)) br pt_ wo)) := by
    intro k T hk hkk kk i
    induction i with
    | zero => intro h1 h2; omega
    | succ i ih =>
      intro h1 h2 hT
      have g1 := hg (i + 1) h1
      have g2 := hg k (by omega)
      rw [nif] at hT
      iterate 3 refine ev_nx rfl ?_
      refine ev_lN rfl rfl (by first | omega | (simp only [List.length_set, List.length_replicate]; omega)) ?_
      iterate 3 refine ev_nx rfl ?_
      refine ev_lN rfl rfl (by first | omega | (simp only [List.length_set, List.length_replicate]; omega)) ?_
      refine ev_nx rfl ?_
      refine ev_ge (fun b49 => ?_) (fun b49 => ?_)
      · rw [if_neg (by omega)] at hT
        subst hT
        exact kk
      · refine ev_nx rfl ?_
        rw [pk_sub (by omega), Nat.add_sub_cancel]
        refine ev_nx rfl ?_
        rw [if_pos b49] at hT
        exact ih (by omega) (ne hkk b49 h2) hT
  have Fv : ∀ (k T : Nat), k < 4 → T < 5 → Ev d m_X9_nextOrder 58 [some (.ref 0), some (.int (nI k)), some (.int (nI T)), none, none, none] [] (XM z y st nw be ge re R br pt_ wo) (rt (.int (nI 1)) (XM z y st nw be ge re (nrv 5 (k + 1) 4 (swp R k T)) br pt_ wo)) := by
    intro k T hk hT
    iterate 3 refine ev_nx rfl ?_
    refine ev_lN rfl rfl (by first | omega | (simp only [List.length_set, List.length_replicate]; omega)) ?_
    iterate 7 refine ev_nx rfl ?_
    refine ev_lN rfl rfl (by first | omega | (simp only [List.length_set, List.length_replicate]; omega)) ?_
    refine ev_sN rfl rfl (by omega) ?_
    iterate 4 refine ev_nx rfl ?_
    refine ev_sN rfl rfl (by rw [List.length_set]; omega) ?_
    iterate 2 refine ev_nx rfl ?_
    refine ev_add rfl ?_
    iterate 3 refine ev_nx rfl ?_
    exact Rv 5 (k + 1) 4 (swp R k T) k T _ (by rw [swp_len, hR]) (by omega) (by omega) (by omega) rfl
  have Gv : ∀ k, k < 4 → R.getD k 0 ≤ R.getD (k + 1) 0 → Ev d m_X9_nextOrder 29 [some (.ref 0), some (.int (nI k)), none, none, none, none] [] (XM z y st nw be ge re R br pt_ wo) (rt (.int (nI 1)) (XM z y st nw be ge re (nrv 5 (k + 1) 4 (swp R k (nif R (R.getD k 0) 4))) br pt_ wo)) := by
    intro k hk hkk
    have hni := nif_ok (R := R) (v := R.getD k 0) (q := k + 1) hkk 4 (by omega)
    iterate 2 refine ev_nx rfl ?_
    refine ev_ge0 ?_
    iterate 2 refine ev_nx rfl ?_
    exact Iv k _ hk hkk (Fv k _ hk (by omega)) 4 (by omega) (by omega) rfl
  have Kv : ∀ k, k < 4 → Ev d m_X9_nextOrder 2 [some (.ref 0), some (.int (nI k)), none, none, none, none] [] (XM z y st nw be ge re R br pt_ wo) (rt (.int (nI (if (nkf R k).isSome then 1 else 0))) (XM z y st nw be ge re (match nkf R k with
    | none => R
    | some k => nrv 5 (k + 1) 4 (swp R k (nif R (R.getD k 0) 4))) br pt_ wo)) := by
    intro k
    induction k with
    | zero =>
      intro hk
      have g1 := hg 0 (by omega)
      have g2 := hg 1 (by omega)
      rw [nkf]
      by_cases hc : R.getD 1 0 < R.getD 0 0
      · rw [if_pos hc]
        iterate 2 refine ev_nx rfl ?_
        refine ev_lt0 ?_
        iterate 3 refine ev_nx rfl ?_
        refine ev_lN rfl rfl (by first | omega | (simp only [List.length_set, List.length_replicate]; omega)) ?_
        iterate 4 refine ev_nx rfl ?_
        refine ev_add rfl ?_
        rw [show 0 + 1 = 1 from rfl]
        refine ev_lN rfl rfl (by first | omega | (simp only [List.length_set, List.length_replicate]; omega)) ?_
        refine ev_nx rfl ?_
        refine ev_leq (fun b20 => absurd b20 (by omega)) (fun b20 => ?_)
        iterate 2 refine ev_nx rfl ?_
        skip
        refine ev_nx rfl ?_
        refine ev_nx rfl ?_
        refine ev_t (by decide) ?_
        refine ev_nx rfl ?_
        refine ev_nx rfl ?_
        refine ev_f (by decide) ?_
        refine ev_nx rfl ?_
        exact ev_ri rfl rfl rfl ⟨rfl, rfl⟩
      · rw [if_neg hc]
        iterate 2 refine ev_nx rfl ?_
        refine ev_lt0 ?_
        iterate 3 refine ev_nx rfl ?_
        refine ev_lN rfl rfl (by first | omega | (simp only [List.length_set, List.length_replicate]; omega)) ?_
        iterate 4 refine ev_nx rfl ?_
        refine ev_add rfl ?_
        rw [show 0 + 1 = 1 from rfl]
        refine ev_lN rfl rfl (by first | omega | (simp only [List.length_set, List.length_replicate]; omega)) ?_
        refine ev_nx rfl ?_
        refine ev_leq (fun b20 => ?_) (fun b20 => absurd b20 (by omega))
        exact Gv 0 (by omega) (by rw [Nat.zero_add]; omega)
    | succ k ih =>
      intro hk
      have g1 := hg (k + 1) (by omega)
      have g2 := hg (k + 2) (by omega)
      rw [nkf]
      by_cases hc : R.getD (k + 2) 0 < R.getD (k + 1) 0
      · rw [if_pos hc]
        iterate 2 refine ev_nx rfl ?_
        refine ev_lt0 ?_
        iterate 3 refine ev_nx rfl ?_
        refine ev_lN rfl rfl (by first | omega | (simp only [List.length_set, List.length_replicate]; omega)) ?_
        iterate 4 refine ev_nx rfl ?_
        refine ev_add rfl ?_
        rw [show k + 1 + 1 = k + 2 from rfl]
        refine ev_lN rfl rfl (by first | omega | (simp only [List.length_set, List.length_replicate]; omega)) ?_
        refine ev_nx rfl ?_
        refine ev_leq (fun b20 => absurd b20 (by omega)) (fun b20 => ?_)
        refine ev_nx rfl ?_
        rw [pk_sub (by omega), Nat.add_sub_cancel]
        refine ev_nx rfl ?_
        exact ih (by omega)
      · rw [if_neg hc]
        iterate 2 refine ev_nx rfl ?_
        refine ev_lt0 ?_
        iterate 3 refine ev_nx rfl ?_
        refine ev_lN rfl rfl (by first | omega | (simp only [List.length_set, List.length_replicate]; omega)) ?_
        iterate 4 refine ev_nx rfl ?_
        refine ev_add rfl ?_
        rw [show k + 1 + 1 = k + 2 from rfl]
        refine ev_lN rfl rfl (by first | omega | (simp only [List.length_set, List.length_replicate]; omega)) ?_
        refine ev_nx rfl ?_
        refine ev_leq (fun b20 => ?_) (fun b20 => absurd b20 (by omega))
        exact Gv (k + 1) (by omega) (by show R.getD (k + 1) 0 ≤ R.getD (k + 2) 0; omega)
  have e1 : (if (nxo R).isSome then 1 else 0) = (if (nkf R 3).isSome then 1 else 0) := by
    unfold nxo; cases nkf R 3 <;> rfl
  have e2 : (nxo R).getD R = (match nkf R 3 with
    | none => R
    | some k => nrv 5 (k + 1) 4 (swp R k (nif R (R.getD k 0) 4))) := by
    unfold nxo; cases nkf R 3 <;> rfl
  rw [e1, e2]
  iterate 2 refine ev_nx rfl ?_
  exact Kv 3 (by omega)
/-- orders, the first ones first -/
def dpm : Nat → Nat → List (List Nat)
  | 0, _ => [[]]
  | n + 1, u => (List.range 5).flatMap (fun x => if bt u x = 0 then (dpm n (u ||| 1 * 2 ^ x)).map (x :: ·) else [])
/-- each one is the next one of that ahead -/
def chb : List (List Nat) → Bool
  | [] => true
  | R :: l => match l with
    | [] => nxo R == none
    | R' :: _ => nxo R == some R' && chb l
theorem dpm_ok : chb (dpm 5 0) = true ∧ (dpm 5 0).head? = some [0, 1, 2, 3, 4] ∧ ∀ R ∈ dpm 5 0, R.length = 5 ∧ ∀ x ∈ R, x < 5 := by decide +kernel
def prm (K R : List Nat) : List Nat := [K.getD (R.getD 0 0) 0, K.getD (R.getD 1 0) 0, K.getD (R.getD 2 0) 0, K.getD (R.getD 3 0) 0, K.getD (R.getD 4 0) 0]
/-- the better one of an order and the best ahead -/
def ost (f : List Nat → Nat) (s : Option Nat × List Nat) (R : List Nat) : Option Nat × List Nat := if btr (f R) s.1 then (some (f R), R) else s
def orA (k : Option Nat) (s : Option Nat × List Nat) : Int32 := match k with
  | none => eo1 s.1
  | some k => nI (s.2.getD k 0)
theorem prm_ok (ok : lok K S G c t j) {R : List Nat} (hR : R.length = 5) (hR5 : ∀ x ∈ R, x < 5) {S' G' : List Nat} (h2 : S'.length = 5 ∧ ∀ s ∈ S', s < 3) (h3 : G'.length = 5 ∧ ∀ s ∈ G', s < 3) : lok (prm K R) S' G' c t j := by
  refine ⟨⟨rfl, ?_⟩, h2, h3, ok.2.2.2⟩
  have hg : ∀ p, p < 5 → K.getD (R.getD p 0) 0 < 6 := fun p hp => gd3 ok.1.2 (by have := ok.1.1; have := gd3 hR5 (show p < R.length by omega); omega)
  intro s hs
  simp only [prm, List.mem_cons, List.not_mem_nil, or_false] at hs
  rcases hs with rfl | rfl | rfl | rfl | rfl
  · exact hg 0 (by decide)
  · exact hg 1 (by decide)
  · exact hg 2 (by decide)
  · exact hg 3 (by decide)
  · exact hg 4 (by decide)
end XP
