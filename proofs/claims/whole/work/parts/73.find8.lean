/-! the class: fillFrom, find, order -/
/-- suffixes that begin with a needle from x on -/
def dps (n u : Nat) : Nat → Nat → List (List Nat)
  | 0, _ => []
  | m + 1, x => (if bt u x = 0 then (dpm n (u ||| 1 * 2 ^ x)).map (x :: ·) else []) ++ dps n u m (x + 1)
theorem dpm_dps (n u : Nat) : dpm (n + 1) u = dps n u 5 0 := by
  rw [dpm]
  show List.flatMap _ [0, 1, 2, 3, 4] = _
  simp only [List.flatMap_cons, List.flatMap_nil, dps]
/-- the letters that an order's rest leaves -/
def vll (sh : List Nat) : Nat → Nat → List Nat → Nat
  | _, l, [] => l
  | p, l, x :: R => vll sh (p + 1) (l &&& sh.getD (x * 5 + p) 0) R
/-- the better one of an order and the best ahead -/
def osb (sh : List Nat) (p l : Nat) (pre : List Nat) (s : Option Nat × List Nat) (R : List Nat) : Option Nat × List Nat := if btr (pcn (vll sh p l R)) s.1 then (some (pcn (vll sh p l R)), pre ++ R) else s
section PG
variable {h h' : aH} {V : aV} {d i : Nat} {sh ch be : List Nat} {mo : Option Nat}
theorem aat_ch {ch' : List Nat} (ha : aat h sh ch be mo) : aat (h.set 90 (ar ch')) sh ch' be mo := ⟨by rw [gset_n (by decide)]; exact ha.1, by rw [gset_n (by decide)]; exact ha.2.1, gset_s ha.2.2.1, by rw [gset_n (by decide)]; exact ha.2.2.2⟩
theorem osb_b {p l : Nat} {pre R : List Nat} {s : Option Nat × List Nat} (hs : ∀ v, s.1 = some v → v < 1000) : ∀ v, (osb sh p l pre s R).1 = some v → v < 1000 := by
  intro v
  unfold osb
  split
  · intro e
    have := pcn_le (vll sh p l R)
    have e2 : pcn (vll sh p l R) = v := Option.some.inj e
    omega
  · exact hs v
theorem fold_b {p l : Nat} {pre : List Nat} : ∀ (D : List (List Nat)) (s : Option Nat × List Nat), (∀ v, s.1 = some v → v < 1000) → ∀ v, (D.foldl (osb sh p l pre) s).1 = some v → v < 1000 := by
  intro D
  induction D with
  | nil => intro s hs; exact hs
  | cons R D ih => intro s hs; rw [List.foldl_cons]; exact ih _ (osb_b hs)
theorem osb_l {p l : Nat} {pre R : List Nat} {s : Option Nat × List Nat} (hs : s.2.length = 5) (hp : (pre ++ R).length = 5) : (osb sh p l pre s R).2.length = 5 := by
  unfold osb
  split
  · exact hp
  · exact hs
theorem dpm_len : ∀ n u, ∀ R ∈ dpm n u, R.length = n := by
  intro n
  induction n with
  | zero => intro u R hR; simp [dpm] at hR; rw [hR]; rfl
  | succ n ih =>
    intro u R hR
    rw [dpm] at hR
    obtain ⟨x, _, hx⟩ := List.mem_flatMap.mp hR
    split at hx
    · obtain ⟨R', h1, rfl⟩ := List.mem_map.mp hx
      rw [List.length_cons, ih _ _ h1]
    · cases hx
theorem fold_l {p l : Nat} {pre : List Nat} : ∀ (D : List (List Nat)) (s : Option Nat × List Nat), s.2.length = 5 → (∀ R ∈ D, (pre ++ R).length = 5) → (D.foldl (osb sh p l pre) s).2.length = 5 := by
  intro D
  induction D with
  | nil => intro s hs _; exact hs
  | cons R D ih => intro s hs hD; rw [List.foldl_cons]; exact ih _ (osb_l hs (hD R List.mem_cons_self)) (fun R' h' => hD R' (List.mem_cons_of_mem _ h'))
theorem fold_x {p l x : Nat} {pre : List Nat} (D : List (List Nat)) (s : Option Nat × List Nat) : (D.map (x :: ·)).foldl (osb sh p l pre) s = D.foldl (osb sh (p + 1) (l &&& sh.getD (x * 5 + p) 0) (pre ++ [x])) s := by
  rw [List.foldl_map]
  congr 1
  funext s R
  unfold osb
  rw [vll, List.append_assoc]
  rfl
theorem e_fillFrom (hsh : sh.length = 25) : ∀ n p u l ch (s : Option Nat × List Nat) h, n + p = 5 → u < 32 → l < 1048576 → aat h sh ch s.2 s.1 → ch.length = 5 → s.2.length = 5 → (∀ v, s.1 = some v → v < 1000) → Ec (d + n + 1) m_X0_fillFrom [.ref 88, .int (nI p), .int (nI u), .int (nI l)] h (fun r h' => r = none ∧ (∃ ch', aat h' sh ch' ((dpm n u).foldl (osb sh p l (ch.take p)) s).2 ((dpm n u).foldl (osb sh p l (ch.take p)) s).1 ∧ ch'.length = 5 ∧ ch'.take p = ch.take p) ∧ fr 88 91 h h') := by
  intro n
  induction n with
  | zero =>
    intro p u l ch s h hn hu hl ha hc hb hs
    obtain rfl : p = 5 := by omega
    have hpl := pcn_le l
    refine ec_in [some (.ref 88), some (.int (nI 5)), some (.int (nI u)), some (.int (nI l)), none] rfl rfl ?_
    iterate 3 refine ev_nx rfl ?_
    refine ev_f (by decide) ?_
    iterate 2 refine ev_nx rfl ?_
    refine ev_si rfl rfl (by decide) rfl rfl rfl rfl (e_bitCount (by omega)) ?_
    refine ev_v rfl rfl rfl rfl rfl rfl ha.1 rfl (e_keepIfBetter ha hc hb (show pcn l < 1000 by omega) hs) (fun rv h2 q => ?_)
    obtain ⟨rfl, q1, q2⟩ := q
    refine ev_rt rfl ⟨rfl, ⟨ch, ?_, hc, rfl⟩, q2⟩
    have e : (dpm 0 u).foldl (osb sh 5 l (ch.take 5)) s = (if btr (pcn l) s.1 then some (pcn l) else s.1, if btr (pcn l) s.1 then ch else s.2) := by
      show osb sh 5 l (ch.take 5) s [] = _
      unfold osb
      rw [vll, List.append_nil, List.take_of_length_le (by omega)]
      split <;> rfl
    rw [e]
    exact q1
  | succ n ih =>
    intro p u l ch s h hn hu hl ha hc hb hs
    refine ec_in [some (.ref 88), some (.int (nI p)), some (.int (nI u)), some (.int (nI l)), none] rfl rfl ?_
    have H : ∀ m x ch1 (s1 : Option Nat × List Nat) h1, x + m = 5 → aat h1 sh ch1 s1.2 s1.1 → ch1.length = 5 → ch1.take p = ch.take p → s1.2.length = 5 → (∀ v, s1.1 = some v → v < 1000) → fr 88 91 h h1 → Ev (d + (n + 1) + 1) m_X0_fillFrom 17 [some (.ref 88), some (.int (nI p)), some (.int (nI u)), some (.int (nI l)), some (.int (nI x))] [] h1 (fun r h' => r = none ∧ (∃ ch', aat h' sh ch' ((dps n u m x).foldl (osb sh p l (ch.take p)) s1).2 ((dps n u m x).foldl (osb sh p l (ch.take p)) s1).1 ∧ ch'.length = 5 ∧ ch'.take p = ch.take p) ∧ fr 88 91 h h') := by
      intro m
      induction m with
      | zero =>
        intro x ch1 s1 h1 hx ha1 hc1 ht hb1 hs1 hf
        iterate 3 refine ev_nx rfl ?_
        refine ev_ge (fun b20 => ?_) (fun b20 => absurd b20 (by omega))
        exact ev_rt rfl ⟨rfl, ⟨ch1, ha1, hc1, ht⟩, hf⟩
      | succ m ihm =>
        intro x ch1 s1 h1 hx ha1 hc1 ht hb1 hs1 hf
        have hbx := bt_lt u x
        have hux : u ||| 1 * 2 ^ x < 32 := or32 hu (p2_32 (by omega))
        rw [dps]
        by_cases hb0 : bt u x = 0
        · rw [if_pos hb0, List.foldl_append, fold_x]
          have hl2 : l &&& sh.getD (x * 5 + p) 0 < 1048576 := Nat.lt_of_le_of_lt Nat.and_le_left hl
          have ha2 := aat_ch (ch' := ch1.set p x) ha1
          have htk : (ch1.set p x).take (p + 1) = ch.take p ++ [x] := by
            rw [← ht, List.take_set, List.take_succ_eq_append_getElem (by omega), List.set_append_right p _ (by rw [List.length_take]; omega)]
            simp [List.length_take, Nat.min_eq_left (show p ≤ ch1.length by omega)]
          have IH := ih (p + 1) (u ||| 1 * 2 ^ x) (l &&& sh.getD (x * 5 + p) 0) (ch1.set p x) s1 (h1.set 90 (ar (ch1.set p x))) (by omega) hux hl2 ha2 (by rw [List.length_set, hc1]) hb1 hs1
          rw [htk] at IH
          iterate 3 refine ev_nx rfl ?_
          refine ev_ge (fun b20 => absurd b20 (by omega)) (fun b20 => ?_)
          iterate 2 refine ev_nx rfl ?_
          refine ev_si rfl rfl (by decide) rfl rfl rfl rfl (ec_le (by omega) (e_bitAt _ _ (by omega) (by omega) _)) ?_
          rw [hb0]
          refine ev_nx rfl ?_
          refine ev_f (by decide) ?_
          refine ev_nx rfl ?_
          refine ev_gf rfl rfl ha1.1 rfl ?_
          iterate 2 refine ev_nx rfl ?_
          refine ev_sN rfl ha1.2.2.1 (by omega) ?_
          iterate 3 refine ev_nx rfl ?_
          refine ev_add rfl ?_
          iterate 3 refine ev_nx rfl ?_
          refine ev_sh1 rfl (by omega) ?_
          refine ev_or rfl ?_
          iterate 2 refine ev_nx rfl ?_
          refine ev_gf rfl rfl ha2.1 rfl ?_
          iterate 2 refine ev_nx rfl ?_
          refine ev_mul rfl ?_
          refine ev_nx rfl ?_
          refine ev_add rfl ?_
          refine ev_lN rfl ha2.2.1 (by omega) ?_
          refine ev_and rfl ?_
          refine ev_v rfl rfl rfl rfl rfl rfl ha2.1 rfl IH (fun rv h2 q => ?_)
          obtain ⟨rfl, ⟨ch2, q1, q2, q3⟩, q4⟩ := q
          refine ev_inc rfl ⟨rfl, by decide⟩ rfl rfl ?_
          refine ev_nx rfl ?_
          refine ihm (x + 1) ch2 _ h2 (by omega) q1 q2 ?_ (fold_l _ _ hb1 (fun R hR => by rw [List.length_append, List.length_append, List.length_take, dpm_len _ _ R hR]; simp; omega)) (fold_b _ _ hs1) ?_
          · have q5 : (ch2.take (p + 1)).take p = (ch.take p ++ [x]).take p := by rw [q3]
            rw [List.take_take, Nat.min_eq_left (by omega), List.take_append_of_le_length (by rw [List.length_take]; omega), List.take_take, Nat.min_self] at q5
            exact q5
          · refine ⟨by rw [q4.1, List.length_set]; exact hf.1, fun q hq => ?_⟩
            rw [q4.2 q hq, gset_n (by omega)]
            exact hf.2 q hq
        · rw [if_neg hb0, List.nil_append]
          iterate 3 refine ev_nx rfl ?_
          refine ev_ge (fun b20 => absurd b20 (by omega)) (fun b20 => ?_)
          iterate 2 refine ev_nx rfl ?_
          refine ev_si rfl rfl (by decide) rfl rfl rfl rfl (ec_le (by omega) (e_bitAt _ _ (by omega) (by omega) _)) ?_
          refine ev_nx rfl ?_
          refine ev_ne0 (fun b29 => ?_) (fun b29 => absurd b29 (by omega))
          refine ev_inc rfl ⟨rfl, by decide⟩ rfl rfl ?_
          refine ev_nx rfl ?_
          exact ihm (x + 1) ch1 s1 h1 (by omega) ha1 hc1 ht hb1 hs1 hf
    rw [dpm_dps]
    iterate 3 refine ev_nx rfl ?_
    refine ev_lt (fun b2 => ?_) (fun b2 => absurd b2 (by omega))
    iterate 2 refine ev_nx rfl ?_
    exact H 5 0 ch s h rfl ha hc rfl hb hs ⟨rfl, fun _ _ => rfl⟩
end PG
