/-! what is heard; the past -/
/-- only the cells from a to b have changed -/
def fr (a b : Nat) (h h' : aH) : Prop := h'.length = h.length ∧ ∀ q, q < a ∨ b < q → h'[q]? = h[q]?
def hat (h : aH) (l : List Nat) (n : Nat) : Prop := h[74]? = some (.inr (.inr (2, [.ref 75, .int (nI n)]))) ∧ h[75]? = some (ar l)
/-- like, sign by sign; 31 is like every sign -/
def lik : List Nat → List Nat → Bool
  | [], [] => true
  | a :: l, b :: s => if a = 31 then lik l s else if a = b then lik l s else false
  | _, _ => false
theorem lik_len : ∀ l s : List Nat, ¬ s.length = l.length → lik l s = false
  | [], [], h => absurd rfl h
  | [], _ :: _, _ => rfl
  | _ :: _, [], _ => rfl
  | a :: l, b :: s, h => by
    have := lik_len l s (fun e => h (by rw [List.length_cons, List.length_cons, e]))
    unfold lik
    rw [this]
    split
    · rfl
    · split <;> rfl
section HP
variable {h : aH} {i : Nat} {l sg ln : List Nat} {n mn d : Nat} {Q : Option Value → aH → Prop}
theorem e_hadd (hm : hat h l n) (hl : l.length = 8) (hn : n ≤ 8) {s : Nat} : Ec d m_X2_add [.ref 74, .int (nI s)] h (fun r h' => r = none ∧ hat h' (if n < 8 then l.set n s else l) (if n < 8 then n + 1 else n) ∧ fr 74 75 h h') := by
  refine ec_in [some (.ref 74), some (.int (nI s))] rfl rfl ?_
  refine ev_nx rfl ?_
  refine ev_gf rfl rfl hm.1 rfl ?_
  iterate 2 refine ev_nx rfl ?_
  refine ev_ge (fun hc => ?_) (fun hc => ?_)
  · rw [if_neg (by omega), if_neg (by omega)]
    exact ev_rt rfl ⟨rfl, hm, rfl, fun _ _ => rfl⟩
  · rw [if_pos (by omega), if_pos (by omega)]
    refine ev_nx rfl ?_
    refine ev_gf rfl rfl hm.1 rfl ?_
    refine ev_nx rfl ?_
    refine ev_gf rfl rfl hm.1 rfl ?_
    refine ev_nx rfl ?_
    refine ev_is rfl hm.2 (by rw [List.length_map]; omega) ?_
    have hm1 : ∀ y, (h.set 75 y)[74]? = some (.inr (.inr (2, [.ref 75, .int (nI n)]))) := fun y => by rw [gset_n (by decide)]; exact hm.1
    iterate 2 refine ev_nx rfl ?_
    refine ev_gf rfl rfl (hm1 _) rfl ?_
    iterate 2 refine ev_nx rfl ?_
    rw [nI_add]
    refine ev_pf rfl rfl (hm1 _) (by show 1 < 2; decide) rfl rfl rfl ?_
    refine ev_rt rfl ⟨rfl, ⟨?_, ?_⟩, by simp, fun q hq => ?_⟩
    · rw [gset_s (hm1 _)]; rfl
    · rw [gset_n (by decide), gset_s hm.2, ms_]; rfl
    · rw [gset_n (by omega), gset_n (by omega)]
theorem e_hempty (hm : hat h l n) : Ec d m_X2_empty [.ref 74] h (fun r h' => r = some (.int (nI n)) ∧ hat h' l 0 ∧ fr 74 75 h h') := by
  refine ec_in [some (.ref 74), none] rfl rfl ?_
  refine ev_nx rfl ?_
  refine ev_gf rfl rfl hm.1 rfl ?_
  iterate 3 refine ev_nx rfl ?_
  refine ev_pf rfl rfl hm.1 (by show 1 < 2; decide) rfl rfl rfl ?_
  refine ev_nx rfl ?_
  refine ev_ri rfl rfl rfl ⟨rfl, ⟨?_, ?_⟩, by simp, fun q hq => ?_⟩
  · rw [gset_s hm.1]; rfl
  · rw [gset_n (by decide)]; exact hm.2
  · rw [gset_n (by omega)]
theorem tk_drop {k : Nat} (hl : n ≤ l.length) (hk : k < n) : (l.take n).drop k = l.getD k 0 :: (l.take n).drop (k + 1) := by
  have hlen : (l.take n).length = n := by rw [List.length_take]; omega
  rw [List.drop_eq_getElem_cons (by omega)]
  congr 1
  rw [List.getElem_take, List.getD, List.getElem?_eq_getElem (by omega)]; rfl
theorem lp_like (hm : hat h l n) (hl : l.length = 8) (hn : n ≤ 8) (hl32 : ∀ s ∈ l, s < 32) (hM : mat h sg ln mn) (hs : sg.length = 48) (hln : ln.length = 6) (hs20 : ∀ s ∈ sg, s < 31) {m : Nat} (hx : m < 6) (he : ln.getD m 0 = n) : ∀ r k, k + r = n → Ev (d + 1) m_X2_isLike 16 [some (.ref 74), some (.ref 3), some (.int (nI m)), some (.int (nI k))] [] h (rt (.int (nI (b2n (lik ((l.take n).drop k) ((msg sg ln m).drop k))))) h) := by
  intro r
  induction r with
  | zero =>
    intro k hk
    iterate 2 refine ev_nx rfl ?_
    refine ev_gf rfl rfl hm.1 rfl ?_
    refine ev_nx rfl ?_
    refine ev_ge (fun _ => ?_) (fun h => absurd h (by omega))
    refine ev_nx rfl ?_
    refine ev_ri rfl rfl rfl ⟨?_, rfl⟩
    rw [List.drop_eq_nil_of_le (by rw [List.length_take]; omega), List.drop_eq_nil_of_le (by rw [msg_len hs hx (by omega)]; omega)]
    rfl
  | succ r ih =>
    intro k hk
    have hsk : sg.getD (m * 8 + k) 0 < 31 := gd3 hs20 (by omega)
    have hlk : l.getD k 0 < 32 := gd3 hl32 (by omega)
    have ih := ih (k + 1) (by omega)
    rw [msg_drop hs hx (by omega) (by omega), tk_drop (by omega) (by omega), lik]
    have J : ∀ b : Bool, b = lik ((l.take n).drop (k + 1)) ((msg sg ln m).drop (k + 1)) → Ev (d + 1) m_X2_isLike 52 [some (.ref 74), some (.ref 3), some (.int (nI m)), some (.int (nI k))] [] h (rt (.int (nI (b2n b))) h) := by
      intro b hb
      rw [hb]
      iterate 2 refine ev_nx rfl ?_
      rw [nI_add]
      exact ih
    iterate 2 refine ev_nx rfl ?_
    refine ev_gf rfl rfl hm.1 rfl ?_
    refine ev_nx rfl ?_
    refine ev_ge (fun h => absurd h (by omega)) (fun _ => ?_)
    refine ev_nx rfl ?_
    refine ev_gf rfl rfl hm.1 rfl ?_
    refine ev_nx rfl ?_
    refine ev_ia rfl (am_arr_h (by decide) hm.2) (mg (by omega)) ?_
    iterate 2 refine ev_nx rfl ?_
    refine ev_eq (fun hc => ?_) (fun hc => ?_)
    · rw [if_pos hc]
      exact J _ rfl
    · rw [if_neg hc]
      refine ev_nx rfl ?_
      refine ev_gf rfl rfl hm.1 rfl ?_
      refine ev_nx rfl ?_
      refine ev_ia rfl (am_arr_h (by decide) hm.2) (mg (by omega)) ?_
      iterate 3 refine ev_nx rfl ?_
      refine ev_vi rfl rfl rfl rfl rfl rfl hM.1 rfl (e_signOf hM hs hx (by omega)) ?_
      refine ev_nx rfl ?_
      refine ev_eq (fun hc => ?_) (fun hc => ?_)
      · rw [if_pos hc]
        exact J _ rfl
      · rw [if_neg hc]
        refine ev_nx rfl ?_
        exact ev_ri rfl rfl rfl ⟨rfl, rfl⟩
theorem e_isLike (hm : hat h l n) (hl : l.length = 8) (hn : n ≤ 8) (hl32 : ∀ s ∈ l, s < 32) (hM : mat h sg ln mn) (hs : sg.length = 48) (hln : ln.length = 6) (hs20 : ∀ s ∈ sg, s < 31) {m : Nat} (hx : m < 6) (h8 : ln.getD m 0 ≤ 8) : Ec (d + 1) m_X2_isLike [.ref 74, .ref 3, .int (nI m)] h (rt (.int (nI (b2n (lik (l.take n) (msg sg ln m))))) h) := by
  refine ec_in [some (.ref 74), some (.ref 3), some (.int (nI m)), none] rfl rfl ?_
  iterate 2 refine ev_nx rfl ?_
  refine ev_vi rfl rfl rfl rfl rfl rfl hM.1 rfl (e_lengthOf hM hln hx) ?_
  refine ev_nx rfl ?_
  refine ev_gf rfl rfl hm.1 rfl ?_
  refine ev_nx rfl ?_
  refine ev_eq (fun hc => ?_) (fun hc => ?_)
  · iterate 2 refine ev_nx rfl ?_
    have H := lp_like (d := d) hm hl hn hl32 hM hs hln hs20 hx hc n 0 (by omega)
    rw [List.drop_zero, List.drop_zero] at H
    exact H
  · rw [lik_len _ _ (by rw [msg_len hs hx h8, List.length_take]; omega)]
    refine ev_nx rfl ?_
    exact ev_ri rfl rfl rfl ⟨rfl, rfl⟩
end HP
/-! the past -/
/-- a line's numbers: kept, state, given, cut, turned, joined -/
abbrev aN : Type := List Nat × List Nat × List Nat × Nat × Nat × Nat
def ltx (g : aH) (o : Nat) (x : aN) : Prop := ∃ C, C.length = 5 ∧ lat g o x.1 x.2.1 x.2.2.1 C x.2.2.2.1 x.2.2.2.2.1 x.2.2.2.2.2
def nok (x : aN) : Prop := x.1.length = 5 ∧ x.2.1.length = 5 ∧ x.2.2.1.length = 5
def zN : aN := (z5, z5, z5, 0, 0, 0)
def po (nx dd kp : Nat) : aC := .inr (.inr (5, [.ref 17, .ref 18, .int (nI nx), .int (nI dd), .int (nI kp)]))
def pat (h : aH) (nx dd kp : Nat) (L : List aN) : Prop := h[16]? = some (po nx dd kp) ∧ h[17]? = some (.inr (.inl ((List.range 8).map (fun n => some (19 + 5 * n))))) ∧ h[18]? = some (.inr (.inl [some 59, some 64])) ∧ L.length = 10 ∧ ∀ n, n < 10 → ltx h (19 + 5 * n) (L.getD n zN) ∧ nok (L.getD n zN)
section PA
variable {h h' : aH} {i o d nx dd kp : Nat} {x y : aN} {L : List aN} {Q : Option Value → aH → Prop}
theorem ltx_fr (hx : ltx h o x) (hq : ∀ q, o ≤ q → q ≤ o + 4 → h'[q]? = h[q]?) : ltx h' o x := by
  obtain ⟨C, hC, a, b, c, e, f⟩ := hx
  exact ⟨C, hC, by rw [hq _ (by omega) (by omega)]; exact a, by rw [hq _ (by omega) (by omega)]; exact b, by rw [hq _ (by omega) (by omega)]; exact c, by rw [hq _ (by omega) (by omega)]; exact e, by rw [hq _ (by omega) (by omega)]; exact f⟩
theorem ltx_o (hx : ltx h o x) : ∃ c t j, h[o]? = some (lo o c t j) := by
  obtain ⟨C, hC, a, _⟩ := hx
  exact ⟨_, _, _, a⟩
theorem e_copy (hx : ltx h i x) (hy : ltx h o y) (nx : nok x) (ny : nok y) (hd : o + 4 < i ∨ i + 4 < o) (hh : h.length ≤ 100000) : Ec d m_X3_copyFrom [.ref i, .ref o] h (fun r h' => r = none ∧ ltx h' i y ∧ fr i (i + 4) h h') := by
  obtain ⟨C, hC, a⟩ := hx
  obtain ⟨C2, hC2, b⟩ := hy
  have hl := lat_lt a
  have H := e_copyFrom (C := C) (c := x.2.2.2.1) (t := x.2.2.2.2.1) (j := x.2.2.2.2.2) (d := d) ⟨hl, hh⟩ hd b nx.1 nx.2.1 nx.2.2 ny.1 ny.2.1 ny.2.2
  rw [lat_self a] at H
  refine ec_mono H (fun r h' q => ?_)
  obtain ⟨rfl, rfl⟩ := q
  exact ⟨rfl, ⟨C, hC, lat_of hl⟩, lh_len, fun q hq => lh_o (by omega)⟩
theorem pat_set (hp : pat h nx dd kp L) {a b c : Nat} : pat (h.set 16 (po a b c)) a b c L :=
  ⟨gset_s hp.1, by rw [gset_n (by decide)]; exact hp.2.1, by rw [gset_n (by decide)]; exact hp.2.2.1, hp.2.2.2.1, fun n hn => ⟨ltx_fr (hp.2.2.2.2 n hn).1 (fun q h1 h2 => gset_n (by omega)), (hp.2.2.2.2 n hn).2⟩⟩
theorem pat_cp (hp : pat h nx dd kp L) {n : Nat} (hn : n < 10) (hx : ltx h' (19 + 5 * n) x) (nx' : nok x) (hf : fr (19 + 5 * n) (19 + 5 * n + 4) h h') : pat h' nx dd kp (L.set n x) := by
  refine ⟨by rw [hf.2 _ (by omega)]; exact hp.1, by rw [hf.2 _ (by omega)]; exact hp.2.1, by rw [hf.2 _ (by omega)]; exact hp.2.2.1, by rw [List.length_set]; exact hp.2.2.2.1, fun k hk => ?_⟩
  by_cases e : n = k
  · subst e
    have : (L.set n x).getD n zN = x := by
      rw [List.getD, List.getElem?_set_self (by rw [hp.2.2.2.1]; exact hn)]; rfl
    rw [this]; exact ⟨hx, nx'⟩
  · have : (L.set n x).getD k zN = L.getD k zN := by
      rw [List.getD, List.getElem?_set_ne e]; rfl
    rw [this]
    exact ⟨ltx_fr (hp.2.2.2.2 k hk).1 (fun q h1 h2 => hf.2 q (by omega)), (hp.2.2.2.2 k hk).2⟩
theorem pat_fr (hp : pat h nx dd kp L) {a b : Nat} (hb : b < 16 ∨ 68 < a) (hf : fr a b h h') : pat h' nx dd kp L :=
  ⟨by rw [hf.2 _ (by omega)]; exact hp.1, by rw [hf.2 _ (by omega)]; exact hp.2.1, by rw [hf.2 _ (by omega)]; exact hp.2.2.1, hp.2.2.2.1, fun n hn => ⟨ltx_fr (hp.2.2.2.2 n hn).1 (fun q h1 h2 => hf.2 q (by omega)), (hp.2.2.2.2 n hn).2⟩⟩
theorem ev_ps {y : Nat × Nat × Nat × Nat × FieldType × Bool} {m : aM} {pc np r x v a b c : Nat} {LL : aL} {T : List Value} (hp : h[16]? = some (po nx dd kp)) (hc : am_cd m pc = some (.putfield x, np, r)) (hy : am_fs[r]? = some y) (h3 : y.2.2.1 = 5 ∧ y.2.2.2.2.1 = .int ∧ y.2.2.2.2.2 = false) (hl : y.2.2.2.1 < 5) (hv : [Value.ref 17, .ref 18, .int (nI nx), .int (nI dd), .int (nI kp)].set y.2.2.2.1 (.int (nI v)) = [.ref 17, .ref 18, .int (nI a), .int (nI b), .int (nI c)]) (k : Ev d m np LL T (h.set 16 (po a b c)) Q) : Ev d m pc LL (.int (nI v) :: .ref 16 :: T) h Q := by
  refine ev_pf hc hy (fs := [.ref 17, .ref 18, .int (nI nx), .int (nI dd), .int (nI kp)]) (by rw [hp, h3.1]; rfl) hl (by rw [h3.2.1]; rfl) (by rw [h3.2.1]; rfl) h3.2.2 ?_
  rw [hv, h3.1]
  exact k
theorem n_min {a b : Nat} (ha : a < 2147483648) (hb : b < 2147483648) : (if nI b < nI a then nI b else nI a) = nI (min a b) := by
  by_cases hc : b < a
  · rw [if_pos ((nI_ltI hb ha).mpr hc), Nat.min_eq_right (by omega)]
  · rw [if_neg (fun q => hc ((nI_ltI hb ha).mp q)), Nat.min_eq_left (by omega)]
theorem rg8 {n : Nat} (hn : n < 8) : ((List.range 8).map (fun n => some (19 + 5 * n)))[n]? = some (some (19 + 5 * n)) := by
  rw [List.getElem?_map, List.getElem?_range hn]; rfl
theorem e_pempty (hp : pat h nx dd kp L) : Ec d m_X5_empty [.ref 16] h (fun r h' => r = none ∧ pat h' nx 0 0 L ∧ fr 16 68 h h') := by
  refine ec_in [some (.ref 16)] rfl rfl ?_
  iterate 2 refine ev_nx rfl ?_
  refine ev_ps (a := nx) (b := 0) (c := kp) hp.1 rfl rfl (by decide) (by decide) rfl ?_
  iterate 2 refine ev_nx rfl ?_
  refine ev_ps (a := nx) (b := 0) (c := 0) (pat_set hp).1 rfl rfl (by decide) (by decide) rfl ?_
  exact ev_rt rfl ⟨rfl, pat_set (pat_set hp), by simp, fun q hq => by rw [gset_n (by omega), gset_n (by omega)]⟩
theorem e_remember (hp : pat h nx dd kp L) (hn : nx < 8) (hdd : dd ≤ 8) (hx : ltx h i x) (okx : nok x) (hi : i + 4 < 16) (hh : h.length ≤ 100000) : Ec (d + 1) m_X5_remember [.ref 16, .ref i] h (fun r h' => r = none ∧ pat h' ((nx + 1) % 8) (min (dd + 1) 8) kp (L.set nx x) ∧ fr 16 68 h h') := by
  refine ec_in [some (.ref 16), some (.ref i)] rfl rfl ?_
  refine ev_nx rfl ?_
  refine ev_gf rfl rfl hp.1 rfl ?_
  refine ev_nx rfl ?_
  refine ev_gf rfl rfl hp.1 rfl ?_
  refine ev_aa rfl hp.2.1 (rg8 hn) ?_
  refine ev_nx rfl ?_
  obtain ⟨c1, t1, j1, ho⟩ := ltx_o (hp.2.2.2.2 nx (by omega)).1
  refine ev_v rfl rfl rfl rfl rfl rfl ho rfl (e_copy (hp.2.2.2.2 nx (by omega)).1 hx (hp.2.2.2.2 nx (by omega)).2 okx (by omega) hh) (fun rv h2 q => ?_)
  obtain ⟨rfl, q1, q2⟩ := q
  have hp2 := pat_cp hp (by omega) q1 okx q2
  iterate 2 refine ev_nx rfl ?_
  refine ev_gf rfl rfl hp2.1 rfl ?_
  iterate 4 refine ev_nx rfl ?_
  rw [nI_add, pk_rem (by omega) (by decide) (by decide)]
  refine ev_ps (a := (nx + 1) % 8) (b := dd) (c := kp) hp2.1 rfl rfl (by decide) (by decide) rfl ?_
  iterate 2 refine ev_nx rfl ?_
  refine ev_gf rfl rfl (pat_set hp2).1 rfl ?_
  iterate 4 refine ev_nx rfl ?_
  rw [nI_add, n_min (by omega) (by decide)]
  refine ev_ps (a := (nx + 1) % 8) (b := min (dd + 1) 8) (c := kp) (pat_set hp2).1 rfl rfl (by decide) (by decide) rfl ?_
  exact ev_rt rfl ⟨rfl, pat_set (pat_set hp2), by rw [List.length_set, List.length_set]; exact q2.1, fun q hq => by rw [gset_n (by omega), gset_n (by omega)]; exact q2.2 q (by omega)⟩
theorem e_undoOn (hp : pat h nx dd kp L) (hn : nx < 8) (hdd : dd ≤ 8) (hx : ltx h i x) (okx : nok x) (hi : i + 4 < 16) (hh : h.length ≤ 100000) : Ec (d + 1) m_X5_undoOn [.ref 16, .ref i] h (fun r h' => r = none ∧ pat h' (if 0 < dd then (nx + 7) % 8 else nx) (dd - 1) kp L ∧ ltx h' i (if 0 < dd then L.getD ((nx + 7) % 8) zN else x) ∧ h'.length = h.length ∧ ∀ q, q < i ∨ i + 4 < q → ¬ q = 16 → h'[q]? = h[q]?) := by
  refine ec_in [some (.ref 16), some (.ref i)] rfl rfl ?_
  refine ev_nx rfl ?_
  refine ev_gf rfl rfl hp.1 rfl ?_
  refine ev_nx rfl ?_
  refine ev_le0 (fun hc => ?_) (fun hc => ?_)
  · subst hc
    exact ev_rt rfl ⟨rfl, hp, hx, rfl, fun _ _ _ => rfl⟩
  · rw [if_pos hc, if_pos hc]
    iterate 2 refine ev_nx rfl ?_
    refine ev_gf rfl rfl hp.1 rfl ?_
    iterate 6 refine ev_nx rfl ?_
    rw [nI_add, pk_sub (by omega), pk_rem (by omega) (by decide) (by decide), show nx + 8 - 1 = nx + 7 by omega]
    refine ev_ps (a := (nx + 7) % 8) (b := dd) (c := kp) hp.1 rfl rfl (by decide) (by decide) rfl ?_
    iterate 2 refine ev_nx rfl ?_
    refine ev_gf rfl rfl (pat_set hp).1 rfl ?_
    iterate 2 refine ev_nx rfl ?_
    rw [pk_sub (by omega)]
    refine ev_ps (a := (nx + 7) % 8) (b := dd - 1) (c := kp) (pat_set hp).1 rfl rfl (by decide) (by decide) rfl ?_
    have hp2 := pat_set (pat_set hp (a := (nx + 7) % 8) (b := dd) (c := kp)) (a := (nx + 7) % 8) (b := dd - 1) (c := kp)
    have hx2 : ltx ((h.set 16 (po ((nx + 7) % 8) dd kp)).set 16 (po ((nx + 7) % 8) (dd - 1) kp)) i x := ltx_fr hx (fun q h1 h2 => by rw [gset_n (by omega), gset_n (by omega)])
    have hm8 : (nx + 7) % 8 < 8 := Nat.mod_lt _ (by decide)
    iterate 2 refine ev_nx rfl ?_
    refine ev_gf rfl rfl hp2.1 rfl ?_
    refine ev_nx rfl ?_
    refine ev_gf rfl rfl hp2.1 rfl ?_
    refine ev_aa rfl hp2.2.1 (rg8 hm8) ?_
    obtain ⟨c1, t1, j1, ho⟩ := ltx_o hx2
    refine ev_v rfl rfl rfl rfl rfl rfl ho rfl (e_copy hx2 (hp2.2.2.2.2 _ (by omega)).1 okx (hp2.2.2.2.2 _ (by omega)).2 (by omega) (by rw [List.length_set, List.length_set]; exact hh)) (fun rv h2 q => ?_)
    obtain ⟨rfl, q1, q2⟩ := q
    exact ev_rt rfl ⟨rfl, pat_fr hp2 (by omega) q2, q1, by rw [q2.1, List.length_set, List.length_set], fun q hq h16 => by rw [q2.2 q hq, gset_n (by omega), gset_n (by omega)]⟩
theorem kp2 {n : Nat} (hn : n < 2) : ([some 59, some 64] : List (Option Nat))[n]? = some (some (19 + 5 * (8 + n))) := by
  rcases (show n = 0 ∨ n = 1 by omega) with e | e <;> subst e <;> rfl
theorem e_keepLine (hp : pat h nx dd kp L) (hk : kp ≤ 2) (hx : ltx h i x) (okx : nok x) (hi : i + 4 < 16) (hh : h.length ≤ 100000) : Ec (d + 1) m_X5_keepLine [.ref 16, .ref i] h (fun r h' => r = none ∧ pat h' nx dd (if kp < 2 then kp + 1 else kp) (if kp < 2 then L.set (8 + kp) x else L) ∧ fr 16 68 h h') := by
  refine ec_in [some (.ref 16), some (.ref i)] rfl rfl ?_
  refine ev_nx rfl ?_
  refine ev_gf rfl rfl hp.1 rfl ?_
  iterate 2 refine ev_nx rfl ?_
  refine ev_ge (fun hc => ?_) (fun hc => ?_)
  · rw [if_neg (by omega), if_neg (by omega)]
    exact ev_rt rfl ⟨rfl, hp, rfl, fun _ _ => rfl⟩
  · rw [if_pos (by omega), if_pos (by omega)]
    refine ev_nx rfl ?_
    refine ev_gf rfl rfl hp.1 rfl ?_
    refine ev_nx rfl ?_
    refine ev_gf rfl rfl hp.1 rfl ?_
    refine ev_aa rfl hp.2.2.1 (kp2 (by omega)) ?_
    refine ev_nx rfl ?_
    obtain ⟨c1, t1, j1, ho⟩ := ltx_o (hp.2.2.2.2 (8 + kp) (by omega)).1
    refine ev_v rfl rfl rfl rfl rfl rfl ho rfl (e_copy (hp.2.2.2.2 (8 + kp) (by omega)).1 hx (hp.2.2.2.2 (8 + kp) (by omega)).2 okx (by omega) hh) (fun rv h2 q => ?_)
    obtain ⟨rfl, q1, q2⟩ := q
    have hp2 := pat_cp hp (by omega) q1 okx q2
    iterate 2 refine ev_nx rfl ?_
    refine ev_gf rfl rfl hp2.1 rfl ?_
    iterate 2 refine ev_nx rfl ?_
    rw [nI_add]
    refine ev_ps (a := nx) (b := dd) (c := kp + 1) hp2.1 rfl rfl (by decide) (by decide) rfl ?_
    exact ev_rt rfl ⟨rfl, pat_set hp2, by rw [List.length_set]; exact q2.1, fun q hq => by rw [gset_n (by omega)]; exact q2.2 q (by omega)⟩
theorem e_backOn (hp : pat h nx dd kp L) (hk : kp ≤ 2) (hx : ltx h i x) (okx : nok x) (hi : i + 4 < 16) (hh : h.length ≤ 100000) : Ec (d + 1) m_X5_backOn [.ref 16, .ref i] h (fun r h' => r = none ∧ pat h' nx (if 0 < kp then 0 else dd) (kp - 1) L ∧ ltx h' i (if 0 < kp then L.getD (8 + (kp - 1)) zN else x) ∧ h'.length = h.length ∧ ∀ q, q < i ∨ i + 4 < q → ¬ q = 16 → h'[q]? = h[q]?) := by
  refine ec_in [some (.ref 16), some (.ref i)] rfl rfl ?_
  refine ev_nx rfl ?_
  refine ev_gf rfl rfl hp.1 rfl ?_
  refine ev_nx rfl ?_
  refine ev_le0 (fun hc => ?_) (fun hc => ?_)
  · subst hc
    exact ev_rt rfl ⟨rfl, hp, hx, rfl, fun _ _ _ => rfl⟩
  · rw [if_pos hc, if_pos hc]
    iterate 2 refine ev_nx rfl ?_
    refine ev_gf rfl rfl hp.1 rfl ?_
    iterate 2 refine ev_nx rfl ?_
    rw [pk_sub (by omega)]
    refine ev_ps (a := nx) (b := dd) (c := kp - 1) hp.1 rfl rfl (by decide) (by decide) rfl ?_
    have hp2 := pat_set hp (a := nx) (b := dd) (c := kp - 1)
    have hx2 : ltx (h.set 16 (po nx dd (kp - 1))) i x := ltx_fr hx (fun q h1 h2 => gset_n (by omega))
    iterate 2 refine ev_nx rfl ?_
    refine ev_gf rfl rfl hp2.1 rfl ?_
    refine ev_nx rfl ?_
    refine ev_gf rfl rfl hp2.1 rfl ?_
    refine ev_aa rfl hp2.2.2.1 (kp2 (by omega)) ?_
    obtain ⟨c1, t1, j1, ho⟩ := ltx_o hx2
    refine ev_v rfl rfl rfl rfl rfl rfl ho rfl (e_copy hx2 (hp2.2.2.2.2 (8 + (kp - 1)) (by omega)).1 okx (hp2.2.2.2.2 (8 + (kp - 1)) (by omega)).2 (by omega) (by rw [List.length_set]; exact hh)) (fun rv h2 q => ?_)
    obtain ⟨rfl, q1, q2⟩ := q
    have hp3 := pat_fr hp2 (by omega) q2
    iterate 2 refine ev_nx rfl ?_
    refine ev_ps (a := nx) (b := 0) (c := kp - 1) hp3.1 rfl rfl (by decide) (by decide) rfl ?_
    exact ev_rt rfl ⟨rfl, pat_set hp3, ltx_fr q1 (fun q h1 h2 => gset_n (by omega)), by rw [List.length_set, q2.1, List.length_set], fun q hq h16 => by rw [gset_n (by omega), q2.2 q hq, gset_n (by omega)]⟩
end PA
