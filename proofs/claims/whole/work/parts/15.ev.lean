/-! runs that end, by what they end with -/
theorem am_run_le {al : Bool} : ∀ {n n' d d' : Nat} {m : aM} {k : aK} {r : aR}, n ≤ n' → d ≤ d' → am_run al n d m k = some r → am_run al n' d' m k = some r
  | 0, n', d, d', m, k, r, _, _, h => by cases h
  | n + 1, 0, d, d', m, k, r, hn, _, h => by omega
  | n + 1, n' + 1, d, d', m, k, r, hn, hd, h => by
    have hn' : n ≤ n' := by omega
    rw [am_run] at h ⊢
    cases hst : am_stp al m k with
    | none => rw [hst] at h; cases h
    | some x =>
      rw [hst] at h
      match x, h with
      | .inl k', h => exact am_run_le hn' hd h
      | .inr (.inl rr), h => exact h
      | .inr (.inr (c, as, k1)), h =>
        cases d with
        | zero => cases h
        | succ d0 =>
          obtain ⟨d1, rfl⟩ : ∃ d1, d' = d1 + 1 := ⟨d' - 1, by omega⟩
          simp only at h ⊢
          split at h
          · cases h
          · rename_i m' hm
            split at h
            · rename_i hle
              rw [if_pos hle]
              split at h
              · cases h
              · rename_i v h2 hc
                rw [am_run_le hn' (show d0 ≤ d1 by omega) hc]
                exact am_run_le hn' (show d0 + 1 ≤ d1 + 1 by omega) h
            · cases h
def Ev (d : Nat) (m : aM) (pc : Nat) (L : aL) (S : List Value) (h : aH) (Q : Option Value → aH → Prop) : Prop := ∃ n r h', am_run false n d m (pc, L, S, h) = some (r, h') ∧ Q r h'
/-- a call -/
def Ec (d : Nat) (m : aM) (as : List Value) (h : aH) (Q : Option Value → aH → Prop) : Prop := (am_en as).length ≤ m.2.2.2.1 ∧ Ev d m 0 (am_ent m as) [] h Q
theorem ev_le {d d' : Nat} {m : aM} {pc : Nat} {L : aL} {S : List Value} {h : aH} {Q : Option Value → aH → Prop} (hd : d ≤ d') (k : Ev d m pc L S h Q) : Ev d' m pc L S h Q := by
  obtain ⟨n, r, h', h1, h2⟩ := k
  exact ⟨n, r, h', am_run_le (Nat.le_refl _) hd h1, h2⟩
theorem ec_le {d d' : Nat} {m : aM} {as : List Value} {h : aH} {Q : Option Value → aH → Prop} (hd : d ≤ d') (k : Ec d m as h Q) : Ec d' m as h Q := ⟨k.1, ev_le hd k.2⟩
theorem ev_mono {d : Nat} {m : aM} {pc : Nat} {L : aL} {S : List Value} {h : aH} {Q Q' : Option Value → aH → Prop} (k : Ev d m pc L S h Q) (hq : ∀ r h', Q r h' → Q' r h') : Ev d m pc L S h Q' := by
  obtain ⟨n, r, h', h1, h2⟩ := k
  exact ⟨n, r, h', h1, hq r h' h2⟩
theorem ec_mono {d : Nat} {m : aM} {as : List Value} {h : aH} {Q Q' : Option Value → aH → Prop} (k : Ec d m as h Q) (hq : ∀ r h', Q r h' → Q' r h') : Ec d m as h Q' := ⟨k.1, ev_mono k.2 hq⟩
def am_go (m : aM) (pc : Nat) (L : aL) (S : List Value) (h : aH) : Option aS := match am_cd m pc with
  | some (i, np, r) => am_op false m i pc np r L S h
  | none => none
theorem am_go_eq (m : aM) (pc : Nat) (L : aL) (S : List Value) (h : aH) : am_stp false m (pc, L, S, h) = am_go m pc L S h := rfl
theorem ev_nx {d : Nat} {m : aM} {pc : Nat} {L : aL} {S : List Value} {h : aH} {Q : Option Value → aH → Prop} {pc' : Nat} {L' : aL} {S' : List Value} {h' : aH} (hs : am_go m pc L S h = some (.inl (pc', L', S', h'))) (k : Ev d m pc' L' S' h' Q) : Ev d m pc L S h Q := by
  obtain ⟨n, r, h2, h3, h4⟩ := k
  exact ⟨n + 1, r, h2, by rw [am_run, am_go_eq, hs]; exact h3, h4⟩
theorem ev_rt {d : Nat} {m : aM} {pc : Nat} {L : aL} {S : List Value} {h : aH} {Q : Option Value → aH → Prop} {r : Option Value} {h' : aH} (hs : am_go m pc L S h = some (.inr (.inl (r, h')))) (q : Q r h') : Ev d m pc L S h Q := ⟨1, r, h', by rw [am_run, am_go_eq, hs], q⟩
theorem ev_call {d : Nat} {m : aM} {pc : Nat} {L : aL} {S : List Value} {h : aH} {Q Q1 : Option Value → aH → Prop} {c : Nat} {as : List Value} {pc' : Nat} {L' : aL} {S' : List Value} {h' : aH} {m' : aM} (hs : am_go m pc L S h = some (.inr (.inr (c, as, pc', L', S', h')))) (hm : am_tab[c]? = some m') (hc : Ec d m' as h' Q1) (k : ∀ r h2, Q1 r h2 → Ev (d + 1) m pc' L' (r.toList ++ S') h2 Q) : Ev (d + 1) m pc L S h Q := by
  obtain ⟨hle, n1, r1, h1, e1, q1⟩ := hc
  obtain ⟨n2, r2, h2, e2, q2⟩ := k r1 h1 q1
  refine ⟨max n1 n2 + 1, r2, h2, ?_, q2⟩
  rw [am_run, am_go_eq, hs]
  simp only [hm]
  rw [if_pos hle, am_run_le (Nat.le_max_left n1 n2) (Nat.le_refl d) e1]
  exact am_run_le (Nat.le_max_right n1 n2) (Nat.le_refl _) e2
/-- one answer, one heap -/
def rt (v : Value) (h : aH) : Option Value → aH → Prop := fun r h' => r = some v ∧ h' = h
def rtv (h : aH) : Option Value → aH → Prop := fun r h' => r = none ∧ h' = h
theorem ev_ci {d : Nat} {m : aM} {pc : Nat} {L : aL} {S : List Value} {h : aH} {Q : Option Value → aH → Prop} {c : Nat} {as : List Value} {pc' : Nat} {L' : aL} {S' : List Value} {h' h2 : aH} {m' : aM} {v : Value} (hs : am_go m pc L S h = some (.inr (.inr (c, as, pc', L', S', h')))) (hm : am_tab[c]? = some m') (hc : Ec d m' as h' (rt v h2)) (k : Ev (d + 1) m pc' L' (v :: S') h2 Q) : Ev (d + 1) m pc L S h Q :=
  ev_call hs hm hc (fun r h3 q => by obtain ⟨rfl, rfl⟩ := q; exact k)
theorem ev_cv {d : Nat} {m : aM} {pc : Nat} {L : aL} {S : List Value} {h : aH} {Q : Option Value → aH → Prop} {c : Nat} {as : List Value} {pc' : Nat} {L' : aL} {S' : List Value} {h' h2 : aH} {m' : aM} (hs : am_go m pc L S h = some (.inr (.inr (c, as, pc', L', S', h')))) (hm : am_tab[c]? = some m') (hc : Ec d m' as h' (rtv h2)) (k : Ev (d + 1) m pc' L' S' h2 Q) : Ev (d + 1) m pc L S h Q :=
  ev_call hs hm hc (fun r h3 q => by obtain ⟨rfl, rfl⟩ := q; exact k)
theorem ev_if {d : Nat} {m : aM} {b : Bool} {p q : Nat} {L : aL} {S : List Value} {h : aH} {Q : Option Value → aH → Prop} (kt : b = true → Ev d m p L S h Q) (kf : b = false → Ev d m q L S h Q) : Ev d m (if b then p else q) L S h Q := by
  cases b with
  | true => exact kt rfl
  | false => exact kf rfl
theorem ec_in {d : Nat} {m : aM} {as : List Value} {h : aH} {Q : Option Value → aH → Prop} (L : aL) (hl : (am_en as).length.ble m.2.2.2.1 = true) (hL : am_ent m as = L) (k : Ev d m 0 L [] h Q) : Ec d m as h Q := ⟨Nat.le_of_ble_eq_true hl, by rw [hL]; exact k⟩
