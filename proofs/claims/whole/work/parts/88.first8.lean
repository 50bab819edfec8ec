/-! the class's first heap -/
def ln0 (i : Nat) (x : aN) : aH := [lo i x.2.2.2.1 x.2.2.2.2.1 x.2.2.2.2.2, ar x.1, ar x.2.1, ar x.2.2.1, ar z5]
def H8 : aH := [ob, .inr (.inr (6, [.ref 2, .int (nI 0)])), .inl (1, tx0.map nI), .inr (.inr (4, [.ref 4, .ref 5, .int (nI 3)])), ar sp0, ar sz0] ++ (ln0 6 x0 ++ (ln0 11 zN ++ ([po 0 0 0, .inr (.inl ((List.range 8).map (fun n => some (19 + 5 * n)))), .inr (.inl [some 59, some 64])] ++ ((List.range 10).flatMap (fun n => ln0 (19 + 5 * n) zN) ++
  [uo 0 0, ar (zr0 8), ar (zr0 8), .inl (2, (zr0 750).map nI), ar (zr0 32), .inr (.inr (2, [.ref 75, .int (nI 0)])), ar (zr0 8), co 0] ++ (ln0 77 zN ++ (ln0 82 zN ++ [.inl (0, (List.replicate 1024 (some 0)).map eo1), ao (eo1 (some 0)), ar (zr0 25), ar (zr0 5), ar (zr0 5)]))))))
theorem r_H8 : am_run true 20000 16 m_X8_init (0, am_ent m_X8_init [.ref 0], [], [.inr (.inr (8, am_df 8))]) = some (none, H8) := am_oke_eq (by decide +kernel)
