/-! the first heaps -/
def am_o9 : aC := .inr (.inr (9, [.null, .int 0, .null, .int 0, .null, .null, .null, .null, .null, .int 0, .null, .int 0, .null, .int 0, .null, .int 0, .int 0, .int 0, .int 0, .null, .null, .null, .null, .null, .null, .null, .null, .null, .null]))
def am_h8 : aH := match am_run true 20000 20 m_X8_init (0, am_ent m_X8_init [.ref 0], [], [.inr (.inr (8, am_df 8))]) with
  | some (_, h) => h
  | none => []
def am_h9 : aH := match am_run true 20000 20 m_X9_init (0, am_ent m_X9_init [.ref 0], [], [am_o9]) with
  | some (_, h) => h
  | none => []
theorem am_h9_len : am_h9.length = 21 := by decide +kernel
