/-! the class's first heap is a heap of the class -/
theorem XH_0 : XH V0 H8 := by
  refine ⟨⟨by decide +kernel, rfl⟩, ⟨⟨rfl, rfl⟩, by decide +kernel, by decide, by decide +kernel⟩, ⟨⟨rfl, rfl, rfl⟩, ⟨by decide +kernel, by decide +kernel, by decide +kernel, by decide +kernel, by decide⟩, by decide⟩, ⟨⟨z5, rfl, rfl, rfl, rfl, rfl, rfl⟩, by show lok _ _ _ _ _ _; unfold lok; decide⟩, ⟨z5, 0, 0, 0, z5, z5, ⟨z5, rfl, rfl, rfl, rfl, rfl, rfl⟩, lokN_z⟩, ⟨⟨rfl, rfl, rfl, rfl, ?_⟩, by decide, by decide, by decide, ?_⟩, ⟨zr0 750, 0, zr0 32, ⟨rfl, rfl, rfl, rfl, rfl⟩, ⟨⟨by decide +kernel, by decide +kernel⟩, ⟨by decide +kernel, by decide +kernel⟩, ⟨by decide +kernel, by decide +kernel⟩, by decide +kernel, by decide⟩, Or.inl rfl⟩, ⟨⟨rfl, rfl⟩, by decide +kernel, by decide, by decide +kernel⟩, ⟨⟨List.replicate 1024 (some 0), 0, ⟨rfl, rfl⟩, by decide +kernel⟩, ⟨z5, 0, 0, 0, z5, z5, ⟨z5, rfl, rfl, rfl, rfl, rfl, rfl⟩, lokN_z⟩, ⟨z5, 0, 0, 0, z5, z5, ⟨z5, rfl, rfl, rfl, rfl, rfl, rfl⟩, lokN_z⟩⟩, ⟨zr0 25, zr0 5, zr0 5, some 0, ⟨rfl, rfl, rfl, rfl⟩, rfl, rfl, rfl⟩⟩
  · intro n hn
    have : n = 0 ∨ n = 1 ∨ n = 2 ∨ n = 3 ∨ n = 4 ∨ n = 5 ∨ n = 6 ∨ n = 7 ∨ n = 8 ∨ n = 9 := by omega
    rcases this with rfl | rfl | rfl | rfl | rfl | rfl | rfl | rfl | rfl | rfl <;> exact ⟨⟨z5, rfl, rfl, rfl, rfl, rfl, rfl⟩, rfl, rfl, rfl⟩
  · intro q
    have e : (List.replicate 10 zN).getD q zN = zN := by
      rw [List.getD_eq_getElem?_getD, List.getElem?_replicate]
      split <;> rfl
    show lokN ((List.replicate 10 zN).getD q zN)
    rw [e]; exact lokN_z
theorem RELn_0 : RELn H8 H9 := ⟨V0, z0, y0, XH_0, Mq_H9, RLn_0⟩
