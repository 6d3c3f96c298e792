theorem law_J (l : Launch) (G : jG) (xs : List Int32) (hx : xs.length ≤ 2560) : jJ l G (YL, []) 11 601024 7293034 1 0 [some (.ref 0), none, none, none, none, none, none] [] (jh0 xs) (fun o _ _ => o = .inl (some (.int 1))) := by
  sorry
