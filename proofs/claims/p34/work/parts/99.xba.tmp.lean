def kX9_due : CN := (78, 0, [.inr 60, .inl (.negSucc 2147483647, .ofNat 2147483647)], [], [], [], [(some (.inl (.ofNat 0, .ofNat 1)), [], [], [], [])])
theorem kX9_due_ok : cnOK sT sG FL0 kX9_due := sorry
