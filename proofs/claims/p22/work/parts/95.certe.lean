/-! CERTIFICATES (by program) -/
def kX11_law : CN := (183, 7, [.inr 1900], [], [(24, [])], [(11, 0), (11, 2), (11, 3), (11, 4), (11, 19), (11, 20), (11, 21), (11, 22), (11, 23), (11, 24), (11, 25), (11, 26), (11, 27), (11, 28), (11, 29), (11, 30), (11, 31), (11, 32), (1067, 0), (1068, 0), (1069, 0), (1070, 0), (1071, 0), (1072, 0), (1073, 0), (1074, 0), (1075, 0), (1076, 0)], [(some (.inl (.negSucc 2147483647, .ofNat 2147483647)), [], [(.inl 633, 11, 2, .inl (.ofNat 0, .ofNat 0))], [(24, [])], [])])
def kX11_law_t : List (Nat × TP) := []
set_option maxRecDepth 100000 in
theorem kX11_law_ok : cnOK sT sG FL0 kX11_law := ccM_V (Δ := [kX11_text, kX11_told]) (n := 53) (N := 0) (cuts := kX11_law_t) sU_ok dp0_ok ct0_ok (cons_ok kX11_text_ok (cons_ok kX11_told_ok nil_ok)) (by decide +kernel)
def kX11_habit : CN := (184, 7, [.inr 1900, .inl (.negSucc 2147483647, .ofNat 2147483647)], [], [(24, [])], [(11, 0), (11, 2), (11, 3), (11, 4), (11, 19), (11, 20), (11, 21), (11, 22), (11, 23), (11, 24), (11, 25), (11, 26), (11, 27), (11, 31), (11, 32), (1067, 0), (1068, 0), (1069, 0), (1070, 0), (1071, 0), (1072, 0), (1073, 0), (1074, 0), (1075, 0), (1076, 0)], [(some (.inl (.negSucc 2147483647, .ofNat 2147483647)), [], [(.inl 633, 11, 2, .inl (.ofNat 0, .ofNat 0))], [(24, [])], [])])
def kX11_habit_t : List (Nat × TP) := []
set_option maxRecDepth 100000 in
theorem kX11_habit_ok : cnOK sT sG FL0 kX11_habit := ccM_V (Δ := [kX11_text]) (n := 56) (N := 0) (cuts := kX11_habit_t) sU_ok dp0_ok ct0_ok (cons_ok kX11_text_ok nil_ok) (by decide +kernel)
