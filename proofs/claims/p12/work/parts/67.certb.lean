/-! CERTIFICATES (by program) -/
def kX11_four : CN := (137, 0, [.inr 1900, .inl (.negSucc 2147483647, .ofNat 2147483647)], [(.inl 633, 11, 2, .inl (.ofNat 0, .ofNat 420))], [], [(11, 2), (1062, 0)], [(none, [], [(.inl 633, 11, 2, .inl (.ofNat 4, .ofNat 424))], [], [])])
def kX11_four_t : List (Nat × TP) := [(3, ([.inr (.inl (.inl 633)), .inl ([(0, .ofNat 1)], .ofNat 0), .inl ([(1, .ofNat 1)], .ofNat 0)], [(.inl 633, 11, 2, .inl ([(2, .ofNat 1)], .ofNat 0))], [], [(.negSucc 2147483647, .ofNat 2147483647), (.ofNat 24, .ofNat 24), (.ofNat 0, .ofNat 420)], [], [], [([], .ofNat 1), ([(1, .ofNat 1)], .ofNat 8)], [.inr (.inr 0), .inr (.inr 0)], [])), (3, ([.inr (.inl (.inl 633)), .inl ([(0, .ofNat 1)], .ofNat 0), .inl ([(1, .ofNat 1)], .ofNat 0)], [(.inl 633, 11, 2, .inl ([(2, .ofNat 1)], .ofNat 0))], [], [(.negSucc 2147483647, .ofNat 2147483647), (.ofNat 16, .ofNat 16), (.ofNat 1, .ofNat 421)], [], [], [([], .ofNat 1), ([(1, .ofNat 1)], .ofNat 8)], [.inr (.inr 0), .inr (.inr 0)], [])), (3, ([.inr (.inl (.inl 633)), .inl ([(0, .ofNat 1)], .ofNat 0), .inl ([(1, .ofNat 1)], .ofNat 0)], [(.inl 633, 11, 2, .inl ([(2, .ofNat 1)], .ofNat 0))], [], [(.negSucc 2147483647, .ofNat 2147483647), (.ofNat 8, .ofNat 8), (.ofNat 2, .ofNat 422)], [], [], [([], .ofNat 1), ([(1, .ofNat 1)], .ofNat 8)], [.inr (.inr 0), .inr (.inr 0)], [])), (3, ([.inr (.inl (.inl 633)), .inl ([(0, .ofNat 1)], .ofNat 0), .inl ([(1, .ofNat 1)], .ofNat 0)], [(.inl 633, 11, 2, .inl ([(2, .ofNat 1)], .ofNat 0))], [], [(.negSucc 2147483647, .ofNat 2147483647), (.ofNat 0, .ofNat 0), (.ofNat 3, .ofNat 423)], [], [], [([], .ofNat 1), ([(1, .ofNat 1)], .ofNat 8)], [.inr (.inr 0), .inr (.inr 0)], [])), (3, ([.inr (.inl (.inl 633)), .inl ([(0, .ofNat 1)], .ofNat 0), .inl ([(1, .ofNat 1)], .ofNat 0)], [(.inl 633, 11, 2, .inl ([(2, .ofNat 1)], .ofNat 0))], [], [(.negSucc 2147483647, .ofNat 2147483647), (.negSucc 7, .negSucc 7), (.ofNat 4, .ofNat 424)], [], [], [([], .ofNat 1), ([(1, .ofNat 1)], .ofNat 8)], [.inr (.inr 0), .inr (.inr 0)], []))]
set_option maxRecDepth 100000 in
theorem kX11_four_ok : cnOK sT sG FL0 kX11_four := ccM_V (Δ := []) (n := 27) (N := 2) (cuts := kX11_four_t) sU_ok dp0_ok ct0_ok (nil_ok) (by decide +kernel)
def kX11_four__1 : CN := (137, 0, [.inr 1900, .inl (.negSucc 2147483647, .ofNat 2147483647)], [(.inl 633, 11, 2, .inl (.ofNat 0, .ofNat 424))], [], [(11, 2), (1062, 0)], [(none, [], [(.inl 633, 11, 2, .inl (.ofNat 4, .ofNat 428))], [], [])])
def kX11_four__1_t : List (Nat × TP) := [(3, ([.inr (.inl (.inl 633)), .inl ([(0, .ofNat 1)], .ofNat 0), .inl ([(1, .ofNat 1)], .ofNat 0)], [(.inl 633, 11, 2, .inl ([(2, .ofNat 1)], .ofNat 0))], [], [(.negSucc 2147483647, .ofNat 2147483647), (.ofNat 24, .ofNat 24), (.ofNat 0, .ofNat 424)], [], [], [([], .ofNat 1), ([(1, .ofNat 1)], .ofNat 8)], [.inr (.inr 0), .inr (.inr 0)], [])), (3, ([.inr (.inl (.inl 633)), .inl ([(0, .ofNat 1)], .ofNat 0), .inl ([(1, .ofNat 1)], .ofNat 0)], [(.inl 633, 11, 2, .inl ([(2, .ofNat 1)], .ofNat 0))], [], [(.negSucc 2147483647, .ofNat 2147483647), (.ofNat 16, .ofNat 16), (.ofNat 1, .ofNat 425)], [], [], [([], .ofNat 1), ([(1, .ofNat 1)], .ofNat 8)], [.inr (.inr 0), .inr (.inr 0)], [])), (3, ([.inr (.inl (.inl 633)), .inl ([(0, .ofNat 1)], .ofNat 0), .inl ([(1, .ofNat 1)], .ofNat 0)], [(.inl 633, 11, 2, .inl ([(2, .ofNat 1)], .ofNat 0))], [], [(.negSucc 2147483647, .ofNat 2147483647), (.ofNat 8, .ofNat 8), (.ofNat 2, .ofNat 426)], [], [], [([], .ofNat 1), ([(1, .ofNat 1)], .ofNat 8)], [.inr (.inr 0), .inr (.inr 0)], [])), (3, ([.inr (.inl (.inl 633)), .inl ([(0, .ofNat 1)], .ofNat 0), .inl ([(1, .ofNat 1)], .ofNat 0)], [(.inl 633, 11, 2, .inl ([(2, .ofNat 1)], .ofNat 0))], [], [(.negSucc 2147483647, .ofNat 2147483647), (.ofNat 0, .ofNat 0), (.ofNat 3, .ofNat 427)], [], [], [([], .ofNat 1), ([(1, .ofNat 1)], .ofNat 8)], [.inr (.inr 0), .inr (.inr 0)], [])), (3, ([.inr (.inl (.inl 633)), .inl ([(0, .ofNat 1)], .ofNat 0), .inl ([(1, .ofNat 1)], .ofNat 0)], [(.inl 633, 11, 2, .inl ([(2, .ofNat 1)], .ofNat 0))], [], [(.negSucc 2147483647, .ofNat 2147483647), (.negSucc 7, .negSucc 7), (.ofNat 4, .ofNat 428)], [], [], [([], .ofNat 1), ([(1, .ofNat 1)], .ofNat 8)], [.inr (.inr 0), .inr (.inr 0)], []))]
set_option maxRecDepth 100000 in
theorem kX11_four__1_ok : cnOK sT sG FL0 kX11_four__1 := ccM_V (Δ := []) (n := 27) (N := 2) (cuts := kX11_four__1_t) sU_ok dp0_ok ct0_ok (nil_ok) (by decide +kernel)
def kX11_four__2 : CN := (137, 0, [.inr 1900, .inl (.negSucc 2147483647, .ofNat 2147483647)], [(.inl 633, 11, 2, .inl (.ofNat 0, .ofNat 428))], [], [(11, 2), (1062, 0)], [(none, [], [(.inl 633, 11, 2, .inl (.ofNat 4, .ofNat 432))], [], [])])
def kX11_four__2_t : List (Nat × TP) := [(3, ([.inr (.inl (.inl 633)), .inl ([(0, .ofNat 1)], .ofNat 0), .inl ([(1, .ofNat 1)], .ofNat 0)], [(.inl 633, 11, 2, .inl ([(2, .ofNat 1)], .ofNat 0))], [], [(.negSucc 2147483647, .ofNat 2147483647), (.ofNat 24, .ofNat 24), (.ofNat 0, .ofNat 428)], [], [], [([], .ofNat 1), ([(1, .ofNat 1)], .ofNat 8)], [.inr (.inr 0), .inr (.inr 0)], [])), (3, ([.inr (.inl (.inl 633)), .inl ([(0, .ofNat 1)], .ofNat 0), .inl ([(1, .ofNat 1)], .ofNat 0)], [(.inl 633, 11, 2, .inl ([(2, .ofNat 1)], .ofNat 0))], [], [(.negSucc 2147483647, .ofNat 2147483647), (.ofNat 16, .ofNat 16), (.ofNat 1, .ofNat 429)], [], [], [([], .ofNat 1), ([(1, .ofNat 1)], .ofNat 8)], [.inr (.inr 0), .inr (.inr 0)], [])), (3, ([.inr (.inl (.inl 633)), .inl ([(0, .ofNat 1)], .ofNat 0), .inl ([(1, .ofNat 1)], .ofNat 0)], [(.inl 633, 11, 2, .inl ([(2, .ofNat 1)], .ofNat 0))], [], [(.negSucc 2147483647, .ofNat 2147483647), (.ofNat 8, .ofNat 8), (.ofNat 2, .ofNat 430)], [], [], [([], .ofNat 1), ([(1, .ofNat 1)], .ofNat 8)], [.inr (.inr 0), .inr (.inr 0)], [])), (3, ([.inr (.inl (.inl 633)), .inl ([(0, .ofNat 1)], .ofNat 0), .inl ([(1, .ofNat 1)], .ofNat 0)], [(.inl 633, 11, 2, .inl ([(2, .ofNat 1)], .ofNat 0))], [], [(.negSucc 2147483647, .ofNat 2147483647), (.ofNat 0, .ofNat 0), (.ofNat 3, .ofNat 431)], [], [], [([], .ofNat 1), ([(1, .ofNat 1)], .ofNat 8)], [.inr (.inr 0), .inr (.inr 0)], [])), (3, ([.inr (.inl (.inl 633)), .inl ([(0, .ofNat 1)], .ofNat 0), .inl ([(1, .ofNat 1)], .ofNat 0)], [(.inl 633, 11, 2, .inl ([(2, .ofNat 1)], .ofNat 0))], [], [(.negSucc 2147483647, .ofNat 2147483647), (.negSucc 7, .negSucc 7), (.ofNat 4, .ofNat 432)], [], [], [([], .ofNat 1), ([(1, .ofNat 1)], .ofNat 8)], [.inr (.inr 0), .inr (.inr 0)], []))]
set_option maxRecDepth 100000 in
theorem kX11_four__2_ok : cnOK sT sG FL0 kX11_four__2 := ccM_V (Δ := []) (n := 27) (N := 2) (cuts := kX11_four__2_t) sU_ok dp0_ok ct0_ok (nil_ok) (by decide +kernel)
def kX11_four__3 : CN := (137, 0, [.inr 1900, .inl (.negSucc 2147483647, .ofNat 2147483647)], [(.inl 633, 11, 2, .inl (.ofNat 0, .ofNat 432))], [], [(11, 2), (1062, 0)], [(none, [], [(.inl 633, 11, 2, .inl (.ofNat 4, .ofNat 436))], [], [])])
def kX11_four__3_t : List (Nat × TP) := [(3, ([.inr (.inl (.inl 633)), .inl ([(0, .ofNat 1)], .ofNat 0), .inl ([(1, .ofNat 1)], .ofNat 0)], [(.inl 633, 11, 2, .inl ([(2, .ofNat 1)], .ofNat 0))], [], [(.negSucc 2147483647, .ofNat 2147483647), (.ofNat 24, .ofNat 24), (.ofNat 0, .ofNat 432)], [], [], [([], .ofNat 1), ([(1, .ofNat 1)], .ofNat 8)], [.inr (.inr 0), .inr (.inr 0)], [])), (3, ([.inr (.inl (.inl 633)), .inl ([(0, .ofNat 1)], .ofNat 0), .inl ([(1, .ofNat 1)], .ofNat 0)], [(.inl 633, 11, 2, .inl ([(2, .ofNat 1)], .ofNat 0))], [], [(.negSucc 2147483647, .ofNat 2147483647), (.ofNat 16, .ofNat 16), (.ofNat 1, .ofNat 433)], [], [], [([], .ofNat 1), ([(1, .ofNat 1)], .ofNat 8)], [.inr (.inr 0), .inr (.inr 0)], [])), (3, ([.inr (.inl (.inl 633)), .inl ([(0, .ofNat 1)], .ofNat 0), .inl ([(1, .ofNat 1)], .ofNat 0)], [(.inl 633, 11, 2, .inl ([(2, .ofNat 1)], .ofNat 0))], [], [(.negSucc 2147483647, .ofNat 2147483647), (.ofNat 8, .ofNat 8), (.ofNat 2, .ofNat 434)], [], [], [([], .ofNat 1), ([(1, .ofNat 1)], .ofNat 8)], [.inr (.inr 0), .inr (.inr 0)], [])), (3, ([.inr (.inl (.inl 633)), .inl ([(0, .ofNat 1)], .ofNat 0), .inl ([(1, .ofNat 1)], .ofNat 0)], [(.inl 633, 11, 2, .inl ([(2, .ofNat 1)], .ofNat 0))], [], [(.negSucc 2147483647, .ofNat 2147483647), (.ofNat 0, .ofNat 0), (.ofNat 3, .ofNat 435)], [], [], [([], .ofNat 1), ([(1, .ofNat 1)], .ofNat 8)], [.inr (.inr 0), .inr (.inr 0)], [])), (3, ([.inr (.inl (.inl 633)), .inl ([(0, .ofNat 1)], .ofNat 0), .inl ([(1, .ofNat 1)], .ofNat 0)], [(.inl 633, 11, 2, .inl ([(2, .ofNat 1)], .ofNat 0))], [], [(.negSucc 2147483647, .ofNat 2147483647), (.negSucc 7, .negSucc 7), (.ofNat 4, .ofNat 436)], [], [], [([], .ofNat 1), ([(1, .ofNat 1)], .ofNat 8)], [.inr (.inr 0), .inr (.inr 0)], []))]
set_option maxRecDepth 100000 in
theorem kX11_four__3_ok : cnOK sT sG FL0 kX11_four__3 := ccM_V (Δ := []) (n := 27) (N := 2) (cuts := kX11_four__3_t) sU_ok dp0_ok ct0_ok (nil_ok) (by decide +kernel)
def kX11_four__4 : CN := (137, 0, [.inr 1900, .inl (.negSucc 2147483647, .ofNat 2147483647)], [(.inl 633, 11, 2, .inl (.ofNat 0, .ofNat 436))], [], [(11, 2), (1062, 0)], [(none, [], [(.inl 633, 11, 2, .inl (.ofNat 4, .ofNat 440))], [], [])])
def kX11_four__4_t : List (Nat × TP) := [(3, ([.inr (.inl (.inl 633)), .inl ([(0, .ofNat 1)], .ofNat 0), .inl ([(1, .ofNat 1)], .ofNat 0)], [(.inl 633, 11, 2, .inl ([(2, .ofNat 1)], .ofNat 0))], [], [(.negSucc 2147483647, .ofNat 2147483647), (.ofNat 24, .ofNat 24), (.ofNat 0, .ofNat 436)], [], [], [([], .ofNat 1), ([(1, .ofNat 1)], .ofNat 8)], [.inr (.inr 0), .inr (.inr 0)], [])), (3, ([.inr (.inl (.inl 633)), .inl ([(0, .ofNat 1)], .ofNat 0), .inl ([(1, .ofNat 1)], .ofNat 0)], [(.inl 633, 11, 2, .inl ([(2, .ofNat 1)], .ofNat 0))], [], [(.negSucc 2147483647, .ofNat 2147483647), (.ofNat 16, .ofNat 16), (.ofNat 1, .ofNat 437)], [], [], [([], .ofNat 1), ([(1, .ofNat 1)], .ofNat 8)], [.inr (.inr 0), .inr (.inr 0)], [])), (3, ([.inr (.inl (.inl 633)), .inl ([(0, .ofNat 1)], .ofNat 0), .inl ([(1, .ofNat 1)], .ofNat 0)], [(.inl 633, 11, 2, .inl ([(2, .ofNat 1)], .ofNat 0))], [], [(.negSucc 2147483647, .ofNat 2147483647), (.ofNat 8, .ofNat 8), (.ofNat 2, .ofNat 438)], [], [], [([], .ofNat 1), ([(1, .ofNat 1)], .ofNat 8)], [.inr (.inr 0), .inr (.inr 0)], [])), (3, ([.inr (.inl (.inl 633)), .inl ([(0, .ofNat 1)], .ofNat 0), .inl ([(1, .ofNat 1)], .ofNat 0)], [(.inl 633, 11, 2, .inl ([(2, .ofNat 1)], .ofNat 0))], [], [(.negSucc 2147483647, .ofNat 2147483647), (.ofNat 0, .ofNat 0), (.ofNat 3, .ofNat 439)], [], [], [([], .ofNat 1), ([(1, .ofNat 1)], .ofNat 8)], [.inr (.inr 0), .inr (.inr 0)], [])), (3, ([.inr (.inl (.inl 633)), .inl ([(0, .ofNat 1)], .ofNat 0), .inl ([(1, .ofNat 1)], .ofNat 0)], [(.inl 633, 11, 2, .inl ([(2, .ofNat 1)], .ofNat 0))], [], [(.negSucc 2147483647, .ofNat 2147483647), (.negSucc 7, .negSucc 7), (.ofNat 4, .ofNat 440)], [], [], [([], .ofNat 1), ([(1, .ofNat 1)], .ofNat 8)], [.inr (.inr 0), .inr (.inr 0)], []))]
set_option maxRecDepth 100000 in
theorem kX11_four__4_ok : cnOK sT sG FL0 kX11_four__4 := ccM_V (Δ := []) (n := 27) (N := 2) (cuts := kX11_four__4_t) sU_ok dp0_ok ct0_ok (nil_ok) (by decide +kernel)
def kX11_feed : CN := (136, 1, [.inr 1900, .inl (.negSucc 2147483647, .ofNat 2147483647), .inl (.negSucc 2147483647, .ofNat 2147483647), .inl (.negSucc 2147483647, .ofNat 2147483647), .inl (.negSucc 2147483647, .ofNat 2147483647), .inl (.negSucc 2147483647, .ofNat 2147483647)], [], [], [(11, 0), (11, 2), (1062, 0)], [(some (.inl (.negSucc 0, .ofNat 440)), [], [], [], [])])
def kX11_feed_t : List (Nat × TP) := []
set_option maxRecDepth 100000 in
theorem kX11_feed_ok : cnOK sT sG FL0 kX11_feed := ccM_V (Δ := [kX11_four, kX11_four__1, kX11_four__2, kX11_four__3, kX11_four__4]) (n := 37) (N := 0) (cuts := kX11_feed_t) sU_ok dp0_ok ct0_ok (cons_ok kX11_four_ok (cons_ok kX11_four__1_ok (cons_ok kX11_four__2_ok (cons_ok kX11_four__3_ok (cons_ok kX11_four__4_ok nil_ok))))) (by decide +kernel)
def kX11_end : CN := (138, 0, [.inr 1900, .inl (.negSucc 2147483647, .ofNat 2147483647)], [], [], [(11, 0), (11, 2)], [(some (.inl (.ofNat 0, .ofNat 1)), [], [], [], [])])
def kX11_end_t : List (Nat × TP) := []
set_option maxRecDepth 100000 in
theorem kX11_end_ok : cnOK sT sG FL0 kX11_end := ccM_V (Δ := []) (n := 26) (N := 0) (cuts := kX11_end_t) sU_ok dp0_ok ct0_ok (nil_ok) (by decide +kernel)
def kX11_isDoorAt : CN := (157, 0, [.inr 1900, .inl (.negSucc 2147483647, .ofNat 2147483647)], [], [], [], [(some (.inl (.ofNat 0, .ofNat 1)), [], [], [], [])])
def kX11_isDoorAt_t : List (Nat × TP) := [(2, ([.inr (.inl (.inl 633)), .inl ([(0, .ofNat 1)], .ofNat 0), .inl ([(1, .ofNat 1)], .ofNat 0)], [], [], [(.negSucc 2147483647, .ofNat 2147483647), (.ofNat 0, .ofNat 9)], [], [], [([], .ofNat 1), ([(1, .negSucc 0)], .ofNat 10)], [.inr (.inr 0), .inr (.inr 0)], []))]
set_option maxRecDepth 100000 in
theorem kX11_isDoorAt_ok : cnOK sT sG FL0 kX11_isDoorAt := ccM_V (Δ := []) (n := 28) (N := 2) (cuts := kX11_isDoorAt_t) sU_ok dp0_ok ct0_ok (nil_ok) (by decide +kernel)
def kX11_isWalkerAt : CN := (158, 0, [.inr 1900, .inl (.negSucc 2147483647, .ofNat 2147483647)], [], [], [], [(some (.inl (.ofNat 0, .ofNat 1)), [], [], [], [])])
def kX11_isWalkerAt_t : List (Nat × TP) := [(2, ([.inr (.inl (.inl 633)), .inl ([(0, .ofNat 1)], .ofNat 0), .inl ([(1, .ofNat 1)], .ofNat 0)], [], [], [(.negSucc 2147483647, .ofNat 2147483647), (.ofNat 0, .ofNat 60)], [], [], [([], .ofNat 1), ([(1, .negSucc 0)], .ofNat 61)], [.inr (.inr 0), .inr (.inr 0)], []))]
set_option maxRecDepth 100000 in
theorem kX11_isWalkerAt_ok : cnOK sT sG FL0 kX11_isWalkerAt := ccM_V (Δ := []) (n := 30) (N := 2) (cuts := kX11_isWalkerAt_t) sU_ok dp0_ok ct0_ok (nil_ok) (by decide +kernel)
def kX11_next : CN := (162, 1, [.inr 1900], [], [], [(11, 4), (11, 22), (11, 23), (11, 24), (11, 25), (11, 31)], [(none, [], [], [], [])])
def kX11_next_t : List (Nat × TP) := [(0, ([.inr (.inl (.inl 633)), .inr (.inr 0), .inr (.inr 0), .inr (.inr 0)], [(.inl 633, 11, 4, .inl ([(0, .ofNat 1)], .ofNat 0)), (.inl 633, 11, 3, .inl ([(1, .ofNat 1)], .ofNat 0))], [], [(.ofNat 0, .ofNat 440), (.ofNat 0, .ofNat 440)], [], [], [([], .ofNat 2), ([(0, .negSucc 0)], .ofNat 441)], [.inr (.inr 0)], [])), (178, ([.inr (.inl (.inl 633)), .inr (.inr 0), .inl ([(0, .ofNat 1)], .ofNat 0), .inl ([(1, .ofNat 1)], .ofNat 0)], [(.inl 633, 11, 3, .inl ([(2, .ofNat 1)], .ofNat 0)), (.inl 633, 11, 4, .inl ([(3, .ofNat 1)], .ofNat 0))], [], [(.ofNat 0, .ofNat 1), (.ofNat 0, .ofNat 1), (.ofNat 1, .ofNat 440), (.ofNat 0, .ofNat 440)], [], [], [([], .ofNat 1), ([(3, .negSucc 0)], .ofNat 441)], [.inr (.inr 0)], []))]
set_option maxRecDepth 100000 in
theorem kX11_next_ok : cnOK sT sG FL0 kX11_next := ccM_V (Δ := []) (n := 6699) (N := 2) (cuts := kX11_next_t) sU_ok dp0_ok ct0_ok (nil_ok) (by decide +kernel)
def kX11_find : CN := (172, 0, [.inr 1900, .inl (.ofNat 0, .ofNat 7), .inl (.negSucc 2147483647, .ofNat 2147483647)], [], [], [], [(some (.inl (.negSucc 0, .ofNat 127)), [], [], [], [])])
def kX11_find_t : List (Nat × TP) := [(5, ([.inr (.inl (.inl 633)), .inl ([(0, .ofNat 1)], .ofNat 0), .inl ([(1, .ofNat 1)], .ofNat 0), .inl ([(2, .ofNat 1)], .ofNat 0)], [], [], [(.ofNat 0, .ofNat 7), (.negSucc 2147483647, .ofNat 2147483647), (.ofNat 0, .ofNat 128)], [], [], [([], .ofNat 1), ([(2, .negSucc 0)], .ofNat 129)], [.inr (.inr 0), .inr (.inr 0), .inr (.inr 0)], []))]
set_option maxRecDepth 100000 in
theorem kX11_find_ok : cnOK sT sG FL0 kX11_find := ccM_V (Δ := []) (n := 30) (N := 2) (cuts := kX11_find_t) sU_ok dp0_ok ct0_ok (nil_ok) (by decide +kernel)
def kX11_crowd : CN := (198, 0, [.inr 1900, .inl (.negSucc 2147483647, .ofNat 2147483647)], [], [], [], [(some (.inl (.ofNat 0, .ofNat 60)), [], [], [], [])])
def kX11_crowd_t : List (Nat × TP) := [(4, ([.inr (.inl (.inl 633)), .inl ([(0, .ofNat 1)], .ofNat 0), .inl ([(1, .ofNat 1)], .ofNat 0), .inl ([(2, .ofNat 1)], .ofNat 0)], [], [], [(.negSucc 2147483647, .ofNat 2147483647), (.ofNat 0, .ofNat 60), (.ofNat 0, .ofNat 60)], [], [([(2, .ofNat 1), (1, .negSucc 0)], .ofNat 0)], [([], .ofNat 1), ([(2, .negSucc 0)], .ofNat 61)], [.inr (.inr 0), .inr (.inr 0)], []))]
set_option maxRecDepth 100000 in
theorem kX11_crowd_ok : cnOK sT sG FL0 kX11_crowd := ccM_V (Δ := []) (n := 38) (N := 2) (cuts := kX11_crowd_t) sU_ok dp0_ok ct0_ok (nil_ok) (by decide +kernel)
def kX11_wish : CN := (190, 2, [.inr 1900, .inl (.negSucc 2147483647, .ofNat 2147483647), .inl (.negSucc 2147483647, .ofNat 2147483647), .inl (.negSucc 2147483647, .ofNat 2147483647), .inl (.negSucc 2147483647, .ofNat 2147483647), .inl (.negSucc 2147483647, .ofNat 2147483647)], [], [(28, [])], [(11, 0), (1063, 0)], [(some (.inl (.negSucc 0, .ofNat 23)), [], [], [(28, [])], [])])
def kX11_wish_t : List (Nat × TP) := []
set_option maxRecDepth 100000 in
theorem kX11_wish_ok : cnOK sT sG FL0 kX11_wish := ccM_V (Δ := []) (n := 230) (N := 0) (cuts := kX11_wish_t) sU_ok dp0_ok ct0_ok (nil_ok) (by decide +kernel)
def kX11_drop : CN := (191, 2, [.inr 1900, .inl (.negSucc 2147483647, .ofNat 2147483647)], [], [(28, [])], [(11, 0), (1063, 0)], [(some (.inl (.ofNat 0, .ofNat 1)), [], [], [(28, [])], [])])
def kX11_drop_t : List (Nat × TP) := []
set_option maxRecDepth 100000 in
theorem kX11_drop_ok : cnOK sT sG FL0 kX11_drop := ccM_V (Δ := []) (n := 83) (N := 0) (cuts := kX11_drop_t) sU_ok dp0_ok ct0_ok (nil_ok) (by decide +kernel)
def kX11_wornMany : CN := (216, 2, [.inr 1900], [], [], [], [(some (.inl (.ofNat 0, .ofNat 256)), [], [], [], [])])
def kX11_wornMany_t : List (Nat × TP) := [(4, ([.inr (.inl (.inl 633)), .inl ([(0, .ofNat 1)], .ofNat 0), .inl ([(1, .ofNat 1)], .ofNat 0)], [], [], [(.ofNat 0, .ofNat 256), (.ofNat 0, .ofNat 256)], [], [([(1, .ofNat 1), (0, .negSucc 0)], .ofNat 0)], [([], .ofNat 1), ([(1, .negSucc 0)], .ofNat 257)], [.inr (.inr 0)], []))]
set_option maxRecDepth 100000 in
theorem kX11_wornMany_ok : cnOK sT sG FL0 kX11_wornMany := ccM_V (Δ := []) (n := 64) (N := 2) (cuts := kX11_wornMany_t) sU_ok dp0_ok ct0_ok (nil_ok) (by decide +kernel)
def kX11_rain : CN := (210, 1, [.inr 1900, .inl (.negSucc 2147483647, .ofNat 2147483647)], [], [(28, [])], [(11, 0), (1063, 0)], [(some (.inl (.ofNat 0, .ofNat 0)), [(1, (.negSucc 2147483647, .ofNat 0))], [], [(28, [])], []), (some (.inl (.ofNat 0, .ofNat 0)), [(1, (.ofNat 201, .ofNat 2147483647))], [], [(28, [])], []), (some (.inl (.ofNat 1, .ofNat 1)), [(1, (.ofNat 1, .ofNat 200))], [], [(28, [])], [])])
def kX11_rain_t : List (Nat × TP) := [(20, ([.inr (.inl (.inl 633)), .inl ([(0, .ofNat 1)], .ofNat 0), .inl ([(1, .ofNat 1)], .ofNat 0)], [], [(28, [])], [(.ofNat 1, .ofNat 200), (.ofNat 0, .ofNat 256)], [], [], [([], .ofNat 1), ([(1, .negSucc 0)], .ofNat 257)], [.inr (.inr 0), .inl ([(0, .ofNat 1)], .ofNat 0)], []))]
set_option maxRecDepth 100000 in
theorem kX11_rain_ok : cnOK sT sG FL0 kX11_rain := ccM_V (Δ := []) (n := 114) (N := 2) (cuts := kX11_rain_t) sU_ok dp0_ok ct0_ok (nil_ok) (by decide +kernel)
def kX11_snow : CN := (211, 1, [.inr 1900], [], [(28, [])], [(11, 0), (1063, 0)], [(none, [], [], [(28, [])], [])])
def kX11_snow_t : List (Nat × TP) := [(7, ([.inr (.inl (.inl 633)), .inl ([(0, .ofNat 1)], .ofNat 0)], [], [(28, [])], [(.ofNat 0, .ofNat 256)], [], [], [([], .ofNat 1), ([(0, .negSucc 0)], .ofNat 257)], [.inr (.inr 0)], []))]
set_option maxRecDepth 100000 in
theorem kX11_snow_ok : cnOK sT sG FL0 kX11_snow := ccM_V (Δ := []) (n := 42) (N := 2) (cuts := kX11_snow_t) sU_ok dp0_ok ct0_ok (nil_ok) (by decide +kernel)
def kX11_lay : CN := (212, 3, [.inr 1900, .inl (.negSucc 2147483647, .ofNat 2147483647), .inl (.negSucc 2147483647, .ofNat 2147483647)], [], [(28, [])], [(11, 0), (1063, 0)], [(some (.inl (.ofNat 0, .ofNat 1)), [], [], [(28, [])], [])])
def kX11_lay_t : List (Nat × TP) := []
set_option maxRecDepth 100000 in
theorem kX11_lay_ok : cnOK sT sG FL0 kX11_lay := ccM_V (Δ := [kX11_isDoorAt, kX11_isWalkerAt]) (n := 362) (N := 0) (cuts := kX11_lay_t) sU_ok dp0_ok ct0_ok (cons_ok kX11_isDoorAt_ok (cons_ok kX11_isWalkerAt_ok nil_ok)) (by decide +kernel)
def kX11_walker : CN := (215, 1, [.inr 1900, .inl (.negSucc 2147483647, .ofNat 2147483647), .inl (.negSucc 2147483647, .ofNat 2147483647)], [], [], [(11, 0)], [(some (.inl (.negSucc 2147483647, .ofNat 2147483647)), [], [], [], [])])
def kX11_walker_t : List (Nat × TP) := []
set_option maxRecDepth 100000 in
theorem kX11_walker_ok : cnOK sT sG FL0 kX11_walker := ccM_V (Δ := []) (n := 76) (N := 0) (cuts := kX11_walker_t) sU_ok dp0_ok ct0_ok (nil_ok) (by decide +kernel)
def kX11_cell : CN := (214, 3, [.inr 1900, .inl (.negSucc 2147483647, .ofNat 2147483647), .inl (.negSucc 2147483647, .ofNat 2147483647)], [], [], [(11, 0)], [(some (.inl (.negSucc 2147483647, .ofNat 2147483647)), [], [], [], [])])
def kX11_cell_t : List (Nat × TP) := []
set_option maxRecDepth 100000 in
theorem kX11_cell_ok : cnOK sT sG FL0 kX11_cell := ccM_V (Δ := []) (n := 257) (N := 0) (cuts := kX11_cell_t) sU_ok dp0_ok ct0_ok (nil_ok) (by decide +kernel)
def kX11_fault : CN := (185, 0, [.inr 1900], [], [], [(11, 0)], [(some (.inl (.negSucc 2147483647, .ofNat 2147483647)), [], [], [], [])])
def kX11_fault_t : List (Nat × TP) := []
set_option maxRecDepth 100000 in
theorem kX11_fault_ok : cnOK sT sG FL0 kX11_fault := ccM_V (Δ := []) (n := 14) (N := 0) (cuts := kX11_fault_t) sU_ok dp0_ok ct0_ok (nil_ok) (by decide +kernel)
def kX11_note : CN := (220, 2, [.inr 1900, .inr 237], [], [], [(1079, 0)], [(none, [], [], [], [])])
def kX11_note_t : List (Nat × TP) := [(2, ([.inr (.inl (.inl 633)), .inr (.inl (.inl 651)), .inl ([(0, .ofNat 1)], .ofNat 0)], [], [], [(.ofNat 0, .ofNat 256)], [], [], [([], .ofNat 1), ([(0, .negSucc 0)], .ofNat 257)], [.inr (.inr 0), .inr (.inr 0)], []))]
set_option maxRecDepth 100000 in
theorem kX11_note_ok : cnOK sT sG FL0 kX11_note := ccM_V (Δ := []) (n := 57) (N := 2) (cuts := kX11_note_t) sU_ok dp0_ok ct0_ok (nil_ok) (by decide +kernel)
def kX11_isNoted : CN := (221, 2, [.inr 1900, .inr 237], [], [], [], [(some (.inl (.ofNat 0, .ofNat 1)), [], [], [], [])])
def kX11_isNoted_t : List (Nat × TP) := [(2, ([.inr (.inl (.inl 633)), .inr (.inl (.inl 651)), .inl ([(0, .ofNat 1)], .ofNat 0)], [], [], [(.ofNat 0, .ofNat 256)], [], [], [([], .ofNat 1), ([(0, .negSucc 0)], .ofNat 257)], [.inr (.inr 0), .inr (.inr 0)], []))]
set_option maxRecDepth 100000 in
theorem kX11_isNoted_ok : cnOK sT sG FL0 kX11_isNoted := ccM_V (Δ := []) (n := 63) (N := 2) (cuts := kX11_isNoted_t) sU_ok dp0_ok ct0_ok (nil_ok) (by decide +kernel)
def kX11_net : CN := (217, 3, [.inr 1900], [], [], [(11, 0)], [(some (.inl (.ofNat 0, .ofNat 256)), [], [], [], [])])
def kX11_net_t : List (Nat × TP) := []
set_option maxRecDepth 100000 in
theorem kX11_net_ok : cnOK sT sG FL0 kX11_net := ccM_V (Δ := [kX11_wornMany]) (n := 14) (N := 0) (cuts := kX11_net_t) sU_ok dp0_ok ct0_ok (cons_ok kX11_wornMany_ok nil_ok) (by decide +kernel)
def kX11_isSnow : CN := (243, 1, [.inr 1900, .inl (.ofNat 1, .ofNat 5)], [], [], [], [(some (.inl (.ofNat 0, .ofNat 1)), [], [], [], [])])
def kX11_isSnow_t : List (Nat × TP) := [(2, ([.inr (.inl (.inl 633)), .inl ([(0, .ofNat 1)], .ofNat 0), .inl ([(1, .ofNat 1)], .ofNat 0), .inr (.inr 0), .inr (.inr 0)], [], [], [(.ofNat 1, .ofNat 5), (.ofNat 0, .ofNat 256)], [], [], [([], .ofNat 1), ([(1, .negSucc 0)], .ofNat 257), ([], .ofNat 99), ([], .ofNat 0)], [.inr (.inr 0), .inr (.inr 0)], [])), (21, ([.inr (.inl (.inl 633)), .inl ([(0, .ofNat 1)], .ofNat 0), .inl ([(1, .ofNat 1)], .ofNat 0), .inl ([(2, .ofNat 1)], .ofNat 0), .inl ([(3, .ofNat 1)], .ofNat 0)], [], [], [(.ofNat 1, .ofNat 5), (.ofNat 0, .ofNat 255), (.negSucc 2147483647, .ofNat 2147483647), (.ofNat 0, .ofNat 5)], [], [], [([], .ofNat 1), ([(1, .negSucc 0)], .ofNat 257), ([], .ofNat 1), ([(3, .negSucc 0)], .ofNat 6)], [.inr (.inr 0), .inr (.inr 0)], []))]
set_option maxRecDepth 100000 in
theorem kX11_isSnow_ok : cnOK sT sG FL0 kX11_isSnow := ccM_V (Δ := []) (n := 42) (N := 4) (cuts := kX11_isSnow_t) sU_ok dp0_ok ct0_ok (nil_ok) (by decide +kernel)
def kX11_reads : CN := (244, 1, [.inr 1900, .inl (.negSucc 2147483647, .ofNat 2147483647), .inl (.negSucc 2147483647, .ofNat 2147483647)], [], [], [(11, 0)], [(some (.inl (.negSucc 2147483647, .ofNat 2147483647)), [], [], [], [])])
def kX11_reads_t : List (Nat × TP) := []
set_option maxRecDepth 100000 in
theorem kX11_reads_ok : cnOK sT sG FL0 kX11_reads := ccM_V (Δ := []) (n := 79) (N := 0) (cuts := kX11_reads_t) sU_ok dp0_ok ct0_ok (nil_ok) (by decide +kernel)
def kX11_wayAt : CN := (241, 1, [.inr 1900, .inl (.negSucc 2147483647, .ofNat 2147483647)], [], [], [(11, 0)], [(some (.inl (.negSucc 0, .ofNat 255)), [], [], [], [])])
def kX11_wayAt_t : List (Nat × TP) := []
set_option maxRecDepth 100000 in
theorem kX11_wayAt_ok : cnOK sT sG FL0 kX11_wayAt := ccM_V (Δ := []) (n := 44) (N := 0) (cuts := kX11_wayAt_t) sU_ok dp0_ok ct0_ok (nil_ok) (by decide +kernel)
def kX11_fenceAt : CN := (236, 1, [.inr 1900, .inl (.negSucc 2147483647, .ofNat 2147483647)], [], [], [(11, 0)], [(some (.inl (.negSucc 2147483647, .ofNat 2147483647)), [], [], [], [])])
def kX11_fenceAt_t : List (Nat × TP) := []
set_option maxRecDepth 100000 in
theorem kX11_fenceAt_ok : cnOK sT sG FL0 kX11_fenceAt := ccM_V (Δ := []) (n := 44) (N := 0) (cuts := kX11_fenceAt_t) sU_ok dp0_ok ct0_ok (nil_ok) (by decide +kernel)
def kX11_count : CN := (248, 0, [.inr 1900, .inl (.negSucc 2147483647, .ofNat 2147483647)], [], [], [(11, 0)], [(some (.inl (.negSucc 2147483647, .ofNat 2147483647)), [], [], [], [])])
def kX11_count_t : List (Nat × TP) := [(9, ([.inr (.inl (.inl 633)), .inl ([(0, .ofNat 1)], .ofNat 0), .inl ([(1, .ofNat 1)], .ofNat 0), .inl ([(2, .ofNat 1)], .ofNat 0)], [], [], [(.negSucc 2147483647, .ofNat 2147483647), (.ofNat 0, .ofNat 24), (.ofNat 0, .ofNat 24)], [], [([(2, .ofNat 1), (1, .negSucc 0)], .ofNat 0)], [([], .ofNat 1), ([(2, .negSucc 0)], .ofNat 25)], [.inr (.inr 0), .inr (.inr 0)], []))]
set_option maxRecDepth 100000 in
theorem kX11_count_ok : cnOK sT sG FL0 kX11_count := ccM_V (Δ := []) (n := 80) (N := 2) (cuts := kX11_count_t) sU_ok dp0_ok ct0_ok (nil_ok) (by decide +kernel)
def kX11_open : CN := (177, 0, [.inr 1900], [], [], [], [(some (.inl (.ofNat 0, .ofNat 100)), [], [], [], [])])
def kX11_open_t : List (Nat × TP) := [(4, ([.inr (.inl (.inl 633)), .inl ([(0, .ofNat 1)], .ofNat 0), .inl ([(1, .ofNat 1)], .ofNat 0)], [], [], [(.ofNat 0, .ofNat 100), (.ofNat 0, .ofNat 100)], [], [([(1, .ofNat 1), (0, .negSucc 0)], .ofNat 0)], [([], .ofNat 1), ([(1, .negSucc 0)], .ofNat 101)], [.inr (.inr 0)], []))]
set_option maxRecDepth 100000 in
theorem kX11_open_ok : cnOK sT sG FL0 kX11_open := ccM_V (Δ := []) (n := 44) (N := 2) (cuts := kX11_open_t) sU_ok dp0_ok ct0_ok (nil_ok) (by decide +kernel)
def kX11_isOpen : CN := (178, 0, [.inr 1900], [], [], [], [(some (.inl (.ofNat 0, .ofNat 1)), [], [], [], [])])
def kX11_isOpen_t : List (Nat × TP) := [(2, ([.inr (.inl (.inl 633)), .inl ([(0, .ofNat 1)], .ofNat 0)], [], [], [(.ofNat 0, .ofNat 100)], [], [], [([], .ofNat 1), ([(0, .negSucc 0)], .ofNat 101)], [.inr (.inr 0)], []))]
set_option maxRecDepth 100000 in
theorem kX11_isOpen_ok : cnOK sT sG FL0 kX11_isOpen := ccM_V (Δ := []) (n := 24) (N := 2) (cuts := kX11_isOpen_t) sU_ok dp0_ok ct0_ok (nil_ok) (by decide +kernel)
def kX11_bad : CN := (163, 0, [.inr 1900, .inl (.negSucc 2147483647, .ofNat 2147483647)], [], [], [(11, 26), (11, 27)], [(some (.inl (.ofNat 0, .ofNat 0)), [], [], [], [])])
def kX11_bad_t : List (Nat × TP) := []
set_option maxRecDepth 100000 in
theorem kX11_bad_ok : cnOK sT sG FL0 kX11_bad := ccM_V (Δ := []) (n := 17) (N := 0) (cuts := kX11_bad_t) sU_ok dp0_ok ct0_ok (nil_ok) (by decide +kernel)
def kX11_sign : CN := (166, 2, [.inr 1900, .inl (.negSucc 2147483647, .ofNat 2147483647)], [], [], [(11, 4), (11, 22), (11, 23), (11, 24), (11, 25), (11, 26), (11, 27), (11, 31)], [(some (.inl (.ofNat 0, .ofNat 1)), [], [], [], [])])
def kX11_sign_t : List (Nat × TP) := []
set_option maxRecDepth 100000 in
theorem kX11_sign_ok : cnOK sT sG FL0 kX11_sign := ccM_V (Δ := [kX11_bad, kX11_next]) (n := 41) (N := 0) (cuts := kX11_sign_t) sU_ok dp0_ok ct0_ok (cons_ok kX11_bad_ok (cons_ok kX11_next_ok nil_ok)) (by decide +kernel)
def kX11_takes : CN := (167, 2, [.inr 1900, .inl (.negSucc 2147483647, .ofNat 2147483647), .inl (.negSucc 2147483647, .ofNat 2147483647)], [], [], [(11, 4), (11, 22), (11, 23), (11, 24), (11, 25), (11, 26), (11, 27), (11, 31), (11, 32)], [(some (.inl (.ofNat 0, .ofNat 1)), [], [], [], [])])
def kX11_takes_t : List (Nat × TP) := []
set_option maxRecDepth 100000 in
theorem kX11_takes_ok : cnOK sT sG FL0 kX11_takes := ccM_V (Δ := [kX11_bad, kX11_next]) (n := 53) (N := 0) (cuts := kX11_takes_t) sU_ok dp0_ok ct0_ok (cons_ok kX11_bad_ok (cons_ok kX11_next_ok nil_ok)) (by decide +kernel)
def kX11_lineOf : CN := (168, 0, [.inr 1900, .inl (.negSucc 2147483647, .ofNat 2147483647)], [], [], [], [(some (.inl (.negSucc 0, .ofNat 7)), [], [], [], [])])
def kX11_lineOf_t : List (Nat × TP) := []
set_option maxRecDepth 100000 in
theorem kX11_lineOf_ok : cnOK sT sG FL0 kX11_lineOf := ccM_V (Δ := []) (n := 84) (N := 0) (cuts := kX11_lineOf_t) sU_ok dp0_ok ct0_ok (nil_ok) (by decide +kernel)
def kX11_measure : CN := (171, 0, [.inr 1900], [], [], [], [(some (.inl (.negSucc 0, .ofNat 6)), [], [], [], [])])
def kX11_measure_t : List (Nat × TP) := []
set_option maxRecDepth 100000 in
theorem kX11_measure_ok : cnOK sT sG FL0 kX11_measure := ccM_V (Δ := []) (n := 72) (N := 0) (cuts := kX11_measure_t) sU_ok dp0_ok ct0_ok (nil_ok) (by decide +kernel)
def kX11_atom : CN := (173, 0, [.inr 1900], [], [], [], [(some (.inl (.negSucc 0, .ofNat 11)), [], [], [], [])])
def kX11_atom_t : List (Nat × TP) := []
set_option maxRecDepth 100000 in
theorem kX11_atom_ok : cnOK sT sG FL0 kX11_atom := ccM_V (Δ := []) (n := 104) (N := 0) (cuts := kX11_atom_t) sU_ok dp0_ok ct0_ok (nil_ok) (by decide +kernel)
def kX11_told : CN := (182, 1, [.inr 1900, .inl (.negSucc 2147483647, .ofNat 2147483647), .inl (.negSucc 2147483647, .ofNat 2147483647)], [], [], [], [(some (.inl (.negSucc 2147483647, .ofNat 2147483647)), [], [], [], [])])
def kX11_told_t : List (Nat × TP) := []
set_option maxRecDepth 100000 in
theorem kX11_told_ok : cnOK sT sG FL0 kX11_told := ccM_V (Δ := [kX11_find]) (n := 23) (N := 0) (cuts := kX11_told_t) sU_ok dp0_ok ct0_ok (cons_ok kX11_find_ok nil_ok) (by decide +kernel)
def kX11_of : CN := (146, 0, [.inr 1900, .inl (.ofNat 0, .ofNat 255), .inl (.ofNat 0, .ofNat 6)], [], [], [], [(some (.inl (.negSucc 2147483647, .ofNat 2147483647)), [], [], [], [])])
def kX11_of_t : List (Nat × TP) := []
set_option maxRecDepth 100000 in
theorem kX11_of_ok : cnOK sT sG FL0 kX11_of := ccM_V (Δ := []) (n := 19) (N := 0) (cuts := kX11_of_t) sU_ok dp0_ok ct0_ok (nil_ok) (by decide +kernel)
def kX11_is : CN := (186, 3, [.inr 1900, .inl (.ofNat 0, .ofNat 255), .inl (.negSucc 2147483647, .ofNat 2147483647)], [], [], [], [(some (.inl (.ofNat 0, .ofNat 1)), [], [], [], [])])
def kX11_is_t : List (Nat × TP) := []
set_option maxRecDepth 100000 in
theorem kX11_is_ok : cnOK sT sG FL0 kX11_is := ccM_V (Δ := [kX11_of]) (n := 146) (N := 0) (cuts := kX11_is_t) sU_ok dp0_ok ct0_ok (cons_ok kX11_of_ok nil_ok) (by decide +kernel)
def kX11_sees : CN := (199, 3, [.inr 1900, .inl (.ofNat 0, .ofNat 255), .inl (.negSucc 2147483647, .ofNat 2147483647)], [], [], [], [(some (.inl (.negSucc 2147483647, .ofNat 2147483647)), [], [], [], [])])
def kX11_sees_t : List (Nat × TP) := [(33, ([.inr (.inl (.inl 633)), .inr (.inr 0), .inl ([(0, .ofNat 1)], .ofNat 0), .inr (.inr 0), .inl ([(1, .ofNat 1)], .ofNat 0), .inl ([(2, .ofNat 1)], .ofNat 0), .inl ([(3, .ofNat 1)], .ofNat 0)], [(.inl 633, 11, 36, .inl ([(4, .ofNat 1)], .ofNat 0))], [], [(.negSucc 2147483647, .ofNat 2147483647), (.negSucc 2147483647, .ofNat 2147483647), (.negSucc 2147483647, .ofNat 2147483647), (.negSucc 0, .ofNat 255), (.ofNat 0, .ofNat 6)], [], [], [([], .ofNat 1), ([(1, .ofNat 1)], .ofNat 2147483648)], [.inr (.inr 0), .inr (.inr 0), .inr (.inr 0)], []))]
set_option maxRecDepth 100000 in
theorem kX11_sees_ok : cnOK sT sG FL0 kX11_sees := ccM_V (Δ := [kX11_find, kX11_beside, kX11_of]) (n := 90) (N := 2) (cuts := kX11_sees_t) sU_ok dp0_ok ct0_ok (cons_ok kX11_find_ok (cons_ok kX11_beside_ok (cons_ok kX11_of_ok nil_ok))) (by decide +kernel)
def kX11_note__1 : CN := (220, 2, [.inr 1900, .inr 243], [], [], [(1081, 0)], [(none, [], [], [], [])])
def kX11_note__1_t : List (Nat × TP) := [(2, ([.inr (.inl (.inl 633)), .inr (.inl (.inl 653)), .inl ([(0, .ofNat 1)], .ofNat 0)], [], [], [(.ofNat 0, .ofNat 256)], [], [], [([], .ofNat 1), ([(0, .negSucc 0)], .ofNat 257)], [.inr (.inr 0), .inr (.inr 0)], []))]
set_option maxRecDepth 100000 in
theorem kX11_note__1_ok : cnOK sT sG FL0 kX11_note__1 := ccM_V (Δ := [kX11_of]) (n := 46) (N := 2) (cuts := kX11_note__1_t) sU_ok dp0_ok ct0_ok (cons_ok kX11_of_ok nil_ok) (by decide +kernel)
def kX11_note__2 : CN := (220, 2, [.inr 1900, .inr 240], [], [], [(1080, 0)], [(none, [], [], [], [])])
def kX11_note__2_t : List (Nat × TP) := [(2, ([.inr (.inl (.inl 633)), .inr (.inl (.inl 652)), .inl ([(0, .ofNat 1)], .ofNat 0)], [], [], [(.ofNat 0, .ofNat 256)], [], [], [([], .ofNat 1), ([(0, .negSucc 0)], .ofNat 257)], [.inr (.inr 0), .inr (.inr 0)], []))]
set_option maxRecDepth 100000 in
theorem kX11_note__2_ok : cnOK sT sG FL0 kX11_note__2 := ccM_V (Δ := [kX11_of]) (n := 46) (N := 2) (cuts := kX11_note__2_t) sU_ok dp0_ok ct0_ok (cons_ok kX11_of_ok nil_ok) (by decide +kernel)
