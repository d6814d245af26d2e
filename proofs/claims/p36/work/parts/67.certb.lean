/-! CERTIFICATES (by program) -/
def kX11_four : CN := (137, 0, [.inr 1900, .inl (.negSucc 2147483647, .ofNat 2147483647)], [(.inl 633, 11, 2, .inl (.ofNat 0, .ofNat 420))], [], [(11, 2), (1062, 0)], [(none, [], [(.inl 633, 11, 2, .inl (.ofNat 4, .ofNat 424))], [], [])])
def kX11_four_t : List (Nat × TP) := [(3, ([.inr (.inl (.inl 633)), .inl ([(0, .ofNat 1)], .ofNat 0), .inl ([(1, .ofNat 1)], .ofNat 0)], [(.inl 633, 11, 2, .inl ([(2, .ofNat 1)], .ofNat 0))], [], [(.negSucc 2147483647, .ofNat 2147483647), (.ofNat 24, .ofNat 24), (.ofNat 0, .ofNat 420)], [], [], [([], .ofNat 1), ([(1, .ofNat 1)], .ofNat 8)], [.inr (.inr 0), .inr (.inr 0)], [])), (3, ([.inr (.inl (.inl 633)), .inl ([(0, .ofNat 1)], .ofNat 0), .inl ([(1, .ofNat 1)], .ofNat 0)], [(.inl 633, 11, 2, .inl ([(2, .ofNat 1)], .ofNat 0))], [], [(.negSucc 2147483647, .ofNat 2147483647), (.ofNat 16, .ofNat 16), (.ofNat 1, .ofNat 421)], [], [], [([], .ofNat 1), ([(1, .ofNat 1)], .ofNat 8)], [.inr (.inr 0), .inr (.inr 0)], [])), (3, ([.inr (.inl (.inl 633)), .inl ([(0, .ofNat 1)], .ofNat 0), .inl ([(1, .ofNat 1)], .ofNat 0)], [(.inl 633, 11, 2, .inl ([(2, .ofNat 1)], .ofNat 0))], [], [(.negSucc 2147483647, .ofNat 2147483647), (.ofNat 8, .ofNat 8), (.ofNat 2, .ofNat 422)], [], [], [([], .ofNat 1), ([(1, .ofNat 1)], .ofNat 8)], [.inr (.inr 0), .inr (.inr 0)], [])), (3, ([.inr (.inl (.inl 633)), .inl ([(0, .ofNat 1)], .ofNat 0), .inl ([(1, .ofNat 1)], .ofNat 0)], [(.inl 633, 11, 2, .inl ([(2, .ofNat 1)], .ofNat 0))], [], [(.negSucc 2147483647, .ofNat 2147483647), (.ofNat 0, .ofNat 0), (.ofNat 3, .ofNat 423)], [], [], [([], .ofNat 1), ([(1, .ofNat 1)], .ofNat 8)], [.inr (.inr 0), .inr (.inr 0)], [])), (3, ([.inr (.inl (.inl 633)), .inl ([(0, .ofNat 1)], .ofNat 0), .inl ([(1, .ofNat 1)], .ofNat 0)], [(.inl 633, 11, 2, .inl ([(2, .ofNat 1)], .ofNat 0))], [], [(.negSucc 2147483647, .ofNat 2147483647), (.negSucc 7, .negSucc 7), (.ofNat 4, .ofNat 424)], [], [], [([], .ofNat 1), ([(1, .ofNat 1)], .ofNat 8)], [.inr (.inr 0), .inr (.inr 0)], []))]
set_option maxRecDepth 100000 in
theorem kX11_four_ok : cnOK sT sG FL0 kX11_four := ccM_V (Δ := []) (n := 27) (N := 2) (cuts := kX11_four_t) sU_ok dp0_ok ct0_ok (nil_ok) (by decide +kernel)
def kX11_four__1 : CN := (137, 0, [.inr 1900, .inl (.negSucc 2147483647, .ofNat 2147483647)], [(.inl 633, 11, 2, .inl (.ofNat 0, .ofNat 424))], [], [(11, 2), (1062, 0)], [(none, [], [(.inl 633, 11, 2, .inl (.ofNat 4, .ofNat 428))], [], [])])
def kX11_four__1_t : List (Nat × TP) := [(3, ([.inr (.inl (.inl 633)), .inl ([(0, .ofNat 1)], .ofNat 0), .inl ([(1, .ofNat 1)], .ofNat 0)], [(.inl 633, 11, 2, .inl ([(2, .ofNat 1)], .ofNat 0))], [], [(.negSucc 2147483647, .ofNat 2147483647), (.ofNat 24, .ofNat 24), (.ofNat 0, .ofNat 424)], [], [], [([], .ofNat 1), ([(1, .ofNat 1)], .ofNat 8)], [.inr (.inr 0), .inr (.inr 0)], [])), (3, ([.inr (.inl (.inl 633)), .inl ([(0, .ofNat 1)], .ofNat 0), .inl ([(1, .ofNat 1)], .ofNat 0)], [(.inl 633, 11, 2, .inl ([(2, .ofNat 1)], .ofNat 0))], [], [(.negSucc 2147483647, .ofNat 2147483647), (.ofNat 16, .ofNat 16), (.ofNat 1, .ofNat 425)], [], [], [([], .ofNat 1), ([(1, .ofNat 1)], .ofNat 8)], [.inr (.inr 0), .inr (.inr 0)], [])), (3, ([.inr (.inl (.inl 633)), .inl ([(0, .ofNat 1)], .ofNat 0), .inl ([(1, .ofNat 1)], .ofNat 0)], [(.inl 633, 11, 2, .inl ([(2, .ofNat 1)], .ofNat 0))], [], [(.negSucc 2147483647, .ofNat 2147483647), (.ofNat 8, .ofNat 8), (.ofNat 2, .ofNat 426)], [], [], [([], .ofNat 1), ([(1, .ofNat 1)], .ofNat 8)], [.inr (.inr 0), .inr (.inr 0)], [])), (3, ([.inr (.inl (.inl 633)), .inl ([(0, .ofNat 1)], .ofNat 0), .inl ([(1, .ofNat 1)], .ofNat 0)], [(.inl 633, 11, 2, .inl ([(2, .ofNat 1)], .ofNat 0))], [], [(.negSucc 2147483647, .ofNat 2147483647), (.ofNat 0, .ofNat 0), (.ofNat 3, .ofNat 427)], [], [], [([], .ofNat 1), ([(1, .ofNat 1)], .ofNat 8)], [.inr (.inr 0), .inr (.inr 0)], [])), (3, ([.inr (.inl (.inl 633)), .inl ([(0, .ofNat 1)], .ofNat 0), .inl ([(1, .ofNat 1)], .ofNat 0)], [(.inl 633, 11, 2, .inl ([(2, .ofNat 1)], .ofNat 0))], [], [(.negSucc 2147483647, .ofNat 2147483647), (.negSucc 7, .negSucc 7), (.ofNat 4, .ofNat 428)], [], [], [([], .ofNat 1), ([(1, .ofNat 1)], .ofNat 8)], [.inr (.inr 0), .inr (.inr 0)], []))]
set_option maxRecDepth 100000 in
theorem kX11_four__1_ok : cnOK sT sG FL0 kX11_four__1 := ccM_V (Δ := []) (n := 27) (N := 2) (cuts := kX11_four__1_t) sU_ok dp0_ok ct0_ok (nil_ok) (by decide +kernel)
def kX11_four__2 : CN := (137, 0, [.inr 1900, .inl (.negSucc 2147483647, .ofNat 2147483647)], [(.inl 633, 11, 2, .inl (.ofNat 0, .ofNat 428))], [], [(11, 2), (1062, 0)], [(none, [], [(.inl 633, 11, 2, .inl (.ofNat 4, .ofNat 432))], [], [])])
def kX11_four__2_t : List (Nat × TP) := [(3, ([.inr (.inl (.inl 633)), .inl ([(0, .ofNat 1)], .ofNat 0), .inl ([(1, .ofNat 1)], .ofNat 0)], [(.inl 633, 11, 2, .inl ([(2, .ofNat 1)], .ofNat 0))], [], [(.negSucc 2147483647, .ofNat 2147483647), (.ofNat 24, .ofNat 24), (.ofNat 0, .ofNat 428)], [], [], [([], .ofNat 1), ([(1, .ofNat 1)], .ofNat 8)], [.inr (.inr 0), .inr (.inr 0)], [])), (3, ([.inr (.inl (.inl 633)), .inl ([(0, .ofNat 1)], .ofNat 0), .inl ([(1, .ofNat 1)], .ofNat 0)], [(.inl 633, 11, 2, .inl ([(2, .ofNat 1)], .ofNat 0))], [], [(.negSucc 2147483647, .ofNat 2147483647), (.ofNat 16, .ofNat 16), (.ofNat 1, .ofNat 429)], [], [], [([], .ofNat 1), ([(1, .ofNat 1)], .ofNat 8)], [.inr (.inr 0), .inr (.inr 0)], [])), (3, ([.inr (.inl (.inl 633)), .inl ([(0, .ofNat 1)], .ofNat 0), .inl ([(1, .ofNat 1)], .ofNat 0)], [(.inl 633, 11, 2, .inl ([(2, .ofNat 1)], .ofNat 0))], [], [(.negSucc 2147483647, .ofNat 2147483647), (.ofNat 8, .ofNat 8), (.ofNat 2, .ofNat 430)], [], [], [([], .ofNat 1), ([(1, .ofNat 1)], .ofNat 8)], [.inr (.inr 0), .inr (.inr 0)], [])), (3, ([.inr (.inl (.inl 633)), .inl ([(0, .ofNat 1)], .ofNat 0), .inl ([(1, .ofNat 1)], .ofNat 0)], [(.inl 633, 11, 2, .inl ([(2, .ofNat 1)], .ofNat 0))], [], [(.negSucc 2147483647, .ofNat 2147483647), (.ofNat 0, .ofNat 0), (.ofNat 3, .ofNat 431)], [], [], [([], .ofNat 1), ([(1, .ofNat 1)], .ofNat 8)], [.inr (.inr 0), .inr (.inr 0)], [])), (3, ([.inr (.inl (.inl 633)), .inl ([(0, .ofNat 1)], .ofNat 0), .inl ([(1, .ofNat 1)], .ofNat 0)], [(.inl 633, 11, 2, .inl ([(2, .ofNat 1)], .ofNat 0))], [], [(.negSucc 2147483647, .ofNat 2147483647), (.negSucc 7, .negSucc 7), (.ofNat 4, .ofNat 432)], [], [], [([], .ofNat 1), ([(1, .ofNat 1)], .ofNat 8)], [.inr (.inr 0), .inr (.inr 0)], []))]
set_option maxRecDepth 100000 in
theorem kX11_four__2_ok : cnOK sT sG FL0 kX11_four__2 := ccM_V (Δ := []) (n := 27) (N := 2) (cuts := kX11_four__2_t) sU_ok dp0_ok ct0_ok (nil_ok) (by decide +kernel)
def kX11_four__3 : CN := (137, 0, [.inr 1900, .inl (.negSucc 2147483647, .ofNat 2147483647)], [(.inl 633, 11, 2, .inl (.ofNat 0, .ofNat 432))], [], [(11, 2), (1062, 0)], [(none, [], [(.inl 633, 11, 2, .inl (.ofNat 4, .ofNat 436))], [], [])])
def kX11_four__3_t : List (Nat × TP) := [(3, ([.inr (.inl (.inl 633)), .inl ([(0, .ofNat 1)], .ofNat 0), .inl ([(1, .ofNat 1)], .ofNat 0)], [(.inl 633, 11, 2, .inl ([(2, .ofNat 1)], .ofNat 0))], [], [(.negSucc 2147483647, .ofNat 2147483647), (.ofNat 24, .ofNat 24), (.ofNat 0, .ofNat 432)], [], [], [([], .ofNat 1), ([(1, .ofNat 1)], .ofNat 8)], [.inr (.inr 0), .inr (.inr 0)], [])), (3, ([.inr (.inl (.inl 633)), .inl ([(0, .ofNat 1)], .ofNat 0), .inl ([(1, .ofNat 1)], .ofNat 0)], [(.inl 633, 11, 2, .inl ([(2, .ofNat 1)], .ofNat 0))], [], [(.negSucc 2147483647, .ofNat 2147483647), (.ofNat 16, .ofNat 16), (.ofNat 1, .ofNat 433)], [], [], [([], .ofNat 1), ([(1, .ofNat 1)], .ofNat 8)], [.inr (.inr 0), .inr (.inr 0)], [])), (3, ([.inr (.inl (.inl 633)), .inl ([(0, .ofNat 1)], .ofNat 0), .inl ([(1, .ofNat 1)], .ofNat 0)], [(.inl 633, 11, 2, .inl ([(2, .ofNat 1)], .ofNat 0))], [], [(.negSucc 2147483647, .ofNat 2147483647), (.ofNat 8, .ofNat 8), (.ofNat 2, .ofNat 434)], [], [], [([], .ofNat 1), ([(1, .ofNat 1)], .ofNat 8)], [.inr (.inr 0), .inr (.inr 0)], [])), (3, ([.inr (.inl (.inl 633)), .inl ([(0, .ofNat 1)], .ofNat 0), .inl ([(1, .ofNat 1)], .ofNat 0)], [(.inl 633, 11, 2, .inl ([(2, .ofNat 1)], .ofNat 0))], [], [(.negSucc 2147483647, .ofNat 2147483647), (.ofNat 0, .ofNat 0), (.ofNat 3, .ofNat 435)], [], [], [([], .ofNat 1), ([(1, .ofNat 1)], .ofNat 8)], [.inr (.inr 0), .inr (.inr 0)], [])), (3, ([.inr (.inl (.inl 633)), .inl ([(0, .ofNat 1)], .ofNat 0), .inl ([(1, .ofNat 1)], .ofNat 0)], [(.inl 633, 11, 2, .inl ([(2, .ofNat 1)], .ofNat 0))], [], [(.negSucc 2147483647, .ofNat 2147483647), (.negSucc 7, .negSucc 7), (.ofNat 4, .ofNat 436)], [], [], [([], .ofNat 1), ([(1, .ofNat 1)], .ofNat 8)], [.inr (.inr 0), .inr (.inr 0)], []))]
set_option maxRecDepth 100000 in
theorem kX11_four__3_ok : cnOK sT sG FL0 kX11_four__3 := ccM_V (Δ := []) (n := 27) (N := 2) (cuts := kX11_four__3_t) sU_ok dp0_ok ct0_ok (nil_ok) (by decide +kernel)
def kX11_four__4 : CN := (137, 0, [.inr 1900, .inl (.negSucc 2147483647, .ofNat 2147483647)], [(.inl 633, 11, 2, .inl (.ofNat 0, .ofNat 436))], [], [(11, 2), (1062, 0)], [(none, [], [(.inl 633, 11, 2, .inl (.ofNat 4, .ofNat 440))], [], [])])
def kX11_four__4_t : List (Nat × TP) := [(3, ([.inr (.inl (.inl 633)), .inl ([(0, .ofNat 1)], .ofNat 0), .inl ([(1, .ofNat 1)], .ofNat 0)], [(.inl 633, 11, 2, .inl ([(2, .ofNat 1)], .ofNat 0))], [], [(.negSucc 2147483647, .ofNat 2147483647), (.ofNat 24, .ofNat 24), (.ofNat 0, .ofNat 436)], [], [], [([], .ofNat 1), ([(1, .ofNat 1)], .ofNat 8)], [.inr (.inr 0), .inr (.inr 0)], [])), (3, ([.inr (.inl (.inl 633)), .inl ([(0, .ofNat 1)], .ofNat 0), .inl ([(1, .ofNat 1)], .ofNat 0)], [(.inl 633, 11, 2, .inl ([(2, .ofNat 1)], .ofNat 0))], [], [(.negSucc 2147483647, .ofNat 2147483647), (.ofNat 16, .ofNat 16), (.ofNat 1, .ofNat 437)], [], [], [([], .ofNat 1), ([(1, .ofNat 1)], .ofNat 8)], [.inr (.inr 0), .inr (.inr 0)], [])), (3, ([.inr (.inl (.inl 633)), .inl ([(0, .ofNat 1)], .ofNat 0), .inl ([(1, .ofNat 1)], .ofNat 0)], [(.inl 633, 11, 2, .inl ([(2, .ofNat 1)], .ofNat 0))], [], [(.negSucc 2147483647, .ofNat 2147483647), (.ofNat 8, .ofNat 8), (.ofNat 2, .ofNat 438)], [], [], [([], .ofNat 1), ([(1, .ofNat 1)], .ofNat 8)], [.inr (.inr 0), .inr (.inr 0)], [])), (3, ([.inr (.inl (.inl 633)), .inl ([(0, .ofNat 1)], .ofNat 0), .inl ([(1, .ofNat 1)], .ofNat 0)], [(.inl 633, 11, 2, .inl ([(2, .ofNat 1)], .ofNat 0))], [], [(.negSucc 2147483647, .ofNat 2147483647), (.ofNat 0, .ofNat 0), (.ofNat 3, .ofNat 439)], [], [], [([], .ofNat 1), ([(1, .ofNat 1)], .ofNat 8)], [.inr (.inr 0), .inr (.inr 0)], [])), (3, ([.inr (.inl (.inl 633)), .inl ([(0, .ofNat 1)], .ofNat 0), .inl ([(1, .ofNat 1)], .ofNat 0)], [(.inl 633, 11, 2, .inl ([(2, .ofNat 1)], .ofNat 0))], [], [(.negSucc 2147483647, .ofNat 2147483647), (.negSucc 7, .negSucc 7), (.ofNat 4, .ofNat 440)], [], [], [([], .ofNat 1), ([(1, .ofNat 1)], .ofNat 8)], [.inr (.inr 0), .inr (.inr 0)], []))]
set_option maxRecDepth 100000 in
theorem kX11_four__4_ok : cnOK sT sG FL0 kX11_four__4 := ccM_V (Δ := []) (n := 27) (N := 2) (cuts := kX11_four__4_t) sU_ok dp0_ok ct0_ok (nil_ok) (by decide +kernel)
def kX11_feed : CN := (136, 1, [.inr 1900, .inl (.negSucc 2147483647, .ofNat 2147483647), .inl (.negSucc 2147483647, .ofNat 2147483647), .inl (.negSucc 2147483647, .ofNat 2147483647), .inl (.negSucc 2147483647, .ofNat 2147483647), .inl (.negSucc 2147483647, .ofNat 2147483647)], [], [], [(11, 0), (11, 2), (1062, 0)], [(some (.inl (.negSucc 0, .ofNat 440)), [], [], [], [])])
def kX11_feed_t : List (Nat × TP) := []
set_option maxRecDepth 100000 in
theorem kX11_feed_ok : cnOK sT sG FL0 kX11_feed := ccM_V (Δ := [kX11_four, kX11_four__1, kX11_four__2, kX11_four__3, kX11_four__4]) (n := 37) (N := 0) (cuts := kX11_feed_t) sU_ok dp0_ok ct0_ok (cons_ok kX11_four_ok (cons_ok kX11_four__1_ok (cons_ok kX11_four__2_ok (cons_ok kX11_four__3_ok (cons_ok kX11_four__4_ok nil_ok))))) (by decide +kernel)
def kX11_end : CN := (138, 0, [.inr 1900, .inl (.negSucc 2147483647, .ofNat 2147483647)], [], [], [(11, 0), (11, 2)], [(some (.inl (.ofNat 0, .ofNat 1)), [], [], [], [])])
def kX11_end_t : List (Nat × TP) := []
set_option maxRecDepth 100000 in
theorem kX11_end_ok : cnOK sT sG FL0 kX11_end := ccM_V (Δ := []) (n := 26) (N := 0) (cuts := kX11_end_t) sU_ok dp0_ok ct0_ok (nil_ok) (by decide +kernel)
def kX11_isDoorAt : CN := (157, 0, [.inr 1900, .inl (.negSucc 2147483647, .ofNat 2147483647)], [], [], [], [(some (.inl (.ofNat 0, .ofNat 1)), [], [], [], [])])
def kX11_isDoorAt_t : List (Nat × TP) := [(2, ([.inr (.inl (.inl 633)), .inl ([(0, .ofNat 1)], .ofNat 0), .inl ([(1, .ofNat 1)], .ofNat 0)], [], [], [(.negSucc 2147483647, .ofNat 2147483647), (.ofNat 0, .ofNat 9)], [], [], [([], .ofNat 1), ([(1, .negSucc 0)], .ofNat 10)], [.inr (.inr 0), .inr (.inr 0)], []))]
set_option maxRecDepth 100000 in
theorem kX11_isDoorAt_ok : cnOK sT sG FL0 kX11_isDoorAt := ccM_V (Δ := []) (n := 28) (N := 2) (cuts := kX11_isDoorAt_t) sU_ok dp0_ok ct0_ok (nil_ok) (by decide +kernel)
def kX11_isWalkerAt : CN := (158, 0, [.inr 1900, .inl (.negSucc 2147483647, .ofNat 2147483647)], [], [], [], [(some (.inl (.ofNat 0, .ofNat 1)), [], [], [], [])])
def kX11_isWalkerAt_t : List (Nat × TP) := [(2, ([.inr (.inl (.inl 633)), .inl ([(0, .ofNat 1)], .ofNat 0), .inl ([(1, .ofNat 1)], .ofNat 0)], [], [], [(.negSucc 2147483647, .ofNat 2147483647), (.ofNat 0, .ofNat 60)], [], [], [([], .ofNat 1), ([(1, .negSucc 0)], .ofNat 61)], [.inr (.inr 0), .inr (.inr 0)], []))]
set_option maxRecDepth 100000 in
theorem kX11_isWalkerAt_ok : cnOK sT sG FL0 kX11_isWalkerAt := ccM_V (Δ := []) (n := 30) (N := 2) (cuts := kX11_isWalkerAt_t) sU_ok dp0_ok ct0_ok (nil_ok) (by decide +kernel)
def kX11_next : CN := (162, 1, [.inr 1900], [], [], [(11, 4), (11, 22), (11, 23), (11, 24), (11, 25), (11, 31)], [(none, [], [], [], [])])
def kX11_next_t : List (Nat × TP) := [(0, ([.inr (.inl (.inl 633)), .inr (.inr 0), .inr (.inr 0), .inr (.inr 0)], [(.inl 633, 11, 4, .inl ([(0, .ofNat 1)], .ofNat 0)), (.inl 633, 11, 3, .inl ([(1, .ofNat 1)], .ofNat 0))], [], [(.ofNat 0, .ofNat 440), (.ofNat 0, .ofNat 440)], [], [], [([], .ofNat 2), ([(0, .negSucc 0)], .ofNat 441)], [.inr (.inr 0)], [])), (178, ([.inr (.inl (.inl 633)), .inr (.inr 0), .inl ([(0, .ofNat 1)], .ofNat 0), .inl ([(1, .ofNat 1)], .ofNat 0)], [(.inl 633, 11, 3, .inl ([(2, .ofNat 1)], .ofNat 0)), (.inl 633, 11, 4, .inl ([(3, .ofNat 1)], .ofNat 0))], [], [(.ofNat 0, .ofNat 1), (.ofNat 0, .ofNat 1), (.ofNat 1, .ofNat 440), (.ofNat 0, .ofNat 440)], [], [], [([], .ofNat 1), ([(3, .negSucc 0)], .ofNat 441)], [.inr (.inr 0)], []))]
set_option maxRecDepth 100000 in
theorem kX11_next_ok : cnOK sT sG FL0 kX11_next := ccM_V (Δ := []) (n := 6699) (N := 2) (cuts := kX11_next_t) sU_ok dp0_ok ct0_ok (nil_ok) (by decide +kernel)
def kX11_find : CN := (172, 0, [.inr 1900, .inl (.ofNat 0, .ofNat 7), .inl (.negSucc 2147483647, .ofNat 2147483647)], [], [], [], [(some (.inl (.negSucc 0, .ofNat 127)), [], [], [], [])])
def kX11_find_t : List (Nat × TP) := [(5, ([.inr (.inl (.inl 633)), .inl ([(0, .ofNat 1)], .ofNat 0), .inl ([(1, .ofNat 1)], .ofNat 0), .inl ([(2, .ofNat 1)], .ofNat 0)], [], [], [(.ofNat 0, .ofNat 7), (.negSucc 2147483647, .ofNat 2147483647), (.ofNat 0, .ofNat 128)], [], [], [([], .ofNat 1), ([(2, .negSucc 0)], .ofNat 129)], [.inr (.inr 0), .inr (.inr 0), .inr (.inr 0)], []))]
set_option maxRecDepth 100000 in
theorem kX11_find_ok : cnOK sT sG FL0 kX11_find := ccM_V (Δ := []) (n := 30) (N := 2) (cuts := kX11_find_t) sU_ok dp0_ok ct0_ok (nil_ok) (by decide +kernel)
def kX11_crowd : CN := (198, 0, [.inr 1900, .inl (.negSucc 2147483647, .ofNat 2147483647)], [], [], [], [(some (.inl (.ofNat 0, .ofNat 60)), [], [], [], [])])
def kX11_crowd_t : List (Nat × TP) := [(4, ([.inr (.inl (.inl 633)), .inl ([(0, .ofNat 1)], .ofNat 0), .inl ([(1, .ofNat 1)], .ofNat 0), .inl ([(2, .ofNat 1)], .ofNat 0)], [], [], [(.negSucc 2147483647, .ofNat 2147483647), (.ofNat 0, .ofNat 60), (.ofNat 0, .ofNat 60)], [], [([(2, .ofNat 1), (1, .negSucc 0)], .ofNat 0)], [([], .ofNat 1), ([(2, .negSucc 0)], .ofNat 61)], [.inr (.inr 0), .inr (.inr 0)], []))]
set_option maxRecDepth 100000 in
theorem kX11_crowd_ok : cnOK sT sG FL0 kX11_crowd := ccM_V (Δ := []) (n := 38) (N := 2) (cuts := kX11_crowd_t) sU_ok dp0_ok ct0_ok (nil_ok) (by decide +kernel)
def kX11_wish : CN := (190, 2, [.inr 1900, .inl (.negSucc 2147483647, .ofNat 2147483647), .inl (.negSucc 2147483647, .ofNat 2147483647), .inl (.negSucc 2147483647, .ofNat 2147483647), .inl (.negSucc 2147483647, .ofNat 2147483647), .inl (.negSucc 2147483647, .ofNat 2147483647)], [], [(28, [])], [(11, 0), (1063, 0)], [(some (.inl (.negSucc 0, .ofNat 23)), [], [], [(28, [])], [])])
def kX11_wish_t : List (Nat × TP) := []
set_option maxRecDepth 100000 in
theorem kX11_wish_ok : cnOK sT sG FL0 kX11_wish := ccM_V (Δ := []) (n := 230) (N := 0) (cuts := kX11_wish_t) sU_ok dp0_ok ct0_ok (nil_ok) (by decide +kernel)
def kX11_drop : CN := (191, 2, [.inr 1900, .inl (.negSucc 2147483647, .ofNat 2147483647)], [], [(28, [])], [(11, 0), (1063, 0)], [(some (.inl (.ofNat 0, .ofNat 1)), [], [], [(28, [])], [])])
def kX11_drop_t : List (Nat × TP) := []
set_option maxRecDepth 100000 in
theorem kX11_drop_ok : cnOK sT sG FL0 kX11_drop := ccM_V (Δ := []) (n := 83) (N := 0) (cuts := kX11_drop_t) sU_ok dp0_ok ct0_ok (nil_ok) (by decide +kernel)
def kX11_wornMany : CN := (216, 2, [.inr 1900], [], [], [], [(some (.inl (.ofNat 0, .ofNat 256)), [], [], [], [])])
def kX11_wornMany_t : List (Nat × TP) := [(4, ([.inr (.inl (.inl 633)), .inl ([(0, .ofNat 1)], .ofNat 0), .inl ([(1, .ofNat 1)], .ofNat 0)], [], [], [(.ofNat 0, .ofNat 256), (.ofNat 0, .ofNat 256)], [], [([(1, .ofNat 1), (0, .negSucc 0)], .ofNat 0)], [([], .ofNat 1), ([(1, .negSucc 0)], .ofNat 257)], [.inr (.inr 0)], []))]
set_option maxRecDepth 100000 in
theorem kX11_wornMany_ok : cnOK sT sG FL0 kX11_wornMany := ccM_V (Δ := []) (n := 64) (N := 2) (cuts := kX11_wornMany_t) sU_ok dp0_ok ct0_ok (nil_ok) (by decide +kernel)
def kX11_rain : CN := (210, 1, [.inr 1900, .inl (.negSucc 2147483647, .ofNat 2147483647)], [], [(28, [])], [(11, 0), (1063, 0)], [(some (.inl (.ofNat 0, .ofNat 0)), [(1, (.negSucc 2147483647, .ofNat 0))], [], [(28, [])], []), (some (.inl (.ofNat 0, .ofNat 0)), [(1, (.ofNat 201, .ofNat 2147483647))], [], [(28, [])], []), (some (.inl (.ofNat 1, .ofNat 1)), [(1, (.ofNat 1, .ofNat 200))], [], [(28, [])], [])])
def kX11_rain_t : List (Nat × TP) := [(20, ([.inr (.inl (.inl 633)), .inl ([(0, .ofNat 1)], .ofNat 0), .inl ([(1, .ofNat 1)], .ofNat 0)], [], [(28, [])], [(.ofNat 1, .ofNat 200), (.ofNat 0, .ofNat 256)], [], [], [([], .ofNat 1), ([(1, .negSucc 0)], .ofNat 257)], [.inr (.inr 0), .inl ([(0, .ofNat 1)], .ofNat 0)], []))]
set_option maxRecDepth 100000 in
theorem kX11_rain_ok : cnOK sT sG FL0 kX11_rain := ccM_V (Δ := []) (n := 114) (N := 2) (cuts := kX11_rain_t) sU_ok dp0_ok ct0_ok (nil_ok) (by decide +kernel)
def kX11_snow : CN := (211, 1, [.inr 1900], [], [(28, [])], [(11, 0), (1063, 0)], [(none, [], [], [(28, [])], [])])
def kX11_snow_t : List (Nat × TP) := [(7, ([.inr (.inl (.inl 633)), .inl ([(0, .ofNat 1)], .ofNat 0)], [], [(28, [])], [(.ofNat 0, .ofNat 256)], [], [], [([], .ofNat 1), ([(0, .negSucc 0)], .ofNat 257)], [.inr (.inr 0)], []))]
set_option maxRecDepth 100000 in
theorem kX11_snow_ok : cnOK sT sG FL0 kX11_snow := ccM_V (Δ := []) (n := 42) (N := 2) (cuts := kX11_snow_t) sU_ok dp0_ok ct0_ok (nil_ok) (by decide +kernel)
def kX11_lay : CN := (212, 3, [.inr 1900, .inl (.negSucc 2147483647, .ofNat 2147483647), .inl (.negSucc 2147483647, .ofNat 2147483647)], [], [(28, [])], [(11, 0), (1063, 0)], [(some (.inl (.ofNat 0, .ofNat 1)), [], [], [(28, [])], [])])
def kX11_lay_t : List (Nat × TP) := []
set_option maxRecDepth 100000 in
theorem kX11_lay_ok : cnOK sT sG FL0 kX11_lay := ccM_V (Δ := [kX11_isDoorAt, kX11_isWalkerAt]) (n := 362) (N := 0) (cuts := kX11_lay_t) sU_ok dp0_ok ct0_ok (cons_ok kX11_isDoorAt_ok (cons_ok kX11_isWalkerAt_ok nil_ok)) (by decide +kernel)
def kX11_walker : CN := (215, 1, [.inr 1900, .inl (.negSucc 2147483647, .ofNat 2147483647), .inl (.negSucc 2147483647, .ofNat 2147483647)], [], [], [(11, 0)], [(some (.inl (.negSucc 2147483647, .ofNat 2147483647)), [], [], [], [])])
def kX11_walker_t : List (Nat × TP) := []
set_option maxRecDepth 100000 in
theorem kX11_walker_ok : cnOK sT sG FL0 kX11_walker := ccM_V (Δ := []) (n := 76) (N := 0) (cuts := kX11_walker_t) sU_ok dp0_ok ct0_ok (nil_ok) (by decide +kernel)
def kX11_cell : CN := (214, 3, [.inr 1900, .inl (.negSucc 2147483647, .ofNat 2147483647), .inl (.negSucc 2147483647, .ofNat 2147483647)], [], [], [(11, 0)], [(some (.inl (.negSucc 2147483647, .ofNat 2147483647)), [], [], [], [])])
def kX11_cell_t : List (Nat × TP) := []
set_option maxRecDepth 100000 in
theorem kX11_cell_ok : cnOK sT sG FL0 kX11_cell := ccM_V (Δ := []) (n := 257) (N := 0) (cuts := kX11_cell_t) sU_ok dp0_ok ct0_ok (nil_ok) (by decide +kernel)
def kX11_fault : CN := (185, 0, [.inr 1900], [], [], [(11, 0)], [(some (.inl (.negSucc 2147483647, .ofNat 2147483647)), [], [], [], [])])
def kX11_fault_t : List (Nat × TP) := []
set_option maxRecDepth 100000 in
theorem kX11_fault_ok : cnOK sT sG FL0 kX11_fault := ccM_V (Δ := []) (n := 14) (N := 0) (cuts := kX11_fault_t) sU_ok dp0_ok ct0_ok (nil_ok) (by decide +kernel)
def kX11_note : CN := (220, 2, [.inr 1900, .inr 237], [], [], [(1079, 0)], [(none, [], [], [], [])])
def kX11_note_t : List (Nat × TP) := [(2, ([.inr (.inl (.inl 633)), .inr (.inl (.inl 651)), .inl ([(0, .ofNat 1)], .ofNat 0)], [], [], [(.ofNat 0, .ofNat 256)], [], [], [([], .ofNat 1), ([(0, .negSucc 0)], .ofNat 257)], [.inr (.inr 0), .inr (.inr 0)], []))]
set_option maxRecDepth 100000 in
theorem kX11_note_ok : cnOK sT sG FL0 kX11_note := ccM_V (Δ := []) (n := 57) (N := 2) (cuts := kX11_note_t) sU_ok dp0_ok ct0_ok (nil_ok) (by decide +kernel)
def kX11_isNoted : CN := (221, 2, [.inr 1900, .inr 237], [], [], [], [(some (.inl (.ofNat 0, .ofNat 1)), [], [], [], [])])
def kX11_isNoted_t : List (Nat × TP) := [(2, ([.inr (.inl (.inl 633)), .inr (.inl (.inl 651)), .inl ([(0, .ofNat 1)], .ofNat 0)], [], [], [(.ofNat 0, .ofNat 256)], [], [], [([], .ofNat 1), ([(0, .negSucc 0)], .ofNat 257)], [.inr (.inr 0), .inr (.inr 0)], []))]
set_option maxRecDepth 100000 in
theorem kX11_isNoted_ok : cnOK sT sG FL0 kX11_isNoted := ccM_V (Δ := []) (n := 63) (N := 2) (cuts := kX11_isNoted_t) sU_ok dp0_ok ct0_ok (nil_ok) (by decide +kernel)
def kX11_net : CN := (217, 3, [.inr 1900], [], [], [(11, 0)], [(some (.inl (.ofNat 0, .ofNat 256)), [], [], [], [])])
def kX11_net_t : List (Nat × TP) := []
set_option maxRecDepth 100000 in
theorem kX11_net_ok : cnOK sT sG FL0 kX11_net := ccM_V (Δ := [kX11_wornMany]) (n := 14) (N := 0) (cuts := kX11_net_t) sU_ok dp0_ok ct0_ok (cons_ok kX11_wornMany_ok nil_ok) (by decide +kernel)
def kX11_isSnow : CN := (243, 1, [.inr 1900, .inl (.ofNat 1, .ofNat 5)], [], [], [], [(some (.inl (.ofNat 0, .ofNat 1)), [], [], [], [])])
def kX11_isSnow_t : List (Nat × TP) := [(2, ([.inr (.inl (.inl 633)), .inl ([(0, .ofNat 1)], .ofNat 0), .inl ([(1, .ofNat 1)], .ofNat 0), .inr (.inr 0), .inr (.inr 0)], [], [], [(.ofNat 1, .ofNat 5), (.ofNat 0, .ofNat 256)], [], [], [([], .ofNat 1), ([(1, .negSucc 0)], .ofNat 257), ([], .ofNat 99), ([], .ofNat 0)], [.inr (.inr 0), .inr (.inr 0)], [])), (21, ([.inr (.inl (.inl 633)), .inl ([(0, .ofNat 1)], .ofNat 0), .inl ([(1, .ofNat 1)], .ofNat 0), .inl ([(2, .ofNat 1)], .ofNat 0), .inl ([(3, .ofNat 1)], .ofNat 0)], [], [], [(.ofNat 1, .ofNat 5), (.ofNat 0, .ofNat 255), (.negSucc 2147483647, .ofNat 2147483647), (.ofNat 0, .ofNat 5)], [], [], [([], .ofNat 1), ([(1, .negSucc 0)], .ofNat 257), ([], .ofNat 1), ([(3, .negSucc 0)], .ofNat 6)], [.inr (.inr 0), .inr (.inr 0)], []))]
set_option maxRecDepth 100000 in
theorem kX11_isSnow_ok : cnOK sT sG FL0 kX11_isSnow := ccM_V (Δ := []) (n := 42) (N := 4) (cuts := kX11_isSnow_t) sU_ok dp0_ok ct0_ok (nil_ok) (by decide +kernel)
def kX11_reads : CN := (244, 1, [.inr 1900, .inl (.negSucc 2147483647, .ofNat 2147483647), .inl (.negSucc 2147483647, .ofNat 2147483647)], [], [], [(11, 0)], [(some (.inl (.negSucc 2147483647, .ofNat 2147483647)), [], [], [], [])])
def kX11_reads_t : List (Nat × TP) := []
set_option maxRecDepth 100000 in
theorem kX11_reads_ok : cnOK sT sG FL0 kX11_reads := ccM_V (Δ := []) (n := 79) (N := 0) (cuts := kX11_reads_t) sU_ok dp0_ok ct0_ok (nil_ok) (by decide +kernel)
def kX11_wayAt : CN := (241, 1, [.inr 1900, .inl (.negSucc 2147483647, .ofNat 2147483647)], [], [], [(11, 0)], [(some (.inl (.negSucc 0, .ofNat 255)), [], [], [], [])])
def kX11_wayAt_t : List (Nat × TP) := []
set_option maxRecDepth 100000 in
theorem kX11_wayAt_ok : cnOK sT sG FL0 kX11_wayAt := ccM_V (Δ := []) (n := 44) (N := 0) (cuts := kX11_wayAt_t) sU_ok dp0_ok ct0_ok (nil_ok) (by decide +kernel)
def kX11_fenceAt : CN := (236, 1, [.inr 1900, .inl (.negSucc 2147483647, .ofNat 2147483647)], [], [], [(11, 0)], [(some (.inl (.negSucc 2147483647, .ofNat 2147483647)), [], [], [], [])])
def kX11_fenceAt_t : List (Nat × TP) := []
set_option maxRecDepth 100000 in
theorem kX11_fenceAt_ok : cnOK sT sG FL0 kX11_fenceAt := ccM_V (Δ := []) (n := 44) (N := 0) (cuts := kX11_fenceAt_t) sU_ok dp0_ok ct0_ok (nil_ok) (by decide +kernel)
def kX11_count : CN := (248, 0, [.inr 1900, .inl (.negSucc 2147483647, .ofNat 2147483647)], [], [], [(11, 0)], [(some (.inl (.negSucc 2147483647, .ofNat 2147483647)), [], [], [], [])])
def kX11_count_t : List (Nat × TP) := [(9, ([.inr (.inl (.inl 633)), .inl ([(0, .ofNat 1)], .ofNat 0), .inl ([(1, .ofNat 1)], .ofNat 0), .inl ([(2, .ofNat 1)], .ofNat 0)], [], [], [(.negSucc 2147483647, .ofNat 2147483647), (.ofNat 0, .ofNat 24), (.ofNat 0, .ofNat 24)], [], [([(2, .ofNat 1), (1, .negSucc 0)], .ofNat 0)], [([], .ofNat 1), ([(2, .negSucc 0)], .ofNat 25)], [.inr (.inr 0), .inr (.inr 0)], []))]
set_option maxRecDepth 100000 in
theorem kX11_count_ok : cnOK sT sG FL0 kX11_count := ccM_V (Δ := []) (n := 80) (N := 2) (cuts := kX11_count_t) sU_ok dp0_ok ct0_ok (nil_ok) (by decide +kernel)
def kX11_open : CN := (177, 0, [.inr 1900], [], [], [], [(some (.inl (.ofNat 0, .ofNat 100)), [], [], [], [])])
def kX11_open_t : List (Nat × TP) := [(4, ([.inr (.inl (.inl 633)), .inl ([(0, .ofNat 1)], .ofNat 0), .inl ([(1, .ofNat 1)], .ofNat 0)], [], [], [(.ofNat 0, .ofNat 100), (.ofNat 0, .ofNat 100)], [], [([(1, .ofNat 1), (0, .negSucc 0)], .ofNat 0)], [([], .ofNat 1), ([(1, .negSucc 0)], .ofNat 101)], [.inr (.inr 0)], []))]
set_option maxRecDepth 100000 in
theorem kX11_open_ok : cnOK sT sG FL0 kX11_open := ccM_V (Δ := []) (n := 44) (N := 2) (cuts := kX11_open_t) sU_ok dp0_ok ct0_ok (nil_ok) (by decide +kernel)
def kX11_isOpen : CN := (178, 0, [.inr 1900], [], [], [], [(some (.inl (.ofNat 0, .ofNat 1)), [], [], [], [])])
def kX11_isOpen_t : List (Nat × TP) := [(2, ([.inr (.inl (.inl 633)), .inl ([(0, .ofNat 1)], .ofNat 0)], [], [], [(.ofNat 0, .ofNat 100)], [], [], [([], .ofNat 1), ([(0, .negSucc 0)], .ofNat 101)], [.inr (.inr 0)], []))]
set_option maxRecDepth 100000 in
theorem kX11_isOpen_ok : cnOK sT sG FL0 kX11_isOpen := ccM_V (Δ := []) (n := 24) (N := 2) (cuts := kX11_isOpen_t) sU_ok dp0_ok ct0_ok (nil_ok) (by decide +kernel)
def kX11_bad : CN := (163, 0, [.inr 1900, .inl (.negSucc 2147483647, .ofNat 2147483647)], [], [], [(11, 26), (11, 27)], [(some (.inl (.ofNat 0, .ofNat 0)), [], [], [], [])])
def kX11_bad_t : List (Nat × TP) := []
set_option maxRecDepth 100000 in
theorem kX11_bad_ok : cnOK sT sG FL0 kX11_bad := ccM_V (Δ := []) (n := 17) (N := 0) (cuts := kX11_bad_t) sU_ok dp0_ok ct0_ok (nil_ok) (by decide +kernel)
def kX11_sign : CN := (166, 2, [.inr 1900, .inl (.negSucc 2147483647, .ofNat 2147483647)], [], [], [(11, 4), (11, 22), (11, 23), (11, 24), (11, 25), (11, 26), (11, 27), (11, 31)], [(some (.inl (.ofNat 0, .ofNat 1)), [], [], [], [])])
def kX11_sign_t : List (Nat × TP) := []
set_option maxRecDepth 100000 in
theorem kX11_sign_ok : cnOK sT sG FL0 kX11_sign := ccM_V (Δ := [kX11_bad, kX11_next]) (n := 41) (N := 0) (cuts := kX11_sign_t) sU_ok dp0_ok ct0_ok (cons_ok kX11_bad_ok (cons_ok kX11_next_ok nil_ok)) (by decide +kernel)
def kX11_takes : CN := (167, 2, [.inr 1900, .inl (.negSucc 2147483647, .ofNat 2147483647), .inl (.negSucc 2147483647, .ofNat 2147483647)], [], [], [(11, 4), (11, 22), (11, 23), (11, 24), (11, 25), (11, 26), (11, 27), (11, 31), (11, 32)], [(some (.inl (.ofNat 0, .ofNat 1)), [], [], [], [])])
def kX11_takes_t : List (Nat × TP) := []
set_option maxRecDepth 100000 in
theorem kX11_takes_ok : cnOK sT sG FL0 kX11_takes := ccM_V (Δ := [kX11_bad, kX11_next]) (n := 53) (N := 0) (cuts := kX11_takes_t) sU_ok dp0_ok ct0_ok (cons_ok kX11_bad_ok (cons_ok kX11_next_ok nil_ok)) (by decide +kernel)
def kX11_lineOf : CN := (168, 0, [.inr 1900, .inl (.negSucc 2147483647, .ofNat 2147483647)], [], [], [], [(some (.inl (.negSucc 0, .ofNat 7)), [], [], [], [])])
def kX11_lineOf_t : List (Nat × TP) := []
set_option maxRecDepth 100000 in
theorem kX11_lineOf_ok : cnOK sT sG FL0 kX11_lineOf := ccM_V (Δ := []) (n := 84) (N := 0) (cuts := kX11_lineOf_t) sU_ok dp0_ok ct0_ok (nil_ok) (by decide +kernel)
def kX11_measure : CN := (171, 0, [.inr 1900], [], [], [], [(some (.inl (.negSucc 0, .ofNat 6)), [], [], [], [])])
def kX11_measure_t : List (Nat × TP) := []
set_option maxRecDepth 100000 in
theorem kX11_measure_ok : cnOK sT sG FL0 kX11_measure := ccM_V (Δ := []) (n := 72) (N := 0) (cuts := kX11_measure_t) sU_ok dp0_ok ct0_ok (nil_ok) (by decide +kernel)
def kX11_atom : CN := (173, 0, [.inr 1900], [], [], [], [(some (.inl (.negSucc 0, .ofNat 11)), [], [], [], [])])
def kX11_atom_t : List (Nat × TP) := []
set_option maxRecDepth 100000 in
theorem kX11_atom_ok : cnOK sT sG FL0 kX11_atom := ccM_V (Δ := []) (n := 104) (N := 0) (cuts := kX11_atom_t) sU_ok dp0_ok ct0_ok (nil_ok) (by decide +kernel)
def kX11_told : CN := (182, 1, [.inr 1900, .inl (.negSucc 2147483647, .ofNat 2147483647), .inl (.negSucc 2147483647, .ofNat 2147483647)], [], [], [], [(some (.inl (.negSucc 2147483647, .ofNat 2147483647)), [], [], [], [])])
def kX11_told_t : List (Nat × TP) := []
set_option maxRecDepth 100000 in
theorem kX11_told_ok : cnOK sT sG FL0 kX11_told := ccM_V (Δ := [kX11_find]) (n := 23) (N := 0) (cuts := kX11_told_t) sU_ok dp0_ok ct0_ok (cons_ok kX11_find_ok nil_ok) (by decide +kernel)
def kX11_of : CN := (146, 0, [.inr 1900, .inl (.ofNat 0, .ofNat 255), .inl (.ofNat 0, .ofNat 6)], [], [], [], [(some (.inl (.negSucc 2147483647, .ofNat 2147483647)), [], [], [], [])])
def kX11_of_t : List (Nat × TP) := []
set_option maxRecDepth 100000 in
theorem kX11_of_ok : cnOK sT sG FL0 kX11_of := ccM_V (Δ := []) (n := 19) (N := 0) (cuts := kX11_of_t) sU_ok dp0_ok ct0_ok (nil_ok) (by decide +kernel)
def kX11_is : CN := (186, 3, [.inr 1900, .inl (.ofNat 0, .ofNat 255), .inl (.negSucc 2147483647, .ofNat 2147483647)], [], [], [], [(some (.inl (.ofNat 0, .ofNat 1)), [], [], [], [])])
def kX11_is_t : List (Nat × TP) := []
set_option maxRecDepth 100000 in
theorem kX11_is_ok : cnOK sT sG FL0 kX11_is := ccM_V (Δ := [kX11_of]) (n := 146) (N := 0) (cuts := kX11_is_t) sU_ok dp0_ok ct0_ok (cons_ok kX11_of_ok nil_ok) (by decide +kernel)
def kX11_sees : CN := (199, 3, [.inr 1900, .inl (.ofNat 0, .ofNat 255), .inl (.negSucc 2147483647, .ofNat 2147483647)], [], [], [], [(some (.inl (.negSucc 2147483647, .ofNat 2147483647)), [], [], [], [])])
def kX11_sees_t : List (Nat × TP) := [(33, ([.inr (.inl (.inl 633)), .inr (.inr 0), .inl ([(0, .ofNat 1)], .ofNat 0), .inr (.inr 0), .inl ([(1, .ofNat 1)], .ofNat 0), .inl ([(2, .ofNat 1)], .ofNat 0), .inl ([(3, .ofNat 1)], .ofNat 0)], [(.inl 633, 11, 36, .inl ([(4, .ofNat 1)], .ofNat 0))], [], [(.negSucc 2147483647, .ofNat 2147483647), (.negSucc 2147483647, .ofNat 2147483647), (.negSucc 2147483647, .ofNat 2147483647), (.negSucc 0, .ofNat 255), (.ofNat 0, .ofNat 6)], [], [], [([], .ofNat 1), ([(1, .ofNat 1)], .ofNat 2147483648)], [.inr (.inr 0), .inr (.inr 0), .inr (.inr 0)], []))]
set_option maxRecDepth 100000 in
theorem kX11_sees_ok : cnOK sT sG FL0 kX11_sees := ccM_V (Δ := [kX11_find, kX11_beside, kX11_of]) (n := 90) (N := 2) (cuts := kX11_sees_t) sU_ok dp0_ok ct0_ok (cons_ok kX11_find_ok (cons_ok kX11_beside_ok (cons_ok kX11_of_ok nil_ok))) (by decide +kernel)
def kX11_note__1 : CN := (220, 2, [.inr 1900, .inr 243], [], [], [(1081, 0)], [(none, [], [], [], [])])
def kX11_note__1_t : List (Nat × TP) := [(2, ([.inr (.inl (.inl 633)), .inr (.inl (.inl 653)), .inl ([(0, .ofNat 1)], .ofNat 0)], [], [], [(.ofNat 0, .ofNat 256)], [], [], [([], .ofNat 1), ([(0, .negSucc 0)], .ofNat 257)], [.inr (.inr 0), .inr (.inr 0)], []))]
set_option maxRecDepth 100000 in
theorem kX11_note__1_ok : cnOK sT sG FL0 kX11_note__1 := ccM_V (Δ := [kX11_of]) (n := 46) (N := 2) (cuts := kX11_note__1_t) sU_ok dp0_ok ct0_ok (cons_ok kX11_of_ok nil_ok) (by decide +kernel)
def kX11_note__2 : CN := (220, 2, [.inr 1900, .inr 240], [], [], [(1080, 0)], [(none, [], [], [], [])])
def kX11_note__2_t : List (Nat × TP) := [(2, ([.inr (.inl (.inl 633)), .inr (.inl (.inl 652)), .inl ([(0, .ofNat 1)], .ofNat 0)], [], [], [(.ofNat 0, .ofNat 256)], [], [], [([], .ofNat 1), ([(0, .negSucc 0)], .ofNat 257)], [.inr (.inr 0), .inr (.inr 0)], []))]
set_option maxRecDepth 100000 in
theorem kX11_note__2_ok : cnOK sT sG FL0 kX11_note__2 := ccM_V (Δ := [kX11_of]) (n := 46) (N := 2) (cuts := kX11_note__2_t) sU_ok dp0_ok ct0_ok (cons_ok kX11_of_ok nil_ok) (by decide +kernel)
/-! BY HAND: the reference's holds(x, c), for a line that is well formed -/
noncomputable def mfB (k g : Nat) : Bool := match gNth sG 61 with
  | some (.inl (11, fs)) => (match gNth fs k with
    | some (.inr n) => Nat.beq n (2 * g + 1)
    | _ => false)
  | _ => false
theorem TM.mfld {M : Mem} (hT : TM sT sG M) : ∃ vs, gNth M 633 = some (.inr (11, vs)) ∧ ∀ k g a, mfB k g = true → gNth sU g = some (some a) → gNth vs k = some (.ref a) := by
  have h1 := sG_61
  cases e1 : gNth sG 61 with
  | none => rw [e1] at h1; exact absurd h1 (by decide)
  | some t => ?_
  rw [e1] at h1
  obtain ⟨a1, b1, c1⟩ := hT.at sT_633 e1
  have q1 : ∃ fs, t = .inl (11, fs) := by
    revert h1
    split
    · intro _
      exact ⟨_, (Option.some.inj ‹_›)⟩
    · intro h; cases h
  obtain ⟨fs, rfl⟩ := q1
  obtain ⟨vs, rfl, v1, v2⟩ := c1
  refine ⟨vs, b1, fun k g a hk hu => ?_⟩
  unfold mfB at hk
  rw [e1] at hk
  have hk : (match gNth fs k with
    | some (.inr n) => Nat.beq n (2 * g + 1)
    | _ => false) = true := hk
  cases e3 : gNth fs k with
  | none => rw [e3] at hk; cases hk
  | some ft => ?_
  rw [e3] at hk
  obtain ⟨v, v3, v4⟩ := v2 k _ e3
  rcases ft with p | n
  · cases hk
  · cases Nat.eq_of_beq_eq_true hk
    rcases v4 with ⟨b, rfl, hb⟩ | ⟨hk, _⟩
    · have hb : gNth sT b = some (2 * g / 2) := hb
      rw [Nat.mul_div_cancel_left _ (by decide : 0 < 2)] at hb
      rw [v3, sU_ok _ _ _ hb hu]
    · have hk : 2 * g % 2 = 1 := hk
      omega
noncomputable def rwB (g kd n : Nat) (lo hi : Int) : Bool := match gNth sG g with
  | some (.inr (q, m, .inl sg)) => Nat.beq q kd && (Nat.beq m n && (!Nat.beq q 2 && sgIn sg (fun p => decide (lo ≤ p.1) && decide (p.2 ≤ hi))))
  | _ => false
theorem TM.mrow {M : Mem} (hT : TM sT sG M) {a g kd n : Nat} {lo hi : Int} (ha : gNth sT a = some g) (h : rwB g kd n lo hi = true) : ∃ l : List Int32, gNth M a = some (.inl (kd, .inl l)) ∧ l.length = n ∧ ∀ j x, gNth l j = some x → lo ≤ x.toInt ∧ x.toInt ≤ hi := by
  unfold rwB at h
  split at h
  · rename_i q m sg e
    obtain ⟨h1, h⟩ := and_t h
    obtain ⟨h2, h⟩ := and_t h
    obtain ⟨h3, h4⟩ := and_t h
    cases Nat.eq_of_beq_eq_true h1
    cases Nat.eq_of_beq_eq_true h2
    have h5 : kd ≠ 2 := by
      rintro rfl
      cases h3
    obtain ⟨e1, e2, e3⟩ := hT.at ha e
    obtain ⟨l, rfl, l1, l2⟩ := ct_int h5 e3
    refine ⟨l, e2, l1, fun j x hx => ?_⟩
    obtain ⟨p, p1, p2, p3⟩ := l2 j x hx
    have h6 := sg_at h4 p1
    obtain ⟨h7, h8⟩ := and_t h6
    have h7 := of_decide_eq_true h7
    have h8 := of_decide_eq_true h8
    constructor <;> omega
  · cases h
theorem TM.putrow {M : Mem} (hT : TM sT sG M) {a g kd n : Nat} {lo hi : Int} {l : List Int32} (ha : gNth sT a = some g) (h : (match gNth sG g with
    | some (.inr (q, m, .inl [(0, m2, 1, [(x, y)])])) => Nat.beq q kd && (Nat.beq m n && (!Nat.beq q 2 && (Nat.beq m2 n && (decide (x ≤ lo) && decide (hi ≤ y)))))
    | _ => false) = true) (hl : l.length = n) (hx : ∀ j x, gNth l j = some x → lo ≤ x.toInt ∧ x.toInt ≤ hi) : TM sT sG (gPut M a (.inl (kd, .inl l))) := by
  refine hT.put (fun g2 t w1 w2 => ?_)
  rw [ha] at w1
  cases w1
  rw [w2] at h
  split at h
  · rename_i q m m2 x y e
    cases e
    obtain ⟨h1, h⟩ := and_t h
    obtain ⟨h2, h⟩ := and_t h
    obtain ⟨h3, h⟩ := and_t h
    obtain ⟨h4, h⟩ := and_t h
    obtain ⟨h5, h6⟩ := and_t h
    cases Nat.eq_of_beq_eq_true h1
    cases Nat.eq_of_beq_eq_true h2
    cases Nat.eq_of_beq_eq_true h4
    have h5 := of_decide_eq_true h5
    have h6 := of_decide_eq_true h6
    have h7 : kd ≠ 2 := by
      rintro rfl
      cases h3
    refine ct_mk h7 hl (fun j x2 hj => ?_)
    have hj2 := gNth_lt _ _ _ hj
    rw [hl] at hj2
    obtain ⟨u1, u2⟩ := hx j x2 hj
    refine ⟨(x, y), ?_, by show x ≤ _; omega, by show _ ≤ y; omega⟩
    show cond (Nat.ble 0 j && Nat.blt j n) (gNth [(x, y)] ((j - 0) % 1)) none = some (x, y)
    rw [Nat.ble_eq_true_of_le (Nat.zero_le j), show Nat.blt j n = true from Nat.ble_eq_true_of_le (show j.succ ≤ n from hj2), Nat.mod_one]
    rfl
  · cases h
section HOL
variable {M : Mem} {vs : List Value} {l : List Int32}
theorem gf_30 {st : List Value} {ini : Bool} (hM : gNth M 633 = some (.inr (11, vs))) (hv : gNth vs 5 = some (.ref 635)) : gGet (.getfield 30) none 11 ini (.ref 633 :: st) M = some (.ref 635 :: st, M) := by
  show (match gOwn fRs 11 30, gNth M 633 with
    | some (ci, k, _), some (.inr (c, fs)) => match Nat.beq c ci, gNth fs k with
      | true, some v => some (v :: st, M)
      | _, _ => none
    | _, _ => none) = _
  rw [hM]
  show (match Nat.beq 11 11, gNth vs 5 with
    | true, some v => some (v :: st, M)
    | _, _ => none) = _
  rw [hv]
theorem gf_56 {st : List Value} {ini : Bool} (hM : gNth M 633 = some (.inr (11, vs))) (hv : gNth vs 13 = some (.ref 643)) : gGet (.getfield 56) none 11 ini (.ref 633 :: st) M = some (.ref 643 :: st, M) := by
  show (match gOwn fRs 11 56, gNth M 633 with
    | some (ci, k, _), some (.inr (c, fs)) => match Nat.beq c ci, gNth fs k with
      | true, some v => some (v :: st, M)
      | _, _ => none
    | _, _ => none) = _
  rw [hM]
  show (match Nat.beq 11 11, gNth vs 13 with
    | true, some v => some (v :: st, M)
    | _, _ => none) = _
  rw [hv]
theorem gf_59 {st : List Value} {ini : Bool} (hM : gNth M 633 = some (.inr (11, vs))) (hv : gNth vs 14 = some (.ref 644)) : gGet (.getfield 59) none 11 ini (.ref 633 :: st) M = some (.ref 644 :: st, M) := by
  show (match gOwn fRs 11 59, gNth M 633 with
    | some (ci, k, _), some (.inr (c, fs)) => match Nat.beq c ci, gNth fs k with
      | true, some v => some (v :: st, M)
      | _, _ => none
    | _, _ => none) = _
  rw [hM]
  show (match Nat.beq 11 11, gNth vs 14 with
    | true, some v => some (v :: st, M)
    | _, _ => none) = _
  rw [hv]
theorem gf_62 {st : List Value} {ini : Bool} (hM : gNth M 633 = some (.inr (11, vs))) (hv : gNth vs 15 = some (.ref 645)) : gGet (.getfield 62) none 11 ini (.ref 633 :: st) M = some (.ref 645 :: st, M) := by
  show (match gOwn fRs 11 62, gNth M 633 with
    | some (ci, k, _), some (.inr (c, fs)) => match Nat.beq c ci, gNth fs k with
      | true, some v => some (v :: st, M)
      | _, _ => none
    | _, _ => none) = _
  rw [hM]
  show (match Nat.beq 11 11, gNth vs 15 with
    | true, some v => some (v :: st, M)
    | _, _ => none) = _
  rw [hv]
theorem gf_65 {st : List Value} {ini : Bool} (hM : gNth M 633 = some (.inr (11, vs))) (hv : gNth vs 16 = some (.ref 646)) : gGet (.getfield 65) none 11 ini (.ref 633 :: st) M = some (.ref 646 :: st, M) := by
  show (match gOwn fRs 11 65, gNth M 633 with
    | some (ci, k, _), some (.inr (c, fs)) => match Nat.beq c ci, gNth fs k with
      | true, some v => some (v :: st, M)
      | _, _ => none
    | _, _ => none) = _
  rw [hM]
  show (match Nat.beq 11 11, gNth vs 16 with
    | true, some v => some (v :: st, M)
    | _, _ => none) = _
  rw [hv]
theorem gf_68 {st : List Value} {ini : Bool} (hM : gNth M 633 = some (.inr (11, vs))) (hv : gNth vs 17 = some (.ref 647)) : gGet (.getfield 68) none 11 ini (.ref 633 :: st) M = some (.ref 647 :: st, M) := by
  show (match gOwn fRs 11 68, gNth M 633 with
    | some (ci, k, _), some (.inr (c, fs)) => match Nat.beq c ci, gNth fs k with
      | true, some v => some (v :: st, M)
      | _, _ => none
    | _, _ => none) = _
  rw [hM]
  show (match Nat.beq 11 11, gNth vs 17 with
    | true, some v => some (v :: st, M)
    | _, _ => none) = _
  rw [hv]
theorem gf_83 {st : List Value} {ini : Bool} (hM : gNth M 633 = some (.inr (11, vs))) (hv : gNth vs 33 = some (.ref 649)) : gGet (.getfield 83) none 11 ini (.ref 633 :: st) M = some (.ref 649 :: st, M) := by
  show (match gOwn fRs 11 83, gNth M 633 with
    | some (ci, k, _), some (.inr (c, fs)) => match Nat.beq c ci, gNth fs k with
      | true, some v => some (v :: st, M)
      | _, _ => none
    | _, _ => none) = _
  rw [hM]
  show (match Nat.beq 11 11, gNth vs 33 with
    | true, some v => some (v :: st, M)
    | _, _ => none) = _
  rw [hv]
theorem ia_g {a : Nat} {st : List Value} {ini : Bool} {j x : Int32} (hs : gNth M a = some (.inl (1, .inl l))) (h0 : gAt l j = some x) : gGet .iaload none 11 ini (.int j :: .ref a :: st) M = some (.int x :: st, M) := by
  show (match gNth M a with
    | some (.inl (1, .inl l)) => match gAt l j with
      | some x => some (Value.int x :: st, M)
      | none => none
    | _ => none) = _
  rw [hs]
  show (match gAt l j with
      | some x => some (Value.int x :: st, M)
      | none => none) = _
  rw [h0]
theorem ba_g {a : Nat} {st : List Value} {ini : Bool} {j x : Int32} (hs : gNth M a = some (.inl (3, .inl l))) (h0 : gAt l j = some x) : gGet .baload none 11 ini (.int j :: .ref a :: st) M = some (.int x :: st, M) := by
  show (match gNth M a with
    | some (.inl (0, .inl l)) => match gAt l j with
      | some x => some (Value.int x :: st, M)
      | none => none
    | some (.inl (3, .inl l)) => match gAt l j with
      | some x => some (Value.int x :: st, M)
      | none => none
    | _ => none) = _
  rw [hs]
  show (match gAt l j with
      | some x => some (Value.int x :: st, M)
      | none => none) = _
  rw [h0]
theorem bs_g {a : Nat} {st : List Value} {ini : Bool} {j x z : Int32} (hs : gNth M a = some (.inl (3, .inl l))) (h0 : gAt l j = some x) : gGet .bastore none 11 ini (.int z :: .int j :: .ref a :: st) M = some (st, gPut M a (.inl (3, .inl (gPut l j.toNatClampNeg (vp_nar .boolean z))))) := by
  show (match gNth M a with
    | some (.inl (0, .inl l)) => match gAt l j with
      | some _ => some (st, gPut M a (.inl (0, .inl (gPut l j.toNatClampNeg (vp_nar .byte z)))))
      | none => none
    | some (.inl (3, .inl l)) => match gAt l j with
      | some _ => some (st, gPut M a (.inl (3, .inl (gPut l j.toNatClampNeg (vp_nar .boolean z)))))
      | none => none
    | _ => none) = _
  rw [hs]
  show (match gAt l j with
      | some _ => some (st, gPut M a (.inl (3, .inl (gPut l j.toNatClampNeg (vp_nar .boolean z)))))
      | none => none) = _
  rw [h0]
theorem recv_ok (hM : gNth M 633 = some (.inr (11, vs))) : gRecv M (.ref 633) 11 = true := by
  show (match gNth M 633 with
    | some (.inr (c, _)) => Nat.beq c 11
    | _ => false) = true
  rw [hM]
  rfl
theorem cal_of (hM : gNth M 633 = some (.inr (11, vs))) {kk c : Int32} {rest : List Value} (hr : gRoom rest = true) : gCal (.invokevirtual 136) 11 (.int kk :: .int c :: .ref 633 :: rest) M = some (.inr (146, [some (.ref 633), some (.int c), some (.int kk)], rest)) := by
  show @cond (Option ((List Value × Mem) ⊕ (Nat × Lo × List Value))) (true && gRecv M (.ref 633) 11 && gRoom rest && true) (some (.inr (146, [some (.ref 633), some (.int c), some (.int kk)], rest))) none = _
  rw [recv_ok hM, hr]
  rfl
theorem cal_is (hM : gNth M 633 = some (.inr (11, vs))) {kk c : Int32} {rest : List Value} (hr : gRoom rest = true) : gCal (.invokevirtual 334) 11 (.int kk :: .int c :: .ref 633 :: rest) M = some (.inr (186, [some (.ref 633), some (.int c), some (.int kk)], rest)) := by
  show @cond (Option ((List Value × Mem) ⊕ (Nat × Lo × List Value))) (true && gRecv M (.ref 633) 11 && gRoom rest && true) (some (.inr (186, [some (.ref 633), some (.int c), some (.int kk)], rest))) none = _
  rw [recv_ok hM, hr]
  rfl
theorem gs_7 {d me pc n : Nat} {ls ls0 : Lo} {st rest : List Value} {o : Nat} {y : MethodName} {cc : ByteArray} {mx : Nat} {ret : Option FieldType} {np kf id : Nat} {tab : List (Nat × Nat × Instr)} {i : Instr} (hrow : gNth mRs me = some (o, y, cc, mx, ret, np, kf, tab)) (hl : gLook tab pc = some (7, i)) (h : gCal i o st M = some (.inr (id, ls0, rest))) : go none (n + 1) (d + 1) me pc ls st M = gThen (go none n d id 0 ls0 [] M) (fun v M' c s => gAdd c s (go none n (d + 1) me (pc + 3) ls (v.toList ++ rest) M')) := by
  rw [go_succ]
  unfold gStep
  rw [hrow]
  dsimp only
  rw [hl]
  dsimp only
  rw [h]
  rfl
end HOL
/-! BY HAND: the loop of the reference's holds -/
section HOL2
variable {M : Mem} {vs : List Value} {x c t n k w : Int32} {a b : Option Value} {e : Nat} {v : Option Value} {M' : Mem} {tr ls sg nm lt : List Int32}
theorem hol_39 {tt : Int32} (hM : gNth M 633 = some (.inr (11, vs))) (h14 : gNth vs 14 = some (.ref 644)) (hto : gNth M 644 = some (.inl (1, .inl lt))) (htt : gAt lt x = some tt) (hz : Ev none (e + 4) 187 (if 200 * t + tt ≤ k then 360 else 56) [some (.ref 633), some (.int x), some (.int c), some (.int t), some (.int n), some (.int k), a, b] [] M v M' 0 0) : Ev none (e + 4) 187 39 [some (.ref 633), some (.int x), some (.int c), some (.int t), some (.int n), some (.int k), a, b] [] M v M' 0 0 := by
  refine Ev.step (pc' := 47) (ls' := [some (.ref 633), some (.int x), some (.int c), some (.int t), some (.int n), some (.int k), a, b]) (st' := [.ref 633, .int (200 * t), .int k]) (M1 := M) 5 (fun n => rfl) ?_
  refine Ev.step 1 (gs_3 rfl rfl (gf_59 hM h14)) ?_
  refine Ev.step (pc' := 51) (ls' := [some (.ref 633), some (.int x), some (.int c), some (.int t), some (.int n), some (.int k), a, b]) (st' := [.int x, .ref 644, .int (200 * t), .int k]) (M1 := M) 1 (fun n => rfl) ?_
  refine Ev.step 1 (gs_3 rfl rfl (ia_g hto htt)) ?_
  exact Ev.step (pc' := if 200 * t + tt ≤ k then 360 else 56) (ls' := [some (.ref 633), some (.int x), some (.int c), some (.int t), some (.int n), some (.int k), a, b]) (st' := []) (M1 := M) 2 (fun n => rfl) hz
theorem hol_354  (hz : Ev none (e + 4) 187 39 [some (.ref 633), some (.int x), some (.int c), some (.int t), some (.int n), some (.int (k + 1)), a, b] [] M v M' 0 0) : Ev none (e + 4) 187 354 [some (.ref 633), some (.int x), some (.int c), some (.int t), some (.int n), some (.int k), a, b] [] M v M' 0 0 := by
  exact Ev.step (pc' := 39) (ls' := [some (.ref 633), some (.int x), some (.int c), some (.int t), some (.int n), some (.int (k + 1)), a, b]) (st' := []) (M1 := M) 2 (fun n => rfl) hz
theorem hol_56 (hM : gNth M 633 = some (.inr (11, vs))) (h15 : gNth vs 15 = some (.ref 645)) (hst : gNth M 645 = some (.inl (1, .inl ls))) (hw : gAt ls k = some w) (hz : Ev none (e + 4) 187 (if w = 20 then 72 else 101) [some (.ref 633), some (.int x), some (.int c), some (.int t), some (.int n), some (.int k), (some (.int w)), b] [] M v M' 0 0) : Ev none (e + 4) 187 56 [some (.ref 633), some (.int x), some (.int c), some (.int t), some (.int n), some (.int k), a, b] [] M v M' 0 0 := by
  refine Ev.step (pc' := 57) (ls' := [some (.ref 633), some (.int x), some (.int c), some (.int t), some (.int n), some (.int k), a, b]) (st' := [.ref 633]) (M1 := M) 1 (fun n => rfl) ?_
  refine Ev.step 1 (gs_3 rfl rfl (gf_62 hM h15)) ?_
  refine Ev.step (pc' := 62) (ls' := [some (.ref 633), some (.int x), some (.int c), some (.int t), some (.int n), some (.int k), a, b]) (st' := [.int k, .ref 645]) (M1 := M) 1 (fun n => rfl) ?_
  refine Ev.step 1 (gs_3 rfl rfl (ia_g hst hw)) ?_
  exact Ev.step (pc' := if w = 20 then 72 else 101) (ls' := [some (.ref 633), some (.int x), some (.int c), some (.int t), some (.int n), some (.int k), (some (.int w)), b]) (st' := []) (M1 := M) 4 (fun n => rfl) hz
theorem hol_72 {y : Int32} (hM : gNth M 633 = some (.inr (11, vs))) (h33 : gNth vs 33 = some (.ref 649)) (htr : gNth M 649 = some (.inl (3, .inl tr))) (hy : gAt tr (n - 1) = some y) (hz : Ev none (e + 4) 187 97 [some (.ref 633), some (.int x), some (.int c), some (.int t), some (.int n), some (.int k), (some (.int w)), b] [.int (if y = 0 then 1 else 0), .int (n - 1), .ref 649] M v M' 0 0) : Ev none (e + 4) 187 72 [some (.ref 633), some (.int x), some (.int c), some (.int t), some (.int n), some (.int k), (some (.int w)), b] [] M v M' 0 0 := by
  refine Ev.step (pc' := 73) (ls' := [some (.ref 633), some (.int x), some (.int c), some (.int t), some (.int n), some (.int k), (some (.int w)), b]) (st' := [.ref 633]) (M1 := M) 1 (fun n => rfl) ?_
  refine Ev.step 1 (gs_3 rfl rfl (gf_83 hM h33)) ?_
  refine Ev.step (pc' := 81) (ls' := [some (.ref 633), some (.int x), some (.int c), some (.int t), some (.int n), some (.int k), (some (.int w)), b]) (st' := [.ref 633, .int (n - 1), .ref 649]) (M1 := M) 4 (fun n => rfl) ?_
  refine Ev.step 1 (gs_3 rfl rfl (gf_83 hM h33)) ?_
  refine Ev.step (pc' := 88) (ls' := [some (.ref 633), some (.int x), some (.int c), some (.int t), some (.int n), some (.int k), (some (.int w)), b]) (st' := [.int (n - 1), .ref 649, .int (n - 1), .ref 649]) (M1 := M) 3 (fun n => rfl) ?_
  refine Ev.step 1 (gs_3 rfl rfl (ba_g htr hy)) ?_
  refine Ev.step (pc' := if y = 0 then 92 else 96) (ls' := [some (.ref 633), some (.int x), some (.int c), some (.int t), some (.int n), some (.int k), (some (.int w)), b]) (st' := [.int (n - 1), .ref 649]) (M1 := M) 1 (fun n => rfl) ?_
  by_cases h0 : y = 0
  · rw [if_pos h0] at hz ⊢
    exact Ev.step (pc' := 97) (ls' := [some (.ref 633), some (.int x), some (.int c), some (.int t), some (.int n), some (.int k), (some (.int w)), b]) (st' := [.int 1, .int (n - 1), .ref 649]) (M1 := M) 2 (fun n => rfl) hz
  · rw [if_neg h0] at hz ⊢
    exact Ev.step (pc' := 97) (ls' := [some (.ref 633), some (.int x), some (.int c), some (.int t), some (.int n), some (.int k), (some (.int w)), b]) (st' := [.int 0, .int (n - 1), .ref 649]) (M1 := M) 1 (fun n => rfl) hz
theorem hol_115 (hM : gNth M 633 = some (.inr (11, vs))) (h33 : gNth vs 33 = some (.ref 649)) (htr : gNth M 649 = some (.inl (3, .inl tr))) (hz : Ev none (e + 4) 187 (if w = 21 then 133 else 163) [some (.ref 633), some (.int x), some (.int c), some (.int t), some (.int (n + -1)), some (.int k), (some (.int w)), b] [.int (n + -1 - 1), .ref 649] M v M' 0 0) : Ev none (e + 4) 187 115 [some (.ref 633), some (.int x), some (.int c), some (.int t), some (.int n), some (.int k), (some (.int w)), b] [] M v M' 0 0 := by
  refine Ev.step (pc' := 119) (ls' := [some (.ref 633), some (.int x), some (.int c), some (.int t), some (.int (n + -1)), some (.int k), (some (.int w)), b]) (st' := [.ref 633]) (M1 := M) 2 (fun n => rfl) ?_
  refine Ev.step 1 (gs_3 rfl rfl (gf_83 hM h33)) ?_
  exact Ev.step (pc' := if w = 21 then 133 else 163) (ls' := [some (.ref 633), some (.int x), some (.int c), some (.int t), some (.int (n + -1)), some (.int k), (some (.int w)), b]) (st' := [.int (n + -1 - 1), .ref 649]) (M1 := M) 6 (fun n => rfl) hz
theorem hol_133 {y y2 : Int32} (hM : gNth M 633 = some (.inr (11, vs))) (h33 : gNth vs 33 = some (.ref 649)) (htr : gNth M 649 = some (.inl (3, .inl tr))) (hy : gAt tr (n - 1) = some y) (hy2 : gAt tr n = some y2) (hz : Ev none (e + 4) 187 190 [some (.ref 633), some (.int x), some (.int c), some (.int t), some (.int n), some (.int k), (some (.int w)), b] [.int (if y = 0 then 0 else if y2 = 0 then 0 else 1), .int (n - 1), .ref 649] M v M' 0 0) : Ev none (e + 4) 187 133 [some (.ref 633), some (.int x), some (.int c), some (.int t), some (.int n), some (.int k), (some (.int w)), b] [.int (n - 1), .ref 649] M v M' 0 0 := by
  refine Ev.step (pc' := 134) (ls' := [some (.ref 633), some (.int x), some (.int c), some (.int t), some (.int n), some (.int k), (some (.int w)), b]) (st' := [.ref 633, .int (n - 1), .ref 649]) (M1 := M) 1 (fun n => rfl) ?_
  refine Ev.step 1 (gs_3 rfl rfl (gf_83 hM h33)) ?_
  refine Ev.step (pc' := 141) (ls' := [some (.ref 633), some (.int x), some (.int c), some (.int t), some (.int n), some (.int k), (some (.int w)), b]) (st' := [.int (n - 1), .ref 649, .int (n - 1), .ref 649]) (M1 := M) 3 (fun n => rfl) ?_
  refine Ev.step 1 (gs_3 rfl rfl (ba_g htr hy)) ?_
  refine Ev.step (pc' := if y = 0 then 159 else 145) (ls' := [some (.ref 633), some (.int x), some (.int c), some (.int t), some (.int n), some (.int k), (some (.int w)), b]) (st' := [.int (n - 1), .ref 649]) (M1 := M) 1 (fun n => rfl) ?_
  by_cases h0 : y = 0
  · rw [if_pos h0] at hz ⊢
    exact Ev.step (pc' := 190) (ls' := [some (.ref 633), some (.int x), some (.int c), some (.int t), some (.int n), some (.int k), (some (.int w)), b]) (st' := [.int 0, .int (n - 1), .ref 649]) (M1 := M) 2 (fun n => rfl) hz
  rw [if_neg h0] at hz ⊢
  refine Ev.step (pc' := 146) (ls' := [some (.ref 633), some (.int x), some (.int c), some (.int t), some (.int n), some (.int k), (some (.int w)), b]) (st' := [.ref 633, .int (n - 1), .ref 649]) (M1 := M) 1 (fun n => rfl) ?_
  refine Ev.step 1 (gs_3 rfl rfl (gf_83 hM h33)) ?_
  refine Ev.step (pc' := 151) (ls' := [some (.ref 633), some (.int x), some (.int c), some (.int t), some (.int n), some (.int k), (some (.int w)), b]) (st' := [.int n, .ref 649, .int (n - 1), .ref 649]) (M1 := M) 1 (fun n => rfl) ?_
  refine Ev.step 1 (gs_3 rfl rfl (ba_g htr hy2)) ?_
  refine Ev.step (pc' := if y2 = 0 then 159 else 155) (ls' := [some (.ref 633), some (.int x), some (.int c), some (.int t), some (.int n), some (.int k), (some (.int w)), b]) (st' := [.int (n - 1), .ref 649]) (M1 := M) 1 (fun n => rfl) ?_
  by_cases h1 : y2 = 0
  · rw [if_pos h1] at hz ⊢
    exact Ev.step (pc' := 190) (ls' := [some (.ref 633), some (.int x), some (.int c), some (.int t), some (.int n), some (.int k), (some (.int w)), b]) (st' := [.int 0, .int (n - 1), .ref 649]) (M1 := M) 2 (fun n => rfl) hz
  · rw [if_neg h1] at hz ⊢
    exact Ev.step (pc' := 190) (ls' := [some (.ref 633), some (.int x), some (.int c), some (.int t), some (.int n), some (.int k), (some (.int w)), b]) (st' := [.int 1, .int (n - 1), .ref 649]) (M1 := M) 2 (fun n => rfl) hz
theorem hol_163 {y y2 : Int32} (hM : gNth M 633 = some (.inr (11, vs))) (h33 : gNth vs 33 = some (.ref 649)) (htr : gNth M 649 = some (.inl (3, .inl tr))) (hy : gAt tr (n - 1) = some y) (hy2 : gAt tr n = some y2) (hz : Ev none (e + 4) 187 190 [some (.ref 633), some (.int x), some (.int c), some (.int t), some (.int n), some (.int k), (some (.int w)), b] [.int (if y = 0 then if y2 = 0 then 0 else 1 else 1), .int (n - 1), .ref 649] M v M' 0 0) : Ev none (e + 4) 187 163 [some (.ref 633), some (.int x), some (.int c), some (.int t), some (.int n), some (.int k), (some (.int w)), b] [.int (n - 1), .ref 649] M v M' 0 0 := by
  refine Ev.step (pc' := 164) (ls' := [some (.ref 633), some (.int x), some (.int c), some (.int t), some (.int n), some (.int k), (some (.int w)), b]) (st' := [.ref 633, .int (n - 1), .ref 649]) (M1 := M) 1 (fun n => rfl) ?_
  refine Ev.step 1 (gs_3 rfl rfl (gf_83 hM h33)) ?_
  refine Ev.step (pc' := 171) (ls' := [some (.ref 633), some (.int x), some (.int c), some (.int t), some (.int n), some (.int k), (some (.int w)), b]) (st' := [.int (n - 1), .ref 649, .int (n - 1), .ref 649]) (M1 := M) 3 (fun n => rfl) ?_
  refine Ev.step 1 (gs_3 rfl rfl (ba_g htr hy)) ?_
  refine Ev.step (pc' := if y = 0 then 175 else 185) (ls' := [some (.ref 633), some (.int x), some (.int c), some (.int t), some (.int n), some (.int k), (some (.int w)), b]) (st' := [.int (n - 1), .ref 649]) (M1 := M) 1 (fun n => rfl) ?_
  by_cases h0 : y = 0
  · rw [if_pos h0] at hz ⊢
    refine Ev.step (pc' := 176) (ls' := [some (.ref 633), some (.int x), some (.int c), some (.int t), some (.int n), some (.int k), (some (.int w)), b]) (st' := [.ref 633, .int (n - 1), .ref 649]) (M1 := M) 1 (fun n => rfl) ?_
    refine Ev.step 1 (gs_3 rfl rfl (gf_83 hM h33)) ?_
    refine Ev.step (pc' := 181) (ls' := [some (.ref 633), some (.int x), some (.int c), some (.int t), some (.int n), some (.int k), (some (.int w)), b]) (st' := [.int n, .ref 649, .int (n - 1), .ref 649]) (M1 := M) 1 (fun n => rfl) ?_
    refine Ev.step 1 (gs_3 rfl rfl (ba_g htr hy2)) ?_
    refine Ev.step (pc' := if y2 = 0 then 189 else 185) (ls' := [some (.ref 633), some (.int x), some (.int c), some (.int t), some (.int n), some (.int k), (some (.int w)), b]) (st' := [.int (n - 1), .ref 649]) (M1 := M) 1 (fun n => rfl) ?_
    by_cases h1 : y2 = 0
    · rw [if_pos h1] at hz ⊢
      exact Ev.step (pc' := 190) (ls' := [some (.ref 633), some (.int x), some (.int c), some (.int t), some (.int n), some (.int k), (some (.int w)), b]) (st' := [.int 0, .int (n - 1), .ref 649]) (M1 := M) 1 (fun n => rfl) hz
    · rw [if_neg h1] at hz ⊢
      exact Ev.step (pc' := 190) (ls' := [some (.ref 633), some (.int x), some (.int c), some (.int t), some (.int n), some (.int k), (some (.int w)), b]) (st' := [.int 1, .int (n - 1), .ref 649]) (M1 := M) 2 (fun n => rfl) hz
  · rw [if_neg h0] at hz ⊢
    exact Ev.step (pc' := 190) (ls' := [some (.ref 633), some (.int x), some (.int c), some (.int t), some (.int n), some (.int k), (some (.int w)), b]) (st' := [.int 1, .int (n - 1), .ref 649]) (M1 := M) 2 (fun n => rfl) hz
theorem hol_s97 {z j y : Int32} (htr : gNth M 649 = some (.inl (3, .inl tr))) (hj : gAt tr j = some y) (hz : Ev none (e + 4) 187 354 [some (.ref 633), some (.int x), some (.int c), some (.int t), some (.int n), some (.int k), a, b] [] (gPut M 649 (.inl (3, .inl (gPut tr j.toNatClampNeg (vp_nar .boolean z))))) v M' 0 0) : Ev none (e + 4) 187 97 [some (.ref 633), some (.int x), some (.int c), some (.int t), some (.int n), some (.int k), a, b] [.int z, .int j, .ref 649] M v M' 0 0 := by
  refine Ev.step 1 (gs_4 rfl rfl (bs_g htr hj)) ?_
  exact Ev.step (pc' := 354) (ls' := [some (.ref 633), some (.int x), some (.int c), some (.int t), some (.int n), some (.int k), a, b]) (st' := []) (M1 := gPut M 649 (.inl (3, .inl (gPut tr j.toNatClampNeg (vp_nar .boolean z))))) 1 (fun n => rfl) hz
theorem hol_s190 {z j y : Int32} (htr : gNth M 649 = some (.inl (3, .inl tr))) (hj : gAt tr j = some y) (hz : Ev none (e + 4) 187 354 [some (.ref 633), some (.int x), some (.int c), some (.int t), some (.int n), some (.int k), a, b] [] (gPut M 649 (.inl (3, .inl (gPut tr j.toNatClampNeg (vp_nar .boolean z))))) v M' 0 0) : Ev none (e + 4) 187 190 [some (.ref 633), some (.int x), some (.int c), some (.int t), some (.int n), some (.int k), a, b] [.int z, .int j, .ref 649] M v M' 0 0 := by
  refine Ev.step 1 (gs_4 rfl rfl (bs_g htr hj)) ?_
  exact Ev.step (pc' := 354) (ls' := [some (.ref 633), some (.int x), some (.int c), some (.int t), some (.int n), some (.int k), a, b]) (st' := []) (M1 := gPut M 649 (.inl (3, .inl (gPut tr j.toNatClampNeg (vp_nar .boolean z))))) 1 (fun n => rfl) hz
theorem hol_s350 {z j y : Int32} (htr : gNth M 649 = some (.inl (3, .inl tr))) (hj : gAt tr j = some y) (hz : Ev none (e + 4) 187 354 [some (.ref 633), some (.int x), some (.int c), some (.int t), some (.int (n + 1)), some (.int k), a, b] [] (gPut M 649 (.inl (3, .inl (gPut tr j.toNatClampNeg (vp_nar .boolean z))))) v M' 0 0) : Ev none (e + 4) 187 350 [some (.ref 633), some (.int x), some (.int c), some (.int t), some (.int n), some (.int k), a, b] [.int z, .int j, .ref 649] M v M' 0 0 := by
  refine Ev.step 1 (gs_4 rfl rfl (bs_g htr hj)) ?_
  exact Ev.step (pc' := 354) (ls' := [some (.ref 633), some (.int x), some (.int c), some (.int t), some (.int (n + 1)), some (.int k), a, b]) (st' := []) (M1 := gPut M 649 (.inl (3, .inl (gPut tr j.toNatClampNeg (vp_nar .boolean z))))) 1 (fun n => rfl) hz
theorem hol_360 {y : Int32} (hM : gNth M 633 = some (.inr (11, vs))) (h33 : gNth vs 33 = some (.ref 649)) (htr : gNth M 649 = some (.inl (3, .inl tr))) (hy : gAt tr 0 = some y) (h01 : y = 0 ∨ y = 1) : Ev none (e + 4) 187 360 [some (.ref 633), some (.int x), some (.int c), some (.int t), some (.int n), some (.int k), a, b] [] M (some (.int y)) M 0 0 := by
  refine Ev.step (pc' := 361) (ls' := [some (.ref 633), some (.int x), some (.int c), some (.int t), some (.int n), some (.int k), a, b]) (st' := [.ref 633]) (M1 := M) 1 (fun n => rfl) ?_
  refine Ev.step 1 (gs_3 rfl rfl (gf_83 hM h33)) ?_
  refine Ev.step (pc' := 365) (ls' := [some (.ref 633), some (.int x), some (.int c), some (.int t), some (.int n), some (.int k), a, b]) (st' := [.int 0, .ref 649]) (M1 := M) 1 (fun n => rfl) ?_
  refine Ev.step 1 (gs_3 rfl rfl (ba_g htr hy)) ?_
  rcases h01 with rfl | rfl
  · exact Ev.ret (fun n => rfl)
  · exact Ev.ret (fun n => rfl)
end HOL2
/-! BY HAND: the reference's holds: a step that asks something of the place -/
section HOL3
variable {M : Mem} {vs : List Value} {x c t n k w : Int32} {a b : Option Value} {e : Nat} {v : Option Value} {M' : Mem} {tr ls sg nm lt : List Int32}
theorem hol_101 (hw : w = 21 ∨ w = 22) (hz : (w = 21 ∨ w = 22) → Ev none (e + 4) 187 115 [some (.ref 633), some (.int x), some (.int c), some (.int t), some (.int n), some (.int k), (some (.int w)), b] [] M v M' 0 0) : Ev none (e + 4) 187 101 [some (.ref 633), some (.int x), some (.int c), some (.int t), some (.int n), some (.int k), (some (.int w)), b] [] M v M' 0 0 := by
  refine Ev.step (pc' := if w = 21 then 115 else 108) (ls' := [some (.ref 633), some (.int x), some (.int c), some (.int t), some (.int n), some (.int k), (some (.int w)), b]) (st' := []) (M1 := M) 3 (fun n => rfl) ?_
  by_cases h0 : w = 21
  · rw [if_pos h0]; exact hz (Or.inl h0)
  · rw [if_neg h0]
    refine Ev.step (pc' := if w = 22 then 115 else 194) (ls' := [some (.ref 633), some (.int x), some (.int c), some (.int t), some (.int n), some (.int k), (some (.int w)), b]) (st' := []) (M1 := M) 3 (fun n => rfl) ?_
    by_cases h1 : w = 22
    · rw [if_pos h1]; exact hz (Or.inr h1)
    · exact absurd (hw.resolve_left h0) h1
theorem hol_101e (h1 : w ≠ 21) (h2 : w ≠ 22) (hz : Ev none (e + 4) 187 194 [some (.ref 633), some (.int x), some (.int c), some (.int t), some (.int n), some (.int k), (some (.int w)), b] [] M v M' 0 0) : Ev none (e + 4) 187 101 [some (.ref 633), some (.int x), some (.int c), some (.int t), some (.int n), some (.int k), (some (.int w)), b] [] M v M' 0 0 := by
  refine Ev.step (pc' := if w = 21 then 115 else 108) (ls' := [some (.ref 633), some (.int x), some (.int c), some (.int t), some (.int n), some (.int k), (some (.int w)), b]) (st' := []) (M1 := M) 3 (fun n => rfl) ?_
  rw [if_neg h1]
  refine Ev.step (pc' := if w = 22 then 115 else 194) (ls' := [some (.ref 633), some (.int x), some (.int c), some (.int t), some (.int n), some (.int k), (some (.int w)), b]) (st' := []) (M1 := M) 3 (fun n => rfl) ?_
  rw [if_neg h2]
  exact hz
theorem nthx {α : Type} {l l2 : List α} (h : ∀ i, gNth l i = gNth l2 i) : l = l2 := List.ext_getElem? (fun i => by rw [← nth_eq, ← nth_eq]; exact h i)
theorem pure_ok {M : Mem} {M1 : Mem} (hF : Frm sT [] M M1) : M1 = M := by
  refine nthx (fun i => ?_)
  cases h : gNth M i with
  | none =>
    have h2 : M.length ≤ i := by
      rw [nth_eq] at h
      exact List.getElem?_eq_none_iff.mp h
    rw [nth_eq]
    exact List.getElem?_eq_none_iff.mpr (by rw [hF.1]; exact h2)
  | some q => ?_
  rcases q with ⟨ty, y⟩ | ⟨ci, fs⟩
  · obtain ⟨y', e1, e2⟩ := hF.2.2 _ _ _ h
    rw [e1, e2 (fun g _ hm => by cases hm)]
  · obtain ⟨fs', e1, e2, e3⟩ := hF.2.1 _ _ _ h
    rw [e1, nthx (fun i => e3 i (fun hm => by cases hm))]
set_option maxRecDepth 100000 in
theorem mR_146 : (gNth mRs 146).map (fun q => q.2.2.2.1) = some 3 := by decide +kernel
set_option maxRecDepth 100000 in
theorem mR_186 : (gNth mRs 186).map (fun q => q.2.2.2.1) = some 3 := by decide +kernel
theorem run_of {d : Nat} {kk : Int32} (hT : TM sT sG M) (hc : 0 ≤ c.toInt ∧ c.toInt ≤ 255) (hk : 0 ≤ kk.toInt ∧ kk.toInt ≤ 6) : ∃ r : Int32, Ev none d 146 0 [some (.ref 633), some (.int c), some (.int kk)] [] M (some (.int r)) M 0 0 := by
  have hm := mR_146
  cases hq : gNth mRs 146 with
  | none => rw [hq] at hm; cases hm
  | some q => ?_
  rw [hq] at hm
  have hm : q.2.2.2.1 = 3 := Option.some.inj hm
  obtain ⟨r, M1, h1, _, h3, s, hs, ⟨h4, _⟩, _⟩ := kX11_of_ok d M [.ref 633, .int c, .int kk] q (Nat.zero_le d) hq (Two.mk rfl (Two.mk ⟨c, rfl, hc.1, hc.2⟩ (Two.mk ⟨kk, rfl, hk.1, hk.2⟩ trivial))) ⟨[], trivial, fun f hf => by cases hf⟩ hT
  cases pure_ok h3
  cases List.mem_singleton.mp hs
  rw [hm] at h1
  rcases r with _ | r
  · exact h4.elim
  · obtain ⟨y, rfl, _⟩ := h4
    exact ⟨y, h1⟩
theorem run_is {d : Nat} {kk : Int32} (hT : TM sT sG M) (hc : 0 ≤ c.toInt ∧ c.toInt ≤ 255) : ∃ r : Int32, Ev none (d + 3) 186 0 [some (.ref 633), some (.int c), some (.int kk)] [] M (some (.int r)) M 0 0 := by
  have hm := mR_186
  cases hq : gNth mRs 186 with
  | none => rw [hq] at hm; cases hm
  | some q => ?_
  rw [hq] at hm
  have hm : q.2.2.2.1 = 3 := Option.some.inj hm
  obtain ⟨r, M1, h1, _, h3, s, hs, ⟨h4, _⟩, _⟩ := kX11_is_ok (d + 3) M [.ref 633, .int c, .int kk] q (Nat.le_add_left 3 d) hq (Two.mk rfl (Two.mk ⟨c, rfl, hc.1, hc.2⟩ (Two.mk ⟨kk, rfl, (i32_lt kk).1, (i32_lt kk).2⟩ trivial))) ⟨[], trivial, fun f hf => by cases hf⟩ hT
  cases pure_ok h3
  cases List.mem_singleton.mp hs
  rw [hm] at h1
  rcases r with _ | r
  · exact h4.elim
  · obtain ⟨y, rfl, _⟩ := h4
    exact ⟨y, h1⟩
theorem hol_241 {kk : Int32} (hM : gNth M 633 = some (.inr (11, vs))) (hT : TM sT sG M) (hc : 0 ≤ c.toInt ∧ c.toInt ≤ 255) (hk : 0 ≤ kk.toInt ∧ kk.toInt ≤ 6) : ∃ r : Int32, ∀ {v : Option Value} {M' : Mem}, Ev none (e + 4) 187 244 [some (.ref 633), some (.int x), some (.int c), some (.int t), some (.int n), some (.int k), (some (.int w)), b] [.int r] M v M' 0 0 → Ev none (e + 4) 187 241 [some (.ref 633), some (.int x), some (.int c), some (.int t), some (.int n), some (.int k), (some (.int w)), b] [.int kk, .int c, .ref 633] M v M' 0 0 := by
  obtain ⟨r, hr⟩ := run_of (d := e + 3) hT hc hk
  refine ⟨r, fun hz => ?_⟩
  exact Ev.call0 (fun n => gs_7 rfl rfl (cal_of hM rfl)) hr hz
theorem hol_194 (hM : gNth M 633 = some (.inr (11, vs))) (hT : TM sT sG M) (hc : 0 ≤ c.toInt ∧ c.toInt ≤ 255) : ∃ r : Int32, ∀ {v : Option Value} {M' : Mem}, Ev none (e + 4) 187 244 [some (.ref 633), some (.int x), some (.int c), some (.int t), some (.int n), some (.int k), (some (.int w)), b] [.int r] M v M' 0 0 → Ev none (e + 4) 187 194 [some (.ref 633), some (.int x), some (.int c), some (.int t), some (.int n), some (.int k), (some (.int w)), b] [] M v M' 0 0 := by
  by_cases h0 : (8 : Int32) ≤ w
  · obtain ⟨kk, hk, hz1⟩ : ∃ kk : Int32, (0 ≤ kk.toInt ∧ kk.toInt ≤ 6) ∧ ∀ {v : Option Value} {M' : Mem}, Ev none (e + 4) 187 241 [some (.ref 633), some (.int x), some (.int c), some (.int t), some (.int n), some (.int k), (some (.int w)), b] [.int kk, .int c, .ref 633] M v M' 0 0 → Ev none (e + 4) 187 205 [some (.ref 633), some (.int x), some (.int c), some (.int t), some (.int n), some (.int k), (some (.int w)), b] [] M v M' 0 0 := by
      by_cases h1 : w = 8
      · refine ⟨3, by decide, fun hz => ?_⟩
        refine Ev.step (pc' := if w = 8 then 214 else 218) (ls' := [some (.ref 633), some (.int x), some (.int c), some (.int t), some (.int n), some (.int k), (some (.int w)), b]) (st' := [.int c, .ref 633]) (M1 := M) 5 (fun n => rfl) ?_
        rw [if_pos h1]
        exact Ev.step (pc' := 241) (ls' := [some (.ref 633), some (.int x), some (.int c), some (.int t), some (.int n), some (.int k), (some (.int w)), b]) (st' := [.int 3, .int c, .ref 633]) (M1 := M) 2 (fun n => rfl) hz
      by_cases h2 : w = 9
      · refine ⟨4, by decide, fun hz => ?_⟩
        refine Ev.step (pc' := if w = 8 then 214 else 218) (ls' := [some (.ref 633), some (.int x), some (.int c), some (.int t), some (.int n), some (.int k), (some (.int w)), b]) (st' := [.int c, .ref 633]) (M1 := M) 5 (fun n => rfl) ?_
        rw [if_neg h1]
        refine Ev.step (pc' := if w = 9 then 225 else 229) (ls' := [some (.ref 633), some (.int x), some (.int c), some (.int t), some (.int n), some (.int k), (some (.int w)), b]) (st' := [.int c, .ref 633]) (M1 := M) 3 (fun n => rfl) ?_
        rw [if_pos h2]
        exact Ev.step (pc' := 241) (ls' := [some (.ref 633), some (.int x), some (.int c), some (.int t), some (.int n), some (.int k), (some (.int w)), b]) (st' := [.int 4, .int c, .ref 633]) (M1 := M) 2 (fun n => rfl) hz
      by_cases h3 : w = 10
      · refine ⟨2, by decide, fun hz => ?_⟩
        refine Ev.step (pc' := if w = 8 then 214 else 218) (ls' := [some (.ref 633), some (.int x), some (.int c), some (.int t), some (.int n), some (.int k), (some (.int w)), b]) (st' := [.int c, .ref 633]) (M1 := M) 5 (fun n => rfl) ?_
        rw [if_neg h1]
        refine Ev.step (pc' := if w = 9 then 225 else 229) (ls' := [some (.ref 633), some (.int x), some (.int c), some (.int t), some (.int n), some (.int k), (some (.int w)), b]) (st' := [.int c, .ref 633]) (M1 := M) 3 (fun n => rfl) ?_
        rw [if_neg h2]
        refine Ev.step (pc' := if w = 10 then 236 else 240) (ls' := [some (.ref 633), some (.int x), some (.int c), some (.int t), some (.int n), some (.int k), (some (.int w)), b]) (st' := [.int c, .ref 633]) (M1 := M) 3 (fun n => rfl) ?_
        rw [if_pos h3]
        exact Ev.step (pc' := 241) (ls' := [some (.ref 633), some (.int x), some (.int c), some (.int t), some (.int n), some (.int k), (some (.int w)), b]) (st' := [.int 2, .int c, .ref 633]) (M1 := M) 2 (fun n => rfl) hz
      · refine ⟨5, by decide, fun hz => ?_⟩
        refine Ev.step (pc' := if w = 8 then 214 else 218) (ls' := [some (.ref 633), some (.int x), some (.int c), some (.int t), some (.int n), some (.int k), (some (.int w)), b]) (st' := [.int c, .ref 633]) (M1 := M) 5 (fun n => rfl) ?_
        rw [if_neg h1]
        refine Ev.step (pc' := if w = 9 then 225 else 229) (ls' := [some (.ref 633), some (.int x), some (.int c), some (.int t), some (.int n), some (.int k), (some (.int w)), b]) (st' := [.int c, .ref 633]) (M1 := M) 3 (fun n => rfl) ?_
        rw [if_neg h2]
        refine Ev.step (pc' := if w = 10 then 236 else 240) (ls' := [some (.ref 633), some (.int x), some (.int c), some (.int t), some (.int n), some (.int k), (some (.int w)), b]) (st' := [.int c, .ref 633]) (M1 := M) 3 (fun n => rfl) ?_
        rw [if_neg h3]
        exact Ev.step (pc' := 241) (ls' := [some (.ref 633), some (.int x), some (.int c), some (.int t), some (.int n), some (.int k), (some (.int w)), b]) (st' := [.int 5, .int c, .ref 633]) (M1 := M) 1 (fun n => rfl) hz
    obtain ⟨r, hr⟩ := hol_241 (x := x) (t := t) (n := n) (k := k) (w := w) (b := b) (e := e) hM hT hc hk
    refine ⟨r, fun hz => ?_⟩
    refine Ev.step (pc' := if (8 : Int32) ≤ w then 205 else 201) (ls' := [some (.ref 633), some (.int x), some (.int c), some (.int t), some (.int n), some (.int k), (some (.int w)), b]) (st' := []) (M1 := M) 3 (fun n => rfl) ?_
    rw [if_pos h0]
    exact hz1 (hr hz)
  · refine ⟨0, fun hz => ?_⟩
    refine Ev.step (pc' := if (8 : Int32) ≤ w then 205 else 201) (ls' := [some (.ref 633), some (.int x), some (.int c), some (.int t), some (.int n), some (.int k), (some (.int w)), b]) (st' := []) (M1 := M) 3 (fun n => rfl) ?_
    rw [if_neg h0]
    exact Ev.step (pc' := 244) (ls' := [some (.ref 633), some (.int x), some (.int c), some (.int t), some (.int n), some (.int k), (some (.int w)), b]) (st' := [.int 0]) (M1 := M) 2 (fun n => rfl) hz
theorem hol_244 {u sv nv : Int32} (hM : gNth M 633 = some (.inr (11, vs))) (h33 : gNth vs 33 = some (.ref 649)) (h16 : gNth vs 16 = some (.ref 646)) (h17 : gNth vs 17 = some (.ref 647)) (hsg : gNth M 646 = some (.inl (1, .inl sg))) (hnm : gNth M 647 = some (.inl (1, .inl nm))) (hs : gAt sg k = some sv) (hn : gAt nm k = some nv) (hT : TM sT sG M) (hc : 0 ≤ c.toInt ∧ c.toInt ≤ 255) : ∃ r : Int32, ∀ {v : Option Value} {M' : Mem}, Ev none (e + 4) 187 350 [some (.ref 633), some (.int x), some (.int c), some (.int t), some (.int n), some (.int k), (some (.int w)), (some (.int u))] [.int r, .int n, .ref 649] M v M' 0 0 → Ev none (e + 4) 187 244 [some (.ref 633), some (.int x), some (.int c), some (.int t), some (.int n), some (.int k), (some (.int w)), b] [.int u] M v M' 0 0 := by
  have hd : ∀ {v : Option Value} {M' : Mem}, Ev none (e + 4) 187 (if (8 : Int32) ≤ w then 269 else 259) [some (.ref 633), some (.int x), some (.int c), some (.int t), some (.int n), some (.int k), (some (.int w)), (some (.int u))] [.int n, .ref 649] M v M' 0 0 → Ev none (e + 4) 187 244 [some (.ref 633), some (.int x), some (.int c), some (.int t), some (.int n), some (.int k), (some (.int w)), b] [.int u] M v M' 0 0 := by
    intro v M' hz
    refine Ev.step (pc' := 247) (ls' := [some (.ref 633), some (.int x), some (.int c), some (.int t), some (.int n), some (.int k), (some (.int w)), (some (.int u))]) (st' := [.ref 633]) (M1 := M) 2 (fun n => rfl) ?_
    refine Ev.step 1 (gs_3 rfl rfl (gf_83 hM h33)) ?_
    exact Ev.step (pc' := if (8 : Int32) ≤ w then 269 else 259) (ls' := [some (.ref 633), some (.int x), some (.int c), some (.int t), some (.int n), some (.int k), (some (.int w)), (some (.int u))]) (st' := [.int n, .ref 649]) (M1 := M) 4 (fun n => rfl) hz
  by_cases h0 : (8 : Int32) ≤ w
  · rw [if_pos h0] at hd
    by_cases h1 : sv = 60
    ·
      by_cases h3 : nv ≤ u
      · refine ⟨0, fun hz => hd ?_⟩
        refine Ev.step (pc' := 270) (ls' := [some (.ref 633), some (.int x), some (.int c), some (.int t), some (.int n), some (.int k), (some (.int w)), (some (.int u))]) (st' := [.ref 633, .int n, .ref 649]) (M1 := M) 1 (fun n => rfl) ?_
        refine Ev.step 1 (gs_3 rfl rfl (gf_65 hM h16)) ?_
        refine Ev.step (pc' := 275) (ls' := [some (.ref 633), some (.int x), some (.int c), some (.int t), some (.int n), some (.int k), (some (.int w)), (some (.int u))]) (st' := [.int k, .ref 646, .int n, .ref 649]) (M1 := M) 1 (fun n => rfl) ?_
        refine Ev.step 1 (gs_3 rfl rfl (ia_g hsg hs)) ?_
        refine Ev.step (pc' := if sv = 60 then 281 else 301) (ls' := [some (.ref 633), some (.int x), some (.int c), some (.int t), some (.int n), some (.int k), (some (.int w)), (some (.int u))]) (st' := [.int n, .ref 649]) (M1 := M) 2 (fun n => rfl) ?_
        rw [if_pos h1]
        refine Ev.step (pc' := 284) (ls' := [some (.ref 633), some (.int x), some (.int c), some (.int t), some (.int n), some (.int k), (some (.int w)), (some (.int u))]) (st' := [.ref 633, .int u, .int n, .ref 649]) (M1 := M) 2 (fun n => rfl) ?_
        refine Ev.step 1 (gs_3 rfl rfl (gf_68 hM h17)) ?_
        refine Ev.step (pc' := 289) (ls' := [some (.ref 633), some (.int x), some (.int c), some (.int t), some (.int n), some (.int k), (some (.int w)), (some (.int u))]) (st' := [.int k, .ref 647, .int u, .int n, .ref 649]) (M1 := M) 1 (fun n => rfl) ?_
        refine Ev.step 1 (gs_3 rfl rfl (ia_g hnm hn)) ?_
        refine Ev.step (pc' := if nv ≤ u then 297 else 293) (ls' := [some (.ref 633), some (.int x), some (.int c), some (.int t), some (.int n), some (.int k), (some (.int w)), (some (.int u))]) (st' := [.int n, .ref 649]) (M1 := M) 1 (fun n => rfl) ?_
        rw [if_pos h3]
        exact Ev.step (pc' := 350) (ls' := [some (.ref 633), some (.int x), some (.int c), some (.int t), some (.int n), some (.int k), (some (.int w)), (some (.int u))]) (st' := [.int 0, .int n, .ref 649]) (M1 := M) 2 (fun n => rfl) hz
      · refine ⟨1, fun hz => hd ?_⟩
        refine Ev.step (pc' := 270) (ls' := [some (.ref 633), some (.int x), some (.int c), some (.int t), some (.int n), some (.int k), (some (.int w)), (some (.int u))]) (st' := [.ref 633, .int n, .ref 649]) (M1 := M) 1 (fun n => rfl) ?_
        refine Ev.step 1 (gs_3 rfl rfl (gf_65 hM h16)) ?_
        refine Ev.step (pc' := 275) (ls' := [some (.ref 633), some (.int x), some (.int c), some (.int t), some (.int n), some (.int k), (some (.int w)), (some (.int u))]) (st' := [.int k, .ref 646, .int n, .ref 649]) (M1 := M) 1 (fun n => rfl) ?_
        refine Ev.step 1 (gs_3 rfl rfl (ia_g hsg hs)) ?_
        refine Ev.step (pc' := if sv = 60 then 281 else 301) (ls' := [some (.ref 633), some (.int x), some (.int c), some (.int t), some (.int n), some (.int k), (some (.int w)), (some (.int u))]) (st' := [.int n, .ref 649]) (M1 := M) 2 (fun n => rfl) ?_
        rw [if_pos h1]
        refine Ev.step (pc' := 284) (ls' := [some (.ref 633), some (.int x), some (.int c), some (.int t), some (.int n), some (.int k), (some (.int w)), (some (.int u))]) (st' := [.ref 633, .int u, .int n, .ref 649]) (M1 := M) 2 (fun n => rfl) ?_
        refine Ev.step 1 (gs_3 rfl rfl (gf_68 hM h17)) ?_
        refine Ev.step (pc' := 289) (ls' := [some (.ref 633), some (.int x), some (.int c), some (.int t), some (.int n), some (.int k), (some (.int w)), (some (.int u))]) (st' := [.int k, .ref 647, .int u, .int n, .ref 649]) (M1 := M) 1 (fun n => rfl) ?_
        refine Ev.step 1 (gs_3 rfl rfl (ia_g hnm hn)) ?_
        refine Ev.step (pc' := if nv ≤ u then 297 else 293) (ls' := [some (.ref 633), some (.int x), some (.int c), some (.int t), some (.int n), some (.int k), (some (.int w)), (some (.int u))]) (st' := [.int n, .ref 649]) (M1 := M) 1 (fun n => rfl) ?_
        rw [if_neg h3]
        exact Ev.step (pc' := 350) (ls' := [some (.ref 633), some (.int x), some (.int c), some (.int t), some (.int n), some (.int k), (some (.int w)), (some (.int u))]) (st' := [.int 1, .int n, .ref 649]) (M1 := M) 2 (fun n => rfl) hz
    by_cases h2 : sv = 61
    ·
      by_cases h3 : u = nv
      · refine ⟨1, fun hz => hd ?_⟩
        refine Ev.step (pc' := 270) (ls' := [some (.ref 633), some (.int x), some (.int c), some (.int t), some (.int n), some (.int k), (some (.int w)), (some (.int u))]) (st' := [.ref 633, .int n, .ref 649]) (M1 := M) 1 (fun n => rfl) ?_
        refine Ev.step 1 (gs_3 rfl rfl (gf_65 hM h16)) ?_
        refine Ev.step (pc' := 275) (ls' := [some (.ref 633), some (.int x), some (.int c), some (.int t), some (.int n), some (.int k), (some (.int w)), (some (.int u))]) (st' := [.int k, .ref 646, .int n, .ref 649]) (M1 := M) 1 (fun n => rfl) ?_
        refine Ev.step 1 (gs_3 rfl rfl (ia_g hsg hs)) ?_
        refine Ev.step (pc' := if sv = 60 then 281 else 301) (ls' := [some (.ref 633), some (.int x), some (.int c), some (.int t), some (.int n), some (.int k), (some (.int w)), (some (.int u))]) (st' := [.int n, .ref 649]) (M1 := M) 2 (fun n => rfl) ?_
        rw [if_neg h1]
        refine Ev.step (pc' := 302) (ls' := [some (.ref 633), some (.int x), some (.int c), some (.int t), some (.int n), some (.int k), (some (.int w)), (some (.int u))]) (st' := [.ref 633, .int n, .ref 649]) (M1 := M) 1 (fun n => rfl) ?_
        refine Ev.step 1 (gs_3 rfl rfl (gf_65 hM h16)) ?_
        refine Ev.step (pc' := 307) (ls' := [some (.ref 633), some (.int x), some (.int c), some (.int t), some (.int n), some (.int k), (some (.int w)), (some (.int u))]) (st' := [.int k, .ref 646, .int n, .ref 649]) (M1 := M) 1 (fun n => rfl) ?_
        refine Ev.step 1 (gs_3 rfl rfl (ia_g hsg hs)) ?_
        refine Ev.step (pc' := if sv = 61 then 313 else 333) (ls' := [some (.ref 633), some (.int x), some (.int c), some (.int t), some (.int n), some (.int k), (some (.int w)), (some (.int u))]) (st' := [.int n, .ref 649]) (M1 := M) 2 (fun n => rfl) ?_
        rw [if_pos h2]
        refine Ev.step (pc' := 316) (ls' := [some (.ref 633), some (.int x), some (.int c), some (.int t), some (.int n), some (.int k), (some (.int w)), (some (.int u))]) (st' := [.ref 633, .int u, .int n, .ref 649]) (M1 := M) 2 (fun n => rfl) ?_
        refine Ev.step 1 (gs_3 rfl rfl (gf_68 hM h17)) ?_
        refine Ev.step (pc' := 321) (ls' := [some (.ref 633), some (.int x), some (.int c), some (.int t), some (.int n), some (.int k), (some (.int w)), (some (.int u))]) (st' := [.int k, .ref 647, .int u, .int n, .ref 649]) (M1 := M) 1 (fun n => rfl) ?_
        refine Ev.step 1 (gs_3 rfl rfl (ia_g hnm hn)) ?_
        refine Ev.step (pc' := if u = nv then 325 else 329) (ls' := [some (.ref 633), some (.int x), some (.int c), some (.int t), some (.int n), some (.int k), (some (.int w)), (some (.int u))]) (st' := [.int n, .ref 649]) (M1 := M) 1 (fun n => rfl) ?_
        rw [if_pos h3]
        exact Ev.step (pc' := 350) (ls' := [some (.ref 633), some (.int x), some (.int c), some (.int t), some (.int n), some (.int k), (some (.int w)), (some (.int u))]) (st' := [.int 1, .int n, .ref 649]) (M1 := M) 2 (fun n => rfl) hz
      · refine ⟨0, fun hz => hd ?_⟩
        refine Ev.step (pc' := 270) (ls' := [some (.ref 633), some (.int x), some (.int c), some (.int t), some (.int n), some (.int k), (some (.int w)), (some (.int u))]) (st' := [.ref 633, .int n, .ref 649]) (M1 := M) 1 (fun n => rfl) ?_
        refine Ev.step 1 (gs_3 rfl rfl (gf_65 hM h16)) ?_
        refine Ev.step (pc' := 275) (ls' := [some (.ref 633), some (.int x), some (.int c), some (.int t), some (.int n), some (.int k), (some (.int w)), (some (.int u))]) (st' := [.int k, .ref 646, .int n, .ref 649]) (M1 := M) 1 (fun n => rfl) ?_
        refine Ev.step 1 (gs_3 rfl rfl (ia_g hsg hs)) ?_
        refine Ev.step (pc' := if sv = 60 then 281 else 301) (ls' := [some (.ref 633), some (.int x), some (.int c), some (.int t), some (.int n), some (.int k), (some (.int w)), (some (.int u))]) (st' := [.int n, .ref 649]) (M1 := M) 2 (fun n => rfl) ?_
        rw [if_neg h1]
        refine Ev.step (pc' := 302) (ls' := [some (.ref 633), some (.int x), some (.int c), some (.int t), some (.int n), some (.int k), (some (.int w)), (some (.int u))]) (st' := [.ref 633, .int n, .ref 649]) (M1 := M) 1 (fun n => rfl) ?_
        refine Ev.step 1 (gs_3 rfl rfl (gf_65 hM h16)) ?_
        refine Ev.step (pc' := 307) (ls' := [some (.ref 633), some (.int x), some (.int c), some (.int t), some (.int n), some (.int k), (some (.int w)), (some (.int u))]) (st' := [.int k, .ref 646, .int n, .ref 649]) (M1 := M) 1 (fun n => rfl) ?_
        refine Ev.step 1 (gs_3 rfl rfl (ia_g hsg hs)) ?_
        refine Ev.step (pc' := if sv = 61 then 313 else 333) (ls' := [some (.ref 633), some (.int x), some (.int c), some (.int t), some (.int n), some (.int k), (some (.int w)), (some (.int u))]) (st' := [.int n, .ref 649]) (M1 := M) 2 (fun n => rfl) ?_
        rw [if_pos h2]
        refine Ev.step (pc' := 316) (ls' := [some (.ref 633), some (.int x), some (.int c), some (.int t), some (.int n), some (.int k), (some (.int w)), (some (.int u))]) (st' := [.ref 633, .int u, .int n, .ref 649]) (M1 := M) 2 (fun n => rfl) ?_
        refine Ev.step 1 (gs_3 rfl rfl (gf_68 hM h17)) ?_
        refine Ev.step (pc' := 321) (ls' := [some (.ref 633), some (.int x), some (.int c), some (.int t), some (.int n), some (.int k), (some (.int w)), (some (.int u))]) (st' := [.int k, .ref 647, .int u, .int n, .ref 649]) (M1 := M) 1 (fun n => rfl) ?_
        refine Ev.step 1 (gs_3 rfl rfl (ia_g hnm hn)) ?_
        refine Ev.step (pc' := if u = nv then 325 else 329) (ls' := [some (.ref 633), some (.int x), some (.int c), some (.int t), some (.int n), some (.int k), (some (.int w)), (some (.int u))]) (st' := [.int n, .ref 649]) (M1 := M) 1 (fun n => rfl) ?_
        rw [if_neg h3]
        exact Ev.step (pc' := 350) (ls' := [some (.ref 633), some (.int x), some (.int c), some (.int t), some (.int n), some (.int k), (some (.int w)), (some (.int u))]) (st' := [.int 0, .int n, .ref 649]) (M1 := M) 2 (fun n => rfl) hz
    by_cases h3 : u ≤ nv
    · refine ⟨0, fun hz => hd ?_⟩
      refine Ev.step (pc' := 270) (ls' := [some (.ref 633), some (.int x), some (.int c), some (.int t), some (.int n), some (.int k), (some (.int w)), (some (.int u))]) (st' := [.ref 633, .int n, .ref 649]) (M1 := M) 1 (fun n => rfl) ?_
      refine Ev.step 1 (gs_3 rfl rfl (gf_65 hM h16)) ?_
      refine Ev.step (pc' := 275) (ls' := [some (.ref 633), some (.int x), some (.int c), some (.int t), some (.int n), some (.int k), (some (.int w)), (some (.int u))]) (st' := [.int k, .ref 646, .int n, .ref 649]) (M1 := M) 1 (fun n => rfl) ?_
      refine Ev.step 1 (gs_3 rfl rfl (ia_g hsg hs)) ?_
      refine Ev.step (pc' := if sv = 60 then 281 else 301) (ls' := [some (.ref 633), some (.int x), some (.int c), some (.int t), some (.int n), some (.int k), (some (.int w)), (some (.int u))]) (st' := [.int n, .ref 649]) (M1 := M) 2 (fun n => rfl) ?_
      rw [if_neg h1]
      refine Ev.step (pc' := 302) (ls' := [some (.ref 633), some (.int x), some (.int c), some (.int t), some (.int n), some (.int k), (some (.int w)), (some (.int u))]) (st' := [.ref 633, .int n, .ref 649]) (M1 := M) 1 (fun n => rfl) ?_
      refine Ev.step 1 (gs_3 rfl rfl (gf_65 hM h16)) ?_
      refine Ev.step (pc' := 307) (ls' := [some (.ref 633), some (.int x), some (.int c), some (.int t), some (.int n), some (.int k), (some (.int w)), (some (.int u))]) (st' := [.int k, .ref 646, .int n, .ref 649]) (M1 := M) 1 (fun n => rfl) ?_
      refine Ev.step 1 (gs_3 rfl rfl (ia_g hsg hs)) ?_
      refine Ev.step (pc' := if sv = 61 then 313 else 333) (ls' := [some (.ref 633), some (.int x), some (.int c), some (.int t), some (.int n), some (.int k), (some (.int w)), (some (.int u))]) (st' := [.int n, .ref 649]) (M1 := M) 2 (fun n => rfl) ?_
      rw [if_neg h2]
      refine Ev.step (pc' := 336) (ls' := [some (.ref 633), some (.int x), some (.int c), some (.int t), some (.int n), some (.int k), (some (.int w)), (some (.int u))]) (st' := [.ref 633, .int u, .int n, .ref 649]) (M1 := M) 2 (fun n => rfl) ?_
      refine Ev.step 1 (gs_3 rfl rfl (gf_68 hM h17)) ?_
      refine Ev.step (pc' := 341) (ls' := [some (.ref 633), some (.int x), some (.int c), some (.int t), some (.int n), some (.int k), (some (.int w)), (some (.int u))]) (st' := [.int k, .ref 647, .int u, .int n, .ref 649]) (M1 := M) 1 (fun n => rfl) ?_
      refine Ev.step 1 (gs_3 rfl rfl (ia_g hnm hn)) ?_
      refine Ev.step (pc' := if u ≤ nv then 349 else 345) (ls' := [some (.ref 633), some (.int x), some (.int c), some (.int t), some (.int n), some (.int k), (some (.int w)), (some (.int u))]) (st' := [.int n, .ref 649]) (M1 := M) 1 (fun n => rfl) ?_
      rw [if_pos h3]
      exact Ev.step (pc' := 350) (ls' := [some (.ref 633), some (.int x), some (.int c), some (.int t), some (.int n), some (.int k), (some (.int w)), (some (.int u))]) (st' := [.int 0, .int n, .ref 649]) (M1 := M) 1 (fun n => rfl) hz
    · refine ⟨1, fun hz => hd ?_⟩
      refine Ev.step (pc' := 270) (ls' := [some (.ref 633), some (.int x), some (.int c), some (.int t), some (.int n), some (.int k), (some (.int w)), (some (.int u))]) (st' := [.ref 633, .int n, .ref 649]) (M1 := M) 1 (fun n => rfl) ?_
      refine Ev.step 1 (gs_3 rfl rfl (gf_65 hM h16)) ?_
      refine Ev.step (pc' := 275) (ls' := [some (.ref 633), some (.int x), some (.int c), some (.int t), some (.int n), some (.int k), (some (.int w)), (some (.int u))]) (st' := [.int k, .ref 646, .int n, .ref 649]) (M1 := M) 1 (fun n => rfl) ?_
      refine Ev.step 1 (gs_3 rfl rfl (ia_g hsg hs)) ?_
      refine Ev.step (pc' := if sv = 60 then 281 else 301) (ls' := [some (.ref 633), some (.int x), some (.int c), some (.int t), some (.int n), some (.int k), (some (.int w)), (some (.int u))]) (st' := [.int n, .ref 649]) (M1 := M) 2 (fun n => rfl) ?_
      rw [if_neg h1]
      refine Ev.step (pc' := 302) (ls' := [some (.ref 633), some (.int x), some (.int c), some (.int t), some (.int n), some (.int k), (some (.int w)), (some (.int u))]) (st' := [.ref 633, .int n, .ref 649]) (M1 := M) 1 (fun n => rfl) ?_
      refine Ev.step 1 (gs_3 rfl rfl (gf_65 hM h16)) ?_
      refine Ev.step (pc' := 307) (ls' := [some (.ref 633), some (.int x), some (.int c), some (.int t), some (.int n), some (.int k), (some (.int w)), (some (.int u))]) (st' := [.int k, .ref 646, .int n, .ref 649]) (M1 := M) 1 (fun n => rfl) ?_
      refine Ev.step 1 (gs_3 rfl rfl (ia_g hsg hs)) ?_
      refine Ev.step (pc' := if sv = 61 then 313 else 333) (ls' := [some (.ref 633), some (.int x), some (.int c), some (.int t), some (.int n), some (.int k), (some (.int w)), (some (.int u))]) (st' := [.int n, .ref 649]) (M1 := M) 2 (fun n => rfl) ?_
      rw [if_neg h2]
      refine Ev.step (pc' := 336) (ls' := [some (.ref 633), some (.int x), some (.int c), some (.int t), some (.int n), some (.int k), (some (.int w)), (some (.int u))]) (st' := [.ref 633, .int u, .int n, .ref 649]) (M1 := M) 2 (fun n => rfl) ?_
      refine Ev.step 1 (gs_3 rfl rfl (gf_68 hM h17)) ?_
      refine Ev.step (pc' := 341) (ls' := [some (.ref 633), some (.int x), some (.int c), some (.int t), some (.int n), some (.int k), (some (.int w)), (some (.int u))]) (st' := [.int k, .ref 647, .int u, .int n, .ref 649]) (M1 := M) 1 (fun n => rfl) ?_
      refine Ev.step 1 (gs_3 rfl rfl (ia_g hnm hn)) ?_
      refine Ev.step (pc' := if u ≤ nv then 349 else 345) (ls' := [some (.ref 633), some (.int x), some (.int c), some (.int t), some (.int n), some (.int k), (some (.int w)), (some (.int u))]) (st' := [.int n, .ref 649]) (M1 := M) 1 (fun n => rfl) ?_
      rw [if_neg h3]
      exact Ev.step (pc' := 350) (ls' := [some (.ref 633), some (.int x), some (.int c), some (.int t), some (.int n), some (.int k), (some (.int w)), (some (.int u))]) (st' := [.int 1, .int n, .ref 649]) (M1 := M) 2 (fun n => rfl) hz
  · rw [if_neg h0] at hd
    obtain ⟨r, hr⟩ := run_is (d := e) (kk := w) hT hc
    refine ⟨r, fun hz => hd ?_⟩
    refine Ev.step (pc' := 263) (ls' := [some (.ref 633), some (.int x), some (.int c), some (.int t), some (.int n), some (.int k), (some (.int w)), (some (.int u))]) (st' := [.int w, .int c, .ref 633, .int n, .ref 649]) (M1 := M) 3 (fun n => rfl) ?_
    refine Ev.call0 (fun n => gs_7 rfl rfl (cal_is hM rfl)) hr ?_
    exact Ev.step (pc' := 350) (ls' := [some (.ref 633), some (.int x), some (.int c), some (.int t), some (.int n), some (.int k), (some (.int w)), (some (.int u))]) (st' := [.int r, .int n, .ref 649]) (M1 := M) 1 (fun n => rfl) hz
end HOL3
/-! BY HAND: the reference's holds, put together -/
theorem at_nn {α : Type} {l : List α} {j : Int32} {kn : Nat} (h : j.toInt = (kn : Int)) : gAt l j = gNth l kn := by
  obtain ⟨h1, h2⟩ := clp_of (x := j) (a := 0) (b := j.toInt) ⟨by omega, Int.le_refl _⟩ (Int.le_refl _)
  have h3 : j.toNatClampNeg = kn := by omega
  unfold gAt
  rw [h1, h3]
  rfl
theorem i32_p1 {n : Int32} (h : n.toInt ≤ 2147483646) : (n + 1).toInt = n.toInt + 1 := by
  have o : (1 : Int32).toInt = 1 := rfl
  have := i32_lt n
  rw [i32_add (by omega) (by omega), o]
theorem i32_m1 {n : Int32} (h : -2147483647 ≤ n.toInt) : (n - 1).toInt = n.toInt - 1 := by
  have o : (1 : Int32).toInt = 1 := rfl
  have := i32_lt n
  rw [i32_sub (by omega) (by omega), o]
theorem i32_a1 {n : Int32} (h : -2147483647 ≤ n.toInt) : (n + -1).toInt = n.toInt - 1 := by
  have o : (-1 : Int32).toInt = -1 := rfl
  have := i32_lt n
  rw [i32_add (by omega) (by omega), o]
  rfl
set_option maxRecDepth 100000 in
theorem sT_649 : gNth sT 649 = some 77 := by decide +kernel
set_option maxRecDepth 100000 in
theorem sT_646 : gNth sT 646 = some 74 := by decide +kernel
set_option maxRecDepth 100000 in
theorem sT_647 : gNth sT 647 = some 75 := by decide +kernel
set_option maxRecDepth 100000 in
theorem rw_77 : rwB 77 3 60 0 1 = true := by decide +kernel
set_option maxRecDepth 100000 in
theorem rw_74 : rwB 74 1 1600 (-2147483648) 2147483647 = true := by decide +kernel
set_option maxRecDepth 100000 in
theorem rw_75 : rwB 75 1 1600 (-2147483648) 2147483647 = true := by decide +kernel
set_option maxRecDepth 100000 in
theorem rw_71 : rwB 71 1 128 0 200 = true := by decide +kernel
set_option maxRecDepth 100000 in
theorem rw_72 : rwB 72 1 128 0 200 = true := by decide +kernel
set_option maxRecDepth 100000 in
theorem mf_h : (mfB 13 71 && mfB 14 72 && mfB 15 73 && mfB 16 74 && mfB 17 75 && mfB 33 77) = true := by decide +kernel
set_option maxRecDepth 100000 in
theorem sU_h : gNth sU 71 = some (some 643) ∧ gNth sU 72 = some (some 644) ∧ gNth sU 73 = some (some 645) ∧ gNth sU 74 = some (some 646) ∧ gNth sU 75 = some (some 647) ∧ gNth sU 77 = some (some 649) := by refine ⟨?_, ?_, ?_, ?_, ?_, ?_⟩ <;> decide +kernel
theorem TM.hol {M : Mem} (hT : TM sT sG M) : ∃ vs tr sg nm, gNth M 633 = some (.inr (11, vs)) ∧ gNth vs 13 = some (.ref 643) ∧ gNth vs 14 = some (.ref 644) ∧ gNth vs 15 = some (.ref 645) ∧ gNth vs 16 = some (.ref 646) ∧ gNth vs 17 = some (.ref 647) ∧ gNth vs 33 = some (.ref 649) ∧ gNth M 649 = some (.inl (3, .inl tr)) ∧ tr.length = 60 ∧ (∀ j x, gNth tr j = some x → 0 ≤ x.toInt ∧ x.toInt ≤ 1) ∧ gNth M 646 = some (.inl (1, .inl sg)) ∧ sg.length = 1600 ∧ gNth M 647 = some (.inl (1, .inl nm)) ∧ nm.length = 1600 := by
  obtain ⟨vs, hM, hv⟩ := hT.mfld
  obtain ⟨h, a6⟩ := and_t mf_h
  obtain ⟨h, a5⟩ := and_t h
  obtain ⟨h, a4⟩ := and_t h
  obtain ⟨h, a3⟩ := and_t h
  obtain ⟨a1, a2⟩ := and_t h
  obtain ⟨u1, u2, u3, u4, u5, u6⟩ := sU_h
  obtain ⟨tr, t1, t2, t3⟩ := hT.mrow sT_649 rw_77
  obtain ⟨sg, s1, s2, _⟩ := hT.mrow sT_646 rw_74
  obtain ⟨nm, n1, n2, _⟩ := hT.mrow sT_647 rw_75
  exact ⟨vs, tr, sg, nm, hM, hv _ _ _ a1 u1, hv _ _ _ a2 u2, hv _ _ _ a3 u3, hv _ _ _ a4 u4, hv _ _ _ a5 u5, hv _ _ _ a6 u6, t1, t2, t3, s1, s2, n1, n2⟩
set_option maxRecDepth 100000 in
theorem hol_put {M : Mem} {tr : List Int32} (hT : TM sT sG M) (htr : gNth M 649 = some (.inl (3, .inl tr))) (tl : tr.length = 60) (tx : ∀ j x, gNth tr j = some x → 0 ≤ x.toInt ∧ x.toInt ≤ 1) (z : Int32) (j : Nat) : TM sT sG (gPut M 649 (.inl (3, .inl (gPut tr j (vp_nar .boolean z))))) ∧ Frm sT [(1077, 0)] M (gPut M 649 (.inl (3, .inl (gPut tr j (vp_nar .boolean z))))) ∧ gNth (gPut M 649 (.inl (3, .inl (gPut tr j (vp_nar .boolean z))))) 644 = gNth M 644 ∧ gNth (gPut M 649 (.inl (3, .inl (gPut tr j (vp_nar .boolean z))))) 645 = gNth M 645 := by
  refine ⟨hT.putrow (n := 60) (lo := 0) (hi := 1) sT_649 (by decide +kernel) (by rw [put_len]; exact tl) (fun i y hy => ?_), Frm.row htr sT_649 (List.mem_singleton.mpr rfl), ?_, ?_⟩
  · rw [nth_put] at hy
    split at hy
    · cases hy
      exact nar_z z
    · exact tx i y hy
  · rw [nth_put, if_neg (fun q => absurd q.1 (by decide))]
  · rw [nth_put, if_neg (fun q => absurd q.1 (by decide))]
theorem hol_loop {e : Nat} {x c t tt : Int32} {lt ls : List Int32} (hc : 0 ≤ c.toInt ∧ c.toInt ≤ 255) (htt : gAt lt x = some tt) (hE : (200 * t + tt).toInt ≤ 1600) : ∀ (m kn : Nat) (M : Mem) (n k : Int32) (a b : Option Value), TM sT sG M → gNth M 644 = some (.inl (1, .inl lt)) → gNth M 645 = some (.inl (1, .inl ls)) → k.toInt = (kn : Int) → k.toInt + (m : Int) = (200 * t + tt).toInt → 0 ≤ n.toInt → n.toInt ≤ 60 → okS m ls kn n.toInt → ∃ (r : Int32) (M' : Mem), Ev none (e + 4) 187 39 [some (.ref 633), some (.int x), some (.int c), some (.int t), some (.int n), some (.int k), a, b] [] M (some (.int r)) M' 0 0 ∧ TM sT sG M' ∧ Frm sT [(1077, 0)] M M' ∧ 0 ≤ r.toInt ∧ r.toInt ≤ 1 := by
  intro m
  induction m with
  | zero =>
    intro kn M n k a b hT hto hst hk hm hn0 hn1 hok
    obtain ⟨vs, tr, sg, nm, hM, h13, h14, h15, h16, h17, h33, htr, tl, tx, _, _, _, _⟩ := hT.hol
    obtain ⟨y, hy, hy2, _⟩ := at_of (x := 0) tl (by decide) (by decide)
    obtain ⟨y0, y1⟩ := tx _ _ hy2
    refine ⟨y, M, hol_39 hM h14 hto htt ?_, hT, Frm.refl M, y0, y1⟩
    rw [if_pos (by rw [Int32.le_iff_toInt_le]; omega)]
    refine hol_360 hM h33 htr hy ?_
    rcases Int.lt_or_le 0 y.toInt with h | h
    · exact Or.inr (Int32.toInt_inj.mp (show y.toInt = 1 by omega))
    · exact Or.inl (Int32.toInt_inj.mp (show y.toInt = 0 by omega))
  | succ m ih =>
    intro kn M n k a b hT hto hst hk hm hn0 hn1 hok
    obtain ⟨vs, tr, sg, nm, hM, h13, h14, h15, h16, h17, h33, htr, tl, tx, hsg, sl, hnm, nl⟩ := hT.hol
    obtain ⟨w, hw, hcs⟩ := hok
    have hwk : gAt ls k = some w := by rw [at_nn hk]; exact hw
    have hm : k.toInt + ((m : Int) + 1) = (200 * t + tt).toInt := hm
    have e1 : (k + 1).toInt = k.toInt + 1 := i32_p1 (by omega)
    have hk1 : (k + 1).toInt = ((kn + 1 : Nat) : Int) := by omega
    have hm1 : (k + 1).toInt + (m : Int) = (200 * t + tt).toInt := by omega
    have hle : ¬ 200 * t + tt ≤ k := by rw [Int32.le_iff_toInt_le]; omega
    rcases hcs with ⟨rfl, g1, hok⟩ | ⟨g0, g1, g2, hok⟩ | ⟨g0, g1, g2, g3, hok⟩
    · obtain ⟨n1, en⟩ : ∃ n1, n1 = n - 1 := ⟨_, rfl⟩
      have e2 : n1.toInt = n.toInt - 1 := by rw [en]; exact i32_m1 (by omega)
      obtain ⟨y, hy, _⟩ := at_of (x := n1) tl (by omega) (by omega)
      obtain ⟨p1, p2, p3, p4⟩ := hol_put hT htr tl tx (if y = 0 then 1 else 0) n1.toNatClampNeg
      obtain ⟨r, M', q1, q2, q3, q4⟩ := ih (kn + 1) _ n (k + 1) (some (.int 20)) b p1 (p3.trans hto) (p4.trans hst) hk1 hm1 hn0 hn1 hok
      refine ⟨r, M', hol_39 hM h14 hto htt ?_, q2, p2.trans q3, q4⟩
      rw [if_neg hle]
      refine hol_56 hM h15 hst hwk ?_
      rw [if_pos rfl]
      rw [en] at hy q1
      exact hol_72 hM h33 htr hy (hol_s97 htr hy (hol_354 q1))
    · obtain ⟨n1, en⟩ : ∃ n1, n1 = n + -1 := ⟨_, rfl⟩
      have e2 : n1.toInt = n.toInt - 1 := by rw [en]; exact i32_a1 (by omega)
      obtain ⟨n2, en2⟩ : ∃ n2, n2 = n1 - 1 := ⟨_, rfl⟩
      have e3 : n2.toInt = n1.toInt - 1 := by rw [en2]; exact i32_m1 (by omega)
      obtain ⟨y, hy, _⟩ := at_of (x := n2) tl (by omega) (by omega)
      obtain ⟨y2, hy2, _⟩ := at_of (x := n1) tl (by omega) (by omega)
      have hok1 : okS m ls (kn + 1) n1.toInt := by rw [e2]; exact hok
      by_cases h21 : w = 21
      · obtain ⟨p1, p2, p3, p4⟩ := hol_put hT htr tl tx (if y = 0 then 0 else if y2 = 0 then 0 else 1) n2.toNatClampNeg
        obtain ⟨r, M', q1, q2, q3, q4⟩ := ih (kn + 1) _ n1 (k + 1) (some (.int w)) b p1 (p3.trans hto) (p4.trans hst) hk1 hm1 (by omega) (by omega) hok1
        refine ⟨r, M', hol_39 hM h14 hto htt ?_, q2, p2.trans q3, q4⟩
        rw [if_neg hle]
        refine hol_56 hM h15 hst hwk ?_
        rw [if_neg g0]
        refine hol_101 g1 (fun _ => hol_115 hM h33 htr ?_)
        rw [if_pos h21, ← en]
        rw [en2] at hy q1
        exact hol_133 hM h33 htr hy hy2 (hol_s190 htr hy (hol_354 q1))
      · obtain ⟨p1, p2, p3, p4⟩ := hol_put hT htr tl tx (if y = 0 then if y2 = 0 then 0 else 1 else 1) n2.toNatClampNeg
        obtain ⟨r, M', q1, q2, q3, q4⟩ := ih (kn + 1) _ n1 (k + 1) (some (.int w)) b p1 (p3.trans hto) (p4.trans hst) hk1 hm1 (by omega) (by omega) hok1
        refine ⟨r, M', hol_39 hM h14 hto htt ?_, q2, p2.trans q3, q4⟩
        rw [if_neg hle]
        refine hol_56 hM h15 hst hwk ?_
        rw [if_neg g0]
        refine hol_101 g1 (fun _ => hol_115 hM h33 htr ?_)
        rw [if_neg h21, ← en]
        rw [en2] at hy q1
        exact hol_163 hM h33 htr hy hy2 (hol_s190 htr hy (hol_354 q1))
    · obtain ⟨n1, en⟩ : ∃ n1, n1 = n + 1 := ⟨_, rfl⟩
      have e2 : n1.toInt = n.toInt + 1 := by rw [en]; exact i32_p1 (by omega)
      obtain ⟨y, hy, _⟩ := at_of (x := n) tl (by omega) (by omega)
      obtain ⟨sv, hsv, _⟩ := at_of (x := k) sl (by omega) (by omega)
      obtain ⟨nv, hnv, _⟩ := at_of (x := k) nl (by omega) (by omega)
      obtain ⟨r1, f1⟩ := hol_194 (x := x) (t := t) (n := n) (k := k) (w := w) (b := b) (e := e) hM hT hc
      obtain ⟨r2, f2⟩ := hol_244 (x := x) (t := t) (n := n) (k := k) (w := w) (b := b) (e := e) (u := r1) hM h33 h16 h17 hsg hnm hsv hnv hT hc
      obtain ⟨p1, p2, p3, p4⟩ := hol_put hT htr tl tx r2 n.toNatClampNeg
      obtain ⟨r, M', q1, q2, q3, q4⟩ := ih (kn + 1) _ n1 (k + 1) (some (.int w)) (some (.int r1)) p1 (p3.trans hto) (p4.trans hst) hk1 hm1 (by omega) (by omega) (by rw [e2]; exact hok)
      refine ⟨r, M', hol_39 hM h14 hto htt ?_, q2, p2.trans q3, q4⟩
      rw [if_neg hle]
      refine hol_56 hM h15 hst hwk ?_
      rw [if_neg g0]
      rw [en] at q1
      exact hol_101e g1 g2 (f1 (f2 (hol_s350 htr hy (hol_354 q1))))
/-! BY HAND: the contract of the reference's holds -/
def kX11_holds : CN := (187, 4, [.inr 1900, .inl (.ofNat 0, .ofNat 127), .inl (.ofNat 0, .ofNat 255)], [], [(22, [([(2, .ofNat 1)], .ofNat 0)])], [(1077, 0)], [(some (.inl (.ofNat 0, .ofNat 1)), [], [], [], [])])
set_option maxRecDepth 100000 in
theorem mR_187 : (gNth mRs 187).map (fun q => q.2.2.2.1) = some 8 := by decide +kernel
section HOL4
variable {M : Mem} {vs : List Value} {x c f tt : Int32} {e : Nat} {v : Option Value} {M' : Mem} {lf lt : List Int32}
theorem hol_0 (hM : gNth M 633 = some (.inr (11, vs))) (h13 : gNth vs 13 = some (.ref 643)) (h14 : gNth vs 14 = some (.ref 644)) (hf : gNth M 643 = some (.inl (1, .inl lf))) (ht : gNth M 644 = some (.inl (1, .inl lt))) (hff : gAt lf x = some f) (htt : gAt lt x = some tt) (hz : Ev none (e + 4) 187 (if f = tt then 20 else 22) [some (.ref 633), some (.int x), some (.int c), some (.int (x / 16)), none, none, none, none] [] M v M' 0 0) : Ev none (e + 4) 187 0 [some (.ref 633), some (.int x), some (.int c), none, none, none, none, none] [] M v M' 0 0 := by
  refine Ev.step (pc' := 6) (ls' := [some (.ref 633), some (.int x), some (.int c), some (.int (x / 16)), none, none, none, none]) (st' := [.ref 633]) (M1 := M) 5 (fun n => rfl) ?_
  refine Ev.step 1 (gs_3 rfl rfl (gf_56 hM h13)) ?_
  refine Ev.step (pc' := 10) (ls' := [some (.ref 633), some (.int x), some (.int c), some (.int (x / 16)), none, none, none, none]) (st' := [.int x, .ref 643]) (M1 := M) 1 (fun n => rfl) ?_
  refine Ev.step 1 (gs_3 rfl rfl (ia_g hf hff)) ?_
  refine Ev.step (pc' := 12) (ls' := [some (.ref 633), some (.int x), some (.int c), some (.int (x / 16)), none, none, none, none]) (st' := [.ref 633, .int f]) (M1 := M) 1 (fun n => rfl) ?_
  refine Ev.step 1 (gs_3 rfl rfl (gf_59 hM h14)) ?_
  refine Ev.step (pc' := 16) (ls' := [some (.ref 633), some (.int x), some (.int c), some (.int (x / 16)), none, none, none, none]) (st' := [.int x, .ref 644, .int f]) (M1 := M) 1 (fun n => rfl) ?_
  refine Ev.step 1 (gs_3 rfl rfl (ia_g ht htt)) ?_
  exact Ev.step (pc' := if f = tt then 20 else 22) (ls' := [some (.ref 633), some (.int x), some (.int c), some (.int (x / 16)), none, none, none, none]) (st' := []) (M1 := M) 1 (fun n => rfl) hz
theorem hol_20 : Ev none (e + 4) 187 20 [some (.ref 633), some (.int x), some (.int c), some (.int (x / 16)), none, none, none, none] [] M (some (.int 1)) M 0 0 := by
  refine Ev.step (pc' := 21) (ls' := [some (.ref 633), some (.int x), some (.int c), some (.int (x / 16)), none, none, none, none]) (st' := [.int 1]) (M1 := M) 1 (fun n => rfl) ?_
  exact Ev.ret (fun n => rfl)
theorem hol_22 (hM : gNth M 633 = some (.inr (11, vs))) (h13 : gNth vs 13 = some (.ref 643)) (hf : gNth M 643 = some (.inl (1, .inl lf))) (hff : gAt lf x = some f) (hz : Ev none (e + 4) 187 39 [some (.ref 633), some (.int x), some (.int c), some (.int (x / 16)), some (.int 0), some (.int (200 * (x / 16) + f)), none, none] [] M v M' 0 0) : Ev none (e + 4) 187 22 [some (.ref 633), some (.int x), some (.int c), some (.int (x / 16)), none, none, none, none] [] M v M' 0 0 := by
  refine Ev.step (pc' := 31) (ls' := [some (.ref 633), some (.int x), some (.int c), some (.int (x / 16)), some (.int 0), none, none, none]) (st' := [.ref 633, .int (200 * (x / 16))]) (M1 := M) 6 (fun n => rfl) ?_
  refine Ev.step 1 (gs_3 rfl rfl (gf_56 hM h13)) ?_
  refine Ev.step (pc' := 35) (ls' := [some (.ref 633), some (.int x), some (.int c), some (.int (x / 16)), some (.int 0), none, none, none]) (st' := [.int x, .ref 643, .int (200 * (x / 16))]) (M1 := M) 1 (fun n => rfl) ?_
  refine Ev.step 1 (gs_3 rfl rfl (ia_g hf hff)) ?_
  exact Ev.step (pc' := 39) (ls' := [some (.ref 633), some (.int x), some (.int c), some (.int (x / 16)), some (.int 0), some (.int (200 * (x / 16) + f)), none, none]) (st' := []) (M1 := M) 2 (fun n => rfl) hz
end HOL4
theorem kX11_holds_ok : cnOK sT sG FL0 kX11_holds := by
  intro d M ws q hd hq ha hp hT
  have hm := mR_187
  have hq' : gNth mRs 187 = some q := hq
  rw [hq'] at hm
  have hm : q.2.2.2.1 = 8 := Option.some.inj hm
  obtain ⟨e, rfl⟩ : ∃ e, d = e + 4 := ⟨d - 4, by have : 4 ≤ d := hd; omega⟩
  rcases ws with _ | ⟨a, _ | ⟨b, _ | ⟨b2, _ | ⟨b3, r⟩⟩⟩⟩
  · exact ha.elim
  · exact ha.2.elim
  · exact ha.2.2.elim
  · obtain ⟨k1, ⟨x, rfl, x1, x2⟩, ⟨c, rfl, c1, c2⟩, _⟩ := ha
    have k1 : a = .ref 633 := k1
    subst k1
    have x1 : 0 ≤ x.toInt := x1
    have x2 : x.toInt ≤ 127 := x2
    obtain ⟨hv, hv0, hfl⟩ := hp
    have hv0 : hv = [] := by
      cases hv with
      | nil => rfl
      | cons _ _ => exact hv0.elim
    subst hv0
    obtain ⟨ys, hy, hF⟩ := hfl _ (List.mem_cons_self ..)
    rcases ys with _ | ⟨y, _ | ⟨y2, ys⟩⟩
    · exact hy.elim
    rotate_left
    · exact hy.2.elim
    obtain ⟨⟨z, hz1, hz2⟩, _⟩ := hy
    have hz1 : some (1 * x.toInt + 0) = some z := hz1
    have hz2 : y = z + 0 := hz2
    have hyx : y = x.toInt := by
      have := Option.some.inj hz1
      omega
    subst hyx
    have hF : FL0 22 [x.toInt] M := hF
    have hL : lnP [x.toInt] M := fl0_22 hF
    obtain ⟨x', f, tt, lf, lt, ls, w1, w2, w3, w4, w5, w6, w7⟩ := hL
    cases Int32.toInt_inj.mp (List.cons.inj w1).1
    obtain ⟨vs, tr, sg, nm, hM, h13, h14, h15, h16, h17, h33, htr, tl, tx, hsg, sl, hnm, nl⟩ := hT.hol
    obtain ⟨lf2, r1, r2, r3⟩ := hT.mrow sT_643 rw_71
    obtain ⟨lt2, s1, s2, s3⟩ := hT.mrow sT_644 rw_72
    rw [w2] at r1
    cases r1
    rw [w3] at s1
    cases s1
    have f2 := r3 _ _ (at_ok w5).2
    have t2 := s3 _ _ (at_ok w6).2
    rw [hm]
    by_cases h0 : f = tt
    · refine ⟨some (.int 1), M, ?_, hT, Frm.refl M, _, List.mem_cons_self .., ⟨⟨1, rfl, by decide, by decide⟩, fun q hq => (by cases hq), [], trivial, fun q hq => (by cases hq), fun q hq => (by cases hq)⟩, fun h => absurd (show (187 : Nat) = 205 from h) (by decide)⟩
      refine hol_0 hM h13 h14 w2 w3 w5 w6 ?_
      rw [if_pos h0]
      exact hol_20
    · obtain ⟨m, k, g1, g2, g3⟩ := w7.resolve_left h0
      have o16 : (16 : Int32).toInt = 16 := rfl
      have o200 : (200 : Int32).toInt = 200 := rfl
      obtain ⟨t, et⟩ : ∃ t, t = x / 16 := ⟨_, rfl⟩
      have d1 : t.toInt = x.toInt / 16 := by
        rw [et, i32_div (by rw [o16]; decide), o16]
        exact Int.tdiv_eq_ediv_of_nonneg x1
      rw [← et] at g2
      have d2 : (200 * t).toInt = 200 * t.toInt := by
        rw [i32_mul (by rw [o200]; omega) (by rw [o200]; omega), o200]
      have d3 : (200 * t + tt).toInt = 200 * t.toInt + tt.toInt := by
        rw [i32_add (by omega) (by omega), d2]
      have d4 : (200 * t + f).toInt = 200 * t.toInt + f.toInt := by
        rw [i32_add (by omega) (by omega), d2]
      obtain ⟨r, M', q1, q2, q3, q4, q5⟩ := hol_loop (e := e) (x := x) (c := c) (t := t) ⟨c1, c2⟩ w6 (by omega) m k M 0 (200 * t + f) none none hT w3 w4 (by omega) (by omega) (by decide) (by decide) g3
      refine ⟨some (.int r), M', ?_, q2, q3, _, List.mem_cons_self .., ⟨⟨r, rfl, q4, q5⟩, fun q hq => (by cases hq), [], trivial, fun q hq => (by cases hq), fun q hq => (by cases hq)⟩, fun h => absurd (show (187 : Nat) = 205 from h) (by decide)⟩
      refine hol_0 hM h13 h14 w2 w3 w5 w6 ?_
      rw [if_neg h0]
      rw [et] at q1
      exact hol_22 hM h13 w2 w5 q1
  · exact ha.2.2.2.elim
/-! BY HAND: walkers of the reference are laid one place down: the row s keeps its ranges -/
noncomputable def shB : Bool := match gNth sG 63 with
  | some (.inr (1, 2314, .inl sg)) => (List.range 354).all (fun j => match sgAt sg (158 + j), sgAt sg (164 + j) with
    | some p, some q => decide (p.1 ≤ q.1) && decide (q.2 ≤ p.2)
    | _, _ => false) && (List.range 360).all (fun j => match sgAt sg (158 + j) with
    | some p => decide (p.1 ≤ 0) && decide (0 ≤ p.2)
    | _ => false)
  | _ => false
set_option maxRecDepth 100000 in
theorem shB_ok : shB = true := by decide +kernel
theorem TM.s_put {M : Mem} (hT : TM sT sG M) {l : List Int32} (hM : gNth M 635 = some (.inl (1, .inl l))) {i : Nat} {y : Int32} (h1 : 158 ≤ i) (h : (i < 512 ∧ gNth l (i + 6) = some y) ∨ (i < 518 ∧ y = 0)) : TM sT sG (gPut M 635 (.inl (1, .inl (gPut l i y)))) := by
  have hB := shB_ok
  unfold shB at hB
  split at hB
  rotate_left
  · cases hB
  rename_i sg e
  obtain ⟨b1, b2⟩ := and_t hB
  obtain ⟨e1, e2, e3⟩ := hT.at sT_635 e
  rw [hM] at e2
  cases e2
  obtain ⟨l', e4, l1, l2⟩ := ct_int (by decide) e3
  cases e4
  refine hT.put (fun g2 t w1 w2 => ?_)
  rw [sT_635] at w1
  cases w1
  rw [e] at w2
  cases w2
  refine ct_mk (by decide) (by rw [put_len]; exact l1) (fun j x hj => ?_)
  rw [nth_put] at hj
  split at hj
  · rename_i hc
    cases hj
    obtain ⟨rfl, _⟩ := hc
    rcases h with ⟨h2, h3⟩ | ⟨h2, rfl⟩
    · obtain ⟨q, q1, q2, q3⟩ := l2 _ _ h3
      have h4 := List.all_eq_true.mp b1 (j - 158) (List.mem_range.mpr (by omega))
      have a1 : 158 + (j - 158) = j := by omega
      have a2 : 164 + (j - 158) = j + 6 := by omega
      rw [a1, a2, q1] at h4
      cases hp : sgAt sg j with
      | none => rw [hp] at h4; cases h4
      | some p => ?_
      rw [hp] at h4
      obtain ⟨h5, h6⟩ := and_t h4
      have h5 := of_decide_eq_true h5
      have h6 := of_decide_eq_true h6
      exact ⟨p, rfl, by omega, by omega⟩
    · have h4 := List.all_eq_true.mp b2 (j - 158) (List.mem_range.mpr (by omega))
      have a1 : 158 + (j - 158) = j := by omega
      rw [a1] at h4
      cases hp : sgAt sg j with
      | none => rw [hp] at h4; cases h4
      | some p => ?_
      rw [hp] at h4
      obtain ⟨h5, h6⟩ := and_t h4
      exact ⟨p, rfl, of_decide_eq_true h5, of_decide_eq_true h6⟩
  · exact l2 j x hj
/-! BY HAND: the reference's leave(k) -/
section G74
variable {M : Mem} {vs : List Value} {l : List Int32}
theorem gf_g {ix k : Nat} {st : List Value} {ini : Bool} {v : Value} {ty : Nat} (ho : gOwn fRs 11 ix = some (11, k, ty)) (hM : gNth M 633 = some (.inr (11, vs))) (hv : gNth vs k = some v) : gGet (.getfield ix) none 11 ini (.ref 633 :: st) M = some (v :: st, M) := by
  show (match gOwn fRs 11 ix, gNth M 633 with
    | some (ci, k, _), some (.inr (c, fs)) => match Nat.beq c ci, gNth fs k with
      | true, some v => some (v :: st, M)
      | _, _ => none
    | _, _ => none) = _
  rw [ho, hM]
  show (match Nat.beq 11 11, gNth vs k with
    | true, some v => some (v :: st, M)
    | _, _ => none) = _
  rw [hv]
theorem is_g {a : Nat} {st : List Value} {ini : Bool} {j x z : Int32} (hs : gNth M a = some (.inl (1, .inl l))) (h0 : gAt l j = some x) : gGet .iastore none 11 ini (.int z :: .int j :: .ref a :: st) M = some (st, gPut M a (.inl (1, .inl (gPut l j.toNatClampNeg z)))) := by
  show (match gNth M a with
    | some (.inl (1, .inl l)) => match gAt l j with
      | some _ => some (st, gPut M a (.inl (1, .inl (gPut l j.toNatClampNeg z))))
      | none => none
    | _ => none) = _
  rw [hs]
  show (match gAt l j with
      | some _ => some (st, gPut M a (.inl (1, .inl (gPut l j.toNatClampNeg z))))
      | none => none) = _
  rw [h0]
end G74
theorem lv_0 {e : Nat} {M : Mem} {M' : Mem} {v : Option Value} {vs : List Value} {k y1 : Int32} {l635 : List Int32} (hM : gNth M 633 = some (.inr (11, vs))) (v5 : gNth vs 5 = some (.ref 635)) (r635 : gNth M 635 = some (.inl (1, .inl l635))) (g1 : gAt l635 157 = some y1) (hz : Ev none e 205 21 [some (.ref 633), some (.int k), some (.int (158 + (6 * k)))] [] (gPut M 635 (.inl (1, .inl (gPut l635 (157 : Int32).toNatClampNeg (y1 - 1))))) v M' 0 0) : Ev none e 205 0 [some (.ref 633), some (.int k), none] [] M v M' 0 0 := by
  refine Ev.step (pc' := 1) (ls' := [some (.ref 633), some (.int k), none]) (st' := [.ref 633]) (M1 := M) 1 (fun n => rfl) ?_
  refine Ev.step 1 (gs_3 rfl rfl (gf_g rfl hM v5)) ?_
  refine Ev.step (pc' := 8) (ls' := [some (.ref 633), some (.int k), none]) (st' := [.int 157, .ref 635, .int 157, .ref 635]) (M1 := M) 2 (fun n => rfl) ?_
  refine Ev.step 1 (gs_3 rfl rfl (ia_g r635 g1)) ?_
  refine Ev.step (pc' := 11) (ls' := [some (.ref 633), some (.int k), none]) (st' := [.int (y1 - 1), .int 157, .ref 635]) (M1 := M) 2 (fun n => rfl) ?_
  refine Ev.step 1 (gs_4 rfl rfl (is_g r635 g1)) ?_
  refine Ev.step (pc' := 21) (ls' := [some (.ref 633), some (.int k), some (.int (158 + (6 * k)))]) (st' := []) (M1 := (gPut M 635 (.inl (1, .inl (gPut l635 (157 : Int32).toNatClampNeg (y1 - 1)))))) 6 (fun n => rfl) ?_
  exact hz
theorem lv_21 {e : Nat} {M : Mem} {M' : Mem} {v : Option Value} {vs : List Value} {i k y1 : Int32} {l635 : List Int32} (hM : gNth M 633 = some (.inr (11, vs))) (v5 : gNth vs 5 = some (.ref 635)) (r635 : gNth M 635 = some (.inl (1, .inl l635))) (g1 : gAt l635 157 = some y1) (hz : Ev none e 205 (if (158 + (6 * y1)) ≤ i then 61 else 40) [some (.ref 633), some (.int k), some (.int i)] [] M v M' 0 0) : Ev none e 205 21 [some (.ref 633), some (.int k), some (.int i)] [] M v M' 0 0 := by
  refine Ev.step (pc' := 28) (ls' := [some (.ref 633), some (.int k), some (.int i)]) (st' := [.ref 633, .int 6, .int 158, .int i]) (M1 := M) 4 (fun n => rfl) ?_
  refine Ev.step 1 (gs_3 rfl rfl (gf_g rfl hM v5)) ?_
  refine Ev.step (pc' := 34) (ls' := [some (.ref 633), some (.int k), some (.int i)]) (st' := [.int 157, .ref 635, .int 6, .int 158, .int i]) (M1 := M) 1 (fun n => rfl) ?_
  refine Ev.step 1 (gs_3 rfl rfl (ia_g r635 g1)) ?_
  refine Ev.step (pc' := (if (158 + (6 * y1)) ≤ i then 61 else 40)) (ls' := [some (.ref 633), some (.int k), some (.int i)]) (st' := []) (M1 := M) 3 (fun n => rfl) ?_
  exact hz
theorem lv_40 {e : Nat} {M : Mem} {M' : Mem} {v : Option Value} {vs : List Value} {i k y1 y2 : Int32} {l635 : List Int32} (hM : gNth M 633 = some (.inr (11, vs))) (v5 : gNth vs 5 = some (.ref 635)) (r635 : gNth M 635 = some (.inl (1, .inl l635))) (g1 : gAt l635 (i + 6) = some y1) (g2 : gAt l635 i = some y2) (hz : Ev none e 205 21 [some (.ref 633), some (.int k), some (.int (i + 1))] [] (gPut M 635 (.inl (1, .inl (gPut l635 i.toNatClampNeg y1)))) v M' 0 0) : Ev none e 205 40 [some (.ref 633), some (.int k), some (.int i)] [] M v M' 0 0 := by
  refine Ev.step (pc' := 41) (ls' := [some (.ref 633), some (.int k), some (.int i)]) (st' := [.ref 633]) (M1 := M) 1 (fun n => rfl) ?_
  refine Ev.step 1 (gs_3 rfl rfl (gf_g rfl hM v5)) ?_
  refine Ev.step (pc' := 46) (ls' := [some (.ref 633), some (.int k), some (.int i)]) (st' := [.ref 633, .int i, .ref 635]) (M1 := M) 2 (fun n => rfl) ?_
  refine Ev.step 1 (gs_3 rfl rfl (gf_g rfl hM v5)) ?_
  refine Ev.step (pc' := 53) (ls' := [some (.ref 633), some (.int k), some (.int i)]) (st' := [.int (i + 6), .ref 635, .int i, .ref 635]) (M1 := M) 3 (fun n => rfl) ?_
  refine Ev.step 1 (gs_3 rfl rfl (ia_g r635 g1)) ?_
  refine Ev.step 1 (gs_4 rfl rfl (is_g r635 g2)) ?_
  refine Ev.step (pc' := 21) (ls' := [some (.ref 633), some (.int k), some (.int (i + 1))]) (st' := []) (M1 := (gPut M 635 (.inl (1, .inl (gPut l635 i.toNatClampNeg y1))))) 2 (fun n => rfl) ?_
  exact hz
theorem lv_61 {e : Nat} {M : Mem} {M' : Mem} {v : Option Value} {vs : List Value} {i k y1 : Int32} {l635 : List Int32} (hM : gNth M 633 = some (.inr (11, vs))) (v5 : gNth vs 5 = some (.ref 635)) (r635 : gNth M 635 = some (.inl (1, .inl l635))) (g1 : gAt l635 157 = some y1) (hz : Ev none e 205 77 [some (.ref 633), some (.int k), some (.int (158 + (6 * y1)))] [] M v M' 0 0) : Ev none e 205 61 [some (.ref 633), some (.int k), some (.int i)] [] M v M' 0 0 := by
  refine Ev.step (pc' := 67) (ls' := [some (.ref 633), some (.int k), some (.int i)]) (st' := [.ref 633, .int 6, .int 158]) (M1 := M) 3 (fun n => rfl) ?_
  refine Ev.step 1 (gs_3 rfl rfl (gf_g rfl hM v5)) ?_
  refine Ev.step (pc' := 73) (ls' := [some (.ref 633), some (.int k), some (.int i)]) (st' := [.int 157, .ref 635, .int 6, .int 158]) (M1 := M) 1 (fun n => rfl) ?_
  refine Ev.step 1 (gs_3 rfl rfl (ia_g r635 g1)) ?_
  refine Ev.step (pc' := 77) (ls' := [some (.ref 633), some (.int k), some (.int (158 + (6 * y1)))]) (st' := []) (M1 := M) 3 (fun n => rfl) ?_
  exact hz
theorem lv_77 {e : Nat} {M : Mem} {M' : Mem} {v : Option Value} {vs : List Value} {i k y1 : Int32} {l635 : List Int32} (hM : gNth M 633 = some (.inr (11, vs))) (v5 : gNth vs 5 = some (.ref 635)) (r635 : gNth M 635 = some (.inl (1, .inl l635))) (g1 : gAt l635 157 = some y1) (hz : Ev none e 205 (if ((158 + (6 * y1)) + 6) ≤ i then 112 else 99) [some (.ref 633), some (.int k), some (.int i)] [] M v M' 0 0) : Ev none e 205 77 [some (.ref 633), some (.int k), some (.int i)] [] M v M' 0 0 := by
  refine Ev.step (pc' := 84) (ls' := [some (.ref 633), some (.int k), some (.int i)]) (st' := [.ref 633, .int 6, .int 158, .int i]) (M1 := M) 4 (fun n => rfl) ?_
  refine Ev.step 1 (gs_3 rfl rfl (gf_g rfl hM v5)) ?_
  refine Ev.step (pc' := 90) (ls' := [some (.ref 633), some (.int k), some (.int i)]) (st' := [.int 157, .ref 635, .int 6, .int 158, .int i]) (M1 := M) 1 (fun n => rfl) ?_
  refine Ev.step 1 (gs_3 rfl rfl (ia_g r635 g1)) ?_
  refine Ev.step (pc' := (if ((158 + (6 * y1)) + 6) ≤ i then 112 else 99)) (ls' := [some (.ref 633), some (.int k), some (.int i)]) (st' := []) (M1 := M) 5 (fun n => rfl) ?_
  exact hz
theorem lv_99 {e : Nat} {M : Mem} {M' : Mem} {v : Option Value} {vs : List Value} {i k y1 : Int32} {l635 : List Int32} (hM : gNth M 633 = some (.inr (11, vs))) (v5 : gNth vs 5 = some (.ref 635)) (r635 : gNth M 635 = some (.inl (1, .inl l635))) (g1 : gAt l635 i = some y1) (hz : Ev none e 205 77 [some (.ref 633), some (.int k), some (.int (i + 1))] [] (gPut M 635 (.inl (1, .inl (gPut l635 i.toNatClampNeg 0)))) v M' 0 0) : Ev none e 205 99 [some (.ref 633), some (.int k), some (.int i)] [] M v M' 0 0 := by
  refine Ev.step (pc' := 100) (ls' := [some (.ref 633), some (.int k), some (.int i)]) (st' := [.ref 633]) (M1 := M) 1 (fun n => rfl) ?_
  refine Ev.step 1 (gs_3 rfl rfl (gf_g rfl hM v5)) ?_
  refine Ev.step (pc' := 105) (ls' := [some (.ref 633), some (.int k), some (.int i)]) (st' := [.int 0, .int i, .ref 635]) (M1 := M) 2 (fun n => rfl) ?_
  refine Ev.step 1 (gs_4 rfl rfl (is_g r635 g1)) ?_
  refine Ev.step (pc' := 77) (ls' := [some (.ref 633), some (.int k), some (.int (i + 1))]) (st' := []) (M1 := (gPut M 635 (.inl (1, .inl (gPut l635 i.toNatClampNeg 0))))) 2 (fun n => rfl) ?_
  exact hz
theorem lv_112 {e : Nat} {M : Mem} {i k : Int32}  : Ev none e 205 112 [some (.ref 633), some (.int k), some (.int i)] [] M none M 0 0 := by
  exact Ev.ret (fun n => rfl)
set_option maxRecDepth 100000 in
theorem rw_63 : rwB 63 1 2314 (-2147483648) 2147483647 = true := by decide +kernel
set_option maxRecDepth 100000 in
theorem mf_63 : mfB 5 63 = true := by decide +kernel
noncomputable def sB (i : Nat) (lo hi : Int) : Bool := match gNth sG 63 with
  | some (.inr (1, 2314, .inl sg)) => (match sgAt sg i with
    | some p => decide (p.1 = lo) && decide (p.2 = hi)
    | _ => false)
  | _ => false
theorem sB_inv {i : Nat} {lo hi : Int} (h : sB i lo hi = true) : ∃ sg p, gNth sG 63 = some (.inr (1, 2314, .inl sg)) ∧ sgAt sg i = some p ∧ p.1 = lo ∧ p.2 = hi := by
  unfold sB at h
  split at h
  · rename_i sg e
    cases e2 : sgAt sg i with
    | none => rw [e2] at h; cases h
    | some p =>
      rw [e2] at h
      obtain ⟨h1, h2⟩ := and_t h
      exact ⟨sg, p, e, e2, of_decide_eq_true h1, of_decide_eq_true h2⟩
  · cases h
/-- the range of a place of s -/
theorem TM.s_in {M : Mem} (hT : TM sT sG M) {l : List Int32} (hM : gNth M 635 = some (.inl (1, .inl l))) {i : Nat} {lo hi : Int} {y : Int32} (hB : sB i lo hi = true) (hy : gNth l i = some y) : lo ≤ y.toInt ∧ y.toInt ≤ hi := by
  obtain ⟨sg, p, e, e4, rfl, rfl⟩ := sB_inv hB
  obtain ⟨e1, e2, e3⟩ := hT.at sT_635 e
  rw [hM] at e2
  cases e2
  obtain ⟨l', e5, l1, l2⟩ := ct_int (by decide) e3
  cases e5
  obtain ⟨q, q1, q2, q3⟩ := l2 _ _ hy
  rw [e4] at q1
  cases q1
  exact ⟨q2, q3⟩
theorem TM.s_1 {M : Mem} (hT : TM sT sG M) {l : List Int32} (hM : gNth M 635 = some (.inl (1, .inl l))) {i : Nat} {lo hi : Int} {y : Int32} (hB : sB i lo hi = true) (h1 : lo ≤ y.toInt) (h2 : y.toInt ≤ hi) : TM sT sG (gPut M 635 (.inl (1, .inl (gPut l i y)))) := by
  obtain ⟨sg, p, e, e4, rfl, rfl⟩ := sB_inv hB
  obtain ⟨e1, e2, e3⟩ := hT.at sT_635 e
  rw [hM] at e2
  cases e2
  obtain ⟨l', e5, l1, l2⟩ := ct_int (by decide) e3
  cases e5
  refine hT.put (fun g2 t w1 w2 => ?_)
  rw [sT_635] at w1
  cases w1
  rw [e] at w2
  cases w2
  refine ct_mk (by decide) (by rw [put_len]; exact l1) (fun j x hj => ?_)
  rw [nth_put] at hj
  split at hj
  · rename_i hc
    cases hj
    obtain ⟨rfl, _⟩ := hc
    exact ⟨p, e4, h1, h2⟩
  · exact l2 j x hj
theorem TM.s_all {M : Mem} (hT : TM sT sG M) : ∃ vs l, gNth M 633 = some (.inr (11, vs)) ∧ gNth vs 5 = some (.ref 635) ∧ gNth M 635 = some (.inl (1, .inl l)) ∧ l.length = 2314 := by
  obtain ⟨vs, hM, hv⟩ := hT.mfld
  obtain ⟨l, h1, h2, _⟩ := hT.mrow sT_635 rw_63
  exact ⟨vs, l, hM, hv _ _ _ mf_63 sU_63, h1, h2⟩
/-- a place of a row -/
theorem at_c {α : Type} {l : List α} {j : Int32} {kn : Nat} (h : j.toInt = (kn : Int)) (hl : kn < l.length) : ∃ y, gAt l j = some y ∧ gNth l kn = some y := by
  refine ⟨l[kn], ?_, ?_⟩
  · rw [at_nn h, nth_eq, List.getElem?_eq_getElem hl]
  · rw [nth_eq, List.getElem?_eq_getElem hl]
theorem cl_n {j : Int32} {kn : Nat} (h : j.toInt = (kn : Int)) : j.toNatClampNeg = kn := by
  obtain ⟨_, h2⟩ := clp_of (x := j) (a := 0) (b := j.toInt) ⟨by omega, Int.le_refl _⟩ (Int.le_refl _)
  omega
/-- what stands of s while someone leaves -/
def LvS (w : Int32) (M0 M : Mem) : Prop := TM sT sG M ∧ Frm sT [(1063, 0)] M0 M ∧ ∃ l, gNth M 635 = some (.inl (1, .inl l)) ∧ gNth l 157 = some w ∧ evS l ∧ dsS l
theorem LvS.put {w : Int32} {M0 M : Mem} {l : List Int32} (h : LvS w M0 M) (hM : gNth M 635 = some (.inl (1, .inl l))) {i : Nat} {y : Int32} (h1 : 158 ≤ i) (h2 : (i < 512 ∧ gNth l (i + 6) = some y) ∨ (i < 518 ∧ y = 0)) : LvS w M0 (gPut M 635 (.inl (1, .inl (gPut l i y)))) := by
  obtain ⟨hT, hF, l2, e1, e2, e3, e4⟩ := h
  cases e1.symm.trans hM
  refine ⟨hT.s_put hM h1 h2, hF.trans (Frm.row hM sT_635 (List.mem_singleton.mpr rfl)), _, by rw [nth_put, if_pos ⟨rfl, gNth_lt _ _ _ hM⟩], ?_, e3.put (Or.inr (Or.inl (by omega))), e4.put (by omega)⟩
  rw [nth_put, if_neg (fun q => absurd q.1 (by omega))]
  exact e2
theorem i32_e (w : Int32) (h0 : 0 ≤ w.toInt) (h1 : w.toInt ≤ 60) : (158 + 6 * w).toInt = 158 + 6 * w.toInt ∧ (158 + 6 * w + 6).toInt = 164 + 6 * w.toInt := by
  have o6 : (6 : Int32).toInt = 6 := rfl
  have o158 : (158 : Int32).toInt = 158 := rfl
  have d1 : (6 * w).toInt = 6 * w.toInt := by
    rw [i32_mul (by rw [o6]; omega) (by rw [o6]; omega), o6]
  have d2 : (158 + 6 * w).toInt = 158 + 6 * w.toInt := by
    rw [i32_add (by rw [o158]; omega) (by rw [o158]; omega), d1, o158]
  refine ⟨d2, ?_⟩
  rw [i32_add (by rw [d2, o6]; omega) (by rw [d2, o6]; omega), d2, o6]
  omega
theorem lv_loop2 {w k : Int32} {M0 : Mem} {e : Nat} (w0 : 0 ≤ w.toInt) (w1 : w.toInt ≤ 59) : ∀ (n inn : Nat) (M : Mem) (i : Int32), LvS w M0 M → i.toInt = (inn : Int) → 158 ≤ inn → (inn : Int) + n = 164 + 6 * w.toInt → ∃ MF, Ev none e 205 77 [some (.ref 633), some (.int k), some (.int i)] [] M none MF 0 0 ∧ LvS w M0 MF := by
  intro n
  obtain ⟨E1, E2⟩ := i32_e w w0 (by omega)
  induction n with
  | zero =>
    intro inn M i hL hi h1 hn
    obtain ⟨vs, l, hM, h5, hs, sl⟩ := hL.1.s_all
    obtain ⟨_, _, l2, e1, e2, e3⟩ := id hL
    cases e1.symm.trans hs
    have g157 : gAt l 157 = some w := by rw [at_nn (kn := 157) rfl]; exact e2
    refine ⟨M, lv_77 hM h5 hs g157 ?_, hL⟩
    rw [if_pos (by rw [Int32.le_iff_toInt_le, E2]; omega)]
    exact lv_112
  | succ n ih =>
    intro inn M i hL hi h1 hn
    obtain ⟨vs, l, hM, h5, hs, sl⟩ := hL.1.s_all
    obtain ⟨_, _, l2, e1, e2, e3⟩ := id hL
    cases e1.symm.trans hs
    have g157 : gAt l 157 = some w := by rw [at_nn (kn := 157) rfl]; exact e2
    obtain ⟨y, y1, y2⟩ := at_c (l := l) hi (by omega)
    have hp := hL.put hs (i := inn) (y := 0) h1 (Or.inr ⟨by omega, rfl⟩)
    have e4 : (i + 1).toInt = i.toInt + 1 := i32_p1 (by omega)
    obtain ⟨MF, q1, q2⟩ := ih (inn + 1) _ (i + 1) hp (by omega) (by omega) (by omega)
    refine ⟨MF, lv_77 hM h5 hs g157 ?_, q2⟩
    rw [if_neg (by rw [Int32.le_iff_toInt_le, E2]; omega)]
    refine lv_99 hM h5 hs y1 ?_
    rw [cl_n hi]
    exact q1
theorem lv_loop1 {w k : Int32} {M0 : Mem} {e : Nat} (w0 : 0 ≤ w.toInt) (w1 : w.toInt ≤ 59) : ∀ (n inn : Nat) (M : Mem) (i : Int32), LvS w M0 M → i.toInt = (inn : Int) → 158 ≤ inn → 158 + 6 * w.toInt ≤ (inn : Int) + n → ∃ MF, Ev none e 205 21 [some (.ref 633), some (.int k), some (.int i)] [] M none MF 0 0 ∧ LvS w M0 MF := by
  intro n
  obtain ⟨E1, E2⟩ := i32_e w w0 (by omega)
  have fin : ∀ (M : Mem) (i : Int32), LvS w M0 M → (158 + 6 * w ≤ i) → ∃ MF, Ev none e 205 21 [some (.ref 633), some (.int k), some (.int i)] [] M none MF 0 0 ∧ LvS w M0 MF := by
    intro M i hL hle
    obtain ⟨vs, l, hM, h5, hs, sl⟩ := hL.1.s_all
    obtain ⟨_, _, l2, e1, e2, e3⟩ := id hL
    cases e1.symm.trans hs
    have g157 : gAt l 157 = some w := by rw [at_nn (kn := 157) rfl]; exact e2
    obtain ⟨MF, q1, q2⟩ := lv_loop2 (w := w) (k := k) (M0 := M0) (e := e) w0 w1 6 (158 + 6 * w.toInt).toNat M (158 + 6 * w) hL (by omega) (by omega) (by omega)
    refine ⟨MF, lv_21 hM h5 hs g157 ?_, q2⟩
    rw [if_pos hle]
    exact lv_61 hM h5 hs g157 q1
  induction n with
  | zero =>
    intro inn M i hL hi h1 hn
    exact fin M i hL (by rw [Int32.le_iff_toInt_le, E1]; omega)
  | succ n ih =>
    intro inn M i hL hi h1 hn
    by_cases hle : 158 + 6 * w ≤ i
    · exact fin M i hL hle
    have hlt : i.toInt < 158 + 6 * w.toInt := by
      rw [Int32.le_iff_toInt_le, E1] at hle
      omega
    obtain ⟨vs, l, hM, h5, hs, sl⟩ := hL.1.s_all
    obtain ⟨_, _, l2, e1, e2, e3⟩ := id hL
    cases e1.symm.trans hs
    have g157 : gAt l 157 = some w := by rw [at_nn (kn := 157) rfl]; exact e2
    obtain ⟨y, y1, y2⟩ := at_c (l := l) hi (by omega)
    have o6 : (6 : Int32).toInt = 6 := rfl
    have e6 : (i + 6).toInt = ((inn + 6 : Nat) : Int) := by
      rw [i32_add (by rw [o6]; omega) (by rw [o6]; omega), o6]
      omega
    obtain ⟨z, z1, z2⟩ := at_c (l := l) e6 (by omega)
    have hp := hL.put hs (i := inn) (y := z) h1 (Or.inl ⟨by omega, z2⟩)
    have e4 : (i + 1).toInt = i.toInt + 1 := i32_p1 (by omega)
    obtain ⟨MF, q1, q2⟩ := ih (inn + 1) _ (i + 1) hp (by omega) (by omega) (by omega)
    refine ⟨MF, lv_21 hM h5 hs g157 ?_, q2⟩
    rw [if_neg hle]
    refine lv_40 hM h5 hs z1 y1 ?_
    rw [cl_n hi]
    exact q1
def kX11_leave : CN := (205, 0, [.inr 1900, .inl (.ofNat 0, .ofNat 59)], [], [(26, []), (28, [])], [(1063, 0)], [(none, [], [], [(28, [])], [])])
set_option maxRecDepth 100000 in
theorem mR_205 : (gNth mRs 205).map (fun q => q.2.2.2.1) = some 3 := by decide +kernel
set_option maxRecDepth 100000 in
theorem sB_157 : sB 157 0 60 = true := by decide +kernel
theorem kX11_leave_ok : cnOK sT sG FL0 kX11_leave := by
  intro d M ws q hd hq ha hp hT
  have hm := mR_205
  have hq' : gNth mRs 205 = some q := hq
  rw [hq'] at hm
  have hm : q.2.2.2.1 = 3 := Option.some.inj hm
  rcases ws with _ | ⟨a, _ | ⟨b, _ | ⟨b2, r⟩⟩⟩
  · exact ha.elim
  · exact ha.2.elim
  · obtain ⟨k1, ⟨k, rfl, c1, c2⟩, _⟩ := ha
    have k1 : a = .ref 633 := k1
    subst k1
    have c1 : 0 ≤ k.toInt := c1
    have c2 : k.toInt ≤ 59 := c2
    obtain ⟨hv, hv0, hfl⟩ := hp
    obtain ⟨y26, z26, h26⟩ := hfl (26, []) (List.mem_cons_self ..)
    obtain ⟨y28, z28, h28⟩ := hfl (28, []) (List.mem_cons_of_mem _ (List.mem_cons_self ..))
    obtain ⟨t, l, W, q1, q2, q3⟩ := fl0_26 h26
    obtain ⟨t2, l2, p1, p2, p3⟩ := fl0_28 h28
    obtain ⟨vs, l3, hM, h5, hs, sl⟩ := hT.s_all
    have el : l3 = l := by cases hs.symm.trans q1; rfl
    have el2 : l2 = l := by cases p1.symm.trans q1; rfl
    subst el
    subst el2
    obtain ⟨w1, w2⟩ := hT.s_in hs sB_157 q2
    have g157 : gAt l2 157 = some W := by rw [at_nn (kn := 157) rfl]; exact q2
    obtain ⟨w, ew⟩ : ∃ w, w = W - 1 := ⟨_, rfl⟩
    have dw : w.toInt = W.toInt - 1 := by rw [ew]; exact i32_m1 (by omega)
    have hlt := gNth_lt _ _ _ hs
    have hL : LvS w M (gPut M 635 (.inl (1, .inl (gPut l2 157 w)))) := by
      refine ⟨hT.s_1 hs sB_157 (by omega) (by omega), Frm.row hs sT_635 (List.mem_singleton.mpr rfl), _, by rw [nth_put, if_pos ⟨rfl, hlt⟩], ?_, p2.put (Or.inr (Or.inl (by omega))), p3.put (by omega)⟩
      rw [nth_put, if_pos ⟨rfl, by omega⟩]
    obtain ⟨E1, E2⟩ := i32_e k c1 (by omega)
    obtain ⟨MF, r1, r2, r3, l4, r4, r5, r6⟩ := lv_loop1 (w := w) (k := k) (M0 := M) (e := d) (by omega) (by omega) 518 (158 + 6 * k.toInt).toNat _ (158 + 6 * k) hL (by omega) (by omega) (by omega)
    rw [hm]
    refine ⟨none, MF, lv_0 hM h5 hs g157 (by rw [← ew, cl_n (kn := 157) rfl]; exact r1), r2, r3, _, List.mem_cons_self .., ⟨trivial, fun q hq => (by cases hq), [], trivial, fun f hf => ?_, fun q hq => (by cases hq)⟩, fun _ t5 l5 x5 s1 s2 => ?_⟩
    · cases List.mem_singleton.mp hf
      exact ⟨[], trivial, (show FL0 28 [] MF from ⟨1, l4, r4, r6⟩)⟩
    · cases hs.symm.trans s1
      cases q2.symm.trans s2
      exact ⟨l4, w, r4, r5, dw⟩
  · exact ha.2.2.elim
/-! BY HAND: octet, of, isGreen, price -/
theorem ba0_g {M : Mem} {l : List Int32} {a : Nat} {st : List Value} {ini : Bool} {j x : Int32} (hs : gNth M a = some (.inl (0, .inl l))) (h0 : gAt l j = some x) : gGet .baload none 11 ini (.int j :: .ref a :: st) M = some (.int x :: st, M) := by
  show (match gNth M a with
    | some (.inl (0, .inl l)) => match gAt l j with
      | some x => some (Value.int x :: st, M)
      | none => none
    | some (.inl (3, .inl l)) => match gAt l j with
      | some x => some (Value.int x :: st, M)
      | none => none
    | _ => none) = _
  rw [hs]
  show (match gAt l j with
      | some x => some (Value.int x :: st, M)
      | none => none) = _
  rw [h0]
theorem cal_gr {M : Mem} {vs : List Value} {a0 : Int32} {rest : List Value} (hM : gNth M 633 = some (.inr (11, vs))) (hr : gRoom rest = true) : gCal (.invokevirtual 356) 11 (.int a0 :: .ref 633 :: rest) M = some (.inr (149, [some (.ref 633), some (.int a0)], rest)) := by
  show @cond (Option ((List Value × Mem) ⊕ (Nat × Lo × List Value))) (true && gRecv M (.ref 633) 11 && gRoom rest && true) (some (.inr (149, [some (.ref 633), some (.int a0)], rest))) none = _
  rw [recv_ok hM, hr]
  rfl
theorem oc_0 {e : Nat} {M : Mem} {vs : List Value} {k y1 : Int32} {l634 : List Int32} (hM : gNth M 633 = some (.inr (11, vs))) (v1 : gNth vs 1 = some (.ref 634)) (r634 : gNth M 634 = some (.inl (0, .inl l634))) (g1 : gAt l634 k = some y1) : Ev none e 142 0 [some (.ref 633), some (.int k)] [] M (some (.int (y1 &&& 255))) M 0 0 := by
  refine Ev.step (pc' := 1) (ls' := [some (.ref 633), some (.int k)]) (st' := [.ref 633]) (M1 := M) 1 (fun n => rfl) ?_
  refine Ev.step 1 (gs_3 rfl rfl (gf_g rfl hM v1)) ?_
  refine Ev.step (pc' := 5) (ls' := [some (.ref 633), some (.int k)]) (st' := [.int k, .ref 634]) (M1 := M) 1 (fun n => rfl) ?_
  refine Ev.step 1 (gs_3 rfl rfl (ba0_g r634 g1)) ?_
  refine Ev.step (pc' := 10) (ls' := [some (.ref 633), some (.int k)]) (st' := [.int (y1 &&& 255)]) (M1 := M) 2 (fun n => rfl) ?_
  exact Ev.ret (fun n => rfl)
theorem pr_0 {e : Nat} {M : Mem} {M' : Mem} {v : Option Value} {c : Int32}  (hz : Ev none (e + 1) 224 2 [some (.ref 633), some (.int c)] [.int c, .ref 633] M v M' 0 0) : Ev none (e + 1) 224 0 [some (.ref 633), some (.int c)] [] M v M' 0 0 := by
  refine Ev.step (pc' := 2) (ls' := [some (.ref 633), some (.int c)]) (st' := [.int c, .ref 633]) (M1 := M) 2 (fun n => rfl) ?_
  exact hz
theorem pr_5 {e : Nat} {M : Mem} {M' : Mem} {v : Option Value} {c z : Int32}  (hz : Ev none e 224 (if z = 0 then 13 else 8) [some (.ref 633), some (.int c)] [] M v M' 0 0) : Ev none e 224 5 [some (.ref 633), some (.int c)] [.int z] M v M' 0 0 := by
  refine Ev.step (pc' := (if z = 0 then 13 else 8)) (ls' := [some (.ref 633), some (.int c)]) (st' := []) (M1 := M) 1 (fun n => rfl) ?_
  exact hz
theorem pr_8 {e : Nat} {M : Mem} {c : Int32}  : Ev none e 224 8 [some (.ref 633), some (.int c)] [] M (some (.int 21)) M 0 0 := by
  refine Ev.step (pc' := 14) (ls' := [some (.ref 633), some (.int c)]) (st' := [.int 21]) (M1 := M) 2 (fun n => rfl) ?_
  exact Ev.ret (fun n => rfl)
theorem pr_13 {e : Nat} {M : Mem} {c : Int32}  : Ev none e 224 13 [some (.ref 633), some (.int c)] [] M (some (.int 1)) M 0 0 := by
  refine Ev.step (pc' := 14) (ls' := [some (.ref 633), some (.int c)]) (st' := [.int 1]) (M1 := M) 1 (fun n => rfl) ?_
  exact Ev.ret (fun n => rfl)
theorem ig_0 {e : Nat} {M : Mem} {M' : Mem} {v : Option Value} {c : Int32}  (hz : Ev none (e + 1) 149 3 [some (.ref 633), some (.int c)] [.int 0, .int c, .ref 633] M v M' 0 0) : Ev none (e + 1) 149 0 [some (.ref 633), some (.int c)] [] M v M' 0 0 := by
  refine Ev.step (pc' := 3) (ls' := [some (.ref 633), some (.int c)]) (st' := [.int 0, .int c, .ref 633]) (M1 := M) 3 (fun n => rfl) ?_
  exact hz
theorem ig_6 {e : Nat} {M : Mem} {M' : Mem} {v : Option Value} {c z : Int32}  (hz : Ev none e 149 (if z = 0 then 19 else 9) [some (.ref 633), some (.int c)] [] M v M' 0 0) : Ev none e 149 6 [some (.ref 633), some (.int c)] [.int z] M v M' 0 0 := by
  refine Ev.step (pc' := (if z = 0 then 19 else 9)) (ls' := [some (.ref 633), some (.int c)]) (st' := []) (M1 := M) 1 (fun n => rfl) ?_
  exact hz
theorem ig_9 {e : Nat} {M : Mem} {M' : Mem} {v : Option Value} {c : Int32}  (hz : Ev none (e + 1) 149 12 [some (.ref 633), some (.int c)] [.int 0, .int c, .ref 633] M v M' 0 0) : Ev none (e + 1) 149 9 [some (.ref 633), some (.int c)] [] M v M' 0 0 := by
  refine Ev.step (pc' := 12) (ls' := [some (.ref 633), some (.int c)]) (st' := [.int 0, .int c, .ref 633]) (M1 := M) 3 (fun n => rfl) ?_
  exact hz
theorem ig_15 {e : Nat} {M : Mem} {M' : Mem} {v : Option Value} {c z : Int32}  (hz : Ev none e 149 (if z = 2 then 19 else 23) [some (.ref 633), some (.int c)] [] M v M' 0 0) : Ev none e 149 15 [some (.ref 633), some (.int c)] [.int z] M v M' 0 0 := by
  refine Ev.step (pc' := (if z = 2 then 19 else 23)) (ls' := [some (.ref 633), some (.int c)]) (st' := []) (M1 := M) 2 (fun n => rfl) ?_
  exact hz
theorem ig_19 {e : Nat} {M : Mem} {c : Int32}  : Ev none e 149 19 [some (.ref 633), some (.int c)] [] M (some (.int 1)) M 0 0 := by
  refine Ev.step (pc' := 24) (ls' := [some (.ref 633), some (.int c)]) (st' := [.int 1]) (M1 := M) 2 (fun n => rfl) ?_
  exact Ev.ret (fun n => rfl)
theorem ig_23 {e : Nat} {M : Mem} {c : Int32}  : Ev none e 149 23 [some (.ref 633), some (.int c)] [] M (some (.int 0)) M 0 0 := by
  refine Ev.step (pc' := 24) (ls' := [some (.ref 633), some (.int c)]) (st' := [.int 0]) (M1 := M) 1 (fun n => rfl) ?_
  exact Ev.ret (fun n => rfl)
theorem of_0 {e : Nat} {M : Mem} {vs : List Value} {c k y1 : Int32} {l635 : List Int32} (hM : gNth M 633 = some (.inr (11, vs))) (v5 : gNth vs 5 = some (.ref 635)) (r635 : gNth M 635 = some (.inl (1, .inl l635))) (g1 : gAt l635 ((522 + (7 * c)) + k) = some y1) : Ev none e 146 0 [some (.ref 633), some (.int c), some (.int k)] [] M (some (.int y1)) M 0 0 := by
  refine Ev.step (pc' := 1) (ls' := [some (.ref 633), some (.int c), some (.int k)]) (st' := [.ref 633]) (M1 := M) 1 (fun n => rfl) ?_
  refine Ev.step 1 (gs_3 rfl rfl (gf_g rfl hM v5)) ?_
  refine Ev.step (pc' := 14) (ls' := [some (.ref 633), some (.int c), some (.int k)]) (st' := [.int ((522 + (7 * c)) + k), .ref 635]) (M1 := M) 7 (fun n => rfl) ?_
  refine Ev.step 1 (gs_3 rfl rfl (ia_g r635 g1)) ?_
  exact Ev.ret (fun n => rfl)
set_option maxRecDepth 100000 in
theorem rw_62 : rwB 62 0 440 (-128) 127 = true := by decide +kernel
set_option maxRecDepth 100000 in
theorem mf_62 : mfB 1 62 = true := by decide +kernel
set_option maxRecDepth 100000 in
theorem sU_62 : gNth sU 62 = some (some 634) := by decide +kernel
set_option maxRecDepth 100000 in
theorem sT_634 : gNth sT 634 = some 62 := by decide +kernel
theorem and_255 (x : Int32) : 0 ≤ (x &&& 255).toInt ∧ (x &&& 255).toInt ≤ 255 := by
  obtain ⟨m, hm, e2⟩ := and_le x (n := 255) (by decide)
  have e3 : nI 255 = 255 := rfl
  rw [e3] at e2
  rw [e2, nI_toInt (by omega)]
  omega
theorem cn_D {M : Mem} {id : Nat} (h : (Nat.beq id 205) = false) {M2 : Mem} : dlOK id M M2 := fun e => by
  rw [e] at h
  cases h
def kX11_octet : CN := (142, 0, [.inr 1900, .inl (.ofNat 0, .ofNat 439)], [], [], [], [(some (.inl (.ofNat 0, .ofNat 255)), [], [], [(62, [([(2, .ofNat 1)], .ofNat 0), ([(0, .ofNat 1)], .ofNat 0)])], [])])
set_option maxRecDepth 100000 in
theorem mR_142 : (gNth mRs 142).map (fun q => q.2.2.2.1) = some 2 := by decide +kernel
theorem kX11_octet_ok : cnOK sT sG FL0 kX11_octet := by
  intro d M ws q hd hq ha _ hT
  have hm := mR_142
  have hq' : gNth mRs 142 = some q := hq
  rw [hq'] at hm
  have hm : q.2.2.2.1 = 2 := Option.some.inj hm
  rcases ws with _ | ⟨a, _ | ⟨b, _ | ⟨b2, r⟩⟩⟩
  · exact ha.elim
  · exact ha.2.elim
  · obtain ⟨k1, ⟨k, rfl, c1, c2⟩, _⟩ := ha
    have k1 : a = .ref 633 := k1
    subst k1
    have c1 : 0 ≤ k.toInt := c1
    have c2 : k.toInt ≤ 439 := c2
    obtain ⟨vs, hM, hv⟩ := hT.mfld
    obtain ⟨l, h1, h2, _⟩ := hT.mrow sT_634 rw_62
    obtain ⟨kn, hkn⟩ : ∃ kn : Nat, k.toInt = (kn : Int) := ⟨k.toInt.toNat, by omega⟩
    obtain ⟨y, y1, y2⟩ := at_c (l := l) hkn (by omega)
    obtain ⟨r1, r2⟩ := and_255 y
    rw [hm]
    refine ⟨some (.int (y &&& 255)), M, oc_0 hM (hv _ _ _ mf_62 sU_62) h1 y1, hT, Frm.refl M, _, List.mem_cons_self .., ⟨⟨_, rfl, r1, r2⟩, fun q hq => (by cases hq), [], trivial, fun f hf => ?_, fun q hq => (by cases hq)⟩, cn_D rfl⟩
    cases List.mem_singleton.mp hf
    exact ⟨[(kn : Int), (y &&& 255).toInt], Two.mk ⟨1 * k.toInt + 0, rfl, by show (kn : Int) = 1 * k.toInt + 0 + 0; omega⟩ (Two.mk ⟨1 * (y &&& 255).toInt + 0, rfl, by show (y &&& 255).toInt = 1 * (y &&& 255).toInt + 0 + 0; omega⟩ trivial), (show FL0 62 _ M from ⟨0, l, y, kn, rfl, h1, y2⟩)⟩
  · exact ha.2.2.elim
/-- of, isGreen, price as values -/
theorem ev_of {M : Mem} {e : Nat} {vs : List Value} {l : List Int32} {c k y : Int32} (hM : gNth M 633 = some (.inr (11, vs))) (h5 : gNth vs 5 = some (.ref 635)) (hs : gNth M 635 = some (.inl (1, .inl l))) (hy : gAt l (522 + 7 * c + k) = some y) : Ev none e 146 0 [some (.ref 633), some (.int c), some (.int k)] [] M (some (.int y)) M 0 0 := of_0 hM h5 hs hy
theorem ev_green {M : Mem} {e : Nat} {vs : List Value} {l : List Int32} {c y : Int32} (hM : gNth M 633 = some (.inr (11, vs))) (h5 : gNth vs 5 = some (.ref 635)) (hs : gNth M 635 = some (.inl (1, .inl l))) (hy : gAt l (522 + 7 * c + 0) = some y) : Ev none (e + 1) 149 0 [some (.ref 633), some (.int c)] [] M (some (.int (if y = 0 then 1 else if y = 2 then 1 else 0))) M 0 0 := by
  refine ig_0 (Ev.call0 (fun n => gs_7 rfl rfl (cal_of hM rfl)) (ev_of hM h5 hs hy) (ig_6 ?_))
  by_cases h0 : y = 0
  · rw [if_pos h0, if_pos h0]
    exact ig_19
  · rw [if_neg h0, if_neg h0]
    refine ig_9 (Ev.call0 (fun n => gs_7 rfl rfl (cal_of hM rfl)) (ev_of hM h5 hs hy) (ig_15 ?_))
    by_cases h2 : y = 2
    · rw [if_pos h2, if_pos h2]
      exact ig_19
    · rw [if_neg h2, if_neg h2]
      exact ig_23
theorem ev_price {M : Mem} {e : Nat} {vs : List Value} {l : List Int32} {c y : Int32} (hM : gNth M 633 = some (.inr (11, vs))) (h5 : gNth vs 5 = some (.ref 635)) (hs : gNth M 635 = some (.inl (1, .inl l))) (hy : gAt l (522 + 7 * c + 0) = some y) : Ev none (e + 2) 224 0 [some (.ref 633), some (.int c)] [] M (some (.int (prI y))) M 0 0 := by
  refine pr_0 (e := e + 1) (Ev.call0 (fun n => gs_7 rfl rfl (cal_gr hM rfl)) (ev_green hM h5 hs hy) (pr_5 ?_))
  unfold prI
  by_cases h0 : y = 0
  · rw [if_pos h0, if_pos h0]
    exact pr_8
  · rw [if_neg h0, if_neg h0]
    by_cases h2 : y = 2
    · rw [if_pos h2, if_pos h2]
      exact pr_8
    · rw [if_neg h2, if_neg h2]
      exact pr_13
/-- a place of a cell in s -/
theorem i32_cell {c k : Int32} (h0 : 0 ≤ c.toInt) (h1 : c.toInt ≤ 255) (k0 : 0 ≤ k.toInt) (k1 : k.toInt ≤ 6) : (522 + 7 * c + k).toInt = 522 + 7 * c.toInt + k.toInt := by
  have o7 : (7 : Int32).toInt = 7 := rfl
  have o522 : (522 : Int32).toInt = 522 := rfl
  have d1 : (7 * c).toInt = 7 * c.toInt := by
    rw [i32_mul (by rw [o7]; omega) (by rw [o7]; omega), o7]
  have d2 : (522 + 7 * c).toInt = 522 + 7 * c.toInt := by
    rw [i32_add (by rw [o522]; omega) (by rw [o522]; omega), d1, o522]
  rw [i32_add (by rw [d2]; omega) (by rw [d2]; omega), d2]
theorem prI_in (y : Int32) : 1 ≤ (prI y).toInt ∧ (prI y).toInt ≤ 21 := by
  unfold prI
  split
  · decide
  · split <;> decide
def kX11_price : CN := (224, 2, [.inr 1900, .inl (.ofNat 0, .ofNat 255)], [], [], [], [(some (.inl (.ofNat 1, .ofNat 21)), [], [], [(66, [([(2, .ofNat 1)], .ofNat 0), ([(0, .ofNat 1)], .ofNat 0)])], [])])
set_option maxRecDepth 100000 in
theorem mR_224 : (gNth mRs 224).map (fun q => q.2.2.2.1) = some 2 := by decide +kernel
theorem kX11_price_ok : cnOK sT sG FL0 kX11_price := by
  intro d M ws q hd hq ha _ hT
  have hm := mR_224
  have hq' : gNth mRs 224 = some q := hq
  rw [hq'] at hm
  have hm : q.2.2.2.1 = 2 := Option.some.inj hm
  obtain ⟨e, rfl⟩ : ∃ e, d = e + 2 := ⟨d - 2, by have : 2 ≤ d := hd; omega⟩
  rcases ws with _ | ⟨a, _ | ⟨b, _ | ⟨b2, r⟩⟩⟩
  · exact ha.elim
  · exact ha.2.elim
  · obtain ⟨k1, ⟨c, rfl, c1, c2⟩, _⟩ := ha
    have k1 : a = .ref 633 := k1
    subst k1
    have c1 : 0 ≤ c.toInt := c1
    have c2 : c.toInt ≤ 255 := c2
    obtain ⟨vs, l, hM, h5, hs, sl⟩ := hT.s_all
    have e0 : (0 : Int32).toInt = 0 := rfl
    have ec := i32_cell (c := c) (k := 0) c1 c2 (by decide) (by decide)
    obtain ⟨kn, hkn⟩ : ∃ kn : Nat, (522 + 7 * c + 0 : Int32).toInt = (kn : Int) := ⟨(522 + 7 * c.toInt).toNat, by omega⟩
    obtain ⟨y, y1, y2⟩ := at_c (l := l) hkn (by omega)
    obtain ⟨r1, r2⟩ := prI_in y
    rw [hm]
    refine ⟨some (.int (prI y)), M, ev_price hM h5 hs y1, hT, Frm.refl M, _, List.mem_cons_self .., ⟨⟨_, rfl, r1, r2⟩, fun q hq => (by cases hq), [], trivial, fun f hf => ?_, fun q hq => (by cases hq)⟩, cn_D rfl⟩
    cases List.mem_singleton.mp hf
    exact ⟨[c.toInt, (prI y).toInt], Two.mk ⟨1 * c.toInt + 0, rfl, by show c.toInt = 1 * c.toInt + 0 + 0; omega⟩ (Two.mk ⟨1 * (prI y).toInt + 0, rfl, by show (prI y).toInt = 1 * (prI y).toInt + 0 + 0; omega⟩ trivial), (show FL0 66 _ M from ⟨1, l, y, c, rfl, hs, y1⟩)⟩
  · exact ha.2.2.elim
/-! CERTIFICATES (by program) -/
def kX11_first : CN := (188, 5, [.inr 1900, .inl (.negSucc 2147483647, .ofNat 2147483647), .inl (.ofNat 0, .ofNat 255), .inl (.negSucc 2147483647, .ofNat 2147483647)], [], [(24, [])], [(1077, 0)], [(some (.inl (.negSucc 2147483647, .ofNat 2147483647)), [], [], [], [])])
def kX11_first_t : List (Nat × TP) := [(3, ([.inr (.inl (.inl 633)), .inl ([(0, .ofNat 1)], .ofNat 0), .inl ([(1, .ofNat 1)], .ofNat 0), .inl ([(2, .ofNat 1)], .ofNat 0), .inl ([(3, .ofNat 1)], .ofNat 0)], [], [(24, [])], [(.negSucc 2147483647, .ofNat 2147483647), (.ofNat 0, .ofNat 255), (.negSucc 2147483647, .ofNat 2147483647), (.ofNat 0, .ofNat 16)], [], [], [([], .ofNat 1), ([(3, .negSucc 0)], .ofNat 17)], [.inr (.inr 0), .inr (.inr 0), .inr (.inr 0), .inr (.inr 0)], []))]
set_option maxRecDepth 100000 in
theorem kX11_first_ok : cnOK sT sG FL0 kX11_first := ccM_V (Δ := [kX11_holds]) (n := 36) (N := 2) (cuts := kX11_first_t) sU_ok dp0_ok ct0_ok (cons_ok kX11_holds_ok nil_ok) (by decide +kernel)
def kX11_endWeek : CN := (208, 6, [.inr 1900], [], [(24, []), (28, [])], [(1063, 0), (1077, 0)], [(none, [], [], [(28, [])], [])])
def kX11_endWeek_t : List (Nat × TP) := [(2, ([.inr (.inl (.inl 633)), .inl ([(0, .ofNat 1)], .ofNat 0), .inr (.inr 0), .inr (.inr 0)], [], [(24, []), (28, [])], [(.ofNat 0, .ofNat 256)], [], [], [([], .ofNat 2), ([(0, .negSucc 0)], .ofNat 257)], [.inr (.inr 0)], [])), (76, ([.inr (.inl (.inl 633)), .inl ([(0, .ofNat 1)], .ofNat 0), .inr (.inr 0), .inr (.inr 0)], [], [(24, []), (28, [])], [(.ofNat 0, .ofNat 256)], [], [], [([], .ofNat 1), ([(0, .negSucc 0)], .ofNat 257)], [.inr (.inr 0)], []))]
set_option maxRecDepth 100000 in
theorem kX11_endWeek_ok : cnOK sT sG FL0 kX11_endWeek := ccM_V (Δ := [kX11_of, kX11_first]) (n := 153) (N := 2) (cuts := kX11_endWeek_t) sU_ok dp0_ok ct0_ok (cons_ok kX11_of_ok (cons_ok kX11_first_ok nil_ok)) (by decide +kernel)
def kX11_week : CN := (209, 7, [.inr 1900], [], [(24, []), (28, [])], [(11, 0), (1063, 0), (1077, 0)], [(some (.inl (.ofNat 0, .ofNat 256)), [], [], [(28, [])], [])])
def kX11_week_t : List (Nat × TP) := []
set_option maxRecDepth 100000 in
theorem kX11_week_ok : cnOK sT sG FL0 kX11_week := ccM_V (Δ := [kX11_endWeek, kX11_wornMany]) (n := 16) (N := 0) (cuts := kX11_week_t) sU_ok dp0_ok ct0_ok (cons_ok kX11_endWeek_ok (cons_ok kX11_wornMany_ok nil_ok)) (by decide +kernel)
def kX11_mayNot : CN := (201, 5, [.inr 1900, .inl (.ofNat 0, .ofNat 255)], [], [(24, [])], [(1077, 0)], [(some (.inl (.ofNat 0, .ofNat 1)), [], [], [], [])])
def kX11_mayNot_t : List (Nat × TP) := [(8, ([.inr (.inl (.inl 633)), .inl ([(0, .ofNat 1)], .ofNat 0), .inl ([(1, .ofNat 1)], .ofNat 0)], [(.inl 633, 11, 36, .inl ([(2, .ofNat 1)], .ofNat 0))], [(24, [])], [(.ofNat 0, .ofNat 255), (.ofNat 0, .ofNat 112), (.ofNat 0, .ofNat 6)], [], [([(2, .negSucc 15), (1, .ofNat 1)], .ofNat 0)], [([], .ofNat 1), ([(1, .negSucc 0)], .ofNat 113)], [.inr (.inr 0), .inr (.inr 0)], []))]
set_option maxRecDepth 100000 in
theorem kX11_mayNot_ok : cnOK sT sG FL0 kX11_mayNot := ccM_V (Δ := [kX11_holds]) (n := 39) (N := 2) (cuts := kX11_mayNot_t) sU_ok dp0_ok ct0_ok (cons_ok kX11_holds_ok nil_ok) (by decide +kernel)
def kX11_weight : CN := (200, 5, [.inr 1900, .inl (.ofNat 0, .ofNat 255), .inl (.ofNat 0, .ofNat 7)], [], [(24, [])], [(1077, 0)], [(some (.inl (.negSucc 2147483647, .ofNat 2147483647)), [], [], [], [])])
def kX11_weight_t : List (Nat × TP) := [(59, ([.inr (.inl (.inl 633)), .inl ([(0, .ofNat 1)], .ofNat 0), .inl ([(1, .ofNat 1)], .ofNat 0), .inr (.inr 0), .inr (.inr 0), .inl ([(2, .ofNat 1)], .ofNat 0), .inl ([(3, .ofNat 1)], .ofNat 0), .inr (.inr 0)], [(.inl 633, 11, 36, .inl ([(4, .ofNat 1)], .ofNat 0))], [(24, [])], [(.ofNat 0, .ofNat 255), (.ofNat 0, .ofNat 7), (.negSucc 2147483647, .ofNat 2147483647), (.ofNat 0, .ofNat 112), (.ofNat 0, .ofNat 6)], [], [([(4, .negSucc 15), (3, .ofNat 1)], .ofNat 0)], [([], .ofNat 1), ([(3, .negSucc 0)], .ofNat 113)], [.inr (.inr 0), .inr (.inr 0), .inr (.inr 0)], []))]
set_option maxRecDepth 100000 in
theorem kX11_weight_ok : cnOK sT sG FL0 kX11_weight := ccM_V (Δ := [kX11_holds, kX11_of, kX11_crowd, kX11_sees]) (n := 567) (N := 2) (cuts := kX11_weight_t) sU_ok dp0_ok ct0_ok (cons_ok kX11_holds_ok (cons_ok kX11_of_ok (cons_ok kX11_crowd_ok (cons_ok kX11_sees_ok nil_ok)))) (by decide +kernel)
def kX11_choose : CN := (202, 6, [.inr 1900], [], [(24, [])], [(1077, 0)], [(some (.inl (.negSucc 0, .negSucc 0)), [], [], [], []), (some (.inl (.ofNat 0, .ofNat 7)), [], [(.inl 633, 11, 34, .inl (.ofNat 0, .ofNat 255))], [(20, [([(2, .ofNat 1)], .ofNat 0), ([(0, .ofNat 1)], .ofNat 0)])], [])])
def kX11_choose_t : List (Nat × TP) := [(34, ([.inr (.inl (.inl 633)), .inl ([(0, .ofNat 1)], .ofNat 0), .inr (.inr 0), .inr (.inr 0), .inr (.inr 0), .inr (.inr 0)], [(.inl 633, 11, 34, .inl ([(1, .ofNat 1)], .ofNat 0))], [(24, [])], [(.ofNat 0, .ofNat 8), (.ofNat 0, .ofNat 255)], [], [], [([], .ofNat 2), ([(0, .negSucc 0)], .ofNat 9)], [.inr (.inr 0)], [])), (70, ([.inr (.inl (.inl 633)), .inl ([(0, .ofNat 1)], .ofNat 0), .inl ([(1, .ofNat 1)], .ofNat 0), .inl ([(2, .ofNat 1)], .ofNat 0), .inr (.inr 0), .inr (.inr 0)], [(.inl 633, 11, 34, .inl ([(3, .ofNat 1)], .ofNat 0))], [(24, [])], [(.negSucc 0, .negSucc 0), (.ofNat 0, .ofNat 0), (.ofNat 0, .ofNat 8), (.ofNat 0, .ofNat 255)], [], [], [([], .ofNat 1), ([(2, .negSucc 0)], .ofNat 9)], [.inr (.inr 0)], [])), (70, ([.inr (.inl (.inl 633)), .inl ([(0, .ofNat 1)], .ofNat 0), .inl ([(1, .ofNat 1)], .ofNat 0), .inl ([(2, .ofNat 1)], .ofNat 0), .inr (.inr 0), .inr (.inr 0)], [(.inl 633, 11, 34, .inl ([(3, .ofNat 1)], .ofNat 0))], [(24, []), (20, [([(3, .ofNat 1)], .ofNat 0), ([(0, .ofNat 1)], .ofNat 0)])], [(.ofNat 0, .ofNat 7), (.negSucc 2147483647, .ofNat 2147483647), (.ofNat 1, .ofNat 8), (.ofNat 0, .ofNat 255)], [], [], [([], .ofNat 1), ([(2, .negSucc 0)], .ofNat 9)], [.inr (.inr 0)], []))]
set_option maxRecDepth 100000 in
theorem kX11_choose_ok : cnOK sT sG FL0 kX11_choose := ccM_V (Δ := [kX11_beside, kX11_mayNot, kX11_weight, kX11_of]) (n := 154) (N := 2) (cuts := kX11_choose_t) sU_ok dp0_ok ct0_ok (cons_ok kX11_beside_ok (cons_ok kX11_mayNot_ok (cons_ok kX11_weight_ok (cons_ok kX11_of_ok nil_ok)))) (by decide +kernel)
def kX11_walk : CN := (238, 7, [.inr 1900, .inl (.ofNat 0, .ofNat 8), .inl (.ofNat 0, .ofNat 8), .inl (.ofNat 0, .ofNat 5)], [], [(24, [])], [(11, 34), (11, 35), (11, 36), (11, 37), (11, 38), (11, 39), (11, 60), (1077, 0), (1085, 0)], [(some (.inl (.negSucc 0, .ofNat 255)), [], [], [], [])])
def kX11_walk_t : List (Nat × TP) := [(64, ([.inr (.inl (.inl 633)), .inr (.inr 0), .inr (.inr 0), .inr (.inr 0), .inl ([(0, .ofNat 1)], .ofNat 0), .inr (.inr 0)], [(.inl 633, 11, 34, .inl ([(1, .ofNat 1)], .ofNat 0)), (.inl 633, 11, 36, .inl ([(2, .ofNat 1)], .ofNat 0)), (.inl 633, 11, 60, .inl ([(3, .ofNat 1)], .ofNat 0))], [(24, [])], [(.ofNat 0, .ofNat 200), (.ofNat 0, .ofNat 255), (.ofNat 1, .ofNat 6), (.ofNat 1, .ofNat 255)], [], [([(0, .ofNat 1), (3, .negSucc 0)], .ofNat 1)], [([], .ofNat 1), ([(0, .negSucc 0)], .ofNat 201)], [.inr (.inr 0), .inr (.inr 0), .inr (.inr 0), .inr (.inr 0)], []))]
set_option maxRecDepth 100000 in
theorem kX11_walk_ok : cnOK sT sG FL0 kX11_walk := ccM_V (Δ := [kX11_choose, kX11_beside]) (n := 62) (N := 2) (cuts := kX11_walk_t) sU_ok dp0_ok ct0_ok (cons_ok kX11_choose_ok (cons_ok kX11_beside_ok nil_ok)) (by decide +kernel)
def kX11_tick : CN := (204, 8, [.inr 1900], [], [(24, []), (28, [])], [(11, 34), (11, 35), (11, 36), (11, 37), (11, 38), (11, 39), (11, 41), (11, 42), (1063, 0), (1077, 0)], [(none, [], [], [(28, [])], [])])
def kX11_tick_t : List (Nat × TP) := [(2, ([.inr (.inl (.inl 633)), .inl ([(0, .ofNat 1)], .ofNat 0), .inr (.inr 0), .inr (.inr 0)], [], [(24, []), (28, [])], [(.ofNat 0, .ofNat 24)], [], [], [([], .ofNat 2), ([(0, .negSucc 0)], .ofNat 25)], [.inr (.inr 0)], [])), (214, ([.inr (.inl (.inl 633)), .inl ([(0, .ofNat 1)], .ofNat 0), .inr (.inr 0), .inr (.inr 0)], [], [(24, []), (28, [])], [(.ofNat 0, .ofNat 59), (.ofNat 1, .ofNat 60)], [], [([(0, .negSucc 0), (1, .ofNat 1)], .negSucc 0)], [([], .ofNat 1), ([(0, .negSucc 0), (1, .ofNat 1)], .ofNat 0)], [.inr (.inr 0)], [(635, ([], .ofNat 157), .inl ([(1, .ofNat 1)], .ofNat 0))]))]
set_option maxRecDepth 100000 in
theorem kX11_tick_ok : cnOK sT sG FL0 kX11_tick := ccM_V (Δ := [kX11_leave, kX11_choose, kX11_beside, kX11_of, kX11_first]) (n := 2180) (N := 2) (cuts := kX11_tick_t) sU_ok dp0_ok ct0_ok (cons_ok kX11_leave_ok (cons_ok kX11_choose_ok (cons_ok kX11_beside_ok (cons_ok kX11_of_ok (cons_ok kX11_first_ok nil_ok))))) (by decide +kernel)
def kX11_run : CN := (207, 9, [.inr 1900, .inl (.negSucc 2147483647, .ofNat 2147483647)], [], [(24, []), (28, [])], [(11, 0), (11, 34), (11, 35), (11, 36), (11, 37), (11, 38), (11, 39), (11, 41), (11, 42), (1063, 0), (1077, 0)], [(some (.inl (.negSucc 2147483647, .ofNat 2147483647)), [], [], [(28, [])], [])])
def kX11_run_t : List (Nat × TP) := [(41, ([.inr (.inl (.inl 633)), .inl ([(0, .ofNat 1)], .ofNat 0), .inl ([(1, .ofNat 1)], .ofNat 0)], [], [(24, []), (28, [])], [(.ofNat 1, .ofNat 400), (.ofNat 0, .ofNat 400)], [], [], [([], .ofNat 1), ([(1, .negSucc 0)], .ofNat 401)], [.inr (.inr 0), .inr (.inr 0)], []))]
set_option maxRecDepth 100000 in
theorem kX11_run_ok : cnOK sT sG FL0 kX11_run := ccM_V (Δ := [kX11_tick]) (n := 50) (N := 2) (cuts := kX11_run_t) sU_ok dp0_ok ct0_ok (cons_ok kX11_tick_ok nil_ok) (by decide +kernel)
def kX11_go : CN := (222, 9, [.inr 1900, .inl (.negSucc 2147483647, .ofNat 2147483647)], [], [(24, []), (28, [])], [(11, 34), (11, 35), (11, 36), (11, 37), (11, 38), (11, 39), (11, 41), (11, 42), (1063, 0), (1077, 0)], [(none, [], [], [(28, [])], [])])
def kX11_go_t : List (Nat × TP) := [(2, ([.inr (.inl (.inl 633)), .inl ([(0, .ofNat 1)], .ofNat 0), .inl ([(1, .ofNat 1)], .ofNat 0)], [], [(24, []), (28, [])], [(.negSucc 2147483647, .ofNat 2147483647), (.ofNat 0, .ofNat 2147483647)], [], [], [([], .ofNat 1), ([(1, .negSucc 0)], .ofNat 2147483648)], [.inr (.inr 0), .inr (.inr 0)], []))]
set_option maxRecDepth 100000 in
theorem kX11_go_ok : cnOK sT sG FL0 kX11_go := ccM_V (Δ := [kX11_tick, kX11_endWeek]) (n := 18) (N := 2) (cuts := kX11_go_t) sU_ok dp0_ok ct0_ok (cons_ok kX11_tick_ok (cons_ok kX11_endWeek_ok nil_ok)) (by decide +kernel)
def kX11_way : CN := (240, 8, [.inr 1900, .inl (.negSucc 2147483647, .ofNat 2147483647), .inl (.negSucc 2147483647, .ofNat 2147483647), .inl (.negSucc 2147483647, .ofNat 2147483647)], [], [(24, [])], [(11, 0), (11, 34), (11, 35), (11, 36), (11, 37), (11, 38), (11, 39), (11, 60), (11, 61), (1077, 0), (1085, 0), (1086, 0)], [(some (.inl (.negSucc 1, .ofNat 255)), [], [], [], [])])
def kX11_way_t : List (Nat × TP) := [(38, ([.inr (.inl (.inl 633)), .inr (.inr 0), .inr (.inr 0), .inr (.inr 0), .inl ([(0, .ofNat 1)], .ofNat 0), .inl ([(1, .ofNat 1)], .ofNat 0)], [(.inl 633, 11, 60, .inl ([(2, .ofNat 1)], .ofNat 0))], [(24, [])], [(.negSucc 0, .ofNat 255), (.ofNat 0, .ofNat 201), (.ofNat 0, .ofNat 201)], [], [], [([], .ofNat 1), ([(1, .negSucc 0)], .ofNat 202)], [.inr (.inr 0), .inr (.inr 0), .inr (.inr 0), .inr (.inr 0)], []))]
set_option maxRecDepth 100000 in
theorem kX11_way_ok : cnOK sT sG FL0 kX11_way := ccM_V (Δ := [kX11_walk]) (n := 152) (N := 2) (cuts := kX11_way_t) sU_ok dp0_ok ct0_ok (cons_ok kX11_walk_ok nil_ok) (by decide +kernel)
def kX11_read_ : CN := (242, 8, [.inr 1900], [], [(24, [])], [(11, 0), (11, 2), (11, 3), (11, 4), (11, 34), (11, 35), (11, 36), (11, 37), (11, 38), (11, 39), (11, 60), (11, 62), (1077, 0), (1085, 0), (1087, 0), (1088, 0), (1089, 0), (1090, 0)], [(some (.inl (.negSucc 2147483647, .ofNat 2147483647)), [], [(.inl 633, 11, 2, .inl (.ofNat 0, .ofNat 0))], [], [])])
def kX11_read__t : List (Nat × TP) := [(38, ([.inr (.inl (.inl 633)), .inl ([(0, .ofNat 1)], .ofNat 0), .inl ([(1, .ofNat 1)], .ofNat 0), .inr (.inr 0), .inr (.inr 0), .inr (.inr 0), .inr (.inr 0)], [(.inl 633, 11, 3, .inl ([(2, .ofNat 1)], .ofNat 0)), (.inl 633, 11, 2, .inl ([(3, .ofNat 1)], .ofNat 0)), (.inl 633, 11, 4, .inl ([(4, .ofNat 1)], .ofNat 0))], [(24, [])], [(.ofNat 1, .ofNat 5), (.ofNat 0, .ofNat 5), (.ofNat 0, .ofNat 440), (.ofNat 0, .ofNat 0), (.ofNat 0, .ofNat 0)], [], [], [([], .ofNat 3), ([(1, .negSucc 0)], .ofNat 6), ([], .ofNat 99), ([], .ofNat 0)], [.inr (.inr 0)], [])), (111, ([.inr (.inl (.inl 633)), .inl ([(0, .ofNat 1)], .ofNat 0), .inl ([(1, .ofNat 1)], .ofNat 0), .inl ([(2, .ofNat 1)], .ofNat 0), .inr (.inr 0), .inr (.inr 0), .inr (.inr 0)], [(.inl 633, 11, 4, .inl ([(3, .ofNat 1)], .ofNat 0)), (.inl 633, 11, 2, .inl ([(4, .ofNat 1)], .ofNat 0)), (.inl 633, 11, 3, .inl ([(5, .ofNat 1)], .ofNat 0))], [(24, [])], [(.ofNat 1, .ofNat 5), (.ofNat 0, .ofNat 4), (.ofNat 0, .ofNat 256), (.ofNat 0, .ofNat 0), (.ofNat 0, .ofNat 0), (.ofNat 0, .ofNat 440)], [], [([(0, .ofNat 1), (1, .negSucc 0)], .negSucc 0)], [([], .ofNat 3), ([(1, .negSucc 0)], .ofNat 6), ([], .ofNat 2), ([(2, .negSucc 0)], .ofNat 257)], [.inr (.inr 0)], [])), (139, ([.inr (.inl (.inl 633)), .inl ([(0, .ofNat 1)], .ofNat 0), .inl ([(1, .ofNat 1)], .ofNat 0), .inl ([(2, .ofNat 1)], .ofNat 0), .inr (.inr 0), .inr (.inr 0), .inr (.inr 0)], [(.inl 633, 11, 3, .inl ([(3, .ofNat 1)], .ofNat 0)), (.inl 633, 11, 2, .inl ([(4, .ofNat 1)], .ofNat 0)), (.inl 633, 11, 4, .inl ([(5, .ofNat 1)], .ofNat 0))], [(24, [])], [(.ofNat 1, .ofNat 5), (.ofNat 0, .ofNat 4), (.ofNat 1, .ofNat 201), (.ofNat 0, .ofNat 440), (.ofNat 0, .ofNat 0), (.ofNat 0, .ofNat 0)], [], [], [([], .ofNat 3), ([(1, .negSucc 0)], .ofNat 6), ([], .ofNat 1), ([(2, .negSucc 0)], .ofNat 202)], [.inr (.inr 0)], [])), (184, ([.inr (.inl (.inl 633)), .inl ([(0, .ofNat 1)], .ofNat 0), .inl ([(1, .ofNat 1)], .ofNat 0), .inl ([(2, .ofNat 1)], .ofNat 0), .inr (.inr 0), .inr (.inr 0), .inr (.inr 0)], [(.inl 633, 11, 4, .inl ([(3, .ofNat 1)], .ofNat 0)), (.inl 633, 11, 2, .inl ([(4, .ofNat 1)], .ofNat 0)), (.inl 633, 11, 3, .inl ([(5, .ofNat 1)], .ofNat 0))], [(24, [])], [(.ofNat 1, .ofNat 5), (.negSucc 2147483647, .ofNat 2147483647), (.ofNat 0, .ofNat 5), (.ofNat 0, .ofNat 0), (.ofNat 0, .ofNat 0), (.ofNat 0, .ofNat 440)], [], [], [([], .ofNat 2), ([(2, .negSucc 0)], .ofNat 6), ([], .ofNat 99), ([], .ofNat 0)], [.inr (.inr 0)], [])), (205, ([.inr (.inl (.inl 633)), .inl ([(0, .ofNat 1)], .ofNat 0), .inl ([(1, .ofNat 1)], .ofNat 0), .inl ([(2, .ofNat 1)], .ofNat 0), .inl ([(3, .ofNat 1)], .ofNat 0), .inr (.inr 0), .inr (.inr 0)], [(.inl 633, 11, 3, .inl ([(4, .ofNat 1)], .ofNat 0)), (.inl 633, 11, 2, .inl ([(5, .ofNat 1)], .ofNat 0)), (.inl 633, 11, 4, .inl ([(6, .ofNat 1)], .ofNat 0))], [(24, [])], [(.ofNat 1, .ofNat 5), (.negSucc 2147483647, .ofNat 2147483647), (.negSucc 2147483647, .ofNat 2147483647), (.ofNat 0, .ofNat 2147483647), (.ofNat 0, .ofNat 440), (.ofNat 0, .ofNat 0), (.ofNat 0, .ofNat 0)], [], [], [([], .ofNat 1), ([(3, .negSucc 0)], .ofNat 2147483648), ([], .ofNat 99), ([], .ofNat 0)], [.inr (.inr 0)], [])), (218, ([.inr (.inl (.inl 633)), .inl ([(0, .ofNat 1)], .ofNat 0), .inl ([(1, .ofNat 1)], .ofNat 0), .inl ([(2, .ofNat 1)], .ofNat 0), .inl ([(3, .ofNat 1)], .ofNat 0), .inl ([(4, .ofNat 1)], .ofNat 0), .inl ([(5, .ofNat 1)], .ofNat 0)], [(.inl 633, 11, 4, .inl ([(6, .ofNat 1)], .ofNat 0)), (.inl 633, 11, 2, .inl ([(7, .ofNat 1)], .ofNat 0)), (.inl 633, 11, 3, .inl ([(8, .ofNat 1)], .ofNat 0))], [(24, [])], [(.ofNat 1, .ofNat 5), (.ofNat 1, .ofNat 2147483647), (.negSucc 2147483647, .ofNat 2147483647), (.ofNat 0, .ofNat 2147483646), (.ofNat 0, .ofNat 2147483646), (.ofNat 0, .ofNat 5), (.ofNat 0, .ofNat 0), (.ofNat 0, .ofNat 0), (.ofNat 0, .ofNat 440)], [], [([(1, .ofNat 1), (3, .negSucc 0)], .negSucc 0)], [([], .ofNat 1), ([(3, .negSucc 0)], .ofNat 2147483648), ([], .ofNat 2), ([(5, .negSucc 0)], .ofNat 6)], [.inr (.inr 0)], [])), (272, ([.inr (.inl (.inl 633)), .inl ([(0, .ofNat 1)], .ofNat 0), .inl ([(1, .ofNat 1)], .ofNat 0), .inl ([(2, .ofNat 1)], .ofNat 0), .inl ([(3, .ofNat 1)], .ofNat 0), .inr (.inr 0), .inl ([(4, .ofNat 1)], .ofNat 0)], [(.inl 633, 11, 3, .inl ([(5, .ofNat 1)], .ofNat 0)), (.inl 633, 11, 2, .inl ([(6, .ofNat 1)], .ofNat 0)), (.inl 633, 11, 4, .inl ([(7, .ofNat 1)], .ofNat 0))], [(24, [])], [(.ofNat 1, .ofNat 5), (.ofNat 1, .ofNat 2147483647), (.negSucc 2147483647, .ofNat 2147483647), (.ofNat 0, .ofNat 2147483646), (.ofNat 0, .ofNat 5), (.ofNat 0, .ofNat 440), (.ofNat 0, .ofNat 0), (.ofNat 0, .ofNat 0)], [], [], [([], .ofNat 1), ([(3, .negSucc 0)], .ofNat 2147483648), ([], .ofNat 1), ([(4, .negSucc 0)], .ofNat 6)], [.inr (.inr 0)], []))]
set_option maxRecDepth 100000 in
theorem kX11_read__ok : cnOK sT sG FL0 kX11_read_ := ccM_V (Δ := [kX11_octet, kX11_walk, kX11_isSnow]) (n := 160) (N := 4) (cuts := kX11_read__t) sU_ok dp0_ok ct0_ok (cons_ok kX11_octet_ok (cons_ok kX11_walk_ok (cons_ok kX11_isSnow_ok nil_ok))) (by decide +kernel)
def kX11_fits : CN := (245, 8, [.inr 1900, .inl (.negSucc 2147483647, .ofNat 2147483647), .inl (.negSucc 2147483647, .ofNat 2147483647)], [], [(24, [])], [(11, 0), (11, 2), (11, 3), (11, 4), (11, 34), (11, 35), (11, 36), (11, 37), (11, 38), (11, 39), (11, 60), (1077, 0), (1085, 0)], [(some (.inl (.negSucc 0, .ofNat 63)), [], [(.inl 633, 11, 2, .inl (.ofNat 0, .ofNat 0))], [], [])])
def kX11_fits_t : List (Nat × TP) := [(40, ([.inr (.inl (.inl 633)), .inl ([(0, .ofNat 1)], .ofNat 0), .inl ([(1, .ofNat 1)], .ofNat 0), .inl ([(2, .ofNat 1)], .ofNat 0), .inl ([(3, .ofNat 1)], .ofNat 0), .inr (.inr 0), .inr (.inr 0)], [(.inl 633, 11, 3, .inl ([(4, .ofNat 1)], .ofNat 0)), (.inl 633, 11, 2, .inl ([(5, .ofNat 1)], .ofNat 0)), (.inl 633, 11, 4, .inl ([(6, .ofNat 1)], .ofNat 0))], [(24, [])], [(.ofNat 0, .ofNat 8), (.ofNat 0, .ofNat 8), (.ofNat 0, .ofNat 63), (.ofNat 0, .ofNat 6), (.ofNat 1, .ofNat 200), (.ofNat 0, .ofNat 0), (.ofNat 0, .ofNat 0)], [], [], [([], .ofNat 1), ([(3, .negSucc 0)], .ofNat 7), ([], .ofNat 99), ([], .ofNat 0)], [.inr (.inr 0), .inr (.inr 0), .inr (.inr 0)], [])), (72, ([.inr (.inl (.inl 633)), .inl ([(0, .ofNat 1)], .ofNat 0), .inl ([(1, .ofNat 1)], .ofNat 0), .inl ([(2, .ofNat 1)], .ofNat 0), .inl ([(3, .ofNat 1)], .ofNat 0), .inl ([(4, .ofNat 1)], .ofNat 0), .inl ([(5, .ofNat 1)], .ofNat 0)], [(.inl 633, 11, 4, .inl ([(6, .ofNat 1)], .ofNat 0)), (.inl 633, 11, 2, .inl ([(7, .ofNat 1)], .ofNat 0)), (.inl 633, 11, 3, .inl ([(8, .ofNat 1)], .ofNat 0))], [(24, [])], [(.ofNat 0, .ofNat 8), (.ofNat 0, .ofNat 8), (.ofNat 0, .ofNat 63), (.ofNat 0, .ofNat 5), (.ofNat 0, .ofNat 1), (.ofNat 0, .ofNat 200), (.ofNat 0, .ofNat 0), (.ofNat 0, .ofNat 0), (.ofNat 1, .ofNat 200)], [], [], [([], .ofNat 1), ([(3, .negSucc 0)], .ofNat 7), ([], .ofNat 1), ([(5, .negSucc 0)], .ofNat 201)], [.inr (.inr 0), .inr (.inr 0), .inr (.inr 0)], []))]
set_option maxRecDepth 100000 in
theorem kX11_fits_ok : cnOK sT sG FL0 kX11_fits := ccM_V (Δ := [kX11_walk, kX11_octet]) (n := 166) (N := 4) (cuts := kX11_fits_t) sU_ok dp0_ok ct0_ok (cons_ok kX11_walk_ok (cons_ok kX11_octet_ok nil_ok)) (by decide +kernel)
def kX11_park : CN := (155, 1, [.inr 1900, .inl (.negSucc 2147483647, .ofNat 2147483647), .inl (.negSucc 2147483647, .ofNat 2147483647)], [], [(28, [])], [(11, 0), (11, 2), (11, 3), (11, 4), (1063, 0)], [(some (.inl (.ofNat 0, .ofNat 1)), [], [(.inl 633, 11, 2, .inl (.ofNat 0, .ofNat 0))], [(28, [])], [])])
def kX11_park_A : List (Nat × TP) := [(43, ([.inr (.inl (.inl 633)), .inl ([(0, .ofNat 1)], .ofNat 0), .inl ([(1, .ofNat 1)], .ofNat 0), .inl ([(2, .ofNat 1)], .ofNat 0)], [(.inl 633, 11, 3, .inl ([(3, .ofNat 1)], .ofNat 0)), (.inl 633, 11, 2, .inl ([(4, .ofNat 1)], .ofNat 0)), (.inl 633, 11, 4, .inl ([(5, .ofNat 1)], .ofNat 0))], [(28, [])], [(.ofNat 4, .ofNat 16), (.ofNat 4, .ofNat 16), (.ofNat 0, .ofNat 256), (.ofNat 16, .ofNat 256), (.ofNat 0, .ofNat 0), (.ofNat 0, .ofNat 0)], [], [], [([], .ofNat 3), ([(2, .negSucc 0)], .ofNat 257)], [.inr (.inr 0), .inr (.inr 0), .inr (.inr 0)], []))]
def kX11_park_G : List (Nat × TP) := [(74, ([.inr (.inl (.inl 633)), .inl ([(0, .ofNat 1)], .ofNat 0), .inl ([(1, .ofNat 1)], .ofNat 0), .inl ([(2, .ofNat 1)], .ofNat 0)], [(.inl 633, 11, 4, .inl ([(3, .ofNat 1)], .ofNat 0)), (.inl 633, 11, 2, .inl ([(4, .ofNat 1)], .ofNat 0)), (.inl 633, 11, 3, .inl ([(5, .ofNat 1)], .ofNat 0))], [(28, [])], [(.ofNat 4, .ofNat 16), (.ofNat 4, .ofNat 16), (.ofNat 0, .ofNat 0), (.ofNat 0, .ofNat 0), (.ofNat 0, .ofNat 0), (.ofNat 16, .ofNat 256)], [], [], [([], .ofNat 2), ([], .ofNat 0)], [.inr (.inr 0), .inr (.inr 0), .inr (.inr 0)], []))]
def kX11_park_B : List (Nat × TP) := [(110, ([.inr (.inl (.inl 633)), .inr (.inr 0), .inr (.inr 0), .inl ([(0, .ofNat 1)], .ofNat 0)], [(.inl 633, 11, 3, .inl ([(1, .ofNat 1)], .ofNat 0)), (.inl 633, 11, 2, .inl ([(2, .ofNat 1)], .ofNat 0)), (.inl 633, 11, 4, .inl ([(3, .ofNat 1)], .ofNat 0))], [(28, [])], [(.ofNat 0, .ofNat 256), (.ofNat 16, .ofNat 256), (.ofNat 0, .ofNat 0), (.ofNat 0, .ofNat 0)], [], [], [([], .ofNat 1), ([(0, .negSucc 0)], .ofNat 257)], [.inr (.inr 0), .inr (.inr 0), .inr (.inr 0)], []))]
def kX11_park_D : List CN := [kX11_octet]
set_option maxRecDepth 100000 in
theorem kX11_park_D_ok : ∀ c ∈ kX11_park_D, cnOK sT sG FL0 c := cons_ok kX11_octet_ok nil_ok
set_option maxRecDepth 100000 in
theorem kX11_park_chk : (((!Nat.beq kX11_park.1 205) && ccE sT sG sU dp0 kX11_park_D 82 kX11_park (kX11_park_A ++ (kX11_park_G ++ kX11_park_B))) && (kX11_park_A.all (ccC sT sG sU dp0 kX11_park_D 82 2 kX11_park (kX11_park_A ++ (kX11_park_G ++ kX11_park_B))) && kX11_park_B.all (ccC sT sG sU dp0 kX11_park_D 82 2 kX11_park kX11_park_B))) = true := by decide +kernel
/-! LOOPS THAT END BECAUSE A ROW FALLS: 'while (more)' -/
noncomputable def flN (x : Nat) : Bool := !(Nat.ble 40 x && Nat.ble x 50)
/-- no flag of measures -/
noncomputable def cnN (c : CN) : Bool := c.2.2.2.2.1.all (fun f => flN f.1) && c.2.2.2.2.2.2.all (fun s => s.2.2.2.1.all (fun f => flN f.1))
noncomputable def tpN (t : TP) : Bool := t.2.2.1.all (fun f => flN f.1)
theorem flN_m {m m2 x : Nat} {vs : List Int} {M : Mem} (hx : flN x = true) (h : FLm m x vs M) : FLm m2 x vs M := by
  refine FLm_m ?_ h
  unfold flN at hx
  cases hb : Nat.ble 40 x && Nat.ble x 50 with
  | false => rfl
  | true => rw [hb] at hx; cases hx
theorem flOK_m {m m2 : Nat} {vs : List Value} {M : Mem} {f : FP} (hx : flN f.1 = true) (h : flOK (FLm m) vs M f) : flOK (FLm m2) vs M f := by
  obtain ⟨ys, h1, h2⟩ := h
  exact ⟨ys, h1, flN_m hx h2⟩
theorem csOK_m {m m2 : Nat} {ws : List Value} {v : Option Value} {M : Mem} {s : CS} (hx : s.2.2.2.1.all (fun f => flN f.1) = true) (h : csOK sT (FLm m) ws v M s) : csOK sT (FLm m2) ws v M s := by
  obtain ⟨h1, h2, hv, h3, h4, h5⟩ := h
  exact ⟨h1, h2, hv, h3, fun f hf => flOK_m (List.all_eq_true.mp hx f hf) (h4 f hf), h5⟩
theorem fin_m {m m2 : Nat} {c : CN} (hN : cnN c = true) {ws : List Value} {M M' : Mem} {w : Option Value} (h : Fin sT sG (FLm m) c ws M w M') : Fin sT sG (FLm m2) c ws M w M' := by
  obtain ⟨h1, h2, s, hs, h3⟩ := h
  exact ⟨h1, h2, s, hs, csOK_m (List.all_eq_true.mp (and_t hN).2 s hs) h3⟩
theorem cn_m {m m2 : Nat} {c : CN} (hN : cnN c = true) (h : cnOK sT sG (FLm m) c) : cnOK sT sG (FLm m2) c := by
  intro d M ws q hD hq hws hpre hT
  obtain ⟨hv, h1, h2⟩ := hpre
  obtain ⟨v, M', e1, e2, e3, s, hs, e4, e5⟩ := h d M ws q hD hq hws ⟨hv, h1, fun f hf => flOK_m (List.all_eq_true.mp (and_t hN).1 f hf) (h2 f hf)⟩ hT
  exact ⟨v, M', e1, e2, e3, s, hs, csOK_m (List.all_eq_true.mp (and_t hN).2 s hs) e4, e5⟩
theorem cnd_m {m m2 : Nat} {t : TP} (hN : tpN t = true) {md : Md} {ws : List Value} {M M' : Mem} {cl : Lo} (h : Cnd sT sG (FLm m) md ws M t cl M') : Cnd sT sG (FLm m2) md ws M t cl M' := by
  obtain ⟨ρ, π, h1, h2, h3, h4⟩ := h
  refine ⟨ρ, π, h1, h2, ⟨h3.1, fun x hx => ?_, h3.2.2⟩, h4⟩
  obtain ⟨vs, q1, q2⟩ := h3.2.1 x hx
  exact ⟨vs, q1, flN_m (List.all_eq_true.mp hN x hx) q2⟩
/-- .. with one more flag -/
def tpF (x : Nat) (t : TP) : TP := (t.1, t.2.1, (x, []) :: t.2.2.1, t.2.2.2)
/-- .. with ranks of 0 -/
def tpZ (t : TP) : TP := (t.1, t.2.1, t.2.2.1, t.2.2.2.1, t.2.2.2.2.1, t.2.2.2.2.2.1, t.2.2.2.2.2.2.1.map (fun _ => ([], .ofNat 0)), t.2.2.2.2.2.2.2)
theorem cnd_z {m : Nat} {t : TP} {md : Md} {ws : List Value} {M M' : Mem} {cl : Lo} : Cnd sT sG (FLm m) md ws M (tpZ t) cl M' ↔ Cnd sT sG (FLm m) md ws M t cl M' := Iff.rfl
theorem cnd_add {m x : Nat} {t : TP} {md : Md} {ws : List Value} {M M' : Mem} {cl : Lo} (hx : FLm m x [] M') (h : Cnd sT sG (FLm m) md ws M t cl M') : Cnd sT sG (FLm m) md ws M (tpF x t) cl M' := by
  obtain ⟨ρ, π, h1, h2, h3, h4⟩ := h
  refine ⟨ρ, π, h1, h2, ⟨h3.1, fun y hy => ?_, h3.2.2⟩, h4⟩
  rcases List.mem_cons.mp hy with rfl | hy
  · exact ⟨[], trivial, hx⟩
  · exact h3.2.1 y hy
theorem cnd_less {m x : Nat} {t : TP} {md : Md} {ws : List Value} {M M' : Mem} {cl : Lo} (h : Cnd sT sG (FLm m) md ws M (tpF x t) cl M') : FLm m x [] M' ∧ Cnd sT sG (FLm m) md ws M t cl M' := by
  obtain ⟨ρ, π, h1, h2, h3, h4⟩ := h
  refine ⟨?_, ρ, π, h1, h2, ⟨h3.1, fun y hy => h3.2.1 y (List.mem_cons_of_mem _ hy), h3.2.2⟩, h4⟩
  obtain ⟨vs, q1, q2⟩ := h3.2.1 (x, []) (List.mem_cons_self ..)
  cases vs with
  | nil => exact q2
  | cons _ _ => exact q1.elim
theorem cnd_T {m : Nat} {t : TP} {md : Md} {ws : List Value} {M M' : Mem} {cl : Lo} (h : Cnd sT sG (FLm m) md ws M t cl M') : TM sT sG M' := by
  obtain ⟨ρ, π, h1, h2, h3, h4⟩ := h
  exact h3.2.2.2.2.2
theorem ccW_V {Δ : List CN} (hΔ : ∀ c ∈ Δ, cnOK sT sG FL0 c) {n N h a fi : Nat} {f : Int32 → Nat} {c : CN} {P I : List (Nat × TP)} {tH t0 : TP} (hf : ∀ m M, FLm m fi [] M ↔ msP a f (fun s => s ≤ m) M) (hf2 : ∀ m M, FLm m (fi - 2) [] M ↔ msP a f (fun s => s < m) M) (ha : ∀ M, TM sT sG M → ∃ t l, gNth M a = some (.inl (t, .inl l))) (hc : (((!Nat.beq c.1 205 && ccE sT sG sU dp0 Δ n c (P ++ [(h, tH)])) && ((cnN c && Δ.all cnN) && (tpN tH && tpN t0))) && ((P.all (ccC sT sG sU dp0 Δ n N c (P ++ [(h, tH)])) && ccC sT sG sU dp0 Δ n N c [] (h, t0)) && ((h, tpF fi tH) :: I).all (ccC sT sG sU dp0 Δ n N c (((h, tpF fi tH) :: I) ++ [(h, t0), (h, tpF (fi - 2) (tpZ tH))])))) = true) : cnOK sT sG FL0 c := by
  obtain ⟨c1, c2⟩ := and_t hc
  obtain ⟨c1, c3⟩ := and_t c1
  obtain ⟨h205, hE⟩ := and_t c1
  obtain ⟨c3, c4⟩ := and_t c3
  obtain ⟨nc, nΔ⟩ := and_t c3
  obtain ⟨nH, n0⟩ := and_t c4
  obtain ⟨c2, cI⟩ := and_t c2
  obtain ⟨cP, c0⟩ := and_t c2
  have hΔm : ∀ m, ∀ c ∈ Δ, cnOK sT sG (FLm m) c := fun m c hm => cn_m (List.all_eq_true.mp nΔ c hm) (hΔ c hm)
  refine fin_cn h205 (fun d M ws q hD hq hws hpre hT => ?_)
  have r0 : ∀ cl M', Cnd sT sG FL0 c.2.2.2.2.2.1 ws M t0 cl M' → RF (Fin sT sG FL0 c ws M) [] d c.1 h cl [] M' := fun cl M' hc => main_V (A := [(h, t0)]) (cuts := []) (M := M) (ws := ws) sU_ok dp0_ok ct0_ok hΔ hD (Q := Fin sT sG FL0 c ws M) (fun _ _ h => h) (fun x hx => by cases List.mem_singleton.mp hx; exact c0) (fun x hx => by cases hx) (h, t0) (List.mem_singleton.mpr rfl) cl M' hc
  have rH : ∀ k cl M', msP a f (fun s => s < k) M' → Cnd sT sG FL0 c.2.2.2.2.2.1 ws M tH cl M' → RF (Fin sT sG FL0 c ws M) [] d c.1 h cl [] M' := by
    intro k
    induction k with
    | zero =>
      intro cl M' hm
      obtain ⟨t, l, e1, e2⟩ := hm
      exact absurd e2 (Nat.not_lt_zero _)
    | succ k ih =>
      intro cl M' hm hcd
      obtain ⟨t, l, e1, e2⟩ := hm
      obtain ⟨s, es⟩ : ∃ s, s = (l.map f).sum := ⟨_, rfl⟩
      refine main_V (A := (h, tpF fi tH) :: I) (cuts := ((h, tpF fi tH) :: I) ++ [(h, t0), (h, tpF (fi - 2) (tpZ tH))]) (M := M) (ws := ws) sU_ok (dpm_ok s) (ctm_ok s) (hΔm s) hD (Q := Fin sT sG FL0 c ws M) (fun _ _ h => fin_m nc h) (fun x hx => List.all_eq_true.mp cI x hx) (fun x hx => ?_) (h, tpF fi tH) (List.mem_cons_self ..) cl M' (cnd_add ((hf s M').mpr ⟨t, l, e1, by show (l.map f).sum ≤ s; omega⟩) (cnd_m nH hcd))
      rcases List.mem_append.mp hx with hx | hx
      · exact Or.inl hx
      · refine Or.inr (fun cl2 M2 hc2 => ?_)
        rcases List.mem_cons.mp hx with rfl | hx
        · exact r0 cl2 M2 (cnd_m n0 hc2)
        · cases List.mem_singleton.mp hx
          obtain ⟨q1, q2⟩ := cnd_less hc2
          obtain ⟨t2, l2, e3, e4⟩ := (hf2 s M2).mp q1
          have e2 : (l.map f).sum < k + 1 := e2
          have e4 : (l2.map f).sum < s := e4
          exact ih cl2 M2 ⟨t2, l2, e3, by show (l2.map f).sum < k; omega⟩ (cnd_m nH (cnd_z.mp q2))
  have rH2 : ∀ cl M', Cnd sT sG FL0 c.2.2.2.2.2.1 ws M tH cl M' → RF (Fin sT sG FL0 c ws M) [] d c.1 h cl [] M' := fun cl M' hcd => by
    obtain ⟨t, l, e1⟩ := ha M' (cnd_T hcd)
    exact rH _ cl M' ⟨t, l, e1, Nat.lt_succ_self _⟩ hcd
  have rP := main_V (A := P) (cuts := P ++ [(h, tH)]) (M := M) (ws := ws) sU_ok dp0_ok ct0_ok hΔ hD (Q := Fin sT sG FL0 c ws M) (fun _ _ h => h) (fun x hx => List.all_eq_true.mp cP x hx) (fun x hx => by
    rcases List.mem_append.mp hx with hx | hx
    · exact Or.inl hx
    · cases List.mem_singleton.mp hx
      exact Or.inr rH2)
  refine ent_V sU_ok dp0_ok ct0_ok hΔ hE hD hq hws hpre hT (fun _ _ h => h) (fun x hx => ?_)
  rcases List.mem_append.mp hx with hx | hx
  · exact rP x hx
  · cases List.mem_singleton.mp hx
    exact rH2
theorem fl_42 (m : Nat) (M : Mem) : FLm m 42 [] M ↔ msP 650 mB (fun s => s ≤ m) M := Iff.rfl
theorem fl_40 (m : Nat) (M : Mem) : FLm m (42 - 2) [] M ↔ msP 650 mB (fun s => s < m) M := Iff.rfl
theorem fl_46 (m : Nat) (M : Mem) : FLm m 46 [] M ↔ msP 654 mI (fun s => s ≤ m) M := Iff.rfl
theorem fl_44 (m : Nat) (M : Mem) : FLm m (46 - 2) [] M ↔ msP 654 mI (fun s => s < m) M := Iff.rfl
theorem fl_50 (m : Nat) (M : Mem) : FLm m 50 [] M ↔ msP 655 mI (fun s => s ≤ m) M := Iff.rfl
theorem fl_48 (m : Nat) (M : Mem) : FLm m (50 - 2) [] M ↔ msP 655 mI (fun s => s < m) M := Iff.rfl
set_option maxRecDepth 100000 in
theorem ha_mark (M : Mem) (hT : TM sT sG M) : ∃ t l, gNth M 650 = some (.inl (t, .inl l)) := by
  obtain ⟨l, h, _⟩ := hT.mrow (a := 650) (g := 78) (kd := 3) (n := 256) (lo := 0) (hi := 1) (by decide +kernel) (by decide +kernel)
  exact ⟨3, l, h⟩
set_option maxRecDepth 100000 in
theorem ha_costs (M : Mem) (hT : TM sT sG M) : ∃ t l, gNth M 654 = some (.inl (t, .inl l)) := by
  obtain ⟨l, h, _⟩ := hT.mrow (a := 654) (g := 82) (kd := 1) (n := 16384) (lo := -2147483648) (hi := 2147483647) (by decide +kernel) (by decide +kernel)
  exact ⟨1, l, h⟩
set_option maxRecDepth 100000 in
theorem ha_ways (M : Mem) (hT : TM sT sG M) : ∃ t l, gNth M 655 = some (.inl (t, .inl l)) := by
  obtain ⟨l, h, _⟩ := hT.mrow (a := 655) (g := 83) (kd := 1) (n := 256) (lo := -2147483648) (hi := 2147483647) (by decide +kernel) (by decide +kernel)
  exact ⟨1, l, h⟩
/-! BY HAND: widen of the reference -/
theorem wd_0 {e : Nat} {M : Mem} {M' : Mem} {v : Option Value} {fr n : Int32}  (hz : Ev none (e + 3) 226 2 [some (.ref 633), some (.int fr), some (.int n), some (.int 1), none, none, none] [] M v M' 0 0) : Ev none (e + 3) 226 0 [some (.ref 633), some (.int fr), some (.int n), none, none, none, none] [] M v M' 0 0 := by
  refine Ev.step (pc' := 2) (ls' := [some (.ref 633), some (.int fr), some (.int n), some (.int 1), none, none, none]) (st' := []) (M1 := M) 2 (fun n => rfl) ?_
  exact hz
theorem wd_2 {e : Nat} {M : Mem} {M' : Mem} {v : Option Value} {fr mo n : Int32} {x4 x5 x6 : Option Value}  (hz : Ev none (e + 3) 226 (if mo = 0 then 133 else 6) [some (.ref 633), some (.int fr), some (.int n), some (.int mo), x4, x5, x6] [] M v M' 0 0) : Ev none (e + 3) 226 2 [some (.ref 633), some (.int fr), some (.int n), some (.int mo), x4, x5, x6] [] M v M' 0 0 := by
  refine Ev.step (pc' := (if mo = 0 then 133 else 6)) (ls' := [some (.ref 633), some (.int fr), some (.int n), some (.int mo), x4, x5, x6]) (st' := []) (M1 := M) 2 (fun n => rfl) ?_
  exact hz
theorem wd_133 {e : Nat} {M : Mem} {fr mo n : Int32} {x4 x5 x6 : Option Value}  : Ev none (e + 3) 226 133 [some (.ref 633), some (.int fr), some (.int n), some (.int mo), x4, x5, x6] [] M none M 0 0 := by
  exact Ev.ret (fun n => rfl)
theorem wd_6 {e : Nat} {M : Mem} {M' : Mem} {v : Option Value} {fr mo n : Int32} {x4 x5 x6 : Option Value}  (hz : Ev none (e + 3) 226 11 [some (.ref 633), some (.int fr), some (.int n), some (.int 0), some (.int 0), x5, x6] [] M v M' 0 0) : Ev none (e + 3) 226 6 [some (.ref 633), some (.int fr), some (.int n), some (.int mo), x4, x5, x6] [] M v M' 0 0 := by
  refine Ev.step (pc' := 11) (ls' := [some (.ref 633), some (.int fr), some (.int n), some (.int 0), some (.int 0), x5, x6]) (st' := []) (M1 := M) 4 (fun n => rfl) ?_
  exact hz
theorem wd_11 {e : Nat} {M : Mem} {M' : Mem} {v : Option Value} {c fr mo n : Int32} {x5 x6 : Option Value}  (hz : Ev none (e + 3) 226 (if n ≤ c then 130 else 17) [some (.ref 633), some (.int fr), some (.int n), some (.int mo), some (.int c), x5, x6] [] M v M' 0 0) : Ev none (e + 3) 226 11 [some (.ref 633), some (.int fr), some (.int n), some (.int mo), some (.int c), x5, x6] [] M v M' 0 0 := by
  refine Ev.step (pc' := (if n ≤ c then 130 else 17)) (ls' := [some (.ref 633), some (.int fr), some (.int n), some (.int mo), some (.int c), x5, x6]) (st' := []) (M1 := M) 3 (fun n => rfl) ?_
  exact hz
theorem wd_130 {e : Nat} {M : Mem} {M' : Mem} {v : Option Value} {c fr mo n : Int32} {x5 x6 : Option Value}  (hz : Ev none (e + 3) 226 2 [some (.ref 633), some (.int fr), some (.int n), some (.int mo), some (.int c), x5, x6] [] M v M' 0 0) : Ev none (e + 3) 226 130 [some (.ref 633), some (.int fr), some (.int n), some (.int mo), some (.int c), x5, x6] [] M v M' 0 0 := by
  refine Ev.step (pc' := 2) (ls' := [some (.ref 633), some (.int fr), some (.int n), some (.int mo), some (.int c), x5, x6]) (st' := []) (M1 := M) 1 (fun n => rfl) ?_
  exact hz
theorem wd_17 {e : Nat} {M : Mem} {M' : Mem} {v : Option Value} {c fr mo n : Int32} {x5 x6 : Option Value}  (hz : Ev none (e + 3) 226 20 [some (.ref 633), some (.int fr), some (.int n), some (.int mo), some (.int c), some (.int 0), x6] [] M v M' 0 0) : Ev none (e + 3) 226 17 [some (.ref 633), some (.int fr), some (.int n), some (.int mo), some (.int c), x5, x6] [] M v M' 0 0 := by
  refine Ev.step (pc' := 20) (ls' := [some (.ref 633), some (.int fr), some (.int n), some (.int mo), some (.int c), some (.int 0), x6]) (st' := []) (M1 := M) 2 (fun n => rfl) ?_
  exact hz
theorem wd_20 {e : Nat} {M : Mem} {M' : Mem} {v : Option Value} {c d fr mo n : Int32} {x6 : Option Value}  (hz : Ev none (e + 3) 226 (if 8 ≤ d then 124 else 27) [some (.ref 633), some (.int fr), some (.int n), some (.int mo), some (.int c), some (.int d), x6] [] M v M' 0 0) : Ev none (e + 3) 226 20 [some (.ref 633), some (.int fr), some (.int n), some (.int mo), some (.int c), some (.int d), x6] [] M v M' 0 0 := by
  refine Ev.step (pc' := (if 8 ≤ d then 124 else 27)) (ls' := [some (.ref 633), some (.int fr), some (.int n), some (.int mo), some (.int c), some (.int d), x6]) (st' := []) (M1 := M) 3 (fun n => rfl) ?_
  exact hz
theorem wd_124 {e : Nat} {M : Mem} {M' : Mem} {v : Option Value} {c d fr mo n : Int32} {x6 : Option Value}  (hz : Ev none (e + 3) 226 11 [some (.ref 633), some (.int fr), some (.int n), some (.int mo), some (.int (c + 1)), some (.int d), x6] [] M v M' 0 0) : Ev none (e + 3) 226 124 [some (.ref 633), some (.int fr), some (.int n), some (.int mo), some (.int c), some (.int d), x6] [] M v M' 0 0 := by
  refine Ev.step (pc' := 11) (ls' := [some (.ref 633), some (.int fr), some (.int n), some (.int mo), some (.int (c + 1)), some (.int d), x6]) (st' := []) (M1 := M) 2 (fun n => rfl) ?_
  exact hz
theorem wd_27 {e : Nat} {M : Mem} {M' : Mem} {v : Option Value} {c d fr mo n : Int32} {x6 : Option Value}  (hz : Ev none (e + 3) 226 30 [some (.ref 633), some (.int fr), some (.int n), some (.int mo), some (.int c), some (.int d), x6] [.int c, .ref 633] M v M' 0 0) : Ev none (e + 3) 226 27 [some (.ref 633), some (.int fr), some (.int n), some (.int mo), some (.int c), some (.int d), x6] [] M v M' 0 0 := by
  refine Ev.step (pc' := 30) (ls' := [some (.ref 633), some (.int fr), some (.int n), some (.int mo), some (.int c), some (.int d), x6]) (st' := [.int c, .ref 633]) (M1 := M) 2 (fun n => rfl) ?_
  exact hz
theorem wd_33 {e : Nat} {M : Mem} {M' : Mem} {v : Option Value} {c d fr mo n z : Int32} {x6 : Option Value}  (hz : Ev none (e + 3) 226 (if z = 0 then 124 else 36) [some (.ref 633), some (.int fr), some (.int n), some (.int mo), some (.int c), some (.int d), x6] [] M v M' 0 0) : Ev none (e + 3) 226 33 [some (.ref 633), some (.int fr), some (.int n), some (.int mo), some (.int c), some (.int d), x6] [.int z] M v M' 0 0 := by
  refine Ev.step (pc' := (if z = 0 then 124 else 36)) (ls' := [some (.ref 633), some (.int fr), some (.int n), some (.int mo), some (.int c), some (.int d), x6]) (st' := []) (M1 := M) 1 (fun n => rfl) ?_
  exact hz
theorem wd_36 {e : Nat} {M : Mem} {M' : Mem} {v : Option Value} {c d fr mo n : Int32} {x6 : Option Value}  (hz : Ev none (e + 3) 226 41 [some (.ref 633), some (.int fr), some (.int n), some (.int mo), some (.int c), some (.int d), x6] [.int d, .int c, .ref 633] M v M' 0 0) : Ev none (e + 3) 226 36 [some (.ref 633), some (.int fr), some (.int n), some (.int mo), some (.int c), some (.int d), x6] [] M v M' 0 0 := by
  refine Ev.step (pc' := 41) (ls' := [some (.ref 633), some (.int fr), some (.int n), some (.int mo), some (.int c), some (.int d), x6]) (st' := [.int d, .int c, .ref 633]) (M1 := M) 3 (fun n => rfl) ?_
  exact hz
theorem wd_44 {e : Nat} {M : Mem} {M' : Mem} {v : Option Value} {c d fr mo n z : Int32} {x6 : Option Value}  (hz : Ev none (e + 3) 226 (if z < 0 then 118 else 51) [some (.ref 633), some (.int fr), some (.int n), some (.int mo), some (.int c), some (.int d), some (.int z)] [] M v M' 0 0) : Ev none (e + 3) 226 44 [some (.ref 633), some (.int fr), some (.int n), some (.int mo), some (.int c), some (.int d), x6] [.int z] M v M' 0 0 := by
  refine Ev.step (pc' := (if z < 0 then 118 else 51)) (ls' := [some (.ref 633), some (.int fr), some (.int n), some (.int mo), some (.int c), some (.int d), some (.int z)]) (st' := []) (M1 := M) 3 (fun n => rfl) ?_
  exact hz
theorem wd_51 {e : Nat} {M : Mem} {M' : Mem} {v : Option Value} {c d fr mo n o : Int32}  (hz : Ev none (e + 3) 226 54 [some (.ref 633), some (.int fr), some (.int n), some (.int mo), some (.int c), some (.int d), some (.int o)] [.int o, .ref 633] M v M' 0 0) : Ev none (e + 3) 226 51 [some (.ref 633), some (.int fr), some (.int n), some (.int mo), some (.int c), some (.int d), some (.int o)] [] M v M' 0 0 := by
  refine Ev.step (pc' := 54) (ls' := [some (.ref 633), some (.int fr), some (.int n), some (.int mo), some (.int c), some (.int d), some (.int o)]) (st' := [.int o, .ref 633]) (M1 := M) 2 (fun n => rfl) ?_
  exact hz
theorem wd_57 {e : Nat} {M : Mem} {M' : Mem} {v : Option Value} {c d fr mo n o z : Int32}  (hz : Ev none (e + 3) 226 (if z = 0 then 118 else 60) [some (.ref 633), some (.int fr), some (.int n), some (.int mo), some (.int c), some (.int d), some (.int o)] [] M v M' 0 0) : Ev none (e + 3) 226 57 [some (.ref 633), some (.int fr), some (.int n), some (.int mo), some (.int c), some (.int d), some (.int o)] [.int z] M v M' 0 0 := by
  refine Ev.step (pc' := (if z = 0 then 118 else 60)) (ls' := [some (.ref 633), some (.int fr), some (.int n), some (.int mo), some (.int c), some (.int d), some (.int o)]) (st' := []) (M1 := M) 1 (fun n => rfl) ?_
  exact hz
theorem wd_60 {e : Nat} {M : Mem} {M' : Mem} {v : Option Value} {vs : List Value} {c d fr mo n o y1 : Int32} {l654 : List Int32} (hM : gNth M 633 = some (.inr (11, vs))) (v47 : gNth vs 47 = some (.ref 654)) (r654 : gNth M 654 = some (.inl (1, .inl l654))) (g1 : gAt l654 (fr + o) = some y1) (hz : Ev none (e + 3) 226 72 [some (.ref 633), some (.int fr), some (.int n), some (.int mo), some (.int c), some (.int d), some (.int o)] [.int c, .ref 633, .int y1] M v M' 0 0) : Ev none (e + 3) 226 60 [some (.ref 633), some (.int fr), some (.int n), some (.int mo), some (.int c), some (.int d), some (.int o)] [] M v M' 0 0 := by
  refine Ev.step (pc' := 61) (ls' := [some (.ref 633), some (.int fr), some (.int n), some (.int mo), some (.int c), some (.int d), some (.int o)]) (st' := [.ref 633]) (M1 := M) 1 (fun n => rfl) ?_
  refine Ev.step 1 (gs_3 rfl rfl (gf_g rfl hM v47)) ?_
  refine Ev.step (pc' := 68) (ls' := [some (.ref 633), some (.int fr), some (.int n), some (.int mo), some (.int c), some (.int d), some (.int o)]) (st' := [.int (fr + o), .ref 654]) (M1 := M) 3 (fun n => rfl) ?_
  refine Ev.step 1 (gs_3 rfl rfl (ia_g r654 g1)) ?_
  refine Ev.step (pc' := 72) (ls' := [some (.ref 633), some (.int fr), some (.int n), some (.int mo), some (.int c), some (.int d), some (.int o)]) (st' := [.int c, .ref 633, .int y1]) (M1 := M) 2 (fun n => rfl) ?_
  exact hz
theorem wd_75 {e : Nat} {M : Mem} {M' : Mem} {v : Option Value} {vs : List Value} {c d fr mo n o x y1 z : Int32} {l654 : List Int32} (hM : gNth M 633 = some (.inr (11, vs))) (v47 : gNth vs 47 = some (.ref 654)) (r654 : gNth M 654 = some (.inl (1, .inl l654))) (g1 : gAt l654 (fr + c) = some y1) (hz : Ev none (e + 3) 226 (if (x + z) < y1 then 91 else 88) [some (.ref 633), some (.int fr), some (.int n), some (.int mo), some (.int c), some (.int d), some (.int o)] [] M v M' 0 0) : Ev none (e + 3) 226 75 [some (.ref 633), some (.int fr), some (.int n), some (.int mo), some (.int c), some (.int d), some (.int o)] [.int z, .int x] M v M' 0 0 := by
  refine Ev.step (pc' := 77) (ls' := [some (.ref 633), some (.int fr), some (.int n), some (.int mo), some (.int c), some (.int d), some (.int o)]) (st' := [.ref 633, .int (x + z)]) (M1 := M) 2 (fun n => rfl) ?_
  refine Ev.step 1 (gs_3 rfl rfl (gf_g rfl hM v47)) ?_
  refine Ev.step (pc' := 84) (ls' := [some (.ref 633), some (.int fr), some (.int n), some (.int mo), some (.int c), some (.int d), some (.int o)]) (st' := [.int (fr + c), .ref 654, .int (x + z)]) (M1 := M) 3 (fun n => rfl) ?_
  refine Ev.step 1 (gs_3 rfl rfl (ia_g r654 g1)) ?_
  refine Ev.step (pc' := (if (x + z) < y1 then 91 else 88)) (ls' := [some (.ref 633), some (.int fr), some (.int n), some (.int mo), some (.int c), some (.int d), some (.int o)]) (st' := []) (M1 := M) 1 (fun n => rfl) ?_
  exact hz
theorem wd_88 {e : Nat} {M : Mem} {M' : Mem} {v : Option Value} {c d fr mo n o : Int32}  (hz : Ev none (e + 3) 226 118 [some (.ref 633), some (.int fr), some (.int n), some (.int mo), some (.int c), some (.int d), some (.int o)] [] M v M' 0 0) : Ev none (e + 3) 226 88 [some (.ref 633), some (.int fr), some (.int n), some (.int mo), some (.int c), some (.int d), some (.int o)] [] M v M' 0 0 := by
  refine Ev.step (pc' := 118) (ls' := [some (.ref 633), some (.int fr), some (.int n), some (.int mo), some (.int c), some (.int d), some (.int o)]) (st' := []) (M1 := M) 1 (fun n => rfl) ?_
  exact hz
theorem wd_91 {e : Nat} {M : Mem} {M' : Mem} {v : Option Value} {vs : List Value} {c d fr mo n o y1 : Int32} {l654 : List Int32} (hM : gNth M 633 = some (.inr (11, vs))) (v47 : gNth vs 47 = some (.ref 654)) (r654 : gNth M 654 = some (.inl (1, .inl l654))) (g1 : gAt l654 (fr + o) = some y1) (hz : Ev none (e + 3) 226 111 [some (.ref 633), some (.int fr), some (.int n), some (.int mo), some (.int c), some (.int d), some (.int o)] [.int c, .ref 633, .int y1, .int (fr + c), .ref 654] M v M' 0 0) : Ev none (e + 3) 226 91 [some (.ref 633), some (.int fr), some (.int n), some (.int mo), some (.int c), some (.int d), some (.int o)] [] M v M' 0 0 := by
  refine Ev.step (pc' := 92) (ls' := [some (.ref 633), some (.int fr), some (.int n), some (.int mo), some (.int c), some (.int d), some (.int o)]) (st' := [.ref 633]) (M1 := M) 1 (fun n => rfl) ?_
  refine Ev.step 1 (gs_3 rfl rfl (gf_g rfl hM v47)) ?_
  refine Ev.step (pc' := 100) (ls' := [some (.ref 633), some (.int fr), some (.int n), some (.int mo), some (.int c), some (.int d), some (.int o)]) (st' := [.ref 633, .int (fr + c), .ref 654]) (M1 := M) 4 (fun n => rfl) ?_
  refine Ev.step 1 (gs_3 rfl rfl (gf_g rfl hM v47)) ?_
  refine Ev.step (pc' := 107) (ls' := [some (.ref 633), some (.int fr), some (.int n), some (.int mo), some (.int c), some (.int d), some (.int o)]) (st' := [.int (fr + o), .ref 654, .int (fr + c), .ref 654]) (M1 := M) 3 (fun n => rfl) ?_
  refine Ev.step 1 (gs_3 rfl rfl (ia_g r654 g1)) ?_
  refine Ev.step (pc' := 111) (ls' := [some (.ref 633), some (.int fr), some (.int n), some (.int mo), some (.int c), some (.int d), some (.int o)]) (st' := [.int c, .ref 633, .int y1, .int (fr + c), .ref 654]) (M1 := M) 2 (fun n => rfl) ?_
  exact hz
theorem wd_114 {e : Nat} {M : Mem} {M' : Mem} {v : Option Value} {c d fr mo n o x y1 z : Int32} {l654 : List Int32} (r654 : gNth M 654 = some (.inl (1, .inl l654))) (g1 : gAt l654 (fr + c) = some y1) (hz : Ev none (e + 3) 226 118 [some (.ref 633), some (.int fr), some (.int n), some (.int 1), some (.int c), some (.int d), some (.int o)] [] (gPut M 654 (.inl (1, .inl (gPut l654 (fr + c).toNatClampNeg (x + z))))) v M' 0 0) : Ev none (e + 3) 226 114 [some (.ref 633), some (.int fr), some (.int n), some (.int mo), some (.int c), some (.int d), some (.int o)] [.int z, .int x, .int (fr + c), .ref 654] M v M' 0 0 := by
  refine Ev.step (pc' := 115) (ls' := [some (.ref 633), some (.int fr), some (.int n), some (.int mo), some (.int c), some (.int d), some (.int o)]) (st' := [.int (x + z), .int (fr + c), .ref 654]) (M1 := M) 1 (fun n => rfl) ?_
  refine Ev.step 1 (gs_4 rfl rfl (is_g r654 g1)) ?_
  refine Ev.step (pc' := 118) (ls' := [some (.ref 633), some (.int fr), some (.int n), some (.int 1), some (.int c), some (.int d), some (.int o)]) (st' := []) (M1 := (gPut M 654 (.inl (1, .inl (gPut l654 (fr + c).toNatClampNeg (x + z)))))) 2 (fun n => rfl) ?_
  exact hz
theorem wd_118 {e : Nat} {M : Mem} {M' : Mem} {v : Option Value} {c d fr mo n : Int32} {x6 : Option Value}  (hz : Ev none (e + 3) 226 20 [some (.ref 633), some (.int fr), some (.int n), some (.int mo), some (.int c), some (.int (d + 1)), x6] [] M v M' 0 0) : Ev none (e + 3) 226 118 [some (.ref 633), some (.int fr), some (.int n), some (.int mo), some (.int c), some (.int d), x6] [] M v M' 0 0 := by
  refine Ev.step (pc' := 20) (ls' := [some (.ref 633), some (.int fr), some (.int n), some (.int mo), some (.int c), some (.int (d + 1)), x6]) (st' := []) (M1 := M) 2 (fun n => rfl) ?_
  exact hz
theorem be_0 {e : Nat} {M : Mem} {M' : Mem} {v : Option Value} {c : Int32}  (hz : Ev none (e + 1) 148 3 [some (.ref 633), some (.int c)] [.int 0, .int c, .ref 633] M v M' 0 0) : Ev none (e + 1) 148 0 [some (.ref 633), some (.int c)] [] M v M' 0 0 := by
  refine Ev.step (pc' := 3) (ls' := [some (.ref 633), some (.int c)]) (st' := [.int 0, .int c, .ref 633]) (M1 := M) 3 (fun n => rfl) ?_
  exact hz
theorem cal_be {M : Mem} {vs : List Value} {a0 : Int32} {rest : List Value} (hM : gNth M 633 = some (.inr (11, vs))) (hr : gRoom rest = true) : gCal (.invokevirtual 158) 11 (.int a0 :: .ref 633 :: rest) M = some (.inr (148, [some (.ref 633), some (.int a0)], rest)) := by
  show @cond (Option ((List Value × Mem) ⊕ (Nat × Lo × List Value))) (true && gRecv M (.ref 633) 11 && gRoom rest && true) (some (.inr (148, [some (.ref 633), some (.int a0)], rest))) none = _
  rw [recv_ok hM, hr]
  rfl
theorem cal_bs {M : Mem} {vs : List Value} {a0 a1 : Int32} {rest : List Value} (hM : gNth M 633 = some (.inr (11, vs))) (hr : gRoom rest = true) : gCal (.invokevirtual 380) 11 (.int a1 :: .int a0 :: .ref 633 :: rest) M = some (.inr (194, [some (.ref 633), some (.int a0), some (.int a1), none, none], rest)) := by
  show @cond (Option ((List Value × Mem) ⊕ (Nat × Lo × List Value))) (true && gRecv M (.ref 633) 11 && gRoom rest && true) (some (.inr (194, [some (.ref 633), some (.int a0), some (.int a1), none, none], rest))) none = _
  rw [recv_ok hM, hr]
  rfl
theorem cal_pr {M : Mem} {vs : List Value} {a0 : Int32} {rest : List Value} (hM : gNth M 633 = some (.inr (11, vs))) (hr : gRoom rest = true) : gCal (.invokevirtual 463) 11 (.int a0 :: .ref 633 :: rest) M = some (.inr (224, [some (.ref 633), some (.int a0)], rest)) := by
  show @cond (Option ((List Value × Mem) ⊕ (Nat × Lo × List Value))) (true && gRecv M (.ref 633) 11 && gRoom rest && true) (some (.inr (224, [some (.ref 633), some (.int a0)], rest))) none = _
  rw [recv_ok hM, hr]
  rfl
theorem be_6 {e : Nat} {M : Mem} {M' : Mem} {v : Option Value} {c z : Int32}  (hz : Ev none e 148 (if z = 3 then 25 else 10) [some (.ref 633), some (.int c)] [] M v M' 0 0) : Ev none e 148 6 [some (.ref 633), some (.int c)] [.int z] M v M' 0 0 := by
  refine Ev.step (pc' := (if z = 3 then 25 else 10)) (ls' := [some (.ref 633), some (.int c)]) (st' := []) (M1 := M) 2 (fun n => rfl) ?_
  exact hz
theorem be_10 {e : Nat} {M : Mem} {M' : Mem} {v : Option Value} {c : Int32}  (hz : Ev none (e + 1) 148 13 [some (.ref 633), some (.int c)] [.int 0, .int c, .ref 633] M v M' 0 0) : Ev none (e + 1) 148 10 [some (.ref 633), some (.int c)] [] M v M' 0 0 := by
  refine Ev.step (pc' := 13) (ls' := [some (.ref 633), some (.int c)]) (st' := [.int 0, .int c, .ref 633]) (M1 := M) 3 (fun n => rfl) ?_
  exact hz
theorem be_16 {e : Nat} {M : Mem} {M' : Mem} {v : Option Value} {c z : Int32}  (hz : Ev none e 148 (if z = 6 then 25 else 21) [some (.ref 633), some (.int c)] [] M v M' 0 0) : Ev none e 148 16 [some (.ref 633), some (.int c)] [.int z] M v M' 0 0 := by
  refine Ev.step (pc' := (if z = 6 then 25 else 21)) (ls' := [some (.ref 633), some (.int c)]) (st' := []) (M1 := M) 2 (fun n => rfl) ?_
  exact hz
theorem be_21 {e : Nat} {M : Mem} {c : Int32}  : Ev none e 148 21 [some (.ref 633), some (.int c)] [] M (some (.int 1)) M 0 0 := by
  refine Ev.step (pc' := 26) (ls' := [some (.ref 633), some (.int c)]) (st' := [.int 1]) (M1 := M) 2 (fun n => rfl) ?_
  exact Ev.ret (fun n => rfl)
theorem be_25 {e : Nat} {M : Mem} {c : Int32}  : Ev none e 148 25 [some (.ref 633), some (.int c)] [] M (some (.int 0)) M 0 0 := by
  refine Ev.step (pc' := 26) (ls' := [some (.ref 633), some (.int c)]) (st' := [.int 0]) (M1 := M) 1 (fun n => rfl) ?_
  exact Ev.ret (fun n => rfl)
theorem ev_bears {M : Mem} {e : Nat} {vs : List Value} {l : List Int32} {c y : Int32} (hM : gNth M 633 = some (.inr (11, vs))) (h5 : gNth vs 5 = some (.ref 635)) (hs : gNth M 635 = some (.inl (1, .inl l))) (hy : gAt l (522 + 7 * c + 0) = some y) : Ev none (e + 1) 148 0 [some (.ref 633), some (.int c)] [] M (some (.int (if y = 3 then 0 else if y = 6 then 0 else 1))) M 0 0 := by
  refine be_0 (Ev.call0 (fun n => gs_7 rfl rfl (cal_of hM rfl)) (ev_of hM h5 hs hy) (be_6 ?_))
  by_cases h0 : y = 3
  · rw [if_pos h0, if_pos h0]
    exact be_25
  · rw [if_neg h0, if_neg h0]
    refine be_10 (Ev.call0 (fun n => gs_7 rfl rfl (cal_of hM rfl)) (ev_of hM h5 hs hy) (be_16 ?_))
    by_cases h2 : y = 6
    · rw [if_pos h2, if_pos h2]
      exact be_25
    · rw [if_neg h2, if_neg h2]
      exact be_21
/-- a cell's kind -/
theorem cell_k {M : Mem} (hT : TM sT sG M) {l : List Int32} (sl : l.length = 2314) {c : Int32} (c1 : 0 ≤ c.toInt) (c2 : c.toInt ≤ 255) : ∃ y, gAt l (522 + 7 * c + 0) = some y := by
  have e0 : (0 : Int32).toInt = 0 := rfl
  have ec := i32_cell (c := c) (k := 0) c1 c2 (by decide) (by decide)
  obtain ⟨kn, hkn⟩ : ∃ kn : Nat, (522 + 7 * c + 0 : Int32).toInt = (kn : Int) := ⟨(522 + 7 * c.toInt).toNat, by omega⟩
  obtain ⟨y, y1, y2⟩ := at_c (l := l) hkn (by omega)
  exact ⟨y, y1⟩
set_option maxRecDepth 100000 in
theorem rw_82 : rwB 82 1 16384 (-2147483648) 2147483647 = true := by decide +kernel
set_option maxRecDepth 100000 in
theorem mf_82 : mfB 47 82 = true := by decide +kernel
set_option maxRecDepth 100000 in
theorem sU_82 : gNth sU 82 = some (some 654) := by decide +kernel
set_option maxRecDepth 100000 in
theorem sT_654 : gNth sT 654 = some 82 := by decide +kernel
noncomputable def costB : Bool := match gNth sG 82 with
  | some (.inr (1, 16384, .inl sg)) => (List.range 16384).all (fun j => match sgAt sg j with
    | some p => decide (p.1 ≤ -2147483648) && decide (2147483647 ≤ p.2)
    | _ => false)
  | _ => false
set_option maxRecDepth 100000 in
/-- all of the costs may be any number -/
theorem costs_put {M : Mem} (hT : TM sT sG M) {l : List Int32} (hM : gNth M 654 = some (.inl (1, .inl l))) (i : Nat) (y : Int32) : TM sT sG (gPut M 654 (.inl (1, .inl (gPut l i y)))) ∧ Frm sT [(1082, 0)] M (gPut M 654 (.inl (1, .inl (gPut l i y)))) := by
  refine ⟨?_, Frm.row hM sT_654 (List.mem_singleton.mpr rfl)⟩
  obtain ⟨l2, h1, h2, _⟩ := hT.mrow sT_654 rw_82
  cases h1.symm.trans hM
  refine hT.put (fun g2 t w1 w2 => ?_)
  rw [sT_654] at w1
  cases w1
  have hB : costB = true := by decide +kernel
  unfold costB at hB
  rw [w2] at hB
  split at hB
  · rename_i sg e
    cases e
    refine ct_mk (by decide) (by rw [put_len]; exact h2) (fun j x hj => ?_)
    have hj2 := gNth_lt _ _ _ hj
    rw [put_len, h2] at hj2
    have h4 := List.all_eq_true.mp hB j (List.mem_range.mpr hj2)
    cases hp : sgAt sg j with
    | none => rw [hp] at h4; cases h4
    | some p =>
      rw [hp] at h4
      obtain ⟨h5, h6⟩ := and_t h4
      have h5 := of_decide_eq_true h5
      have h6 := of_decide_eq_true h6
      have := i32_lt x
      exact ⟨p, rfl, by omega, by omega⟩
  · cases hB
/-- what stands while it widens -/
def WdS (s : Nat) (M0 : Mem) (mo : Int32) (M : Mem) : Prop := TM sT sG M ∧ Frm sT [(1082, 0)] M0 M ∧ msP 654 mI (fun x => (mo = 0 ∧ x ≤ s) ∨ (mo = 1 ∧ x < s)) M
def WdQ (M0 : Mem) (v : Option Value) (M : Mem) : Prop := v = none ∧ TM sT sG M ∧ Frm sT [(1082, 0)] M0 M
section WDN
variable {fr n : Int32} {M0 : Mem} {e : Nat}
abbrev WdF (fr n : Int32) (M0 : Mem) (e pc : Nat) (mo : Int32) (x4 x5 x6 : Option Value) (M : Mem) : Prop := RF (WdQ M0) [] (e + 3) 226 pc [some (.ref 633), some (.int fr), some (.int n), some (.int mo), x4, x5, x6] [] M
/-- one way d -/
theorem wd_body {s : Nat} {mo c d : Int32} {x6 : Option Value} {M : Mem} (f0 : 0 ≤ fr.toInt) (f1 : fr.toInt ≤ 16128) (c0 : 0 ≤ c.toInt) (c1 : c.toInt ≤ 255) (h : WdS s M0 mo M) (hE : ∀ x6, WdF fr n M0 e 124 mo (some (.int c)) (some (.int d)) x6 M) (hD : ∀ mo x6 M, WdS s M0 mo M → WdF fr n M0 e 118 mo (some (.int c)) (some (.int d)) x6 M) : WdF fr n M0 e 27 mo (some (.int c)) (some (.int d)) x6 M := by
  obtain ⟨hT, hF, hm⟩ := id h
  obtain ⟨vs, l, hM, h5, hs, sl⟩ := hT.s_all
  obtain ⟨vs9, hM9, hv⟩ := hT.mfld
  cases hM.symm.trans hM9
  obtain ⟨l6, r6, l6l, _⟩ := hT.mrow sT_654 rw_82
  have h47 := hv 47 82 654 mf_82 sU_82
  obtain ⟨kc, hkc⟩ := cell_k hT sl c0 c1
  obtain ⟨vs2, l2, w, hh, m1, m2, m3, m4, m5, w1, w2, h1, h2⟩ := hT.s_ref
  cases hM.symm.trans m1
  cases hs.symm.trans m3
  have hw : ¬ w = 0 := by
    intro hz
    rw [hz] at w1
    exact absurd w1 (by decide)
  refine RF.pre (fun v M' hz => wd_27 (Ev.call0 (fun n => gs_7 rfl rfl (cal_be hM rfl)) (ev_bears hM h5 hs hkc) (wd_33 hz))) ?_
  obtain ⟨z, ez⟩ : ∃ z : Int32, z = if kc = 3 then 0 else if kc = 6 then 0 else 1 := ⟨_, rfl⟩
  rw [← ez]
  by_cases hz0 : z = 0
  · rw [if_pos hz0]
    exact hE _
  rw [if_neg hz0]
  refine RF.pre (fun v M' hz => wd_36 (Ev.call0 (fun n => gs_7 rfl rfl (cal_bs hM rfl)) (ev_beside (e := e) hM h5 hs m4 m5 hw) (wd_44 hz))) ?_
  obtain ⟨o, eo⟩ : ∃ o, o = besI w hh c d := ⟨_, rfl⟩
  have ho := besI_in (c := c) (d := d) w1 w2 h1 h2
  rw [← eo] at ho ⊢
  by_cases o0 : o < 0
  · rw [if_pos o0]
    exact hD _ _ _ h
  rw [if_neg o0]
  have ho : 0 ≤ o.toInt ∧ o.toInt ≤ 255 := by
    rcases ho with ho | ho
    · rw [ho] at o0
      exact absurd (by decide) o0
    · exact ho
  obtain ⟨ko, hko⟩ := cell_k hT sl ho.1 ho.2
  refine RF.pre (fun v M' hz => wd_51 (Ev.call0 (fun n => gs_7 rfl rfl (cal_be hM rfl)) (ev_bears hM h5 hs hko) (wd_57 hz))) ?_
  obtain ⟨z2, ez2⟩ : ∃ z : Int32, z = if ko = 3 then 0 else if ko = 6 then 0 else 1 := ⟨_, rfl⟩
  rw [← ez2]
  by_cases hz2 : z2 = 0
  · rw [if_pos hz2]
    exact hD _ _ _ h
  rw [if_neg hz2]
  have eo2 : (fr + o).toInt = fr.toInt + o.toInt := i32_add (by omega) (by omega)
  have ec2 : (fr + c).toInt = fr.toInt + c.toInt := i32_add (by omega) (by omega)
  obtain ⟨xo, xo1, xo2⟩ := at_c (l := l6) (j := fr + o) (kn := (fr.toInt + o.toInt).toNat) (by omega) (by omega)
  obtain ⟨xc, xc1, xc2⟩ := at_c (l := l6) (j := fr + c) (kn := (fr.toInt + c.toInt).toNat) (by omega) (by omega)
  refine RF.pre (fun v M' hz => wd_60 hM h47 r6 xo1 (Ev.call0 (fun n => gs_7 rfl rfl (cal_pr hM rfl)) (ev_price (e := e) hM h5 hs hkc) (wd_75 hM h47 r6 xc1 hz))) ?_
  obtain ⟨nv, env⟩ : ∃ nv, nv = xo + prI kc := ⟨_, rfl⟩
  rw [← env]
  by_cases hlt : nv < xc
  · rw [if_pos hlt]
    refine RF.pre (fun v M' hz => wd_91 hM h47 r6 xo1 (Ev.call0 (fun n => gs_7 rfl rfl (cal_pr hM rfl)) (ev_price (e := e) hM h5 hs hkc) (wd_114 r6 xc1 hz))) ?_
    rw [← env]
    obtain ⟨p1, p2⟩ := costs_put hT r6 (fr + c).toNatClampNeg nv
    refine hD _ _ _ ⟨p1, hF.trans p2, ?_⟩
    have ecl : (fr + c).toNatClampNeg = (fr.toInt + c.toInt).toNat := cl_n (by omega)
    rw [ecl]
    refine msP.put (f := mI) (P := fun x => (mo = 0 ∧ x ≤ s) ∨ (mo = 1 ∧ x < s)) r6 xc2 (fun a b h1 h2 => ?_) hm
    have := (mI_lt (x := nv) (y := xc)).2 (Int32.lt_iff_toInt_lt.mp hlt)
    refine Or.inr ⟨rfl, ?_⟩
    rcases h1 with ⟨_, h1⟩ | ⟨_, h1⟩ <;> omega
  · rw [if_neg hlt]
    exact RF.pre (fun v M' hz => wd_88 hz) (hD _ _ _ h)
/-- the ways from d on -/
theorem wd_dl {s : Nat} {c : Int32} (f0 : 0 ≤ fr.toInt) (f1 : fr.toInt ≤ 16128) (c0 : 0 ≤ c.toInt) (c1 : c.toInt ≤ 255) (hE : ∀ mo x5 x6 M, WdS s M0 mo M → WdF fr n M0 e 11 mo (some (.int (c + 1))) x5 x6 M) : ∀ (j : Nat) (d mo : Int32) (x6 : Option Value) (M : Mem), WdS s M0 mo M → 0 ≤ d.toInt → d.toInt + (j : Int) = 8 → WdF fr n M0 e 20 mo (some (.int c)) (some (.int d)) x6 M := by
  intro j
  induction j with
  | zero =>
    intro d mo x6 M h d0 hj
    refine RF.pre (fun v M' hz => wd_20 hz) ?_
    rw [if_pos (by rw [Int32.le_iff_toInt_le]; show (8 : Int) ≤ d.toInt; omega)]
    exact RF.pre (fun v M' hz => wd_124 hz) (hE _ _ _ _ h)
  | succ j ih =>
    intro d mo x6 M h d0 hj
    refine RF.pre (fun v M' hz => wd_20 hz) ?_
    rw [if_neg (by rw [Int32.le_iff_toInt_le]; show ¬ (8 : Int) ≤ d.toInt; omega)]
    have e1 : (d + 1).toInt = d.toInt + 1 := i32_p1 (by omega)
    exact wd_body f0 f1 c0 c1 h (fun x6 => RF.pre (fun v M' hz => wd_124 hz) (hE _ _ _ _ h)) (fun mo x6 M h => RF.pre (fun v M' hz => wd_118 hz) (ih (d + 1) mo x6 M h (by omega) (by omega)))
/-- the cells from c on -/
theorem wd_cl {s : Nat} (f0 : 0 ≤ fr.toInt) (f1 : fr.toInt ≤ 16128) (n1 : n.toInt ≤ 256) (hE : ∀ mo x4 x5 x6 M, WdS s M0 mo M → WdF fr n M0 e 2 mo x4 x5 x6 M) : ∀ (j : Nat) (c mo : Int32) (x5 x6 : Option Value) (M : Mem), WdS s M0 mo M → 0 ≤ c.toInt → n.toInt ≤ c.toInt + (j : Int) → WdF fr n M0 e 11 mo (some (.int c)) x5 x6 M := by
  intro j
  induction j with
  | zero =>
    intro c mo x5 x6 M h c0 hj
    refine RF.pre (fun v M' hz => wd_11 hz) ?_
    rw [if_pos (by rw [Int32.le_iff_toInt_le]; omega)]
    exact RF.pre (fun v M' hz => wd_130 hz) (hE _ _ _ _ _ h)
  | succ j ih =>
    intro c mo x5 x6 M h c0 hj
    refine RF.pre (fun v M' hz => wd_11 hz) ?_
    by_cases hn : n ≤ c
    · rw [if_pos hn]
      exact RF.pre (fun v M' hz => wd_130 hz) (hE _ _ _ _ _ h)
    rw [if_neg hn]
    rw [Int32.le_iff_toInt_le] at hn
    have e1 : (c + 1).toInt = c.toInt + 1 := i32_p1 (by omega)
    refine RF.pre (fun v M' hz => wd_17 hz) (wd_dl f0 f1 c0 (by omega) (fun mo x5 x6 M h => ih (c + 1) mo x5 x6 M h (by omega) (by omega)) 8 0 mo x6 M h (by decide) (by decide))
/-- again and again -/
theorem wd_wl (f0 : 0 ≤ fr.toInt) (f1 : fr.toInt ≤ 16128) (n1 : n.toInt ≤ 256) : ∀ (k : Nat) (mo : Int32) (x4 x5 x6 : Option Value) (M : Mem), (mo = 0 ∨ (mo = 1 ∧ msP 654 mI (fun x => x < k) M)) → TM sT sG M → Frm sT [(1082, 0)] M0 M → WdF fr n M0 e 2 mo x4 x5 x6 M := by
  intro k
  have fin : ∀ (x4 x5 x6 : Option Value) (M : Mem), TM sT sG M → Frm sT [(1082, 0)] M0 M → WdF fr n M0 e 2 0 x4 x5 x6 M := by
    intro x4 x5 x6 M hT hF
    refine RF.pre (fun v M' hz => wd_2 hz) ?_
    rw [if_pos rfl]
    exact ⟨none, M, wd_133, rfl, hT, hF⟩
  induction k with
  | zero =>
    intro mo x4 x5 x6 M h hT hF
    rcases h with rfl | ⟨_, t, l, _, h⟩
    · exact fin _ _ _ _ hT hF
    · exact absurd h (Nat.not_lt_zero _)
  | succ k ih =>
    intro mo x4 x5 x6 M h hT hF
    rcases h with rfl | ⟨rfl, t, l, e1, h⟩
    · exact fin _ _ _ _ hT hF
    refine RF.pre (fun v M' hz => wd_2 hz) ?_
    rw [if_neg (by decide)]
    refine RF.pre (fun v M' hz => wd_6 hz) ?_
    refine wd_cl (s := k) f0 f1 n1 (fun mo x4 x5 x6 M h => ?_) 256 0 0 x5 x6 M ⟨hT, hF, t, l, e1, Or.inl ⟨rfl, by omega⟩⟩ (by decide) (by show n.toInt ≤ 0 + 256; omega)
    obtain ⟨q1, q2, t2, l2, q3, q4⟩ := h
    refine ih mo x4 x5 x6 M ?_ q1 q2
    rcases q4 with ⟨h4, _⟩ | ⟨h4, h5⟩
    · exact Or.inl h4
    · exact Or.inr ⟨h4, t2, l2, q3, h5⟩
end WDN
def kX11_widen : CN := (226, 3, [.inr 1900, .inl (.ofNat 0, .ofNat 16128), .inl (.ofNat 0, .ofNat 256)], [], [], [(1082, 0)], [(none, [], [], [], [])])
set_option maxRecDepth 100000 in
theorem mR_226 : (gNth mRs 226).map (fun q => q.2.2.2.1) = some 7 := by decide +kernel
theorem kX11_widen_ok : cnOK sT sG FL0 kX11_widen := by
  intro d M ws q hd hq ha _ hT
  have hm := mR_226
  have hq' : gNth mRs 226 = some q := hq
  rw [hq'] at hm
  have hm : q.2.2.2.1 = 7 := Option.some.inj hm
  obtain ⟨e, rfl⟩ : ∃ e, d = e + 3 := ⟨d - 3, by have : 3 ≤ d := hd; omega⟩
  rcases ws with _ | ⟨a, _ | ⟨b, _ | ⟨b2, _ | ⟨b3, r⟩⟩⟩⟩
  · exact ha.elim
  · exact ha.2.elim
  · exact ha.2.2.elim
  · obtain ⟨k1, ⟨fr, rfl, c1, c2⟩, ⟨n, rfl, d1, d2⟩, _⟩ := ha
    have k1 : a = .ref 633 := k1
    subst k1
    have c1 : 0 ≤ fr.toInt := c1
    have c2 : fr.toInt ≤ 16128 := c2
    have d2 : n.toInt ≤ 256 := d2
    obtain ⟨t, l, e1⟩ := ha_costs M hT
    rw [hm]
    obtain ⟨v, M', q1, rfl, q3, q4⟩ := wd_wl (fr := fr) (n := n) (M0 := M) (e := e) c1 c2 d2 ((l.map mI).sum + 1) 1 none none none M (Or.inr ⟨rfl, t, l, e1, Nat.lt_succ_self _⟩) hT (Frm.refl M)
    exact ⟨none, M', wd_0 q1, q3, q4, _, List.mem_cons_self .., ⟨trivial, fun q hq => (by cases hq), [], trivial, fun f hf => (by cases hf), fun q hq => (by cases hq)⟩, cn_D rfl⟩
  · exact ha.2.2.2.elim
/-! BY HAND: s is laid aside, laid back, kept -/
theorem la_0 {e : Nat} {M : Mem} {M' : Mem} {v : Option Value} {x1 : Option Value}  (hz : Ev none e 153 2 [some (.ref 633), some (.int 0)] [] M v M' 0 0) : Ev none e 153 0 [some (.ref 633), x1] [] M v M' 0 0 := by
  refine Ev.step (pc' := 2) (ls' := [some (.ref 633), some (.int 0)]) (st' := []) (M1 := M) 2 (fun n => rfl) ?_
  exact hz
theorem la_2 {e : Nat} {M : Mem} {M' : Mem} {v : Option Value} {i : Int32}  (hz : Ev none e 153 (if 2314 ≤ i then 27 else 9) [some (.ref 633), some (.int i)] [] M v M' 0 0) : Ev none e 153 2 [some (.ref 633), some (.int i)] [] M v M' 0 0 := by
  refine Ev.step (pc' := (if 2314 ≤ i then 27 else 9)) (ls' := [some (.ref 633), some (.int i)]) (st' := []) (M1 := M) 3 (fun n => rfl) ?_
  exact hz
theorem la_9 {e : Nat} {M : Mem} {M' : Mem} {v : Option Value} {vs : List Value} {i y1 y2 : Int32} {l635 l637 : List Int32} (hM : gNth M 633 = some (.inr (11, vs))) (v7 : gNth vs 7 = some (.ref 637)) (v5 : gNth vs 5 = some (.ref 635)) (r635 : gNth M 635 = some (.inl (1, .inl l635))) (g1 : gAt l635 i = some y1) (r637 : gNth M 637 = some (.inl (1, .inl l637))) (g2 : gAt l637 i = some y2) (hz : Ev none e 153 2 [some (.ref 633), some (.int (i + 1))] [] (gPut M 637 (.inl (1, .inl (gPut l637 i.toNatClampNeg y1)))) v M' 0 0) : Ev none e 153 9 [some (.ref 633), some (.int i)] [] M v M' 0 0 := by
  refine Ev.step (pc' := 10) (ls' := [some (.ref 633), some (.int i)]) (st' := [.ref 633]) (M1 := M) 1 (fun n => rfl) ?_
  refine Ev.step 1 (gs_3 rfl rfl (gf_g rfl hM v7)) ?_
  refine Ev.step (pc' := 15) (ls' := [some (.ref 633), some (.int i)]) (st' := [.ref 633, .int i, .ref 637]) (M1 := M) 2 (fun n => rfl) ?_
  refine Ev.step 1 (gs_3 rfl rfl (gf_g rfl hM v5)) ?_
  refine Ev.step (pc' := 19) (ls' := [some (.ref 633), some (.int i)]) (st' := [.int i, .ref 635, .int i, .ref 637]) (M1 := M) 1 (fun n => rfl) ?_
  refine Ev.step 1 (gs_3 rfl rfl (ia_g r635 g1)) ?_
  refine Ev.step 1 (gs_4 rfl rfl (is_g r637 g2)) ?_
  refine Ev.step (pc' := 2) (ls' := [some (.ref 633), some (.int (i + 1))]) (st' := []) (M1 := (gPut M 637 (.inl (1, .inl (gPut l637 i.toNatClampNeg y1))))) 2 (fun n => rfl) ?_
  exact hz
theorem la_27 {e : Nat} {M : Mem} {i : Int32}  : Ev none e 153 27 [some (.ref 633), some (.int i)] [] M none M 0 0 := by
  exact Ev.ret (fun n => rfl)
theorem lb_0 {e : Nat} {M : Mem} {M' : Mem} {v : Option Value} {x1 : Option Value}  (hz : Ev none e 154 2 [some (.ref 633), some (.int 0)] [] M v M' 0 0) : Ev none e 154 0 [some (.ref 633), x1] [] M v M' 0 0 := by
  refine Ev.step (pc' := 2) (ls' := [some (.ref 633), some (.int 0)]) (st' := []) (M1 := M) 2 (fun n => rfl) ?_
  exact hz
theorem lb_2 {e : Nat} {M : Mem} {M' : Mem} {v : Option Value} {i : Int32}  (hz : Ev none e 154 (if 2314 ≤ i then 27 else 9) [some (.ref 633), some (.int i)] [] M v M' 0 0) : Ev none e 154 2 [some (.ref 633), some (.int i)] [] M v M' 0 0 := by
  refine Ev.step (pc' := (if 2314 ≤ i then 27 else 9)) (ls' := [some (.ref 633), some (.int i)]) (st' := []) (M1 := M) 3 (fun n => rfl) ?_
  exact hz
theorem lb_9 {e : Nat} {M : Mem} {M' : Mem} {v : Option Value} {vs : List Value} {i y1 y2 : Int32} {l635 l637 : List Int32} (hM : gNth M 633 = some (.inr (11, vs))) (v5 : gNth vs 5 = some (.ref 635)) (v7 : gNth vs 7 = some (.ref 637)) (r637 : gNth M 637 = some (.inl (1, .inl l637))) (g1 : gAt l637 i = some y1) (r635 : gNth M 635 = some (.inl (1, .inl l635))) (g2 : gAt l635 i = some y2) (hz : Ev none e 154 2 [some (.ref 633), some (.int (i + 1))] [] (gPut M 635 (.inl (1, .inl (gPut l635 i.toNatClampNeg y1)))) v M' 0 0) : Ev none e 154 9 [some (.ref 633), some (.int i)] [] M v M' 0 0 := by
  refine Ev.step (pc' := 10) (ls' := [some (.ref 633), some (.int i)]) (st' := [.ref 633]) (M1 := M) 1 (fun n => rfl) ?_
  refine Ev.step 1 (gs_3 rfl rfl (gf_g rfl hM v5)) ?_
  refine Ev.step (pc' := 15) (ls' := [some (.ref 633), some (.int i)]) (st' := [.ref 633, .int i, .ref 635]) (M1 := M) 2 (fun n => rfl) ?_
  refine Ev.step 1 (gs_3 rfl rfl (gf_g rfl hM v7)) ?_
  refine Ev.step (pc' := 19) (ls' := [some (.ref 633), some (.int i)]) (st' := [.int i, .ref 637, .int i, .ref 635]) (M1 := M) 1 (fun n => rfl) ?_
  refine Ev.step 1 (gs_3 rfl rfl (ia_g r637 g1)) ?_
  refine Ev.step 1 (gs_4 rfl rfl (is_g r635 g2)) ?_
  refine Ev.step (pc' := 2) (ls' := [some (.ref 633), some (.int (i + 1))]) (st' := []) (M1 := (gPut M 635 (.inl (1, .inl (gPut l635 i.toNatClampNeg y1))))) 2 (fun n => rfl) ?_
  exact hz
theorem lb_27 {e : Nat} {M : Mem} {i : Int32}  : Ev none e 154 27 [some (.ref 633), some (.int i)] [] M none M 0 0 := by
  exact Ev.ret (fun n => rfl)
theorem im_5 {e : Nat} {M : Mem} {M' : Mem} {v : Option Value} {k : Int32} {x1 : Option Value}  (hz : Ev none (e + 1) 246 8 [some (.ref 633), some (.int k), x1] [.int 2, .int 0, .int k] M v M' 0 0) : Ev none (e + 1) 246 5 [some (.ref 633), some (.int k), x1] [] M v M' 0 0 := by
  refine Ev.step (pc' := 8) (ls' := [some (.ref 633), some (.int k), x1]) (st' := [.int 2, .int 0, .int k]) (M1 := M) 3 (fun n => rfl) ?_
  exact hz
theorem im_11 {e : Nat} {M : Mem} {M' : Mem} {v : Option Value} {k z : Int32} {x1 : Option Value}  (hz : Ev none (e + 1) 246 (if z = 0 then 14 else 16) [some (.ref 633), some (.int k), x1] [] M v M' 0 0) : Ev none (e + 1) 246 11 [some (.ref 633), some (.int k), x1] [.int z] M v M' 0 0 := by
  refine Ev.step (pc' := (if z = 0 then 14 else 16)) (ls' := [some (.ref 633), some (.int k), x1]) (st' := []) (M1 := M) 1 (fun n => rfl) ?_
  exact hz
theorem im_14 {e : Nat} {M : Mem} {k : Int32} {x1 : Option Value}  : Ev none (e + 1) 246 14 [some (.ref 633), some (.int k), x1] [] M (some (.int 0)) M 0 0 := by
  refine Ev.step (pc' := 15) (ls' := [some (.ref 633), some (.int k), x1]) (st' := [.int 0]) (M1 := M) 1 (fun n => rfl) ?_
  exact Ev.ret (fun n => rfl)
theorem im_16 {e : Nat} {M : Mem} {M' : Mem} {v : Option Value} {k : Int32} {x1 : Option Value}  (hz : Ev none (e + 1) 246 18 [some (.ref 633), some (.int k), some (.int 0)] [] M v M' 0 0) : Ev none (e + 1) 246 16 [some (.ref 633), some (.int k), x1] [] M v M' 0 0 := by
  refine Ev.step (pc' := 18) (ls' := [some (.ref 633), some (.int k), some (.int 0)]) (st' := []) (M1 := M) 2 (fun n => rfl) ?_
  exact hz
theorem im_18 {e : Nat} {M : Mem} {M' : Mem} {v : Option Value} {i k : Int32}  (hz : Ev none (e + 1) 246 (if 2314 ≤ i then 49 else 25) [some (.ref 633), some (.int k), some (.int i)] [] M v M' 0 0) : Ev none (e + 1) 246 18 [some (.ref 633), some (.int k), some (.int i)] [] M v M' 0 0 := by
  refine Ev.step (pc' := (if 2314 ≤ i then 49 else 25)) (ls' := [some (.ref 633), some (.int k), some (.int i)]) (st' := []) (M1 := M) 3 (fun n => rfl) ?_
  exact hz
theorem im_25 {e : Nat} {M : Mem} {M' : Mem} {v : Option Value} {vs : List Value} {i k y1 y2 : Int32} {l635 l636 : List Int32} (hM : gNth M 633 = some (.inr (11, vs))) (v6 : gNth vs 6 = some (.ref 636)) (v5 : gNth vs 5 = some (.ref 635)) (r635 : gNth M 635 = some (.inl (1, .inl l635))) (g1 : gAt l635 i = some y1) (r636 : gNth M 636 = some (.inl (1, .inl l636))) (g2 : gAt l636 ((2314 * k) + i) = some y2) (hz : Ev none (e + 1) 246 18 [some (.ref 633), some (.int k), some (.int (i + 1))] [] (gPut M 636 (.inl (1, .inl (gPut l636 ((2314 * k) + i).toNatClampNeg y1)))) v M' 0 0) : Ev none (e + 1) 246 25 [some (.ref 633), some (.int k), some (.int i)] [] M v M' 0 0 := by
  refine Ev.step (pc' := 26) (ls' := [some (.ref 633), some (.int k), some (.int i)]) (st' := [.ref 633]) (M1 := M) 1 (fun n => rfl) ?_
  refine Ev.step 1 (gs_3 rfl rfl (gf_g rfl hM v6)) ?_
  refine Ev.step (pc' := 37) (ls' := [some (.ref 633), some (.int k), some (.int i)]) (st' := [.ref 633, .int ((2314 * k) + i), .ref 636]) (M1 := M) 6 (fun n => rfl) ?_
  refine Ev.step 1 (gs_3 rfl rfl (gf_g rfl hM v5)) ?_
  refine Ev.step (pc' := 41) (ls' := [some (.ref 633), some (.int k), some (.int i)]) (st' := [.int i, .ref 635, .int ((2314 * k) + i), .ref 636]) (M1 := M) 1 (fun n => rfl) ?_
  refine Ev.step 1 (gs_3 rfl rfl (ia_g r635 g1)) ?_
  refine Ev.step 1 (gs_4 rfl rfl (is_g r636 g2)) ?_
  refine Ev.step (pc' := 18) (ls' := [some (.ref 633), some (.int k), some (.int (i + 1))]) (st' := []) (M1 := (gPut M 636 (.inl (1, .inl (gPut l636 ((2314 * k) + i).toNatClampNeg y1))))) 2 (fun n => rfl) ?_
  exact hz
theorem im_49 {e : Nat} {M : Mem} {vs : List Value} {i k y1 : Int32} {l638 : List Int32} (hM : gNth M 633 = some (.inr (11, vs))) (v8 : gNth vs 8 = some (.ref 638)) (r638 : gNth M 638 = some (.inl (3, .inl l638))) (g1 : gAt l638 k = some y1) : Ev none (e + 1) 246 49 [some (.ref 633), some (.int k), some (.int i)] [] M (some (.int 1)) (gPut M 638 (.inl (3, .inl (gPut l638 k.toNatClampNeg (vp_nar .boolean 1))))) 0 0 := by
  refine Ev.step (pc' := 50) (ls' := [some (.ref 633), some (.int k), some (.int i)]) (st' := [.ref 633]) (M1 := M) 1 (fun n => rfl) ?_
  refine Ev.step 1 (gs_3 rfl rfl (gf_g rfl hM v8)) ?_
  refine Ev.step (pc' := 55) (ls' := [some (.ref 633), some (.int k), some (.int i)]) (st' := [.int 1, .int k, .ref 638]) (M1 := M) 2 (fun n => rfl) ?_
  refine Ev.step 1 (gs_4 rfl rfl (bs_g r638 g1)) ?_
  refine Ev.step (pc' := 57) (ls' := [some (.ref 633), some (.int k), some (.int i)]) (st' := [.int 1]) (M1 := (gPut M 638 (.inl (3, .inl (gPut l638 k.toNatClampNeg (vp_nar .boolean 1)))))) 1 (fun n => rfl) ?_
  exact Ev.ret (fun n => rfl)
theorem re_5 {e : Nat} {M : Mem} {M' : Mem} {v : Option Value} {k : Int32} {x1 : Option Value}  (hz : Ev none (e + 1) 247 8 [some (.ref 633), some (.int k), x1] [.int 2, .int 0, .int k] M v M' 0 0) : Ev none (e + 1) 247 5 [some (.ref 633), some (.int k), x1] [] M v M' 0 0 := by
  refine Ev.step (pc' := 8) (ls' := [some (.ref 633), some (.int k), x1]) (st' := [.int 2, .int 0, .int k]) (M1 := M) 3 (fun n => rfl) ?_
  exact hz
theorem re_11 {e : Nat} {M : Mem} {M' : Mem} {v : Option Value} {k z : Int32} {x1 : Option Value}  (hz : Ev none (e + 1) 247 (if z = 0 then 23 else 14) [some (.ref 633), some (.int k), x1] [] M v M' 0 0) : Ev none (e + 1) 247 11 [some (.ref 633), some (.int k), x1] [.int z] M v M' 0 0 := by
  refine Ev.step (pc' := (if z = 0 then 23 else 14)) (ls' := [some (.ref 633), some (.int k), x1]) (st' := []) (M1 := M) 1 (fun n => rfl) ?_
  exact hz
theorem re_14 {e : Nat} {M : Mem} {M' : Mem} {v : Option Value} {vs : List Value} {k y1 : Int32} {l638 : List Int32} {x1 : Option Value} (hM : gNth M 633 = some (.inr (11, vs))) (v8 : gNth vs 8 = some (.ref 638)) (r638 : gNth M 638 = some (.inl (3, .inl l638))) (g1 : gAt l638 k = some y1) (hz : Ev none (e + 1) 247 (if y1 = 0 then 23 else 25) [some (.ref 633), some (.int k), x1] [] M v M' 0 0) : Ev none (e + 1) 247 14 [some (.ref 633), some (.int k), x1] [] M v M' 0 0 := by
  refine Ev.step (pc' := 15) (ls' := [some (.ref 633), some (.int k), x1]) (st' := [.ref 633]) (M1 := M) 1 (fun n => rfl) ?_
  refine Ev.step 1 (gs_3 rfl rfl (gf_g rfl hM v8)) ?_
  refine Ev.step (pc' := 19) (ls' := [some (.ref 633), some (.int k), x1]) (st' := [.int k, .ref 638]) (M1 := M) 1 (fun n => rfl) ?_
  refine Ev.step 1 (gs_3 rfl rfl (ba_g r638 g1)) ?_
  refine Ev.step (pc' := (if y1 = 0 then 23 else 25)) (ls' := [some (.ref 633), some (.int k), x1]) (st' := []) (M1 := M) 1 (fun n => rfl) ?_
  exact hz
theorem re_23 {e : Nat} {M : Mem} {k : Int32} {x1 : Option Value}  : Ev none (e + 1) 247 23 [some (.ref 633), some (.int k), x1] [] M (some (.int 0)) M 0 0 := by
  refine Ev.step (pc' := 24) (ls' := [some (.ref 633), some (.int k), x1]) (st' := [.int 0]) (M1 := M) 1 (fun n => rfl) ?_
  exact Ev.ret (fun n => rfl)
theorem re_25 {e : Nat} {M : Mem} {M' : Mem} {v : Option Value} {k : Int32} {x1 : Option Value}  (hz : Ev none (e + 1) 247 27 [some (.ref 633), some (.int k), some (.int 0)] [] M v M' 0 0) : Ev none (e + 1) 247 25 [some (.ref 633), some (.int k), x1] [] M v M' 0 0 := by
  refine Ev.step (pc' := 27) (ls' := [some (.ref 633), some (.int k), some (.int 0)]) (st' := []) (M1 := M) 2 (fun n => rfl) ?_
  exact hz
theorem re_27 {e : Nat} {M : Mem} {M' : Mem} {v : Option Value} {i k : Int32}  (hz : Ev none (e + 1) 247 (if 2314 ≤ i then 58 else 34) [some (.ref 633), some (.int k), some (.int i)] [] M v M' 0 0) : Ev none (e + 1) 247 27 [some (.ref 633), some (.int k), some (.int i)] [] M v M' 0 0 := by
  refine Ev.step (pc' := (if 2314 ≤ i then 58 else 34)) (ls' := [some (.ref 633), some (.int k), some (.int i)]) (st' := []) (M1 := M) 3 (fun n => rfl) ?_
  exact hz
theorem re_34 {e : Nat} {M : Mem} {M' : Mem} {v : Option Value} {vs : List Value} {i k y1 y2 : Int32} {l635 l636 : List Int32} (hM : gNth M 633 = some (.inr (11, vs))) (v5 : gNth vs 5 = some (.ref 635)) (v6 : gNth vs 6 = some (.ref 636)) (r636 : gNth M 636 = some (.inl (1, .inl l636))) (g1 : gAt l636 ((2314 * k) + i) = some y1) (r635 : gNth M 635 = some (.inl (1, .inl l635))) (g2 : gAt l635 i = some y2) (hz : Ev none (e + 1) 247 27 [some (.ref 633), some (.int k), some (.int (i + 1))] [] (gPut M 635 (.inl (1, .inl (gPut l635 i.toNatClampNeg y1)))) v M' 0 0) : Ev none (e + 1) 247 34 [some (.ref 633), some (.int k), some (.int i)] [] M v M' 0 0 := by
  refine Ev.step (pc' := 35) (ls' := [some (.ref 633), some (.int k), some (.int i)]) (st' := [.ref 633]) (M1 := M) 1 (fun n => rfl) ?_
  refine Ev.step 1 (gs_3 rfl rfl (gf_g rfl hM v5)) ?_
  refine Ev.step (pc' := 40) (ls' := [some (.ref 633), some (.int k), some (.int i)]) (st' := [.ref 633, .int i, .ref 635]) (M1 := M) 2 (fun n => rfl) ?_
  refine Ev.step 1 (gs_3 rfl rfl (gf_g rfl hM v6)) ?_
  refine Ev.step (pc' := 50) (ls' := [some (.ref 633), some (.int k), some (.int i)]) (st' := [.int ((2314 * k) + i), .ref 636, .int i, .ref 635]) (M1 := M) 5 (fun n => rfl) ?_
  refine Ev.step 1 (gs_3 rfl rfl (ia_g r636 g1)) ?_
  refine Ev.step 1 (gs_4 rfl rfl (is_g r635 g2)) ?_
  refine Ev.step (pc' := 27) (ls' := [some (.ref 633), some (.int k), some (.int (i + 1))]) (st' := []) (M1 := (gPut M 635 (.inl (1, .inl (gPut l635 i.toNatClampNeg y1))))) 2 (fun n => rfl) ?_
  exact hz
theorem re_58 {e : Nat} {M : Mem} {i k : Int32}  : Ev none (e + 1) 247 58 [some (.ref 633), some (.int k), some (.int i)] [] M (some (.int 1)) M 0 0 := by
  refine Ev.step (pc' := 59) (ls' := [some (.ref 633), some (.int k), some (.int i)]) (st' := [.int 1]) (M1 := M) 1 (fun n => rfl) ?_
  exact Ev.ret (fun n => rfl)
theorem sS_eq : gNth sG 63 = some (.inr (1, 2314, .inl sS)) := rfl
set_option maxRecDepth 100000 in
theorem rw_65 : rwB 65 1 2314 (-2147483648) 2147483647 = true := by decide +kernel
set_option maxRecDepth 100000 in
theorem rw_64 : rwB 64 1 6942 (-2147483648) 2147483647 = true := by decide +kernel
set_option maxRecDepth 100000 in
theorem rw_66 : rwB 66 3 3 0 1 = true := by decide +kernel
set_option maxRecDepth 100000 in
theorem mf_cp : (mfB 7 65 && mfB 6 64 && mfB 8 66) = true := by decide +kernel
set_option maxRecDepth 100000 in
theorem sU_cp : gNth sU 65 = some (some 637) ∧ gNth sU 64 = some (some 636) ∧ gNth sU 66 = some (some 638) := by refine ⟨?_, ?_, ?_⟩ <;> decide +kernel
/-- s and the rows that it is laid into -/
theorem TM.cp {M : Mem} (hT : TM sT sG M) : ∃ vs s la lk lb, gNth M 633 = some (.inr (11, vs)) ∧ gNth vs 5 = some (.ref 635) ∧ gNth vs 7 = some (.ref 637) ∧ gNth vs 6 = some (.ref 636) ∧ gNth vs 8 = some (.ref 638) ∧ gNth M 635 = some (.inl (1, .inl s)) ∧ s.length = 2314 ∧ gNth M 637 = some (.inl (1, .inl la)) ∧ la.length = 2314 ∧ gNth M 636 = some (.inl (1, .inl lk)) ∧ lk.length = 6942 ∧ gNth M 638 = some (.inl (3, .inl lb)) ∧ lb.length = 3 ∧ ∀ j x, gNth lb j = some x → 0 ≤ x.toInt ∧ x.toInt ≤ 1 := by
  obtain ⟨vs, s, hM, h5, hs, sl⟩ := hT.s_all
  obtain ⟨vs9, hM9, hv⟩ := hT.mfld
  cases hM.symm.trans hM9
  obtain ⟨h, a3⟩ := and_t mf_cp
  obtain ⟨a1, a2⟩ := and_t h
  obtain ⟨u1, u2, u3⟩ := sU_cp
  obtain ⟨g1, g2, g3, _⟩ := sT_more
  obtain ⟨la, b1, b2, _⟩ := hT.mrow g1 rw_65
  obtain ⟨lk, c1, c2, _⟩ := hT.mrow g2 rw_64
  obtain ⟨lb, d1, d2, d3⟩ := hT.mrow g3 rw_66
  exact ⟨vs, s, la, lk, lb, hM, h5, hv _ _ _ a1 u1, hv _ _ _ a2 u2, hv _ _ _ a3 u3, hs, sl, b1, b2, c1, c2, d1, d2, d3⟩
/-- a copy under way: n places from off on are those of src from so on -/
def CpP (l l0 src : List Int32) (off so n : Nat) : Prop := l.length = l0.length ∧ ∀ i, gNth l i = if off ≤ i ∧ i < off + n then gNth src (so + (i - off)) else gNth l0 i
theorem CpP.zero (l src : List Int32) (off so : Nat) : CpP l l src off so 0 := ⟨rfl, fun i => by rw [if_neg (by omega)]⟩
theorem CpP.step {l l0 src : List Int32} {off so n : Nat} {y : Int32} (h : CpP l l0 src off so n) (hy : gNth src (so + n) = some y) (hl : off + n < l.length) : CpP (gPut l (off + n) y) l0 src off so (n + 1) := by
  refine ⟨by rw [put_len]; exact h.1, fun i => ?_⟩
  rw [nth_put]
  by_cases hi : i = off + n
  · subst hi
    rw [if_pos ⟨rfl, hl⟩, if_pos (by omega), ← hy]
    congr 1
    omega
  · rw [if_neg (fun q => hi q.1), h.2 i]
    by_cases hc : off ≤ i ∧ i < off + n
    · rw [if_pos hc, if_pos (by omega)]
    · rw [if_neg hc, if_neg (by omega)]
theorem CpP.all {l l0 src : List Int32} (h : CpP l l0 src 0 0 2314) (hl : l0.length = 2314) (hs : src.length = 2314) : l = src := by
  refine nthx (fun i => ?_)
  rw [h.2 i]
  by_cases hc : i < 2314
  · rw [if_pos (by omega)]
    congr 1
    omega
  · rw [if_neg (by omega), nth_eq, nth_eq, List.getElem?_eq_none_iff.mpr (by omega), List.getElem?_eq_none_iff.mpr (by omega)]
/-- s as it stands is good -/
theorem TM.good {M : Mem} (hT : TM sT sG M) {l : List Int32} (hM : gNth M 635 = some (.inl (1, .inl l))) (h : evS l ∧ dsS l) : goodS l := by
  obtain ⟨e1, e2, e3⟩ := hT.at sT_635 sS_eq
  rw [hM] at e2
  cases e2
  obtain ⟨l', e5, l1, l2⟩ := ct_int (by decide) e3
  cases e5
  exact ⟨l1, l2, h.1, h.2⟩
theorem TM.s_p {M : Mem} (hT : TM sT sG M) {l : List Int32} (hM : gNth M 635 = some (.inl (1, .inl l))) {i : Nat} {y : Int32} {p : Iv} (hp : sgAt sS i = some p) (h1 : p.1 ≤ y.toInt) (h2 : y.toInt ≤ p.2) : TM sT sG (gPut M 635 (.inl (1, .inl (gPut l i y)))) := by
  obtain ⟨e1, e2, e3⟩ := hT.at sT_635 sS_eq
  rw [hM] at e2
  cases e2
  obtain ⟨l', e5, l1, l2⟩ := ct_int (by decide) e3
  cases e5
  refine hT.put (fun g2 t w1 w2 => ?_)
  rw [sT_635] at w1
  cases w1
  rw [sS_eq] at w2
  cases w2
  refine ct_mk (by decide) (by rw [put_len]; exact l1) (fun j x hj => ?_)
  rw [nth_put] at hj
  split at hj
  · rename_i hc
    cases hj
    obtain ⟨rfl, _⟩ := hc
    exact ⟨p, hp, h1, h2⟩
  · exact l2 j x hj
theorem i32_any (x : Int32) : -2147483648 ≤ x.toInt ∧ x.toInt ≤ 2147483647 := by
  have := i32_lt x
  omega
section LA
variable {M0 : Mem} {e : Nat} {s l0 : List Int32}
set_option maxRecDepth 100000 in
theorem la_loop : ∀ (j inn : Nat) (M : Mem) (i : Int32) (l : List Int32), TM sT sG M → Frm sT [(1065, 0)] M0 M → gNth M 635 = some (.inl (1, .inl s)) → gNth M 637 = some (.inl (1, .inl l)) → CpP l l0 s 0 0 inn → i.toInt = (inn : Int) → inn + j = 2314 → ∃ MF lF, Ev none e 153 2 [some (.ref 633), some (.int i)] [] M none MF 0 0 ∧ TM sT sG MF ∧ Frm sT [(1065, 0)] M0 MF ∧ gNth MF 637 = some (.inl (1, .inl lF)) ∧ CpP lF l0 s 0 0 2314 := by
  intro j
  have o : (2314 : Int32).toInt = 2314 := rfl
  induction j with
  | zero =>
    intro inn M i l hT hF hs ha hc hi hj
    refine ⟨M, l, la_2 ?_, hT, hF, ha, by rw [← show inn = 2314 by omega]; exact hc⟩
    rw [if_pos (by rw [Int32.le_iff_toInt_le, o]; omega)]
    exact la_27
  | succ j ih =>
    intro inn M i l hT hF hs ha hc hi hj
    obtain ⟨vs, s2, la, lk, lb, hM, h5, h7, _, _, hs2, sl, ha2, al, _⟩ := hT.cp
    cases hs.symm.trans hs2
    cases ha.symm.trans ha2
    obtain ⟨y, y1, y2⟩ := at_c (l := s) hi (by omega)
    obtain ⟨z, z1, z2⟩ := at_c (l := l) hi (by omega)
    have p1 : TM sT sG (gPut M 637 (.inl (1, .inl (gPut l inn y)))) := hT.putrow (n := 2314) (lo := -2147483648) (hi := 2147483647) sT_more.1 (by decide +kernel) (by rw [put_len]; exact al) (fun _ x _ => i32_any x)
    have e1 : (i + 1).toInt = i.toInt + 1 := i32_p1 (by omega)
    have hcs := hc.step (y := y) (by rw [Nat.zero_add]; exact y2) (by omega)
    rw [Nat.zero_add] at hcs
    obtain ⟨MF, lF, q1, q2⟩ := ih (inn + 1) _ (i + 1) (gPut l inn y) p1 (hF.trans (Frm.row ha sT_more.1 (List.mem_singleton.mpr rfl))) (by rw [nth_put, if_neg (fun q => absurd q.1 (by decide))]; exact hs) (by rw [nth_put, if_pos ⟨rfl, gNth_lt _ _ _ ha⟩]) hcs (by omega) (by omega)
    refine ⟨MF, lF, la_2 ?_, q2⟩
    rw [if_neg (by rw [Int32.le_iff_toInt_le, o]; omega)]
    refine la_9 hM h7 h5 hs y1 ha z1 ?_
    rw [cl_n hi]
    exact q1
theorem lb_loop {la : List Int32} (hg : goodS la) : ∀ (j inn : Nat) (M : Mem) (i : Int32) (l : List Int32), TM sT sG M → Frm sT [(1063, 0)] M0 M → gNth M 637 = some (.inl (1, .inl la)) → gNth M 635 = some (.inl (1, .inl l)) → CpP l l0 la 0 0 inn → i.toInt = (inn : Int) → inn + j = 2314 → ∃ MF lF, Ev none e 154 2 [some (.ref 633), some (.int i)] [] M none MF 0 0 ∧ TM sT sG MF ∧ Frm sT [(1063, 0)] M0 MF ∧ gNth MF 635 = some (.inl (1, .inl lF)) ∧ CpP lF l0 la 0 0 2314 := by
  intro j
  have o : (2314 : Int32).toInt = 2314 := rfl
  induction j with
  | zero =>
    intro inn M i l hT hF ha hs hc hi hj
    refine ⟨M, l, lb_2 ?_, hT, hF, hs, by rw [← show inn = 2314 by omega]; exact hc⟩
    rw [if_pos (by rw [Int32.le_iff_toInt_le, o]; omega)]
    exact lb_27
  | succ j ih =>
    intro inn M i l hT hF ha hs hc hi hj
    obtain ⟨vs, s2, la2, lk, lb, hM, h5, h7, _, _, hs2, sl, ha2, al, _⟩ := hT.cp
    cases hs.symm.trans hs2
    cases ha.symm.trans ha2
    obtain ⟨y, y1, y2⟩ := at_c (l := la) hi (by omega)
    obtain ⟨z, z1, z2⟩ := at_c (l := l) hi (by omega)
    obtain ⟨p, t1, t2, t3⟩ := hg.2.1 _ _ y2
    have p1 := hT.s_p hs t1 t2 t3
    have e1 : (i + 1).toInt = i.toInt + 1 := i32_p1 (by omega)
    have hcs := hc.step (y := y) (by rw [Nat.zero_add]; exact y2) (by omega)
    rw [Nat.zero_add] at hcs
    obtain ⟨MF, lF, q1, q2⟩ := ih (inn + 1) _ (i + 1) (gPut l inn y) p1 (hF.trans (Frm.row hs sT_635 (List.mem_singleton.mpr rfl))) (by rw [nth_put, if_neg (fun q => absurd q.1 (by decide))]; exact ha) (by rw [nth_put, if_pos ⟨rfl, gNth_lt _ _ _ hs⟩]) hcs (by omega) (by omega)
    refine ⟨MF, lF, lb_2 ?_, q2⟩
    rw [if_neg (by rw [Int32.le_iff_toInt_le, o]; omega)]
    refine lb_9 hM h5 h7 ha y1 hs z1 ?_
    rw [cl_n hi]
    exact q1
end LA
def kX11_layAside : CN := (153, 0, [.inr 1900], [], [(28, [])], [(1065, 0)], [(none, [], [], [(30, [])], [])])
def kX11_layBack : CN := (154, 0, [.inr 1900], [], [(30, [])], [(1063, 0)], [(none, [], [], [(28, [])], [])])
set_option maxRecDepth 100000 in
theorem mR_153 : (gNth mRs 153).map (fun q => q.2.2.2.1) = some 2 := by decide +kernel
set_option maxRecDepth 100000 in
theorem mR_154 : (gNth mRs 154).map (fun q => q.2.2.2.1) = some 2 := by decide +kernel
theorem kX11_layAside_ok : cnOK sT sG FL0 kX11_layAside := by
  intro d M ws q hd hq ha hp hT
  have hm := mR_153
  have hq' : gNth mRs 153 = some q := hq
  rw [hq'] at hm
  have hm : q.2.2.2.1 = 2 := Option.some.inj hm
  rcases ws with _ | ⟨a, _ | ⟨b, r⟩⟩
  · exact ha.elim
  · have k1 : a = .ref 633 := ha.1
    subst k1
    obtain ⟨hv, hv0, hfl⟩ := hp
    obtain ⟨y28, z28, h28⟩ := hfl (28, []) (List.mem_cons_self ..)
    obtain ⟨t2, l2, p1, p2⟩ := fl0_28 h28
    obtain ⟨vs, s, la, lk, lb, hM, h5, h7, _, _, hs, sl, ha2, al, _⟩ := hT.cp
    have hsl : l2 = s := by cases p1.symm.trans hs; rfl
    subst hsl
    have hg := hT.good hs p2
    obtain ⟨MF, lF, q1, q2, q3, q4, q5⟩ := la_loop (M0 := M) (e := d) (s := l2) (l0 := la) 2314 0 M 0 la hT (Frm.refl M) hs ha2 (CpP.zero _ _ _ _) rfl rfl
    have hlF := q5.all al sl
    subst hlF
    rw [hm]
    refine ⟨none, MF, la_0 q1, q2, q3, _, List.mem_cons_self .., ⟨trivial, fun q hq => (by cases hq), [], trivial, fun f hf => ?_, fun q hq => (by cases hq)⟩, cn_D rfl⟩
    cases List.mem_singleton.mp hf
    exact ⟨[], trivial, (show FL0 30 [] MF from ⟨1, _, q4, hg⟩)⟩
  · exact ha.2.elim
theorem kX11_layBack_ok : cnOK sT sG FL0 kX11_layBack := by
  intro d M ws q hd hq ha hp hT
  have hm := mR_154
  have hq' : gNth mRs 154 = some q := hq
  rw [hq'] at hm
  have hm : q.2.2.2.1 = 2 := Option.some.inj hm
  rcases ws with _ | ⟨a, _ | ⟨b, r⟩⟩
  · exact ha.elim
  · have k1 : a = .ref 633 := ha.1
    subst k1
    obtain ⟨hv, hv0, hfl⟩ := hp
    obtain ⟨y28, z28, h28⟩ := hfl (30, []) (List.mem_cons_self ..)
    obtain ⟨t2, l2, p1, p2⟩ := fl0_30 h28
    obtain ⟨vs, s, la, lk, lb, hM, h5, h7, _, _, hs, sl, ha2, al, _⟩ := hT.cp
    have hsl : l2 = la := by cases p1.symm.trans ha2; rfl
    subst hsl
    obtain ⟨MF, lF, q1, q2, q3, q4, q5⟩ := lb_loop (M0 := M) (e := d) (l0 := s) p2 2314 0 M 0 s hT (Frm.refl M) ha2 hs (CpP.zero _ _ _ _) rfl rfl
    have hlF := q5.all sl al
    subst hlF
    rw [hm]
    refine ⟨none, MF, lb_0 q1, q2, q3, _, List.mem_cons_self .., ⟨trivial, fun q hq => (by cases hq), [], trivial, fun f hf => ?_, fun q hq => (by cases hq)⟩, cn_D rfl⟩
    cases List.mem_singleton.mp hf
    exact ⟨[], trivial, (show FL0 28 [] MF from ⟨1, _, q4, p2.2.2⟩)⟩
  · exact ha.2.elim
/-! BY HAND: image and restore of the reference -/
theorem pf_i {M : Mem} {vs : List Value} {ix k ty : Nat} {st : List Value} {ini : Bool} {y : Int32} (ho : gOwn fRs 11 ix = some (11, k, ty)) (hM : gNth M 633 = some (.inr (11, vs))) (hl : k < vs.length) (hf : gFin 11 k = false) (ht : fits (gTy 11 k) (.int y) = true) : gGet (.putfield ix) none 11 ini (.int y :: .ref 633 :: st) M = some (st, gPut M 633 (.inr (11, gPut vs k (.int y)))) := by
  show (match gOwn fRs 11 ix, gNth M 633 with
    | some (ci, k, _), some (.inr (c, fs)) => match Nat.beq c ci && Nat.blt k fs.length && (!gFin ci k || (ini && Nat.beq 11 ci)) && fits (gTy ci k) (.int y) with
      | true => some (st, gPut M 633 (.inr (c, gPut fs k (.int y))))
      | _ => none
    | _, _ => none) = _
  rw [ho, hM]
  show (match Nat.beq 11 11 && Nat.blt k vs.length && (!gFin 11 k || (ini && Nat.beq 11 11)) && fits (gTy 11 k) (.int y) with
      | true => some (st, gPut M 633 (.inr (11, gPut vs k (.int y))))
      | _ => none) = _
  rw [hf, ht, show Nat.blt k vs.length = true from Nat.ble_eq_true_of_le hl]
  rfl
noncomputable def fldB (k : Nat) (lo hi : Int) : Bool := match gNth sG 61 with
  | some (.inl (11, fs)) => Nat.beq fs.length 63 && (match gNth fs k with
    | some (.inl (a, b)) => decide (a = lo) && decide (b = hi)
    | _ => false)
  | _ => false
/-- a field of the Model that is an int: its range; written -/
theorem TM.fint {M : Mem} (hT : TM sT sG M) {k : Nat} {lo hi : Int} (hB : fldB k lo hi = true) : ∃ vs y, gNth M 633 = some (.inr (11, vs)) ∧ vs.length = 63 ∧ gNth vs k = some (.int y) ∧ lo ≤ y.toInt ∧ y.toInt ≤ hi ∧ ∀ z : Int32, lo ≤ z.toInt → z.toInt ≤ hi → TM sT sG (gPut M 633 (.inr (11, gPut vs k (.int z)))) := by
  unfold fldB at hB
  split at hB
  rotate_left
  · cases hB
  rename_i fs e
  obtain ⟨b1, b2⟩ := and_t hB
  split at b2
  rotate_left
  · cases b2
  rename_i a b e2
  obtain ⟨b3, b4⟩ := and_t b2
  cases of_decide_eq_true b3
  cases of_decide_eq_true b4
  obtain ⟨ee, c1, c2⟩ := hT.at sT_633 e
  obtain ⟨vs, rfl, v1, v2⟩ := c2
  obtain ⟨v, w1, y, rfl, y1, y2⟩ := v2 k _ e2
  refine ⟨vs, y, c1, v1.trans (Nat.eq_of_beq_eq_true b1), w1, y1, y2, fun z z1 z2 => hT.put (fun g2 t q1 q2 => ?_)⟩
  rw [sT_633] at q1
  cases q1
  rw [e] at q2
  cases q2
  refine ⟨_, rfl, by rw [put_len]; exact v1, fun j ft hj => ?_⟩
  rw [nth_put]
  by_cases hjk : j = k
  · subst hjk
    rw [e2] at hj
    cases hj
    rw [if_pos ⟨rfl, gNth_lt _ _ _ w1⟩]
    exact ⟨_, rfl, z, rfl, z1, z2⟩
  · rw [if_neg (fun q => hjk q.1)]
    exact v2 j ft hj
set_option maxRecDepth 100000 in
theorem fB_0 : fldB 0 (-2147483648) 2147483647 = true := by decide +kernel
/-- thrown = 0 -/
theorem TM.thr {M : Mem} (hT : TM sT sG M) : ∃ vs, gNth M 633 = some (.inr (11, vs)) ∧ vs.length = 63 ∧ TM sT sG (gPut M 633 (.inr (11, gPut vs 0 (.int 0)))) := by
  obtain ⟨vs, y, h1, h2, _, _, _, h3⟩ := hT.fint fB_0
  exact ⟨vs, h1, h2, h3 0 (by decide) (by decide)⟩
theorem im_0 {e : Nat} {M : Mem} {M' : Mem} {v : Option Value} {vs : List Value} {k : Int32} {x1 : Option Value} (hM : gNth M 633 = some (.inr (11, vs))) (hlen : vs.length = 63) (hz : Ev none (e + 1) 246 8 [some (.ref 633), some (.int k), x1] [.int 2, .int 0, .int k] (gPut M 633 (.inr (11, gPut vs 0 (.int 0)))) v M' 0 0) : Ev none (e + 1) 246 0 [some (.ref 633), some (.int k), x1] [] M v M' 0 0 := by
  refine Ev.step (pc' := 2) (ls' := [some (.ref 633), some (.int k), x1]) (st' := [.int 0, .ref 633]) (M1 := M) 2 (fun n => rfl) ?_
  refine Ev.step 1 (gs_4 rfl rfl (pf_i rfl hM (by rw [hlen]; decide) rfl rfl)) ?_
  refine Ev.step (pc' := 8) (ls' := [some (.ref 633), some (.int k), x1]) (st' := [.int 2, .int 0, .int k]) (M1 := (gPut M 633 (.inr (11, gPut vs 0 (.int 0))))) 3 (fun n => rfl) ?_
  exact hz
theorem re_0 {e : Nat} {M : Mem} {M' : Mem} {v : Option Value} {vs : List Value} {k : Int32} {x1 : Option Value} (hM : gNth M 633 = some (.inr (11, vs))) (hlen : vs.length = 63) (hz : Ev none (e + 1) 247 8 [some (.ref 633), some (.int k), x1] [.int 2, .int 0, .int k] (gPut M 633 (.inr (11, gPut vs 0 (.int 0)))) v M' 0 0) : Ev none (e + 1) 247 0 [some (.ref 633), some (.int k), x1] [] M v M' 0 0 := by
  refine Ev.step (pc' := 2) (ls' := [some (.ref 633), some (.int k), x1]) (st' := [.int 0, .ref 633]) (M1 := M) 2 (fun n => rfl) ?_
  refine Ev.step 1 (gs_4 rfl rfl (pf_i rfl hM (by rw [hlen]; decide) rfl rfl)) ?_
  refine Ev.step (pc' := 8) (ls' := [some (.ref 633), some (.int k), x1]) (st' := [.int 2, .int 0, .int k]) (M1 := (gPut M 633 (.inr (11, gPut vs 0 (.int 0))))) 3 (fun n => rfl) ?_
  exact hz
section IM
variable {M0 : Mem} {e : Nat} {s l0 : List Int32} {k : Int32} {kn : Nat}
theorem i32_kept {k i : Int32} {kn inn : Nat} (hk : k.toInt = (kn : Int)) (hi : i.toInt = (inn : Int)) (k2 : kn ≤ 2) (i2 : inn ≤ 2314) : (2314 * k + i).toInt = ((2314 * kn + inn : Nat) : Int) := by
  have o : (2314 : Int32).toInt = 2314 := rfl
  have d1 : (2314 * k).toInt = 2314 * k.toInt := by
    rw [i32_mul (by rw [o]; omega) (by rw [o]; omega), o]
  rw [i32_add (by rw [d1]; omega) (by rw [d1]; omega), d1]
  omega
set_option maxRecDepth 100000 in
theorem im_loop (hk : k.toInt = (kn : Int)) (k2 : kn ≤ 2) : ∀ (j inn : Nat) (M : Mem) (i : Int32) (l : List Int32), TM sT sG M → Frm sT [(11, 0), (1064, 0), (1066, 0)] M0 M → gNth M 635 = some (.inl (1, .inl s)) → gNth M 636 = some (.inl (1, .inl l)) → CpP l l0 s (2314 * kn) 0 inn → i.toInt = (inn : Int) → inn + j = 2314 → ∃ M1 lF, (∀ v M', Ev none (e + 1) 246 49 [some (.ref 633), some (.int k), some (.int 2314)] [] M1 v M' 0 0 → Ev none (e + 1) 246 18 [some (.ref 633), some (.int k), some (.int i)] [] M v M' 0 0) ∧ TM sT sG M1 ∧ Frm sT [(11, 0), (1064, 0), (1066, 0)] M0 M1 ∧ gNth M1 636 = some (.inl (1, .inl lF)) ∧ CpP lF l0 s (2314 * kn) 0 2314 ∧ gNth M1 638 = gNth M 638 := by
  intro j
  have o : (2314 : Int32).toInt = 2314 := rfl
  induction j with
  | zero =>
    intro inn M i l hT hF hs ha hc hi hj
    have hi2 : i = 2314 := Int32.toInt_inj.mp (by rw [o]; omega)
    subst hi2
    refine ⟨M, l, fun v M' hz => im_18 ?_, hT, hF, ha, (by
      have h9 : inn = 2314 := by omega
      subst h9
      exact hc), rfl⟩
    rw [if_pos (by rw [Int32.le_iff_toInt_le]; omega)]
    exact hz
  | succ j ih =>
    intro inn M i l hT hF hs ha hc hi hj
    obtain ⟨vs, s2, la, lk, lb, hM, h5, _, h6, _, hs2, sl, _, _, ha2, al, _⟩ := hT.cp
    cases hs.symm.trans hs2
    cases ha.symm.trans ha2
    obtain ⟨y, y1, y2⟩ := at_c (l := s) hi (by omega)
    have hik := i32_kept (k := k) (i := i) hk hi k2 (by omega)
    obtain ⟨z, z1, z2⟩ := at_c (l := l) hik (by omega)
    have p1 : TM sT sG (gPut M 636 (.inl (1, .inl (gPut l (2314 * kn + inn) y)))) := hT.putrow (n := 6942) (lo := -2147483648) (hi := 2147483647) sT_more.2.1 (by decide +kernel) (by rw [put_len]; exact al) (fun _ x _ => i32_any x)
    have e1 : (i + 1).toInt = i.toInt + 1 := i32_p1 (by omega)
    have hcs := hc.step (y := y) (by rw [Nat.zero_add]; exact y2) (by omega)
    obtain ⟨M1, lF, q1, q2, q3, q4, q5, q6⟩ := ih (inn + 1) _ (i + 1) _ p1 (hF.trans (Frm.row ha sT_more.2.1 (by decide))) (by rw [nth_put, if_neg (fun q => absurd q.1 (by decide))]; exact hs) (by rw [nth_put, if_pos ⟨rfl, gNth_lt _ _ _ ha⟩]) hcs (by omega) (by omega)
    refine ⟨M1, lF, fun v M' hz => im_18 ?_, q2, q3, q4, q5, by rw [q6, nth_put, if_neg (fun q => absurd q.1 (by decide))]⟩
    rw [if_neg (by rw [Int32.le_iff_toInt_le, o]; omega)]
    refine im_25 hM h6 h5 hs y1 ha z1 ?_
    rw [cl_n hik]
    exact q1 v M' hz
theorem re_loop {lk l2 : List Int32} (hg : goodS l2) (hk : k.toInt = (kn : Int)) (k2 : kn ≤ 2) (hsl : ∀ i : Nat, i < 2314 → gNth lk (2314 * kn + i) = gNth l2 i) (hkl : lk.length = 6942) : ∀ (j inn : Nat) (M : Mem) (i : Int32) (l : List Int32), TM sT sG M → Frm sT [(11, 0), (1063, 0)] M0 M → gNth M 636 = some (.inl (1, .inl lk)) → gNth M 635 = some (.inl (1, .inl l)) → CpP l l0 l2 0 0 inn → i.toInt = (inn : Int) → inn + j = 2314 → ∃ MF lF, Ev none (e + 1) 247 27 [some (.ref 633), some (.int k), some (.int i)] [] M (some (.int 1)) MF 0 0 ∧ TM sT sG MF ∧ Frm sT [(11, 0), (1063, 0)] M0 MF ∧ gNth MF 635 = some (.inl (1, .inl lF)) ∧ CpP lF l0 l2 0 0 2314 := by
  intro j
  have o : (2314 : Int32).toInt = 2314 := rfl
  induction j with
  | zero =>
    intro inn M i l hT hF ha hs hc hi hj
    refine ⟨M, l, re_27 ?_, hT, hF, hs, by rw [← show inn = 2314 by omega]; exact hc⟩
    rw [if_pos (by rw [Int32.le_iff_toInt_le, o]; omega)]
    exact re_58
  | succ j ih =>
    intro inn M i l hT hF ha hs hc hi hj
    obtain ⟨vs, s2, la, lk2, lb, hM, h5, _, h6, _, hs2, sl, _, _, ha2, al, _⟩ := hT.cp
    cases hs.symm.trans hs2
    cases ha.symm.trans ha2
    have hik := i32_kept (k := k) (i := i) hk hi k2 (by omega)
    obtain ⟨y, y1, y2⟩ := at_c (l := lk) hik (by omega)
    rw [hsl inn (by omega)] at y2
    obtain ⟨z, z1, z2⟩ := at_c (l := l) hi (by omega)
    obtain ⟨p, t1, t2, t3⟩ := hg.2.1 _ _ y2
    have p1 := hT.s_p hs t1 t2 t3
    have e1 : (i + 1).toInt = i.toInt + 1 := i32_p1 (by omega)
    have hcs := hc.step (y := y) (by rw [Nat.zero_add]; exact y2) (by omega)
    rw [Nat.zero_add] at hcs
    obtain ⟨MF, lF, q1, q2⟩ := ih (inn + 1) _ (i + 1) (gPut l inn y) p1 (hF.trans (Frm.row hs sT_635 (by decide))) (by rw [nth_put, if_neg (fun q => absurd q.1 (by decide))]; exact ha) (by rw [nth_put, if_pos ⟨rfl, gNth_lt _ _ _ hs⟩]) hcs (by omega) (by omega)
    refine ⟨MF, lF, re_27 ?_, q2⟩
    rw [if_neg (by rw [Int32.le_iff_toInt_le, o]; omega)]
    refine re_34 hM h5 h6 ha y1 hs z1 ?_
    rw [cl_n hi]
    exact q1
end IM
def kX11_image : CN := (246, 1, [.inr 1900, .inl (.negSucc 2147483647, .ofNat 2147483647)], [], [(28, []), (32, [])], [(11, 0), (1064, 0), (1066, 0)], [(some (.inl (.ofNat 0, .ofNat 0)), [(1, (.negSucc 2147483647, .negSucc 0))], [], [(32, [])], []), (some (.inl (.ofNat 0, .ofNat 0)), [(1, (.ofNat 3, .ofNat 2147483647))], [], [(32, [])], []), (some (.inl (.ofNat 1, .ofNat 1)), [(1, (.ofNat 0, .ofNat 2))], [], [(32, [])], [])])
def kX11_restore : CN := (247, 1, [.inr 1900, .inl (.negSucc 2147483647, .ofNat 2147483647)], [], [(28, []), (32, [])], [(11, 0), (1063, 0)], [(some (.inl (.ofNat 0, .ofNat 1)), [], [], [(28, [])], [])])
set_option maxRecDepth 100000 in
theorem mR_246 : (gNth mRs 246).map (fun q => q.2.2.2.1) = some 3 := by decide +kernel
set_option maxRecDepth 100000 in
theorem mR_247 : (gNth mRs 247).map (fun q => q.2.2.2.1) = some 3 := by decide +kernel
theorem isin_01 (x lo hi : Int32) : (if x < lo then (0 : Int32) else if hi < x then 0 else 1) = 0 ∨ (lo ≤ x ∧ x ≤ hi ∧ (if x < lo then (0 : Int32) else if hi < x then 0 else 1) = 1) := by
  by_cases h1 : x < lo
  · rw [if_pos h1]; exact Or.inl rfl
  · rw [if_neg h1]
    by_cases h2 : hi < x
    · rw [if_pos h2]; exact Or.inl rfl
    · rw [if_neg h2]
      rw [Int32.lt_iff_toInt_lt] at h1 h2
      exact Or.inr ⟨Int32.le_iff_toInt_le.mpr (by omega), Int32.le_iff_toInt_le.mpr (by omega), rfl⟩
theorem kX11_image_ok : cnOK sT sG FL0 kX11_image := by
  intro d M ws q hd hq ha hp hT
  have hm := mR_246
  have hq' : gNth mRs 246 = some q := hq
  rw [hq'] at hm
  have hm : q.2.2.2.1 = 3 := Option.some.inj hm
  obtain ⟨e, rfl⟩ : ∃ e, d = e + 1 := ⟨d - 1, by have : 1 ≤ d := hd; omega⟩
  rcases ws with _ | ⟨a, _ | ⟨b, _ | ⟨b2, r⟩⟩⟩
  · exact ha.elim
  · exact ha.2.elim
  · obtain ⟨k1, ⟨k, rfl, _, _⟩, _⟩ := ha
    have k1 : a = .ref 633 := k1
    subst k1
    obtain ⟨hv, hv0, hfl⟩ := hp
    obtain ⟨y28, z28, h28⟩ := hfl (28, []) (List.mem_cons_self ..)
    obtain ⟨y32, z32, h32⟩ := hfl (32, []) (List.mem_cons_of_mem _ (List.mem_cons_self ..))
    obtain ⟨vs, hM, hlen, hT1⟩ := hT.thr
    obtain ⟨M1, e1⟩ : ∃ M1, M1 = gPut M 633 (.inr (11, gPut vs 0 (.int 0))) := ⟨_, rfl⟩
    rw [← e1] at hT1
    have hF1 : Frm sT [(11, 0), (1064, 0), (1066, 0)] M M1 := by rw [e1]; exact Frm.fld hM (by decide)
    have h28 := dp0_frm 0 28 _ _ _ _ hF1 (by decide) h28
    have h32 := dp0_frm 0 32 _ _ _ _ (show Frm sT [(11, 0)] M M1 by rw [e1]; exact Frm.fld hM (by decide)) (by decide) h32
    obtain ⟨t2, l2, p1, p2⟩ := fl0_28 h28
    obtain ⟨t3, t4, l3, l4, p3, p4, p5⟩ := fl0_32 h32
    obtain ⟨vs2, s, la, lk, lb, hM2, h5, h7, h6, h8, hs, sl, ha2, al, hk2, kl, hb2, bl, bx⟩ := hT1.cp
    have hsl : l2 = s := by cases p1.symm.trans hs; rfl
    subst hsl
    have hsl : l3 = lk := by cases p3.symm.trans hk2; rfl
    subst hsl
    have hsl : l4 = lb := by cases p4.symm.trans hb2; rfl
    subst hsl
    have hg := hT1.good hs p2
    rw [hm]
    rcases isin_01 k 0 2 with hz | ⟨k0, k2, hz⟩
    · have kb := i32_lt k
      have hs9 : k.toInt < 0 ∨ 2 < k.toInt := by
        by_cases h1 : k < 0
        · exact Or.inl (by rw [Int32.lt_iff_toInt_lt] at h1; exact h1)
        · by_cases h2 : 2 < k
          · exact Or.inr (by rw [Int32.lt_iff_toInt_lt] at h2; exact h2)
          · rw [if_neg h1, if_neg h2] at hz
            cases hz
      have hcs : ∀ s ∈ kX11_image.2.2.2.2.2.2, (∀ q ∈ s.2.1, ∃ x : Int32, gNth [Value.ref 633, .int k] q.1 = some (.int x) ∧ q.2.1 ≤ x.toInt ∧ x.toInt ≤ q.2.2) → s.1 = some (.inl (.ofNat 0, .ofNat 0)) → s.2.2.1 = [] → s.2.2.2.1 = [(32, [])] → s.2.2.2.2 = [] → csOK sT FL0 [.ref 633, .int k] (some (.int 0)) M1 s := by
        intro s hs g1 g2 g3 g4 g5
        refine ⟨by rw [g2]; exact ⟨0, rfl, by decide, by decide⟩, g1, [], by rw [g3]; trivial, fun f hf => ?_, fun q hq => (by rw [g5] at hq; cases hq)⟩
        rw [g4] at hf
        cases List.mem_singleton.mp hf
        exact ⟨[], trivial, h32⟩
      rcases hs9 with hs9 | hs9
      · exact ⟨some (.int 0), M1, im_0 hM hlen (by rw [← e1]; exact Ev.call0 (fun n => rfl) ev_isin (im_11 (by rw [if_pos hz]; exact im_14))), hT1, hF1, _, List.mem_cons_self .., hcs _ (List.mem_cons_self ..) (fun q hq => by cases List.mem_singleton.mp hq; exact ⟨k, rfl, by show (-2147483648 : Int) ≤ k.toInt; omega, by show k.toInt ≤ (-1 : Int); omega⟩) rfl rfl rfl rfl, cn_D rfl⟩
      · exact ⟨some (.int 0), M1, im_0 hM hlen (by rw [← e1]; exact Ev.call0 (fun n => rfl) ev_isin (im_11 (by rw [if_pos hz]; exact im_14))), hT1, hF1, _, List.mem_cons_of_mem _ (List.mem_cons_self ..), hcs _ (List.mem_cons_of_mem _ (List.mem_cons_self ..)) (fun q hq => by cases List.mem_singleton.mp hq; exact ⟨k, rfl, by show (3 : Int) ≤ k.toInt; omega, by show k.toInt ≤ (2147483647 : Int); omega⟩) rfl rfl rfl rfl, cn_D rfl⟩
    · rw [Int32.le_iff_toInt_le] at k0 k2
      have o2 : (2 : Int32).toInt = 2 := rfl
      have o0 : (0 : Int32).toInt = 0 := rfl
      obtain ⟨kn, hkn⟩ : ∃ kn : Nat, k.toInt = (kn : Int) := ⟨k.toInt.toNat, by omega⟩
      obtain ⟨M2, lF, q1, q2, q3, q4, q5, q6⟩ := im_loop (M0 := M) (e := e) (s := l2) (l0 := l3) hkn (by omega) 2314 0 M1 0 l3 hT1 hF1 hs hk2 (CpP.zero _ _ _ _) rfl rfl
      obtain ⟨vs3, _, _, lk3, lb3, hM3, _, _, _, h83, _, _, _, _, hk3, _, hb3, bl3, bx3⟩ := q2.cp
      rw [hb2] at q6
      have hsl : lb3 = l4 := by cases hb3.symm.trans q6; rfl
      subst hsl
      obtain ⟨y, y1, y2⟩ := at_c (l := lb3) hkn (by omega)
      have hnar : vp_nar .boolean 1 = 1 := rfl
      have hT3 : TM sT sG (gPut M2 638 (.inl (3, .inl (gPut lb3 kn 1)))) := q2.putrow (n := 3) (lo := 0) (hi := 1) sT_more.2.2.1 (by decide +kernel) (by rw [put_len]; exact bl3) (fun j x hj => by
        rw [nth_put] at hj
        split at hj
        · cases hj; decide
        · exact bx3 j x hj)
      refine ⟨some (.int 1), gPut M2 638 (.inl (3, .inl (gPut lb3 kn 1))), im_0 hM hlen (by rw [← e1]; exact Ev.call0 (fun n => rfl) ev_isin (im_11 (by rw [hz, if_neg (by decide)]; exact im_16 (q1 _ _ (by
        have h := im_49 (e := e) (k := k) (i := 2314) hM3 h83 hb3 y1
        rw [hnar, cl_n hkn] at h
        exact h))))), hT3, q3.trans (Frm.row hb3 sT_more.2.2.1 (by decide)), _, List.mem_cons_of_mem _ (List.mem_cons_of_mem _ (List.mem_cons_self ..)), ⟨⟨1, rfl, by decide, by decide⟩, fun q hq => (by cases List.mem_singleton.mp hq; exact ⟨k, rfl, by show (0 : Int) ≤ k.toInt; omega, by show k.toInt ≤ (2 : Int); omega⟩), [], trivial, fun f hf => ?_, fun q hq => (by cases hq)⟩, cn_D rfl⟩
      cases List.mem_singleton.mp hf
      refine ⟨[], trivial, (show FL0 32 [] _ from ⟨1, 3, lF, gPut lb3 kn 1, by rw [nth_put, if_neg (fun q => absurd q.1 (by decide))]; exact q4, by rw [nth_put, if_pos ⟨rfl, gNth_lt _ _ _ hb3⟩], fun kk b hb hb0 => ?_⟩)⟩
      by_cases hkk : kk = kn
      · subst hkk
        refine ⟨l2, hg, fun i hi => ?_⟩
        rw [q5.2, if_pos (by omega)]
        congr 1
        omega
      · rw [nth_put, if_neg (fun q => hkk q.1)] at hb
        obtain ⟨l9, g9, s9⟩ := p5 kk b hb hb0
        refine ⟨l9, g9, fun i hi => ?_⟩
        rw [q5.2, if_neg (by omega)]
        exact s9 i hi
  · exact ha.2.2.elim
theorem kX11_restore_ok : cnOK sT sG FL0 kX11_restore := by
  intro d M ws q hd hq ha hp hT
  have hm := mR_247
  have hq' : gNth mRs 247 = some q := hq
  rw [hq'] at hm
  have hm : q.2.2.2.1 = 3 := Option.some.inj hm
  obtain ⟨e, rfl⟩ : ∃ e, d = e + 1 := ⟨d - 1, by have : 1 ≤ d := hd; omega⟩
  rcases ws with _ | ⟨a, _ | ⟨b, _ | ⟨b2, r⟩⟩⟩
  · exact ha.elim
  · exact ha.2.elim
  · obtain ⟨k1, ⟨k, rfl, _, _⟩, _⟩ := ha
    have k1 : a = .ref 633 := k1
    subst k1
    obtain ⟨hv, hv0, hfl⟩ := hp
    obtain ⟨y28, z28, h28⟩ := hfl (28, []) (List.mem_cons_self ..)
    obtain ⟨y32, z32, h32⟩ := hfl (32, []) (List.mem_cons_of_mem _ (List.mem_cons_self ..))
    obtain ⟨vs, hM, hlen, hT1⟩ := hT.thr
    obtain ⟨M1, e1⟩ : ∃ M1, M1 = gPut M 633 (.inr (11, gPut vs 0 (.int 0))) := ⟨_, rfl⟩
    rw [← e1] at hT1
    have hF1 : Frm sT [(11, 0), (1063, 0)] M M1 := by rw [e1]; exact Frm.fld hM (by decide)
    have hF0 : Frm sT [(11, 0)] M M1 := by rw [e1]; exact Frm.fld hM (by decide)
    have h28 := dp0_frm 0 28 _ _ _ _ hF0 (by decide) h28
    have h32 := dp0_frm 0 32 _ _ _ _ hF0 (by decide) h32
    obtain ⟨t2, l2, p1, p2⟩ := fl0_28 h28
    obtain ⟨t3, t4, l3, l4, p3, p4, p5⟩ := fl0_32 h32
    obtain ⟨vs2, s, la, lk, lb, hM2, h5, h7, h6, h8, hs, sl, ha2, al, hk2, kl, hb2, bl, bx⟩ := hT1.cp
    have hsl : l3 = lk := by cases p3.symm.trans hk2; rfl
    subst hsl
    have hsl : l4 = lb := by cases p4.symm.trans hb2; rfl
    subst hsl
    rw [hm]
    have none_ : (∀ v M', Ev none (e + 1) 247 23 [some (.ref 633), some (.int k), none] [] M1 v M' 0 0 → Ev none (e + 1) 247 0 (gPad 3 (gArgs [.ref 633, .int k])) [] M v M' 0 0) → ∃ v M', Ev none (e + 1) kX11_restore.1 0 (gPad 3 (gArgs [.ref 633, .int k])) [] M v M' 0 0 ∧ TM sT sG M' ∧ Frm sT kX11_restore.2.2.2.2.2.1 M M' ∧ ∃ s ∈ kX11_restore.2.2.2.2.2.2, csOK sT FL0 [.ref 633, .int k] v M' s ∧ dlOK kX11_restore.1 M M' := by
      intro h
      refine ⟨some (.int 0), M1, h _ _ re_23, hT1, hF1, _, List.mem_cons_self .., ⟨⟨0, rfl, by decide, by decide⟩, fun q hq => (by cases hq), [], trivial, fun f hf => ?_, fun q hq => (by cases hq)⟩, cn_D rfl⟩
      cases List.mem_singleton.mp hf
      exact ⟨[], trivial, h28⟩
    rcases isin_01 k 0 2 with hz | ⟨k0, k2, hz⟩
    · exact none_ (fun v M' h => re_0 hM hlen (by rw [← e1]; exact Ev.call0 (fun n => rfl) ev_isin (re_11 (by rw [if_pos hz]; exact h))))
    · rw [Int32.le_iff_toInt_le] at k0 k2
      have o2 : (2 : Int32).toInt = 2 := rfl
      have o0 : (0 : Int32).toInt = 0 := rfl
      obtain ⟨kn, hkn⟩ : ∃ kn : Nat, k.toInt = (kn : Int) := ⟨k.toInt.toNat, by omega⟩
      obtain ⟨y, y1, y2⟩ := at_c (l := l4) hkn (by omega)
      by_cases hy : y = 0
      · exact none_ (fun v M' h => re_0 hM hlen (by rw [← e1]; exact Ev.call0 (fun n => rfl) ev_isin (re_11 (by rw [hz, if_neg (by decide)]; exact re_14 hM2 h8 hb2 y1 (by rw [if_pos hy]; exact h)))))
      · obtain ⟨l9, g9, s9⟩ := p5 kn y y2 hy
        obtain ⟨MF, lF, q1, q2, q3, q4, q5⟩ := re_loop (M0 := M) (e := e) (l0 := s) g9 hkn (by omega) s9 kl 2314 0 M1 0 s hT1 hF1 hk2 hs (CpP.zero _ _ _ _) rfl rfl
        have hlF := q5.all sl g9.1
        subst hlF
        refine ⟨some (.int 1), MF, re_0 hM hlen (by rw [← e1]; exact Ev.call0 (fun n => rfl) ev_isin (re_11 (by rw [hz, if_neg (by decide)]; exact re_14 hM2 h8 hb2 y1 (by rw [if_neg hy]; exact re_25 q1)))), q2, q3, _, List.mem_cons_self .., ⟨⟨1, rfl, by decide, by decide⟩, fun q hq => (by cases hq), [], trivial, fun f hf => ?_, fun q hq => (by cases hq)⟩, cn_D rfl⟩
        cases List.mem_singleton.mp hf
        exact ⟨[], trivial, (show FL0 28 [] MF from ⟨1, _, q4, g9.2.2⟩)⟩
  · exact ha.2.2.elim
/-! BY HAND: door of the reference -/
theorem ce_0 {e : Nat} {M : Mem} {vs : List Value} {y1 y2 : Int32} {l635 : List Int32} (hM : gNth M 633 = some (.inr (11, vs))) (v5 : gNth vs 5 = some (.ref 635)) (r635 : gNth M 635 = some (.inl (1, .inl l635))) (g1 : gAt l635 0 = some y1) (g2 : gAt l635 1 = some y2) : Ev none e 144 0 [some (.ref 633)] [] M (some (.int (y1 * y2))) M 0 0 := by
  refine Ev.step (pc' := 1) (ls' := [some (.ref 633)]) (st' := [.ref 633]) (M1 := M) 1 (fun n => rfl) ?_
  refine Ev.step 1 (gs_3 rfl rfl (gf_g rfl hM v5)) ?_
  refine Ev.step (pc' := 5) (ls' := [some (.ref 633)]) (st' := [.int 0, .ref 635]) (M1 := M) 1 (fun n => rfl) ?_
  refine Ev.step 1 (gs_3 rfl rfl (ia_g r635 g1)) ?_
  refine Ev.step (pc' := 7) (ls' := [some (.ref 633)]) (st' := [.ref 633, .int y1]) (M1 := M) 1 (fun n => rfl) ?_
  refine Ev.step 1 (gs_3 rfl rfl (gf_g rfl hM v5)) ?_
  refine Ev.step (pc' := 11) (ls' := [some (.ref 633)]) (st' := [.int 1, .ref 635, .int y1]) (M1 := M) 1 (fun n => rfl) ?_
  refine Ev.step 1 (gs_3 rfl rfl (ia_g r635 g2)) ?_
  refine Ev.step (pc' := 13) (ls' := [some (.ref 633)]) (st' := [.int (y1 * y2)]) (M1 := M) 1 (fun n => rfl) ?_
  exact Ev.ret (fun n => rfl)
theorem ic_0 {e : Nat} {M : Mem} {M' : Mem} {v : Option Value} {c : Int32}  (hz : Ev none (e + 1) 145 3 [some (.ref 633), some (.int c)] [.ref 633, .int 0, .int c] M v M' 0 0) : Ev none (e + 1) 145 0 [some (.ref 633), some (.int c)] [] M v M' 0 0 := by
  refine Ev.step (pc' := 3) (ls' := [some (.ref 633), some (.int c)]) (st' := [.ref 633, .int 0, .int c]) (M1 := M) 3 (fun n => rfl) ?_
  exact hz
theorem ic_6 {e : Nat} {M : Mem} {M' : Mem} {v : Option Value} {c z : Int32}  (hz : Ev none (e + 1) 145 8 [some (.ref 633), some (.int c)] [.int (z - 1), .int 0, .int c] M v M' 0 0) : Ev none (e + 1) 145 6 [some (.ref 633), some (.int c)] [.int z, .int 0, .int c] M v M' 0 0 := by
  refine Ev.step (pc' := 8) (ls' := [some (.ref 633), some (.int c)]) (st' := [.int (z - 1), .int 0, .int c]) (M1 := M) 2 (fun n => rfl) ?_
  exact hz
theorem ic_11z {e : Nat} {M : Mem} {c : Int32}  : Ev none (e + 1) 145 11 [some (.ref 633), some (.int c)] [.int 0] M (some (.int 0)) M 0 0 := by
  exact Ev.ret (fun n => rfl)
theorem ic_11o {e : Nat} {M : Mem} {c : Int32}  : Ev none (e + 1) 145 11 [some (.ref 633), some (.int c)] [.int 1] M (some (.int 1)) M 0 0 := by
  exact Ev.ret (fun n => rfl)
theorem da_0 {e : Nat} {M : Mem} {M' : Mem} {v : Option Value} {c : Int32} {x1 : Option Value}  (hz : Ev none e 157 2 [some (.ref 633), some (.int c), some (.int 0)] [] M v M' 0 0) : Ev none e 157 0 [some (.ref 633), some (.int c), x1] [] M v M' 0 0 := by
  refine Ev.step (pc' := 2) (ls' := [some (.ref 633), some (.int c), some (.int 0)]) (st' := []) (M1 := M) 2 (fun n => rfl) ?_
  exact hz
theorem da_2 {e : Nat} {M : Mem} {M' : Mem} {v : Option Value} {vs : List Value} {c d y1 : Int32} {l635 : List Int32} (hM : gNth M 633 = some (.inr (11, vs))) (v5 : gNth vs 5 = some (.ref 635)) (r635 : gNth M 635 = some (.inl (1, .inl l635))) (g1 : gAt l635 2 = some y1) (hz : Ev none e 157 (if y1 ≤ d then 32 else 12) [some (.ref 633), some (.int c), some (.int d)] [] M v M' 0 0) : Ev none e 157 2 [some (.ref 633), some (.int c), some (.int d)] [] M v M' 0 0 := by
  refine Ev.step (pc' := 4) (ls' := [some (.ref 633), some (.int c), some (.int d)]) (st' := [.ref 633, .int d]) (M1 := M) 2 (fun n => rfl) ?_
  refine Ev.step 1 (gs_3 rfl rfl (gf_g rfl hM v5)) ?_
  refine Ev.step (pc' := 8) (ls' := [some (.ref 633), some (.int c), some (.int d)]) (st' := [.int 2, .ref 635, .int d]) (M1 := M) 1 (fun n => rfl) ?_
  refine Ev.step 1 (gs_3 rfl rfl (ia_g r635 g1)) ?_
  refine Ev.step (pc' := (if y1 ≤ d then 32 else 12)) (ls' := [some (.ref 633), some (.int c), some (.int d)]) (st' := []) (M1 := M) 1 (fun n => rfl) ?_
  exact hz
theorem da_12 {e : Nat} {M : Mem} {M' : Mem} {v : Option Value} {vs : List Value} {c d y1 : Int32} {l635 : List Int32} (hM : gNth M 633 = some (.inr (11, vs))) (v5 : gNth vs 5 = some (.ref 635)) (r635 : gNth M 635 = some (.inl (1, .inl l635))) (g1 : gAt l635 (3 + d) = some y1) (hz : Ev none e 157 (if y1 = c then 24 else 26) [some (.ref 633), some (.int c), some (.int d)] [] M v M' 0 0) : Ev none e 157 12 [some (.ref 633), some (.int c), some (.int d)] [] M v M' 0 0 := by
  refine Ev.step (pc' := 13) (ls' := [some (.ref 633), some (.int c), some (.int d)]) (st' := [.ref 633]) (M1 := M) 1 (fun n => rfl) ?_
  refine Ev.step 1 (gs_3 rfl rfl (gf_g rfl hM v5)) ?_
  refine Ev.step (pc' := 19) (ls' := [some (.ref 633), some (.int c), some (.int d)]) (st' := [.int (3 + d), .ref 635]) (M1 := M) 3 (fun n => rfl) ?_
  refine Ev.step 1 (gs_3 rfl rfl (ia_g r635 g1)) ?_
  refine Ev.step (pc' := (if y1 = c then 24 else 26)) (ls' := [some (.ref 633), some (.int c), some (.int d)]) (st' := []) (M1 := M) 2 (fun n => rfl) ?_
  exact hz
theorem da_24 {e : Nat} {M : Mem} {c d : Int32}  : Ev none e 157 24 [some (.ref 633), some (.int c), some (.int d)] [] M (some (.int 1)) M 0 0 := by
  refine Ev.step (pc' := 25) (ls' := [some (.ref 633), some (.int c), some (.int d)]) (st' := [.int 1]) (M1 := M) 1 (fun n => rfl) ?_
  exact Ev.ret (fun n => rfl)
theorem da_26 {e : Nat} {M : Mem} {M' : Mem} {v : Option Value} {c d : Int32}  (hz : Ev none e 157 2 [some (.ref 633), some (.int c), some (.int (d + 1))] [] M v M' 0 0) : Ev none e 157 26 [some (.ref 633), some (.int c), some (.int d)] [] M v M' 0 0 := by
  refine Ev.step (pc' := 2) (ls' := [some (.ref 633), some (.int c), some (.int (d + 1))]) (st' := []) (M1 := M) 2 (fun n => rfl) ?_
  exact hz
theorem da_32 {e : Nat} {M : Mem} {c d : Int32}  : Ev none e 157 32 [some (.ref 633), some (.int c), some (.int d)] [] M (some (.int 0)) M 0 0 := by
  refine Ev.step (pc' := 33) (ls' := [some (.ref 633), some (.int c), some (.int d)]) (st' := [.int 0]) (M1 := M) 1 (fun n => rfl) ?_
  exact Ev.ret (fun n => rfl)
theorem dr_0 {e : Nat} {M : Mem} {M' : Mem} {v : Option Value} {vs : List Value} {c : Int32} (hM : gNth M 633 = some (.inr (11, vs))) (hlen : vs.length = 63) (hz : Ev none (e + 2) 156 5 [some (.ref 633), some (.int c)] [] (gPut M 633 (.inr (11, gPut vs 0 (.int 0)))) v M' 0 0) : Ev none (e + 2) 156 0 [some (.ref 633), some (.int c)] [] M v M' 0 0 := by
  refine Ev.step (pc' := 2) (ls' := [some (.ref 633), some (.int c)]) (st' := [.int 0, .ref 633]) (M1 := M) 2 (fun n => rfl) ?_
  refine Ev.step 1 (gs_4 rfl rfl (pf_i rfl hM (by rw [hlen]; decide) rfl rfl)) ?_
  exact hz
theorem dr_5 {e : Nat} {M : Mem} {M' : Mem} {v : Option Value} {vs : List Value} {c y1 : Int32} {l635 : List Int32} (hM : gNth M 633 = some (.inr (11, vs))) (v5 : gNth vs 5 = some (.ref 635)) (r635 : gNth M 635 = some (.inl (1, .inl l635))) (g1 : gAt l635 2 = some y1) (hz : Ev none (e + 2) 156 (if y1 = 9 then 40 else 16) [some (.ref 633), some (.int c)] [] M v M' 0 0) : Ev none (e + 2) 156 5 [some (.ref 633), some (.int c)] [] M v M' 0 0 := by
  refine Ev.step (pc' := 6) (ls' := [some (.ref 633), some (.int c)]) (st' := [.ref 633]) (M1 := M) 1 (fun n => rfl) ?_
  refine Ev.step 1 (gs_3 rfl rfl (gf_g rfl hM v5)) ?_
  refine Ev.step (pc' := 10) (ls' := [some (.ref 633), some (.int c)]) (st' := [.int 2, .ref 635]) (M1 := M) 1 (fun n => rfl) ?_
  refine Ev.step 1 (gs_3 rfl rfl (ia_g r635 g1)) ?_
  refine Ev.step (pc' := (if y1 = 9 then 40 else 16)) (ls' := [some (.ref 633), some (.int c)]) (st' := []) (M1 := M) 2 (fun n => rfl) ?_
  exact hz
theorem dr_16 {e : Nat} {M : Mem} {M' : Mem} {v : Option Value} {c : Int32}  (hz : Ev none (e + 2) 156 18 [some (.ref 633), some (.int c)] [.int c, .ref 633] M v M' 0 0) : Ev none (e + 2) 156 16 [some (.ref 633), some (.int c)] [] M v M' 0 0 := by
  refine Ev.step (pc' := 18) (ls' := [some (.ref 633), some (.int c)]) (st' := [.int c, .ref 633]) (M1 := M) 2 (fun n => rfl) ?_
  exact hz
theorem dr_24 {e : Nat} {M : Mem} {M' : Mem} {v : Option Value} {c : Int32}  (hz : Ev none (e + 2) 156 26 [some (.ref 633), some (.int c)] [.int c, .ref 633] M v M' 0 0) : Ev none (e + 2) 156 24 [some (.ref 633), some (.int c)] [] M v M' 0 0 := by
  refine Ev.step (pc' := 26) (ls' := [some (.ref 633), some (.int c)]) (st' := [.int c, .ref 633]) (M1 := M) 2 (fun n => rfl) ?_
  exact hz
theorem dr_32 {e : Nat} {M : Mem} {M' : Mem} {v : Option Value} {c : Int32}  (hz : Ev none (e + 2) 156 34 [some (.ref 633), some (.int c)] [.int c, .ref 633] M v M' 0 0) : Ev none (e + 2) 156 32 [some (.ref 633), some (.int c)] [] M v M' 0 0 := by
  refine Ev.step (pc' := 34) (ls' := [some (.ref 633), some (.int c)]) (st' := [.int c, .ref 633]) (M1 := M) 2 (fun n => rfl) ?_
  exact hz
theorem dr_40 {e : Nat} {M : Mem} {c : Int32}  : Ev none (e + 2) 156 40 [some (.ref 633), some (.int c)] [] M (some (.int (-1))) M 0 0 := by
  refine Ev.step (pc' := 41) (ls' := [some (.ref 633), some (.int c)]) (st' := [.int (-1)]) (M1 := M) 1 (fun n => rfl) ?_
  exact Ev.ret (fun n => rfl)
theorem dr_42 {e : Nat} {M : Mem} {M' : Mem} {v : Option Value} {vs : List Value} {c y1 y2 : Int32} {l635 : List Int32} (hM : gNth M 633 = some (.inr (11, vs))) (v5 : gNth vs 5 = some (.ref 635)) (r635 : gNth M 635 = some (.inl (1, .inl l635))) (g1 : gAt l635 2 = some y1) (g2 : gAt l635 (3 + y1) = some y2) (hz : Ev none (e + 2) 156 56 [some (.ref 633), some (.int c)] [] (gPut M 635 (.inl (1, .inl (gPut l635 (3 + y1).toNatClampNeg c)))) v M' 0 0) : Ev none (e + 2) 156 42 [some (.ref 633), some (.int c)] [] M v M' 0 0 := by
  refine Ev.step (pc' := 43) (ls' := [some (.ref 633), some (.int c)]) (st' := [.ref 633]) (M1 := M) 1 (fun n => rfl) ?_
  refine Ev.step 1 (gs_3 rfl rfl (gf_g rfl hM v5)) ?_
  refine Ev.step (pc' := 48) (ls' := [some (.ref 633), some (.int c)]) (st' := [.ref 633, .int 3, .ref 635]) (M1 := M) 2 (fun n => rfl) ?_
  refine Ev.step 1 (gs_3 rfl rfl (gf_g rfl hM v5)) ?_
  refine Ev.step (pc' := 52) (ls' := [some (.ref 633), some (.int c)]) (st' := [.int 2, .ref 635, .int 3, .ref 635]) (M1 := M) 1 (fun n => rfl) ?_
  refine Ev.step 1 (gs_3 rfl rfl (ia_g r635 g1)) ?_
  refine Ev.step (pc' := 55) (ls' := [some (.ref 633), some (.int c)]) (st' := [.int c, .int (3 + y1), .ref 635]) (M1 := M) 2 (fun n => rfl) ?_
  refine Ev.step 1 (gs_4 rfl rfl (is_g r635 g2)) ?_
  exact hz
theorem dr_56 {e : Nat} {M : Mem} {M' : Mem} {v : Option Value} {vs : List Value} {c y1 : Int32} {l635 : List Int32} (hM : gNth M 633 = some (.inr (11, vs))) (v5 : gNth vs 5 = some (.ref 635)) (r635 : gNth M 635 = some (.inl (1, .inl l635))) (g1 : gAt l635 2 = some y1) (hz : Ev none (e + 2) 156 66 [some (.ref 633), some (.int c)] [] (gPut M 635 (.inl (1, .inl (gPut l635 (2 : Int32).toNatClampNeg (y1 + 1))))) v M' 0 0) : Ev none (e + 2) 156 56 [some (.ref 633), some (.int c)] [] M v M' 0 0 := by
  refine Ev.step (pc' := 57) (ls' := [some (.ref 633), some (.int c)]) (st' := [.ref 633]) (M1 := M) 1 (fun n => rfl) ?_
  refine Ev.step 1 (gs_3 rfl rfl (gf_g rfl hM v5)) ?_
  refine Ev.step (pc' := 62) (ls' := [some (.ref 633), some (.int c)]) (st' := [.int 2, .ref 635, .int 2, .ref 635]) (M1 := M) 2 (fun n => rfl) ?_
  refine Ev.step 1 (gs_3 rfl rfl (ia_g r635 g1)) ?_
  refine Ev.step (pc' := 65) (ls' := [some (.ref 633), some (.int c)]) (st' := [.int (y1 + 1), .int 2, .ref 635]) (M1 := M) 2 (fun n => rfl) ?_
  refine Ev.step 1 (gs_4 rfl rfl (is_g r635 g1)) ?_
  exact hz
theorem dr_66 {e : Nat} {M : Mem} {vs : List Value} {c y1 : Int32} {l635 : List Int32} (hM : gNth M 633 = some (.inr (11, vs))) (v5 : gNth vs 5 = some (.ref 635)) (r635 : gNth M 635 = some (.inl (1, .inl l635))) (g1 : gAt l635 2 = some y1) : Ev none (e + 2) 156 66 [some (.ref 633), some (.int c)] [] M (some (.int (y1 - 1))) M 0 0 := by
  refine Ev.step (pc' := 67) (ls' := [some (.ref 633), some (.int c)]) (st' := [.ref 633]) (M1 := M) 1 (fun n => rfl) ?_
  refine Ev.step 1 (gs_3 rfl rfl (gf_g rfl hM v5)) ?_
  refine Ev.step (pc' := 71) (ls' := [some (.ref 633), some (.int c)]) (st' := [.int 2, .ref 635]) (M1 := M) 1 (fun n => rfl) ?_
  refine Ev.step 1 (gs_3 rfl rfl (ia_g r635 g1)) ?_
  refine Ev.step (pc' := 74) (ls' := [some (.ref 633), some (.int c)]) (st' := [.int (y1 - 1)]) (M1 := M) 2 (fun n => rfl) ?_
  exact Ev.ret (fun n => rfl)
theorem dr_21 {e : Nat} {M : Mem} {M' : Mem} {v : Option Value} {c z : Int32}  (hz : Ev none (e + 2) 156 (if z = 0 then 40 else 24) [some (.ref 633), some (.int c)] [] M v M' 0 0) : Ev none (e + 2) 156 21 [some (.ref 633), some (.int c)] [.int z] M v M' 0 0 := by
  refine Ev.step (pc' := (if z = 0 then 40 else 24)) (ls' := [some (.ref 633), some (.int c)]) (st' := []) (M1 := M) 1 (fun n => rfl) ?_
  exact hz
theorem dr_29 {e : Nat} {M : Mem} {M' : Mem} {v : Option Value} {c z : Int32}  (hz : Ev none (e + 2) 156 (if z = 0 then 40 else 32) [some (.ref 633), some (.int c)] [] M v M' 0 0) : Ev none (e + 2) 156 29 [some (.ref 633), some (.int c)] [.int z] M v M' 0 0 := by
  refine Ev.step (pc' := (if z = 0 then 40 else 32)) (ls' := [some (.ref 633), some (.int c)]) (st' := []) (M1 := M) 1 (fun n => rfl) ?_
  exact hz
theorem dr_37 {e : Nat} {M : Mem} {M' : Mem} {v : Option Value} {c z : Int32}  (hz : Ev none (e + 2) 156 (if z = 0 then 42 else 40) [some (.ref 633), some (.int c)] [] M v M' 0 0) : Ev none (e + 2) 156 37 [some (.ref 633), some (.int c)] [.int z] M v M' 0 0 := by
  refine Ev.step (pc' := (if z = 0 then 42 else 40)) (ls' := [some (.ref 633), some (.int c)]) (st' := []) (M1 := M) 1 (fun n => rfl) ?_
  exact hz
theorem cal_ce {M : Mem} {vs : List Value} {rest : List Value} (hM : gNth M 633 = some (.inr (11, vs))) (hr : gRoom rest = true) : gCal (.invokevirtual 128) 11 (.ref 633 :: rest) M = some (.inr (144, [some (.ref 633)], rest)) := by
  show @cond (Option ((List Value × Mem) ⊕ (Nat × Lo × List Value))) (true && gRecv M (.ref 633) 11 && gRoom rest && true) (some (.inr (144, [some (.ref 633)], rest))) none = _
  rw [recv_ok hM, hr]
  rfl
theorem cal_ic {M : Mem} {vs : List Value} {a0 : Int32} {rest : List Value} (hM : gNth M 633 = some (.inr (11, vs))) (hr : gRoom rest = true) : gCal (.invokevirtual 155) 11 (.int a0 :: .ref 633 :: rest) M = some (.inr (145, [some (.ref 633), some (.int a0)], rest)) := by
  show @cond (Option ((List Value × Mem) ⊕ (Nat × Lo × List Value))) (true && gRecv M (.ref 633) 11 && gRoom rest && true) (some (.inr (145, [some (.ref 633), some (.int a0)], rest))) none = _
  rw [recv_ok hM, hr]
  rfl
theorem cal_da {M : Mem} {vs : List Value} {a0 : Int32} {rest : List Value} (hM : gNth M 633 = some (.inr (11, vs))) (hr : gRoom rest = true) : gCal (.invokevirtual 161) 11 (.int a0 :: .ref 633 :: rest) M = some (.inr (157, [some (.ref 633), some (.int a0), none], rest)) := by
  show @cond (Option ((List Value × Mem) ⊕ (Nat × Lo × List Value))) (true && gRecv M (.ref 633) 11 && gRoom rest && true) (some (.inr (157, [some (.ref 633), some (.int a0), none], rest))) none = _
  rw [recv_ok hM, hr]
  rfl
theorem ev_cells {M : Mem} {e : Nat} {vs : List Value} {l : List Int32} {w h : Int32} (hM : gNth M 633 = some (.inr (11, vs))) (h5 : gNth vs 5 = some (.ref 635)) (hs : gNth M 635 = some (.inl (1, .inl l))) (h0 : gAt l 0 = some w) (h1 : gAt l 1 = some h) : Ev none e 144 0 [some (.ref 633)] [] M (some (.int (w * h))) M 0 0 := ce_0 hM h5 hs h0 h1
theorem ev_isCell {M : Mem} {e : Nat} {vs : List Value} {l : List Int32} {w h c : Int32} (hM : gNth M 633 = some (.inr (11, vs))) (h5 : gNth vs 5 = some (.ref 635)) (hs : gNth M 635 = some (.inl (1, .inl l))) (h0 : gAt l 0 = some w) (h1 : gAt l 1 = some h) : Ev none (e + 1) 145 0 [some (.ref 633), some (.int c)] [] M (some (.int (if c < 0 then 0 else if w * h - 1 < c then 0 else 1))) M 0 0 := by
  refine ic_0 (Ev.call0 (fun n => gs_7 rfl rfl (cal_ce hM rfl)) (ev_cells hM h5 hs h0 h1) (ic_6 (Ev.call0 (fun n => rfl) ev_isin ?_)))
  by_cases c1 : c < 0
  · rw [if_pos c1]
    exact ic_11z
  · rw [if_neg c1]
    by_cases c2 : w * h - 1 < c
    · rw [if_pos c2]
      exact ic_11z
    · rw [if_neg c2]
      exact ic_11o
theorem ev_isDoorAt {M : Mem} {e : Nat} {vs : List Value} {l : List Int32} {n c : Int32} (hM : gNth M 633 = some (.inr (11, vs))) (h5 : gNth vs 5 = some (.ref 635)) (hs : gNth M 635 = some (.inl (1, .inl l))) (sl : l.length = 2314) (h2 : gAt l 2 = some n) (n0 : 0 ≤ n.toInt) (n9 : n.toInt ≤ 9) : ∃ r : Int32, Ev none e 157 0 [some (.ref 633), some (.int c), none] [] M (some (.int r)) M 0 0 ∧ (r = 0 → ∀ (i : Nat) y, (i : Int) < n.toInt → gNth l (3 + i) = some y → y ≠ c) := by
  have main : ∀ (j dn : Nat) (d : Int32), d.toInt = (dn : Int) → n.toInt ≤ dn + (j : Int) → dn ≤ 9 → (∀ (i : Nat) y, i < dn → gNth l (3 + i) = some y → y ≠ c) → ∃ r : Int32, Ev none e 157 2 [some (.ref 633), some (.int c), some (.int d)] [] M (some (.int r)) M 0 0 ∧ (r = 0 → ∀ (i : Nat) y, (i : Int) < n.toInt → gNth l (3 + i) = some y → y ≠ c) := by
    intro j
    have fin : ∀ (dn : Nat) (d : Int32), d.toInt = (dn : Int) → n ≤ d → (∀ (i : Nat) y, i < dn → gNth l (3 + i) = some y → y ≠ c) → ∃ r : Int32, Ev none e 157 2 [some (.ref 633), some (.int c), some (.int d)] [] M (some (.int r)) M 0 0 ∧ (r = 0 → ∀ (i : Nat) y, (i : Int) < n.toInt → gNth l (3 + i) = some y → y ≠ c) := by
      intro dn d hd hle ho
      refine ⟨0, da_2 hM h5 hs h2 (by rw [if_pos hle]; exact da_32), fun _ i y hi hy => ho i y ?_ hy⟩
      rw [Int32.le_iff_toInt_le] at hle
      omega
    induction j with
    | zero =>
      intro dn d hd hn _ ho
      exact fin dn d hd (by rw [Int32.le_iff_toInt_le]; omega) ho
    | succ j ih =>
      intro dn d hd hn d9 ho
      by_cases hle : n ≤ d
      · exact fin dn d hd hle ho
      have hlt : d.toInt < n.toInt := by rw [Int32.le_iff_toInt_le] at hle; omega
      have o3 : (3 : Int32).toInt = 3 := rfl
      have e3 : (3 + d).toInt = ((3 + dn : Nat) : Int) := by
        rw [i32_add (by rw [o3]; omega) (by rw [o3]; omega), o3]
        omega
      obtain ⟨y, y1, y2⟩ := at_c (l := l) e3 (by omega)
      by_cases hy : y = c
      · exact ⟨1, da_2 hM h5 hs h2 (by rw [if_neg hle]; exact da_12 hM h5 hs y1 (by rw [if_pos hy]; exact da_24)), fun h => absurd h (by decide)⟩
      · have e1 : (d + 1).toInt = d.toInt + 1 := i32_p1 (by omega)
        obtain ⟨r, q1, q2⟩ := ih (dn + 1) (d + 1) (by omega) (by omega) (by omega) (fun i z hi hz => by
          by_cases hid : i = dn
          · subst hid
            cases y2.symm.trans hz
            exact hy
          · exact ho i z (by omega) hz)
        exact ⟨r, da_2 hM h5 hs h2 (by rw [if_neg hle]; exact da_12 hM h5 hs y1 (by rw [if_neg hy]; exact da_26 q1)), q2⟩
  obtain ⟨r, q1, q2⟩ := main 9 0 0 rfl (by omega) (by omega) (fun i y hi => by omega)
  exact ⟨r, da_0 q1, q2⟩
set_option maxRecDepth 100000 in
theorem sB_2 : sB 2 0 9 = true := by decide +kernel
set_option maxRecDepth 100000 in
theorem sB_d : ((List.range 9).all (fun i => sB (3 + i) 0 255)) = true := by decide +kernel
/-- a new door -/
theorem dsS.add {l : List Int32} (h : dsS l) (hl : l.length = 2314) {w hh n c : Int32} (h0 : gNth l 0 = some w) (h1 : gNth l 1 = some hh) (h2 : gNth l 2 = some n) {nn : Nat} (hn : n.toInt = (nn : Int)) (n8 : nn ≤ 8) (c2 : c.toInt < w.toInt * hh.toInt) (hc : ∀ (i : Nat) y, (i : Int) < n.toInt → gNth l (3 + i) = some y → y ≠ c) {n2 : Int32} (e2 : n2.toInt = n.toInt + 1) : dsS (gPut (gPut l (3 + nn) c) 2 n2) := by
  obtain ⟨_, hd⟩ := h w hh n h0 h1 h2
  intro w' h' n' q0 q1 q2
  rw [nth_put, if_neg (by omega), nth_put, if_neg (by omega)] at q0 q1
  rw [nth_put, if_pos ⟨rfl, by rw [put_len]; omega⟩] at q2
  cases h0.symm.trans q0
  cases h1.symm.trans q1
  cases q2
  refine ⟨by omega, fun i j hi hj => ?_⟩
  have get : ∀ i : Nat, (i : Int) < n2.toInt → ∃ a : Int32, gNth (gPut (gPut l (3 + nn) c) 2 n2) (3 + i) = some a ∧ a.toInt < w.toInt * hh.toInt ∧ ((i = nn ∧ a = c) ∨ (i < nn ∧ gNth l (3 + i) = some a)) := by
    intro i hi
    by_cases hin : i = nn
    · subst hin
      exact ⟨c, by rw [nth_put, if_neg (by omega), nth_put, if_pos ⟨rfl, by omega⟩], c2, Or.inl ⟨rfl, rfl⟩⟩
    · obtain ⟨a, b, a1, b1, a2, _⟩ := hd i i (by omega) (by omega)
      exact ⟨a, by rw [nth_put, if_neg (by omega), nth_put, if_neg (by omega)]; exact a1, a2, Or.inr ⟨by omega, a1⟩⟩
  obtain ⟨a, a1, a2, a3⟩ := get i hi
  obtain ⟨b, b1, b2, b3⟩ := get j hj
  refine ⟨a, b, a1, b1, a2, fun hij => ?_⟩
  rcases a3 with ⟨rfl, rfl⟩ | ⟨a3, a4⟩
  · rcases b3 with ⟨rfl, rfl⟩ | ⟨b3, b4⟩
    · exact absurd rfl hij
    · exact fun e => hc j b (by omega) b4 e.symm
  · rcases b3 with ⟨rfl, rfl⟩ | ⟨b3, b4⟩
    · exact hc i a (by omega) a4
    · obtain ⟨x, y, x1, y1, _, xy⟩ := hd i j (by omega) (by omega)
      cases a4.symm.trans x1
      cases b4.symm.trans y1
      exact xy hij
def kX11_door : CN := (156, 2, [.inr 1900, .inl (.negSucc 2147483647, .ofNat 2147483647)], [], [(28, [])], [(11, 0), (1063, 0)], [(some (.inl (.negSucc 0, .ofNat 8)), [], [], [(28, [])], [])])
set_option maxRecDepth 100000 in
theorem mR_156 : (gNth mRs 156).map (fun q => q.2.2.2.1) = some 2 := by decide +kernel
theorem kX11_door_ok : cnOK sT sG FL0 kX11_door := by
  intro d M ws q hd hq ha hp hT
  have hm := mR_156
  have hq' : gNth mRs 156 = some q := hq
  rw [hq'] at hm
  have hm : q.2.2.2.1 = 2 := Option.some.inj hm
  obtain ⟨e, rfl⟩ : ∃ e, d = e + 2 := ⟨d - 2, by have : 2 ≤ d := hd; omega⟩
  rcases ws with _ | ⟨a, _ | ⟨b, _ | ⟨b2, r⟩⟩⟩
  · exact ha.elim
  · exact ha.2.elim
  · obtain ⟨k1, ⟨c, rfl, _, _⟩, _⟩ := ha
    have k1 : a = .ref 633 := k1
    subst k1
    obtain ⟨hv, hv0, hfl⟩ := hp
    obtain ⟨y28, z28, h28⟩ := hfl (28, []) (List.mem_cons_self ..)
    obtain ⟨vs, hM, hlen, hT1⟩ := hT.thr
    obtain ⟨M1, e1⟩ : ∃ M1, M1 = gPut M 633 (.inr (11, gPut vs 0 (.int 0))) := ⟨_, rfl⟩
    rw [← e1] at hT1
    have hF1 : Frm sT [(11, 0), (1063, 0)] M M1 := by rw [e1]; exact Frm.fld hM (by decide)
    have hF0 : Frm sT [(11, 0)] M M1 := by rw [e1]; exact Frm.fld hM (by decide)
    have h28 := dp0_frm 0 28 _ _ _ _ hF0 (by decide) h28
    obtain ⟨t2, l2, p1, p2, p3⟩ := fl0_28 h28
    obtain ⟨vs1, l, w, hh, m1, m2, m3, m4, m5, w1, w2, h1, h2⟩ := hT1.s_ref
    obtain ⟨vs1', l', m1', _, m3', sl⟩ := hT1.s_all
    have el : l' = l := by cases m3.symm.trans m3'; rfl
    subst el
    have el : l2 = l' := by cases p1.symm.trans m3; rfl
    subst el
    have none_ : (∀ v M', Ev none (e + 2) 156 40 [some (.ref 633), some (.int c)] [] M1 v M' 0 0 → Ev none (e + 2) 156 0 (gPad 2 (gArgs [.ref 633, .int c])) [] M v M' 0 0) → ∃ v M', Ev none (e + 2) kX11_door.1 0 (gPad 2 (gArgs [.ref 633, .int c])) [] M v M' 0 0 ∧ TM sT sG M' ∧ Frm sT kX11_door.2.2.2.2.2.1 M M' ∧ ∃ s ∈ kX11_door.2.2.2.2.2.2, csOK sT FL0 [.ref 633, .int c] v M' s ∧ dlOK kX11_door.1 M M' := by
      intro h
      refine ⟨some (.int (-1)), M1, h _ _ dr_40, hT1, hF1, _, List.mem_cons_self .., ⟨⟨-1, rfl, by decide, by decide⟩, fun q hq => (by cases hq), [], trivial, fun f hf => ?_, fun q hq => (by cases hq)⟩, cn_D rfl⟩
      cases List.mem_singleton.mp hf
      exact ⟨[], trivial, h28⟩
    rw [hm]
    have g0 : gNth l2 0 = some w := m4
    have g1 : gNth l2 1 = some hh := m5
    obtain ⟨n, n1, n2⟩ := at_c (l := l2) (j := 2) (kn := 2) rfl (by omega)
    obtain ⟨n0, n9⟩ := hT1.s_in m3 sB_2 n2
    by_cases hn9 : n = 9
    · exact none_ (fun v M' h => dr_0 hM hlen (by rw [← e1]; exact dr_5 m1 m2 m3 n1 (by rw [if_pos hn9]; exact h)))
    have n8 : n.toInt ≤ 8 := by
      rcases Int.lt_or_le n.toInt 9 with h | h
      · omega
      · exact absurd (Int32.toInt_inj.mp (show n.toInt = (9 : Int32).toInt from by show n.toInt = 9; omega)) hn9
    have cc := ev_isCell (e := e) (c := c) m1 m2 m3 m4 m5
    rcases isin_01 c 0 (w * hh - 1) with hz | ⟨c0, c9, hz⟩
    · rw [hz] at cc
      exact none_ (fun v M' h => dr_0 hM hlen (by rw [← e1]; exact dr_5 m1 m2 m3 n1 (by rw [if_neg hn9]; exact dr_16 (Ev.call0 (fun n => gs_7 rfl rfl (cal_ic m1 rfl)) cc (dr_21 (by rw [if_pos rfl]; exact h))))))
    rw [hz] at cc
    rw [Int32.le_iff_toInt_le] at c0 c9
    have o0 : (0 : Int32).toInt = 0 := rfl
    have b1 : w.toInt * hh.toInt ≤ 256 := by
      have := Int.mul_le_mul w2 h2 (by omega) (by omega)
      omega
    have b0 : 16 ≤ w.toInt * hh.toInt := by
      have := Int.mul_le_mul w1 h1 (by omega) (by omega)
      omega
    have wh : (w * hh).toInt = w.toInt * hh.toInt := i32_mul (by omega) (by omega)
    have wh1 : (w * hh - 1).toInt = w.toInt * hh.toInt - 1 := by rw [i32_m1 (by omega), wh]
    obtain ⟨kc, hkc⟩ := cell_k hT1 sl (c := c) (by omega) (by omega)
    have bb := ev_bears (e := e) m1 m2 m3 hkc
    obtain ⟨z, ez⟩ : ∃ z : Int32, z = if kc = 3 then 0 else if kc = 6 then 0 else 1 := ⟨_, rfl⟩
    rw [← ez] at bb
    by_cases hz0 : z = 0
    · exact none_ (fun v M' h => dr_0 hM hlen (by rw [← e1]; exact dr_5 m1 m2 m3 n1 (by rw [if_neg hn9]; exact dr_16 (Ev.call0 (fun n => gs_7 rfl rfl (cal_ic m1 rfl)) cc (dr_21 (by rw [if_neg (by decide)]; exact dr_24 (Ev.call0 (fun n => gs_7 rfl rfl (cal_be m1 rfl)) bb (dr_29 (by rw [if_pos hz0]; exact h)))))))))
    obtain ⟨r, dd, hr⟩ := ev_isDoorAt (e := e + 1) (c := c) m1 m2 m3 sl n1 n0 n9
    by_cases hr0 : ¬ r = 0
    · exact none_ (fun v M' h => dr_0 hM hlen (by rw [← e1]; exact dr_5 m1 m2 m3 n1 (by rw [if_neg hn9]; exact dr_16 (Ev.call0 (fun n => gs_7 rfl rfl (cal_ic m1 rfl)) cc (dr_21 (by rw [if_neg (by decide)]; exact dr_24 (Ev.call0 (fun n => gs_7 rfl rfl (cal_be m1 rfl)) bb (dr_29 (by rw [if_neg hz0]; exact dr_32 (Ev.call0 (fun n => gs_7 rfl rfl (cal_da m1 rfl)) dd (dr_37 (by rw [if_neg hr0]; exact h))))))))))))
    have hr0 : r = 0 := Decidable.not_not.mp hr0
    obtain ⟨nn, hnn⟩ : ∃ nn : Nat, n.toInt = (nn : Int) := ⟨n.toInt.toNat, by omega⟩
    have o3 : (3 : Int32).toInt = 3 := rfl
    have e3 : (3 + n).toInt = ((3 + nn : Nat) : Int) := by
      rw [i32_add (by rw [o3]; omega) (by rw [o3]; omega), o3]
      omega
    obtain ⟨y, y1, y2⟩ := at_c (l := l2) e3 (by omega)
    obtain ⟨n2', en2⟩ : ∃ n2', n2' = n + 1 := ⟨_, rfl⟩
    have dn2 : n2'.toInt = n.toInt + 1 := by rw [en2]; exact i32_p1 (by omega)
    have hB3 := List.all_eq_true.mp sB_d nn (List.mem_range.mpr (by omega))
    have hT2 := hT1.s_1 m3 hB3 (y := c) (by omega) (by omega)
    have m3b : gNth (gPut M1 635 (.inl (1, .inl (gPut l2 (3 + nn) c)))) 635 = some (.inl (1, .inl (gPut l2 (3 + nn) c))) := by
      rw [nth_put, if_pos ⟨rfl, gNth_lt _ _ _ m3⟩]
    have hT3 := hT2.s_1 m3b sB_2 (y := n2') (by omega) (by omega)
    have m3c : gNth (gPut (gPut M1 635 (.inl (1, .inl (gPut l2 (3 + nn) c)))) 635 (.inl (1, .inl (gPut (gPut l2 (3 + nn) c) 2 n2')))) 635 = some (.inl (1, .inl (gPut (gPut l2 (3 + nn) c) 2 n2'))) := by
      rw [nth_put, if_pos ⟨rfl, gNth_lt _ _ _ m3b⟩]
    have hMb : ∀ {x : AE}, gNth (gPut M1 635 x) 633 = some (.inr (11, vs1)) := fun {x} => by rw [nth_put, if_neg (fun q => absurd q.1 (by decide))]; exact m1
    have hMc : ∀ {x y : AE}, gNth (gPut (gPut M1 635 x) 635 y) 633 = some (.inr (11, vs1)) := fun {x y} => by rw [nth_put, if_neg (fun q => absurd q.1 (by decide))]; exact hMb
    have n1b : gAt (gPut l2 (3 + nn) c) 2 = some n := by
      rw [at_nn (kn := 2) rfl, nth_put, if_neg (by omega)]
      exact n2
    have n1c : gAt (gPut (gPut l2 (3 + nn) c) 2 n2') 2 = some n2' := by
      rw [at_nn (kn := 2) rfl, nth_put, if_pos ⟨rfl, by rw [put_len]; omega⟩]
    have d3 : (n2' - 1).toInt = n.toInt := by rw [i32_m1 (by omega), dn2]; omega
    refine ⟨some (.int (n2' - 1)), _, dr_0 hM hlen (by rw [← e1]; exact dr_5 m1 m2 m3 n1 (by rw [if_neg hn9]; exact dr_16 (Ev.call0 (fun n => gs_7 rfl rfl (cal_ic m1 rfl)) cc (dr_21 (by rw [if_neg (by decide)]; exact dr_24 (Ev.call0 (fun n => gs_7 rfl rfl (cal_be m1 rfl)) bb (dr_29 (by rw [if_neg hz0]; exact dr_32 (Ev.call0 (fun n => gs_7 rfl rfl (cal_da m1 rfl)) dd (dr_37 (by rw [if_pos hr0]; exact dr_42 m1 m2 m3 n1 y1 (by
      rw [cl_n e3]
      refine dr_56 hMb m2 m3b n1b ?_
      rw [← en2, cl_n (kn := 2) rfl]
      exact dr_66 hMc m2 m3c n1c)))))))))))), hT3, (hF1.trans (Frm.row m3 sT_635 (by decide))).trans (Frm.row m3b sT_635 (by decide)), _, List.mem_cons_self .., ⟨⟨_, rfl, by show (-1 : Int) ≤ _; omega, by show _ ≤ (8 : Int); omega⟩, fun q hq => (by cases hq), [], trivial, fun f hf => ?_, fun q hq => (by cases hq)⟩, cn_D rfl⟩
    cases List.mem_singleton.mp hf
    exact ⟨[], trivial, (show FL0 28 [] _ from ⟨1, _, m3c, (p2.put (Or.inl (by omega))).put (Or.inl (by omega)), p3.add sl g0 g1 n2 hnn (by omega) (by omega) (hr hr0) dn2⟩)⟩
  · exact ha.2.2.elim
/-! BY HAND: shortest of the reference -/
theorem iw_0 {e : Nat} {M : Mem} {M' : Mem} {v : Option Value} {c : Int32}  (hz : Ev none (e + 1) 150 3 [some (.ref 633), some (.int c)] [.int 3, .int c, .ref 633] M v M' 0 0) : Ev none (e + 1) 150 0 [some (.ref 633), some (.int c)] [] M v M' 0 0 := by
  refine Ev.step (pc' := 3) (ls' := [some (.ref 633), some (.int c)]) (st' := [.int 3, .int c, .ref 633]) (M1 := M) 3 (fun n => rfl) ?_
  exact hz
theorem iw_6 {e : Nat} {M : Mem} {M' : Mem} {v : Option Value} {vs : List Value} {c f28 z : Int32} (hM : gNth M 633 = some (.inr (11, vs))) (v28 : gNth vs 28 = some (.int f28)) (hz : Ev none (e + 1) 150 (if z < f28 then 17 else 13) [some (.ref 633), some (.int c)] [] M v M' 0 0) : Ev none (e + 1) 150 6 [some (.ref 633), some (.int c)] [.int z] M v M' 0 0 := by
  refine Ev.step (pc' := 7) (ls' := [some (.ref 633), some (.int c)]) (st' := [.ref 633, .int z]) (M1 := M) 1 (fun n => rfl) ?_
  refine Ev.step 1 (gs_3 rfl rfl (gf_g rfl hM v28)) ?_
  refine Ev.step (pc' := (if z < f28 then 17 else 13)) (ls' := [some (.ref 633), some (.int c)]) (st' := []) (M1 := M) 1 (fun n => rfl) ?_
  exact hz
theorem iw_13 {e : Nat} {M : Mem} {c : Int32}  : Ev none (e + 1) 150 13 [some (.ref 633), some (.int c)] [] M (some (.int 1)) M 0 0 := by
  refine Ev.step (pc' := 18) (ls' := [some (.ref 633), some (.int c)]) (st' := [.int 1]) (M1 := M) 2 (fun n => rfl) ?_
  exact Ev.ret (fun n => rfl)
theorem iw_17 {e : Nat} {M : Mem} {c : Int32}  : Ev none (e + 1) 150 17 [some (.ref 633), some (.int c)] [] M (some (.int 0)) M 0 0 := by
  refine Ev.step (pc' := 18) (ls' := [some (.ref 633), some (.int c)]) (st' := [.int 0]) (M1 := M) 1 (fun n => rfl) ?_
  exact Ev.ret (fun n => rfl)
theorem sho_0 {e : Nat} {M : Mem} {M' : Mem} {v : Option Value} {a b f : Int32}  (hz : Ev none (e + 3) 227 3 [some (.ref 633), some (.int a), some (.int b), some (.int f), some (.int 0), none, none, none, none] [] M v M' 0 0) : Ev none (e + 3) 227 0 [some (.ref 633), some (.int a), some (.int b), some (.int f), none, none, none, none, none] [] M v M' 0 0 := by
  refine Ev.step (pc' := 3) (ls' := [some (.ref 633), some (.int a), some (.int b), some (.int f), some (.int 0), none, none, none, none]) (st' := []) (M1 := M) 2 (fun n => rfl) ?_
  exact hz
theorem sh_3 {e : Nat} {M : Mem} {M' : Mem} {v : Option Value} {a b c f : Int32} {x5 x6 x7 x8 : Option Value}  (hz : Ev none (e + 3) 227 6 [some (.ref 633), some (.int a), some (.int b), some (.int f), some (.int c), x5, x6, x7, x8] [.ref 633, .int c] M v M' 0 0) : Ev none (e + 3) 227 3 [some (.ref 633), some (.int a), some (.int b), some (.int f), some (.int c), x5, x6, x7, x8] [] M v M' 0 0 := by
  refine Ev.step (pc' := 6) (ls' := [some (.ref 633), some (.int a), some (.int b), some (.int f), some (.int c), x5, x6, x7, x8]) (st' := [.ref 633, .int c]) (M1 := M) 2 (fun n => rfl) ?_
  exact hz
theorem sh_9 {e : Nat} {M : Mem} {M' : Mem} {v : Option Value} {a b c f z : Int32} {x5 x6 x7 x8 : Option Value}  (hz : Ev none (e + 3) 227 (if z ≤ c then 28 else 12) [some (.ref 633), some (.int a), some (.int b), some (.int f), some (.int c), x5, x6, x7, x8] [] M v M' 0 0) : Ev none (e + 3) 227 9 [some (.ref 633), some (.int a), some (.int b), some (.int f), some (.int c), x5, x6, x7, x8] [.int z, .int c] M v M' 0 0 := by
  refine Ev.step (pc' := (if z ≤ c then 28 else 12)) (ls' := [some (.ref 633), some (.int a), some (.int b), some (.int f), some (.int c), x5, x6, x7, x8]) (st' := []) (M1 := M) 1 (fun n => rfl) ?_
  exact hz
theorem sh_12 {e : Nat} {M : Mem} {M' : Mem} {v : Option Value} {vs : List Value} {a b c f y1 : Int32} {l655 : List Int32} {x5 x6 x7 x8 : Option Value} (hM : gNth M 633 = some (.inr (11, vs))) (v48 : gNth vs 48 = some (.ref 655)) (r655 : gNth M 655 = some (.inl (1, .inl l655))) (g1 : gAt l655 c = some y1) (hz : Ev none (e + 3) 227 3 [some (.ref 633), some (.int a), some (.int b), some (.int f), some (.int (c + 1)), x5, x6, x7, x8] [] (gPut M 655 (.inl (1, .inl (gPut l655 c.toNatClampNeg 10000000)))) v M' 0 0) : Ev none (e + 3) 227 12 [some (.ref 633), some (.int a), some (.int b), some (.int f), some (.int c), x5, x6, x7, x8] [] M v M' 0 0 := by
  refine Ev.step (pc' := 13) (ls' := [some (.ref 633), some (.int a), some (.int b), some (.int f), some (.int c), x5, x6, x7, x8]) (st' := [.ref 633]) (M1 := M) 1 (fun n => rfl) ?_
  refine Ev.step 1 (gs_3 rfl rfl (gf_g rfl hM v48)) ?_
  refine Ev.step (pc' := 21) (ls' := [some (.ref 633), some (.int a), some (.int b), some (.int f), some (.int c), x5, x6, x7, x8]) (st' := [.int 10000000, .int c, .ref 655]) (M1 := M) 2 (fun n => rfl) ?_
  refine Ev.step 1 (gs_4 rfl rfl (is_g r655 g1)) ?_
  refine Ev.step (pc' := 3) (ls' := [some (.ref 633), some (.int a), some (.int b), some (.int f), some (.int (c + 1)), x5, x6, x7, x8]) (st' := []) (M1 := (gPut M 655 (.inl (1, .inl (gPut l655 c.toNatClampNeg 10000000))))) 2 (fun n => rfl) ?_
  exact hz
theorem sh_28 {e : Nat} {M : Mem} {M' : Mem} {v : Option Value} {vs : List Value} {a b c f y1 : Int32} {l655 : List Int32} {x5 x6 x7 x8 : Option Value} (hM : gNth M 633 = some (.inr (11, vs))) (v48 : gNth vs 48 = some (.ref 655)) (r655 : gNth M 655 = some (.inl (1, .inl l655))) (g1 : gAt l655 a = some y1) (hz : Ev none (e + 3) 227 38 [some (.ref 633), some (.int a), some (.int b), some (.int f), some (.int 1), x5, x6, x7, x8] [] (gPut M 655 (.inl (1, .inl (gPut l655 a.toNatClampNeg 0)))) v M' 0 0) : Ev none (e + 3) 227 28 [some (.ref 633), some (.int a), some (.int b), some (.int f), some (.int c), x5, x6, x7, x8] [] M v M' 0 0 := by
  refine Ev.step (pc' := 29) (ls' := [some (.ref 633), some (.int a), some (.int b), some (.int f), some (.int c), x5, x6, x7, x8]) (st' := [.ref 633]) (M1 := M) 1 (fun n => rfl) ?_
  refine Ev.step 1 (gs_3 rfl rfl (gf_g rfl hM v48)) ?_
  refine Ev.step (pc' := 34) (ls' := [some (.ref 633), some (.int a), some (.int b), some (.int f), some (.int c), x5, x6, x7, x8]) (st' := [.int 0, .int a, .ref 655]) (M1 := M) 2 (fun n => rfl) ?_
  refine Ev.step 1 (gs_4 rfl rfl (is_g r655 g1)) ?_
  refine Ev.step (pc' := 38) (ls' := [some (.ref 633), some (.int a), some (.int b), some (.int f), some (.int 1), x5, x6, x7, x8]) (st' := []) (M1 := (gPut M 655 (.inl (1, .inl (gPut l655 a.toNatClampNeg 0))))) 2 (fun n => rfl) ?_
  exact hz
theorem sh_38 {e : Nat} {M : Mem} {M' : Mem} {v : Option Value} {a b f mo : Int32} {x5 x6 x7 x8 : Option Value}  (hz : Ev none (e + 3) 227 (if mo = 0 then 201 else 43) [some (.ref 633), some (.int a), some (.int b), some (.int f), some (.int mo), x5, x6, x7, x8] [] M v M' 0 0) : Ev none (e + 3) 227 38 [some (.ref 633), some (.int a), some (.int b), some (.int f), some (.int mo), x5, x6, x7, x8] [] M v M' 0 0 := by
  refine Ev.step (pc' := (if mo = 0 then 201 else 43)) (ls' := [some (.ref 633), some (.int a), some (.int b), some (.int f), some (.int mo), x5, x6, x7, x8]) (st' := []) (M1 := M) 2 (fun n => rfl) ?_
  exact hz
theorem sh_201 {e : Nat} {M : Mem} {vs : List Value} {a b f mo y1 : Int32} {l655 : List Int32} {x5 x6 x7 x8 : Option Value} (hM : gNth M 633 = some (.inr (11, vs))) (v48 : gNth vs 48 = some (.ref 655)) (r655 : gNth M 655 = some (.inl (1, .inl l655))) (g1 : gAt l655 b = some y1) : Ev none (e + 3) 227 201 [some (.ref 633), some (.int a), some (.int b), some (.int f), some (.int mo), x5, x6, x7, x8] [] M (some (.int y1)) M 0 0 := by
  refine Ev.step (pc' := 202) (ls' := [some (.ref 633), some (.int a), some (.int b), some (.int f), some (.int mo), x5, x6, x7, x8]) (st' := [.ref 633]) (M1 := M) 1 (fun n => rfl) ?_
  refine Ev.step 1 (gs_3 rfl rfl (gf_g rfl hM v48)) ?_
  refine Ev.step (pc' := 206) (ls' := [some (.ref 633), some (.int a), some (.int b), some (.int f), some (.int mo), x5, x6, x7, x8]) (st' := [.int b, .ref 655]) (M1 := M) 1 (fun n => rfl) ?_
  refine Ev.step 1 (gs_3 rfl rfl (ia_g r655 g1)) ?_
  exact Ev.ret (fun n => rfl)
theorem sh_43 {e : Nat} {M : Mem} {M' : Mem} {v : Option Value} {a b f mo : Int32} {x5 x6 x7 x8 : Option Value}  (hz : Ev none (e + 3) 227 49 [some (.ref 633), some (.int a), some (.int b), some (.int f), some (.int 0), some (.int 0), x6, x7, x8] [] M v M' 0 0) : Ev none (e + 3) 227 43 [some (.ref 633), some (.int a), some (.int b), some (.int f), some (.int mo), x5, x6, x7, x8] [] M v M' 0 0 := by
  refine Ev.step (pc' := 49) (ls' := [some (.ref 633), some (.int a), some (.int b), some (.int f), some (.int 0), some (.int 0), x6, x7, x8]) (st' := []) (M1 := M) 4 (fun n => rfl) ?_
  exact hz
theorem sh_49 {e : Nat} {M : Mem} {M' : Mem} {v : Option Value} {a b c f mo : Int32} {x6 x7 x8 : Option Value}  (hz : Ev none (e + 3) 227 52 [some (.ref 633), some (.int a), some (.int b), some (.int f), some (.int mo), some (.int c), x6, x7, x8] [.ref 633, .int c] M v M' 0 0) : Ev none (e + 3) 227 49 [some (.ref 633), some (.int a), some (.int b), some (.int f), some (.int mo), some (.int c), x6, x7, x8] [] M v M' 0 0 := by
  refine Ev.step (pc' := 52) (ls' := [some (.ref 633), some (.int a), some (.int b), some (.int f), some (.int mo), some (.int c), x6, x7, x8]) (st' := [.ref 633, .int c]) (M1 := M) 2 (fun n => rfl) ?_
  exact hz
theorem sh_55 {e : Nat} {M : Mem} {M' : Mem} {v : Option Value} {a b c f mo z : Int32} {x6 x7 x8 : Option Value}  (hz : Ev none (e + 3) 227 (if z ≤ c then 198 else 58) [some (.ref 633), some (.int a), some (.int b), some (.int f), some (.int mo), some (.int c), x6, x7, x8] [] M v M' 0 0) : Ev none (e + 3) 227 55 [some (.ref 633), some (.int a), some (.int b), some (.int f), some (.int mo), some (.int c), x6, x7, x8] [.int z, .int c] M v M' 0 0 := by
  refine Ev.step (pc' := (if z ≤ c then 198 else 58)) (ls' := [some (.ref 633), some (.int a), some (.int b), some (.int f), some (.int mo), some (.int c), x6, x7, x8]) (st' := []) (M1 := M) 1 (fun n => rfl) ?_
  exact hz
theorem sh_198 {e : Nat} {M : Mem} {M' : Mem} {v : Option Value} {a b c f mo : Int32} {x6 x7 x8 : Option Value}  (hz : Ev none (e + 3) 227 38 [some (.ref 633), some (.int a), some (.int b), some (.int f), some (.int mo), some (.int c), x6, x7, x8] [] M v M' 0 0) : Ev none (e + 3) 227 198 [some (.ref 633), some (.int a), some (.int b), some (.int f), some (.int mo), some (.int c), x6, x7, x8] [] M v M' 0 0 := by
  refine Ev.step (pc' := 38) (ls' := [some (.ref 633), some (.int a), some (.int b), some (.int f), some (.int mo), some (.int c), x6, x7, x8]) (st' := []) (M1 := M) 1 (fun n => rfl) ?_
  exact hz
theorem sh_58 {e : Nat} {M : Mem} {M' : Mem} {v : Option Value} {a b c f mo : Int32} {x6 x7 x8 : Option Value}  (hz : Ev none (e + 3) 227 61 [some (.ref 633), some (.int a), some (.int b), some (.int f), some (.int mo), some (.int c), x6, x7, x8] [.int c, .ref 633] M v M' 0 0) : Ev none (e + 3) 227 58 [some (.ref 633), some (.int a), some (.int b), some (.int f), some (.int mo), some (.int c), x6, x7, x8] [] M v M' 0 0 := by
  refine Ev.step (pc' := 61) (ls' := [some (.ref 633), some (.int a), some (.int b), some (.int f), some (.int mo), some (.int c), x6, x7, x8]) (st' := [.int c, .ref 633]) (M1 := M) 2 (fun n => rfl) ?_
  exact hz
theorem sh_64 {e : Nat} {M : Mem} {M' : Mem} {v : Option Value} {a b c f mo z : Int32} {x6 x7 x8 : Option Value}  (hz : Ev none (e + 3) 227 (if z = 0 then 192 else 67) [some (.ref 633), some (.int a), some (.int b), some (.int f), some (.int mo), some (.int c), x6, x7, x8] [] M v M' 0 0) : Ev none (e + 3) 227 64 [some (.ref 633), some (.int a), some (.int b), some (.int f), some (.int mo), some (.int c), x6, x7, x8] [.int z] M v M' 0 0 := by
  refine Ev.step (pc' := (if z = 0 then 192 else 67)) (ls' := [some (.ref 633), some (.int a), some (.int b), some (.int f), some (.int mo), some (.int c), x6, x7, x8]) (st' := []) (M1 := M) 1 (fun n => rfl) ?_
  exact hz
theorem sh_67 {e : Nat} {M : Mem} {M' : Mem} {v : Option Value} {a b c f mo : Int32} {x6 x7 x8 : Option Value}  (hz : Ev none (e + 3) 227 (if f = 0 then 104 else 71) [some (.ref 633), some (.int a), some (.int b), some (.int f), some (.int mo), some (.int c), x6, x7, x8] [] M v M' 0 0) : Ev none (e + 3) 227 67 [some (.ref 633), some (.int a), some (.int b), some (.int f), some (.int mo), some (.int c), x6, x7, x8] [] M v M' 0 0 := by
  refine Ev.step (pc' := (if f = 0 then 104 else 71)) (ls' := [some (.ref 633), some (.int a), some (.int b), some (.int f), some (.int mo), some (.int c), x6, x7, x8]) (st' := []) (M1 := M) 2 (fun n => rfl) ?_
  exact hz
theorem sh_71 {e : Nat} {M : Mem} {M' : Mem} {v : Option Value} {a b c f mo : Int32} {x6 x7 x8 : Option Value}  (hz : Ev none (e + 3) 227 (if c = a then 104 else 77) [some (.ref 633), some (.int a), some (.int b), some (.int f), some (.int mo), some (.int c), x6, x7, x8] [] M v M' 0 0) : Ev none (e + 3) 227 71 [some (.ref 633), some (.int a), some (.int b), some (.int f), some (.int mo), some (.int c), x6, x7, x8] [] M v M' 0 0 := by
  refine Ev.step (pc' := (if c = a then 104 else 77)) (ls' := [some (.ref 633), some (.int a), some (.int b), some (.int f), some (.int mo), some (.int c), x6, x7, x8]) (st' := []) (M1 := M) 3 (fun n => rfl) ?_
  exact hz
theorem sh_77 {e : Nat} {M : Mem} {M' : Mem} {v : Option Value} {a b c f mo : Int32} {x6 x7 x8 : Option Value}  (hz : Ev none (e + 3) 227 (if c = b then 104 else 83) [some (.ref 633), some (.int a), some (.int b), some (.int f), some (.int mo), some (.int c), x6, x7, x8] [] M v M' 0 0) : Ev none (e + 3) 227 77 [some (.ref 633), some (.int a), some (.int b), some (.int f), some (.int mo), some (.int c), x6, x7, x8] [] M v M' 0 0 := by
  refine Ev.step (pc' := (if c = b then 104 else 83)) (ls' := [some (.ref 633), some (.int a), some (.int b), some (.int f), some (.int mo), some (.int c), x6, x7, x8]) (st' := []) (M1 := M) 3 (fun n => rfl) ?_
  exact hz
theorem sh_83 {e : Nat} {M : Mem} {M' : Mem} {v : Option Value} {a b c f mo : Int32} {x6 x7 x8 : Option Value}  (hz : Ev none (e + 3) 227 86 [some (.ref 633), some (.int a), some (.int b), some (.int f), some (.int mo), some (.int c), x6, x7, x8] [.int c, .ref 633] M v M' 0 0) : Ev none (e + 3) 227 83 [some (.ref 633), some (.int a), some (.int b), some (.int f), some (.int mo), some (.int c), x6, x7, x8] [] M v M' 0 0 := by
  refine Ev.step (pc' := 86) (ls' := [some (.ref 633), some (.int a), some (.int b), some (.int f), some (.int mo), some (.int c), x6, x7, x8]) (st' := [.int c, .ref 633]) (M1 := M) 2 (fun n => rfl) ?_
  exact hz
theorem sh_89 {e : Nat} {M : Mem} {M' : Mem} {v : Option Value} {a b c f mo z : Int32} {x6 x7 x8 : Option Value}  (hz : Ev none (e + 3) 227 (if z = 0 then 104 else 92) [some (.ref 633), some (.int a), some (.int b), some (.int f), some (.int mo), some (.int c), x6, x7, x8] [] M v M' 0 0) : Ev none (e + 3) 227 89 [some (.ref 633), some (.int a), some (.int b), some (.int f), some (.int mo), some (.int c), x6, x7, x8] [.int z] M v M' 0 0 := by
  refine Ev.step (pc' := (if z = 0 then 104 else 92)) (ls' := [some (.ref 633), some (.int a), some (.int b), some (.int f), some (.int mo), some (.int c), x6, x7, x8]) (st' := []) (M1 := M) 1 (fun n => rfl) ?_
  exact hz
theorem sh_92 {e : Nat} {M : Mem} {M' : Mem} {v : Option Value} {a b c f mo : Int32} {x6 x7 x8 : Option Value}  (hz : Ev none (e + 3) 227 95 [some (.ref 633), some (.int a), some (.int b), some (.int f), some (.int mo), some (.int c), x6, x7, x8] [.int c, .ref 633] M v M' 0 0) : Ev none (e + 3) 227 92 [some (.ref 633), some (.int a), some (.int b), some (.int f), some (.int mo), some (.int c), x6, x7, x8] [] M v M' 0 0 := by
  refine Ev.step (pc' := 95) (ls' := [some (.ref 633), some (.int a), some (.int b), some (.int f), some (.int mo), some (.int c), x6, x7, x8]) (st' := [.int c, .ref 633]) (M1 := M) 2 (fun n => rfl) ?_
  exact hz
theorem sh_98 {e : Nat} {M : Mem} {M' : Mem} {v : Option Value} {a b c f mo z : Int32} {x6 x7 x8 : Option Value}  (hz : Ev none (e + 3) 227 (if z = 0 then 101 else 104) [some (.ref 633), some (.int a), some (.int b), some (.int f), some (.int mo), some (.int c), x6, x7, x8] [] M v M' 0 0) : Ev none (e + 3) 227 98 [some (.ref 633), some (.int a), some (.int b), some (.int f), some (.int mo), some (.int c), x6, x7, x8] [.int z] M v M' 0 0 := by
  refine Ev.step (pc' := (if z = 0 then 101 else 104)) (ls' := [some (.ref 633), some (.int a), some (.int b), some (.int f), some (.int mo), some (.int c), x6, x7, x8]) (st' := []) (M1 := M) 1 (fun n => rfl) ?_
  exact hz
theorem sh_101 {e : Nat} {M : Mem} {M' : Mem} {v : Option Value} {a b c f mo : Int32} {x6 x7 x8 : Option Value}  (hz : Ev none (e + 3) 227 192 [some (.ref 633), some (.int a), some (.int b), some (.int f), some (.int mo), some (.int c), x6, x7, x8] [] M v M' 0 0) : Ev none (e + 3) 227 101 [some (.ref 633), some (.int a), some (.int b), some (.int f), some (.int mo), some (.int c), x6, x7, x8] [] M v M' 0 0 := by
  refine Ev.step (pc' := 192) (ls' := [some (.ref 633), some (.int a), some (.int b), some (.int f), some (.int mo), some (.int c), x6, x7, x8]) (st' := []) (M1 := M) 1 (fun n => rfl) ?_
  exact hz
theorem sh_104 {e : Nat} {M : Mem} {M' : Mem} {v : Option Value} {a b c f mo : Int32} {x6 x7 x8 : Option Value}  (hz : Ev none (e + 3) 227 107 [some (.ref 633), some (.int a), some (.int b), some (.int f), some (.int mo), some (.int c), some (.int 0), x7, x8] [] M v M' 0 0) : Ev none (e + 3) 227 104 [some (.ref 633), some (.int a), some (.int b), some (.int f), some (.int mo), some (.int c), x6, x7, x8] [] M v M' 0 0 := by
  refine Ev.step (pc' := 107) (ls' := [some (.ref 633), some (.int a), some (.int b), some (.int f), some (.int mo), some (.int c), some (.int 0), x7, x8]) (st' := []) (M1 := M) 2 (fun n => rfl) ?_
  exact hz
theorem sh_107 {e : Nat} {M : Mem} {M' : Mem} {v : Option Value} {a b c d f mo : Int32} {x7 x8 : Option Value}  (hz : Ev none (e + 3) 227 (if 8 ≤ d then 192 else 114) [some (.ref 633), some (.int a), some (.int b), some (.int f), some (.int mo), some (.int c), some (.int d), x7, x8] [] M v M' 0 0) : Ev none (e + 3) 227 107 [some (.ref 633), some (.int a), some (.int b), some (.int f), some (.int mo), some (.int c), some (.int d), x7, x8] [] M v M' 0 0 := by
  refine Ev.step (pc' := (if 8 ≤ d then 192 else 114)) (ls' := [some (.ref 633), some (.int a), some (.int b), some (.int f), some (.int mo), some (.int c), some (.int d), x7, x8]) (st' := []) (M1 := M) 3 (fun n => rfl) ?_
  exact hz
theorem sh_192 {e : Nat} {M : Mem} {M' : Mem} {v : Option Value} {a b c f mo : Int32} {x6 x7 x8 : Option Value}  (hz : Ev none (e + 3) 227 49 [some (.ref 633), some (.int a), some (.int b), some (.int f), some (.int mo), some (.int (c + 1)), x6, x7, x8] [] M v M' 0 0) : Ev none (e + 3) 227 192 [some (.ref 633), some (.int a), some (.int b), some (.int f), some (.int mo), some (.int c), x6, x7, x8] [] M v M' 0 0 := by
  refine Ev.step (pc' := 49) (ls' := [some (.ref 633), some (.int a), some (.int b), some (.int f), some (.int mo), some (.int (c + 1)), x6, x7, x8]) (st' := []) (M1 := M) 2 (fun n => rfl) ?_
  exact hz
theorem sh_114 {e : Nat} {M : Mem} {M' : Mem} {v : Option Value} {a b c d f mo : Int32} {x7 x8 : Option Value}  (hz : Ev none (e + 3) 227 119 [some (.ref 633), some (.int a), some (.int b), some (.int f), some (.int mo), some (.int c), some (.int d), x7, x8] [.int d, .int c, .ref 633] M v M' 0 0) : Ev none (e + 3) 227 114 [some (.ref 633), some (.int a), some (.int b), some (.int f), some (.int mo), some (.int c), some (.int d), x7, x8] [] M v M' 0 0 := by
  refine Ev.step (pc' := 119) (ls' := [some (.ref 633), some (.int a), some (.int b), some (.int f), some (.int mo), some (.int c), some (.int d), x7, x8]) (st' := [.int d, .int c, .ref 633]) (M1 := M) 3 (fun n => rfl) ?_
  exact hz
theorem sh_122 {e : Nat} {M : Mem} {M' : Mem} {v : Option Value} {a b c d f mo z : Int32} {x7 x8 : Option Value}  (hz : Ev none (e + 3) 227 (if 0 ≤ z then 135 else 129) [some (.ref 633), some (.int a), some (.int b), some (.int f), some (.int mo), some (.int c), some (.int d), some (.int z), x8] [] M v M' 0 0) : Ev none (e + 3) 227 122 [some (.ref 633), some (.int a), some (.int b), some (.int f), some (.int mo), some (.int c), some (.int d), x7, x8] [.int z] M v M' 0 0 := by
  refine Ev.step (pc' := (if 0 ≤ z then 135 else 129)) (ls' := [some (.ref 633), some (.int a), some (.int b), some (.int f), some (.int mo), some (.int c), some (.int d), some (.int z), x8]) (st' := []) (M1 := M) 3 (fun n => rfl) ?_
  exact hz
theorem sh_129 {e : Nat} {M : Mem} {M' : Mem} {v : Option Value} {a b c d f mo o : Int32} {x8 : Option Value}  (hz : Ev none (e + 3) 227 157 [some (.ref 633), some (.int a), some (.int b), some (.int f), some (.int mo), some (.int c), some (.int d), some (.int o), x8] [.int 10000000] M v M' 0 0) : Ev none (e + 3) 227 129 [some (.ref 633), some (.int a), some (.int b), some (.int f), some (.int mo), some (.int c), some (.int d), some (.int o), x8] [] M v M' 0 0 := by
  refine Ev.step (pc' := 157) (ls' := [some (.ref 633), some (.int a), some (.int b), some (.int f), some (.int mo), some (.int c), some (.int d), some (.int o), x8]) (st' := [.int 10000000]) (M1 := M) 2 (fun n => rfl) ?_
  exact hz
theorem sh_135 {e : Nat} {M : Mem} {M' : Mem} {v : Option Value} {vs : List Value} {a b c d f mo o y1 : Int32} {l655 : List Int32} {x8 : Option Value} (hM : gNth M 633 = some (.inr (11, vs))) (v48 : gNth vs 48 = some (.ref 655)) (r655 : gNth M 655 = some (.inl (1, .inl l655))) (g1 : gAt l655 o = some y1) (hz : Ev none (e + 3) 227 (if (d - d / 2 * 2) = 0 then 149 else 154) [some (.ref 633), some (.int a), some (.int b), some (.int f), some (.int mo), some (.int c), some (.int d), some (.int o), x8] [.int y1] M v M' 0 0) : Ev none (e + 3) 227 135 [some (.ref 633), some (.int a), some (.int b), some (.int f), some (.int mo), some (.int c), some (.int d), some (.int o), x8] [] M v M' 0 0 := by
  refine Ev.step (pc' := 136) (ls' := [some (.ref 633), some (.int a), some (.int b), some (.int f), some (.int mo), some (.int c), some (.int d), some (.int o), x8]) (st' := [.ref 633]) (M1 := M) 1 (fun n => rfl) ?_
  refine Ev.step 1 (gs_3 rfl rfl (gf_g rfl hM v48)) ?_
  refine Ev.step (pc' := 141) (ls' := [some (.ref 633), some (.int a), some (.int b), some (.int f), some (.int mo), some (.int c), some (.int d), some (.int o), x8]) (st' := [.int o, .ref 655]) (M1 := M) 1 (fun n => rfl) ?_
  refine Ev.step 1 (gs_3 rfl rfl (ia_g r655 g1)) ?_
  refine Ev.step (pc' := 145) (ls' := [some (.ref 633), some (.int a), some (.int b), some (.int f), some (.int mo), some (.int c), some (.int d), some (.int o), x8]) (st' := [.int 2, .int d, .int y1]) (M1 := M) 2 (fun n => rfl) ?_
  refine Ev.step (pc' := (if (d - d / 2 * 2) = 0 then 149 else 154)) (ls' := [some (.ref 633), some (.int a), some (.int b), some (.int f), some (.int mo), some (.int c), some (.int d), some (.int o), x8]) (st' := [.int y1]) (M1 := M) 2 (fun n => rfl) ?_
  exact hz
theorem sh_149 {e : Nat} {M : Mem} {M' : Mem} {v : Option Value} {a b c d f mo o y : Int32} {x8 : Option Value}  (hz : Ev none (e + 3) 227 157 [some (.ref 633), some (.int a), some (.int b), some (.int f), some (.int mo), some (.int c), some (.int d), some (.int o), x8] [.int (y + 10)] M v M' 0 0) : Ev none (e + 3) 227 149 [some (.ref 633), some (.int a), some (.int b), some (.int f), some (.int mo), some (.int c), some (.int d), some (.int o), x8] [.int y] M v M' 0 0 := by
  refine Ev.step (pc' := 157) (ls' := [some (.ref 633), some (.int a), some (.int b), some (.int f), some (.int mo), some (.int c), some (.int d), some (.int o), x8]) (st' := [.int (y + 10)]) (M1 := M) 3 (fun n => rfl) ?_
  exact hz
theorem sh_154 {e : Nat} {M : Mem} {M' : Mem} {v : Option Value} {a b c d f mo o y : Int32} {x8 : Option Value}  (hz : Ev none (e + 3) 227 157 [some (.ref 633), some (.int a), some (.int b), some (.int f), some (.int mo), some (.int c), some (.int d), some (.int o), x8] [.int (y + 14)] M v M' 0 0) : Ev none (e + 3) 227 154 [some (.ref 633), some (.int a), some (.int b), some (.int f), some (.int mo), some (.int c), some (.int d), some (.int o), x8] [.int y] M v M' 0 0 := by
  refine Ev.step (pc' := 157) (ls' := [some (.ref 633), some (.int a), some (.int b), some (.int f), some (.int mo), some (.int c), some (.int d), some (.int o), x8]) (st' := [.int (y + 14)]) (M1 := M) 2 (fun n => rfl) ?_
  exact hz
theorem sh_157 {e : Nat} {M : Mem} {M' : Mem} {v : Option Value} {vs : List Value} {a b c d f mo o y y1 : Int32} {l655 : List Int32} {x8 : Option Value} (hM : gNth M 633 = some (.inr (11, vs))) (v48 : gNth vs 48 = some (.ref 655)) (r655 : gNth M 655 = some (.inl (1, .inl l655))) (g1 : gAt l655 c = some y1) (hz : Ev none (e + 3) 227 (if y < y1 then 174 else 171) [some (.ref 633), some (.int a), some (.int b), some (.int f), some (.int mo), some (.int c), some (.int d), some (.int o), some (.int y)] [] M v M' 0 0) : Ev none (e + 3) 227 157 [some (.ref 633), some (.int a), some (.int b), some (.int f), some (.int mo), some (.int c), some (.int d), some (.int o), x8] [.int y] M v M' 0 0 := by
  refine Ev.step (pc' := 162) (ls' := [some (.ref 633), some (.int a), some (.int b), some (.int f), some (.int mo), some (.int c), some (.int d), some (.int o), some (.int y)]) (st' := [.ref 633, .int y]) (M1 := M) 3 (fun n => rfl) ?_
  refine Ev.step 1 (gs_3 rfl rfl (gf_g rfl hM v48)) ?_
  refine Ev.step (pc' := 167) (ls' := [some (.ref 633), some (.int a), some (.int b), some (.int f), some (.int mo), some (.int c), some (.int d), some (.int o), some (.int y)]) (st' := [.int c, .ref 655, .int y]) (M1 := M) 1 (fun n => rfl) ?_
  refine Ev.step 1 (gs_3 rfl rfl (ia_g r655 g1)) ?_
  refine Ev.step (pc' := (if y < y1 then 174 else 171)) (ls' := [some (.ref 633), some (.int a), some (.int b), some (.int f), some (.int mo), some (.int c), some (.int d), some (.int o), some (.int y)]) (st' := []) (M1 := M) 1 (fun n => rfl) ?_
  exact hz
theorem sh_171 {e : Nat} {M : Mem} {M' : Mem} {v : Option Value} {a b c d f mo o vv : Int32}  (hz : Ev none (e + 3) 227 186 [some (.ref 633), some (.int a), some (.int b), some (.int f), some (.int mo), some (.int c), some (.int d), some (.int o), some (.int vv)] [] M v M' 0 0) : Ev none (e + 3) 227 171 [some (.ref 633), some (.int a), some (.int b), some (.int f), some (.int mo), some (.int c), some (.int d), some (.int o), some (.int vv)] [] M v M' 0 0 := by
  refine Ev.step (pc' := 186) (ls' := [some (.ref 633), some (.int a), some (.int b), some (.int f), some (.int mo), some (.int c), some (.int d), some (.int o), some (.int vv)]) (st' := []) (M1 := M) 1 (fun n => rfl) ?_
  exact hz
theorem sh_174 {e : Nat} {M : Mem} {M' : Mem} {v : Option Value} {vs : List Value} {a b c d f mo o vv y1 : Int32} {l655 : List Int32} (hM : gNth M 633 = some (.inr (11, vs))) (v48 : gNth vs 48 = some (.ref 655)) (r655 : gNth M 655 = some (.inl (1, .inl l655))) (g1 : gAt l655 c = some y1) (hz : Ev none (e + 3) 227 186 [some (.ref 633), some (.int a), some (.int b), some (.int f), some (.int 1), some (.int c), some (.int d), some (.int o), some (.int vv)] [] (gPut M 655 (.inl (1, .inl (gPut l655 c.toNatClampNeg vv)))) v M' 0 0) : Ev none (e + 3) 227 174 [some (.ref 633), some (.int a), some (.int b), some (.int f), some (.int mo), some (.int c), some (.int d), some (.int o), some (.int vv)] [] M v M' 0 0 := by
  refine Ev.step (pc' := 175) (ls' := [some (.ref 633), some (.int a), some (.int b), some (.int f), some (.int mo), some (.int c), some (.int d), some (.int o), some (.int vv)]) (st' := [.ref 633]) (M1 := M) 1 (fun n => rfl) ?_
  refine Ev.step 1 (gs_3 rfl rfl (gf_g rfl hM v48)) ?_
  refine Ev.step (pc' := 182) (ls' := [some (.ref 633), some (.int a), some (.int b), some (.int f), some (.int mo), some (.int c), some (.int d), some (.int o), some (.int vv)]) (st' := [.int vv, .int c, .ref 655]) (M1 := M) 2 (fun n => rfl) ?_
  refine Ev.step 1 (gs_4 rfl rfl (is_g r655 g1)) ?_
  refine Ev.step (pc' := 186) (ls' := [some (.ref 633), some (.int a), some (.int b), some (.int f), some (.int 1), some (.int c), some (.int d), some (.int o), some (.int vv)]) (st' := []) (M1 := (gPut M 655 (.inl (1, .inl (gPut l655 c.toNatClampNeg vv))))) 2 (fun n => rfl) ?_
  exact hz
theorem sh_186 {e : Nat} {M : Mem} {M' : Mem} {v : Option Value} {a b c d f mo o vv : Int32}  (hz : Ev none (e + 3) 227 107 [some (.ref 633), some (.int a), some (.int b), some (.int f), some (.int mo), some (.int c), some (.int (d + 1)), some (.int o), some (.int vv)] [] M v M' 0 0) : Ev none (e + 3) 227 186 [some (.ref 633), some (.int a), some (.int b), some (.int f), some (.int mo), some (.int c), some (.int d), some (.int o), some (.int vv)] [] M v M' 0 0 := by
  refine Ev.step (pc' := 107) (ls' := [some (.ref 633), some (.int a), some (.int b), some (.int f), some (.int mo), some (.int c), some (.int (d + 1)), some (.int o), some (.int vv)]) (st' := []) (M1 := M) 2 (fun n => rfl) ?_
  exact hz
theorem cal_gr2 {M : Mem} {vs : List Value} {a0 : Int32} {rest : List Value} (hM : gNth M 633 = some (.inr (11, vs))) (hr : gRoom rest = true) : gCal (.invokevirtual 356) 11 (.int a0 :: .ref 633 :: rest) M = some (.inr (149, [some (.ref 633), some (.int a0)], rest)) := by
  show @cond (Option ((List Value × Mem) ⊕ (Nat × Lo × List Value))) (true && gRecv M (.ref 633) 11 && gRoom rest && true) (some (.inr (149, [some (.ref 633), some (.int a0)], rest))) none = _
  rw [recv_ok hM, hr]
  rfl
theorem cal_iw {M : Mem} {vs : List Value} {a0 : Int32} {rest : List Value} (hM : gNth M 633 = some (.inr (11, vs))) (hr : gRoom rest = true) : gCal (.invokevirtual 140) 11 (.int a0 :: .ref 633 :: rest) M = some (.inr (150, [some (.ref 633), some (.int a0)], rest)) := by
  show @cond (Option ((List Value × Mem) ⊕ (Nat × Lo × List Value))) (true && gRecv M (.ref 633) 11 && gRoom rest && true) (some (.inr (150, [some (.ref 633), some (.int a0)], rest))) none = _
  rw [recv_ok hM, hr]
  rfl
set_option maxRecDepth 100000 in
theorem rw_83 : rwB 83 1 256 0 10000000 = true := by decide +kernel
set_option maxRecDepth 100000 in
theorem mf_83 : mfB 48 83 = true := by decide +kernel
set_option maxRecDepth 100000 in
theorem sU_83 : gNth sU 83 = some (some 655) := by decide +kernel
set_option maxRecDepth 100000 in
theorem sT_655 : gNth sT 655 = some 83 := by decide +kernel
set_option maxRecDepth 100000 in
theorem fB_28 : fldB 28 (-2147483648) 2147483647 = true := by decide +kernel
theorem cell_w {l : List Int32} (sl : l.length = 2314) {c : Int32} (c1 : 0 ≤ c.toInt) (c2 : c.toInt ≤ 255) : ∃ y, gAt l (522 + 7 * c + 3) = some y := by
  have e3 : (3 : Int32).toInt = 3 := rfl
  have ec := i32_cell (c := c) (k := 3) c1 c2 (by decide) (by decide)
  obtain ⟨kn, hkn⟩ : ∃ kn : Nat, (522 + 7 * c + 3 : Int32).toInt = (kn : Int) := ⟨(525 + 7 * c.toInt).toNat, by omega⟩
  obtain ⟨y, y1, y2⟩ := at_c (l := l) hkn (by omega)
  exact ⟨y, y1⟩
theorem ev_isWorn {M : Mem} {e : Nat} {vs : List Value} {l : List Int32} {c y : Int32} (hT : TM sT sG M) (hM : gNth M 633 = some (.inr (11, vs))) (h5 : gNth vs 5 = some (.ref 635)) (hs : gNth M 635 = some (.inl (1, .inl l))) (hy : gAt l (522 + 7 * c + 3) = some y) : ∃ r : Int32, Ev none (e + 1) 150 0 [some (.ref 633), some (.int c)] [] M (some (.int r)) M 0 0 := by
  obtain ⟨vs2, f, h1, _, h3, _⟩ := hT.fint fB_28
  cases hM.symm.trans h1
  by_cases hf : y < f
  · exact ⟨0, iw_0 (Ev.call0 (fun n => gs_7 rfl rfl (cal_of hM rfl)) (ev_of hM h5 hs hy) (iw_6 hM h3 (by rw [if_pos hf]; exact iw_17)))⟩
  · exact ⟨1, iw_0 (Ev.call0 (fun n => gs_7 rfl rfl (cal_of hM rfl)) (ev_of hM h5 hs hy) (iw_6 hM h3 (by rw [if_neg hf]; exact iw_13)))⟩
set_option maxRecDepth 100000 in
theorem ways_put {M : Mem} (hT : TM sT sG M) {l : List Int32} (hM : gNth M 655 = some (.inl (1, .inl l))) (i : Nat) {y : Int32} (h0 : 0 ≤ y.toInt) (h1 : y.toInt ≤ 10000000) : TM sT sG (gPut M 655 (.inl (1, .inl (gPut l i y)))) := by
  obtain ⟨l2, q1, q2, q3⟩ := hT.mrow sT_655 rw_83
  cases q1.symm.trans hM
  refine hT.putrow (n := 256) (lo := 0) (hi := 10000000) sT_655 (by decide +kernel) (by rw [put_len]; exact q2) (fun j x hj => ?_)
  rw [nth_put] at hj
  split at hj
  · cases hj
    exact ⟨h0, h1⟩
  · exact q3 j x hj
section SHN
variable {a b f w hh : Int32} {M0 : Mem} {e bn : Nat} {l0 : List Int32} {P : Prop}
/-- what stands while the ways are found -/
def ShS (P : Prop) (bn : Nat) (l0 : List Int32) (M0 : Mem) (M : Mem) (R : Nat → Prop) (B : Prop) : Prop := TM sT sG M ∧ Frm sT [(1083, 0)] M0 M ∧ gNth M 635 = some (.inl (1, .inl l0)) ∧ ∃ l, gNth M 655 = some (.inl (1, .inl l)) ∧ R (l.map mI).sum ∧ (P → B → ∀ y, gNth l bn = some y → 1 ≤ y.toInt)
def ShQ (P : Prop) (M0 : Mem) (v : Option Value) (M : Mem) : Prop := ∃ r : Int32, v = some (.int r) ∧ TM sT sG M ∧ Frm sT [(1083, 0)] M0 M ∧ (P → 1 ≤ r.toInt)
abbrev ShF (P : Prop) (a b f : Int32) (M0 : Mem) (e pc : Nat) (mo : Int32) (x5 x6 x7 x8 : Option Value) (M : Mem) : Prop := RF (ShQ P M0) [] (e + 3) 227 pc [some (.ref 633), some (.int a), some (.int b), some (.int f), some (.int mo), x5, x6, x7, x8] [] M
abbrev rk (mo : Int32) (s : Nat) (x : Nat) : Prop := (mo = 0 ∧ x ≤ s) ∨ (mo = 1 ∧ x < s)
theorem ShS.env {M : Mem} {R : Nat → Prop} {B : Prop} (h : ShS P bn l0 M0 M R B) : ∃ vs l, gNth M 633 = some (.inr (11, vs)) ∧ gNth vs 5 = some (.ref 635) ∧ gNth vs 48 = some (.ref 655) ∧ l0.length = 2314 ∧ gNth M 655 = some (.inl (1, .inl l)) ∧ l.length = 256 ∧ (∀ j x, gNth l j = some x → 0 ≤ x.toInt ∧ x.toInt ≤ 10000000) ∧ R (l.map mI).sum ∧ (P → B → ∀ y, gNth l bn = some y → 1 ≤ y.toInt) := by
  obtain ⟨hT, _, hs, l, h1, h2, h3⟩ := h
  obtain ⟨vs, l9, hM, h5, hs9, sl⟩ := hT.s_all
  cases hs.symm.trans hs9
  obtain ⟨vs9, hM9, hv⟩ := hT.mfld
  cases hM.symm.trans hM9
  obtain ⟨l2, q1, q2, q3⟩ := hT.mrow sT_655 rw_83
  cases h1.symm.trans q1
  exact ⟨vs, l, hM, h5, hv _ _ _ mf_83 sU_83, sl, h1, q2, q3, h2, h3⟩
theorem ShS.put {M : Mem} {R R2 : Nat → Prop} {B B2 : Prop} (h : ShS P bn l0 M0 M R B) {l : List Int32} (hl : gNth M 655 = some (.inl (1, .inl l))) {i : Nat} {v y : Int32} (hy : gNth l i = some y) (v0 : 0 ≤ v.toInt) (v1 : v.toInt ≤ 10000000) (hR : ∀ s s2, R s → s2 + mI y = s + mI v → R2 s2) (hB : P → B2 → (i = bn → 1 ≤ v.toInt) ∧ (i ≠ bn → B)) : ShS P bn l0 M0 (gPut M 655 (.inl (1, .inl (gPut l i v)))) R2 B2 := by
  obtain ⟨hT, hF, hs, l2, h1, h2, h3⟩ := h
  cases hl.symm.trans h1
  refine ⟨ways_put hT hl i v0 v1, hF.trans (Frm.row hl sT_655 (List.mem_singleton.mpr rfl)), by rw [nth_put, if_neg (fun q => absurd q.1 (by decide))]; exact hs, _, by rw [nth_put, if_pos ⟨rfl, gNth_lt _ _ _ hl⟩], hR _ _ h2 (sum_put _ _ hy), fun hp hb z hz => ?_⟩
  obtain ⟨q1, q2⟩ := hB hp hb
  rw [nth_put] at hz
  by_cases hi : bn = i ∧ i < l.length
  · rw [if_pos hi] at hz
    cases hz
    exact q1 hi.1.symm
  · rw [if_neg hi] at hz
    refine h3 hp (q2 (fun e => hi ⟨e.symm, gNth_lt _ _ _ hy⟩)) z hz
theorem wh_in (h0 : gAt l0 0 = some w) (h1 : gAt l0 1 = some hh) (w1 : 4 ≤ w.toInt) (w2 : w.toInt ≤ 16) (k1 : 4 ≤ hh.toInt) (k2 : hh.toInt ≤ 16) : (w * hh).toInt = w.toInt * hh.toInt ∧ 16 ≤ w.toInt * hh.toInt ∧ w.toInt * hh.toInt ≤ 256 := by
  have b1 : w.toInt * hh.toInt ≤ 16 * 16 := Int.mul_le_mul w2 k2 (by omega) (by omega)
  have b0 : 4 * 4 ≤ w.toInt * hh.toInt := Int.mul_le_mul w1 k1 (by omega) (by omega)
  exact ⟨i32_mul (by omega) (by omega), by omega, by omega⟩
/-- one way d -/
theorem sh_body (h0 : gAt l0 0 = some w) (h1 : gAt l0 1 = some hh) (w1 : 4 ≤ w.toInt) (w2 : w.toInt ≤ 16) (k1 : 4 ≤ hh.toInt) (k2 : hh.toInt ≤ 16) {s : Nat} {mo c d : Int32} {x7 x8 : Option Value} {M : Mem} (c0 : 0 ≤ c.toInt) (c1 : c.toInt ≤ 255) (h : ShS P bn l0 M0 M (rk mo s) True) (hD : ∀ mo x7 x8 M, ShS P bn l0 M0 M (rk mo s) True → ShF P a b f M0 e 107 mo (some (.int c)) (some (.int (d + 1))) x7 x8 M) : ShF P a b f M0 e 114 mo (some (.int c)) (some (.int d)) x7 x8 M := by
  obtain ⟨vs, l, hM, h5, h48, sl, hl, ll, lr, hR, hB⟩ := h.env
  obtain ⟨hT, hF, hs, _⟩ := id h
  have hw : ¬ w = 0 := by
    intro hz
    rw [hz] at w1
    exact absurd w1 (by decide)
  refine RF.pre (fun v M' hz => sh_114 (Ev.call0 (fun n => gs_7 rfl rfl (cal_bs hM rfl)) (ev_beside (e := e) hM h5 hs h0 h1 hw) (sh_122 hz))) ?_
  obtain ⟨o, eo⟩ : ∃ o, o = besI w hh c d := ⟨_, rfl⟩
  have ho := besI_in (c := c) (d := d) w1 w2 k1 k2
  rw [← eo] at ho ⊢
  obtain ⟨cn, hcn⟩ : ∃ cn : Nat, c.toInt = (cn : Int) := ⟨c.toInt.toNat, by omega⟩
  obtain ⟨xc, xc1, xc2⟩ := at_c (l := l) hcn (by omega)
  obtain ⟨r1, r2⟩ := lr _ _ xc2
  have last : ∀ (nv : Int32) (x8 : Option Value), 1 ≤ nv.toInt → nv.toInt ≤ 10000014 → RF (ShQ P M0) [] (e + 3) 227 157 [some (.ref 633), some (.int a), some (.int b), some (.int f), some (.int mo), some (.int c), some (.int d), some (.int o), x8] [.int nv] M := by
    intro nv x8 n0 n1
    refine RF.pre (fun v M' hz => sh_157 hM h48 hl xc1 hz) ?_
    by_cases hlt : nv < xc
    · rw [if_pos hlt]
      rw [Int32.lt_iff_toInt_lt] at hlt
      refine RF.pre (fun v M' hz => sh_174 hM h48 hl xc1 hz) ?_
      rw [cl_n hcn]
      refine RF.pre (fun v M' hz => sh_186 hz) (hD 1 _ _ _ (h.put hl xc2 (by omega) (by omega) (fun s2 s3 q1 q2 => ?_) (fun _ _ => ⟨fun _ => n0, fun _ => trivial⟩)))
      have := (mI_lt (x := nv) (y := xc)).2 hlt
      refine Or.inr ⟨rfl, ?_⟩
      rcases q1 with ⟨_, q1⟩ | ⟨_, q1⟩ <;> omega
    · rw [if_neg hlt]
      exact RF.pre (fun v M' hz => sh_171 (sh_186 hz)) (hD _ _ _ _ h)
  by_cases o0 : (0 : Int32) ≤ o
  · rw [if_pos o0]
    have ho : 0 ≤ o.toInt ∧ o.toInt ≤ 255 := by
      rcases ho with ho | ho
      · rw [ho] at o0
        exact absurd o0 (by decide)
      · exact ho
    obtain ⟨on, hon⟩ : ∃ on : Nat, o.toInt = (on : Int) := ⟨o.toInt.toNat, by omega⟩
    obtain ⟨xo, xo1, xo2⟩ := at_c (l := l) hon (by omega)
    obtain ⟨t1, t2⟩ := lr _ _ xo2
    refine RF.pre (fun v M' hz => sh_135 hM h48 hl xo1 hz) ?_
    have o10 : (10 : Int32).toInt = 10 := rfl
    have o14 : (14 : Int32).toInt = 14 := rfl
    by_cases hd : d - d / 2 * 2 = 0
    · rw [if_pos hd]
      have e1 : (xo + 10).toInt = xo.toInt + 10 := by rw [i32_add (by rw [o10]; omega) (by rw [o10]; omega), o10]
      exact RF.pre (fun v M' hz => sh_149 hz) (last (xo + 10) _ (by omega) (by omega))
    · rw [if_neg hd]
      have e1 : (xo + 14).toInt = xo.toInt + 14 := by rw [i32_add (by rw [o14]; omega) (by rw [o14]; omega), o14]
      exact RF.pre (fun v M' hz => sh_154 hz) (last (xo + 14) _ (by omega) (by omega))
  · rw [if_neg o0]
    exact RF.pre (fun v M' hz => sh_129 hz) (last 10000000 _ (by decide) (by decide))
theorem sh_dl (h0 : gAt l0 0 = some w) (h1 : gAt l0 1 = some hh) (w1 : 4 ≤ w.toInt) (w2 : w.toInt ≤ 16) (k1 : 4 ≤ hh.toInt) (k2 : hh.toInt ≤ 16) {s : Nat} {c : Int32} (c0 : 0 ≤ c.toInt) (c1 : c.toInt ≤ 255) (hE : ∀ mo x6 x7 x8 M, ShS P bn l0 M0 M (rk mo s) True → ShF P a b f M0 e 192 mo (some (.int c)) x6 x7 x8 M) : ∀ (j : Nat) (d mo : Int32) (x7 x8 : Option Value) (M : Mem), ShS P bn l0 M0 M (rk mo s) True → 0 ≤ d.toInt → d.toInt + (j : Int) = 8 → ShF P a b f M0 e 107 mo (some (.int c)) (some (.int d)) x7 x8 M := by
  intro j
  induction j with
  | zero =>
    intro d mo x7 x8 M h d0 hj
    refine RF.pre (fun v M' hz => sh_107 hz) ?_
    rw [if_pos (by rw [Int32.le_iff_toInt_le]; show (8 : Int) ≤ d.toInt; omega)]
    exact hE _ _ _ _ _ h
  | succ j ih =>
    intro d mo x7 x8 M h d0 hj
    refine RF.pre (fun v M' hz => sh_107 hz) ?_
    rw [if_neg (by rw [Int32.le_iff_toInt_le]; show ¬ (8 : Int) ≤ d.toInt; omega)]
    have e1 : (d + 1).toInt = d.toInt + 1 := i32_p1 (by omega)
    exact sh_body h0 h1 w1 w2 k1 k2 c0 c1 h (fun mo x7 x8 M h => ih (d + 1) mo x7 x8 M h (by omega) (by omega))
/-- a cell -/
theorem sh_cell (h0 : gAt l0 0 = some w) (h1 : gAt l0 1 = some hh) (w1 : 4 ≤ w.toInt) (w2 : w.toInt ≤ 16) (k1 : 4 ≤ hh.toInt) (k2 : hh.toInt ≤ 16) {s : Nat} {mo c : Int32} {x6 x7 x8 : Option Value} {M : Mem} (c0 : 0 ≤ c.toInt) (c1 : c.toInt ≤ 255) (h : ShS P bn l0 M0 M (rk mo s) True) (hE : ∀ mo x6 x7 x8 M, ShS P bn l0 M0 M (rk mo s) True → ShF P a b f M0 e 192 mo (some (.int c)) x6 x7 x8 M) : ShF P a b f M0 e 58 mo (some (.int c)) x6 x7 x8 M := by
  obtain ⟨vs, l, hM, h5, h48, sl, hl, ll, lr, hR, hB⟩ := h.env
  obtain ⟨hT, hF, hs, _⟩ := id h
  obtain ⟨kc, hkc⟩ := cell_k hT sl c0 c1
  obtain ⟨kw, hkw⟩ := cell_w sl c0 c1
  have go_ : ShF P a b f M0 e 104 mo (some (.int c)) x6 x7 x8 M := RF.pre (fun v M' hz => sh_104 hz) (sh_dl h0 h1 w1 w2 k1 k2 c0 c1 hE 8 0 mo _ _ M h (by decide) (by decide))
  refine RF.pre (fun v M' hz => sh_58 (Ev.call0 (fun n => gs_7 rfl rfl (cal_be hM rfl)) (ev_bears hM h5 hs hkc) (sh_64 hz))) ?_
  obtain ⟨z, ez⟩ : ∃ z : Int32, z = if kc = 3 then 0 else if kc = 6 then 0 else 1 := ⟨_, rfl⟩
  rw [← ez]
  by_cases hz0 : z = 0
  · rw [if_pos hz0]
    exact hE _ _ _ _ _ h
  rw [if_neg hz0]
  refine RF.pre (fun v M' hz => sh_67 hz) ?_
  by_cases hf : f = 0
  · rw [if_pos hf]; exact go_
  rw [if_neg hf]
  refine RF.pre (fun v M' hz => sh_71 hz) ?_
  by_cases ha : c = a
  · rw [if_pos ha]; exact go_
  rw [if_neg ha]
  refine RF.pre (fun v M' hz => sh_77 hz) ?_
  by_cases hb : c = b
  · rw [if_pos hb]; exact go_
  rw [if_neg hb]
  refine RF.pre (fun v M' hz => sh_83 (Ev.call0 (fun n => gs_7 rfl rfl (cal_gr2 hM rfl)) (ev_green (e := e + 1) hM h5 hs hkc) (sh_89 hz))) ?_
  obtain ⟨z2, ez2⟩ : ∃ z : Int32, z = if kc = 0 then 1 else if kc = 2 then 1 else 0 := ⟨_, rfl⟩
  rw [← ez2]
  by_cases hz2 : z2 = 0
  · rw [if_pos hz2]; exact go_
  rw [if_neg hz2]
  obtain ⟨r, hr⟩ := ev_isWorn (e := e + 1) hT hM h5 hs hkw
  refine RF.pre (fun v M' hz => sh_92 (Ev.call0 (fun n => gs_7 rfl rfl (cal_iw hM rfl)) hr (sh_98 hz))) ?_
  by_cases hr0 : r = 0
  · rw [if_pos hr0]
    exact RF.pre (fun v M' hz => sh_101 hz) (hE _ _ _ _ _ h)
  · rw [if_neg hr0]; exact go_
theorem sh_cl (h0 : gAt l0 0 = some w) (h1 : gAt l0 1 = some hh) (w1 : 4 ≤ w.toInt) (w2 : w.toInt ≤ 16) (k1 : 4 ≤ hh.toInt) (k2 : hh.toInt ≤ 16) {s : Nat} (hE : ∀ mo x5 x6 x7 x8 M, ShS P bn l0 M0 M (rk mo s) True → ShF P a b f M0 e 38 mo x5 x6 x7 x8 M) : ∀ (j : Nat) (c mo : Int32) (x6 x7 x8 : Option Value) (M : Mem), ShS P bn l0 M0 M (rk mo s) True → 0 ≤ c.toInt → 256 ≤ c.toInt + (j : Int) → ShF P a b f M0 e 49 mo (some (.int c)) x6 x7 x8 M := by
  intro j
  obtain ⟨wh, b0, b1⟩ := wh_in h0 h1 w1 w2 k1 k2
  have head : ∀ (c mo : Int32) (x6 x7 x8 : Option Value) (M : Mem), ShS P bn l0 M0 M (rk mo s) True → (¬ w * hh ≤ c → ShF P a b f M0 e 58 mo (some (.int c)) x6 x7 x8 M) → ShF P a b f M0 e 49 mo (some (.int c)) x6 x7 x8 M := by
    intro c mo x6 x7 x8 M h hn
    obtain ⟨vs, l, hM, h5, h48, sl, hl, ll, lr, hR, hB⟩ := h.env
    obtain ⟨hT, hF, hs, _⟩ := id h
    refine RF.pre (fun v M' hz => sh_49 (Ev.call0 (fun n => gs_7 rfl rfl (cal_ce hM rfl)) (ev_cells hM h5 hs h0 h1) (sh_55 hz))) ?_
    by_cases hle : w * hh ≤ c
    · rw [if_pos hle]
      exact RF.pre (fun v M' hz => sh_198 hz) (hE _ _ _ _ _ _ h)
    · rw [if_neg hle]
      exact hn hle
  induction j with
  | zero =>
    intro c mo x6 x7 x8 M h c0 hj
    exact head c mo x6 x7 x8 M h (fun hn => absurd (by rw [Int32.le_iff_toInt_le]; omega) hn)
  | succ j ih =>
    intro c mo x6 x7 x8 M h c0 hj
    refine head c mo x6 x7 x8 M h (fun hn => ?_)
    rw [Int32.le_iff_toInt_le] at hn
    have e1 : (c + 1).toInt = c.toInt + 1 := i32_p1 (by omega)
    exact sh_cell h0 h1 w1 w2 k1 k2 c0 (by omega) h (fun mo x6 x7 x8 M h => RF.pre (fun v M' hz => sh_192 hz) (ih (c + 1) mo x6 x7 x8 M h (by omega) (by omega)))
theorem sh_wl (h0 : gAt l0 0 = some w) (h1 : gAt l0 1 = some hh) (w1 : 4 ≤ w.toInt) (w2 : w.toInt ≤ 16) (k1 : 4 ≤ hh.toInt) (k2 : hh.toInt ≤ 16) (hbn : b.toInt = (bn : Int)) (b255 : bn ≤ 255) : ∀ (k : Nat) (mo : Int32) (x5 x6 x7 x8 : Option Value) (M : Mem), ShS P bn l0 M0 M (fun x => mo = 0 ∨ (mo = 1 ∧ x < k)) True → ShF P a b f M0 e 38 mo x5 x6 x7 x8 M := by
  intro k
  have fin : ∀ (x5 x6 x7 x8 : Option Value) (M : Mem) (R : Nat → Prop), ShS P bn l0 M0 M R True → ShF P a b f M0 e 38 0 x5 x6 x7 x8 M := by
    intro x5 x6 x7 x8 M R h
    obtain ⟨vs, l, hM, h5, h48, sl, hl, ll, lr, hR, hB⟩ := h.env
    obtain ⟨y, y1, y2⟩ := at_c (l := l) hbn (by omega)
    refine RF.pre (fun v M' hz => sh_38 hz) ?_
    rw [if_pos rfl]
    exact ⟨some (.int y), M, sh_201 hM h48 hl y1, y, rfl, h.1, h.2.1, fun hp => hB hp trivial y y2⟩
  induction k with
  | zero =>
    intro mo x5 x6 x7 x8 M h
    obtain ⟨hT, hF, hs, l, hl, hR, hB⟩ := id h
    rcases hR with rfl | ⟨_, hR⟩
    · exact fin _ _ _ _ _ _ h
    · exact absurd hR (Nat.not_lt_zero _)
  | succ k ih =>
    intro mo x5 x6 x7 x8 M h
    obtain ⟨hT, hF, hs, l, hl, hR, hB⟩ := id h
    rcases hR with rfl | ⟨rfl, hR⟩
    · exact fin _ _ _ _ _ _ h
    refine RF.pre (fun v M' hz => sh_38 hz) ?_
    rw [if_neg (by decide)]
    refine RF.pre (fun v M' hz => sh_43 hz) ?_
    refine sh_cl (s := k) h0 h1 w1 w2 k1 k2 (fun mo x5 x6 x7 x8 M h => ?_) 256 0 0 x6 x7 x8 M ⟨hT, hF, hs, l, hl, Or.inl ⟨rfl, by omega⟩, hB⟩ (by decide) (by decide)
    obtain ⟨hT, hF, hs, l, hl, hR, hB⟩ := h
    refine ih mo x5 x6 x7 x8 M ⟨hT, hF, hs, l, hl, ?_, hB⟩
    rcases hR with ⟨q, _⟩ | ⟨q1, q2⟩
    · exact Or.inl q
    · exact Or.inr ⟨q1, q2⟩
theorem sh_init (h0 : gAt l0 0 = some w) (h1 : gAt l0 1 = some hh) (w1 : 4 ≤ w.toInt) (w2 : w.toInt ≤ 16) (k1 : 4 ≤ hh.toInt) (k2 : hh.toInt ≤ 16) (ha : 0 ≤ a.toInt) (ha2 : a.toInt ≤ 255) (hbn : b.toInt = (bn : Int)) (b255 : bn ≤ 255) (hP : P → a ≠ b ∧ b.toInt < w.toInt * hh.toInt) : ∀ (j cn : Nat) (c : Int32) (x5 x6 x7 x8 : Option Value) (M : Mem), ShS P bn l0 M0 M (fun _ => True) (bn < cn) → c.toInt = (cn : Int) → 256 ≤ cn + j → cn ≤ 256 → RF (ShQ P M0) [] (e + 3) 227 3 [some (.ref 633), some (.int a), some (.int b), some (.int f), some (.int c), x5, x6, x7, x8] [] M := by
  intro j
  obtain ⟨wh, b0, b1⟩ := wh_in h0 h1 w1 w2 k1 k2
  have head : ∀ (cn : Nat) (c : Int32) (x5 x6 x7 x8 : Option Value) (M : Mem), ShS P bn l0 M0 M (fun _ => True) (bn < cn) → c.toInt = (cn : Int) → (¬ w * hh ≤ c → RF (ShQ P M0) [] (e + 3) 227 12 [some (.ref 633), some (.int a), some (.int b), some (.int f), some (.int c), x5, x6, x7, x8] [] M) → RF (ShQ P M0) [] (e + 3) 227 3 [some (.ref 633), some (.int a), some (.int b), some (.int f), some (.int c), x5, x6, x7, x8] [] M := by
    intro cn c x5 x6 x7 x8 M h hcn hn
    obtain ⟨vs, l, hM, h5, h48, sl, hl, ll, lr, hR, hB⟩ := h.env
    obtain ⟨hT, hF, hs, _⟩ := id h
    refine RF.pre (fun v M' hz => sh_3 (Ev.call0 (fun n => gs_7 rfl rfl (cal_ce hM rfl)) (ev_cells hM h5 hs h0 h1) (sh_9 hz))) ?_
    by_cases hle : w * hh ≤ c
    · rw [if_pos hle]
      rw [Int32.le_iff_toInt_le] at hle
      obtain ⟨an, han⟩ : ∃ an : Nat, a.toInt = (an : Int) := ⟨a.toInt.toNat, by omega⟩
      obtain ⟨ya, ya1, ya2⟩ := at_c (l := l) han (by omega)
      refine RF.pre (fun v M' hz => sh_28 hM h48 hl ya1 hz) ?_
      rw [cl_n han]
      have hput := h.put hl ya2 (v := 0) (R2 := fun _ => True) (B2 := True) (by decide) (by decide) (fun _ _ _ _ => trivial) (fun hp _ => ⟨fun e => absurd (Int32.toInt_inj.mp (show a.toInt = b.toInt by omega)) (hP hp).1, fun _ => by have := (hP hp).2; omega⟩)
      obtain ⟨q1, q2, q3, l5, q4, q5, q6⟩ := hput
      exact sh_wl h0 h1 w1 w2 k1 k2 hbn b255 ((l5.map mI).sum + 1) 1 _ _ _ _ _ ⟨q1, q2, q3, l5, q4, Or.inr ⟨rfl, Nat.lt_succ_self _⟩, q6⟩
    · rw [if_neg hle]
      exact hn hle
  induction j with
  | zero =>
    intro cn c x5 x6 x7 x8 M h hcn hj hle
    exact head cn c x5 x6 x7 x8 M h hcn (fun hn => absurd (by rw [Int32.le_iff_toInt_le]; omega) hn)
  | succ j ih =>
    intro cn c x5 x6 x7 x8 M h hcn hj hle
    refine head cn c x5 x6 x7 x8 M h hcn (fun hn => ?_)
    rw [Int32.le_iff_toInt_le] at hn
    obtain ⟨vs, l, hM, h5, h48, sl, hl, ll, lr, hR, hB⟩ := h.env
    obtain ⟨y, y1, y2⟩ := at_c (l := l) hcn (by omega)
    have e1 : (c + 1).toInt = c.toInt + 1 := i32_p1 (by omega)
    refine RF.pre (fun v M' hz => sh_12 hM h48 hl y1 hz) ?_
    rw [cl_n hcn]
    exact ih (cn + 1) (c + 1) x5 x6 x7 x8 _ (h.put hl y2 (v := 10000000) (by decide) (by decide) (fun _ _ _ _ => trivial) (fun _ hb => ⟨fun _ => by decide, fun hne => by omega⟩)) (by omega) (by omega) (by omega)
end SHN
/-- shortest, with what it answers -/
theorem ev_shortest {M : Mem} {e : Nat} {a b f : Int32} (hT : TM sT sG M) (a0 : 0 ≤ a.toInt) (a1 : a.toInt ≤ 255) (b0 : 0 ≤ b.toInt) (b1 : b.toInt ≤ 255) : ∃ (r : Int32) (MF : Mem), Ev none (e + 3) 227 0 [some (.ref 633), some (.int a), some (.int b), some (.int f), none, none, none, none, none] [] M (some (.int r)) MF 0 0 ∧ TM sT sG MF ∧ Frm sT [(1083, 0)] M MF ∧ (a ≠ b → (∀ l w h, gNth M 635 = some (.inl (1, .inl l)) → gNth l 0 = some w → gNth l 1 = some h → b.toInt < w.toInt * h.toInt) → 1 ≤ r.toInt) := by
  obtain ⟨vs, l, w, hh, m1, m2, m3, m4, m5, w1, w2, h1, h2⟩ := hT.s_ref
  obtain ⟨lw, q1, q2, q3⟩ := hT.mrow sT_655 rw_83
  obtain ⟨bn, hbn⟩ : ∃ bn : Nat, b.toInt = (bn : Int) := ⟨b.toInt.toNat, by omega⟩
  obtain ⟨v, MF, r1, r, rfl, r2, r3, r4⟩ := sh_init (a := a) (b := b) (f := f) (e := e) (M0 := M) (bn := bn) (P := a ≠ b ∧ b.toInt < w.toInt * hh.toInt) m4 m5 w1 w2 h1 h2 a0 a1 hbn (by omega) (fun h => h) 256 0 0 none none none none M ⟨hT, Frm.refl M, m3, lw, q1, trivial, fun _ h => absurd h (Nat.not_lt_zero _)⟩ rfl (by omega) (by omega)
  exact ⟨r, MF, sho_0 r1, r2, r3, fun hab hb => r4 ⟨hab, hb l w hh m3 m4 m5⟩⟩
/-! BY HAND: longer of the reference -/
theorem id_0 {e : Nat} {M : Mem} {M' : Mem} {v : Option Value} {vs : List Value} {a y1 : Int32} {l635 : List Int32} (hM : gNth M 633 = some (.inr (11, vs))) (v5 : gNth vs 5 = some (.ref 635)) (r635 : gNth M 635 = some (.inl (1, .inl l635))) (g1 : gAt l635 2 = some y1) (hz : Ev none (e + 1) 152 10 [some (.ref 633), some (.int a)] [.int (y1 - 1), .int 0, .int a] M v M' 0 0) : Ev none (e + 1) 152 0 [some (.ref 633), some (.int a)] [] M v M' 0 0 := by
  refine Ev.step (pc' := 3) (ls' := [some (.ref 633), some (.int a)]) (st' := [.ref 633, .int 0, .int a]) (M1 := M) 3 (fun n => rfl) ?_
  refine Ev.step 1 (gs_3 rfl rfl (gf_g rfl hM v5)) ?_
  refine Ev.step (pc' := 7) (ls' := [some (.ref 633), some (.int a)]) (st' := [.int 2, .ref 635, .int 0, .int a]) (M1 := M) 1 (fun n => rfl) ?_
  refine Ev.step 1 (gs_3 rfl rfl (ia_g r635 g1)) ?_
  refine Ev.step (pc' := 10) (ls' := [some (.ref 633), some (.int a)]) (st' := [.int (y1 - 1), .int 0, .int a]) (M1 := M) 2 (fun n => rfl) ?_
  exact hz
theorem id_13z {e : Nat} {M : Mem} {a : Int32}  : Ev none (e + 1) 152 13 [some (.ref 633), some (.int a)] [.int 0] M (some (.int 0)) M 0 0 := by
  exact Ev.ret (fun n => rfl)
theorem id_13o {e : Nat} {M : Mem} {a : Int32}  : Ev none (e + 1) 152 13 [some (.ref 633), some (.int a)] [.int 1] M (some (.int 1)) M 0 0 := by
  exact Ev.ret (fun n => rfl)
theorem lg_0 {e : Nat} {M : Mem} {M' : Mem} {v : Option Value} {vs : List Value} {a b : Int32} (hM : gNth M 633 = some (.inr (11, vs))) (hlen : vs.length = 63) (hz : Ev none (e + 4) 228 5 [some (.ref 633), some (.int a), some (.int b), none, none] [] (gPut M 633 (.inr (11, gPut vs 0 (.int 0)))) v M' 0 0) : Ev none (e + 4) 228 0 [some (.ref 633), some (.int a), some (.int b), none, none] [] M v M' 0 0 := by
  refine Ev.step (pc' := 2) (ls' := [some (.ref 633), some (.int a), some (.int b), none, none]) (st' := [.int 0, .ref 633]) (M1 := M) 2 (fun n => rfl) ?_
  refine Ev.step 1 (gs_4 rfl rfl (pf_i rfl hM (by rw [hlen]; decide) rfl rfl)) ?_
  exact hz
theorem lg_5 {e : Nat} {M : Mem} {M' : Mem} {v : Option Value} {a b : Int32}  (hz : Ev none (e + 4) 228 7 [some (.ref 633), some (.int a), some (.int b), none, none] [.int a, .ref 633] M v M' 0 0) : Ev none (e + 4) 228 5 [some (.ref 633), some (.int a), some (.int b), none, none] [] M v M' 0 0 := by
  refine Ev.step (pc' := 7) (ls' := [some (.ref 633), some (.int a), some (.int b), none, none]) (st' := [.int a, .ref 633]) (M1 := M) 2 (fun n => rfl) ?_
  exact hz
theorem lg_10 {e : Nat} {M : Mem} {M' : Mem} {v : Option Value} {a b z : Int32}  (hz : Ev none (e + 4) 228 (if z = 0 then 26 else 13) [some (.ref 633), some (.int a), some (.int b), none, none] [] M v M' 0 0) : Ev none (e + 4) 228 10 [some (.ref 633), some (.int a), some (.int b), none, none] [.int z] M v M' 0 0 := by
  refine Ev.step (pc' := (if z = 0 then 26 else 13)) (ls' := [some (.ref 633), some (.int a), some (.int b), none, none]) (st' := []) (M1 := M) 1 (fun n => rfl) ?_
  exact hz
theorem lg_13 {e : Nat} {M : Mem} {M' : Mem} {v : Option Value} {a b : Int32}  (hz : Ev none (e + 4) 228 15 [some (.ref 633), some (.int a), some (.int b), none, none] [.int b, .ref 633] M v M' 0 0) : Ev none (e + 4) 228 13 [some (.ref 633), some (.int a), some (.int b), none, none] [] M v M' 0 0 := by
  refine Ev.step (pc' := 15) (ls' := [some (.ref 633), some (.int a), some (.int b), none, none]) (st' := [.int b, .ref 633]) (M1 := M) 2 (fun n => rfl) ?_
  exact hz
theorem lg_18 {e : Nat} {M : Mem} {M' : Mem} {v : Option Value} {a b z : Int32}  (hz : Ev none (e + 4) 228 (if z = 0 then 26 else 21) [some (.ref 633), some (.int a), some (.int b), none, none] [] M v M' 0 0) : Ev none (e + 4) 228 18 [some (.ref 633), some (.int a), some (.int b), none, none] [.int z] M v M' 0 0 := by
  refine Ev.step (pc' := (if z = 0 then 26 else 21)) (ls' := [some (.ref 633), some (.int a), some (.int b), none, none]) (st' := []) (M1 := M) 1 (fun n => rfl) ?_
  exact hz
theorem lg_21 {e : Nat} {M : Mem} {M' : Mem} {v : Option Value} {a b : Int32}  (hz : Ev none (e + 4) 228 (if a = b then 26 else 29) [some (.ref 633), some (.int a), some (.int b), none, none] [] M v M' 0 0) : Ev none (e + 4) 228 21 [some (.ref 633), some (.int a), some (.int b), none, none] [] M v M' 0 0 := by
  refine Ev.step (pc' := (if a = b then 26 else 29)) (ls' := [some (.ref 633), some (.int a), some (.int b), none, none]) (st' := []) (M1 := M) 3 (fun n => rfl) ?_
  exact hz
theorem lg_26 {e : Nat} {M : Mem} {a b : Int32}  : Ev none (e + 4) 228 26 [some (.ref 633), some (.int a), some (.int b), none, none] [] M (some (.int (-2))) M 0 0 := by
  refine Ev.step (pc' := 28) (ls' := [some (.ref 633), some (.int a), some (.int b), none, none]) (st' := [.int (-2)]) (M1 := M) 1 (fun n => rfl) ?_
  exact Ev.ret (fun n => rfl)
theorem lg_29 {e : Nat} {M : Mem} {M' : Mem} {v : Option Value} {vs : List Value} {a b y1 y2 : Int32} {l635 : List Int32} (hM : gNth M 633 = some (.inr (11, vs))) (v5 : gNth vs 5 = some (.ref 635)) (r635 : gNth M 635 = some (.inl (1, .inl l635))) (g1 : gAt l635 (3 + a) = some y1) (g2 : gAt l635 (3 + b) = some y2) (hz : Ev none (e + 4) 228 47 [some (.ref 633), some (.int a), some (.int b), none, none] [.int 0, .int y2, .int y1, .ref 633] M v M' 0 0) : Ev none (e + 4) 228 29 [some (.ref 633), some (.int a), some (.int b), none, none] [] M v M' 0 0 := by
  refine Ev.step (pc' := 31) (ls' := [some (.ref 633), some (.int a), some (.int b), none, none]) (st' := [.ref 633, .ref 633]) (M1 := M) 2 (fun n => rfl) ?_
  refine Ev.step 1 (gs_3 rfl rfl (gf_g rfl hM v5)) ?_
  refine Ev.step (pc' := 37) (ls' := [some (.ref 633), some (.int a), some (.int b), none, none]) (st' := [.int (3 + a), .ref 635, .ref 633]) (M1 := M) 3 (fun n => rfl) ?_
  refine Ev.step 1 (gs_3 rfl rfl (ia_g r635 g1)) ?_
  refine Ev.step (pc' := 39) (ls' := [some (.ref 633), some (.int a), some (.int b), none, none]) (st' := [.ref 633, .int y1, .ref 633]) (M1 := M) 1 (fun n => rfl) ?_
  refine Ev.step 1 (gs_3 rfl rfl (gf_g rfl hM v5)) ?_
  refine Ev.step (pc' := 45) (ls' := [some (.ref 633), some (.int a), some (.int b), none, none]) (st' := [.int (3 + b), .ref 635, .int y1, .ref 633]) (M1 := M) 3 (fun n => rfl) ?_
  refine Ev.step 1 (gs_3 rfl rfl (ia_g r635 g2)) ?_
  refine Ev.step (pc' := 47) (ls' := [some (.ref 633), some (.int a), some (.int b), none, none]) (st' := [.int 0, .int y2, .int y1, .ref 633]) (M1 := M) 1 (fun n => rfl) ?_
  exact hz
theorem lg_50 {e : Nat} {M : Mem} {M' : Mem} {v : Option Value} {vs : List Value} {a b x y1 y2 : Int32} {l635 : List Int32} (hM : gNth M 633 = some (.inr (11, vs))) (v5 : gNth vs 5 = some (.ref 635)) (r635 : gNth M 635 = some (.inl (1, .inl l635))) (g1 : gAt l635 (3 + a) = some y1) (g2 : gAt l635 (3 + b) = some y2) (hz : Ev none (e + 4) 228 69 [some (.ref 633), some (.int a), some (.int b), some (.int x), none] [.int 1, .int y2, .int y1, .ref 633] M v M' 0 0) : Ev none (e + 4) 228 50 [some (.ref 633), some (.int a), some (.int b), none, none] [.int x] M v M' 0 0 := by
  refine Ev.step (pc' := 53) (ls' := [some (.ref 633), some (.int a), some (.int b), some (.int x), none]) (st' := [.ref 633, .ref 633]) (M1 := M) 3 (fun n => rfl) ?_
  refine Ev.step 1 (gs_3 rfl rfl (gf_g rfl hM v5)) ?_
  refine Ev.step (pc' := 59) (ls' := [some (.ref 633), some (.int a), some (.int b), some (.int x), none]) (st' := [.int (3 + a), .ref 635, .ref 633]) (M1 := M) 3 (fun n => rfl) ?_
  refine Ev.step 1 (gs_3 rfl rfl (ia_g r635 g1)) ?_
  refine Ev.step (pc' := 61) (ls' := [some (.ref 633), some (.int a), some (.int b), some (.int x), none]) (st' := [.ref 633, .int y1, .ref 633]) (M1 := M) 1 (fun n => rfl) ?_
  refine Ev.step 1 (gs_3 rfl rfl (gf_g rfl hM v5)) ?_
  refine Ev.step (pc' := 67) (ls' := [some (.ref 633), some (.int a), some (.int b), some (.int x), none]) (st' := [.int (3 + b), .ref 635, .int y1, .ref 633]) (M1 := M) 3 (fun n => rfl) ?_
  refine Ev.step 1 (gs_3 rfl rfl (ia_g r635 g2)) ?_
  refine Ev.step (pc' := 69) (ls' := [some (.ref 633), some (.int a), some (.int b), some (.int x), none]) (st' := [.int 1, .int y2, .int y1, .ref 633]) (M1 := M) 1 (fun n => rfl) ?_
  exact hz
theorem lg_51 {e : Nat} {M : Mem} {M' : Mem} {v : Option Value} {vs : List Value} {a b x y1 y2 : Int32} {l635 : List Int32} (hM : gNth M 633 = some (.inr (11, vs))) (v5 : gNth vs 5 = some (.ref 635)) (r635 : gNth M 635 = some (.inl (1, .inl l635))) (g1 : gAt l635 (3 + a) = some y1) (g2 : gAt l635 (3 + b) = some y2) (hz : Ev none (e + 4) 228 69 [some (.ref 633), some (.int a), some (.int b), some (.int x), none] [.int 1, .int y2, .int y1, .ref 633] M v M' 0 0) : Ev none (e + 4) 228 51 [some (.ref 633), some (.int a), some (.int b), some (.int x), none] [] M v M' 0 0 := by
  refine Ev.step (pc' := 53) (ls' := [some (.ref 633), some (.int a), some (.int b), some (.int x), none]) (st' := [.ref 633, .ref 633]) (M1 := M) 2 (fun n => rfl) ?_
  refine Ev.step 1 (gs_3 rfl rfl (gf_g rfl hM v5)) ?_
  refine Ev.step (pc' := 59) (ls' := [some (.ref 633), some (.int a), some (.int b), some (.int x), none]) (st' := [.int (3 + a), .ref 635, .ref 633]) (M1 := M) 3 (fun n => rfl) ?_
  refine Ev.step 1 (gs_3 rfl rfl (ia_g r635 g1)) ?_
  refine Ev.step (pc' := 61) (ls' := [some (.ref 633), some (.int a), some (.int b), some (.int x), none]) (st' := [.ref 633, .int y1, .ref 633]) (M1 := M) 1 (fun n => rfl) ?_
  refine Ev.step 1 (gs_3 rfl rfl (gf_g rfl hM v5)) ?_
  refine Ev.step (pc' := 67) (ls' := [some (.ref 633), some (.int a), some (.int b), some (.int x), none]) (st' := [.int (3 + b), .ref 635, .int y1, .ref 633]) (M1 := M) 3 (fun n => rfl) ?_
  refine Ev.step 1 (gs_3 rfl rfl (ia_g r635 g2)) ?_
  refine Ev.step (pc' := 69) (ls' := [some (.ref 633), some (.int a), some (.int b), some (.int x), none]) (st' := [.int 1, .int y2, .int y1, .ref 633]) (M1 := M) 1 (fun n => rfl) ?_
  exact hz
theorem lg_72 {e : Nat} {M : Mem} {M' : Mem} {v : Option Value} {a b x y : Int32}  (hz : Ev none (e + 4) 228 74 [some (.ref 633), some (.int a), some (.int b), some (.int x), some (.int y)] [] M v M' 0 0) : Ev none (e + 4) 228 72 [some (.ref 633), some (.int a), some (.int b), some (.int x), none] [.int y] M v M' 0 0 := by
  refine Ev.step (pc' := 74) (ls' := [some (.ref 633), some (.int a), some (.int b), some (.int x), some (.int y)]) (st' := []) (M1 := M) 1 (fun n => rfl) ?_
  exact hz
theorem lg_74 {e : Nat} {M : Mem} {M' : Mem} {v : Option Value} {a b x y : Int32}  (hz : Ev none (e + 4) 228 (if 10000000 ≤ x then 89 else 81) [some (.ref 633), some (.int a), some (.int b), some (.int x), some (.int y)] [] M v M' 0 0) : Ev none (e + 4) 228 74 [some (.ref 633), some (.int a), some (.int b), some (.int x), some (.int y)] [] M v M' 0 0 := by
  refine Ev.step (pc' := (if 10000000 ≤ x then 89 else 81)) (ls' := [some (.ref 633), some (.int a), some (.int b), some (.int x), some (.int y)]) (st' := []) (M1 := M) 3 (fun n => rfl) ?_
  exact hz
theorem lg_81 {e : Nat} {M : Mem} {M' : Mem} {v : Option Value} {a b x y : Int32}  (hz : Ev none (e + 4) 228 (if y < 10000000 then 93 else 89) [some (.ref 633), some (.int a), some (.int b), some (.int x), some (.int y)] [] M v M' 0 0) : Ev none (e + 4) 228 81 [some (.ref 633), some (.int a), some (.int b), some (.int x), some (.int y)] [] M v M' 0 0 := by
  refine Ev.step (pc' := (if y < 10000000 then 93 else 89)) (ls' := [some (.ref 633), some (.int a), some (.int b), some (.int x), some (.int y)]) (st' := []) (M1 := M) 3 (fun n => rfl) ?_
  exact hz
theorem lg_89 {e : Nat} {M : Mem} {a b x y : Int32}  : Ev none (e + 4) 228 89 [some (.ref 633), some (.int a), some (.int b), some (.int x), some (.int y)] [] M (some (.int (-1))) M 0 0 := by
  refine Ev.step (pc' := 100) (ls' := [some (.ref 633), some (.int a), some (.int b), some (.int x), some (.int y)]) (st' := [.int (-1)]) (M1 := M) 2 (fun n => rfl) ?_
  exact Ev.ret (fun n => rfl)
theorem lg_93 {e : Nat} {M : Mem} {a b x y : Int32} (nz99 : ¬ x = 0) : Ev none (e + 4) 228 93 [some (.ref 633), some (.int a), some (.int b), some (.int x), some (.int y)] [] M (some (.int ((100 * y) / x))) M 0 0 := by
  refine Ev.step (pc' := 99) (ls' := [some (.ref 633), some (.int a), some (.int b), some (.int x), some (.int y)]) (st' := [.int x, .int (100 * y)]) (M1 := M) 4 (fun n => rfl) ?_
  refine Ev.step 1 (gs_0 (st' := [.int ((100 * y) / x)]) rfl rfl (show (if x = 0 then none else some _) = _ by rw [if_neg nz99])) ?_
  exact Ev.ret (fun n => rfl)
theorem cal_id {M : Mem} {vs : List Value} {a0 : Int32} {rest : List Value} (hM : gNth M 633 = some (.inr (11, vs))) (hr : gRoom rest = true) : gCal (.invokevirtual 340) 11 (.int a0 :: .ref 633 :: rest) M = some (.inr (152, [some (.ref 633), some (.int a0)], rest)) := by
  show @cond (Option ((List Value × Mem) ⊕ (Nat × Lo × List Value))) (true && gRecv M (.ref 633) 11 && gRoom rest && true) (some (.inr (152, [some (.ref 633), some (.int a0)], rest))) none = _
  rw [recv_ok hM, hr]
  rfl
theorem cal_sh {M : Mem} {vs : List Value} {a0 a1 a2 : Int32} {rest : List Value} (hM : gNth M 633 = some (.inr (11, vs))) (hr : gRoom rest = true) : gCal (.invokevirtual 469) 11 (.int a2 :: .int a1 :: .int a0 :: .ref 633 :: rest) M = some (.inr (227, [some (.ref 633), some (.int a0), some (.int a1), some (.int a2), none, none, none, none, none], rest)) := by
  show @cond (Option ((List Value × Mem) ⊕ (Nat × Lo × List Value))) (true && gRecv M (.ref 633) 11 && gRoom rest && true) (some (.inr (227, [some (.ref 633), some (.int a0), some (.int a1), some (.int a2), none, none, none, none, none], rest))) none = _
  rw [recv_ok hM, hr]
  rfl
theorem ev_isDoor {M : Mem} {e : Nat} {vs : List Value} {l : List Int32} {n a : Int32} (hM : gNth M 633 = some (.inr (11, vs))) (h5 : gNth vs 5 = some (.ref 635)) (hs : gNth M 635 = some (.inl (1, .inl l))) (h2 : gAt l 2 = some n) : Ev none (e + 1) 152 0 [some (.ref 633), some (.int a)] [] M (some (.int (if a < 0 then 0 else if n - 1 < a then 0 else 1))) M 0 0 := by
  refine id_0 hM h5 hs h2 (Ev.call0 (fun n => rfl) ev_isin ?_)
  by_cases c1 : a < 0
  · rw [if_pos c1]
    exact id_13z
  · rw [if_neg c1]
    by_cases c2 : n - 1 < a
    · rw [if_pos c2]
      exact id_13z
    · rw [if_neg c2]
      exact id_13o
def kX11_longer : CN := (228, 4, [.inr 1900, .inl (.negSucc 2147483647, .ofNat 2147483647), .inl (.negSucc 2147483647, .ofNat 2147483647)], [], [(28, [])], [(11, 0), (1083, 0)], [(some (.inl (.negSucc 2147483647, .ofNat 2147483647)), [], [], [], [])])
set_option maxRecDepth 100000 in
theorem mR_228 : (gNth mRs 228).map (fun q => q.2.2.2.1) = some 5 := by decide +kernel
theorem kX11_longer_ok : cnOK sT sG FL0 kX11_longer := by
  intro d M ws q hd hq ha hp hT
  have hm := mR_228
  have hq' : gNth mRs 228 = some q := hq
  rw [hq'] at hm
  have hm : q.2.2.2.1 = 5 := Option.some.inj hm
  obtain ⟨e, rfl⟩ : ∃ e, d = e + 4 := ⟨d - 4, by have : 4 ≤ d := hd; omega⟩
  rcases ws with _ | ⟨z0, _ | ⟨z1, _ | ⟨z2, _ | ⟨z3, r⟩⟩⟩⟩
  · exact ha.elim
  · exact ha.2.elim
  · exact ha.2.2.elim
  · obtain ⟨k1, ⟨a, rfl, _, _⟩, ⟨b, rfl, _, _⟩, _⟩ := ha
    have k1 : z0 = .ref 633 := k1
    subst k1
    obtain ⟨hv, hv0, hfl⟩ := hp
    obtain ⟨y28, z28, h28⟩ := hfl (28, []) (List.mem_cons_self ..)
    obtain ⟨vs, hM, hlen, hT1⟩ := hT.thr
    obtain ⟨M1, e1⟩ : ∃ M1, M1 = gPut M 633 (.inr (11, gPut vs 0 (.int 0))) := ⟨_, rfl⟩
    rw [← e1] at hT1
    have hF1 : Frm sT [(11, 0), (1083, 0)] M M1 := by rw [e1]; exact Frm.fld hM (by decide)
    have hF0 : Frm sT [(11, 0)] M M1 := by rw [e1]; exact Frm.fld hM (by decide)
    have h28 := dp0_frm 0 28 _ _ _ _ hF0 (by decide) h28
    obtain ⟨t2, l2, p1, p2, p3⟩ := fl0_28 h28
    obtain ⟨vs1, l, w, hh, m1, m2, m3, m4, m5, w1, w2, h1, h2⟩ := hT1.s_ref
    obtain ⟨vs1', l', m1', _, m3', sl⟩ := hT1.s_all
    have el : l' = l := by cases m3.symm.trans m3'; rfl
    subst el
    have el : l2 = l' := by cases p1.symm.trans m3; rfl
    subst el
    obtain ⟨n, n1, n2⟩ := at_c (l := l2) (j := 2) (kn := 2) rfl (by omega)
    obtain ⟨n0, n9⟩ := hT1.s_in m3 sB_2 n2
    rw [hm]
    have fin : ∀ (r : Int32) (M2 : Mem), TM sT sG M2 → Frm sT [(1083, 0)] M1 M2 → Ev none (e + 4) 228 5 [some (.ref 633), some (.int a), some (.int b), none, none] [] M1 (some (.int r)) M2 0 0 → ∃ v M', Ev none (e + 4) kX11_longer.1 0 (gPad 5 (gArgs [.ref 633, .int a, .int b])) [] M v M' 0 0 ∧ TM sT sG M' ∧ Frm sT kX11_longer.2.2.2.2.2.1 M M' ∧ ∃ s ∈ kX11_longer.2.2.2.2.2.2, csOK sT FL0 [.ref 633, .int a, .int b] v M' s ∧ dlOK kX11_longer.1 M M' := by
      intro r M2 q1 q2 q3
      obtain ⟨r1, r2⟩ := i32_any r
      refine ⟨some (.int r), M2, lg_0 hM hlen (by rw [← e1]; exact q3), q1, hF1.trans (q2.more (by decide)), _, List.mem_cons_self .., ⟨⟨r, rfl, r1, r2⟩, fun q hq => (by cases hq), [], trivial, fun f hf => (by cases hf), fun q hq => (by cases hq)⟩, cn_D rfl⟩
    have da := ev_isDoor (e := e + 2) (a := a) m1 m2 m3 n1
    rcases isin_01 a 0 (n - 1) with hz | ⟨a0, a9, hz⟩
    · rw [hz] at da
      exact fin (-2) M1 hT1 (Frm.refl _) (lg_5 (Ev.call0 (fun n => gs_7 rfl rfl (cal_id m1 rfl)) da (lg_10 (by rw [if_pos rfl]; exact lg_26))))
    rw [hz] at da
    have db := ev_isDoor (e := e + 2) (a := b) m1 m2 m3 n1
    rcases isin_01 b 0 (n - 1) with hz | ⟨b0, b9, hz⟩
    · rw [hz] at db
      exact fin (-2) M1 hT1 (Frm.refl _) (lg_5 (Ev.call0 (fun n => gs_7 rfl rfl (cal_id m1 rfl)) da (lg_10 (by rw [if_neg (by decide)]; exact lg_13 (Ev.call0 (fun n => gs_7 rfl rfl (cal_id m1 rfl)) db (lg_18 (by rw [if_pos rfl]; exact lg_26)))))))
    rw [hz] at db
    by_cases hab : a = b
    · exact fin (-2) M1 hT1 (Frm.refl _) (lg_5 (Ev.call0 (fun n => gs_7 rfl rfl (cal_id m1 rfl)) da (lg_10 (by rw [if_neg (by decide)]; exact lg_13 (Ev.call0 (fun n => gs_7 rfl rfl (cal_id m1 rfl)) db (lg_18 (by rw [if_neg (by decide)]; exact lg_21 (by rw [if_pos hab]; exact lg_26))))))))
    have o0 : (0 : Int32).toInt = 0 := rfl
    rw [Int32.le_iff_toInt_le] at a0 a9 b0 b9
    have dn : (n - 1).toInt = n.toInt - 1 := i32_m1 (by omega)
    obtain ⟨an, han⟩ : ∃ an : Nat, a.toInt = (an : Int) := ⟨a.toInt.toNat, by omega⟩
    obtain ⟨bn, hbn⟩ : ∃ bn : Nat, b.toInt = (bn : Int) := ⟨b.toInt.toNat, by omega⟩
    obtain ⟨_, hd⟩ := p3 w hh n m4 m5 n2
    obtain ⟨xa, xb, xa1, xb1, _, xab⟩ := hd an bn (by omega) (by omega)
    obtain ⟨_, xb9, _, xb2, xbc, _⟩ := hd bn an (by omega) (by omega)
    have hxb : xb.toInt < w.toInt * hh.toInt := by
      obtain ⟨u1, u2, u3, u4, u5, _⟩ := hd bn bn (by omega) (by omega)
      cases u3.symm.trans xb1
      exact u5
    have hne : xa ≠ xb := xab (fun e => hab (Int32.toInt_inj.mp (by omega)))
    obtain ⟨xa2, xa3⟩ := hT1.s_in m3 (List.all_eq_true.mp sB_d an (List.mem_range.mpr (by omega))) xa1
    obtain ⟨xb3, xb4⟩ := hT1.s_in m3 (List.all_eq_true.mp sB_d bn (List.mem_range.mpr (by omega))) xb1
    have o3 : (3 : Int32).toInt = 3 := rfl
    have e3a : (3 + a).toInt = ((3 + an : Nat) : Int) := by
      rw [i32_add (by rw [o3]; omega) (by rw [o3]; omega), o3]
      omega
    have e3b : (3 + b).toInt = ((3 + bn : Nat) : Int) := by
      rw [i32_add (by rw [o3]; omega) (by rw [o3]; omega), o3]
      omega
    have ga : gAt l2 (3 + a) = some xa := by rw [at_nn e3a]; exact xa1
    have gb : gAt l2 (3 + b) = some xb := by rw [at_nn e3b]; exact xb1
    obtain ⟨x, M2, s1, s2, s3, s4⟩ := ev_shortest (e := e) (a := xa) (b := xb) (f := 0) hT1 xa2 xa3 xb3 xb4
    have hx : 1 ≤ x.toInt := s4 hne (fun l9 w9 h9 q1 q2 q3 => by
      cases q1.symm.trans m3
      cases q2.symm.trans m4
      cases q3.symm.trans m5
      exact hxb)
    obtain ⟨vs2, l9, m1b, m2b, m3b, _⟩ := s2.s_all
    have hl9 := row_frm s3 sT_635 (by decide) m3
    have el : l9 = l2 := by cases hl9.symm.trans m3b; rfl
    subst el
    obtain ⟨y, M3, u1, u2, u3, _⟩ := ev_shortest (e := e) (a := xa) (b := xb) (f := 1) s2 xa2 xa3 xb3 xb4
    have tail : ∀ r : Int32, Ev none (e + 4) 228 74 [some (.ref 633), some (.int a), some (.int b), some (.int x), some (.int y)] [] M3 (some (.int r)) M3 0 0 → ∃ v M', Ev none (e + 4) kX11_longer.1 0 (gPad 5 (gArgs [.ref 633, .int a, .int b])) [] M v M' 0 0 ∧ TM sT sG M' ∧ Frm sT kX11_longer.2.2.2.2.2.1 M M' ∧ ∃ s ∈ kX11_longer.2.2.2.2.2.2, csOK sT FL0 [.ref 633, .int a, .int b] v M' s ∧ dlOK kX11_longer.1 M M' := fun r h => fin r M3 u2 (s3.trans u3) (lg_5 (Ev.call0 (fun n => gs_7 rfl rfl (cal_id m1 rfl)) da (lg_10 (by rw [if_neg (by decide)]; exact lg_13 (Ev.call0 (fun n => gs_7 rfl rfl (cal_id m1 rfl)) db (lg_18 (by rw [if_neg (by decide)]; exact lg_21 (by rw [if_neg hab]; exact lg_29 m1 m2 m3 ga gb (Ev.call0 (fun n => gs_7 rfl rfl (cal_sh m1 rfl)) s1 (lg_50 m1b m2b m3b ga gb (Ev.call0 (fun n => gs_7 rfl rfl (cal_sh m1b rfl)) u1 (lg_72 h))))))))))))
    by_cases c1 : (10000000 : Int32) ≤ x
    · exact tail (-1) (lg_74 (by rw [if_pos c1]; exact lg_89))
    by_cases c2 : y < 10000000
    · exact tail _ (lg_74 (by rw [if_neg c1]; exact lg_81 (by rw [if_pos c2]; exact lg_93 (fun h => by rw [h] at hx; exact absurd hx (by decide)))))
    · exact tail (-1) (lg_74 (by rw [if_neg c1]; exact lg_81 (by rw [if_neg c2]; exact lg_89)))
  · exact ha.2.2.2.elim
/-! CERTIFICATES (by program) -/
def kX11_rests : CN := (223, 10, [.inr 1900, .inl (.negSucc 2147483647, .ofNat 2147483647), .inl (.negSucc 2147483647, .ofNat 2147483647)], [], [(24, []), (28, [])], [(11, 0), (11, 34), (11, 35), (11, 36), (11, 37), (11, 38), (11, 39), (11, 41), (11, 42), (1063, 0), (1065, 0), (1077, 0), (1079, 0)], [(some (.inl (.negSucc 1, .ofNat 40)), [], [], [(28, [])], [])])
def kX11_rests_t : List (Nat × TP) := [(38, ([.inr (.inl (.inl 633)), .inl ([(0, .ofNat 1)], .ofNat 0), .inl ([(1, .ofNat 1)], .ofNat 0), .inl ([(2, .ofNat 1)], .ofNat 0), .inl ([(3, .ofNat 1)], .ofNat 0)], [], [(24, []), (28, []), (30, [])], [(.ofNat 1, .ofNat 40), (.ofNat 1, .ofNat 200), (.negSucc 0, .ofNat 40), (.ofNat 1, .ofNat 41)], [], [], [([], .ofNat 1), ([(3, .negSucc 0)], .ofNat 42)], [.inr (.inr 0), .inr (.inr 0), .inr (.inr 0)], []))]
set_option maxRecDepth 100000 in
theorem kX11_rests_ok : cnOK sT sG FL0 kX11_rests := ccM_V (Δ := [kX11_layAside, kX11_note, kX11_go, kX11_isNoted, kX11_layBack]) (n := 65) (N := 2) (cuts := kX11_rests_t) sU_ok dp0_ok ct0_ok (cons_ok kX11_layAside_ok (cons_ok kX11_note_ok (cons_ok kX11_go_ok (cons_ok kX11_isNoted_ok (cons_ok kX11_layBack_ok nil_ok))))) (by decide +kernel)
def kX11_turns : CN := (229, 10, [.inr 1900, .inl (.negSucc 2147483647, .ofNat 2147483647), .inl (.negSucc 2147483647, .ofNat 2147483647), .inl (.negSucc 2147483647, .ofNat 2147483647), .inl (.negSucc 2147483647, .ofNat 2147483647)], [], [(24, []), (28, [])], [(11, 0), (11, 34), (11, 35), (11, 36), (11, 37), (11, 38), (11, 39), (11, 41), (11, 42), (1063, 0), (1065, 0), (1070, 0), (1077, 0)], [(some (.inl (.negSucc 1, .ofNat 9)), [], [], [(28, [])], [])])
def kX11_turns_t : List (Nat × TP) := [(47, ([.inr (.inl (.inl 633)), .inl ([(0, .ofNat 1)], .ofNat 0), .inl ([(1, .ofNat 1)], .ofNat 0), .inl ([(2, .ofNat 1)], .ofNat 0), .inl ([(3, .ofNat 1)], .ofNat 0), .inl ([(4, .ofNat 1)], .ofNat 0), .inl ([(5, .ofNat 1)], .ofNat 0), .inr (.inr 0), .inr (.inr 0), .inr (.inr 0)], [], [(24, []), (28, [])], [(.ofNat 0, .ofNat 5), (.ofNat 1, .ofNat 4), (.ofNat 1, .ofNat 100), (.negSucc 2147483647, .ofNat 2147483647), (.negSucc 0, .ofNat 111), (.ofNat 16, .ofNat 112)], [], [], [([], .ofNat 2), ([(5, .negSucc 0)], .ofNat 113), ([], .ofNat 99), ([], .ofNat 0)], [.inr (.inr 0), .inr (.inr 0), .inr (.inr 0), .inr (.inr 0), .inr (.inr 0)], [])), (127, ([.inr (.inl (.inl 633)), .inr (.inr 0), .inl ([(0, .ofNat 1)], .ofNat 0), .inl ([(1, .ofNat 1)], .ofNat 0), .inl ([(2, .ofNat 1)], .ofNat 0), .inl ([(3, .ofNat 1)], .ofNat 0), .inl ([(4, .ofNat 1)], .ofNat 0), .inl ([(5, .ofNat 1)], .ofNat 0), .inl ([(6, .ofNat 1)], .ofNat 0), .inr (.inr 0)], [], [(24, []), (28, [])], [(.ofNat 1, .ofNat 4), (.ofNat 1, .ofNat 100), (.negSucc 2147483647, .ofNat 2147483647), (.ofNat 0, .ofNat 111), (.negSucc 2147483647, .ofNat 2147483647), (.negSucc 0, .ofNat 9), (.ofNat 0, .ofNat 10)], [], [], [([], .ofNat 1), ([(6, .negSucc 0)], .ofNat 11), ([], .ofNat 99), ([], .ofNat 0)], [.inr (.inr 0), .inr (.inr 0), .inr (.inr 0), .inr (.inr 0), .inr (.inr 0)], [])), (155, ([.inr (.inl (.inl 633)), .inr (.inr 0), .inl ([(0, .ofNat 1)], .ofNat 0), .inl ([(1, .ofNat 1)], .ofNat 0), .inl ([(2, .ofNat 1)], .ofNat 0), .inl ([(3, .ofNat 1)], .ofNat 0), .inl ([(4, .ofNat 1)], .ofNat 0), .inl ([(5, .ofNat 1)], .ofNat 0), .inl ([(6, .ofNat 1)], .ofNat 0), .inl ([(7, .ofNat 1)], .ofNat 0)], [], [(24, []), (28, []), (30, [])], [(.ofNat 1, .ofNat 4), (.ofNat 1, .ofNat 100), (.negSucc 2147483647, .ofNat 2147483647), (.ofNat 0, .ofNat 111), (.negSucc 2147483647, .ofNat 2147483647), (.negSucc 0, .negSucc 0), (.ofNat 0, .ofNat 9), (.ofNat 0, .ofNat 4)], [], [], [([], .ofNat 1), ([(6, .negSucc 0)], .ofNat 11), ([], .ofNat 1), ([(7, .negSucc 0)], .ofNat 5)], [.inr (.inr 0), .inr (.inr 0), .inr (.inr 0), .inr (.inr 0), .inr (.inr 0)], []))]
set_option maxRecDepth 100000 in
theorem kX11_turns_ok : cnOK sT sG FL0 kX11_turns := ccM_V (Δ := [kX11_layAside, kX11_go, kX11_wornMany, kX11_layBack]) (n := 91) (N := 4) (cuts := kX11_turns_t) sU_ok dp0_ok ct0_ok (cons_ok kX11_layAside_ok (cons_ok kX11_go_ok (cons_ok kX11_wornMany_ok (cons_ok kX11_layBack_ok nil_ok)))) (by decide +kernel)
def kX11_pave : CN := (230, 10, [.inr 1900, .inl (.ofNat 1, .ofNat 20), .inl (.ofNat 1, .ofNat 20), .inl (.ofNat 1, .ofNat 200)], [], [(24, []), (28, [])], [(11, 34), (11, 35), (11, 36), (11, 37), (11, 38), (11, 39), (11, 41), (11, 42), (11, 49), (11, 50), (11, 51), (1063, 0), (1065, 0), (1077, 0), (1080, 0), (1081, 0)], [(none, [], [], [(28, [])], [])])
def kX11_pave_t : List (Nat × TP) := [(7, ([.inr (.inl (.inl 633)), .inl ([(0, .ofNat 1)], .ofNat 0), .inl ([(1, .ofNat 1)], .ofNat 0), .inl ([(2, .ofNat 1)], .ofNat 0), .inl ([(3, .ofNat 1)], .ofNat 0)], [], [(24, []), (28, []), (30, [])], [(.ofNat 1, .ofNat 20), (.ofNat 1, .ofNat 20), (.ofNat 1, .ofNat 200), (.ofNat 1, .ofNat 21)], [], [], [([], .ofNat 2), ([(3, .negSucc 0)], .ofNat 22)], [.inr (.inr 0), .inr (.inr 0), .inr (.inr 0), .inr (.inr 0)], [])), (64, ([.inr (.inl (.inl 633)), .inr (.inr 0), .inr (.inr 0), .inr (.inr 0), .inl ([(0, .ofNat 1)], .ofNat 0)], [], [(24, []), (28, []), (30, [])], [(.ofNat 0, .ofNat 256)], [], [], [([], .ofNat 1), ([(0, .negSucc 0)], .ofNat 257)], [.inr (.inr 0), .inr (.inr 0), .inr (.inr 0), .inr (.inr 0)], []))]
set_option maxRecDepth 100000 in
theorem kX11_pave_ok : cnOK sT sG FL0 kX11_pave := ccM_V (Δ := [kX11_layAside, kX11_go, kX11_note, kX11_note__1, kX11_note__2, kX11_layBack]) (n := 260) (N := 2) (cuts := kX11_pave_t) sU_ok dp0_ok ct0_ok (cons_ok kX11_layAside_ok (cons_ok kX11_go_ok (cons_ok kX11_note_ok (cons_ok kX11_note__1_ok (cons_ok kX11_note__2_ok (cons_ok kX11_layBack_ok nil_ok)))))) (by decide +kernel)
def kX11_paved : CN := (231, 11, [.inr 1900, .inl (.negSucc 2147483647, .ofNat 2147483647), .inl (.negSucc 2147483647, .ofNat 2147483647), .inl (.negSucc 2147483647, .ofNat 2147483647), .inl (.negSucc 2147483647, .ofNat 2147483647)], [], [(24, []), (28, [])], [(11, 0), (11, 34), (11, 35), (11, 36), (11, 37), (11, 38), (11, 39), (11, 41), (11, 42), (11, 49), (11, 50), (11, 51), (1063, 0), (1065, 0), (1077, 0), (1080, 0), (1081, 0)], [(some (.inl (.negSucc 2147483647, .ofNat 2147483647)), [], [], [(28, [])], [])])
def kX11_paved_t : List (Nat × TP) := []
set_option maxRecDepth 100000 in
theorem kX11_paved_ok : cnOK sT sG FL0 kX11_paved := ccM_V (Δ := [kX11_pave]) (n := 128) (N := 0) (cuts := kX11_paved_t) sU_ok dp0_ok ct0_ok (cons_ok kX11_pave_ok nil_ok) (by decide +kernel)
def kX11_wait : CN := (232, 11, [.inr 1900, .inl (.negSucc 2147483647, .ofNat 2147483647), .inl (.negSucc 2147483647, .ofNat 2147483647)], [], [(24, []), (28, [])], [(11, 0), (11, 34), (11, 35), (11, 36), (11, 37), (11, 38), (11, 39), (11, 41), (11, 42), (11, 49), (11, 50), (11, 51), (1063, 0), (1065, 0), (1077, 0), (1080, 0), (1081, 0)], [(some (.inl (.negSucc 0, .ofNat 20)), [], [], [(28, [])], [])])
def kX11_wait_t : List (Nat × TP) := [(36, ([.inr (.inl (.inl 633)), .inl ([(0, .ofNat 1)], .ofNat 0), .inl ([(1, .ofNat 1)], .ofNat 0), .inl ([(2, .ofNat 1)], .ofNat 0), .inl ([(3, .ofNat 1)], .ofNat 0), .inl ([(4, .ofNat 1)], .ofNat 0), .inr (.inr 0)], [], [(24, []), (28, [])], [(.ofNat 1, .ofNat 20), (.ofNat 1, .ofNat 200), (.negSucc 0, .ofNat 20), (.negSucc 2147483647, .ofNat 2147483647), (.ofNat 1, .ofNat 21)], [], [], [([], .ofNat 1), ([(4, .negSucc 0)], .ofNat 22)], [.inr (.inr 0), .inr (.inr 0), .inr (.inr 0)], []))]
set_option maxRecDepth 100000 in
theorem kX11_wait_ok : cnOK sT sG FL0 kX11_wait := ccM_V (Δ := [kX11_pave]) (n := 65) (N := 2) (cuts := kX11_wait_t) sU_ok dp0_ok ct0_ok (cons_ok kX11_pave_ok nil_ok) (by decide +kernel)
def kX11_isTrod : CN := (233, 9, [.inr 1900, .inl (.negSucc 0, .ofNat 255), .inl (.negSucc 0, .ofNat 255), .inl (.ofNat 1, .ofNat 100)], [], [(24, []), (28, [])], [(11, 34), (11, 35), (11, 36), (11, 37), (11, 38), (11, 39), (11, 41), (11, 42), (1063, 0), (1065, 0), (1077, 0)], [(some (.inl (.ofNat 0, .ofNat 1)), [], [], [(28, [])], [])])
def kX11_isTrod_t : List (Nat × TP) := [(34, ([.inr (.inl (.inl 633)), .inr (.inr 0), .inr (.inr 0), .inl ([(0, .ofNat 1)], .ofNat 0), .inl ([(1, .ofNat 1)], .ofNat 0)], [], [(24, []), (28, []), (30, [])], [(.ofNat 1, .ofNat 100), (.ofNat 0, .ofNat 100)], [], [], [([], .ofNat 1), ([(1, .negSucc 0)], .ofNat 101)], [.inr (.inr 0), .inr (.inr 0), .inr (.inr 0), .inr (.inr 0)], []))]
set_option maxRecDepth 100000 in
theorem kX11_isTrod_ok : cnOK sT sG FL0 kX11_isTrod := ccM_V (Δ := [kX11_layAside, kX11_tick, kX11_layBack, kX11_of]) (n := 430) (N := 2) (cuts := kX11_isTrod_t) sU_ok dp0_ok ct0_ok (cons_ok kX11_layAside_ok (cons_ok kX11_tick_ok (cons_ok kX11_layBack_ok (cons_ok kX11_of_ok nil_ok)))) (by decide +kernel)
def kX11_fences : CN := (235, 10, [.inr 1900, .inl (.negSucc 2147483647, .ofNat 2147483647), .inl (.negSucc 2147483647, .ofNat 2147483647)], [], [(24, []), (28, [])], [(11, 0), (11, 2), (11, 3), (11, 4), (11, 34), (11, 35), (11, 36), (11, 37), (11, 38), (11, 39), (11, 40), (11, 41), (11, 42), (11, 53), (1063, 0), (1065, 0), (1077, 0), (1084, 0)], [(some (.inl (.negSucc 1, .ofNat 2)), [], [(.inl 633, 11, 2, .inl (.ofNat 0, .ofNat 0))], [(28, [])], [])])
def kX11_fences_t : List (Nat × TP) := [(45, ([.inr (.inl (.inl 633)), .inl ([(0, .ofNat 1)], .ofNat 0), .inl ([(1, .ofNat 1)], .ofNat 0), .inl ([(2, .ofNat 1)], .ofNat 0), .inr (.inr 0), .inr (.inr 0)], [(.inl 633, 11, 3, .inl ([(3, .ofNat 1)], .ofNat 0)), (.inl 633, 11, 2, .inl ([(4, .ofNat 1)], .ofNat 0)), (.inl 633, 11, 4, .inl ([(5, .ofNat 1)], .ofNat 0))], [(24, []), (28, [])], [(.ofNat 0, .ofNat 255), (.ofNat 1, .ofNat 100), (.ofNat 0, .ofNat 12), (.ofNat 1, .ofNat 12), (.ofNat 0, .ofNat 0), (.ofNat 0, .ofNat 0)], [], [], [([], .ofNat 3), ([(2, .negSucc 0)], .ofNat 13), ([], .ofNat 99), ([], .ofNat 0)], [.inr (.inr 0), .inr (.inr 0), .inr (.inr 0)], [])), (140, ([.inr (.inl (.inl 633)), .inr (.inr 0), .inl ([(0, .ofNat 1)], .ofNat 0), .inl ([(1, .ofNat 1)], .ofNat 0), .inl ([(2, .ofNat 1)], .ofNat 0), .inr (.inr 0)], [(.inl 633, 11, 4, .inl ([(3, .ofNat 1)], .ofNat 0)), (.inl 633, 11, 2, .inl ([(4, .ofNat 1)], .ofNat 0)), (.inl 633, 11, 3, .inl ([(5, .ofNat 1)], .ofNat 0))], [(24, []), (28, [])], [(.ofNat 1, .ofNat 100), (.negSucc 0, .ofNat 1), (.ofNat 0, .ofNat 12), (.ofNat 0, .ofNat 0), (.ofNat 0, .ofNat 0), (.ofNat 1, .ofNat 12)], [], [], [([], .ofNat 2), ([(2, .negSucc 0)], .ofNat 13), ([], .ofNat 99), ([], .ofNat 0)], [.inr (.inr 0), .inr (.inr 0), .inr (.inr 0)], [])), (190, ([.inr (.inl (.inl 633)), .inr (.inr 0), .inl ([(0, .ofNat 1)], .ofNat 0), .inl ([(1, .ofNat 1)], .ofNat 0), .inl ([(2, .ofNat 1)], .ofNat 0), .inr (.inr 0)], [(.inl 633, 11, 3, .inl ([(3, .ofNat 1)], .ofNat 0)), (.inl 633, 11, 2, .inl ([(4, .ofNat 1)], .ofNat 0)), (.inl 633, 11, 4, .inl ([(5, .ofNat 1)], .ofNat 0))], [(24, []), (28, [])], [(.ofNat 1, .ofNat 100), (.negSucc 0, .ofNat 2), (.ofNat 0, .ofNat 12), (.ofNat 1, .ofNat 12), (.ofNat 0, .ofNat 0), (.ofNat 0, .ofNat 0)], [], [], [([], .ofNat 1), ([(2, .negSucc 0)], .ofNat 13), ([], .ofNat 99), ([], .ofNat 0)], [.inr (.inr 0), .inr (.inr 0), .inr (.inr 0)], [])), (209, ([.inr (.inl (.inl 633)), .inr (.inr 0), .inl ([(0, .ofNat 1)], .ofNat 0), .inl ([(1, .ofNat 1)], .ofNat 0), .inl ([(2, .ofNat 1)], .ofNat 0), .inl ([(3, .ofNat 1)], .ofNat 0)], [(.inl 633, 11, 4, .inl ([(4, .ofNat 1)], .ofNat 0)), (.inl 633, 11, 2, .inl ([(5, .ofNat 1)], .ofNat 0)), (.inl 633, 11, 3, .inl ([(6, .ofNat 1)], .ofNat 0))], [(24, []), (28, [])], [(.ofNat 1, .ofNat 100), (.negSucc 0, .ofNat 2), (.ofNat 0, .ofNat 11), (.ofNat 1, .ofNat 12), (.ofNat 0, .ofNat 0), (.ofNat 0, .ofNat 0), (.ofNat 1, .ofNat 12)], [], [], [([], .ofNat 1), ([(2, .negSucc 0)], .ofNat 13), ([], .ofNat 1), ([(3, .negSucc 0)], .ofNat 13)], [.inr (.inr 0), .inr (.inr 0), .inr (.inr 0)], []))]
set_option maxRecDepth 100000 in
theorem kX11_fences_ok : cnOK sT sG FL0 kX11_fences := ccM_V (Δ := [kX11_octet, kX11_isDoorAt, kX11_isWalkerAt, kX11_isTrod, kX11_of]) (n := 137) (N := 4) (cuts := kX11_fences_t) sU_ok dp0_ok ct0_ok (cons_ok kX11_octet_ok (cons_ok kX11_isDoorAt_ok (cons_ok kX11_isWalkerAt_ok (cons_ok kX11_isTrod_ok (cons_ok kX11_of_ok nil_ok))))) (by decide +kernel)
def kX11_lasts : CN := (237, 10, [.inr 1900, .inl (.negSucc 2147483647, .ofNat 2147483647), .inl (.negSucc 2147483647, .ofNat 2147483647), .inl (.negSucc 2147483647, .ofNat 2147483647), .inl (.negSucc 2147483647, .ofNat 2147483647)], [], [(24, []), (28, [])], [(11, 0), (11, 34), (11, 35), (11, 36), (11, 37), (11, 38), (11, 39), (11, 41), (11, 42), (1063, 0), (1065, 0), (1077, 0)], [(some (.inl (.negSucc 1, .ofNat 40)), [], [], [(28, [])], [])])
def kX11_lasts_t : List (Nat × TP) := [(81, ([.inr (.inl (.inl 633)), .inr (.inr 0), .inl ([(0, .ofNat 1)], .ofNat 0), .inl ([(1, .ofNat 1)], .ofNat 0), .inl ([(2, .ofNat 1)], .ofNat 0), .inl ([(3, .ofNat 1)], .ofNat 0), .inl ([(4, .ofNat 1)], .ofNat 0)], [], [(24, []), (28, []), (30, [])], [(.ofNat 0, .ofNat 255), (.ofNat 1, .ofNat 40), (.ofNat 1, .ofNat 200), (.negSucc 0, .ofNat 40), (.ofNat 1, .ofNat 41)], [], [], [([], .ofNat 1), ([(4, .negSucc 0)], .ofNat 42)], [.inr (.inr 0), .inr (.inr 0), .inr (.inr 0), .inr (.inr 0), .inr (.inr 0)], []))]
set_option maxRecDepth 100000 in
theorem kX11_lasts_ok : cnOK sT sG FL0 kX11_lasts := ccM_V (Δ := [kX11_layAside, kX11_go, kX11_layBack, kX11_of]) (n := 197) (N := 2) (cuts := kX11_lasts_t) sU_ok dp0_ok ct0_ok (cons_ok kX11_layAside_ok (cons_ok kX11_go_ok (cons_ok kX11_layBack_ok (cons_ok kX11_of_ok nil_ok)))) (by decide +kernel)
def kX11_spread : CN := (219, 3, [.inr 1900], [], [], [(1078, 0)], [(none, [], [], [], [])])
def kX11_spread_I : List (Nat × TP) := [(10, ([.inr (.inl (.inl 633)), .inl ([(0, .ofNat 1)], .ofNat 0), .inl ([(1, .ofNat 1)], .ofNat 0), .inr (.inr 0)], [], [(42, [])], [(.ofNat 0, .ofNat 0), (.ofNat 0, .ofNat 256)], [], [], [([], .ofNat 1), ([], .ofNat 0), ([], .ofNat 1), ([(1, .negSucc 0)], .ofNat 257), ([], .ofNat 99), ([], .ofNat 0)], [.inr (.inr 0)], [])), (10, ([.inr (.inl (.inl 633)), .inl ([(0, .ofNat 1)], .ofNat 0), .inl ([(1, .ofNat 1)], .ofNat 0), .inr (.inr 0)], [], [(40, []), (42, [])], [(.ofNat 1, .ofNat 1), (.ofNat 1, .ofNat 256)], [], [], [([], .ofNat 1), ([], .ofNat 0), ([], .ofNat 1), ([(1, .negSucc 0)], .ofNat 257), ([], .ofNat 99), ([], .ofNat 0)], [.inr (.inr 0)], [])), (40, ([.inr (.inl (.inl 633)), .inl ([(0, .ofNat 1)], .ofNat 0), .inl ([(1, .ofNat 1)], .ofNat 0), .inl ([(2, .ofNat 1)], .ofNat 0)], [], [(42, [])], [(.ofNat 0, .ofNat 0), (.ofNat 0, .ofNat 255), (.ofNat 0, .ofNat 8), (.ofNat 0, .ofNat 0)], [], [], [([], .ofNat 1), ([], .ofNat 0), ([], .ofNat 1), ([(1, .negSucc 0)], .ofNat 257), ([], .ofNat 1), ([(2, .negSucc 0)], .ofNat 9)], [.inr (.inr 0)], [(650, ([(1, .ofNat 1)], .ofNat 0), .inl ([(3, .ofNat 1)], .ofNat 0))])), (40, ([.inr (.inl (.inl 633)), .inl ([(0, .ofNat 1)], .ofNat 0), .inl ([(1, .ofNat 1)], .ofNat 0), .inl ([(2, .ofNat 1)], .ofNat 0)], [], [(40, []), (42, [])], [(.ofNat 0, .ofNat 0), (.ofNat 0, .ofNat 255), (.ofNat 1, .ofNat 8), (.ofNat 1, .ofNat 1)], [], [], [([], .ofNat 1), ([], .ofNat 0), ([], .ofNat 1), ([(1, .negSucc 0)], .ofNat 257), ([], .ofNat 1), ([(2, .negSucc 0)], .ofNat 9)], [.inr (.inr 0)], [(650, ([(1, .ofNat 1)], .ofNat 0), .inl ([(3, .ofNat 1)], .ofNat 0))])), (40, ([.inr (.inl (.inl 633)), .inl ([(0, .ofNat 1)], .ofNat 0), .inl ([(1, .ofNat 1)], .ofNat 0), .inl ([(2, .ofNat 1)], .ofNat 0)], [], [(40, []), (42, [])], [(.ofNat 1, .ofNat 1), (.ofNat 1, .ofNat 255), (.ofNat 0, .ofNat 8), (.ofNat 0, .ofNat 1)], [], [], [([], .ofNat 1), ([], .ofNat 0), ([], .ofNat 1), ([(1, .negSucc 0)], .ofNat 257), ([], .ofNat 1), ([(2, .negSucc 0)], .ofNat 9)], [.inr (.inr 0)], [(650, ([(1, .ofNat 1)], .ofNat 0), .inl ([(3, .ofNat 1)], .ofNat 0))]))]
def kX11_spread_P : List (Nat × TP) := []
def kX11_spread_H : TP := ([.inr (.inl (.inl 633)), .inl ([(0, .ofNat 1)], .ofNat 0), .inr (.inr 0), .inr (.inr 0)], [], [], [(.ofNat 1, .ofNat 1)], [], [], [([], .ofNat 1), ([], .ofNat 0), ([], .ofNat 99), ([], .ofNat 0), ([], .ofNat 0), ([], .ofNat 0)], [.inr (.inr 0)], [])
def kX11_spread_Z : TP := ([.inr (.inl (.inl 633)), .inl ([(0, .ofNat 1)], .ofNat 0), .inr (.inr 0), .inr (.inr 0)], [], [], [(.ofNat 0, .ofNat 0)], [], [], [([], .ofNat 0), ([], .ofNat 0), ([], .ofNat 0), ([], .ofNat 0), ([], .ofNat 0), ([], .ofNat 0)], [.inr (.inr 0)], [])
set_option maxRecDepth 100000 in
theorem kX11_spread_ok : cnOK sT sG FL0 kX11_spread := ccW_V (Δ := [kX11_beside, kX11_of]) (cons_ok kX11_beside_ok (cons_ok kX11_of_ok nil_ok)) (n := 84) (N := 6) (h := 2) (a := 650) (fi := 42) (f := mB) (P := kX11_spread_P) (I := kX11_spread_I) (tH := kX11_spread_H) (t0 := kX11_spread_Z) fl_42 fl_40 ha_mark (by decide +kernel)
def kX11_pieces : CN := (218, 4, [.inr 1900], [], [], [(11, 0), (1078, 0)], [(some (.inl (.ofNat 0, .ofNat 256)), [], [], [], [])])
def kX11_pieces_t : List (Nat × TP) := [(7, ([.inr (.inl (.inl 633)), .inl ([(0, .ofNat 1)], .ofNat 0), .inr (.inr 0)], [], [], [(.ofNat 0, .ofNat 256)], [], [], [([], .ofNat 2), ([(0, .negSucc 0)], .ofNat 257)], [.inr (.inr 0)], [])), (32, ([.inr (.inl (.inl 633)), .inl ([(0, .ofNat 1)], .ofNat 0), .inl ([(1, .ofNat 1)], .ofNat 0)], [], [], [(.ofNat 0, .ofNat 256), (.ofNat 0, .ofNat 256)], [], [([(1, .ofNat 1), (0, .negSucc 0)], .ofNat 0)], [([], .ofNat 1), ([(1, .negSucc 0)], .ofNat 257)], [.inr (.inr 0)], []))]
set_option maxRecDepth 100000 in
theorem kX11_pieces_ok : cnOK sT sG FL0 kX11_pieces := ccM_V (Δ := [kX11_spread, kX11_of]) (n := 61) (N := 2) (cuts := kX11_pieces_t) sU_ok dp0_ok ct0_ok (cons_ok kX11_spread_ok (cons_ok kX11_of_ok nil_ok)) (by decide +kernel)
def kX11_least : CN := (225, 4, [.inr 1900], [], [], [(11, 0), (11, 2), (11, 3), (11, 4), (1082, 0)], [(some (.inl (.negSucc 2147483647, .ofNat 9999999)), [], [(.inl 633, 11, 2, .inl (.ofNat 0, .ofNat 0))], [], [])])
def kX11_least_t : List (Nat × TP) := [(27, ([.inr (.inl (.inl 633)), .inl ([(0, .ofNat 1)], .ofNat 0), .inr (.inr 0), .inr (.inr 0), .inr (.inr 0), .inr (.inr 0), .inr (.inr 0), .inr (.inr 0)], [(.inl 633, 11, 3, .inl ([(1, .ofNat 1)], .ofNat 0)), (.inl 633, 11, 2, .inl ([(2, .ofNat 1)], .ofNat 0)), (.inl 633, 11, 4, .inl ([(3, .ofNat 1)], .ofNat 0))], [], [(.ofNat 0, .ofNat 6), (.ofNat 2, .ofNat 6), (.ofNat 0, .ofNat 0), (.ofNat 0, .ofNat 0)], [], [], [([], .ofNat 3), ([(0, .negSucc 0)], .ofNat 7), ([], .ofNat 99), ([], .ofNat 0), ([], .ofNat 0), ([], .ofNat 0)], [.inr (.inr 0)], [])), (52, ([.inr (.inl (.inl 633)), .inl ([(0, .ofNat 1)], .ofNat 0), .inl ([(1, .ofNat 1)], .ofNat 0), .inr (.inr 0), .inr (.inr 0), .inr (.inr 0), .inr (.inr 0), .inr (.inr 0)], [(.inl 633, 11, 4, .inl ([(2, .ofNat 1)], .ofNat 0)), (.inl 633, 11, 2, .inl ([(3, .ofNat 1)], .ofNat 0)), (.inl 633, 11, 3, .inl ([(4, .ofNat 1)], .ofNat 0))], [], [(.ofNat 0, .ofNat 5), (.ofNat 0, .ofNat 5), (.ofNat 0, .ofNat 0), (.ofNat 0, .ofNat 0), (.ofNat 2, .ofNat 6)], [], [], [([], .ofNat 3), ([(0, .negSucc 0)], .ofNat 7), ([], .ofNat 1), ([(1, .negSucc 0)], .ofNat 6), ([], .ofNat 99), ([], .ofNat 0)], [.inr (.inr 0)], [])), (101, ([.inr (.inl (.inl 633)), .inl ([(0, .ofNat 1)], .ofNat 0), .inl ([(1, .ofNat 1)], .ofNat 0), .inl ([(2, .ofNat 1)], .ofNat 0), .inr (.inr 0), .inr (.inr 0), .inr (.inr 0), .inr (.inr 0)], [(.inl 633, 11, 4, .inl ([(3, .ofNat 1)], .ofNat 0)), (.inl 633, 11, 2, .inl ([(4, .ofNat 1)], .ofNat 0)), (.inl 633, 11, 3, .inl ([(5, .ofNat 1)], .ofNat 0))], [], [(.ofNat 16, .ofNat 256), (.ofNat 3, .ofNat 63), (.ofNat 1, .ofNat 64), (.ofNat 0, .ofNat 0), (.ofNat 0, .ofNat 0), (.ofNat 2, .ofNat 6)], [], [], [([], .ofNat 2), ([(2, .negSucc 0)], .ofNat 65), ([], .ofNat 99), ([], .ofNat 0), ([], .ofNat 0), ([], .ofNat 0)], [.inr (.inr 0)], [])), (109, ([.inr (.inl (.inl 633)), .inl ([(0, .ofNat 1)], .ofNat 0), .inl ([(1, .ofNat 1)], .ofNat 0), .inl ([(2, .ofNat 1)], .ofNat 0), .inl ([(3, .ofNat 1)], .ofNat 0), .inr (.inr 0), .inr (.inr 0), .inr (.inr 0)], [(.inl 633, 11, 3, .inl ([(4, .ofNat 1)], .ofNat 0)), (.inl 633, 11, 2, .inl ([(5, .ofNat 1)], .ofNat 0)), (.inl 633, 11, 4, .inl ([(6, .ofNat 1)], .ofNat 0))], [], [(.ofNat 16, .ofNat 256), (.ofNat 3, .ofNat 63), (.ofNat 1, .ofNat 63), (.ofNat 0, .ofNat 256), (.ofNat 2, .ofNat 6), (.ofNat 0, .ofNat 0), (.ofNat 0, .ofNat 0)], [], [([(1, .ofNat 1), (2, .negSucc 0)], .ofNat 0)], [([], .ofNat 2), ([(2, .negSucc 0)], .ofNat 65), ([], .ofNat 1), ([(3, .negSucc 0)], .ofNat 257), ([], .ofNat 99), ([], .ofNat 0)], [.inr (.inr 0)], [])), (123, ([.inr (.inl (.inl 633)), .inl ([(0, .ofNat 1)], .ofNat 0), .inl ([(1, .ofNat 1)], .ofNat 0), .inl ([(2, .ofNat 1)], .ofNat 0), .inl ([(3, .ofNat 1)], .ofNat 0), .inl ([(4, .ofNat 1)], .ofNat 0), .inl ([(5, .ofNat 1)], .ofNat 0), .inr (.inr 0)], [(.inl 633, 11, 4, .inl ([(6, .ofNat 1)], .ofNat 0)), (.inl 633, 11, 2, .inl ([(7, .ofNat 1)], .ofNat 0)), (.inl 633, 11, 3, .inl ([(8, .ofNat 1)], .ofNat 0))], [], [(.ofNat 16, .ofNat 256), (.ofNat 3, .ofNat 63), (.ofNat 1, .ofNat 63), (.ofNat 0, .ofNat 255), (.ofNat 1, .ofNat 10000000), (.ofNat 0, .ofNat 6), (.ofNat 0, .ofNat 0), (.ofNat 0, .ofNat 0), (.ofNat 2, .ofNat 6)], [], [([(0, .ofNat 1), (3, .negSucc 0)], .negSucc 0), ([(1, .ofNat 1), (2, .negSucc 0)], .ofNat 0)], [([], .ofNat 2), ([(2, .negSucc 0)], .ofNat 65), ([], .ofNat 1), ([(3, .negSucc 0)], .ofNat 257), ([], .ofNat 2), ([(5, .negSucc 0)], .ofNat 7)], [.inr (.inr 0)], [])), (179, ([.inr (.inl (.inl 633)), .inl ([(0, .ofNat 1)], .ofNat 0), .inl ([(1, .ofNat 1)], .ofNat 0), .inl ([(2, .ofNat 1)], .ofNat 0), .inl ([(3, .ofNat 1)], .ofNat 0), .inl ([(4, .ofNat 1)], .ofNat 0), .inl ([(5, .ofNat 1)], .ofNat 0), .inr (.inr 0)], [(.inl 633, 11, 3, .inl ([(6, .ofNat 1)], .ofNat 0)), (.inl 633, 11, 2, .inl ([(7, .ofNat 1)], .ofNat 0)), (.inl 633, 11, 4, .inl ([(8, .ofNat 1)], .ofNat 0))], [], [(.ofNat 16, .ofNat 256), (.ofNat 3, .ofNat 63), (.ofNat 1, .ofNat 63), (.ofNat 0, .ofNat 255), (.negSucc 2147483647, .ofNat 10000000), (.ofNat 0, .ofNat 62), (.ofNat 2, .ofNat 6), (.ofNat 0, .ofNat 0), (.ofNat 0, .ofNat 0)], [], [([(1, .ofNat 1), (2, .negSucc 0)], .ofNat 0)], [([], .ofNat 2), ([(2, .negSucc 0)], .ofNat 65), ([], .ofNat 1), ([(3, .negSucc 0)], .ofNat 257), ([], .ofNat 1), ([(5, .ofNat 1)], .ofNat 0)], [.inr (.inr 0)], [])), (297, ([.inr (.inl (.inl 633)), .inl ([(0, .ofNat 1)], .ofNat 0), .inl ([(1, .ofNat 1)], .ofNat 0), .inl ([(2, .ofNat 1)], .ofNat 0), .inl ([(3, .ofNat 1)], .ofNat 0), .inr (.inr 0), .inr (.inr 0), .inr (.inr 0)], [(.inl 633, 11, 3, .inl ([(4, .ofNat 1)], .ofNat 0)), (.inl 633, 11, 2, .inl ([(5, .ofNat 1)], .ofNat 0)), (.inl 633, 11, 4, .inl ([(6, .ofNat 1)], .ofNat 0))], [], [(.ofNat 16, .ofNat 256), (.ofNat 3, .ofNat 63), (.negSucc 2147483647, .ofNat 2147483647), (.ofNat 0, .ofNat 256), (.ofNat 2, .ofNat 6), (.ofNat 0, .ofNat 0), (.ofNat 0, .ofNat 0)], [], [], [([], .ofNat 1), ([(3, .negSucc 0)], .ofNat 257), ([], .ofNat 99), ([], .ofNat 0), ([], .ofNat 0), ([], .ofNat 0)], [.inr (.inr 0)], []))]
set_option maxRecDepth 100000 in
theorem kX11_least_ok : cnOK sT sG FL0 kX11_least := ccM_V (Δ := [kX11_octet, kX11_price, kX11_widen]) (n := 69) (N := 6) (cuts := kX11_least_t) sU_ok dp0_ok ct0_ok (cons_ok kX11_octet_ok (cons_ok kX11_price_ok (cons_ok kX11_widen_ok nil_ok))) (by decide +kernel)
/-! BY HAND: park of the reference -/
theorem pk_74 {e : Nat} {M : Mem} {M' : Mem} {v : Option Value} {h i w : Int32}  (hz : Ev none e 155 (if 2314 ≤ i then 94 else 81) [some (.ref 633), some (.int w), some (.int h), some (.int i)] [] M v M' 0 0) : Ev none e 155 74 [some (.ref 633), some (.int w), some (.int h), some (.int i)] [] M v M' 0 0 := by
  refine Ev.step (pc' := (if 2314 ≤ i then 94 else 81)) (ls' := [some (.ref 633), some (.int w), some (.int h), some (.int i)]) (st' := []) (M1 := M) 3 (fun n => rfl) ?_
  exact hz
theorem pk_81 {e : Nat} {M : Mem} {M' : Mem} {v : Option Value} {vs : List Value} {h i w y1 : Int32} {l635 : List Int32} (hM : gNth M 633 = some (.inr (11, vs))) (v5 : gNth vs 5 = some (.ref 635)) (r635 : gNth M 635 = some (.inl (1, .inl l635))) (g1 : gAt l635 i = some y1) (hz : Ev none e 155 74 [some (.ref 633), some (.int w), some (.int h), some (.int (i + 1))] [] (gPut M 635 (.inl (1, .inl (gPut l635 i.toNatClampNeg 0)))) v M' 0 0) : Ev none e 155 81 [some (.ref 633), some (.int w), some (.int h), some (.int i)] [] M v M' 0 0 := by
  refine Ev.step (pc' := 82) (ls' := [some (.ref 633), some (.int w), some (.int h), some (.int i)]) (st' := [.ref 633]) (M1 := M) 1 (fun n => rfl) ?_
  refine Ev.step 1 (gs_3 rfl rfl (gf_g rfl hM v5)) ?_
  refine Ev.step (pc' := 87) (ls' := [some (.ref 633), some (.int w), some (.int h), some (.int i)]) (st' := [.int 0, .int i, .ref 635]) (M1 := M) 2 (fun n => rfl) ?_
  refine Ev.step 1 (gs_4 rfl rfl (is_g r635 g1)) ?_
  refine Ev.step (pc' := 74) (ls' := [some (.ref 633), some (.int w), some (.int h), some (.int (i + 1))]) (st' := []) (M1 := (gPut M 635 (.inl (1, .inl (gPut l635 i.toNatClampNeg 0))))) 2 (fun n => rfl) ?_
  exact hz
theorem pk_94 {e : Nat} {M : Mem} {M' : Mem} {v : Option Value} {vs : List Value} {h i w y1 : Int32} {l635 : List Int32} (hM : gNth M 633 = some (.inr (11, vs))) (v5 : gNth vs 5 = some (.ref 635)) (r635 : gNth M 635 = some (.inl (1, .inl l635))) (g1 : gAt l635 0 = some y1) (hz : Ev none e 155 101 [some (.ref 633), some (.int w), some (.int h), some (.int i)] [] (gPut M 635 (.inl (1, .inl (gPut l635 (0 : Int32).toNatClampNeg w)))) v M' 0 0) : Ev none e 155 94 [some (.ref 633), some (.int w), some (.int h), some (.int i)] [] M v M' 0 0 := by
  refine Ev.step (pc' := 95) (ls' := [some (.ref 633), some (.int w), some (.int h), some (.int i)]) (st' := [.ref 633]) (M1 := M) 1 (fun n => rfl) ?_
  refine Ev.step 1 (gs_3 rfl rfl (gf_g rfl hM v5)) ?_
  refine Ev.step (pc' := 100) (ls' := [some (.ref 633), some (.int w), some (.int h), some (.int i)]) (st' := [.int w, .int 0, .ref 635]) (M1 := M) 2 (fun n => rfl) ?_
  refine Ev.step 1 (gs_4 rfl rfl (is_g r635 g1)) ?_
  exact hz
theorem pk_101 {e : Nat} {M : Mem} {M' : Mem} {v : Option Value} {vs : List Value} {h i w y1 : Int32} {l635 : List Int32} (hM : gNth M 633 = some (.inr (11, vs))) (v5 : gNth vs 5 = some (.ref 635)) (r635 : gNth M 635 = some (.inl (1, .inl l635))) (g1 : gAt l635 1 = some y1) (hz : Ev none e 155 110 [some (.ref 633), some (.int w), some (.int h), some (.int 0)] [] (gPut M 635 (.inl (1, .inl (gPut l635 (1 : Int32).toNatClampNeg h)))) v M' 0 0) : Ev none e 155 101 [some (.ref 633), some (.int w), some (.int h), some (.int i)] [] M v M' 0 0 := by
  refine Ev.step (pc' := 102) (ls' := [some (.ref 633), some (.int w), some (.int h), some (.int i)]) (st' := [.ref 633]) (M1 := M) 1 (fun n => rfl) ?_
  refine Ev.step 1 (gs_3 rfl rfl (gf_g rfl hM v5)) ?_
  refine Ev.step (pc' := 107) (ls' := [some (.ref 633), some (.int w), some (.int h), some (.int i)]) (st' := [.int h, .int 1, .ref 635]) (M1 := M) 2 (fun n => rfl) ?_
  refine Ev.step 1 (gs_4 rfl rfl (is_g r635 g1)) ?_
  refine Ev.step (pc' := 110) (ls' := [some (.ref 633), some (.int w), some (.int h), some (.int 0)]) (st' := []) (M1 := (gPut M 635 (.inl (1, .inl (gPut l635 (1 : Int32).toNatClampNeg h))))) 2 (fun n => rfl) ?_
  exact hz
theorem pt_put {α : Type} (M : List α) (a : Nat) (x y : α) : gPut (gPut M a x) a y = gPut M a y := by
  refine nthx (fun i => ?_)
  rw [nth_put, nth_put, nth_put, put_len]
  by_cases h : i = a ∧ a < M.length
  · rw [if_pos h, if_pos h]
  · rw [if_neg h, if_neg h, if_neg h]
/-- the first n places are 0 -/
def ZrP (n : Nat) (l : List Int32) : Prop := l.length = 2314 ∧ ∀ i, i < n → gNth l i = some 0
set_option maxRecDepth 100000 in
theorem sS_0 : ((List.range 2312).all (fun j => match sgAt sS (2 + j) with
  | some p => decide (p.1 ≤ 0) && decide (0 ≤ p.2)
  | none => false)) = true := by decide +kernel
set_option maxRecDepth 100000 in
theorem sS_wh : sgAt sS 0 = some (4, 16) ∧ sgAt sS 1 = some (4, 16) := ⟨rfl, rfl⟩
/-- an empty park -/
theorem empty_s {l : List Int32} (hl : ZrP 2314 l) {w h : Int32} (w1 : 4 ≤ w.toInt) (w2 : w.toInt ≤ 16) (h1 : 4 ≤ h.toInt) (h2 : h.toInt ≤ 16) : goodS (gPut (gPut l 0 w) 1 h) := by
  have get : ∀ i y, gNth (gPut (gPut l 0 w) 1 h) i = some y → (i = 0 ∧ y = w) ∨ (i = 1 ∧ y = h) ∨ (2 ≤ i ∧ i < 2314 ∧ y = 0) := by
    intro i y hy
    have hi := gNth_lt _ _ _ hy
    rw [put_len, put_len, hl.1] at hi
    rw [nth_put, nth_put, put_len] at hy
    by_cases c1 : i = 1
    · rw [if_pos ⟨c1, by have := hl.1; omega⟩] at hy
      exact Or.inr (Or.inl ⟨c1, (Option.some.inj hy).symm⟩)
    · rw [if_neg (fun q => c1 q.1)] at hy
      by_cases c0 : i = 0
      · rw [if_pos ⟨c0, by have := hl.1; omega⟩] at hy
        exact Or.inl ⟨c0, (Option.some.inj hy).symm⟩
      · rw [if_neg (fun q => c0 q.1), hl.2 i hi] at hy
        exact Or.inr (Or.inr ⟨by omega, hi, (Option.some.inj hy).symm⟩)
  refine ⟨by rw [put_len, put_len]; exact hl.1, fun i y hy => ?_, fun p p1 p2 p3 y hy hy1 => ?_, fun a b n ha hb hn => ?_⟩
  · rcases get i y hy with ⟨rfl, rfl⟩ | ⟨rfl, rfl⟩ | ⟨i2, i3, rfl⟩
    · exact ⟨_, sS_wh.1, w1, w2⟩
    · exact ⟨_, sS_wh.2, h1, h2⟩
    · have h4 := List.all_eq_true.mp sS_0 (i - 2) (List.mem_range.mpr (by omega))
      rw [show 2 + (i - 2) = i by omega] at h4
      cases hp : sgAt sS i with
      | none => rw [hp] at h4; cases h4
      | some p =>
        rw [hp] at h4
        obtain ⟨h5, h6⟩ := and_t h4
        exact ⟨p, rfl, of_decide_eq_true h5, of_decide_eq_true h6⟩
  · rcases get _ _ hy with ⟨q, _⟩ | ⟨q, _⟩ | ⟨_, _, rfl⟩
    · omega
    · omega
    · exact absurd hy1 (by decide)
  · rcases get _ _ hn with ⟨q, _⟩ | ⟨q, _⟩ | ⟨_, _, rfl⟩
    · omega
    · omega
    · refine ⟨by decide, fun i j hi => ?_⟩
      have : (0 : Int32).toInt = 0 := rfl
      omega
/-- s laid anew -/
theorem TM.s_new {M : Mem} (hT : TM sT sG M) {l : List Int32} (hg : goodS l) : TM sT sG (gPut M 635 (.inl (1, .inl l))) := by
  refine hT.put (fun g2 t w1 w2 => ?_)
  rw [sT_635] at w1
  cases w1
  rw [sS_eq] at w2
  cases w2
  exact ct_mk (by decide) hg.1 (fun j x hj => hg.2.1 j x hj)
theorem prk_loop {e : Nat} {w h : Int32} {Q : Option Value → Mem → Prop} {Mb : Mem} (hT : TM sT sG Mb) (w1 : 4 ≤ w.toInt) (w2 : w.toInt ≤ 16) (h1 : 4 ≤ h.toInt) (h2 : h.toInt ≤ 16) (hQ : ∀ l, goodS l → RF Q [] e 155 110 [some (.ref 633), some (.int w), some (.int h), some (.int 0)] [] (gPut Mb 635 (.inl (1, .inl l)))) : ∀ (j inn : Nat) (i : Int32) (l : List Int32), ZrP inn l → i.toInt = (inn : Int) → inn + j = 2314 → RF Q [] e 155 74 [some (.ref 633), some (.int w), some (.int h), some (.int i)] [] (gPut Mb 635 (.inl (1, .inl l))) := by
  intro j
  have o : (2314 : Int32).toInt = 2314 := rfl
  obtain ⟨vs, lb, hM, h5, hs, sl⟩ := hT.s_all
  have hlt := gNth_lt _ _ _ hs
  have a1 : ∀ x : AE, gNth (gPut Mb 635 x) 633 = some (.inr (11, vs)) := fun x => by rw [nth_put, if_neg (fun q => absurd q.1 (by decide))]; exact hM
  have a2 : ∀ x : AE, gNth (gPut Mb 635 x) 635 = some x := fun x => by rw [nth_put, if_pos ⟨rfl, hlt⟩]
  induction j with
  | zero =>
    intro inn i l hz hi hj
    have h9 : inn = 2314 := by omega
    subst h9
    refine RF.pre (fun v M' hz => pk_74 hz) ?_
    rw [if_pos (by rw [Int32.le_iff_toInt_le, o]; omega)]
    obtain ⟨y, y1, y2⟩ := at_c (l := l) (j := 0) (kn := 0) rfl (by have := hz.1; omega)
    obtain ⟨z, z1, z2⟩ := at_c (l := gPut l 0 w) (j := 1) (kn := 1) rfl (by rw [put_len]; have := hz.1; omega)
    refine RF.pre (fun v M' hz => pk_94 (a1 _) h5 (a2 _) y1 hz) ?_
    rw [cl_n (j := 0) (kn := 0) rfl, pt_put]
    refine RF.pre (fun v M' hz => pk_101 (a1 _) h5 (a2 _) z1 hz) ?_
    rw [cl_n (j := 1) (kn := 1) rfl, pt_put]
    exact hQ _ (empty_s hz w1 w2 h1 h2)
  | succ j ih =>
    intro inn i l hz hi hj
    refine RF.pre (fun v M' hz => pk_74 hz) ?_
    rw [if_neg (by rw [Int32.le_iff_toInt_le, o]; omega)]
    obtain ⟨y, y1, y2⟩ := at_c (l := l) hi (by have := hz.1; omega)
    refine RF.pre (fun v M' hz => pk_81 (a1 _) h5 (a2 _) y1 hz) ?_
    rw [cl_n hi, pt_put]
    have e1 : (i + 1).toInt = i.toInt + 1 := i32_p1 (by omega)
    refine ih (inn + 1) (i + 1) _ ⟨by rw [put_len]; exact hz.1, fun k hk => ?_⟩ (by omega) (by omega)
    rw [nth_put]
    by_cases hki : k = inn
    · rw [if_pos ⟨hki, by have := hz.1; omega⟩]
    · rw [if_neg (fun q => hki q.1)]
      exact hz.2 k (by omega)
theorem kX11_park_ok : cnOK sT sG FL0 kX11_park := by
  refine ccX_V sU_ok dp0_ok ct0_ok kX11_park_D_ok kX11_park_chk (fun d M ws hD rB x hx cl M' hc => ?_)
  cases List.mem_singleton.mp hx
  obtain ⟨ρ, π, i0, i1, i2, hF⟩ := hc
  rcases cl with _ | ⟨c0, _ | ⟨c1, _ | ⟨c2, _ | ⟨c3, _ | ⟨c4, cl⟩⟩⟩⟩⟩
  · exact i1.elim
  · exact i1.2.elim
  · exact i1.2.2.elim
  · exact i1.2.2.2.elim
  rotate_left
  · exact i1.2.2.2.2.elim
  obtain ⟨⟨x0, rfl, a0, r0, rfl⟩, ⟨x1, rfl, w, rfl, lw⟩, ⟨x2, rfl, h, rfl, lh⟩, ⟨x3, rfl, i, rfl, li⟩, _⟩ := i1
  cases r0
  have hg := i2.2.2.1
  obtain ⟨w1, w2⟩ := liI_V hg (a := 4) (b := 16) rfl lw
  obtain ⟨h1, h2⟩ := liI_V hg (a := 4) (b := 16) rfl lh
  obtain ⟨z1, z2⟩ := liI_V hg (a := 0) (b := 0) rfl li
  have hi : i = 0 := Int32.toInt_inj.mp (show i.toInt = 0 by omega)
  subst hi
  have hT := i2.2.2.2.2.2
  obtain ⟨b0, rb0, ci, vs, v4, hM, v4e, p, rfl, lp⟩ := i2.1 ((.inl 633), .inl 4, .inl ([(3, .ofNat 1)], .ofNat 0)) (List.mem_cons_self ..)
  cases rb0
  obtain ⟨b1, rb1, ci1, vs1, v2, hM1, v2e, ln, rfl, lln⟩ := i2.1 ((.inl 633), .inl 2, .inl ([(4, .ofNat 1)], .ofNat 0)) (List.mem_cons_of_mem _ (List.mem_cons_self ..))
  cases rb1
  cases hM.symm.trans hM1
  obtain ⟨b2, rb2, ci2, vs2, v3, hM2, v3e, sz, rfl, lsz⟩ := i2.1 ((.inl 633), .inl 3, .inl ([(5, .ofNat 1)], .ofNat 0)) (List.mem_cons_of_mem _ (List.mem_cons_of_mem _ (List.mem_cons_self ..)))
  cases rb2
  cases hM.symm.trans hM2
  obtain ⟨p1, p2⟩ := liI_V hg (a := 0) (b := 0) rfl lp
  obtain ⟨n1, n2⟩ := liI_V hg (a := 0) (b := 0) rfl lln
  obtain ⟨s1, s2⟩ := liI_V hg (a := 16) (b := 256) rfl lsz
  obtain ⟨vs9, lb, hM9, h5, hs, sl⟩ := hT.s_all
  have hput : ∀ l : List Int32, M' = gPut M' 635 (.inl (1, .inl lb)) := fun _ => by
    refine nthx (fun k => ?_)
    rw [nth_put]
    by_cases hk : k = 635 ∧ 635 < M'.length
    · rw [if_pos hk, hk.1]
      exact hs
    · rw [if_neg hk]
  rw [hput []]
  refine prk_loop hT w1 w2 h1 h2 (fun l hl => ?_) 2314 0 0 lb ⟨sl, fun k hk => absurd hk (Nat.not_lt_zero _)⟩ rfl rfl
  have hM3 : gNth (gPut M' 635 (.inl (1, .inl l))) 633 = some (.inr (ci, vs)) := by
    rw [nth_put, if_neg (fun q => absurd q.1 (by decide))]
    exact hM
  refine rB _ (List.mem_singleton.mpr rfl) _ _ ⟨[0, sz.toInt, ln.toInt, p.toInt], [], ?_, ?_, ⟨fun e he => ?_, fun f hf => ?_, ⟨rfl, fun k q hq => ?_⟩, ⟨rfl, fun s g h => by cases h⟩, fun L hL => (by cases hL), hT.s_new hl⟩, hF.trans (Frm.row hs sT_635 (by decide))⟩
  · rcases ws with _ | ⟨q0, _ | ⟨q1, _ | ⟨q2, _ | ⟨q3, ws⟩⟩⟩⟩
    · exact i0.elim
    · exact i0.2.elim
    · exact i0.2.2.elim
    · exact i0
    · exact i0.2.2.2.elim
  · exact ⟨⟨_, rfl, 633, rfl, rfl⟩, (fun x hx => by cases hx; rfl), (fun x hx => by cases hx; rfl), ⟨_, rfl, 0, rfl, rfl⟩, trivial⟩
  · rcases List.mem_cons.mp he with rfl | he
    · exact ⟨633, rfl, ci, vs, _, hM3, v3e, sz, rfl, liS_V rfl⟩
    rcases List.mem_cons.mp he with rfl | he
    · exact ⟨633, rfl, ci, vs, _, hM3, v2e, ln, rfl, liS_V rfl⟩
    rcases List.mem_cons.mp he with rfl | he
    · exact ⟨633, rfl, ci, vs, _, hM3, v4e, p, rfl, liS_V rfl⟩
    · cases he
  · cases List.mem_singleton.mp hf
    exact ⟨[], trivial, (show FL0 28 [] _ from ⟨1, l, by rw [nth_put, if_pos ⟨rfl, gNth_lt _ _ _ hs⟩], hl.2.2⟩)⟩
  · rcases k with _ | _ | _ | _ | k
    · cases hq; exact ⟨0, rfl, by decide, by decide⟩
    · cases hq; exact ⟨_, rfl, s1, s2⟩
    · cases hq; exact ⟨_, rfl, n1, n2⟩
    · cases hq; exact ⟨_, rfl, p1, p2⟩
    · cases hq
/-! BY HAND: reading texts, the reference: write -/
theorem wr_0 {e : Nat} {M : Mem} {M' : Mem} {v : Option Value} {vs : List Value} {a b f19 n y1 : Int32} {l645 : List Int32} (hM : gNth M 633 = some (.inr (11, vs))) (v15 : gNth vs 15 = some (.ref 645)) (v19 : gNth vs 19 = some (.int f19)) (r645 : gNth M 645 = some (.inl (1, .inl l645))) (g1 : gAt l645 (1400 + f19) = some y1) (hz : Ev none e 174 14 [some (.ref 633), some (.int a), some (.int b), some (.int n)] [] (gPut M 645 (.inl (1, .inl (gPut l645 (1400 + f19).toNatClampNeg a)))) v M' 0 0) : Ev none e 174 0 [some (.ref 633), some (.int a), some (.int b), some (.int n)] [] M v M' 0 0 := by
  refine Ev.step (pc' := 1) (ls' := [some (.ref 633), some (.int a), some (.int b), some (.int n)]) (st' := [.ref 633]) (M1 := M) 1 (fun n => rfl) ?_
  refine Ev.step 1 (gs_3 rfl rfl (gf_g rfl hM v15)) ?_
  refine Ev.step (pc' := 8) (ls' := [some (.ref 633), some (.int a), some (.int b), some (.int n)]) (st' := [.ref 633, .int 1400, .ref 645]) (M1 := M) 2 (fun n => rfl) ?_
  refine Ev.step 1 (gs_3 rfl rfl (gf_g rfl hM v19)) ?_
  refine Ev.step (pc' := 13) (ls' := [some (.ref 633), some (.int a), some (.int b), some (.int n)]) (st' := [.int a, .int (1400 + f19), .ref 645]) (M1 := M) 2 (fun n => rfl) ?_
  refine Ev.step 1 (gs_4 rfl rfl (is_g r645 g1)) ?_
  exact hz
theorem wr_14 {e : Nat} {M : Mem} {M' : Mem} {v : Option Value} {vs : List Value} {a b f19 n y1 : Int32} {l646 : List Int32} (hM : gNth M 633 = some (.inr (11, vs))) (v16 : gNth vs 16 = some (.ref 646)) (v19 : gNth vs 19 = some (.int f19)) (r646 : gNth M 646 = some (.inl (1, .inl l646))) (g1 : gAt l646 (1400 + f19) = some y1) (hz : Ev none e 174 28 [some (.ref 633), some (.int a), some (.int b), some (.int n)] [] (gPut M 646 (.inl (1, .inl (gPut l646 (1400 + f19).toNatClampNeg b)))) v M' 0 0) : Ev none e 174 14 [some (.ref 633), some (.int a), some (.int b), some (.int n)] [] M v M' 0 0 := by
  refine Ev.step (pc' := 15) (ls' := [some (.ref 633), some (.int a), some (.int b), some (.int n)]) (st' := [.ref 633]) (M1 := M) 1 (fun n => rfl) ?_
  refine Ev.step 1 (gs_3 rfl rfl (gf_g rfl hM v16)) ?_
  refine Ev.step (pc' := 22) (ls' := [some (.ref 633), some (.int a), some (.int b), some (.int n)]) (st' := [.ref 633, .int 1400, .ref 646]) (M1 := M) 2 (fun n => rfl) ?_
  refine Ev.step 1 (gs_3 rfl rfl (gf_g rfl hM v19)) ?_
  refine Ev.step (pc' := 27) (ls' := [some (.ref 633), some (.int a), some (.int b), some (.int n)]) (st' := [.int b, .int (1400 + f19), .ref 646]) (M1 := M) 2 (fun n => rfl) ?_
  refine Ev.step 1 (gs_4 rfl rfl (is_g r646 g1)) ?_
  exact hz
theorem wr_28 {e : Nat} {M : Mem} {M' : Mem} {v : Option Value} {vs : List Value} {a b f19 n y1 : Int32} {l647 : List Int32} (hM : gNth M 633 = some (.inr (11, vs))) (v17 : gNth vs 17 = some (.ref 647)) (v19 : gNth vs 19 = some (.int f19)) (r647 : gNth M 647 = some (.inl (1, .inl l647))) (g1 : gAt l647 (1400 + f19) = some y1) (hz : Ev none e 174 42 [some (.ref 633), some (.int a), some (.int b), some (.int n)] [] (gPut M 647 (.inl (1, .inl (gPut l647 (1400 + f19).toNatClampNeg n)))) v M' 0 0) : Ev none e 174 28 [some (.ref 633), some (.int a), some (.int b), some (.int n)] [] M v M' 0 0 := by
  refine Ev.step (pc' := 29) (ls' := [some (.ref 633), some (.int a), some (.int b), some (.int n)]) (st' := [.ref 633]) (M1 := M) 1 (fun n => rfl) ?_
  refine Ev.step 1 (gs_3 rfl rfl (gf_g rfl hM v17)) ?_
  refine Ev.step (pc' := 36) (ls' := [some (.ref 633), some (.int a), some (.int b), some (.int n)]) (st' := [.ref 633, .int 1400, .ref 647]) (M1 := M) 2 (fun n => rfl) ?_
  refine Ev.step 1 (gs_3 rfl rfl (gf_g rfl hM v19)) ?_
  refine Ev.step (pc' := 41) (ls' := [some (.ref 633), some (.int a), some (.int b), some (.int n)]) (st' := [.int n, .int (1400 + f19), .ref 647]) (M1 := M) 2 (fun n => rfl) ?_
  refine Ev.step 1 (gs_4 rfl rfl (is_g r647 g1)) ?_
  exact hz
theorem wr_42 {e : Nat} {M : Mem} {vs : List Value} {a b f19 n : Int32} (hM : gNth M 633 = some (.inr (11, vs))) (v19 : gNth vs 19 = some (.int f19)) (hlen : vs.length = 63) : Ev none e 174 42 [some (.ref 633), some (.int a), some (.int b), some (.int n)] [] M none (gPut M 633 (.inr (11, gPut vs 19 (.int (f19 + 1))))) 0 0 := by
  refine Ev.step (pc' := 44) (ls' := [some (.ref 633), some (.int a), some (.int b), some (.int n)]) (st' := [.ref 633, .ref 633]) (M1 := M) 2 (fun n => rfl) ?_
  refine Ev.step 1 (gs_3 rfl rfl (gf_g rfl hM v19)) ?_
  refine Ev.step (pc' := 49) (ls' := [some (.ref 633), some (.int a), some (.int b), some (.int n)]) (st' := [.int (f19 + 1), .ref 633]) (M1 := M) 2 (fun n => rfl) ?_
  refine Ev.step 1 (gs_4 rfl rfl (pf_i rfl hM (by rw [hlen]; decide) rfl rfl)) ?_
  exact Ev.ret (fun n => rfl)
theorem dn_0 {e : Nat} {M : Mem} {M' : Mem} {v : Option Value} {vs : List Value} {f20 q : Int32} (hM : gNth M 633 = some (.inr (11, vs))) (v20 : gNth vs 20 = some (.int f20)) (hz : Ev none (e + 1) 175 (if f20 ≤ 0 then 69 else 7) [some (.ref 633), some (.int q)] [] M v M' 0 0) : Ev none (e + 1) 175 0 [some (.ref 633), some (.int q)] [] M v M' 0 0 := by
  refine Ev.step (pc' := 1) (ls' := [some (.ref 633), some (.int q)]) (st' := [.ref 633]) (M1 := M) 1 (fun n => rfl) ?_
  refine Ev.step 1 (gs_3 rfl rfl (gf_g rfl hM v20)) ?_
  refine Ev.step (pc' := (if f20 ≤ 0 then 69 else 7)) (ls' := [some (.ref 633), some (.int q)]) (st' := []) (M1 := M) 1 (fun n => rfl) ?_
  exact hz
theorem dn_7 {e : Nat} {M : Mem} {M' : Mem} {v : Option Value} {vs : List Value} {f20 q y1 : Int32} {l648 : List Int32} (hM : gNth M 633 = some (.inr (11, vs))) (v18 : gNth vs 18 = some (.ref 648)) (v20 : gNth vs 20 = some (.int f20)) (r648 : gNth M 648 = some (.inl (1, .inl l648))) (g1 : gAt l648 (f20 - 1) = some y1) (hz : Ev none (e + 1) 175 (if y1 = 23 then 69 else 23) [some (.ref 633), some (.int q)] [] M v M' 0 0) : Ev none (e + 1) 175 7 [some (.ref 633), some (.int q)] [] M v M' 0 0 := by
  refine Ev.step (pc' := 8) (ls' := [some (.ref 633), some (.int q)]) (st' := [.ref 633]) (M1 := M) 1 (fun n => rfl) ?_
  refine Ev.step 1 (gs_3 rfl rfl (gf_g rfl hM v18)) ?_
  refine Ev.step (pc' := 12) (ls' := [some (.ref 633), some (.int q)]) (st' := [.ref 633, .ref 648]) (M1 := M) 1 (fun n => rfl) ?_
  refine Ev.step 1 (gs_3 rfl rfl (gf_g rfl hM v20)) ?_
  refine Ev.step (pc' := 17) (ls' := [some (.ref 633), some (.int q)]) (st' := [.int (f20 - 1), .ref 648]) (M1 := M) 2 (fun n => rfl) ?_
  refine Ev.step 1 (gs_3 rfl rfl (ia_g r648 g1)) ?_
  refine Ev.step (pc' := (if y1 = 23 then 69 else 23)) (ls' := [some (.ref 633), some (.int q)]) (st' := []) (M1 := M) 2 (fun n => rfl) ?_
  exact hz
theorem dn_23 {e : Nat} {M : Mem} {M' : Mem} {v : Option Value} {vs : List Value} {f20 q y1 : Int32} {l648 : List Int32} (hM : gNth M 633 = some (.inr (11, vs))) (v18 : gNth vs 18 = some (.ref 648)) (v20 : gNth vs 20 = some (.int f20)) (r648 : gNth M 648 = some (.inl (1, .inl l648))) (g1 : gAt l648 (f20 - 1) = some y1) (hz : Ev none (e + 1) 175 34 [some (.ref 633), some (.int q)] [.int y1] M v M' 0 0) : Ev none (e + 1) 175 23 [some (.ref 633), some (.int q)] [] M v M' 0 0 := by
  refine Ev.step (pc' := 24) (ls' := [some (.ref 633), some (.int q)]) (st' := [.ref 633]) (M1 := M) 1 (fun n => rfl) ?_
  refine Ev.step 1 (gs_3 rfl rfl (gf_g rfl hM v18)) ?_
  refine Ev.step (pc' := 28) (ls' := [some (.ref 633), some (.int q)]) (st' := [.ref 633, .ref 648]) (M1 := M) 1 (fun n => rfl) ?_
  refine Ev.step 1 (gs_3 rfl rfl (gf_g rfl hM v20)) ?_
  refine Ev.step (pc' := 33) (ls' := [some (.ref 633), some (.int q)]) (st' := [.int (f20 - 1), .ref 648]) (M1 := M) 2 (fun n => rfl) ?_
  refine Ev.step 1 (gs_3 rfl rfl (ia_g r648 g1)) ?_
  exact hz
theorem dn_37 {e : Nat} {M : Mem} {M' : Mem} {v : Option Value} {q z : Int32}  (hz : Ev none (e + 1) 175 (if z < q then 69 else 41) [some (.ref 633), some (.int q)] [] M v M' 0 0) : Ev none (e + 1) 175 37 [some (.ref 633), some (.int q)] [.int z] M v M' 0 0 := by
  refine Ev.step (pc' := (if z < q then 69 else 41)) (ls' := [some (.ref 633), some (.int q)]) (st' := []) (M1 := M) 2 (fun n => rfl) ?_
  exact hz
theorem dn_41 {e : Nat} {M : Mem} {M' : Mem} {v : Option Value} {vs : List Value} {f20 q : Int32} (hM : gNth M 633 = some (.inr (11, vs))) (v20 : gNth vs 20 = some (.int f20)) (hlen : vs.length = 63) (hz : Ev none (e + 1) 175 51 [some (.ref 633), some (.int q)] [] (gPut M 633 (.inr (11, gPut vs 20 (.int (f20 - 1))))) v M' 0 0) : Ev none (e + 1) 175 41 [some (.ref 633), some (.int q)] [] M v M' 0 0 := by
  refine Ev.step (pc' := 43) (ls' := [some (.ref 633), some (.int q)]) (st' := [.ref 633, .ref 633]) (M1 := M) 2 (fun n => rfl) ?_
  refine Ev.step 1 (gs_3 rfl rfl (gf_g rfl hM v20)) ?_
  refine Ev.step (pc' := 48) (ls' := [some (.ref 633), some (.int q)]) (st' := [.int (f20 - 1), .ref 633]) (M1 := M) 2 (fun n => rfl) ?_
  refine Ev.step 1 (gs_4 rfl rfl (pf_i rfl hM (by rw [hlen]; decide) rfl rfl)) ?_
  exact hz
theorem dn_51 {e : Nat} {M : Mem} {M' : Mem} {v : Option Value} {vs : List Value} {f20 q y1 : Int32} {l648 : List Int32} (hM : gNth M 633 = some (.inr (11, vs))) (v18 : gNth vs 18 = some (.ref 648)) (v20 : gNth vs 20 = some (.int f20)) (r648 : gNth M 648 = some (.inl (1, .inl l648))) (g1 : gAt l648 f20 = some y1) (hz : Ev none (e + 1) 175 63 [some (.ref 633), some (.int q)] [.int 0, .int 0, .int y1, .ref 633] M v M' 0 0) : Ev none (e + 1) 175 51 [some (.ref 633), some (.int q)] [] M v M' 0 0 := by
  refine Ev.step (pc' := 53) (ls' := [some (.ref 633), some (.int q)]) (st' := [.ref 633, .ref 633]) (M1 := M) 2 (fun n => rfl) ?_
  refine Ev.step 1 (gs_3 rfl rfl (gf_g rfl hM v18)) ?_
  refine Ev.step (pc' := 57) (ls' := [some (.ref 633), some (.int q)]) (st' := [.ref 633, .ref 648, .ref 633]) (M1 := M) 1 (fun n => rfl) ?_
  refine Ev.step 1 (gs_3 rfl rfl (gf_g rfl hM v20)) ?_
  refine Ev.step 1 (gs_3 rfl rfl (ia_g r648 g1)) ?_
  refine Ev.step (pc' := 63) (ls' := [some (.ref 633), some (.int q)]) (st' := [.int 0, .int 0, .int y1, .ref 633]) (M1 := M) 2 (fun n => rfl) ?_
  exact hz
theorem dn_66 {e : Nat} {M : Mem} {M' : Mem} {v : Option Value} {q : Int32}  (hz : Ev none (e + 1) 175 0 [some (.ref 633), some (.int q)] [] M v M' 0 0) : Ev none (e + 1) 175 66 [some (.ref 633), some (.int q)] [] M v M' 0 0 := by
  refine Ev.step (pc' := 0) (ls' := [some (.ref 633), some (.int q)]) (st' := []) (M1 := M) 1 (fun n => rfl) ?_
  exact hz
theorem dn_69 {e : Nat} {M : Mem} {q : Int32}  : Ev none (e + 1) 175 69 [some (.ref 633), some (.int q)] [] M none M 0 0 := by
  exact Ev.ret (fun n => rfl)
theorem bi_0 {e : Nat} {M : Mem} {M' : Mem} {v : Option Value} {w : Int32}  (hz : Ev none e 176 (if w = 20 then 6 else 10) [some (.int w)] [] M v M' 0 0) : Ev none e 176 0 [some (.int w)] [] M v M' 0 0 := by
  refine Ev.step (pc' := (if w = 20 then 6 else 10)) (ls' := [some (.int w)]) (st' := []) (M1 := M) 3 (fun n => rfl) ?_
  exact hz
theorem bi_6 {e : Nat} {M : Mem} {w : Int32}  : Ev none e 176 6 [some (.int w)] [] M (some (.int 3)) M 0 0 := by
  refine Ev.step (pc' := 21) (ls' := [some (.int w)]) (st' := [.int 3]) (M1 := M) 2 (fun n => rfl) ?_
  exact Ev.ret (fun n => rfl)
theorem bi_10 {e : Nat} {M : Mem} {M' : Mem} {v : Option Value} {w : Int32}  (hz : Ev none e 176 (if w = 21 then 16 else 20) [some (.int w)] [] M v M' 0 0) : Ev none e 176 10 [some (.int w)] [] M v M' 0 0 := by
  refine Ev.step (pc' := (if w = 21 then 16 else 20)) (ls' := [some (.int w)]) (st' := []) (M1 := M) 3 (fun n => rfl) ?_
  exact hz
theorem bi_16 {e : Nat} {M : Mem} {w : Int32}  : Ev none e 176 16 [some (.int w)] [] M (some (.int 2)) M 0 0 := by
  refine Ev.step (pc' := 21) (ls' := [some (.int w)]) (st' := [.int 2]) (M1 := M) 2 (fun n => rfl) ?_
  exact Ev.ret (fun n => rfl)
theorem bi_20 {e : Nat} {M : Mem} {w : Int32}  : Ev none e 176 20 [some (.int w)] [] M (some (.int 1)) M 0 0 := by
  refine Ev.step (pc' := 21) (ls' := [some (.int w)]) (st' := [.int 1]) (M1 := M) 1 (fun n => rfl) ?_
  exact Ev.ret (fun n => rfl)
theorem cal_wr {M : Mem} {vs : List Value} {a0 a1 a2 : Int32} {rest : List Value} (hM : gNth M 633 = some (.inr (11, vs))) (hr : gRoom rest = true) : gCal (.invokevirtual 294) 11 (.int a2 :: .int a1 :: .int a0 :: .ref 633 :: rest) M = some (.inr (174, [some (.ref 633), some (.int a0), some (.int a1), some (.int a2)], rest)) := by
  show @cond (Option ((List Value × Mem) ⊕ (Nat × Lo × List Value))) (true && gRecv M (.ref 633) 11 && gRoom rest && true) (some (.inr (174, [some (.ref 633), some (.int a0), some (.int a1), some (.int a2)], rest))) none = _
  rw [recv_ok hM, hr]
  rfl
set_option maxRecDepth 100000 in
theorem rwT : (rwB 73 1 1600 (-2147483648) 2147483647 && rwB 74 1 1600 (-2147483648) 2147483647 && rwB 75 1 1600 (-2147483648) 2147483647 && rwB 76 1 100 (-2147483648) 2147483647) = true := by decide +kernel
set_option maxRecDepth 100000 in
theorem mfT : (mfB 15 73 && mfB 16 74 && mfB 17 75 && mfB 18 76) = true := by decide +kernel
set_option maxRecDepth 100000 in
theorem sUT : gNth sU 73 = some (some 645) ∧ gNth sU 74 = some (some 646) ∧ gNth sU 75 = some (some 647) ∧ gNth sU 76 = some (some 648) := by refine ⟨?_, ?_, ?_, ?_⟩ <;> decide +kernel
set_option maxRecDepth 100000 in
theorem sT_648 : gNth sT 648 = some 76 := by decide +kernel
set_option maxRecDepth 100000 in
theorem fBT : (fldB 19 0 200 && fldB 20 0 100 && fldB 21 0 40) = true := by decide +kernel
/-- the counters and rows of a text that is read -/
def Cst (M : Mem) (S P O : Int32) (ls lp : List Int32) : Prop := ∃ vs, gNth M 633 = some (.inr (11, vs)) ∧ gNth vs 19 = some (.int S) ∧ gNth vs 20 = some (.int P) ∧ gNth vs 21 = some (.int O) ∧ gNth M 645 = some (.inl (1, .inl ls)) ∧ gNth M 648 = some (.inl (1, .inl lp))
theorem TM.cst {M : Mem} (hT : TM sT sG M) : ∃ S P O ls lp, Cst M S P O ls lp ∧ ls.length = 1600 ∧ lp.length = 100 ∧ 0 ≤ S.toInt ∧ S.toInt ≤ 200 ∧ 0 ≤ P.toInt ∧ P.toInt ≤ 100 ∧ 0 ≤ O.toInt ∧ O.toInt ≤ 40 := by
  obtain ⟨h, b3⟩ := and_t fBT
  obtain ⟨b1, b2⟩ := and_t h
  obtain ⟨h, r4⟩ := and_t rwT
  obtain ⟨h, r3⟩ := and_t h
  obtain ⟨r1, r2⟩ := and_t h
  obtain ⟨vs, S, hM, _, s1, s2, s3, _⟩ := hT.fint b1
  obtain ⟨vs2, P, hM2, _, p1, p2, p3, _⟩ := hT.fint b2
  cases hM.symm.trans hM2
  obtain ⟨vs3, O, hM3, _, o1, o2, o3, _⟩ := hT.fint b3
  cases hM.symm.trans hM3
  obtain ⟨ls, l1, l2, _⟩ := hT.mrow sT_645 r1
  obtain ⟨lp, q1, q2, _⟩ := hT.mrow sT_648 r4
  exact ⟨S, P, O, ls, lp, ⟨vs, hM, s1, p1, o1, l1, q1⟩, l2, q2, s2, s3, p2, p3, o2, o3⟩
theorem Cst.det {M : Mem} {S P O S2 P2 O2 : Int32} {ls lp ls2 lp2 : List Int32} (h : Cst M S P O ls lp) (h2 : Cst M S2 P2 O2 ls2 lp2) : S = S2 ∧ P = P2 ∧ O = O2 ∧ ls = ls2 ∧ lp = lp2 := by
  obtain ⟨vs, a1, a2, a3, a4, a5, a6⟩ := h
  obtain ⟨vs2, b1, b2, b3, b4, b5, b6⟩ := h2
  cases a1.symm.trans b1
  cases a2.symm.trans b2
  cases a3.symm.trans b3
  cases a4.symm.trans b4
  cases a5.symm.trans b5
  cases a6.symm.trans b6
  exact ⟨rfl, rfl, rfl, rfl, rfl⟩
/-- what a call that does not write them leaves -/
theorem Cst.frm {M M' : Mem} {md : Md} {S P O : Int32} {ls lp : List Int32} (h : Cst M S P O ls lp) (hF : Frm sT md M M') (hm : (!(mdIn md 11 19 || mdIn md 11 20 || mdIn md 11 21 || mdIn md 1073 0 || mdIn md 1076 0)) = true) : Cst M' S P O ls lp := by
  obtain ⟨vs, a1, a2, a3, a4, a5, a6⟩ := h
  obtain ⟨vs', e1, _, e2⟩ := hF.2.1 _ _ _ a1
  have hn : ∀ c k, mdIn md c k = true → (mdIn md 11 19 || mdIn md 11 20 || mdIn md 11 21 || mdIn md 1073 0 || mdIn md 1076 0) = false := fun c k _ => by
    cases hb : (mdIn md 11 19 || mdIn md 11 20 || mdIn md 11 21 || mdIn md 1073 0 || mdIn md 1076 0) with
    | false => rfl
    | true => rw [hb] at hm; cases hm
  have no : ∀ c k, (mdIn md c k = true → (mdIn md 11 19 || mdIn md 11 20 || mdIn md 11 21 || mdIn md 1073 0 || mdIn md 1076 0) = true) → (c, k) ∉ md := fun c k h hc => by
    have h1 := mdIn_iff.mpr hc
    have h2 := h h1
    rw [hn c k h1] at h2
    cases h2
  exact ⟨vs', e1, by rw [e2 19 (no 11 19 (fun h => by rw [h]; rfl))]; exact a2, by rw [e2 20 (no 11 20 (fun h => by rw [h]; simp))]; exact a3, by rw [e2 21 (no 11 21 (fun h => by rw [h]; simp))]; exact a4, row_frm hF sT_645 (no 1073 0 (fun h => by rw [h]; simp)) a5, row_frm hF sT_648 (no 1076 0 (fun h => by rw [h]; simp)) a6⟩
/-- a field of the Model that is an int is written -/
theorem put_fld {M : Mem} {vs : List Value} (hM : gNth M 633 = some (.inr (11, vs))) (hl : vs.length = 63) (k : Nat) (hk : k < 63) (y : Int32) : gNth (gPut M 633 (.inr (11, gPut vs k (.int y)))) 633 = some (.inr (11, gPut vs k (.int y))) ∧ gNth (gPut vs k (.int y)) k = some (.int y) ∧ ∀ j, j ≠ k → gNth (gPut vs k (.int y)) j = gNth vs j := by
  refine ⟨by rw [nth_put, if_pos ⟨rfl, gNth_lt _ _ _ hM⟩], by rw [nth_put, if_pos ⟨rfl, by omega⟩], fun j hj => by rw [nth_put, if_neg (fun q => hj q.1)]⟩
/-- rows of the reference other than its object -/
theorem ne_633 {M : Mem} {x : AE} {a : Nat} (h : a ≠ 633) : gNth (gPut M 633 x) a = gNth M a := by
  rw [nth_put, if_neg (fun q => h q.1)]
theorem fset {M : Mem} (hT : TM sT sG M) {k : Nat} {lo hi : Int} (hB : fldB k lo hi = true) {vs : List Value} (hM : gNth M 633 = some (.inr (11, vs))) {y : Int32} (h1 : lo ≤ y.toInt) (h2 : y.toInt ≤ hi) : TM sT sG (gPut M 633 (.inr (11, gPut vs k (.int y)))) ∧ vs.length = 63 := by
  obtain ⟨vs2, z, q1, q2, _, _, _, q3⟩ := hT.fint hB
  cases hM.symm.trans q1
  exact ⟨q3 y h1 h2, q2⟩
theorem Cst.S {M : Mem} (hT : TM sT sG M) {S P O : Int32} {ls lp : List Int32} {vs : List Value} (h : Cst M S P O ls lp) (hM : gNth M 633 = some (.inr (11, vs))) {y : Int32} (h1 : 0 ≤ y.toInt) (h2 : y.toInt ≤ 200) : TM sT sG (gPut M 633 (.inr (11, gPut vs 19 (.int y)))) ∧ Cst (gPut M 633 (.inr (11, gPut vs 19 (.int y)))) y P O ls lp := by
  obtain ⟨vs2, a1, a2, a3, a4, a5, a6⟩ := h
  cases hM.symm.trans a1
  obtain ⟨q1, q2⟩ := fset hT (and_t (and_t fBT).1).1 hM h1 h2
  obtain ⟨u1, u2, u3⟩ := put_fld hM q2 19 (by decide) y
  exact ⟨q1, _, u1, u2, by rw [u3 20 (by decide)]; exact a3, by rw [u3 21 (by decide)]; exact a4, by rw [ne_633 (by decide)]; exact a5, by rw [ne_633 (by decide)]; exact a6⟩
theorem Cst.P {M : Mem} (hT : TM sT sG M) {S P O : Int32} {ls lp : List Int32} {vs : List Value} (h : Cst M S P O ls lp) (hM : gNth M 633 = some (.inr (11, vs))) {y : Int32} (h1 : 0 ≤ y.toInt) (h2 : y.toInt ≤ 100) : TM sT sG (gPut M 633 (.inr (11, gPut vs 20 (.int y)))) ∧ Cst (gPut M 633 (.inr (11, gPut vs 20 (.int y)))) S y O ls lp := by
  obtain ⟨vs2, a1, a2, a3, a4, a5, a6⟩ := h
  cases hM.symm.trans a1
  obtain ⟨q1, q2⟩ := fset hT (and_t (and_t fBT).1).2 hM h1 h2
  obtain ⟨u1, u2, u3⟩ := put_fld hM q2 20 (by decide) y
  exact ⟨q1, _, u1, by rw [u3 19 (by decide)]; exact a2, u2, by rw [u3 21 (by decide)]; exact a4, by rw [ne_633 (by decide)]; exact a5, by rw [ne_633 (by decide)]; exact a6⟩
theorem Cst.O {M : Mem} (hT : TM sT sG M) {S P O : Int32} {ls lp : List Int32} {vs : List Value} (h : Cst M S P O ls lp) (hM : gNth M 633 = some (.inr (11, vs))) {y : Int32} (h1 : 0 ≤ y.toInt) (h2 : y.toInt ≤ 40) : TM sT sG (gPut M 633 (.inr (11, gPut vs 21 (.int y)))) ∧ Cst (gPut M 633 (.inr (11, gPut vs 21 (.int y)))) S P y ls lp := by
  obtain ⟨vs2, a1, a2, a3, a4, a5, a6⟩ := h
  cases hM.symm.trans a1
  obtain ⟨q1, q2⟩ := fset hT (and_t fBT).2 hM h1 h2
  obtain ⟨u1, u2, u3⟩ := put_fld hM q2 21 (by decide) y
  exact ⟨q1, _, u1, by rw [u3 19 (by decide)]; exact a2, by rw [u3 20 (by decide)]; exact a3, u2, by rw [ne_633 (by decide)]; exact a5, by rw [ne_633 (by decide)]; exact a6⟩
set_option maxRecDepth 100000 in
/-- a row of any numbers is written -/
theorem any_put {M : Mem} (hT : TM sT sG M) {a g n : Nat} {l : List Int32} (ha : gNth sT a = some g) (hl : gNth M a = some (.inl (1, .inl l))) (hn : l.length = n) (h : (match gNth sG g with
    | some (.inr (q, m, .inl [(0, m2, 1, [(x, y)])])) => Nat.beq q 1 && (Nat.beq m n && (!Nat.beq q 2 && (Nat.beq m2 n && (decide (x ≤ -2147483648) && decide (2147483647 ≤ y)))))
    | _ => false) = true) (i : Nat) (y : Int32) : TM sT sG (gPut M a (.inl (1, .inl (gPut l i y)))) := hT.putrow (n := n) (lo := -2147483648) (hi := 2147483647) ha h (by rw [put_len]; exact hn) (fun _ x _ => i32_any x)
theorem i32_1400 {S : Int32} (h0 : 0 ≤ S.toInt) (h1 : S.toInt ≤ 200) : (1400 + S).toInt = ((1400 + S.toInt.toNat : Nat) : Int) := by
  have o : (1400 : Int32).toInt = 1400 := rfl
  rw [i32_add (by rw [o]; omega) (by rw [o]; omega), o]
  omega
/-- write(a, b, n) -/
theorem ev_write {M : Mem} {e : Nat} {a b n S P O : Int32} {ls lp : List Int32} (hT : TM sT sG M) (h : Cst M S P O ls lp) (hS : S.toInt ≤ 199) : ∃ M', Ev none e 174 0 [some (.ref 633), some (.int a), some (.int b), some (.int n)] [] M none M' 0 0 ∧ TM sT sG M' ∧ Frm sT [(11, 19), (1073, 0), (1074, 0), (1075, 0)] M M' ∧ Cst M' (S + 1) P O (gPut ls (1400 + S.toInt.toNat) a) lp := by
  obtain ⟨S', P', O', ls', lp', c1, ll, pl, s0, s1, _⟩ := hT.cst
  obtain ⟨rfl, rfl, rfl, rfl, rfl⟩ := h.det c1
  obtain ⟨vs, hM, v19, v20, v21, r645, r648⟩ := h
  obtain ⟨vs9, hM9, hv⟩ := hT.mfld
  cases hM.symm.trans hM9
  obtain ⟨q, m4⟩ := and_t mfT
  obtain ⟨q, m3⟩ := and_t q
  obtain ⟨m1, m2⟩ := and_t q
  obtain ⟨u1, u2, u3, u4⟩ := sUT
  have h15 := hv _ _ _ m1 u1
  have h16 := hv _ _ _ m2 u2
  have h17 := hv _ _ _ m3 u3
  obtain ⟨q, r4⟩ := and_t rwT
  obtain ⟨q, r3⟩ := and_t q
  obtain ⟨r1, r2⟩ := and_t q
  obtain ⟨l6, b1, b2, _⟩ := hT.mrow sT_646 r2
  obtain ⟨l7, d1, d2, _⟩ := hT.mrow sT_647 r3
  have ei := i32_1400 s0 s1
  obtain ⟨y, y1, y2⟩ := at_c (l := ls) ei (by omega)
  obtain ⟨z, z1, z2⟩ := at_c (l := l6) ei (by omega)
  obtain ⟨x, x1, x2⟩ := at_c (l := l7) ei (by omega)
  have eS : (S + 1).toInt = S.toInt + 1 := i32_p1 (by omega)
  obtain ⟨k, ek⟩ : ∃ k, k = 1400 + S.toInt.toNat := ⟨_, rfl⟩
  obtain ⟨M1, e1⟩ : ∃ M1, M1 = gPut M 645 (.inl (1, .inl (gPut ls k a))) := ⟨_, rfl⟩
  have T1 : TM sT sG M1 := by rw [e1]; exact any_put hT sT_645 r645 ll (by decide +kernel) _ _
  have F1 : Frm sT [(11, 19), (1073, 0), (1074, 0), (1075, 0)] M M1 := by rw [e1]; exact Frm.row r645 sT_645 (by decide)
  have n1 : ∀ c, c ≠ 645 → gNth M1 c = gNth M c := fun c hc => by rw [e1, nth_put, if_neg (fun q => hc q.1)]
  obtain ⟨M2, e2⟩ : ∃ M2, M2 = gPut M1 646 (.inl (1, .inl (gPut l6 k b))) := ⟨_, rfl⟩
  have b1' : gNth M1 646 = some (.inl (1, .inl l6)) := by rw [n1 646 (by decide)]; exact b1
  have T2 : TM sT sG M2 := by rw [e2]; exact any_put T1 sT_646 b1' b2 (by decide +kernel) _ _
  have F2 : Frm sT [(11, 19), (1073, 0), (1074, 0), (1075, 0)] M1 M2 := by rw [e2]; exact Frm.row b1' sT_646 (by decide)
  have n2 : ∀ c, c ≠ 646 → gNth M2 c = gNth M1 c := fun c hc => by rw [e2, nth_put, if_neg (fun q => hc q.1)]
  obtain ⟨M3, e3⟩ : ∃ M3, M3 = gPut M2 647 (.inl (1, .inl (gPut l7 k n))) := ⟨_, rfl⟩
  have d1' : gNth M2 647 = some (.inl (1, .inl l7)) := by rw [n2 647 (by decide), n1 647 (by decide)]; exact d1
  have T3 : TM sT sG M3 := by rw [e3]; exact any_put T2 sT_647 d1' d2 (by decide +kernel) _ _
  have F3 : Frm sT [(11, 19), (1073, 0), (1074, 0), (1075, 0)] M2 M3 := by rw [e3]; exact Frm.row d1' sT_647 (by decide)
  have n3 : ∀ c, c ≠ 647 → gNth M3 c = gNth M2 c := fun c hc => by rw [e3, nth_put, if_neg (fun q => hc q.1)]
  have hM1 : gNth M1 633 = some (.inr (11, vs)) := by rw [n1 633 (by decide)]; exact hM
  have hM2 : gNth M2 633 = some (.inr (11, vs)) := by rw [n2 633 (by decide)]; exact hM1
  have hM3 : gNth M3 633 = some (.inr (11, vs)) := by rw [n3 633 (by decide)]; exact hM2
  have c3 : Cst M3 S P O (gPut ls k a) lp := ⟨vs, hM3, v19, v20, v21, by rw [n3 645 (by decide), n2 645 (by decide), e1, nth_put, if_pos ⟨rfl, gNth_lt _ _ _ r645⟩], by rw [n3 648 (by decide), n2 648 (by decide), n1 648 (by decide)]; exact r648⟩
  obtain ⟨T4, c4⟩ := c3.S T3 hM3 (y := S + 1) (by omega) (by omega)
  obtain ⟨_, hlen⟩ := fset T3 (and_t (and_t fBT).1).1 hM3 (y := S + 1) (by omega) (by omega)
  refine ⟨_, wr_0 hM h15 v19 r645 y1 ?_, T4, ((F1.trans F2).trans F3).trans (Frm.fld hM3 (by decide)), by rw [← ek]; exact c4⟩
  rw [cl_n ei, ← ek, ← e1]
  refine wr_14 hM1 h16 v19 b1' z1 ?_
  rw [cl_n ei, ← ek, ← e2]
  refine wr_28 hM2 h17 v19 d1' x1 ?_
  rw [cl_n ei, ← ek, ← e3]
  exact wr_42 hM3 v19 hlen
/-! BY HAND: reading texts, the reference: writeDown -/
/-- m steps from place k on take the pile of answers from n to n2 -/
def runS : Nat → List Int32 → Nat → Int → Int → Prop
  | 0, _, _, n, n2 => n = n2
  | m + 1, l, k, n, n2 => ∃ w, gNth l k = some w ∧ ((w = 20 ∧ 1 ≤ n ∧ runS m l (k + 1) n n2) ∨ (w ≠ 20 ∧ (w = 21 ∨ w = 22) ∧ 2 ≤ n ∧ runS m l (k + 1) (n - 1) n2) ∨ (w ≠ 20 ∧ w ≠ 21 ∧ w ≠ 22 ∧ n < 60 ∧ runS m l (k + 1) (n + 1) n2))
theorem runS.ok {l : List Int32} : ∀ {m k : Nat} {n n2 : Int}, runS m l k n n2 → okS m l k n := by
  intro m
  induction m with
  | zero => intro k n n2 _; trivial
  | succ m ih =>
    intro k n n2 h
    obtain ⟨w, h1, h2⟩ := h
    refine ⟨w, h1, ?_⟩
    rcases h2 with ⟨a, b, c⟩ | ⟨a, b, c, d⟩ | ⟨a, b, c, d, e⟩
    · exact Or.inl ⟨a, b, ih c⟩
    · exact Or.inr (Or.inl ⟨a, b, c, ih d⟩)
    · exact Or.inr (Or.inr ⟨a, b, c, d, ih e⟩)
theorem runS.put {l : List Int32} {x : Nat} {v : Int32} : ∀ {m k : Nat} {n n2 : Int}, runS m l k n n2 → (k + m ≤ x) → runS m (gPut l x v) k n n2 := by
  intro m
  induction m with
  | zero => intro k n n2 h _; exact h
  | succ m ih =>
    intro k n n2 h hx
    obtain ⟨w, h1, h2⟩ := h
    refine ⟨w, by rw [nth_put, if_neg (by omega)]; exact h1, ?_⟩
    rcases h2 with ⟨a, b, c⟩ | ⟨a, b, c, d⟩ | ⟨a, b, c, d, e⟩
    · exact Or.inl ⟨a, b, ih c (by omega)⟩
    · exact Or.inr (Or.inl ⟨a, b, c, ih d (by omega)⟩)
    · exact Or.inr (Or.inr ⟨a, b, c, d, ih e (by omega)⟩)
theorem runS.snoc {l : List Int32} : ∀ {m k : Nat} {n n2 n3 : Int}, runS m l k n n2 → runS 1 l (k + m) n2 n3 → runS (m + 1) l k n n3 := by
  intro m
  induction m with
  | zero =>
    intro k n n2 n3 h h2
    have h : n = n2 := h
    rw [h]
    exact h2
  | succ m ih =>
    intro k n n2 n3 h h3
    obtain ⟨w, h1, h2⟩ := h
    refine ⟨w, h1, ?_⟩
    rw [show k + (m + 1) = k + 1 + m by omega] at h3
    rcases h2 with ⟨a, b, c⟩ | ⟨a, b, c, d⟩ | ⟨a, b, c, d, e⟩
    · exact Or.inl ⟨a, b, ih c h3⟩
    · exact Or.inr (Or.inl ⟨a, b, c, ih d h3⟩)
    · exact Or.inr (Or.inr ⟨a, b, c, d, ih e h3⟩)
def entP (lp : List Int32) (p : Nat) : Prop := ∀ i, i < p → ∃ w : Int32, gNth lp i = some w ∧ (w = 20 ∨ w = 21 ∨ w = 22 ∨ w = 23)
noncomputable def binN (lp : List Int32) : Nat → Nat
  | 0 => 0
  | p + 1 => binN lp p + (if gNth lp p = some 21 ∨ gNth lp p = some 22 then 1 else 0)
def hasO (lp : List Int32) (p : Nat) : Prop := ∃ k, k < p ∧ gNth lp k = some 23
/-- what stands while a line's steps, from m on, are read; b: an answer is ready -/
def JJ (ls0 : List Int32) (m b : Nat) (M : Mem) (s p o : Nat) (ls lp : List Int32) : Prop := TM sT sG M ∧ (∃ S P O : Int32, Cst M S P O ls lp ∧ S.toInt = (s : Int) ∧ P.toInt = (p : Int) ∧ O.toInt = (o : Int)) ∧ s + p + b ≤ 2 * o ∧ m ≤ s ∧ (∃ dd : Nat, runS (s - m) ls (1400 + m) 0 (dd : Int) ∧ dd = b + binN lp p ∧ dd ≤ o) ∧ entP lp p ∧ ∀ i, i < 1400 + m → gNth ls i = gNth ls0 i
theorem JJ.num {ls0 ls lp : List Int32} {m b s p o : Nat} {M : Mem} (h : JJ ls0 m b M s p o ls lp) : o ≤ 40 ∧ s ≤ 80 ∧ p ≤ 80 ∧ ls.length = 1600 ∧ lp.length = 100 := by
  obtain ⟨hT, ⟨S, P, O, hc, h1, h2, h3⟩, h4, _⟩ := h
  obtain ⟨S2, P2, O2, ls2, lp2, c, q1, q2, _, _, _, _, _, q3⟩ := hT.cst
  obtain ⟨rfl, rfl, rfl, rfl, rfl⟩ := hc.det c
  exact ⟨by omega, by omega, by omega, q1, q2⟩
theorem JJ.frm {ls0 ls lp : List Int32} {m b s p o : Nat} {M M' : Mem} {md : Md} (h : JJ ls0 m b M s p o ls lp) (hT : TM sT sG M') (hF : Frm sT md M M') (hm : (!(mdIn md 11 19 || mdIn md 11 20 || mdIn md 11 21 || mdIn md 1073 0 || mdIn md 1076 0)) = true) : JJ ls0 m b M' s p o ls lp := by
  obtain ⟨_, ⟨S, P, O, hc, h1, h2, h3⟩, h4⟩ := h
  exact ⟨hT, ⟨S, P, O, hc.frm hF hm, h1, h2, h3⟩, h4⟩
/-- an answer's step is written -/
theorem JJ.atom {ls0 ls lp : List Int32} {m s p o : Nat} {M M' : Mem} {w S P O : Int32} (h : JJ ls0 m 0 M s p o ls lp) (w0 : w ≠ 20) (w1 : w ≠ 21) (w2 : w ≠ 22) (ho : ∃ dd : Nat, runS (s - m) ls (1400 + m) 0 (dd : Int) ∧ dd = binN lp p ∧ dd + 1 ≤ o) (hs : s + p + 2 ≤ 2 * o) (hT : TM sT sG M') (hc : Cst M' S P O (gPut ls (1400 + s) w) lp) (e1 : S.toInt = (s : Int) + 1) (e2 : P.toInt = (p : Int)) (e3 : O.toInt = (o : Int)) : JJ ls0 m 1 M' (s + 1) p o (gPut ls (1400 + s) w) lp := by
  obtain ⟨hn1, hn2, hn3, ll, pl⟩ := h.num
  obtain ⟨_, _, _, h5, _, h7, h8⟩ := h
  obtain ⟨dd, r1, r2, r3⟩ := ho
  refine ⟨hT, ⟨S, P, O, hc, by omega, e2, e3⟩, by omega, by omega, ⟨dd + 1, ?_, by omega, r3⟩, h7, fun i hi => by rw [nth_put, if_neg (by omega)]; exact h8 i hi⟩
  rw [show s + 1 - m = (s - m) + 1 by omega]
  refine (r1.put (by omega)).snoc ⟨w, by rw [nth_put, if_pos ⟨by omega, by omega⟩], Or.inr (Or.inr ⟨w0, w1, w2, by omega, ?_⟩)⟩
  show (dd : Int) + 1 = ((dd + 1 : Nat) : Int)
  omega
/-- the top of the pile is written -/
theorem JJ.pop {ls0 ls lp : List Int32} {m s p o : Nat} {M M' : Mem} {w S P O : Int32} (h : JJ ls0 m 1 M s (p + 1) o ls lp) (hw : gNth lp p = some w) (w3 : w ≠ 23) (hT : TM sT sG M') (hc : Cst M' S P O (gPut ls (1400 + s) w) lp) (e1 : S.toInt = (s : Int) + 1) (e2 : P.toInt = (p : Int)) (e3 : O.toInt = (o : Int)) : JJ ls0 m 1 M' (s + 1) p o (gPut ls (1400 + s) w) lp := by
  obtain ⟨hn1, hn2, hn3, ll, pl⟩ := h.num
  obtain ⟨_, _, h4, h5, ⟨dd, r1, r2, r3⟩, h7, h8⟩ := h
  obtain ⟨w', q1, q2⟩ := h7 p (by omega)
  cases hw.symm.trans q1
  have hb : binN lp (p + 1) = binN lp p + (if gNth lp p = some 21 ∨ gNth lp p = some 22 then 1 else 0) := rfl
  have h7' : entP lp p := fun i hi => h7 i (by omega)
  have h8' : ∀ i, i < 1400 + m → gNth (gPut ls (1400 + s) w) i = gNth ls0 i := fun i hi => by rw [nth_put, if_neg (by omega)]; exact h8 i hi
  rcases q2 with rfl | hq
  · rw [if_neg (by rw [hw]; decide)] at hb
    refine ⟨hT, ⟨S, P, O, hc, by omega, e2, e3⟩, by omega, by omega, ⟨dd, ?_, by omega, r3⟩, h7', h8'⟩
    rw [show s + 1 - m = (s - m) + 1 by omega]
    exact (r1.put (by omega)).snoc ⟨20, by rw [nth_put, if_pos ⟨by omega, by omega⟩], Or.inl ⟨rfl, by omega, rfl⟩⟩
  · have hw2 : w = 21 ∨ w = 22 := by
      rcases hq with h | h | h
      · exact Or.inl h
      · exact Or.inr h
      · exact absurd h w3
    have hw20 : w ≠ 20 := by rcases hw2 with rfl | rfl <;> decide
    rw [if_pos (by rw [hw]; rcases hw2 with rfl | rfl; exact Or.inl rfl; exact Or.inr rfl)] at hb
    refine ⟨hT, ⟨S, P, O, hc, by omega, e2, e3⟩, by omega, by omega, ⟨dd - 1, ?_, by omega, by omega⟩, h7', h8'⟩
    rw [show s + 1 - m = (s - m) + 1 by omega]
    refine (r1.put (by omega)).snoc ⟨w, by rw [nth_put, if_pos ⟨by omega, by omega⟩], Or.inr (Or.inl ⟨hw20, hw2, by omega, ?_⟩)⟩
    show (dd : Int) - 1 = ((dd - 1 : Nat) : Int)
    omega
theorem ev_binds {M : Mem} {e : Nat} {w : Int32} : Ev none e 176 0 [some (.int w)] [] M (some (.int (if w = 20 then 3 else if w = 21 then 2 else 1))) M 0 0 := by
  refine bi_0 ?_
  by_cases h : w = 20
  · rw [if_pos h, if_pos h]
    exact bi_6
  · rw [if_neg h, if_neg h]
    refine bi_10 ?_
    by_cases h2 : w = 21
    · rw [if_pos h2, if_pos h2]
      exact bi_16
    · rw [if_neg h2, if_neg h2]
      exact bi_20
def mdW : Md := [(11, 20), (11, 19), (1073, 0), (1074, 0), (1075, 0)]
theorem ev_writeDown {ls0 lp : List Int32} {m o e : Nat} {q : Int32} : ∀ (p s : Nat) (M : Mem) (ls : List Int32), JJ ls0 m 1 M s p o ls lp → ∃ M' s' p' ls', Ev none (e + 1) 175 0 [some (.ref 633), some (.int q)] [] M none M' 0 0 ∧ JJ ls0 m 1 M' s' p' o ls' lp ∧ Frm sT mdW M M' ∧ p' ≤ p ∧ (hasO lp p → hasO lp p') ∧ (q.toInt ≤ 1 → ∀ k, p' = k + 1 → gNth lp k = some 23) := by
  intro p
  induction p with
  | zero =>
    intro s M ls h
    obtain ⟨hT, ⟨S, P, O, hc, h1, h2, h3⟩, _⟩ := id h
    obtain ⟨vs, hM, v19, v20, _⟩ := hc
    refine ⟨M, s, 0, ls, dn_0 hM v20 ?_, h, Frm.refl M, Nat.le_refl _, fun h => h, fun _ k hk => by omega⟩
    rw [if_pos (by rw [Int32.le_iff_toInt_le]; show P.toInt ≤ 0; omega)]
    exact dn_69
  | succ p ih =>
    intro s M ls h
    obtain ⟨hn1, hn2, hn3, ll, pl⟩ := h.num
    obtain ⟨hT, ⟨S, P, O, hc, h1, h2, h3⟩, _, _, _, hent, _⟩ := id h
    obtain ⟨vs, hM, v19, v20, v21, r645, r648⟩ := id hc
    obtain ⟨vs9, hM9, hv⟩ := hT.mfld
    cases hM.symm.trans hM9
    have h18 := hv _ _ _ (and_t mfT).2 sUT.2.2.2
    have eP : (P - 1).toInt = ((p : Nat) : Int) := by rw [i32_m1 (by omega)]; omega
    obtain ⟨w, y1, y2⟩ := at_c (l := lp) eP (by omega)
    have hn0 : ¬ P ≤ 0 := by rw [Int32.le_iff_toInt_le]; show ¬ P.toInt ≤ 0; omega
    have stop_ : Ev none (e + 1) 175 0 [some (.ref 633), some (.int q)] [] M none M 0 0 → (q.toInt ≤ 1 → gNth lp p = some 23) → ∃ M' s' p' ls', Ev none (e + 1) 175 0 [some (.ref 633), some (.int q)] [] M none M' 0 0 ∧ JJ ls0 m 1 M' s' p' o ls' lp ∧ Frm sT mdW M M' ∧ p' ≤ p + 1 ∧ (hasO lp (p + 1) → hasO lp p') ∧ (q.toInt ≤ 1 → ∀ k, p' = k + 1 → gNth lp k = some 23) := fun hev hno => ⟨M, s, p + 1, ls, hev, h, Frm.refl M, Nat.le_refl _, fun h => h, fun a k hk => by
      have hk : k = p := by omega
      subst hk
      exact hno a⟩
    by_cases hw : w = 23
    · exact stop_ (dn_0 hM v20 (by rw [if_neg hn0]; exact dn_7 hM h18 v20 r648 y1 (by rw [if_pos hw]; exact dn_69))) (fun _ => by rw [y2, hw])
    obtain ⟨z, ez⟩ : ∃ z : Int32, z = if w = 20 then 3 else if w = 21 then 2 else 1 := ⟨_, rfl⟩
    have bz := ev_binds (M := M) (e := e) (w := w)
    rw [← ez] at bz
    have z1 : 1 ≤ z.toInt := by
      rw [ez]
      split
      · decide
      · split <;> decide
    by_cases hzq : z < q
    · refine stop_ (dn_0 hM v20 (by rw [if_neg hn0]; exact dn_7 hM h18 v20 r648 y1 (by rw [if_neg hw]; exact dn_23 hM h18 v20 r648 y1 (Ev.call0 (fun n => rfl) bz (dn_37 (by rw [if_pos hzq]; exact dn_69)))))) (fun hq => ?_)
      rw [Int32.lt_iff_toInt_lt] at hzq
      omega
    obtain ⟨T1, c1⟩ := hc.P hT hM (y := P - 1) (by omega) (by omega)
    obtain ⟨_, hlen⟩ := fset hT (and_t (and_t fBT).1).2 hM (y := P - 1) (by omega) (by omega)
    obtain ⟨M1, e1⟩ : ∃ M1, M1 = gPut M 633 (.inr (11, gPut vs 20 (.int (P - 1)))) := ⟨_, rfl⟩
    rw [← e1] at T1 c1
    have F1 : Frm sT mdW M M1 := by rw [e1]; exact Frm.fld hM (by decide)
    obtain ⟨vs1, hM1, v19b, v20b, v21b, r645b, r648b⟩ := id c1
    obtain ⟨vs9, hM9, hv⟩ := T1.mfld
    cases hM1.symm.trans hM9
    have h18b := hv _ _ _ (and_t mfT).2 sUT.2.2.2
    obtain ⟨M2, w1, T2, F2, c2⟩ := ev_write (e := e) (a := w) (b := 0) (n := 0) T1 c1 (by omega)
    have es : S.toInt.toNat = s := by omega
    rw [es] at c2
    have h2' := h.pop y2 hw T2 c2 (by rw [i32_p1 (by omega)]; omega) (by omega) h3
    obtain ⟨M3, s', p', ls', q1, q2, q3, q4, q5, q6⟩ := ih (s + 1) M2 _ h2'
    have hO : hasO lp (p + 1) → hasO lp p := fun ⟨k, k1, k2⟩ => ⟨k, by
      by_cases hk : k = p
      · subst hk
        rw [y2] at k2
        exact absurd (Option.some.inj k2) hw
      · omega, k2⟩
    refine ⟨M3, s', p', ls', dn_0 hM v20 ?_, q2, (F1.trans (F2.more (by decide))).trans q3, by omega, fun h => q5 (hO h), q6⟩
    rw [if_neg hn0]
    refine dn_7 hM h18 v20 r648 y1 ?_
    rw [if_neg hw]
    refine dn_23 hM h18 v20 r648 y1 (Ev.call0 (fun n => rfl) bz (dn_37 ?_))
    rw [if_neg hzq]
    refine dn_41 hM v20 hlen ?_
    rw [← e1]
    exact dn_51 hM1 h18b v20b r648b y1 (Ev.call0 (fun n => gs_7 rfl rfl (cal_wr hM1 rfl)) w1 (dn_66 q1))
/-! BY HAND: reading texts, the reference: what it calls -/
def kX11_isWord : CN := (164, 0, [.inr 1900, .inr 5], [], [], [], [(some (.inl (.ofNat 0, .ofNat 1)), [], [], [], [])])
def kX11_isWord_t : List (Nat × TP) := []
set_option maxRecDepth 100000 in
theorem kX11_isWord_ok : cnOK sT sG FL0 kX11_isWord := ccM_V (Δ := []) (n := 24) (N := 0) (cuts := kX11_isWord_t) sU_ok dp0_ok ct0_ok (nil_ok) (by decide +kernel)
def kX11_isSign : CN := (165, 0, [.inr 1900, .inl (.negSucc 2147483647, .ofNat 2147483647)], [], [], [], [(some (.inl (.ofNat 0, .ofNat 1)), [], [], [], [])])
def kX11_isSign_t : List (Nat × TP) := []
set_option maxRecDepth 100000 in
theorem kX11_isSign_ok : cnOK sT sG FL0 kX11_isSign := ccM_V (Δ := []) (n := 23) (N := 0) (cuts := kX11_isSign_t) sU_ok dp0_ok ct0_ok (nil_ok) (by decide +kernel)
theorem on_0 {e : Nat} {M : Mem} {M' : Mem} {v : Option Value} {x1 x2 x3 : Option Value}  (hz : Ev none (e + 2) 180 4 [some (.ref 633), x1, x2, x3] [.long 7237492, .ref 633] M v M' 0 0) : Ev none (e + 2) 180 0 [some (.ref 633), x1, x2, x3] [] M v M' 0 0 := by
  refine Ev.step (pc' := 4) (ls' := [some (.ref 633), x1, x2, x3]) (st' := [.long 7237492, .ref 633]) (M1 := M) 2 (fun n => rfl) ?_
  exact hz
theorem on_7 {e : Nat} {M : Mem} {M' : Mem} {v : Option Value} {z : Int32} {x1 x2 x3 : Option Value}  (hz : Ev none (e + 2) 180 9 [some (.ref 633), some (.int z), x2, x3] [.ref 633] M v M' 0 0) : Ev none (e + 2) 180 7 [some (.ref 633), x1, x2, x3] [.int z] M v M' 0 0 := by
  refine Ev.step (pc' := 9) (ls' := [some (.ref 633), some (.int z), x2, x3]) (st' := [.ref 633]) (M1 := M) 2 (fun n => rfl) ?_
  exact hz
theorem on_12 {e : Nat} {M : Mem} {M' : Mem} {v : Option Value} {a z : Int32} {x2 x3 : Option Value}  (hz : Ev none (e + 2) 180 (if z = 0 then 17 else 36) [some (.ref 633), some (.int z), some (.int a), x3] [] M v M' 0 0) : Ev none (e + 2) 180 12 [some (.ref 633), some (.int z), x2, x3] [.int a] M v M' 0 0 := by
  refine Ev.step (pc' := (if z = 0 then 17 else 36)) (ls' := [some (.ref 633), some (.int z), some (.int a), x3]) (st' := []) (M1 := M) 3 (fun n => rfl) ?_
  exact hz
theorem on_17 {e : Nat} {M : Mem} {M' : Mem} {v : Option Value} {a z : Int32} {x3 : Option Value}  (hz : Ev none (e + 2) 180 (if 0 ≤ a then 36 else 21) [some (.ref 633), some (.int z), some (.int a), x3] [] M v M' 0 0) : Ev none (e + 2) 180 17 [some (.ref 633), some (.int z), some (.int a), x3] [] M v M' 0 0 := by
  refine Ev.step (pc' := (if 0 ≤ a then 36 else 21)) (ls' := [some (.ref 633), some (.int z), some (.int a), x3]) (st' := []) (M1 := M) 2 (fun n => rfl) ?_
  exact hz
theorem on_21 {e : Nat} {M : Mem} {M' : Mem} {v : Option Value} {a z : Int32} {x3 : Option Value}  (hz : Ev none (e + 2) 180 24 [some (.ref 633), some (.int z), some (.int a), x3] [.int 40, .ref 633] M v M' 0 0) : Ev none (e + 2) 180 21 [some (.ref 633), some (.int z), some (.int a), x3] [] M v M' 0 0 := by
  refine Ev.step (pc' := 24) (ls' := [some (.ref 633), some (.int z), some (.int a), x3]) (st' := [.int 40, .ref 633]) (M1 := M) 2 (fun n => rfl) ?_
  exact hz
theorem on_27 {e : Nat} {M : Mem} {M' : Mem} {v : Option Value} {a y z : Int32} {x3 : Option Value}  (hz : Ev none (e + 2) 180 (if y = 0 then 30 else 36) [some (.ref 633), some (.int z), some (.int a), x3] [] M v M' 0 0) : Ev none (e + 2) 180 27 [some (.ref 633), some (.int z), some (.int a), x3] [.int y] M v M' 0 0 := by
  refine Ev.step (pc' := (if y = 0 then 30 else 36)) (ls' := [some (.ref 633), some (.int z), some (.int a), x3]) (st' := []) (M1 := M) 1 (fun n => rfl) ?_
  exact hz
theorem on_30 {e : Nat} {M : Mem} {M' : Mem} {v : Option Value} {a z : Int32} {x3 : Option Value}  (hz : Ev none (e + 2) 180 32 [some (.ref 633), some (.int z), some (.int a), x3] [.int 1, .ref 633] M v M' 0 0) : Ev none (e + 2) 180 30 [some (.ref 633), some (.int z), some (.int a), x3] [] M v M' 0 0 := by
  refine Ev.step (pc' := 32) (ls' := [some (.ref 633), some (.int z), some (.int a), x3]) (st' := [.int 1, .ref 633]) (M1 := M) 2 (fun n => rfl) ?_
  exact hz
theorem on_35 {e : Nat} {M : Mem} {a z : Int32} {x3 : Option Value}  : Ev none (e + 2) 180 35 [some (.ref 633), some (.int z), some (.int a), x3] [.int 0] M (some (.int 0)) M 0 0 := by
  exact Ev.ret (fun n => rfl)
theorem on_36 {e : Nat} {M : Mem} {M' : Mem} {v : Option Value} {vs : List Value} {a f21 z : Int32} {x3 : Option Value} (hM : gNth M 633 = some (.inr (11, vs))) (v21 : gNth vs 21 = some (.int f21)) (hz : Ev none (e + 2) 180 (if f21 = 40 then 54 else 45) [some (.ref 633), some (.int z), some (.int a), x3] [] M v M' 0 0) : Ev none (e + 2) 180 36 [some (.ref 633), some (.int z), some (.int a), x3] [] M v M' 0 0 := by
  refine Ev.step (pc' := 37) (ls' := [some (.ref 633), some (.int z), some (.int a), x3]) (st' := [.ref 633]) (M1 := M) 1 (fun n => rfl) ?_
  refine Ev.step 1 (gs_3 rfl rfl (gf_g rfl hM v21)) ?_
  refine Ev.step (pc' := (if f21 = 40 then 54 else 45)) (ls' := [some (.ref 633), some (.int z), some (.int a), x3]) (st' := []) (M1 := M) 2 (fun n => rfl) ?_
  exact hz
theorem on_45 {e : Nat} {M : Mem} {M' : Mem} {v : Option Value} {a z : Int32} {x3 : Option Value}  (hz : Ev none (e + 2) 180 46 [some (.ref 633), some (.int z), some (.int a), x3] [.ref 633] M v M' 0 0) : Ev none (e + 2) 180 45 [some (.ref 633), some (.int z), some (.int a), x3] [] M v M' 0 0 := by
  refine Ev.step (pc' := 46) (ls' := [some (.ref 633), some (.int z), some (.int a), x3]) (st' := [.ref 633]) (M1 := M) 1 (fun n => rfl) ?_
  exact hz
theorem on_49 {e : Nat} {M : Mem} {M' : Mem} {v : Option Value} {a y z : Int32} {x3 : Option Value}  (hz : Ev none (e + 2) 180 (if y = 10 then 54 else 60) [some (.ref 633), some (.int z), some (.int a), x3] [] M v M' 0 0) : Ev none (e + 2) 180 49 [some (.ref 633), some (.int z), some (.int a), x3] [.int y] M v M' 0 0 := by
  refine Ev.step (pc' := (if y = 10 then 54 else 60)) (ls' := [some (.ref 633), some (.int z), some (.int a), x3]) (st' := []) (M1 := M) 2 (fun n => rfl) ?_
  exact hz
theorem on_54 {e : Nat} {M : Mem} {M' : Mem} {v : Option Value} {a z : Int32} {x3 : Option Value}  (hz : Ev none (e + 2) 180 56 [some (.ref 633), some (.int z), some (.int a), x3] [.int 4, .ref 633] M v M' 0 0) : Ev none (e + 2) 180 54 [some (.ref 633), some (.int z), some (.int a), x3] [] M v M' 0 0 := by
  refine Ev.step (pc' := 56) (ls' := [some (.ref 633), some (.int z), some (.int a), x3]) (st' := [.int 4, .ref 633]) (M1 := M) 2 (fun n => rfl) ?_
  exact hz
theorem on_59 {e : Nat} {M : Mem} {a z : Int32} {x3 : Option Value}  : Ev none (e + 2) 180 59 [some (.ref 633), some (.int z), some (.int a), x3] [.int 0] M (some (.int 0)) M 0 0 := by
  exact Ev.ret (fun n => rfl)
theorem on_60 {e : Nat} {M : Mem} {M' : Mem} {v : Option Value} {vs : List Value} {a f21 z : Int32} {x3 : Option Value} (hM : gNth M 633 = some (.inr (11, vs))) (v21 : gNth vs 21 = some (.int f21)) (hlen : vs.length = 63) (hz : Ev none (e + 2) 180 70 [some (.ref 633), some (.int z), some (.int a), x3] [] (gPut M 633 (.inr (11, gPut vs 21 (.int (f21 + 1))))) v M' 0 0) : Ev none (e + 2) 180 60 [some (.ref 633), some (.int z), some (.int a), x3] [] M v M' 0 0 := by
  refine Ev.step (pc' := 62) (ls' := [some (.ref 633), some (.int z), some (.int a), x3]) (st' := [.ref 633, .ref 633]) (M1 := M) 2 (fun n => rfl) ?_
  refine Ev.step 1 (gs_3 rfl rfl (gf_g rfl hM v21)) ?_
  refine Ev.step (pc' := 67) (ls' := [some (.ref 633), some (.int z), some (.int a), x3]) (st' := [.int (f21 + 1), .ref 633]) (M1 := M) 2 (fun n => rfl) ?_
  refine Ev.step 1 (gs_4 rfl rfl (pf_i rfl hM (by rw [hlen]; decide) rfl rfl)) ?_
  exact hz
theorem on_70 {e : Nat} {M : Mem} {M' : Mem} {v : Option Value} {a z : Int32} {x3 : Option Value}  (hz : Ev none (e + 2) 180 71 [some (.ref 633), some (.int z), some (.int a), x3] [.ref 633] M v M' 0 0) : Ev none (e + 2) 180 70 [some (.ref 633), some (.int z), some (.int a), x3] [] M v M' 0 0 := by
  refine Ev.step (pc' := 71) (ls' := [some (.ref 633), some (.int z), some (.int a), x3]) (st' := [.ref 633]) (M1 := M) 1 (fun n => rfl) ?_
  exact hz
theorem on_74 {e : Nat} {M : Mem} {M' : Mem} {v : Option Value} {a z : Int32} {x3 : Option Value}  (hz : Ev none (e + 2) 180 (if 0 ≤ a then 111 else 78) [some (.ref 633), some (.int z), some (.int a), x3] [] M v M' 0 0) : Ev none (e + 2) 180 74 [some (.ref 633), some (.int z), some (.int a), x3] [] M v M' 0 0 := by
  refine Ev.step (pc' := (if 0 ≤ a then 111 else 78)) (ls' := [some (.ref 633), some (.int z), some (.int a), x3]) (st' := []) (M1 := M) 2 (fun n => rfl) ?_
  exact hz
theorem on_78 {e : Nat} {M : Mem} {M' : Mem} {v : Option Value} {vs : List Value} {a f20 z : Int32} {x3 : Option Value} (hM : gNth M 633 = some (.inr (11, vs))) (v18 : gNth vs 18 = some (.ref 648)) (v20 : gNth vs 20 = some (.int f20)) (hz : Ev none (e + 2) 180 (if z = 0 then 95 else 90) [some (.ref 633), some (.int z), some (.int a), x3] [.int f20, .ref 648] M v M' 0 0) : Ev none (e + 2) 180 78 [some (.ref 633), some (.int z), some (.int a), x3] [] M v M' 0 0 := by
  refine Ev.step (pc' := 79) (ls' := [some (.ref 633), some (.int z), some (.int a), x3]) (st' := [.ref 633]) (M1 := M) 1 (fun n => rfl) ?_
  refine Ev.step 1 (gs_3 rfl rfl (gf_g rfl hM v18)) ?_
  refine Ev.step (pc' := 83) (ls' := [some (.ref 633), some (.int z), some (.int a), x3]) (st' := [.ref 633, .ref 648]) (M1 := M) 1 (fun n => rfl) ?_
  refine Ev.step 1 (gs_3 rfl rfl (gf_g rfl hM v20)) ?_
  refine Ev.step (pc' := (if z = 0 then 95 else 90)) (ls' := [some (.ref 633), some (.int z), some (.int a), x3]) (st' := [.int f20, .ref 648]) (M1 := M) 2 (fun n => rfl) ?_
  exact hz
theorem on_90 {e : Nat} {M : Mem} {M' : Mem} {v : Option Value} {a p y1 z : Int32} {l648 : List Int32} {x3 : Option Value} (r648 : gNth M 648 = some (.inl (1, .inl l648))) (g1 : gAt l648 p = some y1) (hz : Ev none (e + 2) 180 98 [some (.ref 633), some (.int z), some (.int a), x3] [] (gPut M 648 (.inl (1, .inl (gPut l648 p.toNatClampNeg 20)))) v M' 0 0) : Ev none (e + 2) 180 90 [some (.ref 633), some (.int z), some (.int a), x3] [.int p, .ref 648] M v M' 0 0 := by
  refine Ev.step (pc' := 97) (ls' := [some (.ref 633), some (.int z), some (.int a), x3]) (st' := [.int 20, .int p, .ref 648]) (M1 := M) 2 (fun n => rfl) ?_
  refine Ev.step 1 (gs_4 rfl rfl (is_g r648 g1)) ?_
  exact hz
theorem on_95 {e : Nat} {M : Mem} {M' : Mem} {v : Option Value} {a p y1 z : Int32} {l648 : List Int32} {x3 : Option Value} (r648 : gNth M 648 = some (.inl (1, .inl l648))) (g1 : gAt l648 p = some y1) (hz : Ev none (e + 2) 180 98 [some (.ref 633), some (.int z), some (.int a), x3] [] (gPut M 648 (.inl (1, .inl (gPut l648 p.toNatClampNeg 23)))) v M' 0 0) : Ev none (e + 2) 180 95 [some (.ref 633), some (.int z), some (.int a), x3] [.int p, .ref 648] M v M' 0 0 := by
  refine Ev.step (pc' := 97) (ls' := [some (.ref 633), some (.int z), some (.int a), x3]) (st' := [.int 23, .int p, .ref 648]) (M1 := M) 1 (fun n => rfl) ?_
  refine Ev.step 1 (gs_4 rfl rfl (is_g r648 g1)) ?_
  exact hz
theorem on_98 {e : Nat} {M : Mem} {M' : Mem} {v : Option Value} {vs : List Value} {a f20 z : Int32} {x3 : Option Value} (hM : gNth M 633 = some (.inr (11, vs))) (v20 : gNth vs 20 = some (.int f20)) (hlen : vs.length = 63) (hz : Ev none (e + 2) 180 0 [some (.ref 633), some (.int z), some (.int a), x3] [] (gPut M 633 (.inr (11, gPut vs 20 (.int (f20 + 1))))) v M' 0 0) : Ev none (e + 2) 180 98 [some (.ref 633), some (.int z), some (.int a), x3] [] M v M' 0 0 := by
  refine Ev.step (pc' := 100) (ls' := [some (.ref 633), some (.int z), some (.int a), x3]) (st' := [.ref 633, .ref 633]) (M1 := M) 2 (fun n => rfl) ?_
  refine Ev.step 1 (gs_3 rfl rfl (gf_g rfl hM v20)) ?_
  refine Ev.step (pc' := 105) (ls' := [some (.ref 633), some (.int z), some (.int a), x3]) (st' := [.int (f20 + 1), .ref 633]) (M1 := M) 2 (fun n => rfl) ?_
  refine Ev.step 1 (gs_4 rfl rfl (pf_i rfl hM (by rw [hlen]; decide) rfl rfl)) ?_
  refine Ev.step (pc' := 0) (ls' := [some (.ref 633), some (.int z), some (.int a), x3]) (st' := []) (M1 := (gPut M 633 (.inr (11, gPut vs 20 (.int (f20 + 1)))))) 1 (fun n => rfl) ?_
  exact hz
theorem on_111 {e : Nat} {M : Mem} {M' : Mem} {v : Option Value} {a z : Int32} {x3 : Option Value}  (hz : Ev none (e + 2) 180 (if 8 ≤ a then 127 else 117) [some (.ref 633), some (.int z), some (.int a), x3] [] M v M' 0 0) : Ev none (e + 2) 180 111 [some (.ref 633), some (.int z), some (.int a), x3] [] M v M' 0 0 := by
  refine Ev.step (pc' := (if 8 ≤ a then 127 else 117)) (ls' := [some (.ref 633), some (.int z), some (.int a), x3]) (st' := []) (M1 := M) 3 (fun n => rfl) ?_
  exact hz
theorem on_117 {e : Nat} {M : Mem} {M' : Mem} {v : Option Value} {a z : Int32} {x3 : Option Value}  (hz : Ev none (e + 2) 180 121 [some (.ref 633), some (.int z), some (.int a), x3] [.int 0, .int 0, .int a, .ref 633] M v M' 0 0) : Ev none (e + 2) 180 117 [some (.ref 633), some (.int z), some (.int a), x3] [] M v M' 0 0 := by
  refine Ev.step (pc' := 121) (ls' := [some (.ref 633), some (.int z), some (.int a), x3]) (st' := [.int 0, .int 0, .int a, .ref 633]) (M1 := M) 4 (fun n => rfl) ?_
  exact hz
theorem on_124 {e : Nat} {M : Mem} {M' : Mem} {v : Option Value} {a z : Int32} {x3 : Option Value}  (hz : Ev none (e + 2) 180 197 [some (.ref 633), some (.int z), some (.int a), x3] [] M v M' 0 0) : Ev none (e + 2) 180 124 [some (.ref 633), some (.int z), some (.int a), x3] [] M v M' 0 0 := by
  refine Ev.step (pc' := 197) (ls' := [some (.ref 633), some (.int z), some (.int a), x3]) (st' := []) (M1 := M) 1 (fun n => rfl) ?_
  exact hz
theorem on_127 {e : Nat} {M : Mem} {M' : Mem} {v : Option Value} {a z : Int32} {x3 : Option Value}  (hz : Ev none (e + 2) 180 130 [some (.ref 633), some (.int z), some (.int a), x3] [.int 60, .ref 633] M v M' 0 0) : Ev none (e + 2) 180 127 [some (.ref 633), some (.int z), some (.int a), x3] [] M v M' 0 0 := by
  refine Ev.step (pc' := 130) (ls' := [some (.ref 633), some (.int z), some (.int a), x3]) (st' := [.int 60, .ref 633]) (M1 := M) 2 (fun n => rfl) ?_
  exact hz
theorem on_133 {e : Nat} {M : Mem} {M' : Mem} {v : Option Value} {a y z : Int32} {x3 : Option Value}  (hz : Ev none (e + 2) 180 (if y = 0 then 136 else 160) [some (.ref 633), some (.int z), some (.int a), x3] [] M v M' 0 0) : Ev none (e + 2) 180 133 [some (.ref 633), some (.int z), some (.int a), x3] [.int y] M v M' 0 0 := by
  refine Ev.step (pc' := (if y = 0 then 136 else 160)) (ls' := [some (.ref 633), some (.int z), some (.int a), x3]) (st' := []) (M1 := M) 1 (fun n => rfl) ?_
  exact hz
theorem on_136 {e : Nat} {M : Mem} {M' : Mem} {v : Option Value} {a z : Int32} {x3 : Option Value}  (hz : Ev none (e + 2) 180 139 [some (.ref 633), some (.int z), some (.int a), x3] [.int 61, .ref 633] M v M' 0 0) : Ev none (e + 2) 180 136 [some (.ref 633), some (.int z), some (.int a), x3] [] M v M' 0 0 := by
  refine Ev.step (pc' := 139) (ls' := [some (.ref 633), some (.int z), some (.int a), x3]) (st' := [.int 61, .ref 633]) (M1 := M) 2 (fun n => rfl) ?_
  exact hz
theorem on_142 {e : Nat} {M : Mem} {M' : Mem} {v : Option Value} {a y z : Int32} {x3 : Option Value}  (hz : Ev none (e + 2) 180 (if y = 0 then 145 else 160) [some (.ref 633), some (.int z), some (.int a), x3] [] M v M' 0 0) : Ev none (e + 2) 180 142 [some (.ref 633), some (.int z), some (.int a), x3] [.int y] M v M' 0 0 := by
  refine Ev.step (pc' := (if y = 0 then 145 else 160)) (ls' := [some (.ref 633), some (.int z), some (.int a), x3]) (st' := []) (M1 := M) 1 (fun n => rfl) ?_
  exact hz
theorem on_145 {e : Nat} {M : Mem} {M' : Mem} {v : Option Value} {a z : Int32} {x3 : Option Value}  (hz : Ev none (e + 2) 180 148 [some (.ref 633), some (.int z), some (.int a), x3] [.int 62, .ref 633] M v M' 0 0) : Ev none (e + 2) 180 145 [some (.ref 633), some (.int z), some (.int a), x3] [] M v M' 0 0 := by
  refine Ev.step (pc' := 148) (ls' := [some (.ref 633), some (.int z), some (.int a), x3]) (st' := [.int 62, .ref 633]) (M1 := M) 2 (fun n => rfl) ?_
  exact hz
theorem on_151 {e : Nat} {M : Mem} {M' : Mem} {v : Option Value} {a y z : Int32} {x3 : Option Value}  (hz : Ev none (e + 2) 180 (if y = 0 then 154 else 160) [some (.ref 633), some (.int z), some (.int a), x3] [] M v M' 0 0) : Ev none (e + 2) 180 151 [some (.ref 633), some (.int z), some (.int a), x3] [.int y] M v M' 0 0 := by
  refine Ev.step (pc' := (if y = 0 then 154 else 160)) (ls' := [some (.ref 633), some (.int z), some (.int a), x3]) (st' := []) (M1 := M) 1 (fun n => rfl) ?_
  exact hz
theorem on_154 {e : Nat} {M : Mem} {M' : Mem} {v : Option Value} {a z : Int32} {x3 : Option Value}  (hz : Ev none (e + 2) 180 156 [some (.ref 633), some (.int z), some (.int a), x3] [.int 1, .ref 633] M v M' 0 0) : Ev none (e + 2) 180 154 [some (.ref 633), some (.int z), some (.int a), x3] [] M v M' 0 0 := by
  refine Ev.step (pc' := 156) (ls' := [some (.ref 633), some (.int z), some (.int a), x3]) (st' := [.int 1, .ref 633]) (M1 := M) 2 (fun n => rfl) ?_
  exact hz
theorem on_159 {e : Nat} {M : Mem} {a z : Int32} {x3 : Option Value}  : Ev none (e + 2) 180 159 [some (.ref 633), some (.int z), some (.int a), x3] [.int 0] M (some (.int 0)) M 0 0 := by
  exact Ev.ret (fun n => rfl)
theorem on_160 {e : Nat} {M : Mem} {M' : Mem} {v : Option Value} {vs : List Value} {a f25 z : Int32} {x3 : Option Value} (hM : gNth M 633 = some (.inr (11, vs))) (v25 : gNth vs 25 = some (.int f25)) (hz : Ev none (e + 2) 180 166 [some (.ref 633), some (.int z), some (.int a), some (.int f25)] [.ref 633] M v M' 0 0) : Ev none (e + 2) 180 160 [some (.ref 633), some (.int z), some (.int a), x3] [] M v M' 0 0 := by
  refine Ev.step (pc' := 161) (ls' := [some (.ref 633), some (.int z), some (.int a), x3]) (st' := [.ref 633]) (M1 := M) 1 (fun n => rfl) ?_
  refine Ev.step 1 (gs_3 rfl rfl (gf_g rfl hM v25)) ?_
  refine Ev.step (pc' := 166) (ls' := [some (.ref 633), some (.int z), some (.int a), some (.int f25)]) (st' := [.ref 633]) (M1 := M) 2 (fun n => rfl) ?_
  exact hz
theorem on_169 {e : Nat} {M : Mem} {M' : Mem} {v : Option Value} {vs : List Value} {a f22 sg z : Int32} (hM : gNth M 633 = some (.inr (11, vs))) (v22 : gNth vs 22 = some (.int f22)) (hz : Ev none (e + 2) 180 (if f22 = 2 then 183 else 177) [some (.ref 633), some (.int z), some (.int a), some (.int sg)] [] M v M' 0 0) : Ev none (e + 2) 180 169 [some (.ref 633), some (.int z), some (.int a), some (.int sg)] [] M v M' 0 0 := by
  refine Ev.step (pc' := 170) (ls' := [some (.ref 633), some (.int z), some (.int a), some (.int sg)]) (st' := [.ref 633]) (M1 := M) 1 (fun n => rfl) ?_
  refine Ev.step 1 (gs_3 rfl rfl (gf_g rfl hM v22)) ?_
  refine Ev.step (pc' := (if f22 = 2 then 183 else 177)) (ls' := [some (.ref 633), some (.int z), some (.int a), some (.int sg)]) (st' := []) (M1 := M) 2 (fun n => rfl) ?_
  exact hz
theorem on_177 {e : Nat} {M : Mem} {M' : Mem} {v : Option Value} {a sg z : Int32}  (hz : Ev none (e + 2) 180 179 [some (.ref 633), some (.int z), some (.int a), some (.int sg)] [.int 1, .ref 633] M v M' 0 0) : Ev none (e + 2) 180 177 [some (.ref 633), some (.int z), some (.int a), some (.int sg)] [] M v M' 0 0 := by
  refine Ev.step (pc' := 179) (ls' := [some (.ref 633), some (.int z), some (.int a), some (.int sg)]) (st' := [.int 1, .ref 633]) (M1 := M) 2 (fun n => rfl) ?_
  exact hz
theorem on_182 {e : Nat} {M : Mem} {a sg z : Int32}  : Ev none (e + 2) 180 182 [some (.ref 633), some (.int z), some (.int a), some (.int sg)] [.int 0] M (some (.int 0)) M 0 0 := by
  exact Ev.ret (fun n => rfl)
theorem on_183 {e : Nat} {M : Mem} {M' : Mem} {v : Option Value} {vs : List Value} {a f25 sg z : Int32} (hM : gNth M 633 = some (.inr (11, vs))) (v25 : gNth vs 25 = some (.int f25)) (hz : Ev none (e + 2) 180 190 [some (.ref 633), some (.int z), some (.int a), some (.int sg)] [.int f25, .int sg, .int a, .ref 633] M v M' 0 0) : Ev none (e + 2) 180 183 [some (.ref 633), some (.int z), some (.int a), some (.int sg)] [] M v M' 0 0 := by
  refine Ev.step (pc' := 187) (ls' := [some (.ref 633), some (.int z), some (.int a), some (.int sg)]) (st' := [.ref 633, .int sg, .int a, .ref 633]) (M1 := M) 4 (fun n => rfl) ?_
  refine Ev.step 1 (gs_3 rfl rfl (gf_g rfl hM v25)) ?_
  exact hz
theorem on_193 {e : Nat} {M : Mem} {M' : Mem} {v : Option Value} {a sg z : Int32}  (hz : Ev none (e + 2) 180 194 [some (.ref 633), some (.int z), some (.int a), some (.int sg)] [.ref 633] M v M' 0 0) : Ev none (e + 2) 180 193 [some (.ref 633), some (.int z), some (.int a), some (.int sg)] [] M v M' 0 0 := by
  refine Ev.step (pc' := 194) (ls' := [some (.ref 633), some (.int z), some (.int a), some (.int sg)]) (st' := [.ref 633]) (M1 := M) 1 (fun n => rfl) ?_
  exact hz
theorem on_197 {e : Nat} {M : Mem} {M' : Mem} {v : Option Value} {a z : Int32} {x3 : Option Value}  (hz : Ev none (e + 2) 180 199 [some (.ref 633), some (.int z), some (.int a), x3] [.int 3, .ref 633] M v M' 0 0) : Ev none (e + 2) 180 197 [some (.ref 633), some (.int z), some (.int a), x3] [] M v M' 0 0 := by
  refine Ev.step (pc' := 199) (ls' := [some (.ref 633), some (.int z), some (.int a), x3]) (st' := [.int 3, .ref 633]) (M1 := M) 2 (fun n => rfl) ?_
  exact hz
theorem on_202 {e : Nat} {M : Mem} {a z : Int32} {x3 : Option Value}  : Ev none (e + 2) 180 202 [some (.ref 633), some (.int z), some (.int a), x3] [] M (some (.int 1)) M 0 0 := by
  refine Ev.step (pc' := 203) (ls' := [some (.ref 633), some (.int z), some (.int a), x3]) (st' := [.int 1]) (M1 := M) 1 (fun n => rfl) ?_
  exact Ev.ret (fun n => rfl)
theorem cal_at {M : Mem} {vs : List Value} {rest : List Value} (hM : gNth M 633 = some (.inr (11, vs))) (hr : gRoom rest = true) : gCal (.invokevirtual 312) 11 (.ref 633 :: rest) M = some (.inr (173, [some (.ref 633)], rest)) := by
  show @cond (Option ((List Value × Mem) ⊕ (Nat × Lo × List Value))) (true && gRecv M (.ref 633) 11 && gRoom rest && true) (some (.inr (173, [some (.ref 633)], rest))) none = _
  rw [recv_ok hM, hr]
  rfl
theorem cal_ss {M : Mem} {vs : List Value} {a0 : Int32} {rest : List Value} (hM : gNth M 633 = some (.inr (11, vs))) (hr : gRoom rest = true) : gCal (.invokevirtual 195) 11 (.int a0 :: .ref 633 :: rest) M = some (.inr (165, [some (.ref 633), some (.int a0)], rest)) := by
  show @cond (Option ((List Value × Mem) ⊕ (Nat × Lo × List Value))) (true && gRecv M (.ref 633) 11 && gRoom rest && true) (some (.inr (165, [some (.ref 633), some (.int a0)], rest))) none = _
  rw [recv_ok hM, hr]
  rfl
theorem cal_bd {M : Mem} {vs : List Value} {a0 : Int32} {rest : List Value} (hM : gNth M 633 = some (.inr (11, vs))) (hr : gRoom rest = true) : gCal (.invokevirtual 198) 11 (.int a0 :: .ref 633 :: rest) M = some (.inr (163, [some (.ref 633), some (.int a0)], rest)) := by
  show @cond (Option ((List Value × Mem) ⊕ (Nat × Lo × List Value))) (true && gRecv M (.ref 633) 11 && gRoom rest && true) (some (.inr (163, [some (.ref 633), some (.int a0)], rest))) none = _
  rw [recv_ok hM, hr]
  rfl
theorem cal_op {M : Mem} {vs : List Value} {rest : List Value} (hM : gNth M 633 = some (.inr (11, vs))) (hr : gRoom rest = true) : gCal (.invokevirtual 318) 11 (.ref 633 :: rest) M = some (.inr (177, [some (.ref 633), none, none], rest)) := by
  show @cond (Option ((List Value × Mem) ⊕ (Nat × Lo × List Value))) (true && gRecv M (.ref 633) 11 && gRoom rest && true) (some (.inr (177, [some (.ref 633), none, none], rest))) none = _
  rw [recv_ok hM, hr]
  rfl
theorem cal_nx {M : Mem} {vs : List Value} {rest : List Value} (hM : gNth M 633 = some (.inr (11, vs))) (hr : gRoom rest = true) : gCal (.invokevirtual 201) 11 (.ref 633 :: rest) M = some (.inr (162, [some (.ref 633), none, none, none], rest)) := by
  show @cond (Option ((List Value × Mem) ⊕ (Nat × Lo × List Value))) (true && gRecv M (.ref 633) 11 && gRoom rest && true) (some (.inr (162, [some (.ref 633), none, none, none], rest))) none = _
  rw [recv_ok hM, hr]
  rfl
theorem cal_wd {M : Mem} {vs : List Value} {a0 : Int32} {rest : List Value} (hM : gNth M 633 = some (.inr (11, vs))) (hr : gRoom rest = true) : gCal (.invokevirtual 303) 11 (.int a0 :: .ref 633 :: rest) M = some (.inr (175, [some (.ref 633), some (.int a0)], rest)) := by
  show @cond (Option ((List Value × Mem) ⊕ (Nat × Lo × List Value))) (true && gRecv M (.ref 633) 11 && gRoom rest && true) (some (.inr (175, [some (.ref 633), some (.int a0)], rest))) none = _
  rw [recv_ok hM, hr]
  rfl
theorem cal_ww {M : Mem} {vs : List Value} {a0 : Int64} {rest : List Value} (hM : gNth M 633 = some (.inr (11, vs))) (hr : gRoom rest = true) : gCal (.invokevirtual 248) 11 (.long a0 :: .ref 633 :: rest) M = some (.inr (164, [some (.ref 633), some (.long a0), none], rest)) := by
  show @cond (Option ((List Value × Mem) ⊕ (Nat × Lo × List Value))) (true && gRecv M (.ref 633) 11 && gRoom rest && true) (some (.inr (164, [some (.ref 633), some (.long a0), none], rest))) none = _
  rw [recv_ok hM, hr]
  rfl
/-- a contract used by hand -/
theorem use_cn {c : CN} {k d : Nat} {M : Mem} {ws : List Value} (hc : cnOK sT sG FL0 c) (hm : (gNth mRs c.1).map (fun q => q.2.2.2.1) = some k) (h3 : c.2.2.2.1 = []) (h4 : c.2.2.2.2.1 = []) (hd : c.2.1 ≤ d) (ha : Two (taOK sT) c.2.2.1 ws) (hT : TM sT sG M) : ∃ v M', Ev none d c.1 0 (gPad k (gArgs ws)) [] M v M' 0 0 ∧ TM sT sG M' ∧ Frm sT c.2.2.2.2.2.1 M M' ∧ ∃ s ∈ c.2.2.2.2.2.2, rsOK sT s.1 v := by
  cases hq : gNth mRs c.1 with
  | none => rw [hq] at hm; cases hm
  | some q =>
    rw [hq] at hm
    have hm : q.2.2.2.1 = k := Option.some.inj hm
    obtain ⟨v, M', e1, e2, e3, s, e4, e5, _⟩ := hc d M ws q hd hq ha ⟨[], by rw [h3]; trivial, by rw [h4]; exact fun f hf => by cases hf⟩ hT
    rw [hm] at e1
    exact ⟨v, M', e1, e2, e3, s, e4, e5.1⟩
set_option maxRecDepth 100000 in
theorem mRt : (gNth mRs 162).map (fun q => q.2.2.2.1) = some 4 ∧ (gNth mRs 163).map (fun q => q.2.2.2.1) = some 2 ∧ (gNth mRs 164).map (fun q => q.2.2.2.1) = some 3 ∧ (gNth mRs 165).map (fun q => q.2.2.2.1) = some 2 ∧ (gNth mRs 173).map (fun q => q.2.2.2.1) = some 1 ∧ (gNth mRs 177).map (fun q => q.2.2.2.1) = some 3 := by refine ⟨?_, ?_, ?_, ?_, ?_, ?_⟩ <;> decide +kernel
def mdN : Md := [(11, 4), (11, 22), (11, 23), (11, 24), (11, 25), (11, 31)]
def mdB : Md := [(11, 26), (11, 27)]
section USE
variable {M : Mem} {e : Nat}
theorem un_next (hT : TM sT sG M) : ∃ M', Ev none (e + 1) 162 0 [some (.ref 633), none, none, none] [] M none M' 0 0 ∧ TM sT sG M' ∧ Frm sT mdN M M' := by
  obtain ⟨v, M', h1, h2, h3, s, hs, h4⟩ := use_cn (d := e + 1) (ws := [.ref 633]) kX11_next_ok mRt.1 rfl rfl (Nat.le_add_left 1 e) (Two.mk rfl trivial) hT
  cases List.mem_singleton.mp hs
  cases v with
  | some _ => exact h4.elim
  | none => exact ⟨M', h1, h2, h3⟩
theorem un_bad {k : Int32} (hT : TM sT sG M) : ∃ M', Ev none e 163 0 [some (.ref 633), some (.int k)] [] M (some (.int 0)) M' 0 0 ∧ TM sT sG M' ∧ Frm sT mdB M M' := by
  obtain ⟨v, M', h1, h2, h3, s, hs, h4⟩ := use_cn (d := e) (ws := [.ref 633, .int k]) kX11_bad_ok mRt.2.1 rfl rfl (Nat.zero_le e) (Two.mk rfl (Two.mk ⟨k, rfl, i32_any k⟩ trivial)) hT
  cases List.mem_singleton.mp hs
  cases v with
  | none => exact h4.elim
  | some w =>
    obtain ⟨x, rfl, x1, x2⟩ := h4
    have hx : x = 0 := Int32.toInt_inj.mp (show x.toInt = 0 from Int.le_antisymm x2 x1)
    subst hx
    exact ⟨M', h1, h2, h3⟩
theorem un_word {k : Int64} (hT : TM sT sG M) : ∃ z : Int32, Ev none e 164 0 [some (.ref 633), some (.long k), none] [] M (some (.int z)) M 0 0 := by
  obtain ⟨v, M', h1, h2, h3, s, hs, h4⟩ := use_cn (d := e) (ws := [.ref 633, .long k]) kX11_isWord_ok mRt.2.2.1 rfl rfl (Nat.zero_le e) (Two.mk rfl (Two.mk ⟨k, rfl⟩ trivial)) hT
  cases List.mem_singleton.mp hs
  cases pure_ok h3
  cases v with
  | none => exact h4.elim
  | some w =>
    obtain ⟨x, rfl, x1, x2⟩ := h4
    exact ⟨x, h1⟩
theorem un_sign {k : Int32} (hT : TM sT sG M) : ∃ z : Int32, Ev none e 165 0 [some (.ref 633), some (.int k)] [] M (some (.int z)) M 0 0 := by
  obtain ⟨v, M', h1, h2, h3, s, hs, h4⟩ := use_cn (d := e) (ws := [.ref 633, .int k]) kX11_isSign_ok mRt.2.2.2.1 rfl rfl (Nat.zero_le e) (Two.mk rfl (Two.mk ⟨k, rfl, i32_any k⟩ trivial)) hT
  cases List.mem_singleton.mp hs
  cases pure_ok h3
  cases v with
  | none => exact h4.elim
  | some w =>
    obtain ⟨x, rfl, x1, x2⟩ := h4
    exact ⟨x, h1⟩
theorem un_atom (hT : TM sT sG M) : ∃ z : Int32, Ev none e 173 0 [some (.ref 633)] [] M (some (.int z)) M 0 0 ∧ z.toInt ≤ 11 := by
  obtain ⟨v, M', h1, h2, h3, s, hs, h4⟩ := use_cn (d := e) (ws := [.ref 633]) kX11_atom_ok mRt.2.2.2.2.1 rfl rfl (Nat.zero_le e) (Two.mk rfl trivial) hT
  cases List.mem_singleton.mp hs
  cases pure_ok h3
  cases v with
  | none => exact h4.elim
  | some w =>
    obtain ⟨x, rfl, x1, x2⟩ := h4
    exact ⟨x, h1, x2⟩
theorem un_open (hT : TM sT sG M) : ∃ z : Int32, Ev none e 177 0 [some (.ref 633), none, none] [] M (some (.int z)) M 0 0 := by
  obtain ⟨v, M', h1, h2, h3, s, hs, h4⟩ := use_cn (d := e) (ws := [.ref 633]) kX11_open_ok mRt.2.2.2.2.2 rfl rfl (Nat.zero_le e) (Two.mk rfl trivial) hT
  cases List.mem_singleton.mp hs
  cases pure_ok h3
  cases v with
  | none => exact h4.elim
  | some w =>
    obtain ⟨x, rfl, x1, x2⟩ := h4
    exact ⟨x, h1⟩
end USE
/-- all that reading a line may write -/
def mdT : Md := [(11, 4), (11, 19), (11, 20), (11, 21), (11, 22), (11, 23), (11, 24), (11, 25), (11, 26), (11, 27), (11, 31), (1073, 0), (1074, 0), (1075, 0), (1076, 0)]
/-- the steps of the other texts are as they were -/
def bel (ls0 : List Int32) (M : Mem) : Prop := ∃ ls, gNth M 645 = some (.inl (1, .inl ls)) ∧ ∀ i, i < 1400 → gNth ls i = gNth ls0 i
theorem JJ.bel {ls0 ls lp : List Int32} {m b s p o : Nat} {M : Mem} (h : JJ ls0 m b M s p o ls lp) : bel ls0 M := by
  obtain ⟨_, ⟨S, P, O, ⟨vs, _, _, _, _, h1, _⟩, _⟩, _, _, _, _, h2⟩ := h
  exact ⟨ls, h1, fun i hi => h2 i (by omega)⟩
theorem bel.frm {ls0 : List Int32} {md : Md} {M M' : Mem} (h : bel ls0 M) (hF : Frm sT md M M') (hm : (1073, 0) ∉ md) : bel ls0 M' := by
  obtain ⟨ls, h1, h2⟩ := h
  exact ⟨ls, row_frm hF sT_645 hm h1, h2⟩
theorem binN_put {lp : List Int32} {x : Nat} {v : Int32} : ∀ {p : Nat}, p ≤ x → binN (gPut lp x v) p = binN lp p := by
  intro p
  induction p with
  | zero => intro _; rfl
  | succ p ih =>
    intro h
    show binN (gPut lp x v) p + _ = binN lp p + _
    have hq : gNth (gPut lp x v) p = gNth lp p := by rw [nth_put, if_neg (by omega)]
    rw [ih (by omega), hq]
/-- something is laid on the pile -/
theorem JJ.push {ls0 ls lp : List Int32} {m b c s p o : Nat} {M M' : Mem} {w S P O : Int32} (h : JJ ls0 m b M s p o ls lp) (hw : (w = 20 ∧ c = b) ∨ (w = 23 ∧ c = b) ∨ ((w = 21 ∨ w = 22) ∧ b = c + 1)) (hsp : s + (p + 1) + c ≤ 2 * o) (hT : TM sT sG M') (hc : Cst M' S P O ls (gPut lp p w)) (e1 : S.toInt = (s : Int)) (e2 : P.toInt = (p : Int) + 1) (e3 : O.toInt = (o : Int)) : JJ ls0 m c M' s (p + 1) o ls (gPut lp p w) := by
  obtain ⟨hn1, hn2, hn3, ll, pl⟩ := h.num
  obtain ⟨_, _, _, h5, ⟨dd, r1, r2, r3⟩, h7, h8⟩ := h
  have hp : gNth (gPut lp p w) p = some w := by rw [nth_put, if_pos ⟨rfl, by omega⟩]
  have hb : binN (gPut lp p w) (p + 1) = binN (gPut lp p w) p + (if gNth (gPut lp p w) p = some 21 ∨ gNth (gPut lp p w) p = some 22 then 1 else 0) := rfl
  rw [binN_put (Nat.le_refl p), hp] at hb
  refine ⟨hT, ⟨S, P, O, hc, e1, by omega, e3⟩, hsp, h5, ⟨dd, r1, ?_, r3⟩, fun i hi => ?_, h8⟩
  · rcases hw with ⟨rfl, rfl⟩ | ⟨rfl, rfl⟩ | ⟨hw, hbc⟩
    · rw [if_neg (by decide)] at hb
      omega
    · rw [if_neg (by decide)] at hb
      omega
    · rw [if_pos (by rcases hw with rfl | rfl; exact Or.inl rfl; exact Or.inr rfl)] at hb
      omega
  · by_cases hi2 : i = p
    · subst hi2
      refine ⟨w, hp, ?_⟩
      rcases hw with ⟨h, _⟩ | ⟨h, _⟩ | ⟨h | h, _⟩
      · exact Or.inl h
      · exact Or.inr (Or.inr (Or.inr h))
      · exact Or.inr (Or.inl h)
      · exact Or.inr (Or.inr (Or.inl h))
    · obtain ⟨y, y1, y2⟩ := h7 i (by omega)
      exact ⟨y, by rw [nth_put, if_neg (fun q => hi2 q.1)]; exact y1, y2⟩
/-! BY HAND: reading texts, the reference: one -/
set_option maxRecDepth 100000 in
theorem fB_25 : fldB 25 (-2147483648) 2147483647 = true := by decide +kernel
set_option maxRecDepth 100000 in
theorem fB_22 : fldB 22 (-2147483648) 2147483647 = true := by decide +kernel
section ONE
variable {ls0 : List Int32} {m e : Nat}
/-- how one ends -/
def OnQ (ls0 : List Int32) (m o : Nat) (M : Mem) (v : Option Value) (M' : Mem) : Prop := ∃ r : Int32, v = some (.int r) ∧ TM sT sG M' ∧ Frm sT mdT M M' ∧ ((r = 0 ∧ bel ls0 M') ∨ (r = 1 ∧ ∃ s' p' o' ls' lp', JJ ls0 m 1 M' s' p' o' ls' lp' ∧ o < o'))
theorem on_bad {M0 M : Mem} {me pc : Nat} {lo : Lo} {st : List Value} {o d : Nat} (hT : TM sT sG M) (hF : Frm sT mdT M0 M) (hb : bel ls0 M) (k : Int32) (h : ∀ M', Ev none e 163 0 [some (.ref 633), some (.int k)] [] M (some (.int 0)) M' 0 0 → Ev none d me pc lo st M (some (.int 0)) M' 0 0) : RF (OnQ ls0 m o M0) [] d me pc lo st M := by
  obtain ⟨M', h1, h2, h3⟩ := un_bad (e := e) (k := k) hT
  exact ⟨some (.int 0), M', h M' h1, 0, rfl, h2, hF.trans (h3.more (by decide)), Or.inl ⟨rfl, hb.frm h3 (by decide)⟩⟩
theorem on_last {M0 M : Mem} {z a : Int32} {x3 : Option Value} {s p o o0 : Nat} {ls lp : List Int32} (h : JJ ls0 m 1 M s p o ls lp) (hF : Frm sT mdT M0 M) (ho : o0 < o) : RF (OnQ ls0 m o0 M0) [] (e + 2) 180 197 [some (.ref 633), some (.int z), some (.int a), x3] [] M := by
  obtain ⟨_, ⟨S, P, O, ⟨vs, hM, _⟩, _⟩, _⟩ := id h
  obtain ⟨M', s', p', ls', q1, q2, q3, q4, q5, q6⟩ := ev_writeDown (e := e) (q := 3) p s M ls h
  exact ⟨some (.int 1), M', on_197 (Ev.call0 (fun n => gs_7 rfl rfl (cal_wd hM rfl)) q1 on_202), 1, rfl, q2.1, hF.trans (q3.more (by decide)), Or.inr ⟨rfl, s', p', o, ls', lp, q2, ho⟩⟩
theorem ev_one1 {M0 : Mem} {o0 : Nat} : ∀ (k s p o : Nat) (M : Mem) (ls lp : List Int32) (x1 x2 x3 : Option Value), JJ ls0 m 0 M s p o ls lp → Frm sT mdT M0 M → 40 ≤ o + k → o0 ≤ o → RF (OnQ ls0 m o0 M0) [] (e + 2) 180 0 [some (.ref 633), x1, x2, x3] [] M := by
  intro k
  have head : ∀ (s p o : Nat) (M : Mem) (ls lp : List Int32) (x1 x2 x3 : Option Value), JJ ls0 m 0 M s p o ls lp → Frm sT mdT M0 M → (∀ z a : Int32, a.toInt ≤ 11 → o ≤ 39 → RF (OnQ ls0 m o0 M0) [] (e + 2) 180 60 [some (.ref 633), some (.int z), some (.int a), x3] [] M) → RF (OnQ ls0 m o0 M0) [] (e + 2) 180 0 [some (.ref 633), x1, x2, x3] [] M := by
    intro s p o M ls lp x1 x2 x3 h hF hc
    obtain ⟨n1, n2, n3, ll, pl⟩ := h.num
    obtain ⟨hT, ⟨S, P, O, ⟨vs, hM, v19, v20, v21, _⟩, h1, h2, h3⟩, _⟩ := id h
    obtain ⟨z, w1⟩ := un_word (e := e + 1) (k := 7237492) hT
    obtain ⟨a, a1, a11⟩ := un_atom (e := e + 1) hT
    refine RF.pre (fun v M' hz => on_0 (Ev.call0 (fun n => gs_7 rfl rfl (cal_ww hM rfl)) w1 (on_7 (Ev.call0 (fun n => gs_7 rfl rfl (cal_at hM rfl)) a1 (on_12 hz))))) ?_
    have g36 : RF (OnQ ls0 m o0 M0) [] (e + 2) 180 36 [some (.ref 633), some (.int z), some (.int a), x3] [] M := by
      refine RF.pre (fun v M' hz => on_36 hM v21 hz) ?_
      by_cases h40 : O = 40
      · rw [if_pos h40]
        exact on_bad (e := e + 1) h.1 hF h.bel 4 (fun M' hb => on_54 (Ev.call0 (fun n => gs_7 rfl rfl (cal_bd hM rfl)) hb on_59))
      rw [if_neg h40]
      have o39 : o ≤ 39 := by
        rcases Nat.lt_or_ge o 40 with h9 | h9
        · omega
        · exact absurd (Int32.toInt_inj.mp (show O.toInt = (40 : Int32).toInt from by show O.toInt = 40; omega)) h40
      obtain ⟨y, y1⟩ := un_open (e := e + 1) hT
      refine RF.pre (fun v M' hz => on_45 (Ev.call0 (fun n => gs_7 rfl rfl (cal_op hM rfl)) y1 (on_49 hz))) ?_
      by_cases h10 : y = 10
      · rw [if_pos h10]
        exact on_bad (e := e + 1) h.1 hF h.bel 4 (fun M' hb => on_54 (Ev.call0 (fun n => gs_7 rfl rfl (cal_bd hM rfl)) hb on_59))
      rw [if_neg h10]
      exact hc z a a11 o39
    by_cases hz : z = 0
    · rw [if_pos hz]
      refine RF.pre (fun v M' hz => on_17 hz) ?_
      by_cases ha : 0 ≤ a
      · rw [if_pos ha]; exact g36
      rw [if_neg ha]
      obtain ⟨y, y1⟩ := un_sign (e := e + 1) (k := 40) hT
      refine RF.pre (fun v M' hz => on_21 (Ev.call0 (fun n => gs_7 rfl rfl (cal_ss hM rfl)) y1 (on_27 hz))) ?_
      by_cases hy : y = 0
      · rw [if_pos hy]
        exact on_bad (e := e + 1) h.1 hF h.bel 1 (fun M' hb => on_30 (Ev.call0 (fun n => gs_7 rfl rfl (cal_bd hM rfl)) hb on_35))
      · rw [if_neg hy]; exact g36
    · rw [if_neg hz]; exact g36
  induction k with
  | zero =>
    intro s p o M ls lp x1 x2 x3 h hF hk ho
    exact head s p o M ls lp x1 x2 x3 h hF (fun z a _ h9 => absurd hk (by omega))
  | succ k ih =>
    intro s p o M ls lp x1 x2 x3 h hF hk ho
    refine head s p o M ls lp x1 x2 x3 h hF (fun z a a11 o39 => ?_)
    obtain ⟨n1, n2, n3, ll, pl⟩ := h.num
    obtain ⟨hT, ⟨S, P, O, hc, h1, h2, h3⟩, h4, h5, ⟨dd, r1, r2, r3⟩, h7, h8⟩ := id h
    obtain ⟨vs, hM, v19, v20, v21, r645, r648⟩ := id hc
    have eO : (O + 1).toInt = O.toInt + 1 := i32_p1 (by omega)
    obtain ⟨T1, c1⟩ := hc.O hT hM (y := O + 1) (by omega) (by omega)
    obtain ⟨_, hlen⟩ := fset hT (and_t fBT).2 hM (y := O + 1) (by omega) (by omega)
    obtain ⟨M1, e1⟩ : ∃ M1, M1 = gPut M 633 (.inr (11, gPut vs 21 (.int (O + 1)))) := ⟨_, rfl⟩
    rw [← e1] at T1 c1
    have F1 : Frm sT mdT M M1 := by rw [e1]; exact Frm.fld hM (by decide)
    refine RF.pre (fun v M' hz => on_60 hM v21 hlen (by rw [← e1]; exact hz)) ?_
    have J1 : JJ ls0 m 0 M1 s p (o + 1) ls lp := ⟨T1, ⟨S, P, O + 1, c1, h1, h2, by omega⟩, by omega, h5, ⟨dd, r1, r2, by omega⟩, h7, h8⟩
    obtain ⟨vs1, hM1, _⟩ := id c1
    obtain ⟨M2, x1', T2, F2⟩ := un_next (e := e) T1
    have J2 := J1.frm T2 F2 (by decide)
    have c2 := c1.frm F2 (by decide)
    obtain ⟨vs2, hM2, v19b, v20b, v21b, r645b, r648b⟩ := id c2
    have F02 : Frm sT mdT M0 M2 := (hF.trans F1).trans (F2.more (by decide))
    refine RF.pre (fun v M' hz => on_70 (Ev.call0 (fun n => gs_7 rfl rfl (cal_nx hM1 rfl)) x1' (on_74 hz))) ?_
    by_cases ha : 0 ≤ a
    · rw [if_pos ha]
      have a0 : 0 ≤ a.toInt := Int32.le_iff_toInt_le.mp ha
      refine RF.pre (fun v M' hz => on_111 hz) ?_
      have na : a ≠ 20 ∧ a ≠ 21 ∧ a ≠ 22 := by
        refine ⟨?_, ?_, ?_⟩ <;> intro h <;> rw [h] at a11 <;> exact absurd a11 (by decide)
      by_cases h8a : 8 ≤ a
      · rw [if_pos h8a]
        obtain ⟨y, y1⟩ := un_sign (e := e + 1) (k := 60) T2
        have g160 : RF (OnQ ls0 m o0 M0) [] (e + 2) 180 160 [some (.ref 633), some (.int z), some (.int a), x3] [] M2 := by
          obtain ⟨vs9, sg, hM9, _, g25, _⟩ := T2.fint fB_25
          cases hM2.symm.trans hM9
          obtain ⟨M3, x3', T3, F3⟩ := un_next (e := e) T2
          have J3 := J2.frm T3 F3 (by decide)
          have c3 := c2.frm F3 (by decide)
          obtain ⟨vs3, hM3, _⟩ := id c3
          have F03 := F02.trans (F3.more (by decide) : Frm sT mdT M2 M3)
          refine RF.pre (fun v M' hz => on_160 hM2 g25 (Ev.call0 (fun n => gs_7 rfl rfl (cal_nx hM2 rfl)) x3' hz)) ?_
          obtain ⟨vs9, tk, hM9, _, g22, _⟩ := T3.fint fB_22
          cases hM3.symm.trans hM9
          refine RF.pre (fun v M' hz => on_169 hM3 g22 hz) ?_
          by_cases htk : tk = 2
          · rw [if_pos htk]
            obtain ⟨vs9, nb, hM9, _, g25b, _⟩ := T3.fint fB_25
            cases hM3.symm.trans hM9
            obtain ⟨M4, w4, T4, F4, c4⟩ := ev_write (e := e + 1) (a := a) (b := sg) (n := nb) T3 c3 (by omega)
            have es : S.toInt.toNat = s := by omega
            rw [es] at c4
            have J4 := J3.atom na.1 na.2.1 na.2.2 ⟨dd, r1, by omega, by omega⟩ (by omega) T4 c4 (by rw [i32_p1 (by omega)]; omega) h2 (by omega)
            obtain ⟨vs4, hM4, _⟩ := id c4
            obtain ⟨M5, x5, T5, F5⟩ := un_next (e := e) T4
            have J5 := J4.frm T5 F5 (by decide)
            refine RF.pre (fun v M' hz => on_183 hM3 g25b (Ev.call0 (fun n => gs_7 rfl rfl (cal_wr hM3 rfl)) w4 (on_193 (Ev.call0 (fun n => gs_7 rfl rfl (cal_nx hM4 rfl)) x5 hz)))) ?_
            exact on_last J5 ((F03.trans (F4.more (by decide) : Frm sT mdT M3 M4)).trans (F5.more (by decide))) (by omega)
          · rw [if_neg htk]
            exact on_bad (e := e + 1) T3 F03 J3.bel 1 (fun M' hb => on_177 (Ev.call0 (fun n => gs_7 rfl rfl (cal_bd hM3 rfl)) hb on_182))
        refine RF.pre (fun v M' hz => on_127 (Ev.call0 (fun n => gs_7 rfl rfl (cal_ss hM2 rfl)) y1 (on_133 hz))) ?_
        by_cases hy : y = 0
        · rw [if_pos hy]
          obtain ⟨y2, y3⟩ := un_sign (e := e + 1) (k := 61) T2
          refine RF.pre (fun v M' hz => on_136 (Ev.call0 (fun n => gs_7 rfl rfl (cal_ss hM2 rfl)) y3 (on_142 hz))) ?_
          by_cases hy2 : y2 = 0
          · rw [if_pos hy2]
            obtain ⟨y4, y5⟩ := un_sign (e := e + 1) (k := 62) T2
            refine RF.pre (fun v M' hz => on_145 (Ev.call0 (fun n => gs_7 rfl rfl (cal_ss hM2 rfl)) y5 (on_151 hz))) ?_
            by_cases hy4 : y4 = 0
            · rw [if_pos hy4]
              exact on_bad (e := e + 1) T2 F02 J2.bel 1 (fun M' hb => on_154 (Ev.call0 (fun n => gs_7 rfl rfl (cal_bd hM2 rfl)) hb on_159))
            · rw [if_neg hy4]; exact g160
          · rw [if_neg hy2]; exact g160
        · rw [if_neg hy]; exact g160
      · rw [if_neg h8a]
        obtain ⟨M4, w4, T4, F4, c4⟩ := ev_write (e := e + 1) (a := a) (b := 0) (n := 0) T2 c2 (by omega)
        have es : S.toInt.toNat = s := by omega
        rw [es] at c4
        have J4 := J2.atom na.1 na.2.1 na.2.2 ⟨dd, r1, by omega, by omega⟩ (by omega) T4 c4 (by rw [i32_p1 (by omega)]; omega) h2 (by omega)
        refine RF.pre (fun v M' hz => on_117 (Ev.call0 (fun n => gs_7 rfl rfl (cal_wr hM2 rfl)) w4 (on_124 hz))) ?_
        exact on_last J4 (F02.trans (F4.more (by decide))) (by omega)
    · rw [if_neg ha]
      obtain ⟨vs9, hM9, hv⟩ := T2.mfld
      cases hM2.symm.trans hM9
      have h18 := hv _ _ _ (and_t mfT).2 sUT.2.2.2
      obtain ⟨yp, yp1, yp2⟩ := at_c (l := lp) (j := P) (kn := p) h2 (by omega)
      have eP : (P + 1).toInt = P.toInt + 1 := i32_p1 (by omega)
      have fin : ∀ w : Int32, w = 20 ∨ w = 23 → RF (OnQ ls0 m o0 M0) [] (e + 2) 180 98 [some (.ref 633), some (.int z), some (.int a), x3] [] (gPut M2 648 (.inl (1, .inl (gPut lp p w)))) := by
        intro w hw
        have T3 := any_put T2 sT_648 r648b pl (by decide +kernel) p w
        obtain ⟨M3, e3⟩ : ∃ M3, M3 = gPut M2 648 (.inl (1, .inl (gPut lp p w))) := ⟨_, rfl⟩
        rw [← e3] at T3 ⊢
        have F3 : Frm sT mdT M2 M3 := by rw [e3]; exact Frm.row r648b sT_648 (by decide)
        have n3 : ∀ c, c ≠ 648 → gNth M3 c = gNth M2 c := fun c hc => by rw [e3, nth_put, if_neg (fun q => hc q.1)]
        have hM3 : gNth M3 633 = some (.inr (11, vs2)) := by rw [n3 633 (by decide)]; exact hM2
        have c3 : Cst M3 S P (O + 1) ls (gPut lp p w) := ⟨vs2, hM3, v19b, v20b, v21b, by rw [n3 645 (by decide)]; exact r645b, by rw [e3, nth_put, if_pos ⟨rfl, gNth_lt _ _ _ r648b⟩]⟩
        obtain ⟨T4, c4⟩ := c3.P T3 hM3 (y := P + 1) (by omega) (by omega)
        obtain ⟨_, hlen3⟩ := fset T3 (and_t (and_t fBT).1).2 hM3 (y := P + 1) (by omega) (by omega)
        refine RF.pre (fun v M' hz => on_98 hM3 v20b hlen3 hz) ?_
        have J4 := J2.push (c := 0) (w := w) (by rcases hw with h | h; exact Or.inl ⟨h, rfl⟩; exact Or.inr (Or.inl ⟨h, rfl⟩)) (by omega) T4 c4 h1 (by omega) (by omega)
        exact ih s (p + 1) (o + 1) _ ls _ _ _ _ J4 ((F02.trans F3).trans (Frm.fld hM3 (by decide))) (by omega) (by omega)
      refine RF.pre (fun v M' hz => on_78 hM2 h18 v20b hz) ?_
      by_cases hz : z = 0
      · rw [if_pos hz]
        refine RF.pre (fun v M' hz => on_95 r648b yp1 hz) ?_
        rw [cl_n h2]
        exact fin 23 (Or.inr rfl)
      · rw [if_neg hz]
        refine RF.pre (fun v M' hz => on_90 r648b yp1 hz) ?_
        rw [cl_n h2]
        exact fin 20 (Or.inl rfl)
end ONE
/-! BY HAND: reading texts, the reference: cond -/
theorem io_0 {e : Nat} {M : Mem} {M' : Mem} {v : Option Value} {x1 : Option Value}  (hz : Ev none e 178 2 [some (.ref 633), some (.int 0)] [] M v M' 0 0) : Ev none e 178 0 [some (.ref 633), x1] [] M v M' 0 0 := by
  refine Ev.step (pc' := 2) (ls' := [some (.ref 633), some (.int 0)]) (st' := []) (M1 := M) 2 (fun n => rfl) ?_
  exact hz
theorem io_2 {e : Nat} {M : Mem} {M' : Mem} {v : Option Value} {vs : List Value} {f20 k : Int32} (hM : gNth M 633 = some (.inr (11, vs))) (v20 : gNth vs 20 = some (.int f20)) (hz : Ev none e 178 (if f20 ≤ k then 29 else 10) [some (.ref 633), some (.int k)] [] M v M' 0 0) : Ev none e 178 2 [some (.ref 633), some (.int k)] [] M v M' 0 0 := by
  refine Ev.step (pc' := 4) (ls' := [some (.ref 633), some (.int k)]) (st' := [.ref 633, .int k]) (M1 := M) 2 (fun n => rfl) ?_
  refine Ev.step 1 (gs_3 rfl rfl (gf_g rfl hM v20)) ?_
  refine Ev.step (pc' := (if f20 ≤ k then 29 else 10)) (ls' := [some (.ref 633), some (.int k)]) (st' := []) (M1 := M) 1 (fun n => rfl) ?_
  exact hz
theorem io_10 {e : Nat} {M : Mem} {M' : Mem} {v : Option Value} {vs : List Value} {k y1 : Int32} {l648 : List Int32} (hM : gNth M 633 = some (.inr (11, vs))) (v18 : gNth vs 18 = some (.ref 648)) (r648 : gNth M 648 = some (.inl (1, .inl l648))) (g1 : gAt l648 k = some y1) (hz : Ev none e 178 (if y1 = 23 then 21 else 23) [some (.ref 633), some (.int k)] [] M v M' 0 0) : Ev none e 178 10 [some (.ref 633), some (.int k)] [] M v M' 0 0 := by
  refine Ev.step (pc' := 11) (ls' := [some (.ref 633), some (.int k)]) (st' := [.ref 633]) (M1 := M) 1 (fun n => rfl) ?_
  refine Ev.step 1 (gs_3 rfl rfl (gf_g rfl hM v18)) ?_
  refine Ev.step (pc' := 15) (ls' := [some (.ref 633), some (.int k)]) (st' := [.int k, .ref 648]) (M1 := M) 1 (fun n => rfl) ?_
  refine Ev.step 1 (gs_3 rfl rfl (ia_g r648 g1)) ?_
  refine Ev.step (pc' := (if y1 = 23 then 21 else 23)) (ls' := [some (.ref 633), some (.int k)]) (st' := []) (M1 := M) 2 (fun n => rfl) ?_
  exact hz
theorem io_21 {e : Nat} {M : Mem} {k : Int32}  : Ev none e 178 21 [some (.ref 633), some (.int k)] [] M (some (.int 1)) M 0 0 := by
  refine Ev.step (pc' := 22) (ls' := [some (.ref 633), some (.int k)]) (st' := [.int 1]) (M1 := M) 1 (fun n => rfl) ?_
  exact Ev.ret (fun n => rfl)
theorem io_23 {e : Nat} {M : Mem} {M' : Mem} {v : Option Value} {k : Int32}  (hz : Ev none e 178 2 [some (.ref 633), some (.int (k + 1))] [] M v M' 0 0) : Ev none e 178 23 [some (.ref 633), some (.int k)] [] M v M' 0 0 := by
  refine Ev.step (pc' := 2) (ls' := [some (.ref 633), some (.int (k + 1))]) (st' := []) (M1 := M) 2 (fun n => rfl) ?_
  exact hz
theorem io_29 {e : Nat} {M : Mem} {k : Int32}  : Ev none e 178 29 [some (.ref 633), some (.int k)] [] M (some (.int 0)) M 0 0 := by
  refine Ev.step (pc' := 30) (ls' := [some (.ref 633), some (.int k)]) (st' := [.int 0]) (M1 := M) 1 (fun n => rfl) ?_
  exact Ev.ret (fun n => rfl)
theorem co_0 {e : Nat} {M : Mem} {M' : Mem} {v : Option Value} {vs : List Value} {x1 : Option Value} (hM : gNth M 633 = some (.inr (11, vs))) (hlen : vs.length = 63) (hz : Ev none (e + 3) 179 5 [some (.ref 633), x1] [] (gPut M 633 (.inr (11, gPut vs 20 (.int 0)))) v M' 0 0) : Ev none (e + 3) 179 0 [some (.ref 633), x1] [] M v M' 0 0 := by
  refine Ev.step (pc' := 2) (ls' := [some (.ref 633), x1]) (st' := [.int 0, .ref 633]) (M1 := M) 2 (fun n => rfl) ?_
  refine Ev.step 1 (gs_4 rfl rfl (pf_i rfl hM (by rw [hlen]; decide) rfl rfl)) ?_
  exact hz
theorem co_5 {e : Nat} {M : Mem} {M' : Mem} {v : Option Value} {x1 : Option Value}  (hz : Ev none (e + 3) 179 6 [some (.ref 633), x1] [.ref 633] M v M' 0 0) : Ev none (e + 3) 179 5 [some (.ref 633), x1] [] M v M' 0 0 := by
  refine Ev.step (pc' := 6) (ls' := [some (.ref 633), x1]) (st' := [.ref 633]) (M1 := M) 1 (fun n => rfl) ?_
  exact hz
theorem co_9 {e : Nat} {M : Mem} {M' : Mem} {v : Option Value} {y : Int32} {x1 : Option Value}  (hz : Ev none (e + 3) 179 (if y = 0 then 12 else 14) [some (.ref 633), x1] [] M v M' 0 0) : Ev none (e + 3) 179 9 [some (.ref 633), x1] [.int y] M v M' 0 0 := by
  refine Ev.step (pc' := (if y = 0 then 12 else 14)) (ls' := [some (.ref 633), x1]) (st' := []) (M1 := M) 1 (fun n => rfl) ?_
  exact hz
theorem co_12 {e : Nat} {M : Mem} {x1 : Option Value}  : Ev none (e + 3) 179 12 [some (.ref 633), x1] [] M (some (.int 0)) M 0 0 := by
  refine Ev.step (pc' := 13) (ls' := [some (.ref 633), x1]) (st' := [.int 0]) (M1 := M) 1 (fun n => rfl) ?_
  exact Ev.ret (fun n => rfl)
theorem co_14 {e : Nat} {M : Mem} {M' : Mem} {v : Option Value} {x1 : Option Value}  (hz : Ev none (e + 3) 179 17 [some (.ref 633), x1] [.int 41, .ref 633] M v M' 0 0) : Ev none (e + 3) 179 14 [some (.ref 633), x1] [] M v M' 0 0 := by
  refine Ev.step (pc' := 17) (ls' := [some (.ref 633), x1]) (st' := [.int 41, .ref 633]) (M1 := M) 2 (fun n => rfl) ?_
  exact hz
theorem co_20 {e : Nat} {M : Mem} {M' : Mem} {v : Option Value} {y : Int32} {x1 : Option Value}  (hz : Ev none (e + 3) 179 (if y = 0 then 57 else 23) [some (.ref 633), x1] [] M v M' 0 0) : Ev none (e + 3) 179 20 [some (.ref 633), x1] [.int y] M v M' 0 0 := by
  refine Ev.step (pc' := (if y = 0 then 57 else 23)) (ls' := [some (.ref 633), x1]) (st' := []) (M1 := M) 1 (fun n => rfl) ?_
  exact hz
theorem co_23 {e : Nat} {M : Mem} {M' : Mem} {v : Option Value} {x1 : Option Value}  (hz : Ev none (e + 3) 179 24 [some (.ref 633), x1] [.ref 633] M v M' 0 0) : Ev none (e + 3) 179 23 [some (.ref 633), x1] [] M v M' 0 0 := by
  refine Ev.step (pc' := 24) (ls' := [some (.ref 633), x1]) (st' := [.ref 633]) (M1 := M) 1 (fun n => rfl) ?_
  exact hz
theorem co_27 {e : Nat} {M : Mem} {M' : Mem} {v : Option Value} {y : Int32} {x1 : Option Value}  (hz : Ev none (e + 3) 179 (if y = 0 then 57 else 30) [some (.ref 633), x1] [] M v M' 0 0) : Ev none (e + 3) 179 27 [some (.ref 633), x1] [.int y] M v M' 0 0 := by
  refine Ev.step (pc' := (if y = 0 then 57 else 30)) (ls' := [some (.ref 633), x1]) (st' := []) (M1 := M) 1 (fun n => rfl) ?_
  exact hz
theorem co_30 {e : Nat} {M : Mem} {M' : Mem} {v : Option Value} {x1 : Option Value}  (hz : Ev none (e + 3) 179 32 [some (.ref 633), x1] [.int 1, .ref 633] M v M' 0 0) : Ev none (e + 3) 179 30 [some (.ref 633), x1] [] M v M' 0 0 := by
  refine Ev.step (pc' := 32) (ls' := [some (.ref 633), x1]) (st' := [.int 1, .ref 633]) (M1 := M) 2 (fun n => rfl) ?_
  exact hz
theorem co_35 {e : Nat} {M : Mem} {M' : Mem} {v : Option Value} {vs : List Value} {f20 : Int32} {x1 : Option Value} (hM : gNth M 633 = some (.inr (11, vs))) (v20 : gNth vs 20 = some (.int f20)) (hlen : vs.length = 63) (hz : Ev none (e + 3) 179 45 [some (.ref 633), x1] [] (gPut M 633 (.inr (11, gPut vs 20 (.int (f20 - 1))))) v M' 0 0) : Ev none (e + 3) 179 35 [some (.ref 633), x1] [] M v M' 0 0 := by
  refine Ev.step (pc' := 37) (ls' := [some (.ref 633), x1]) (st' := [.ref 633, .ref 633]) (M1 := M) 2 (fun n => rfl) ?_
  refine Ev.step 1 (gs_3 rfl rfl (gf_g rfl hM v20)) ?_
  refine Ev.step (pc' := 42) (ls' := [some (.ref 633), x1]) (st' := [.int (f20 - 1), .ref 633]) (M1 := M) 2 (fun n => rfl) ?_
  refine Ev.step 1 (gs_4 rfl rfl (pf_i rfl hM (by rw [hlen]; decide) rfl rfl)) ?_
  exact hz
theorem co_45 {e : Nat} {M : Mem} {M' : Mem} {v : Option Value} {x1 : Option Value}  (hz : Ev none (e + 3) 179 47 [some (.ref 633), x1] [.int 3, .ref 633] M v M' 0 0) : Ev none (e + 3) 179 45 [some (.ref 633), x1] [] M v M' 0 0 := by
  refine Ev.step (pc' := 47) (ls' := [some (.ref 633), x1]) (st' := [.int 3, .ref 633]) (M1 := M) 2 (fun n => rfl) ?_
  exact hz
theorem co_50 {e : Nat} {M : Mem} {M' : Mem} {v : Option Value} {x1 : Option Value}  (hz : Ev none (e + 3) 179 51 [some (.ref 633), x1] [.ref 633] M v M' 0 0) : Ev none (e + 3) 179 50 [some (.ref 633), x1] [] M v M' 0 0 := by
  refine Ev.step (pc' := 51) (ls' := [some (.ref 633), x1]) (st' := [.ref 633]) (M1 := M) 1 (fun n => rfl) ?_
  exact hz
theorem co_54 {e : Nat} {M : Mem} {M' : Mem} {v : Option Value} {x1 : Option Value}  (hz : Ev none (e + 3) 179 14 [some (.ref 633), x1] [] M v M' 0 0) : Ev none (e + 3) 179 54 [some (.ref 633), x1] [] M v M' 0 0 := by
  refine Ev.step (pc' := 14) (ls' := [some (.ref 633), x1]) (st' := []) (M1 := M) 1 (fun n => rfl) ?_
  exact hz
theorem co_57 {e : Nat} {M : Mem} {M' : Mem} {v : Option Value} {x1 : Option Value}  (hz : Ev none (e + 3) 179 61 [some (.ref 633), x1] [.long 6385252, .ref 633] M v M' 0 0) : Ev none (e + 3) 179 57 [some (.ref 633), x1] [] M v M' 0 0 := by
  refine Ev.step (pc' := 61) (ls' := [some (.ref 633), x1]) (st' := [.long 6385252, .ref 633]) (M1 := M) 2 (fun n => rfl) ?_
  exact hz
theorem co_64 {e : Nat} {M : Mem} {M' : Mem} {v : Option Value} {z : Int32} {x1 : Option Value}  (hz : Ev none (e + 3) 179 (if z = 0 then 69 else 99) [some (.ref 633), some (.int z)] [] M v M' 0 0) : Ev none (e + 3) 179 64 [some (.ref 633), x1] [.int z] M v M' 0 0 := by
  refine Ev.step (pc' := (if z = 0 then 69 else 99)) (ls' := [some (.ref 633), some (.int z)]) (st' := []) (M1 := M) 3 (fun n => rfl) ?_
  exact hz
theorem co_69 {e : Nat} {M : Mem} {M' : Mem} {v : Option Value} {z : Int32}  (hz : Ev none (e + 3) 179 73 [some (.ref 633), some (.int z)] [.long 28530, .ref 633] M v M' 0 0) : Ev none (e + 3) 179 69 [some (.ref 633), some (.int z)] [] M v M' 0 0 := by
  refine Ev.step (pc' := 73) (ls' := [some (.ref 633), some (.int z)]) (st' := [.long 28530, .ref 633]) (M1 := M) 2 (fun n => rfl) ?_
  exact hz
theorem co_76 {e : Nat} {M : Mem} {M' : Mem} {v : Option Value} {y z : Int32}  (hz : Ev none (e + 3) 179 (if y = 0 then 79 else 99) [some (.ref 633), some (.int z)] [] M v M' 0 0) : Ev none (e + 3) 179 76 [some (.ref 633), some (.int z)] [.int y] M v M' 0 0 := by
  refine Ev.step (pc' := (if y = 0 then 79 else 99)) (ls' := [some (.ref 633), some (.int z)]) (st' := []) (M1 := M) 1 (fun n => rfl) ?_
  exact hz
theorem co_79 {e : Nat} {M : Mem} {M' : Mem} {v : Option Value} {z : Int32}  (hz : Ev none (e + 3) 179 80 [some (.ref 633), some (.int z)] [.ref 633] M v M' 0 0) : Ev none (e + 3) 179 79 [some (.ref 633), some (.int z)] [] M v M' 0 0 := by
  refine Ev.step (pc' := 80) (ls' := [some (.ref 633), some (.int z)]) (st' := [.ref 633]) (M1 := M) 1 (fun n => rfl) ?_
  exact hz
theorem co_83 {e : Nat} {M : Mem} {M' : Mem} {v : Option Value} {y z : Int32}  (hz : Ev none (e + 3) 179 (if y = 0 then 92 else 86) [some (.ref 633), some (.int z)] [] M v M' 0 0) : Ev none (e + 3) 179 83 [some (.ref 633), some (.int z)] [.int y] M v M' 0 0 := by
  refine Ev.step (pc' := (if y = 0 then 92 else 86)) (ls' := [some (.ref 633), some (.int z)]) (st' := []) (M1 := M) 1 (fun n => rfl) ?_
  exact hz
theorem co_86 {e : Nat} {M : Mem} {M' : Mem} {v : Option Value} {z : Int32}  (hz : Ev none (e + 3) 179 88 [some (.ref 633), some (.int z)] [.int 1, .ref 633] M v M' 0 0) : Ev none (e + 3) 179 86 [some (.ref 633), some (.int z)] [] M v M' 0 0 := by
  refine Ev.step (pc' := 88) (ls' := [some (.ref 633), some (.int z)]) (st' := [.int 1, .ref 633]) (M1 := M) 2 (fun n => rfl) ?_
  exact hz
theorem co_91 {e : Nat} {M : Mem} {z : Int32}  : Ev none (e + 3) 179 91 [some (.ref 633), some (.int z)] [.int 0] M (some (.int 0)) M 0 0 := by
  exact Ev.ret (fun n => rfl)
theorem co_92 {e : Nat} {M : Mem} {M' : Mem} {v : Option Value} {z : Int32}  (hz : Ev none (e + 3) 179 94 [some (.ref 633), some (.int z)] [.int 1, .ref 633] M v M' 0 0) : Ev none (e + 3) 179 92 [some (.ref 633), some (.int z)] [] M v M' 0 0 := by
  refine Ev.step (pc' := 94) (ls' := [some (.ref 633), some (.int z)]) (st' := [.int 1, .ref 633]) (M1 := M) 2 (fun n => rfl) ?_
  exact hz
theorem co_97 {e : Nat} {M : Mem} {z : Int32}  : Ev none (e + 3) 179 97 [some (.ref 633), some (.int z)] [] M (some (.int 1)) M 0 0 := by
  refine Ev.step (pc' := 98) (ls' := [some (.ref 633), some (.int z)]) (st' := [.int 1]) (M1 := M) 1 (fun n => rfl) ?_
  exact Ev.ret (fun n => rfl)
theorem co_99 {e : Nat} {M : Mem} {M' : Mem} {v : Option Value} {z : Int32}  (hz : Ev none (e + 3) 179 (if z = 0 then 108 else 104) [some (.ref 633), some (.int z)] [.ref 633] M v M' 0 0) : Ev none (e + 3) 179 99 [some (.ref 633), some (.int z)] [] M v M' 0 0 := by
  refine Ev.step (pc' := (if z = 0 then 108 else 104)) (ls' := [some (.ref 633), some (.int z)]) (st' := [.ref 633]) (M1 := M) 3 (fun n => rfl) ?_
  exact hz
theorem co_104 {e : Nat} {M : Mem} {M' : Mem} {v : Option Value} {z : Int32}  (hz : Ev none (e + 3) 179 109 [some (.ref 633), some (.int z)] [.int 2, .ref 633] M v M' 0 0) : Ev none (e + 3) 179 104 [some (.ref 633), some (.int z)] [.ref 633] M v M' 0 0 := by
  refine Ev.step (pc' := 109) (ls' := [some (.ref 633), some (.int z)]) (st' := [.int 2, .ref 633]) (M1 := M) 2 (fun n => rfl) ?_
  exact hz
theorem co_108 {e : Nat} {M : Mem} {M' : Mem} {v : Option Value} {z : Int32}  (hz : Ev none (e + 3) 179 109 [some (.ref 633), some (.int z)] [.int 1, .ref 633] M v M' 0 0) : Ev none (e + 3) 179 108 [some (.ref 633), some (.int z)] [.ref 633] M v M' 0 0 := by
  refine Ev.step (pc' := 109) (ls' := [some (.ref 633), some (.int z)]) (st' := [.int 1, .ref 633]) (M1 := M) 1 (fun n => rfl) ?_
  exact hz
theorem co_112 {e : Nat} {M : Mem} {M' : Mem} {v : Option Value} {vs : List Value} {f20 z : Int32} (hM : gNth M 633 = some (.inr (11, vs))) (v18 : gNth vs 18 = some (.ref 648)) (v20 : gNth vs 20 = some (.int f20)) (hz : Ev none (e + 3) 179 (if z = 0 then 129 else 124) [some (.ref 633), some (.int z)] [.int f20, .ref 648] M v M' 0 0) : Ev none (e + 3) 179 112 [some (.ref 633), some (.int z)] [] M v M' 0 0 := by
  refine Ev.step (pc' := 113) (ls' := [some (.ref 633), some (.int z)]) (st' := [.ref 633]) (M1 := M) 1 (fun n => rfl) ?_
  refine Ev.step 1 (gs_3 rfl rfl (gf_g rfl hM v18)) ?_
  refine Ev.step (pc' := 117) (ls' := [some (.ref 633), some (.int z)]) (st' := [.ref 633, .ref 648]) (M1 := M) 1 (fun n => rfl) ?_
  refine Ev.step 1 (gs_3 rfl rfl (gf_g rfl hM v20)) ?_
  refine Ev.step (pc' := (if z = 0 then 129 else 124)) (ls' := [some (.ref 633), some (.int z)]) (st' := [.int f20, .ref 648]) (M1 := M) 2 (fun n => rfl) ?_
  exact hz
theorem co_124 {e : Nat} {M : Mem} {M' : Mem} {v : Option Value} {p y1 z : Int32} {l648 : List Int32} (r648 : gNth M 648 = some (.inl (1, .inl l648))) (g1 : gAt l648 p = some y1) (hz : Ev none (e + 3) 179 132 [some (.ref 633), some (.int z)] [] (gPut M 648 (.inl (1, .inl (gPut l648 p.toNatClampNeg 21)))) v M' 0 0) : Ev none (e + 3) 179 124 [some (.ref 633), some (.int z)] [.int p, .ref 648] M v M' 0 0 := by
  refine Ev.step (pc' := 131) (ls' := [some (.ref 633), some (.int z)]) (st' := [.int 21, .int p, .ref 648]) (M1 := M) 2 (fun n => rfl) ?_
  refine Ev.step 1 (gs_4 rfl rfl (is_g r648 g1)) ?_
  exact hz
theorem co_129 {e : Nat} {M : Mem} {M' : Mem} {v : Option Value} {p y1 z : Int32} {l648 : List Int32} (r648 : gNth M 648 = some (.inl (1, .inl l648))) (g1 : gAt l648 p = some y1) (hz : Ev none (e + 3) 179 132 [some (.ref 633), some (.int z)] [] (gPut M 648 (.inl (1, .inl (gPut l648 p.toNatClampNeg 22)))) v M' 0 0) : Ev none (e + 3) 179 129 [some (.ref 633), some (.int z)] [.int p, .ref 648] M v M' 0 0 := by
  refine Ev.step (pc' := 131) (ls' := [some (.ref 633), some (.int z)]) (st' := [.int 22, .int p, .ref 648]) (M1 := M) 1 (fun n => rfl) ?_
  refine Ev.step 1 (gs_4 rfl rfl (is_g r648 g1)) ?_
  exact hz
theorem co_132 {e : Nat} {M : Mem} {M' : Mem} {v : Option Value} {vs : List Value} {f20 z : Int32} (hM : gNth M 633 = some (.inr (11, vs))) (v20 : gNth vs 20 = some (.int f20)) (hlen : vs.length = 63) (hz : Ev none (e + 3) 179 142 [some (.ref 633), some (.int z)] [] (gPut M 633 (.inr (11, gPut vs 20 (.int (f20 + 1))))) v M' 0 0) : Ev none (e + 3) 179 132 [some (.ref 633), some (.int z)] [] M v M' 0 0 := by
  refine Ev.step (pc' := 134) (ls' := [some (.ref 633), some (.int z)]) (st' := [.ref 633, .ref 633]) (M1 := M) 2 (fun n => rfl) ?_
  refine Ev.step 1 (gs_3 rfl rfl (gf_g rfl hM v20)) ?_
  refine Ev.step (pc' := 139) (ls' := [some (.ref 633), some (.int z)]) (st' := [.int (f20 + 1), .ref 633]) (M1 := M) 2 (fun n => rfl) ?_
  refine Ev.step 1 (gs_4 rfl rfl (pf_i rfl hM (by rw [hlen]; decide) rfl rfl)) ?_
  exact hz
theorem co_142 {e : Nat} {M : Mem} {M' : Mem} {v : Option Value} {z : Int32}  (hz : Ev none (e + 3) 179 143 [some (.ref 633), some (.int z)] [.ref 633] M v M' 0 0) : Ev none (e + 3) 179 142 [some (.ref 633), some (.int z)] [] M v M' 0 0 := by
  refine Ev.step (pc' := 143) (ls' := [some (.ref 633), some (.int z)]) (st' := [.ref 633]) (M1 := M) 1 (fun n => rfl) ?_
  exact hz
theorem co_146 {e : Nat} {M : Mem} {M' : Mem} {v : Option Value} {z : Int32}  (hz : Ev none (e + 3) 179 5 [some (.ref 633), some (.int z)] [] M v M' 0 0) : Ev none (e + 3) 179 146 [some (.ref 633), some (.int z)] [] M v M' 0 0 := by
  refine Ev.step (pc' := 5) (ls' := [some (.ref 633), some (.int z)]) (st' := []) (M1 := M) 1 (fun n => rfl) ?_
  exact hz
theorem cal_on {M : Mem} {vs : List Value} {rest : List Value} (hM : gNth M 633 = some (.inr (11, vs))) (hr : gRoom rest = true) : gCal (.invokevirtual 297) 11 (.ref 633 :: rest) M = some (.inr (180, [some (.ref 633), none, none, none], rest)) := by
  show @cond (Option ((List Value × Mem) ⊕ (Nat × Lo × List Value))) (true && gRecv M (.ref 633) 11 && gRoom rest && true) (some (.inr (180, [some (.ref 633), none, none, none], rest))) none = _
  rw [recv_ok hM, hr]
  rfl
theorem cal_io {M : Mem} {vs : List Value} {rest : List Value} (hM : gNth M 633 = some (.inr (11, vs))) (hr : gRoom rest = true) : gCal (.invokevirtual 300) 11 (.ref 633 :: rest) M = some (.inr (178, [some (.ref 633), none], rest)) := by
  show @cond (Option ((List Value × Mem) ⊕ (Nat × Lo × List Value))) (true && gRecv M (.ref 633) 11 && gRoom rest && true) (some (.inr (178, [some (.ref 633), none], rest))) none = _
  rw [recv_ok hM, hr]
  rfl
theorem ev_isOpen {M : Mem} {e p : Nat} {S P O : Int32} {ls lp : List Int32} (hT : TM sT sG M) (hc : Cst M S P O ls lp) (hp : P.toInt = (p : Int)) : ∃ r : Int32, Ev none e 178 0 [some (.ref 633), none] [] M (some (.int r)) M 0 0 ∧ (r = 0 → ¬ hasO lp p) ∧ (r ≠ 0 → hasO lp p) := by
  obtain ⟨S2, P2, O2, ls2, lp2, c2, _, pl, _, _, _, p100, _⟩ := hT.cst
  obtain ⟨rfl, rfl, rfl, rfl, rfl⟩ := hc.det c2
  obtain ⟨vs, hM, v19, v20, v21, r645, r648⟩ := hc
  obtain ⟨vs9, hM9, hv⟩ := hT.mfld
  cases hM.symm.trans hM9
  have h18 := hv _ _ _ (and_t mfT).2 sUT.2.2.2
  have main : ∀ (j kn : Nat) (k : Int32), k.toInt = (kn : Int) → p = kn + j → (∀ i, i < kn → gNth lp i ≠ some 23) → ∃ r : Int32, Ev none e 178 2 [some (.ref 633), some (.int k)] [] M (some (.int r)) M 0 0 ∧ (r = 0 → ¬ hasO lp p) ∧ (r ≠ 0 → hasO lp p) := by
    intro j
    induction j with
    | zero =>
      intro kn k hk hj hno
      refine ⟨0, io_2 hM v20 ?_, fun _ ⟨i, i1, i2⟩ => hno i (by omega) i2, fun h => absurd rfl h⟩
      rw [if_pos (by rw [Int32.le_iff_toInt_le]; omega)]
      exact io_29
    | succ j ih =>
      intro kn k hk hj hno
      obtain ⟨y, y1, y2⟩ := at_c (l := lp) hk (by omega)
      have hlt : ¬ P ≤ k := by rw [Int32.le_iff_toInt_le]; omega
      by_cases hy : y = 23
      · refine ⟨1, io_2 hM v20 ?_, fun h => absurd h (by decide), fun _ => ⟨kn, by omega, by rw [y2, hy]⟩⟩
        rw [if_neg hlt]
        refine io_10 hM h18 r648 y1 ?_
        rw [if_pos hy]
        exact io_21
      · have e1 : (k + 1).toInt = k.toInt + 1 := i32_p1 (by omega)
        obtain ⟨r, q1, q2⟩ := ih (kn + 1) (k + 1) (by omega) (by omega) (fun i hi => by
          by_cases h : i = kn
          · subst h
            rw [y2]
            exact fun h => hy (Option.some.inj h)
          · exact hno i (by omega))
        refine ⟨r, io_2 hM v20 ?_, q2⟩
        rw [if_neg hlt]
        refine io_10 hM h18 r648 y1 ?_
        rw [if_neg hy]
        exact io_23 q1
  obtain ⟨r, q1, q2⟩ := main p 0 0 rfl (by omega) (fun i hi => by omega)
  exact ⟨r, io_0 q1, q2⟩
/-- the bracket on the pile's top goes -/
theorem JJ.drop {ls0 ls lp : List Int32} {m s p o : Nat} {M M' : Mem} {S P O : Int32} (h : JJ ls0 m 1 M s (p + 1) o ls lp) (hw : gNth lp p = some 23) (hT : TM sT sG M') (hc : Cst M' S P O ls lp) (e1 : S.toInt = (s : Int)) (e2 : P.toInt = (p : Int)) (e3 : O.toInt = (o : Int)) : JJ ls0 m 1 M' s p o ls lp := by
  obtain ⟨_, _, h4, h5, ⟨dd, r1, r2, r3⟩, h7, h8⟩ := h
  have hb : binN lp (p + 1) = binN lp p + (if gNth lp p = some 21 ∨ gNth lp p = some 22 then 1 else 0) := rfl
  rw [if_neg (by rw [hw]; decide)] at hb
  exact ⟨hT, ⟨S, P, O, hc, e1, e2, e3⟩, by omega, h5, ⟨dd, r1, by omega, r3⟩, fun i hi => h7 i (by omega), h8⟩
section COND
variable {ls0 : List Int32} {m e : Nat} {M0 : Mem}
/-- how cond ends -/
def CdQ (ls0 : List Int32) (m : Nat) (M : Mem) (v : Option Value) (M' : Mem) : Prop := ∃ r : Int32, v = some (.int r) ∧ TM sT sG M' ∧ Frm sT mdT M M' ∧ ((r = 0 ∧ bel ls0 M') ∨ (r = 1 ∧ ∃ s' o' ls' lp', JJ ls0 m 1 M' s' 0 o' ls' lp'))
theorem co_bad {M : Mem} {pc : Nat} {lo : Lo} {st : List Value} (hT : TM sT sG M) (hF : Frm sT mdT M0 M) (hb : bel ls0 M) (k : Int32) (h : ∀ M', Ev none (e + 2) 163 0 [some (.ref 633), some (.int k)] [] M (some (.int 0)) M' 0 0 → Ev none (e + 3) 179 pc lo st M (some (.int 0)) M' 0 0) : RF (CdQ ls0 m M0) [] (e + 3) 179 pc lo st M := by
  obtain ⟨M', h1, h2, h3⟩ := un_bad (e := e + 2) (k := k) hT
  exact ⟨some (.int 0), M', h M' h1, 0, rfl, h2, hF.trans (h3.more (by decide)), Or.inl ⟨rfl, hb.frm h3 (by decide)⟩⟩
/-- brackets are closed -/
theorem co_close {o0 : Nat} {x1 : Option Value} (hE : ∀ (s p o : Nat) (M : Mem) (ls lp : List Int32), JJ ls0 m 1 M s p o ls lp → Frm sT mdT M0 M → o0 ≤ o → RF (CdQ ls0 m M0) [] (e + 3) 179 57 [some (.ref 633), x1] [] M) : ∀ (k s p o : Nat) (M : Mem) (ls lp : List Int32), JJ ls0 m 1 M s p o ls lp → Frm sT mdT M0 M → o0 ≤ o → p ≤ k → RF (CdQ ls0 m M0) [] (e + 3) 179 14 [some (.ref 633), x1] [] M := by
  intro k
  induction k with
  | zero =>
    intro s p o M ls lp h hF ho hp
    have hp0 : p = 0 := by omega
    subst hp0
    obtain ⟨hT, ⟨S, P, O, hc, h1, h2, h3⟩, _⟩ := id h
    obtain ⟨vs, hM, _⟩ := id hc
    obtain ⟨y, y1⟩ := un_sign (e := e + 2) (k := 41) hT
    refine RF.pre (fun v M' hz => co_14 (Ev.call0 (fun n => gs_7 rfl rfl (cal_ss hM rfl)) y1 (co_20 hz))) ?_
    by_cases hy : y = 0
    · rw [if_pos hy]
      exact hE _ _ _ _ _ _ h hF ho
    rw [if_neg hy]
    obtain ⟨r, r1, r2, r3⟩ := ev_isOpen (e := e + 2) hT hc h2
    refine RF.pre (fun v M' hz => co_23 (Ev.call0 (fun n => gs_7 rfl rfl (cal_io hM rfl)) r1 (co_27 hz))) ?_
    by_cases hr : r = 0
    · rw [if_pos hr]
      exact hE _ _ _ _ _ _ h hF ho
    · obtain ⟨i, i1, _⟩ := r3 hr
      omega
  | succ k ih =>
    intro s p o M ls lp h hF ho hp
    obtain ⟨hT, ⟨S, P, O, hc, h1, h2, h3⟩, _⟩ := id h
    obtain ⟨vs, hM, _⟩ := id hc
    obtain ⟨y, y1⟩ := un_sign (e := e + 2) (k := 41) hT
    refine RF.pre (fun v M' hz => co_14 (Ev.call0 (fun n => gs_7 rfl rfl (cal_ss hM rfl)) y1 (co_20 hz))) ?_
    by_cases hy : y = 0
    · rw [if_pos hy]
      exact hE _ _ _ _ _ _ h hF ho
    rw [if_neg hy]
    obtain ⟨r, r1, r2, r3⟩ := ev_isOpen (e := e + 2) hT hc h2
    refine RF.pre (fun v M' hz => co_23 (Ev.call0 (fun n => gs_7 rfl rfl (cal_io hM rfl)) r1 (co_27 hz))) ?_
    by_cases hr : r = 0
    · rw [if_pos hr]
      exact hE _ _ _ _ _ _ h hF ho
    rw [if_neg hr]
    obtain ⟨M1, s1, p1, ls1, q1, q2, q3, q4, q5, q6⟩ := ev_writeDown (e := e + 1) (q := 1) p s M ls h
    obtain ⟨i, i1, i2⟩ := q5 (r3 hr)
    obtain ⟨p2, rfl⟩ : ∃ p2, p1 = p2 + 1 := ⟨p1 - 1, by omega⟩
    have htop := q6 (by decide) p2 rfl
    obtain ⟨T1, ⟨S1, P1, O1, c1, g1, g2, g3⟩, _⟩ := id q2
    obtain ⟨vs1, hM1, w19, w20, w21, _⟩ := id c1
    obtain ⟨n1, n2, n3, _, _⟩ := q2.num
    have eP : (P1 - 1).toInt = ((p2 : Nat) : Int) := by rw [i32_m1 (by omega)]; omega
    obtain ⟨T2, c2⟩ := c1.P T1 hM1 (y := P1 - 1) (by omega) (by omega)
    obtain ⟨_, hlen⟩ := fset T1 (and_t (and_t fBT).1).2 hM1 (y := P1 - 1) (by omega) (by omega)
    obtain ⟨M2, e2⟩ : ∃ M2, M2 = gPut M1 633 (.inr (11, gPut vs1 20 (.int (P1 - 1)))) := ⟨_, rfl⟩
    rw [← e2] at T2 c2
    have F2 : Frm sT mdT M1 M2 := by rw [e2]; exact Frm.fld hM1 (by decide)
    have J2 := q2.drop htop T2 c2 g1 eP g3
    obtain ⟨vs2, hM2, _⟩ := id c2
    obtain ⟨M3, s3, p3, ls3, u1, u2, u3, u4, u5, u6⟩ := ev_writeDown (e := e + 1) (q := 3) p2 s1 M2 ls1 J2
    obtain ⟨T3, ⟨S3, P3, O3, ⟨vs3, hM3, _⟩, _⟩, _⟩ := id u2
    obtain ⟨M4, x4, T4, F4⟩ := un_next (e := e + 1) T3
    have J4 := u2.frm T4 F4 (by decide)
    refine RF.pre (fun v M' hz => co_30 (Ev.call0 (fun n => gs_7 rfl rfl (cal_wd hM rfl)) q1 (co_35 hM1 w20 hlen (by rw [← e2]; exact co_45 (Ev.call0 (fun n => gs_7 rfl rfl (cal_wd hM2 rfl)) u1 (co_50 (Ev.call0 (fun n => gs_7 rfl rfl (cal_nx hM3 rfl)) x4 (co_54 hz)))))))) ?_
    exact ih s3 p3 o M4 ls3 lp J4 ((((hF.trans (q3.more (by decide))).trans F2).trans (u3.more (by decide))).trans (F4.more (by decide))) ho (by omega)
theorem co_loop : ∀ (k s p o : Nat) (M : Mem) (ls lp : List Int32) (x1 : Option Value), JJ ls0 m 0 M s p o ls lp → Frm sT mdT M0 M → 41 ≤ o + k → RF (CdQ ls0 m M0) [] (e + 3) 179 5 [some (.ref 633), x1] [] M := by
  intro k
  induction k with
  | zero =>
    intro s p o M ls lp x1 h hF hk
    have := h.num.1
    omega
  | succ k ih =>
    intro s p o M ls lp x1 h hF hk
    obtain ⟨hT, ⟨S, P, O, hc, h1, h2, h3⟩, _⟩ := id h
    obtain ⟨vs, hM, _⟩ := id hc
    obtain ⟨v, M1, q1, r, rfl, T1, F1, hr⟩ := ev_one1 (e := e) (M0 := M) (o0 := o) 40 s p o M ls lp none none none h (Frm.refl M) (by omega) (Nat.le_refl o)
    refine RF.pre (fun v M' hz => co_5 (Ev.call0 (fun n => gs_7 rfl rfl (cal_on hM rfl)) q1 (co_9 hz))) ?_
    rcases hr with ⟨rfl, hb⟩ | ⟨rfl, s1, p1, o1, ls1, lp1, J1, ho⟩
    · rw [if_pos rfl]
      exact ⟨some (.int 0), M1, co_12, 0, rfl, T1, hF.trans F1, Or.inl ⟨rfl, hb⟩⟩
    rw [if_neg (by decide)]
    refine co_close (o0 := o + 1) (fun s p o2 M ls lp h hF ho2 => ?_) 80 s1 p1 o1 M1 ls1 lp1 J1 (hF.trans F1) ho J1.num.2.2.1
    obtain ⟨hT, ⟨S, P, O, hc, h1, h2, h3⟩, hcnt, _⟩ := id h
    obtain ⟨n1, n2, n3, ll, pl⟩ := h.num
    obtain ⟨vs, hM, v19, v20, v21, r645, r648⟩ := id hc
    obtain ⟨z, z1⟩ := un_word (e := e + 2) (k := 6385252) hT
    refine RF.pre (fun v M' hz => co_57 (Ev.call0 (fun n => gs_7 rfl rfl (cal_ww hM rfl)) z1 (co_64 hz))) ?_
    have g99 : RF (CdQ ls0 m M0) [] (e + 3) 179 99 [some (.ref 633), some (.int z)] [] M := by
      have wd : ∀ q : Int32, (∀ v M1 M', Ev none (e + 2) 175 0 [some (.ref 633), some (.int q)] [] M none M1 0 0 → Ev none (e + 3) 179 112 [some (.ref 633), some (.int z)] [] M1 v M' 0 0 → Ev none (e + 3) 179 99 [some (.ref 633), some (.int z)] [] M v M' 0 0) → RF (CdQ ls0 m M0) [] (e + 3) 179 99 [some (.ref 633), some (.int z)] [] M := by
        intro q hq
        obtain ⟨M1, s1, p1, ls1, q1, J1, F1, hp1, _, _⟩ := ev_writeDown (e := e + 1) (q := q) p s M ls h
        refine RF.pre (fun v M' hz => hq v M1 M' q1 hz) ?_
        obtain ⟨T1, ⟨S1, P1, O1, c1, g1, g2, g3⟩, hcnt1, _⟩ := id J1
        obtain ⟨vs1, hM1, w19, w20, w21, b645, b648⟩ := id c1
        obtain ⟨m1, m2, m3, ml, mp⟩ := J1.num
        obtain ⟨vs9, hM9, hv⟩ := T1.mfld
        cases hM1.symm.trans hM9
        have h18 := hv _ _ _ (and_t mfT).2 sUT.2.2.2
        obtain ⟨yp, yp1, yp2⟩ := at_c (l := lp) (j := P1) (kn := p1) g2 (by omega)
        have eP : (P1 + 1).toInt = P1.toInt + 1 := i32_p1 (by omega)
        have fin : ∀ w : Int32, w = 21 ∨ w = 22 → RF (CdQ ls0 m M0) [] (e + 3) 179 132 [some (.ref 633), some (.int z)] [] (gPut M1 648 (.inl (1, .inl (gPut lp p1 w)))) := by
          intro w hw
          have T3 := any_put T1 sT_648 b648 mp (by decide +kernel) p1 w
          obtain ⟨M3, e3⟩ : ∃ M3, M3 = gPut M1 648 (.inl (1, .inl (gPut lp p1 w))) := ⟨_, rfl⟩
          rw [← e3] at T3 ⊢
          have F3 : Frm sT mdT M1 M3 := by rw [e3]; exact Frm.row b648 sT_648 (by decide)
          have n3 : ∀ c, c ≠ 648 → gNth M3 c = gNth M1 c := fun c hc => by rw [e3, nth_put, if_neg (fun q => hc q.1)]
          have hM3 : gNth M3 633 = some (.inr (11, vs1)) := by rw [n3 633 (by decide)]; exact hM1
          have c3 : Cst M3 S1 P1 O1 ls1 (gPut lp p1 w) := ⟨vs1, hM3, w19, w20, w21, by rw [n3 645 (by decide)]; exact b645, by rw [e3, nth_put, if_pos ⟨rfl, gNth_lt _ _ _ b648⟩]⟩
          obtain ⟨T4, c4⟩ := c3.P T3 hM3 (y := P1 + 1) (by omega) (by omega)
          obtain ⟨_, hlen3⟩ := fset T3 (and_t (and_t fBT).1).2 hM3 (y := P1 + 1) (by omega) (by omega)
          obtain ⟨M4, e4⟩ : ∃ M4, M4 = gPut M3 633 (.inr (11, gPut vs1 20 (.int (P1 + 1)))) := ⟨_, rfl⟩
          rw [← e4] at T4 c4
          have F4 : Frm sT mdT M3 M4 := by rw [e4]; exact Frm.fld hM3 (by decide)
          have J4 := J1.push (c := 0) (w := w) (Or.inr (Or.inr ⟨hw, rfl⟩)) (by omega) T4 c4 g1 (by omega) g3
          obtain ⟨vs4, hM4, _⟩ := id c4
          obtain ⟨M5, x5, T5, F5⟩ := un_next (e := e + 1) T4
          have J5 := J4.frm T5 F5 (by decide)
          refine RF.pre (fun v M' hz => co_132 hM3 w20 hlen3 (by rw [← e4]; exact co_142 (Ev.call0 (fun n => gs_7 rfl rfl (cal_nx hM4 rfl)) x5 (co_146 hz)))) ?_
          exact ih s1 (p1 + 1) o2 M5 ls1 _ _ J5 ((((hF.trans (F1.more (by decide))).trans F3).trans F4).trans (F5.more (by decide))) (by omega)
        refine RF.pre (fun v M' hz => co_112 hM1 h18 w20 hz) ?_
        by_cases hz : z = 0
        · rw [if_pos hz]
          refine RF.pre (fun v M' hz => co_129 b648 yp1 hz) ?_
          rw [cl_n g2]
          exact fin 22 (Or.inr rfl)
        · rw [if_neg hz]
          refine RF.pre (fun v M' hz => co_124 b648 yp1 hz) ?_
          rw [cl_n g2]
          exact fin 21 (Or.inl rfl)
      by_cases hz : z = 0
      · exact wd 1 (fun v M1 M' h1 h2 => co_99 (by rw [if_pos hz]; exact co_108 (Ev.call0 (fun n => gs_7 rfl rfl (cal_wd hM rfl)) h1 h2)))
      · exact wd 2 (fun v M1 M' h1 h2 => co_99 (by rw [if_neg hz]; exact co_104 (Ev.call0 (fun n => gs_7 rfl rfl (cal_wd hM rfl)) h1 h2)))
    by_cases hz : z = 0
    · rw [if_pos hz]
      obtain ⟨y, y1⟩ := un_word (e := e + 2) (k := 28530) hT
      refine RF.pre (fun v M' hz => co_69 (Ev.call0 (fun n => gs_7 rfl rfl (cal_ww hM rfl)) y1 (co_76 hz))) ?_
      by_cases hy : y = 0
      · rw [if_pos hy]
        obtain ⟨r, r1, r2, r3⟩ := ev_isOpen (e := e + 2) hT hc h2
        refine RF.pre (fun v M' hz => co_79 (Ev.call0 (fun n => gs_7 rfl rfl (cal_io hM rfl)) r1 (co_83 hz))) ?_
        by_cases hr : r = 0
        · rw [if_pos hr]
          obtain ⟨M1, s1, p1, ls1, q1, J1, F1, hp1, _, q6⟩ := ev_writeDown (e := e + 1) (q := 1) p s M ls h
          have hp0 : p1 = 0 := by
            rcases Nat.eq_zero_or_pos p1 with h0 | h0
            · exact h0
            · exact absurd ⟨p1 - 1, by omega, q6 (by decide) (p1 - 1) (by omega)⟩ (r2 hr)
          subst hp0
          exact ⟨some (.int 1), M1, co_92 (Ev.call0 (fun n => gs_7 rfl rfl (cal_wd hM rfl)) q1 co_97), 1, rfl, J1.1, hF.trans (F1.more (by decide)), Or.inr ⟨rfl, s1, o2, ls1, lp, J1⟩⟩
        · rw [if_neg hr]
          exact co_bad hT hF h.bel 1 (fun M' hb => co_86 (Ev.call0 (fun n => gs_7 rfl rfl (cal_bd hM rfl)) hb co_91))
      · rw [if_neg hy]; exact g99
    · rw [if_neg hz]; exact g99
end COND
/-- cond() -/
theorem ev_cond {M : Mem} {e s o : Nat} {S P O : Int32} {ls lp : List Int32} {x1 : Option Value} (hT : TM sT sG M) (hc : Cst M S P O ls lp) (h1 : S.toInt = (s : Int)) (h3 : O.toInt = (o : Int)) (hs : s ≤ 2 * o) : ∃ r M', Ev none (e + 3) 179 0 [some (.ref 633), x1] [] M (some (.int r)) M' 0 0 ∧ TM sT sG M' ∧ Frm sT mdT M M' ∧ ((r = 0 ∧ bel ls M') ∨ (r = 1 ∧ ∃ s' o' ls' lp', JJ ls s 1 M' s' 0 o' ls' lp')) := by
  obtain ⟨S2, P2, O2, ls2, lp2, c2, ll, pl, _, _, _, _, _, o40⟩ := hT.cst
  obtain ⟨rfl, rfl, rfl, rfl, rfl⟩ := hc.det c2
  obtain ⟨vs, hM, v19, v20, v21, r645, r648⟩ := id hc
  obtain ⟨T1, c1⟩ := hc.P hT hM (y := 0) (by decide) (by decide)
  obtain ⟨_, hlen⟩ := fset hT (and_t (and_t fBT).1).2 hM (y := 0) (by decide) (by decide)
  obtain ⟨M1, e1⟩ : ∃ M1, M1 = gPut M 633 (.inr (11, gPut vs 20 (.int 0))) := ⟨_, rfl⟩
  rw [← e1] at T1 c1
  have F1 : Frm sT mdT M M1 := by rw [e1]; exact Frm.fld hM (by decide)
  have J1 : JJ ls s 0 M1 s 0 o ls lp := ⟨T1, ⟨S, 0, O, c1, h1, rfl, h3⟩, by omega, Nat.le_refl s, ⟨0, by rw [Nat.sub_self]; rfl, rfl, Nat.zero_le o⟩, fun i hi => by omega, fun i _ => rfl⟩
  obtain ⟨v, M', q1, r, rfl, q2, q3, q4⟩ := co_loop (e := e) (M0 := M) 41 s 0 o M1 ls lp x1 J1 F1 (by omega)
  exact ⟨r, M', co_0 hM hlen (by rw [← e1]; exact q1), q2, q3, q4⟩
/-! BY HAND: reading texts, the reference: line -/
theorem li_0 {e : Nat} {M : Mem} {M' : Mem} {v : Option Value} {kd x : Int32} {x3 : Option Value}  (hz : Ev none (e + 4) 170 (if kd = 5 then 5 else 31) [some (.ref 633), some (.int x), some (.int kd), x3] [] M v M' 0 0) : Ev none (e + 4) 170 0 [some (.ref 633), some (.int x), some (.int kd), x3] [] M v M' 0 0 := by
  refine Ev.step (pc' := (if kd = 5 then 5 else 31)) (ls' := [some (.ref 633), some (.int x), some (.int kd), x3]) (st' := []) (M1 := M) 3 (fun n => rfl) ?_
  exact hz
theorem li_5 {e : Nat} {M : Mem} {M' : Mem} {v : Option Value} {kd x : Int32} {x3 : Option Value}  (hz : Ev none (e + 4) 170 6 [some (.ref 633), some (.int x), some (.int kd), x3] [.ref 633] M v M' 0 0) : Ev none (e + 4) 170 5 [some (.ref 633), some (.int x), some (.int kd), x3] [] M v M' 0 0 := by
  refine Ev.step (pc' := 6) (ls' := [some (.ref 633), some (.int x), some (.int kd), x3]) (st' := [.ref 633]) (M1 := M) 1 (fun n => rfl) ?_
  exact hz
theorem li_9 {e : Nat} {M : Mem} {M' : Mem} {v : Option Value} {kd u x : Int32} {x3 : Option Value}  (hz : Ev none (e + 4) 170 (if 0 ≤ u then 20 else 14) [some (.ref 633), some (.int x), some (.int kd), some (.int u)] [] M v M' 0 0) : Ev none (e + 4) 170 9 [some (.ref 633), some (.int x), some (.int kd), x3] [.int u] M v M' 0 0 := by
  refine Ev.step (pc' := (if 0 ≤ u then 20 else 14)) (ls' := [some (.ref 633), some (.int x), some (.int kd), some (.int u)]) (st' := []) (M1 := M) 3 (fun n => rfl) ?_
  exact hz
theorem li_14 {e : Nat} {M : Mem} {M' : Mem} {v : Option Value} {kd x : Int32} {x3 : Option Value}  (hz : Ev none (e + 4) 170 16 [some (.ref 633), some (.int x), some (.int kd), x3] [.int 1, .ref 633] M v M' 0 0) : Ev none (e + 4) 170 14 [some (.ref 633), some (.int x), some (.int kd), x3] [] M v M' 0 0 := by
  refine Ev.step (pc' := 16) (ls' := [some (.ref 633), some (.int x), some (.int kd), x3]) (st' := [.int 1, .ref 633]) (M1 := M) 2 (fun n => rfl) ?_
  exact hz
theorem li_19 {e : Nat} {M : Mem} {kd x : Int32} {x3 : Option Value}  : Ev none (e + 4) 170 19 [some (.ref 633), some (.int x), some (.int kd), x3] [.int 0] M (some (.int 0)) M 0 0 := by
  exact Ev.ret (fun n => rfl)
theorem li_20 {e : Nat} {M : Mem} {M' : Mem} {v : Option Value} {vs : List Value} {kd u x y1 : Int32} {l641 : List Int32} (hM : gNth M 633 = some (.inr (11, vs))) (v11 : gNth vs 11 = some (.ref 641)) (r641 : gNth M 641 = some (.inl (1, .inl l641))) (g1 : gAt l641 x = some y1) (hz : Ev none (e + 4) 170 27 [some (.ref 633), some (.int x), some (.int kd), some (.int u)] [] (gPut M 641 (.inl (1, .inl (gPut l641 x.toNatClampNeg u)))) v M' 0 0) : Ev none (e + 4) 170 20 [some (.ref 633), some (.int x), some (.int kd), some (.int u)] [] M v M' 0 0 := by
  refine Ev.step (pc' := 21) (ls' := [some (.ref 633), some (.int x), some (.int kd), some (.int u)]) (st' := [.ref 633]) (M1 := M) 1 (fun n => rfl) ?_
  refine Ev.step 1 (gs_3 rfl rfl (gf_g rfl hM v11)) ?_
  refine Ev.step (pc' := 26) (ls' := [some (.ref 633), some (.int x), some (.int kd), some (.int u)]) (st' := [.int u, .int x, .ref 641]) (M1 := M) 2 (fun n => rfl) ?_
  refine Ev.step 1 (gs_4 rfl rfl (is_g r641 g1)) ?_
  exact hz
theorem li_27 {e : Nat} {M : Mem} {M' : Mem} {v : Option Value} {kd x : Int32} {x3 : Option Value}  (hz : Ev none (e + 4) 170 28 [some (.ref 633), some (.int x), some (.int kd), x3] [.ref 633] M v M' 0 0) : Ev none (e + 4) 170 27 [some (.ref 633), some (.int x), some (.int kd), x3] [] M v M' 0 0 := by
  refine Ev.step (pc' := 28) (ls' := [some (.ref 633), some (.int x), some (.int kd), x3]) (st' := [.ref 633]) (M1 := M) 1 (fun n => rfl) ?_
  exact hz
theorem li_31 {e : Nat} {M : Mem} {M' : Mem} {v : Option Value} {kd x : Int32} {x3 : Option Value}  (hz : Ev none (e + 4) 170 (if kd = 6 then 90 else 37) [some (.ref 633), some (.int x), some (.int kd), x3] [] M v M' 0 0) : Ev none (e + 4) 170 31 [some (.ref 633), some (.int x), some (.int kd), x3] [] M v M' 0 0 := by
  refine Ev.step (pc' := (if kd = 6 then 90 else 37)) (ls' := [some (.ref 633), some (.int x), some (.int kd), x3]) (st' := []) (M1 := M) 3 (fun n => rfl) ?_
  exact hz
theorem li_37 {e : Nat} {M : Mem} {M' : Mem} {v : Option Value} {kd x : Int32} {x3 : Option Value}  (hz : Ev none (e + 4) 170 (if kd = 2 then 43 else 47) [some (.ref 633), some (.int x), some (.int kd), x3] [.ref 633] M v M' 0 0) : Ev none (e + 4) 170 37 [some (.ref 633), some (.int x), some (.int kd), x3] [] M v M' 0 0 := by
  refine Ev.step (pc' := (if kd = 2 then 43 else 47)) (ls' := [some (.ref 633), some (.int x), some (.int kd), x3]) (st' := [.ref 633]) (M1 := M) 4 (fun n => rfl) ?_
  exact hz
theorem li_43 {e : Nat} {M : Mem} {M' : Mem} {v : Option Value} {kd x : Int32} {x3 : Option Value}  (hz : Ev none (e + 4) 170 (if kd = 5 then 53 else 58) [some (.ref 633), some (.int x), some (.int kd), x3] [.int 1, .ref 633] M v M' 0 0) : Ev none (e + 4) 170 43 [some (.ref 633), some (.int x), some (.int kd), x3] [.ref 633] M v M' 0 0 := by
  refine Ev.step (pc' := (if kd = 5 then 53 else 58)) (ls' := [some (.ref 633), some (.int x), some (.int kd), x3]) (st' := [.int 1, .ref 633]) (M1 := M) 5 (fun n => rfl) ?_
  exact hz
theorem li_47 {e : Nat} {M : Mem} {M' : Mem} {v : Option Value} {kd x : Int32} {x3 : Option Value}  (hz : Ev none (e + 4) 170 (if kd = 5 then 53 else 58) [some (.ref 633), some (.int x), some (.int kd), x3] [.int 0, .ref 633] M v M' 0 0) : Ev none (e + 4) 170 47 [some (.ref 633), some (.int x), some (.int kd), x3] [.ref 633] M v M' 0 0 := by
  refine Ev.step (pc' := (if kd = 5 then 53 else 58)) (ls' := [some (.ref 633), some (.int x), some (.int kd), x3]) (st' := [.int 0, .ref 633]) (M1 := M) 4 (fun n => rfl) ?_
  exact hz
theorem li_53 {e : Nat} {M : Mem} {M' : Mem} {v : Option Value} {kd lo x : Int32} {x3 : Option Value}  (hz : Ev none (e + 4) 170 72 [some (.ref 633), some (.int x), some (.int kd), x3] [.int 99, .int lo, .ref 633] M v M' 0 0) : Ev none (e + 4) 170 53 [some (.ref 633), some (.int x), some (.int kd), x3] [.int lo, .ref 633] M v M' 0 0 := by
  refine Ev.step (pc' := 72) (ls' := [some (.ref 633), some (.int x), some (.int kd), x3]) (st' := [.int 99, .int lo, .ref 633]) (M1 := M) 2 (fun n => rfl) ?_
  exact hz
theorem li_58 {e : Nat} {M : Mem} {M' : Mem} {v : Option Value} {kd lo x : Int32} {x3 : Option Value}  (hz : Ev none (e + 4) 170 (if kd = 7 then 64 else 69) [some (.ref 633), some (.int x), some (.int kd), x3] [.int lo, .ref 633] M v M' 0 0) : Ev none (e + 4) 170 58 [some (.ref 633), some (.int x), some (.int kd), x3] [.int lo, .ref 633] M v M' 0 0 := by
  refine Ev.step (pc' := (if kd = 7 then 64 else 69)) (ls' := [some (.ref 633), some (.int x), some (.int kd), x3]) (st' := [.int lo, .ref 633]) (M1 := M) 3 (fun n => rfl) ?_
  exact hz
theorem li_64 {e : Nat} {M : Mem} {M' : Mem} {v : Option Value} {kd lo x : Int32} {x3 : Option Value}  (hz : Ev none (e + 4) 170 72 [some (.ref 633), some (.int x), some (.int kd), x3] [.int 9, .int lo, .ref 633] M v M' 0 0) : Ev none (e + 4) 170 64 [some (.ref 633), some (.int x), some (.int kd), x3] [.int lo, .ref 633] M v M' 0 0 := by
  refine Ev.step (pc' := 72) (ls' := [some (.ref 633), some (.int x), some (.int kd), x3]) (st' := [.int 9, .int lo, .ref 633]) (M1 := M) 2 (fun n => rfl) ?_
  exact hz
theorem li_69 {e : Nat} {M : Mem} {M' : Mem} {v : Option Value} {kd lo x : Int32} {x3 : Option Value}  (hz : Ev none (e + 4) 170 72 [some (.ref 633), some (.int x), some (.int kd), x3] [.int 999, .int lo, .ref 633] M v M' 0 0) : Ev none (e + 4) 170 69 [some (.ref 633), some (.int x), some (.int kd), x3] [.int lo, .ref 633] M v M' 0 0 := by
  refine Ev.step (pc' := 72) (ls' := [some (.ref 633), some (.int x), some (.int kd), x3]) (st' := [.int 999, .int lo, .ref 633]) (M1 := M) 1 (fun n => rfl) ?_
  exact hz
theorem li_75 {e : Nat} {M : Mem} {M' : Mem} {v : Option Value} {kd x y : Int32} {x3 : Option Value}  (hz : Ev none (e + 4) 170 (if y = 0 then 78 else 80) [some (.ref 633), some (.int x), some (.int kd), x3] [] M v M' 0 0) : Ev none (e + 4) 170 75 [some (.ref 633), some (.int x), some (.int kd), x3] [.int y] M v M' 0 0 := by
  refine Ev.step (pc' := (if y = 0 then 78 else 80)) (ls' := [some (.ref 633), some (.int x), some (.int kd), x3]) (st' := []) (M1 := M) 1 (fun n => rfl) ?_
  exact hz
theorem li_78 {e : Nat} {M : Mem} {kd x : Int32} {x3 : Option Value}  : Ev none (e + 4) 170 78 [some (.ref 633), some (.int x), some (.int kd), x3] [] M (some (.int 0)) M 0 0 := by
  refine Ev.step (pc' := 79) (ls' := [some (.ref 633), some (.int x), some (.int kd), x3]) (st' := [.int 0]) (M1 := M) 1 (fun n => rfl) ?_
  exact Ev.ret (fun n => rfl)
theorem li_80 {e : Nat} {M : Mem} {M' : Mem} {v : Option Value} {vs : List Value} {f32 kd x y1 : Int32} {l642 : List Int32} {x3 : Option Value} (hM : gNth M 633 = some (.inr (11, vs))) (v12 : gNth vs 12 = some (.ref 642)) (v32 : gNth vs 32 = some (.int f32)) (r642 : gNth M 642 = some (.inl (1, .inl l642))) (g1 : gAt l642 x = some y1) (hz : Ev none (e + 4) 170 90 [some (.ref 633), some (.int x), some (.int kd), x3] [] (gPut M 642 (.inl (1, .inl (gPut l642 x.toNatClampNeg f32)))) v M' 0 0) : Ev none (e + 4) 170 80 [some (.ref 633), some (.int x), some (.int kd), x3] [] M v M' 0 0 := by
  refine Ev.step (pc' := 81) (ls' := [some (.ref 633), some (.int x), some (.int kd), x3]) (st' := [.ref 633]) (M1 := M) 1 (fun n => rfl) ?_
  refine Ev.step 1 (gs_3 rfl rfl (gf_g rfl hM v12)) ?_
  refine Ev.step (pc' := 86) (ls' := [some (.ref 633), some (.int x), some (.int kd), x3]) (st' := [.ref 633, .int x, .ref 642]) (M1 := M) 2 (fun n => rfl) ?_
  refine Ev.step 1 (gs_3 rfl rfl (gf_g rfl hM v32)) ?_
  refine Ev.step 1 (gs_4 rfl rfl (is_g r642 g1)) ?_
  exact hz
theorem li_90 {e : Nat} {M : Mem} {M' : Mem} {v : Option Value} {vs : List Value} {f19 kd x y1 : Int32} {l643 : List Int32} {x3 : Option Value} (hM : gNth M 633 = some (.inr (11, vs))) (v13 : gNth vs 13 = some (.ref 643)) (v19 : gNth vs 19 = some (.int f19)) (r643 : gNth M 643 = some (.inl (1, .inl l643))) (g1 : gAt l643 x = some y1) (hz : Ev none (e + 4) 170 100 [some (.ref 633), some (.int x), some (.int kd), x3] [] (gPut M 643 (.inl (1, .inl (gPut l643 x.toNatClampNeg f19)))) v M' 0 0) : Ev none (e + 4) 170 90 [some (.ref 633), some (.int x), some (.int kd), x3] [] M v M' 0 0 := by
  refine Ev.step (pc' := 91) (ls' := [some (.ref 633), some (.int x), some (.int kd), x3]) (st' := [.ref 633]) (M1 := M) 1 (fun n => rfl) ?_
  refine Ev.step 1 (gs_3 rfl rfl (gf_g rfl hM v13)) ?_
  refine Ev.step (pc' := 96) (ls' := [some (.ref 633), some (.int x), some (.int kd), x3]) (st' := [.ref 633, .int x, .ref 643]) (M1 := M) 2 (fun n => rfl) ?_
  refine Ev.step 1 (gs_3 rfl rfl (gf_g rfl hM v19)) ?_
  refine Ev.step 1 (gs_4 rfl rfl (is_g r643 g1)) ?_
  exact hz
theorem li_100 {e : Nat} {M : Mem} {M' : Mem} {v : Option Value} {kd x : Int32} {x3 : Option Value}  (hz : Ev none (e + 4) 170 (if kd = 6 then 106 else 110) [some (.ref 633), some (.int x), some (.int kd), x3] [] M v M' 0 0) : Ev none (e + 4) 170 100 [some (.ref 633), some (.int x), some (.int kd), x3] [] M v M' 0 0 := by
  refine Ev.step (pc' := (if kd = 6 then 106 else 110)) (ls' := [some (.ref 633), some (.int x), some (.int kd), x3]) (st' := []) (M1 := M) 3 (fun n => rfl) ?_
  exact hz
theorem li_106 {e : Nat} {M : Mem} {M' : Mem} {v : Option Value} {kd x : Int32} {x3 : Option Value}  (hz : Ev none (e + 4) 170 (if kd = 0 then 126 else 116) [some (.ref 633), some (.int x), some (.int kd), some (.int 1)] [] M v M' 0 0) : Ev none (e + 4) 170 106 [some (.ref 633), some (.int x), some (.int kd), x3] [] M v M' 0 0 := by
  refine Ev.step (pc' := (if kd = 0 then 126 else 116)) (ls' := [some (.ref 633), some (.int x), some (.int kd), some (.int 1)]) (st' := []) (M1 := M) 5 (fun n => rfl) ?_
  exact hz
theorem li_110 {e : Nat} {M : Mem} {M' : Mem} {v : Option Value} {kd x : Int32} {x3 : Option Value}  (hz : Ev none (e + 4) 170 (if kd = 0 then 126 else 116) [some (.ref 633), some (.int x), some (.int kd), some (.int 0)] [] M v M' 0 0) : Ev none (e + 4) 170 110 [some (.ref 633), some (.int x), some (.int kd), x3] [] M v M' 0 0 := by
  refine Ev.step (pc' := (if kd = 0 then 126 else 116)) (ls' := [some (.ref 633), some (.int x), some (.int kd), some (.int 0)]) (st' := []) (M1 := M) 4 (fun n => rfl) ?_
  exact hz
theorem li_116 {e : Nat} {M : Mem} {M' : Mem} {v : Option Value} {kd x : Int32} {x3 : Option Value}  (hz : Ev none (e + 4) 170 (if kd = 1 then 126 else 121) [some (.ref 633), some (.int x), some (.int kd), x3] [] M v M' 0 0) : Ev none (e + 4) 170 116 [some (.ref 633), some (.int x), some (.int kd), x3] [] M v M' 0 0 := by
  refine Ev.step (pc' := (if kd = 1 then 126 else 121)) (ls' := [some (.ref 633), some (.int x), some (.int kd), x3]) (st' := []) (M1 := M) 3 (fun n => rfl) ?_
  exact hz
theorem li_121 {e : Nat} {M : Mem} {M' : Mem} {v : Option Value} {kd x : Int32} {x3 : Option Value}  (hz : Ev none (e + 4) 170 (if kd = 5 then 126 else 142) [some (.ref 633), some (.int x), some (.int kd), x3] [] M v M' 0 0) : Ev none (e + 4) 170 121 [some (.ref 633), some (.int x), some (.int kd), x3] [] M v M' 0 0 := by
  refine Ev.step (pc' := (if kd = 5 then 126 else 142)) (ls' := [some (.ref 633), some (.int x), some (.int kd), x3]) (st' := []) (M1 := M) 3 (fun n => rfl) ?_
  exact hz
theorem li_126 {e : Nat} {M : Mem} {M' : Mem} {v : Option Value} {kd x : Int32} {x3 : Option Value}  (hz : Ev none (e + 4) 170 130 [some (.ref 633), some (.int x), some (.int kd), x3] [.long 26982, .ref 633] M v M' 0 0) : Ev none (e + 4) 170 126 [some (.ref 633), some (.int x), some (.int kd), x3] [] M v M' 0 0 := by
  refine Ev.step (pc' := 130) (ls' := [some (.ref 633), some (.int x), some (.int kd), x3]) (st' := [.long 26982, .ref 633]) (M1 := M) 2 (fun n => rfl) ?_
  exact hz
theorem li_133 {e : Nat} {M : Mem} {M' : Mem} {v : Option Value} {kd x y : Int32} {x3 : Option Value}  (hz : Ev none (e + 4) 170 (if y = 0 then 142 else 136) [some (.ref 633), some (.int x), some (.int kd), x3] [] M v M' 0 0) : Ev none (e + 4) 170 133 [some (.ref 633), some (.int x), some (.int kd), x3] [.int y] M v M' 0 0 := by
  refine Ev.step (pc' := (if y = 0 then 142 else 136)) (ls' := [some (.ref 633), some (.int x), some (.int kd), x3]) (st' := []) (M1 := M) 1 (fun n => rfl) ?_
  exact hz
theorem li_136 {e : Nat} {M : Mem} {M' : Mem} {v : Option Value} {kd x : Int32} {x3 : Option Value}  (hz : Ev none (e + 4) 170 137 [some (.ref 633), some (.int x), some (.int kd), x3] [.ref 633] M v M' 0 0) : Ev none (e + 4) 170 136 [some (.ref 633), some (.int x), some (.int kd), x3] [] M v M' 0 0 := by
  refine Ev.step (pc' := 137) (ls' := [some (.ref 633), some (.int x), some (.int kd), x3]) (st' := [.ref 633]) (M1 := M) 1 (fun n => rfl) ?_
  exact hz
theorem li_140 {e : Nat} {M : Mem} {M' : Mem} {v : Option Value} {kd x : Int32} {x3 : Option Value}  (hz : Ev none (e + 4) 170 142 [some (.ref 633), some (.int x), some (.int kd), some (.int 1)] [] M v M' 0 0) : Ev none (e + 4) 170 140 [some (.ref 633), some (.int x), some (.int kd), x3] [] M v M' 0 0 := by
  refine Ev.step (pc' := 142) (ls' := [some (.ref 633), some (.int x), some (.int kd), some (.int 1)]) (st' := []) (M1 := M) 2 (fun n => rfl) ?_
  exact hz
theorem li_142 {e : Nat} {M : Mem} {M' : Mem} {v : Option Value} {kd u x : Int32}  (hz : Ev none (e + 4) 170 (if u = 0 then 155 else 146) [some (.ref 633), some (.int x), some (.int kd), some (.int u)] [] M v M' 0 0) : Ev none (e + 4) 170 142 [some (.ref 633), some (.int x), some (.int kd), some (.int u)] [] M v M' 0 0 := by
  refine Ev.step (pc' := (if u = 0 then 155 else 146)) (ls' := [some (.ref 633), some (.int x), some (.int kd), some (.int u)]) (st' := []) (M1 := M) 2 (fun n => rfl) ?_
  exact hz
theorem li_146 {e : Nat} {M : Mem} {M' : Mem} {v : Option Value} {kd x : Int32} {x3 : Option Value}  (hz : Ev none (e + 4) 170 147 [some (.ref 633), some (.int x), some (.int kd), x3] [.ref 633] M v M' 0 0) : Ev none (e + 4) 170 146 [some (.ref 633), some (.int x), some (.int kd), x3] [] M v M' 0 0 := by
  refine Ev.step (pc' := 147) (ls' := [some (.ref 633), some (.int x), some (.int kd), x3]) (st' := [.ref 633]) (M1 := M) 1 (fun n => rfl) ?_
  exact hz
theorem li_150 {e : Nat} {M : Mem} {M' : Mem} {v : Option Value} {kd x y : Int32} {x3 : Option Value}  (hz : Ev none (e + 4) 170 (if y = 0 then 153 else 155) [some (.ref 633), some (.int x), some (.int kd), x3] [] M v M' 0 0) : Ev none (e + 4) 170 150 [some (.ref 633), some (.int x), some (.int kd), x3] [.int y] M v M' 0 0 := by
  refine Ev.step (pc' := (if y = 0 then 153 else 155)) (ls' := [some (.ref 633), some (.int x), some (.int kd), x3]) (st' := []) (M1 := M) 1 (fun n => rfl) ?_
  exact hz
theorem li_153 {e : Nat} {M : Mem} {kd x : Int32} {x3 : Option Value}  : Ev none (e + 4) 170 153 [some (.ref 633), some (.int x), some (.int kd), x3] [] M (some (.int 0)) M 0 0 := by
  refine Ev.step (pc' := 154) (ls' := [some (.ref 633), some (.int x), some (.int kd), x3]) (st' := [.int 0]) (M1 := M) 1 (fun n => rfl) ?_
  exact Ev.ret (fun n => rfl)
theorem li_155 {e : Nat} {M : Mem} {vs : List Value} {f19 kd x y1 : Int32} {l644 : List Int32} {x3 : Option Value} (hM : gNth M 633 = some (.inr (11, vs))) (v14 : gNth vs 14 = some (.ref 644)) (v19 : gNth vs 19 = some (.int f19)) (r644 : gNth M 644 = some (.inl (1, .inl l644))) (g1 : gAt l644 x = some y1) : Ev none (e + 4) 170 155 [some (.ref 633), some (.int x), some (.int kd), x3] [] M (some (.int 1)) (gPut M 644 (.inl (1, .inl (gPut l644 x.toNatClampNeg f19)))) 0 0 := by
  refine Ev.step (pc' := 156) (ls' := [some (.ref 633), some (.int x), some (.int kd), x3]) (st' := [.ref 633]) (M1 := M) 1 (fun n => rfl) ?_
  refine Ev.step 1 (gs_3 rfl rfl (gf_g rfl hM v14)) ?_
  refine Ev.step (pc' := 161) (ls' := [some (.ref 633), some (.int x), some (.int kd), x3]) (st' := [.ref 633, .int x, .ref 644]) (M1 := M) 2 (fun n => rfl) ?_
  refine Ev.step 1 (gs_3 rfl rfl (gf_g rfl hM v19)) ?_
  refine Ev.step 1 (gs_4 rfl rfl (is_g r644 g1)) ?_
  refine Ev.step (pc' := 166) (ls' := [some (.ref 633), some (.int x), some (.int kd), x3]) (st' := [.int 1]) (M1 := (gPut M 644 (.inl (1, .inl (gPut l644 x.toNatClampNeg f19))))) 1 (fun n => rfl) ?_
  exact Ev.ret (fun n => rfl)
theorem cal_me {M : Mem} {vs : List Value} {rest : List Value} (hM : gNth M 633 = some (.inr (11, vs))) (hr : gRoom rest = true) : gCal (.invokevirtual 237) 11 (.ref 633 :: rest) M = some (.inr (171, [some (.ref 633)], rest)) := by
  show @cond (Option ((List Value × Mem) ⊕ (Nat × Lo × List Value))) (true && gRecv M (.ref 633) 11 && gRoom rest && true) (some (.inr (171, [some (.ref 633)], rest))) none = _
  rw [recv_ok hM, hr]
  rfl
theorem cal_tk {M : Mem} {vs : List Value} {a0 a1 : Int32} {rest : List Value} (hM : gNth M 633 = some (.inr (11, vs))) (hr : gRoom rest = true) : gCal (.invokevirtual 240) 11 (.int a1 :: .int a0 :: .ref 633 :: rest) M = some (.inr (167, [some (.ref 633), some (.int a0), some (.int a1)], rest)) := by
  show @cond (Option ((List Value × Mem) ⊕ (Nat × Lo × List Value))) (true && gRecv M (.ref 633) 11 && gRoom rest && true) (some (.inr (167, [some (.ref 633), some (.int a0), some (.int a1)], rest))) none = _
  rw [recv_ok hM, hr]
  rfl
theorem cal_cd {M : Mem} {vs : List Value} {rest : List Value} (hM : gNth M 633 = some (.inr (11, vs))) (hr : gRoom rest = true) : gCal (.invokevirtual 252) 11 (.ref 633 :: rest) M = some (.inr (179, [some (.ref 633), none], rest)) := by
  show @cond (Option ((List Value × Mem) ⊕ (Nat × Lo × List Value))) (true && gRecv M (.ref 633) 11 && gRoom rest && true) (some (.inr (179, [some (.ref 633), none], rest))) none = _
  rw [recv_ok hM, hr]
  rfl
set_option maxRecDepth 100000 in
theorem rwL : (rwB 69 1 128 (-2147483648) 2147483647 && rwB 70 1 128 (-2147483648) 2147483647) = true := by decide +kernel
set_option maxRecDepth 100000 in
theorem mfL : (mfB 11 69 && mfB 12 70 && mfB 13 71 && mfB 14 72) = true := by decide +kernel
set_option maxRecDepth 100000 in
theorem sUL : gNth sU 69 = some (some 641) ∧ gNth sU 70 = some (some 642) ∧ gNth sU 71 = some (some 643) ∧ gNth sU 72 = some (some 644) := by refine ⟨?_, ?_, ?_, ?_⟩ <;> decide +kernel
set_option maxRecDepth 100000 in
theorem sTL : gNth sT 641 = some 69 ∧ gNth sT 642 = some 70 := by refine ⟨?_, ?_⟩ <;> decide +kernel
set_option maxRecDepth 100000 in
theorem fB_32 : fldB 32 (-2147483648) 2147483647 = true := by decide +kernel
set_option maxRecDepth 100000 in
theorem mRl : (gNth mRs 171).map (fun q => q.2.2.2.1) = some 1 ∧ (gNth mRs 167).map (fun q => q.2.2.2.1) = some 3 := by refine ⟨?_, ?_⟩ <;> decide +kernel
theorem okS.eq {l l2 : List Int32} : ∀ {m k : Nat} {n : Int}, okS m l k n → (∀ i, k ≤ i → i < k + m → gNth l2 i = gNth l i) → okS m l2 k n := by
  intro m
  induction m with
  | zero => intro k n _ _; trivial
  | succ m ih =>
    intro k n h he
    obtain ⟨w, h1, h2⟩ := h
    refine ⟨w, by rw [he k (Nat.le_refl k) (by omega)]; exact h1, ?_⟩
    rcases h2 with ⟨a, b, c⟩ | ⟨a, b, c, d⟩ | ⟨a, b, c, d, e⟩
    · exact Or.inl ⟨a, b, ih c (fun i i1 i2 => he i (by omega) (by omega))⟩
    · exact Or.inr (Or.inl ⟨a, b, c, ih d (fun i i1 i2 => he i (by omega) (by omega))⟩)
    · exact Or.inr (Or.inr ⟨a, b, c, d, ih e (fun i i1 i2 => he i (by omega) (by omega))⟩)
/-- the rows of lines -/
def Rws (M : Mem) (lm lf lt : List Int32) : Prop := gNth M 639 = some (.inl (1, .inl lm)) ∧ gNth M 643 = some (.inl (1, .inl lf)) ∧ gNth M 644 = some (.inl (1, .inl lt))
/-- n lines of the text that is read are well formed, their steps below s -/
def LOK (n : Nat) (ls lf lt : List Int32) (s : Nat) : Prop := ∀ j, 112 ≤ j → j < 112 + n → ∃ f t : Int32, gNth lf j = some f ∧ gNth lt j = some t ∧ 0 ≤ f.toInt ∧ t.toInt ≤ (s : Int) ∧ (f = t ∨ ∃ m k : Nat, f.toInt + (m : Int) = t.toInt ∧ (k : Int) = 1400 + f.toInt ∧ okS m ls k 0)
/-- the other texts' rows are as they were -/
def ITC (q0 : List Int32 × List Int32 × List Int32 × List Int32) (lm lf lt ls : List Int32) : Prop := (∀ i, i < 7 → gNth lm i = gNth q0.1 i) ∧ (∀ j, j < 112 → gNth lf j = gNth q0.2.1 j ∧ gNth lt j = gNth q0.2.2.1 j) ∧ ∀ i, i < 1400 → gNth ls i = gNth q0.2.2.2 i
/-- .. alone, for a text that is refused -/
def ITX (q0 : List Int32 × List Int32 × List Int32 × List Int32) (M : Mem) : Prop := ∃ lm lf lt ls, Rws M lm lf lt ∧ gNth M 645 = some (.inl (1, .inl ls)) ∧ ITC q0 lm lf lt ls
/-- what stands while lines are read -/
def WW (q0 : List Int32 × List Int32 × List Int32 × List Int32) (n : Nat) (N : Int32) (M : Mem) : Prop := ∃ (s o : Nat) (S P O : Int32) (ls lp lm lf lt : List Int32), TM sT sG M ∧ Cst M S P O ls lp ∧ S.toInt = (s : Int) ∧ O.toInt = (o : Int) ∧ s ≤ 2 * o ∧ Rws M lm lf lt ∧ gNth lm 7 = some N ∧ LOK n ls lf lt s ∧ ITC q0 lm lf lt ls
variable {q0 : List Int32 × List Int32 × List Int32 × List Int32} {n : Nat} {N : Int32}
theorem Rws.frm {M M' : Mem} {md : Md} {lm lf lt : List Int32} (h : Rws M lm lf lt) (hF : Frm sT md M M') (hm : (!(mdIn md 1067 0 || mdIn md 1071 0 || mdIn md 1072 0)) = true) : Rws M' lm lf lt := by
  have no : ∀ c, (mdIn md c 0 = true → (mdIn md 1067 0 || mdIn md 1071 0 || mdIn md 1072 0) = true) → (c, 0) ∉ md := fun c h hc => by
    have h2 := h (mdIn_iff.mpr hc)
    rw [h2] at hm
    cases hm
  exact ⟨row_frm hF sT_639 (no 1067 (fun h => by rw [h]; rfl)) h.1, row_frm hF sT_643 (no 1071 (fun h => by rw [h]; simp)) h.2.1, row_frm hF sT_644 (no 1072 (fun h => by rw [h]; simp)) h.2.2⟩
theorem WW.frm {M M' : Mem} {md : Md} (h : WW q0 n N M) (hT : TM sT sG M') (hF : Frm sT md M M') (hm : ((!(mdIn md 11 19 || mdIn md 11 20 || mdIn md 11 21 || mdIn md 1073 0 || mdIn md 1076 0)) && (!(mdIn md 1067 0 || mdIn md 1071 0 || mdIn md 1072 0))) = true) : WW q0 n N M' := by
  obtain ⟨s, o, S, P, O, ls, lp, lm, lf, lt, _, hc, h1, h2, h3, hr, h4⟩ := h
  obtain ⟨m1, m2⟩ := and_t hm
  exact ⟨s, o, S, P, O, ls, lp, lm, lf, lt, hT, hc.frm hF m1, h1, h2, h3, hr.frm hF m2, h4⟩
theorem WW.itx {M : Mem} (h : WW q0 n N M) : ITX q0 M := by
  obtain ⟨s, o, S, P, O, ls, lp, lm, lf, lt, _, ⟨vs, _, _, _, _, hl, _⟩, _, _, _, hr, _, _, hi⟩ := h
  exact ⟨lm, lf, lt, ls, hr, hl, hi⟩
theorem ITX.frm {M M' : Mem} {md : Md} (h : ITX q0 M) (hF : Frm sT md M M') (hm : ((!(mdIn md 11 19 || mdIn md 11 20 || mdIn md 11 21 || mdIn md 1073 0 || mdIn md 1076 0)) && (!(mdIn md 1067 0 || mdIn md 1071 0 || mdIn md 1072 0))) = true) : ITX q0 M' := by
  obtain ⟨lm, lf, lt, ls, hr, hl, hi⟩ := h
  obtain ⟨m1, m2⟩ := and_t hm
  refine ⟨lm, lf, lt, ls, hr.frm hF m2, row_frm hF sT_645 (fun hc => ?_) hl, hi⟩
  rw [mdIn_iff.mpr hc] at m1
  simp at m1
theorem WW.obj {M : Mem} (h : WW q0 n N M) : TM sT sG M ∧ ∃ vs, gNth M 633 = some (.inr (11, vs)) := by
  obtain ⟨s, o, S, P, O, ls, lp, lm, lf, lt, hT, ⟨vs, hM, _⟩, _⟩ := h
  exact ⟨hT, vs, hM⟩
/-- all that a line may write -/
def mdL : Md := [(11, 4), (11, 19), (11, 20), (11, 21), (11, 22), (11, 23), (11, 24), (11, 25), (11, 26), (11, 27), (11, 31), (11, 32), (1069, 0), (1070, 0), (1071, 0), (1072, 0), (1073, 0), (1074, 0), (1075, 0), (1076, 0)]
def LiQ (q0 : List Int32 × List Int32 × List Int32 × List Int32) (n : Nat) (N : Int32) (M0 : Mem) (v : Option Value) (M' : Mem) : Prop := ∃ r : Int32, v = some (.int r) ∧ TM sT sG M' ∧ Frm sT mdL M0 M' ∧ ((r = 0 ∧ ITX q0 M') ∨ (r = 1 ∧ WW q0 (n + 1) N M'))
section LINE
variable {M0 : Mem} {e : Nat} {x kd : Int32}
theorem li_no {M : Mem} {pc : Nat} {lo : Lo} {st : List Value} (h : WW q0 n N M) (hF : Frm sT mdL M0 M) (hz : Ev none (e + 4) 170 pc lo st M (some (.int 0)) M 0 0) : RF (LiQ q0 n N M0) [] (e + 4) 170 pc lo st M := ⟨some (.int 0), M, hz, 0, rfl, h.obj.1, hF, Or.inl ⟨rfl, h.itx⟩⟩
/-- the line's end is set -/
theorem li_end {M : Mem} {x3 : Option Value} {s o : Nat} {S P O f : Int32} {ls lp lm lf lt : List Int32} (hx : x.toInt = ((112 + n : Nat) : Int)) (hn : n ≤ 15) (hF : Frm sT mdL M0 M) (hT : TM sT sG M) (hc : Cst M S P O ls lp) (h1 : S.toInt = (s : Int)) (h2 : O.toInt = (o : Int)) (h3 : s ≤ 2 * o) (hr : Rws M lm lf lt) (h7 : gNth lm 7 = some N) (hl : LOK n ls lf lt s) (hi : ITC q0 lm lf lt ls) (hf : gNth lf (112 + n) = some f) (f0 : 0 ≤ f.toInt) (hs : f = S ∨ ∃ m k : Nat, f.toInt + (m : Int) = S.toInt ∧ (k : Int) = 1400 + f.toInt ∧ okS m ls k 0) : RF (LiQ q0 n N M0) [] (e + 4) 170 155 [some (.ref 633), some (.int x), some (.int kd), x3] [] M := by
  obtain ⟨vs, hM, v19, v20, v21, r645, r648⟩ := id hc
  obtain ⟨vs9, hM9, hv⟩ := hT.mfld
  cases hM.symm.trans hM9
  have h14 := hv _ _ _ (and_t mfL).2 sUL.2.2.2
  obtain ⟨r639, r643, r644⟩ := hr
  obtain ⟨l2, b1, b2, b3⟩ := hT.mrow sT_644 rw_72
  cases r644.symm.trans b1
  obtain ⟨S2, P2, O2, ls2, lp2, c2, _, _, s0, s1, _⟩ := hT.cst
  obtain ⟨rfl, rfl, rfl, rfl, rfl⟩ := hc.det c2
  obtain ⟨y, y1, y2⟩ := at_c (l := lt) hx (by omega)
  have T1 : TM sT sG (gPut M 644 (.inl (1, .inl (gPut lt (112 + n) S)))) := hT.putrow (n := 128) (lo := 0) (hi := 200) sT_644 (by decide +kernel) (by rw [put_len]; exact b2) (fun j z hj => by
    rw [nth_put] at hj
    split at hj
    · cases hj
      exact ⟨s0, s1⟩
    · exact b3 j z hj)
  have nn : ∀ c, c ≠ 644 → gNth (gPut M 644 (.inl (1, .inl (gPut lt (112 + n) S)))) c = gNth M c := fun c hc => by rw [nth_put, if_neg (fun q => hc q.1)]
  refine ⟨some (.int 1), gPut M 644 (.inl (1, .inl (gPut lt (112 + n) S))), by have h := li_155 (e := e) (kd := kd) (x3 := x3) hM h14 v19 r644 y1; rw [cl_n hx] at h; exact h, 1, rfl, T1, hF.trans (Frm.row r644 sT_644 (by decide)), Or.inr ⟨rfl, s, o, S, P, O, ls, lp, lm, lf, gPut lt (112 + n) S, T1, ⟨vs, by rw [nn 633 (by decide)]; exact hM, v19, v20, v21, by rw [nn 645 (by decide)]; exact r645, by rw [nn 648 (by decide)]; exact r648⟩, h1, h2, h3, ⟨by rw [nn 639 (by decide)]; exact r639, by rw [nn 643 (by decide)]; exact r643, by rw [nth_put, if_pos ⟨rfl, gNth_lt _ _ _ r644⟩]⟩, h7, fun j j1 j2 => ?_, hi.1, fun j hj => ⟨(hi.2.1 j hj).1, by rw [nth_put, if_neg (by omega)]; exact (hi.2.1 j hj).2⟩, hi.2.2⟩⟩
  by_cases hj : j = 112 + n
  · subst hj
    exact ⟨f, S, hf, by rw [nth_put, if_pos ⟨rfl, by omega⟩], f0, by omega, hs⟩
  · obtain ⟨f2, t2, q1, q2, q3⟩ := hl j j1 (by omega)
    exact ⟨f2, t2, q1, by rw [nth_put, if_neg (fun q => hj q.1)]; exact q2, q3⟩
/-- from the line's start on -/
theorem li_90on {M : Mem} {x3 : Option Value} (hx : x.toInt = ((112 + n : Nat) : Int)) (hn : n ≤ 15) (hF : Frm sT mdL M0 M) (h : WW q0 n N M) : RF (LiQ q0 n N M0) [] (e + 4) 170 90 [some (.ref 633), some (.int x), some (.int kd), x3] [] M := by
  obtain ⟨s, o, S, P, O, ls, lp, lm, lf, lt, hT, hc, h1, h2, h3, hr, h7, hl, hi⟩ := h
  obtain ⟨vs, hM, v19, v20, v21, r645, r648⟩ := id hc
  obtain ⟨vs9, hM9, hv⟩ := hT.mfld
  cases hM.symm.trans hM9
  have h13 := hv _ _ _ (and_t (and_t mfL).1).2 sUL.2.2.1
  obtain ⟨r639, r643, r644⟩ := hr
  obtain ⟨l2, b1, b2, b3⟩ := hT.mrow sT_643 rw_71
  cases r643.symm.trans b1
  obtain ⟨S2, P2, O2, ls2, lp2, c2, ll, _, s0, s1, _⟩ := hT.cst
  obtain ⟨rfl, rfl, rfl, rfl, rfl⟩ := hc.det c2
  obtain ⟨y, y1, y2⟩ := at_c (l := lf) hx (by omega)
  obtain ⟨M1, e1⟩ : ∃ M1, M1 = gPut M 643 (.inl (1, .inl (gPut lf (112 + n) S))) := ⟨_, rfl⟩
  have T1 : TM sT sG M1 := by
    rw [e1]
    exact hT.putrow (n := 128) (lo := 0) (hi := 200) sT_643 (by decide +kernel) (by rw [put_len]; exact b2) (fun j z hj => by
      rw [nth_put] at hj
      split at hj
      · cases hj
        exact ⟨s0, s1⟩
      · exact b3 j z hj)
  have nn : ∀ c, c ≠ 643 → gNth M1 c = gNth M c := fun c hc => by rw [e1, nth_put, if_neg (fun q => hc q.1)]
  have F1 : Frm sT mdL M M1 := by rw [e1]; exact Frm.row r643 sT_643 (by decide)
  have hM1 : gNth M1 633 = some (.inr (11, vs)) := by rw [nn 633 (by decide)]; exact hM
  have c1 : Cst M1 S P O ls lp := ⟨vs, hM1, v19, v20, v21, by rw [nn 645 (by decide)]; exact r645, by rw [nn 648 (by decide)]; exact r648⟩
  have R1 : Rws M1 lm (gPut lf (112 + n) S) lt := ⟨by rw [nn 639 (by decide)]; exact r639, by rw [e1, nth_put, if_pos ⟨rfl, gNth_lt _ _ _ r643⟩], by rw [nn 644 (by decide)]; exact r644⟩
  have L1 : LOK n ls (gPut lf (112 + n) S) lt s := fun j j1 j2 => by
    obtain ⟨f2, t2, q1, q2, q3⟩ := hl j j1 j2
    exact ⟨f2, t2, by rw [nth_put, if_neg (by omega)]; exact q1, q2, q3⟩
  have I1 : ITC q0 lm (gPut lf (112 + n) S) lt ls := ⟨hi.1, fun j hj => ⟨by rw [nth_put, if_neg (by omega)]; exact (hi.2.1 j hj).1, (hi.2.1 j hj).2⟩, hi.2.2⟩
  have hf : gNth (gPut lf (112 + n) S) (112 + n) = some S := by rw [nth_put, if_pos ⟨rfl, by omega⟩]
  refine RF.pre (fun v M' hz => li_90 hM h13 v19 r643 y1 (by rw [cl_n hx, ← e1]; exact hz)) ?_
  have g142 : ∀ (u : Int32) (M2 : Mem) (md : Md), TM sT sG M2 → Frm sT md M1 M2 → ((!(mdIn md 11 19 || mdIn md 11 20 || mdIn md 11 21 || mdIn md 1073 0 || mdIn md 1076 0)) && (!(mdIn md 1067 0 || mdIn md 1071 0 || mdIn md 1072 0))) = true → (∀ q ∈ md, q ∈ mdL) → RF (LiQ q0 n N M0) [] (e + 4) 170 142 [some (.ref 633), some (.int x), some (.int kd), some (.int u)] [] M2 := by
    intro u M2 md T2 F2 hm hsub
    obtain ⟨m1, m2⟩ := and_t hm
    have c2 := c1.frm F2 m1
    have R2 := R1.frm F2 m2
    have F02 : Frm sT mdL M0 M2 := (hF.trans F1).trans (F2.more hsub)
    obtain ⟨vs2, hM2, _⟩ := id c2
    refine RF.pre (fun v M' hz => li_142 hz) ?_
    by_cases hu : u = 0
    · rw [if_pos hu]
      exact li_end hx hn F02 T2 c2 h1 h2 h3 R2 h7 L1 I1 hf s0 (Or.inl rfl)
    rw [if_neg hu]
    obtain ⟨r, M3, q1, T3, F3, hres⟩ := ev_cond (e := e) (x1 := none) T2 c2 h1 h2 h3
    refine RF.pre (fun v M' hz => li_146 (Ev.call0 (fun n => gs_7 rfl rfl (cal_cd hM2 rfl)) q1 (li_150 hz))) ?_
    have F03 : Frm sT mdL M0 M3 := F02.trans (F3.more (by decide))
    have R3 := R2.frm F3 (by decide)
    rcases hres with ⟨rfl, ls3, b4, b5⟩ | ⟨rfl, s', o', ls', lp', J⟩
    · rw [if_pos rfl]
      exact ⟨some (.int 0), M3, li_153, 0, rfl, T3, F03, Or.inl ⟨rfl, lm, _, lt, ls3, R3, b4, I1.1, I1.2.1, fun i hi2 => by rw [b5 i hi2]; exact I1.2.2 i hi2⟩⟩
    · rw [if_neg (by decide)]
      obtain ⟨_, ⟨S', P', O', c3, g1, g2, g3⟩, hcnt, hle, ⟨dd, r1, _⟩, _, heq⟩ := J
      refine li_end (s := s') (o := o') hx hn F03 T3 c3 g1 g3 (by omega) R3 h7 (fun j j1 j2 => ?_) ⟨I1.1, I1.2.1, fun i hi2 => by rw [heq i (by omega)]; exact I1.2.2 i hi2⟩ hf s0 (Or.inr ⟨s' - s, 1400 + s, by omega, by omega, r1.ok⟩)
      obtain ⟨f2, t2, q1, q2, q3, q4, q5⟩ := L1 j j1 j2
      refine ⟨f2, t2, q1, q2, q3, by omega, q5.imp id (fun ⟨m, k, k1, k2, k3⟩ => ⟨m, k, k1, k2, k3.eq (fun i i1 i2 => heq i (by omega))⟩)⟩
  have g126 : ∀ u : Int32, RF (LiQ q0 n N M0) [] (e + 4) 170 126 [some (.ref 633), some (.int x), some (.int kd), some (.int u)] [] M1 := by
    intro u
    obtain ⟨y, y1⟩ := un_word (e := e + 3) (k := 26982) T1
    refine RF.pre (fun v M' hz => li_126 (Ev.call0 (fun n => gs_7 rfl rfl (cal_ww hM1 rfl)) y1 (li_133 hz))) ?_
    by_cases hy : y = 0
    · rw [if_pos hy]
      exact g142 u M1 [] T1 (Frm.refl M1) (by decide) (by decide)
    · rw [if_neg hy]
      obtain ⟨M2, x2, T2, F2⟩ := un_next (e := e + 2) T1
      refine RF.pre (fun v M' hz => li_136 (Ev.call0 (fun n => gs_7 rfl rfl (cal_nx hM1 rfl)) x2 (li_140 hz))) ?_
      exact g142 1 M2 mdN T2 F2 (by decide) (by decide)
  have g116 : ∀ u : Int32, RF (LiQ q0 n N M0) [] (e + 4) 170 (if kd = 0 then 126 else 116) [some (.ref 633), some (.int x), some (.int kd), some (.int u)] [] M1 := by
    intro u
    by_cases k0 : kd = 0
    · rw [if_pos k0]; exact g126 u
    rw [if_neg k0]
    refine RF.pre (fun v M' hz => li_116 hz) ?_
    by_cases k1 : kd = 1
    · rw [if_pos k1]; exact g126 u
    rw [if_neg k1]
    refine RF.pre (fun v M' hz => li_121 hz) ?_
    by_cases k5 : kd = 5
    · rw [if_pos k5]; exact g126 u
    rw [if_neg k5]
    exact g142 u M1 [] T1 (Frm.refl M1) (by decide) (by decide)
  refine RF.pre (fun v M' hz => li_100 hz) ?_
  by_cases k6 : kd = 6
  · rw [if_pos k6]
    exact RF.pre (fun v M' hz => li_106 hz) (g116 1)
  · rw [if_neg k6]
    exact RF.pre (fun v M' hz => li_110 hz) (g116 0)
theorem ev_line1 {M : Mem} {x3 : Option Value} (hx : x.toInt = ((112 + n : Nat) : Int)) (hn : n ≤ 15) (h : WW q0 n N M) : RF (LiQ q0 n N M) [] (e + 4) 170 0 [some (.ref 633), some (.int x), some (.int kd), x3] [] M := by
  have g31 : ∀ (M1 : Mem) (x3 : Option Value), WW q0 n N M1 → Frm sT mdL M M1 → RF (LiQ q0 n N M) [] (e + 4) 170 31 [some (.ref 633), some (.int x), some (.int kd), x3] [] M1 := by
    intro M1 x3 h1 F1
    obtain ⟨T1, vs, hM⟩ := h1.obj
    refine RF.pre (fun v M' hz => li_31 hz) ?_
    by_cases k6 : kd = 6
    · rw [if_pos k6]
      exact li_90on hx hn F1 h1
    rw [if_neg k6]
    have tk : ∀ lo hi : Int32, RF (LiQ q0 n N M) [] (e + 4) 170 72 [some (.ref 633), some (.int x), some (.int kd), x3] [.int hi, .int lo, .ref 633] M1 := by
      intro lo hi
      obtain ⟨v, M2, q1, T2, F2, s, hs, q2⟩ := use_cn (d := e + 3) (ws := [.ref 633, .int lo, .int hi]) kX11_takes_ok mRl.2 rfl rfl (Nat.le_add_left 2 (e + 1)) (Two.mk rfl (Two.mk ⟨lo, rfl, i32_any lo⟩ (Two.mk ⟨hi, rfl, i32_any hi⟩ trivial))) T1
      cases List.mem_singleton.mp hs
      cases v with
      | none => exact q2.elim
      | some w =>
        obtain ⟨y, rfl, _⟩ := q2
        have W2 := h1.frm T2 F2 (by decide)
        have F02 : Frm sT mdL M M2 := F1.trans (F2.more (by decide))
        refine RF.pre (fun v M' hz => Ev.call0 (fun n => gs_7 rfl rfl (cal_tk hM rfl)) q1 (li_75 hz)) ?_
        by_cases hy : y = 0
        · rw [if_pos hy]
          exact li_no W2 F02 li_78
        rw [if_neg hy]
        obtain ⟨_, vs2, hM2⟩ := W2.obj
        obtain ⟨vs9, hM9, hv⟩ := T2.mfld
        cases hM2.symm.trans hM9
        have h12 := hv _ _ _ (and_t (and_t (and_t mfL).1).1).2 sUL.2.1
        obtain ⟨vs9, td, hM9, _, g32, _⟩ := T2.fint fB_32
        cases hM2.symm.trans hM9
        obtain ⟨l2, b1, b2, _⟩ := T2.mrow sTL.2 (and_t rwL).2
        obtain ⟨y9, y1, y2⟩ := at_c (l := l2) hx (by omega)
        refine RF.pre (fun v M' hz => li_80 hM2 h12 g32 b1 y1 hz) ?_
        rw [cl_n hx]
        have F3 : Frm sT [(1070, 0)] M2 (gPut M2 642 (.inl (1, .inl (gPut l2 (112 + n) td)))) := Frm.row b1 sTL.2 (by decide)
        have T3 := any_put T2 sTL.2 b1 b2 (by decide +kernel) (112 + n) td
        exact li_90on hx hn (F02.trans (F3.more (by decide))) (W2.frm T3 F3 (by decide))
    have hi : ∀ lo : Int32, RF (LiQ q0 n N M) [] (e + 4) 170 (if kd = 5 then 53 else 58) [some (.ref 633), some (.int x), some (.int kd), x3] [.int lo, .ref 633] M1 := by
      intro lo
      by_cases k5 : kd = 5
      · rw [if_pos k5]
        exact RF.pre (fun v M' hz => li_53 hz) (tk lo 99)
      rw [if_neg k5]
      refine RF.pre (fun v M' hz => li_58 hz) ?_
      by_cases k7 : kd = 7
      · rw [if_pos k7]
        exact RF.pre (fun v M' hz => li_64 hz) (tk lo 9)
      · rw [if_neg k7]
        exact RF.pre (fun v M' hz => li_69 hz) (tk lo 999)
    refine RF.pre (fun v M' hz => li_37 hz) ?_
    by_cases k2 : kd = 2
    · rw [if_pos k2]
      exact RF.pre (fun v M' hz => li_43 hz) (hi 1)
    · rw [if_neg k2]
      exact RF.pre (fun v M' hz => li_47 hz) (hi 0)
  refine RF.pre (fun v M' hz => li_0 hz) ?_
  by_cases k5 : kd = 5
  · rw [if_pos k5]
    obtain ⟨hT, vs, hM⟩ := h.obj
    obtain ⟨v, M2, q1, T2, F2, s, hs, q2⟩ := use_cn (d := e + 3) (ws := [.ref 633]) kX11_measure_ok mRl.1 rfl rfl (Nat.zero_le _) (Two.mk rfl trivial) hT
    cases List.mem_singleton.mp hs
    cases pure_ok F2
    cases v with
    | none => exact q2.elim
    | some w =>
      obtain ⟨u, rfl, _⟩ := q2
      refine RF.pre (fun v M' hz => li_5 (Ev.call0 (fun n => gs_7 rfl rfl (cal_me hM rfl)) q1 (li_9 hz))) ?_
      by_cases hu : 0 ≤ u
      · rw [if_pos hu]
        obtain ⟨vs9, hM9, hv⟩ := hT.mfld
        cases hM.symm.trans hM9
        have h11 := hv _ _ _ (and_t (and_t (and_t mfL).1).1).1 sUL.1
        obtain ⟨l2, b1, b2, _⟩ := hT.mrow sTL.1 (and_t rwL).1
        obtain ⟨y9, y1, y2⟩ := at_c (l := l2) hx (by omega)
        have F3 : Frm sT [(1069, 0)] M (gPut M 641 (.inl (1, .inl (gPut l2 (112 + n) u)))) := Frm.row b1 sTL.1 (by decide)
        have T3 := any_put hT sTL.1 b1 b2 (by decide +kernel) (112 + n) u
        have W3 := h.frm T3 F3 (by decide)
        obtain ⟨_, vs3, hM3⟩ := W3.obj
        obtain ⟨M4, x4, T4, F4⟩ := un_next (e := e + 2) T3
        refine RF.pre (fun v M' hz => li_20 hM h11 b1 y1 (by rw [cl_n hx]; exact li_27 (Ev.call0 (fun n => gs_7 rfl rfl (cal_nx hM3 rfl)) x4 hz))) ?_
        exact g31 M4 _ (W3.frm T4 F4 (by decide)) ((F3.more (by decide)).trans (F4.more (by decide)))
      · rw [if_neg hu]
        obtain ⟨M', h1, h2, h3⟩ := un_bad (e := e + 3) (k := 1) hT
        exact ⟨some (.int 0), M', li_14 (Ev.call0 (fun n => gs_7 rfl rfl (cal_bd hM rfl)) h1 li_19), 0, rfl, h2, h3.more (by decide), Or.inl ⟨rfl, h.itx.frm h3 (by decide)⟩⟩
  · rw [if_neg k5]
    exact g31 M x3 h (Frm.refl M)
end LINE
/-! BY HAND: reading texts, the reference: read -/
theorem rd_0 {e : Nat} {M : Mem} {M' : Mem} {v : Option Value} {vs : List Value} {f22 lw : Int32} {x2 x3 x4 : Option Value} (hM : gNth M 633 = some (.inr (11, vs))) (v22 : gNth vs 22 = some (.int f22)) (hz : Ev none (e + 5) 169 (if f22 = 0 then 151 else 7) [some (.ref 633), some (.int lw), x2, x3, x4] [] M v M' 0 0) : Ev none (e + 5) 169 0 [some (.ref 633), some (.int lw), x2, x3, x4] [] M v M' 0 0 := by
  refine Ev.step (pc' := 1) (ls' := [some (.ref 633), some (.int lw), x2, x3, x4]) (st' := [.ref 633]) (M1 := M) 1 (fun n => rfl) ?_
  refine Ev.step 1 (gs_3 rfl rfl (gf_g rfl hM v22)) ?_
  refine Ev.step (pc' := (if f22 = 0 then 151 else 7)) (ls' := [some (.ref 633), some (.int lw), x2, x3, x4]) (st' := []) (M1 := M) 1 (fun n => rfl) ?_
  exact hz
theorem rd_7 {e : Nat} {M : Mem} {M' : Mem} {v : Option Value} {lw : Int32} {x2 x3 x4 : Option Value}  (hz : Ev none (e + 5) 169 9 [some (.ref 633), some (.int lw), x2, x3, x4] [.int lw, .ref 633] M v M' 0 0) : Ev none (e + 5) 169 7 [some (.ref 633), some (.int lw), x2, x3, x4] [] M v M' 0 0 := by
  refine Ev.step (pc' := 9) (ls' := [some (.ref 633), some (.int lw), x2, x3, x4]) (st' := [.int lw, .ref 633]) (M1 := M) 2 (fun n => rfl) ?_
  exact hz
theorem rd_12 {e : Nat} {M : Mem} {M' : Mem} {v : Option Value} {kd lw : Int32} {x2 x3 x4 : Option Value}  (hz : Ev none (e + 5) 169 (if 0 ≤ kd then 23 else 17) [some (.ref 633), some (.int lw), some (.int kd), x3, x4] [] M v M' 0 0) : Ev none (e + 5) 169 12 [some (.ref 633), some (.int lw), x2, x3, x4] [.int kd] M v M' 0 0 := by
  refine Ev.step (pc' := (if 0 ≤ kd then 23 else 17)) (ls' := [some (.ref 633), some (.int lw), some (.int kd), x3, x4]) (st' := []) (M1 := M) 3 (fun n => rfl) ?_
  exact hz
theorem rd_17 {e : Nat} {M : Mem} {M' : Mem} {v : Option Value} {kd lw : Int32} {x3 x4 : Option Value}  (hz : Ev none (e + 5) 169 19 [some (.ref 633), some (.int lw), some (.int kd), x3, x4] [.int 1, .ref 633] M v M' 0 0) : Ev none (e + 5) 169 17 [some (.ref 633), some (.int lw), some (.int kd), x3, x4] [] M v M' 0 0 := by
  refine Ev.step (pc' := 19) (ls' := [some (.ref 633), some (.int lw), some (.int kd), x3, x4]) (st' := [.int 1, .ref 633]) (M1 := M) 2 (fun n => rfl) ?_
  exact hz
theorem rd_22 {e : Nat} {M : Mem} {kd lw : Int32} {x3 x4 : Option Value}  : Ev none (e + 5) 169 22 [some (.ref 633), some (.int lw), some (.int kd), x3, x4] [.int 0] M (some (.int 0)) M 0 0 := by
  exact Ev.ret (fun n => rfl)
theorem rd_23 {e : Nat} {M : Mem} {M' : Mem} {v : Option Value} {kd lw : Int32} {x3 x4 : Option Value}  (hz : Ev none (e + 5) 169 26 [some (.ref 633), some (.int lw), some (.int kd), x3, x4] [.int 4, .int 2, .int kd] M v M' 0 0) : Ev none (e + 5) 169 23 [some (.ref 633), some (.int lw), some (.int kd), x3, x4] [] M v M' 0 0 := by
  refine Ev.step (pc' := 26) (ls' := [some (.ref 633), some (.int lw), some (.int kd), x3, x4]) (st' := [.int 4, .int 2, .int kd]) (M1 := M) 3 (fun n => rfl) ?_
  exact hz
theorem rd_29 {e : Nat} {M : Mem} {M' : Mem} {v : Option Value} {kd lw y : Int32} {x3 x4 : Option Value}  (hz : Ev none (e + 5) 169 (if y = 0 then 32 else 38) [some (.ref 633), some (.int lw), some (.int kd), x3, x4] [] M v M' 0 0) : Ev none (e + 5) 169 29 [some (.ref 633), some (.int lw), some (.int kd), x3, x4] [.int y] M v M' 0 0 := by
  refine Ev.step (pc' := (if y = 0 then 32 else 38)) (ls' := [some (.ref 633), some (.int lw), some (.int kd), x3, x4]) (st' := []) (M1 := M) 1 (fun n => rfl) ?_
  exact hz
theorem rd_32 {e : Nat} {M : Mem} {M' : Mem} {v : Option Value} {kd lw : Int32} {x3 x4 : Option Value}  (hz : Ev none (e + 5) 169 (if kd = 7 then 38 else 52) [some (.ref 633), some (.int lw), some (.int kd), x3, x4] [] M v M' 0 0) : Ev none (e + 5) 169 32 [some (.ref 633), some (.int lw), some (.int kd), x3, x4] [] M v M' 0 0 := by
  refine Ev.step (pc' := (if kd = 7 then 38 else 52)) (ls' := [some (.ref 633), some (.int lw), some (.int kd), x3, x4]) (st' := []) (M1 := M) 3 (fun n => rfl) ?_
  exact hz
theorem rd_38 {e : Nat} {M : Mem} {M' : Mem} {v : Option Value} {kd lw : Int32} {x3 x4 : Option Value}  (hz : Ev none (e + 5) 169 42 [some (.ref 633), some (.int lw), some (.int kd), x3, x4] [.int kd, .int 7, .ref 633] M v M' 0 0) : Ev none (e + 5) 169 38 [some (.ref 633), some (.int lw), some (.int kd), x3, x4] [] M v M' 0 0 := by
  refine Ev.step (pc' := 42) (ls' := [some (.ref 633), some (.int lw), some (.int kd), x3, x4]) (st' := [.int kd, .int 7, .ref 633]) (M1 := M) 3 (fun n => rfl) ?_
  exact hz
theorem rd_45 {e : Nat} {M : Mem} {M' : Mem} {v : Option Value} {kd lw y : Int32} {x3 x4 : Option Value}  (hz : Ev none (e + 5) 169 (if y < 0 then 52 else 48) [some (.ref 633), some (.int lw), some (.int kd), x3, x4] [] M v M' 0 0) : Ev none (e + 5) 169 45 [some (.ref 633), some (.int lw), some (.int kd), x3, x4] [.int y] M v M' 0 0 := by
  refine Ev.step (pc' := (if y < 0 then 52 else 48)) (ls' := [some (.ref 633), some (.int lw), some (.int kd), x3, x4]) (st' := []) (M1 := M) 1 (fun n => rfl) ?_
  exact hz
theorem rd_48 {e : Nat} {M : Mem} {M' : Mem} {v : Option Value} {kd lw : Int32} {x3 x4 : Option Value}  (hz : Ev none (e + 5) 169 70 [some (.ref 633), some (.int lw), some (.int kd), some (.int 1), x4] [] M v M' 0 0) : Ev none (e + 5) 169 48 [some (.ref 633), some (.int lw), some (.int kd), x3, x4] [] M v M' 0 0 := by
  refine Ev.step (pc' := 70) (ls' := [some (.ref 633), some (.int lw), some (.int kd), some (.int 1), x4]) (st' := []) (M1 := M) 5 (fun n => rfl) ?_
  exact hz
theorem rd_52 {e : Nat} {M : Mem} {M' : Mem} {v : Option Value} {kd lw : Int32} {x3 x4 : Option Value}  (hz : Ev none (e + 5) 169 58 [some (.ref 633), some (.int lw), some (.int kd), some (.int 0), x4] [] M v M' 0 0) : Ev none (e + 5) 169 52 [some (.ref 633), some (.int lw), some (.int kd), x3, x4] [] M v M' 0 0 := by
  refine Ev.step (pc' := 58) (ls' := [some (.ref 633), some (.int lw), some (.int kd), some (.int 0), x4]) (st' := []) (M1 := M) 4 (fun n => rfl) ?_
  exact hz
theorem rd_58 {e : Nat} {M : Mem} {M' : Mem} {v : Option Value} {vs : List Value} {kd lw y1 : Int32} {l639 : List Int32} {x3 x4 : Option Value} (hM : gNth M 633 = some (.inr (11, vs))) (v9 : gNth vs 9 = some (.ref 639)) (r639 : gNth M 639 = some (.inl (1, .inl l639))) (g1 : gAt l639 7 = some y1) (hz : Ev none (e + 5) 169 (if y1 = 16 then 70 else 76) [some (.ref 633), some (.int lw), some (.int kd), x3, x4] [] M v M' 0 0) : Ev none (e + 5) 169 58 [some (.ref 633), some (.int lw), some (.int kd), x3, x4] [] M v M' 0 0 := by
  refine Ev.step (pc' := 59) (ls' := [some (.ref 633), some (.int lw), some (.int kd), x3, x4]) (st' := [.ref 633]) (M1 := M) 1 (fun n => rfl) ?_
  refine Ev.step 1 (gs_3 rfl rfl (gf_g rfl hM v9)) ?_
  refine Ev.step (pc' := 64) (ls' := [some (.ref 633), some (.int lw), some (.int kd), x3, x4]) (st' := [.int 7, .ref 639]) (M1 := M) 1 (fun n => rfl) ?_
  refine Ev.step 1 (gs_3 rfl rfl (ia_g r639 g1)) ?_
  refine Ev.step (pc' := (if y1 = 16 then 70 else 76)) (ls' := [some (.ref 633), some (.int lw), some (.int kd), x3, x4]) (st' := []) (M1 := M) 2 (fun n => rfl) ?_
  exact hz
theorem rd_70 {e : Nat} {M : Mem} {M' : Mem} {v : Option Value} {kd lw : Int32} {x3 x4 : Option Value}  (hz : Ev none (e + 5) 169 72 [some (.ref 633), some (.int lw), some (.int kd), x3, x4] [.int 3, .ref 633] M v M' 0 0) : Ev none (e + 5) 169 70 [some (.ref 633), some (.int lw), some (.int kd), x3, x4] [] M v M' 0 0 := by
  refine Ev.step (pc' := 72) (ls' := [some (.ref 633), some (.int lw), some (.int kd), x3, x4]) (st' := [.int 3, .ref 633]) (M1 := M) 2 (fun n => rfl) ?_
  exact hz
theorem rd_75 {e : Nat} {M : Mem} {kd lw : Int32} {x3 x4 : Option Value}  : Ev none (e + 5) 169 75 [some (.ref 633), some (.int lw), some (.int kd), x3, x4] [.int 0] M (some (.int 0)) M 0 0 := by
  exact Ev.ret (fun n => rfl)
theorem rd_76 {e : Nat} {M : Mem} {M' : Mem} {v : Option Value} {vs : List Value} {kd lw tw y1 : Int32} {l639 : List Int32} {x4 : Option Value} (hM : gNth M 633 = some (.inr (11, vs))) (v9 : gNth vs 9 = some (.ref 639)) (r639 : gNth M 639 = some (.inl (1, .inl l639))) (g1 : gAt l639 7 = some y1) (hz : Ev none (e + 5) 169 89 [some (.ref 633), some (.int lw), some (.int kd), some (.int tw), some (.int (112 + y1))] [.ref 633] M v M' 0 0) : Ev none (e + 5) 169 76 [some (.ref 633), some (.int lw), some (.int kd), some (.int tw), x4] [] M v M' 0 0 := by
  refine Ev.step (pc' := 79) (ls' := [some (.ref 633), some (.int lw), some (.int kd), some (.int tw), x4]) (st' := [.ref 633, .int 112]) (M1 := M) 2 (fun n => rfl) ?_
  refine Ev.step 1 (gs_3 rfl rfl (gf_g rfl hM v9)) ?_
  refine Ev.step (pc' := 84) (ls' := [some (.ref 633), some (.int lw), some (.int kd), some (.int tw), x4]) (st' := [.int 7, .ref 639, .int 112]) (M1 := M) 1 (fun n => rfl) ?_
  refine Ev.step 1 (gs_3 rfl rfl (ia_g r639 g1)) ?_
  refine Ev.step (pc' := 89) (ls' := [some (.ref 633), some (.int lw), some (.int kd), some (.int tw), some (.int (112 + y1))]) (st' := [.ref 633]) (M1 := M) 3 (fun n => rfl) ?_
  exact hz
theorem rd_92 {e : Nat} {M : Mem} {M' : Mem} {v : Option Value} {vs : List Value} {kd lw x y1 : Int32} {l640 : List Int32} {x3 : Option Value} (hM : gNth M 633 = some (.inr (11, vs))) (v10 : gNth vs 10 = some (.ref 640)) (r640 : gNth M 640 = some (.inl (1, .inl l640))) (g1 : gAt l640 x = some y1) (hz : Ev none (e + 5) 169 100 [some (.ref 633), some (.int lw), some (.int kd), x3, some (.int x)] [] (gPut M 640 (.inl (1, .inl (gPut l640 x.toNatClampNeg kd)))) v M' 0 0) : Ev none (e + 5) 169 92 [some (.ref 633), some (.int lw), some (.int kd), x3, some (.int x)] [] M v M' 0 0 := by
  refine Ev.step (pc' := 93) (ls' := [some (.ref 633), some (.int lw), some (.int kd), x3, some (.int x)]) (st' := [.ref 633]) (M1 := M) 1 (fun n => rfl) ?_
  refine Ev.step 1 (gs_3 rfl rfl (gf_g rfl hM v10)) ?_
  refine Ev.step (pc' := 99) (ls' := [some (.ref 633), some (.int lw), some (.int kd), x3, some (.int x)]) (st' := [.int kd, .int x, .ref 640]) (M1 := M) 2 (fun n => rfl) ?_
  refine Ev.step 1 (gs_4 rfl rfl (is_g r640 g1)) ?_
  exact hz
theorem rd_100 {e : Nat} {M : Mem} {M' : Mem} {v : Option Value} {vs : List Value} {kd lw x y1 : Int32} {l641 : List Int32} {x3 : Option Value} (hM : gNth M 633 = some (.inr (11, vs))) (v11 : gNth vs 11 = some (.ref 641)) (r641 : gNth M 641 = some (.inl (1, .inl l641))) (g1 : gAt l641 x = some y1) (hz : Ev none (e + 5) 169 108 [some (.ref 633), some (.int lw), some (.int kd), x3, some (.int x)] [] (gPut M 641 (.inl (1, .inl (gPut l641 x.toNatClampNeg 0)))) v M' 0 0) : Ev none (e + 5) 169 100 [some (.ref 633), some (.int lw), some (.int kd), x3, some (.int x)] [] M v M' 0 0 := by
  refine Ev.step (pc' := 101) (ls' := [some (.ref 633), some (.int lw), some (.int kd), x3, some (.int x)]) (st' := [.ref 633]) (M1 := M) 1 (fun n => rfl) ?_
  refine Ev.step 1 (gs_3 rfl rfl (gf_g rfl hM v11)) ?_
  refine Ev.step (pc' := 107) (ls' := [some (.ref 633), some (.int lw), some (.int kd), x3, some (.int x)]) (st' := [.int 0, .int x, .ref 641]) (M1 := M) 2 (fun n => rfl) ?_
  refine Ev.step 1 (gs_4 rfl rfl (is_g r641 g1)) ?_
  exact hz
theorem rd_108 {e : Nat} {M : Mem} {M' : Mem} {v : Option Value} {vs : List Value} {kd lw x y1 : Int32} {l642 : List Int32} {x3 : Option Value} (hM : gNth M 633 = some (.inr (11, vs))) (v12 : gNth vs 12 = some (.ref 642)) (r642 : gNth M 642 = some (.inl (1, .inl l642))) (g1 : gAt l642 x = some y1) (hz : Ev none (e + 5) 169 116 [some (.ref 633), some (.int lw), some (.int kd), x3, some (.int x)] [] (gPut M 642 (.inl (1, .inl (gPut l642 x.toNatClampNeg 0)))) v M' 0 0) : Ev none (e + 5) 169 108 [some (.ref 633), some (.int lw), some (.int kd), x3, some (.int x)] [] M v M' 0 0 := by
  refine Ev.step (pc' := 109) (ls' := [some (.ref 633), some (.int lw), some (.int kd), x3, some (.int x)]) (st' := [.ref 633]) (M1 := M) 1 (fun n => rfl) ?_
  refine Ev.step 1 (gs_3 rfl rfl (gf_g rfl hM v12)) ?_
  refine Ev.step (pc' := 115) (ls' := [some (.ref 633), some (.int lw), some (.int kd), x3, some (.int x)]) (st' := [.int 0, .int x, .ref 642]) (M1 := M) 2 (fun n => rfl) ?_
  refine Ev.step 1 (gs_4 rfl rfl (is_g r642 g1)) ?_
  exact hz
theorem rd_116 {e : Nat} {M : Mem} {M' : Mem} {v : Option Value} {kd lw x : Int32} {x3 : Option Value}  (hz : Ev none (e + 5) 169 120 [some (.ref 633), some (.int lw), some (.int kd), x3, some (.int x)] [.int kd, .int x, .ref 633] M v M' 0 0) : Ev none (e + 5) 169 116 [some (.ref 633), some (.int lw), some (.int kd), x3, some (.int x)] [] M v M' 0 0 := by
  refine Ev.step (pc' := 120) (ls' := [some (.ref 633), some (.int lw), some (.int kd), x3, some (.int x)]) (st' := [.int kd, .int x, .ref 633]) (M1 := M) 3 (fun n => rfl) ?_
  exact hz
theorem rd_123 {e : Nat} {M : Mem} {M' : Mem} {v : Option Value} {kd lw x y : Int32} {x3 : Option Value}  (hz : Ev none (e + 5) 169 (if y = 0 then 135 else 126) [some (.ref 633), some (.int lw), some (.int kd), x3, some (.int x)] [] M v M' 0 0) : Ev none (e + 5) 169 123 [some (.ref 633), some (.int lw), some (.int kd), x3, some (.int x)] [.int y] M v M' 0 0 := by
  refine Ev.step (pc' := (if y = 0 then 135 else 126)) (ls' := [some (.ref 633), some (.int lw), some (.int kd), x3, some (.int x)]) (st' := []) (M1 := M) 1 (fun n => rfl) ?_
  exact hz
theorem rd_126 {e : Nat} {M : Mem} {M' : Mem} {v : Option Value} {kd lw x : Int32} {x3 : Option Value}  (hz : Ev none (e + 5) 169 129 [some (.ref 633), some (.int lw), some (.int kd), x3, some (.int x)] [.int 59, .ref 633] M v M' 0 0) : Ev none (e + 5) 169 126 [some (.ref 633), some (.int lw), some (.int kd), x3, some (.int x)] [] M v M' 0 0 := by
  refine Ev.step (pc' := 129) (ls' := [some (.ref 633), some (.int lw), some (.int kd), x3, some (.int x)]) (st' := [.int 59, .ref 633]) (M1 := M) 2 (fun n => rfl) ?_
  exact hz
theorem rd_132 {e : Nat} {M : Mem} {M' : Mem} {v : Option Value} {kd lw x y : Int32} {x3 : Option Value}  (hz : Ev none (e + 5) 169 (if y = 0 then 135 else 137) [some (.ref 633), some (.int lw), some (.int kd), x3, some (.int x)] [] M v M' 0 0) : Ev none (e + 5) 169 132 [some (.ref 633), some (.int lw), some (.int kd), x3, some (.int x)] [.int y] M v M' 0 0 := by
  refine Ev.step (pc' := (if y = 0 then 135 else 137)) (ls' := [some (.ref 633), some (.int lw), some (.int kd), x3, some (.int x)]) (st' := []) (M1 := M) 1 (fun n => rfl) ?_
  exact hz
theorem rd_135 {e : Nat} {M : Mem} {kd lw x : Int32} {x3 : Option Value}  : Ev none (e + 5) 169 135 [some (.ref 633), some (.int lw), some (.int kd), x3, some (.int x)] [] M (some (.int 0)) M 0 0 := by
  refine Ev.step (pc' := 136) (ls' := [some (.ref 633), some (.int lw), some (.int kd), x3, some (.int x)]) (st' := [.int 0]) (M1 := M) 1 (fun n => rfl) ?_
  exact Ev.ret (fun n => rfl)
theorem rd_137 {e : Nat} {M : Mem} {M' : Mem} {v : Option Value} {vs : List Value} {kd lw x y1 : Int32} {l639 : List Int32} {x3 : Option Value} (hM : gNth M 633 = some (.inr (11, vs))) (v9 : gNth vs 9 = some (.ref 639)) (r639 : gNth M 639 = some (.inl (1, .inl l639))) (g1 : gAt l639 7 = some y1) (hz : Ev none (e + 5) 169 0 [some (.ref 633), some (.int lw), some (.int kd), x3, some (.int x)] [] (gPut M 639 (.inl (1, .inl (gPut l639 (7 : Int32).toNatClampNeg (y1 + 1))))) v M' 0 0) : Ev none (e + 5) 169 137 [some (.ref 633), some (.int lw), some (.int kd), x3, some (.int x)] [] M v M' 0 0 := by
  refine Ev.step (pc' := 138) (ls' := [some (.ref 633), some (.int lw), some (.int kd), x3, some (.int x)]) (st' := [.ref 633]) (M1 := M) 1 (fun n => rfl) ?_
  refine Ev.step 1 (gs_3 rfl rfl (gf_g rfl hM v9)) ?_
  refine Ev.step (pc' := 144) (ls' := [some (.ref 633), some (.int lw), some (.int kd), x3, some (.int x)]) (st' := [.int 7, .ref 639, .int 7, .ref 639]) (M1 := M) 2 (fun n => rfl) ?_
  refine Ev.step 1 (gs_3 rfl rfl (ia_g r639 g1)) ?_
  refine Ev.step (pc' := 147) (ls' := [some (.ref 633), some (.int lw), some (.int kd), x3, some (.int x)]) (st' := [.int (y1 + 1), .int 7, .ref 639]) (M1 := M) 2 (fun n => rfl) ?_
  refine Ev.step 1 (gs_4 rfl rfl (is_g r639 g1)) ?_
  refine Ev.step (pc' := 0) (ls' := [some (.ref 633), some (.int lw), some (.int kd), x3, some (.int x)]) (st' := []) (M1 := (gPut M 639 (.inl (1, .inl (gPut l639 (7 : Int32).toNatClampNeg (y1 + 1)))))) 1 (fun n => rfl) ?_
  exact hz
theorem rd_151 {e : Nat} {M : Mem} {lw : Int32} {x2 x3 x4 : Option Value}  : Ev none (e + 5) 169 151 [some (.ref 633), some (.int lw), x2, x3, x4] [] M (some (.int 1)) M 0 0 := by
  refine Ev.step (pc' := 152) (ls' := [some (.ref 633), some (.int lw), x2, x3, x4]) (st' := [.int 1]) (M1 := M) 1 (fun n => rfl) ?_
  exact Ev.ret (fun n => rfl)
theorem cal_lo {M : Mem} {vs : List Value} {a0 : Int32} {rest : List Value} (hM : gNth M 633 = some (.inr (11, vs))) (hr : gRoom rest = true) : gCal (.invokevirtual 223) 11 (.int a0 :: .ref 633 :: rest) M = some (.inr (168, [some (.ref 633), some (.int a0)], rest)) := by
  show @cond (Option ((List Value × Mem) ⊕ (Nat × Lo × List Value))) (true && gRecv M (.ref 633) 11 && gRoom rest && true) (some (.inr (168, [some (.ref 633), some (.int a0)], rest))) none = _
  rw [recv_ok hM, hr]
  rfl
theorem cal_fi {M : Mem} {vs : List Value} {a0 a1 : Int32} {rest : List Value} (hM : gNth M 633 = some (.inr (11, vs))) (hr : gRoom rest = true) : gCal (.invokevirtual 227) 11 (.int a1 :: .int a0 :: .ref 633 :: rest) M = some (.inr (172, [some (.ref 633), some (.int a0), some (.int a1), none], rest)) := by
  show @cond (Option ((List Value × Mem) ⊕ (Nat × Lo × List Value))) (true && gRecv M (.ref 633) 11 && gRoom rest && true) (some (.inr (172, [some (.ref 633), some (.int a0), some (.int a1), none], rest))) none = _
  rw [recv_ok hM, hr]
  rfl
theorem cal_li {M : Mem} {vs : List Value} {a0 a1 : Int32} {rest : List Value} (hM : gNth M 633 = some (.inr (11, vs))) (hr : gRoom rest = true) : gCal (.invokevirtual 230) 11 (.int a1 :: .int a0 :: .ref 633 :: rest) M = some (.inr (170, [some (.ref 633), some (.int a0), some (.int a1), none], rest)) := by
  show @cond (Option ((List Value × Mem) ⊕ (Nat × Lo × List Value))) (true && gRecv M (.ref 633) 11 && gRoom rest && true) (some (.inr (170, [some (.ref 633), some (.int a0), some (.int a1), none], rest))) none = _
  rw [recv_ok hM, hr]
  rfl
theorem cal_sn {M : Mem} {vs : List Value} {a0 : Int32} {rest : List Value} (hM : gNth M 633 = some (.inr (11, vs))) (hr : gRoom rest = true) : gCal (.invokevirtual 234) 11 (.int a0 :: .ref 633 :: rest) M = some (.inr (166, [some (.ref 633), some (.int a0)], rest)) := by
  show @cond (Option ((List Value × Mem) ⊕ (Nat × Lo × List Value))) (true && gRecv M (.ref 633) 11 && gRoom rest && true) (some (.inr (166, [some (.ref 633), some (.int a0)], rest))) none = _
  rw [recv_ok hM, hr]
  rfl
set_option maxRecDepth 100000 in
theorem rw_68 : rwB 68 1 128 (-2147483648) 2147483647 = true := by decide +kernel
set_option maxRecDepth 100000 in
theorem rw_67 : rwB 67 1 8 0 16 = true := by decide +kernel
set_option maxRecDepth 100000 in
theorem mfR : (mfB 9 67 && mfB 10 68) = true := by decide +kernel
set_option maxRecDepth 100000 in
theorem sUR : gNth sU 67 = some (some 639) ∧ gNth sU 68 = some (some 640) := by refine ⟨?_, ?_⟩ <;> decide +kernel
set_option maxRecDepth 100000 in
theorem sT_640 : gNth sT 640 = some 68 := by decide +kernel
set_option maxRecDepth 100000 in
theorem mRr : (gNth mRs 168).map (fun q => q.2.2.2.1) = some 2 ∧ (gNth mRs 172).map (fun q => q.2.2.2.1) = some 4 ∧ (gNth mRs 166).map (fun q => q.2.2.2.1) = some 2 := by refine ⟨?_, ?_, ?_⟩ <;> decide +kernel
noncomputable def lmB : Bool := match gNth sG 67 with
  | some (.inr (1, 8, .inl sg)) => (List.range 8).all (fun j => match sgAt sg j with
    | some p => decide (p.1 ≤ 0) && decide (16 ≤ p.2)
    | _ => false)
  | _ => false
set_option maxRecDepth 100000 in
theorem lmB_ok : lmB = true := by decide +kernel
/-- lineMany is written -/
theorem lm_put {M : Mem} (hT : TM sT sG M) {l : List Int32} (hM : gNth M 639 = some (.inl (1, .inl l))) (i : Nat) {y : Int32} (h0 : 0 ≤ y.toInt) (h1 : y.toInt ≤ 16) : TM sT sG (gPut M 639 (.inl (1, .inl (gPut l i y)))) := by
  obtain ⟨l2, q1, q2, q3⟩ := hT.mrow sT_639 rw_67
  cases q1.symm.trans hM
  have hB := lmB_ok
  unfold lmB at hB
  split at hB
  rotate_left
  · cases hB
  rename_i sg e
  refine hT.put (fun g2 t w1 w2 => ?_)
  rw [sT_639] at w1
  cases w1
  rw [e] at w2
  cases w2
  refine ct_mk (by decide) (by rw [put_len]; exact q2) (fun j x hj => ?_)
  have hj2 := gNth_lt _ _ _ hj
  rw [put_len, q2] at hj2
  have hx : 0 ≤ x.toInt ∧ x.toInt ≤ 16 := by
    rw [nth_put] at hj
    split at hj
    · cases hj
      exact ⟨h0, h1⟩
    · exact q3 j x hj
  have h4 := List.all_eq_true.mp hB j (List.mem_range.mpr hj2)
  cases hp : sgAt sg j with
  | none => rw [hp] at h4; cases h4
  | some p =>
    rw [hp] at h4
    obtain ⟨h5, h6⟩ := and_t h4
    have h5 := of_decide_eq_true h5
    have h6 := of_decide_eq_true h6
    exact ⟨p, rfl, by omega, by omega⟩
/-- all that reading a text may write -/
def mdR : Md := [(11, 4), (11, 19), (11, 20), (11, 21), (11, 22), (11, 23), (11, 24), (11, 25), (11, 26), (11, 27), (11, 31), (11, 32), (1067, 0), (1068, 0), (1069, 0), (1070, 0), (1071, 0), (1072, 0), (1073, 0), (1074, 0), (1075, 0), (1076, 0)]
def RdQ (q0 : List Int32 × List Int32 × List Int32 × List Int32) (M0 : Mem) (v : Option Value) (M' : Mem) : Prop := ∃ r : Int32, v = some (.int r) ∧ TM sT sG M' ∧ Frm sT mdR M0 M' ∧ ((r = 0 ∧ ITX q0 M') ∨ (r = 1 ∧ ∃ n N, WW q0 n N M' ∧ N.toInt = (n : Int) ∧ n ≤ 16))
section READ
variable {q0 : List Int32 × List Int32 × List Int32 × List Int32} {M0 : Mem} {e : Nat}
theorem rd_bad {M : Mem} {n pc : Nat} {N : Int32} {lo : Lo} {st : List Value} (h : WW q0 n N M) (hF : Frm sT mdR M0 M) (k : Int32) (hz : ∀ M', Ev none (e + 4) 163 0 [some (.ref 633), some (.int k)] [] M (some (.int 0)) M' 0 0 → Ev none (e + 5) 169 pc lo st M (some (.int 0)) M' 0 0) : RF (RdQ q0 M0) [] (e + 5) 169 pc lo st M := by
  obtain ⟨M', h1, h2, h3⟩ := un_bad (e := e + 4) (k := k) h.obj.1
  exact ⟨some (.int 0), M', hz M' h1, 0, rfl, h2, hF.trans (h3.more (by decide)), Or.inl ⟨rfl, h.itx.frm h3 (by decide)⟩⟩
theorem rd_loop {lw : Int32} : ∀ (k n : Nat) (N : Int32) (M : Mem) (x2 x3 x4 : Option Value), WW q0 n N M → N.toInt = (n : Int) → n ≤ 16 → 17 ≤ n + k → Frm sT mdR M0 M → RF (RdQ q0 M0) [] (e + 5) 169 0 [some (.ref 633), some (.int lw), x2, x3, x4] [] M := by
  intro k
  induction k with
  | zero => intro n N M x2 x3 x4 h hN hn hk; omega
  | succ k ih =>
    intro n N M x2 x3 x4 h hN hn hk hF
    obtain ⟨hT, vs, hM⟩ := h.obj
    obtain ⟨vs9, tk, hM9, _, g22, _⟩ := hT.fint fB_22
    cases hM.symm.trans hM9
    refine RF.pre (fun v M' hz => rd_0 hM g22 hz) ?_
    by_cases ht : tk = 0
    · rw [if_pos ht]
      exact ⟨some (.int 1), M, rd_151, 1, rfl, hT, hF, Or.inr ⟨rfl, n, N, h, hN, hn⟩⟩
    rw [if_neg ht]
    obtain ⟨v, M2, q1, T2, F2, s, hs, q2⟩ := use_cn (d := e + 4) (ws := [.ref 633, .int lw]) kX11_lineOf_ok mRr.1 rfl rfl (Nat.zero_le _) (Two.mk rfl (Two.mk ⟨lw, rfl, i32_any lw⟩ trivial)) hT
    cases List.mem_singleton.mp hs
    cases pure_ok F2
    cases v with
    | none => exact q2.elim
    | some w =>
    obtain ⟨kd, rfl, _⟩ := q2
    refine RF.pre (fun v M' hz => rd_7 (Ev.call0 (fun n => gs_7 rfl rfl (cal_lo hM rfl)) q1 (rd_12 hz))) ?_
    by_cases hk0 : ¬ 0 ≤ kd
    · rw [if_neg hk0]
      exact rd_bad h hF 1 (fun M' hb => rd_17 (Ev.call0 (fun n => gs_7 rfl rfl (cal_bd hM rfl)) hb rd_22))
    have hk0 := Decidable.not_not.mp hk0
    rw [if_pos hk0]
    obtain ⟨vs9, hM9, hv⟩ := hT.mfld
    cases hM.symm.trans hM9
    have h9 := hv _ _ _ (and_t mfR).1 sUR.1
    have g58 : RF (RdQ q0 M0) [] (e + 5) 169 58 [some (.ref 633), some (.int lw), some (.int kd), some (.int 0), x4] [] M := by
      obtain ⟨s, o, S, P, O, ls, lp, lm, lf, lt, _, hc, h1, h2, h3, hr, h7, hl, hi⟩ := id h
      have g7 : gAt lm 7 = some N := by rw [at_nn (kn := 7) rfl]; exact h7
      refine RF.pre (fun v M' hz => rd_58 hM h9 hr.1 g7 hz) ?_
      by_cases h16 : N = 16
      · rw [if_pos h16]
        exact rd_bad h hF 3 (fun M' hb => rd_70 (Ev.call0 (fun n => gs_7 rfl rfl (cal_bd hM rfl)) hb rd_75))
      rw [if_neg h16]
      have n15 : n ≤ 15 := by
        rcases Nat.lt_or_ge n 16 with h9 | h9
        · omega
        · exact absurd (Int32.toInt_inj.mp (show N.toInt = (16 : Int32).toInt from by show N.toInt = 16; omega)) h16
      obtain ⟨x, ex⟩ : ∃ x, x = 112 + N := ⟨_, rfl⟩
      have hx : x.toInt = ((112 + n : Nat) : Int) := by
        have o : (112 : Int32).toInt = 112 := rfl
        rw [ex, i32_add (by rw [o]; omega) (by rw [o]; omega), o]
        omega
      obtain ⟨M1, x1, T1, F1⟩ := un_next (e := e + 3) hT
      have W1 := h.frm T1 F1 (by decide)
      obtain ⟨_, vs1, hM1⟩ := W1.obj
      refine RF.pre (fun v M' hz => rd_76 hM h9 hr.1 g7 (Ev.call0 (fun n => gs_7 rfl rfl (cal_nx hM rfl)) x1 hz)) ?_
      rw [← ex]
      obtain ⟨vs9, hM9, hv1⟩ := T1.mfld
      cases hM1.symm.trans hM9
      obtain ⟨la, a1, a2, _⟩ := T1.mrow sT_640 rw_68
      obtain ⟨ya, ya1, _⟩ := at_c (l := la) hx (by omega)
      have F2 : Frm sT [(1068, 0)] M1 (gPut M1 640 (.inl (1, .inl (gPut la (112 + n) kd)))) := Frm.row a1 sT_640 (by decide)
      have T2 := any_put T1 sT_640 a1 a2 (by decide +kernel) (112 + n) kd
      obtain ⟨M2, e2⟩ : ∃ M2, M2 = gPut M1 640 (.inl (1, .inl (gPut la (112 + n) kd))) := ⟨_, rfl⟩
      rw [← e2] at F2 T2
      have W2 := W1.frm T2 F2 (by decide)
      have hM2 : gNth M2 633 = some (.inr (11, vs1)) := by rw [e2, nth_put, if_neg (fun q => absurd q.1 (by decide))]; exact hM1
      obtain ⟨lb, b1, b2, _⟩ := T2.mrow sTL.1 (and_t rwL).1
      obtain ⟨yb, yb1, _⟩ := at_c (l := lb) hx (by omega)
      have F3 : Frm sT [(1069, 0)] M2 (gPut M2 641 (.inl (1, .inl (gPut lb (112 + n) 0)))) := Frm.row b1 sTL.1 (by decide)
      have T3 := any_put T2 sTL.1 b1 b2 (by decide +kernel) (112 + n) 0
      obtain ⟨M3, e3⟩ : ∃ M3, M3 = gPut M2 641 (.inl (1, .inl (gPut lb (112 + n) 0))) := ⟨_, rfl⟩
      rw [← e3] at F3 T3
      have W3 := W2.frm T3 F3 (by decide)
      have hM3 : gNth M3 633 = some (.inr (11, vs1)) := by rw [e3, nth_put, if_neg (fun q => absurd q.1 (by decide))]; exact hM2
      obtain ⟨lc, c1, c2, _⟩ := T3.mrow sTL.2 (and_t rwL).2
      obtain ⟨yc, yc1, _⟩ := at_c (l := lc) hx (by omega)
      have F4 : Frm sT [(1070, 0)] M3 (gPut M3 642 (.inl (1, .inl (gPut lc (112 + n) 0)))) := Frm.row c1 sTL.2 (by decide)
      have T4 := any_put T3 sTL.2 c1 c2 (by decide +kernel) (112 + n) 0
      obtain ⟨M4, e4⟩ : ∃ M4, M4 = gPut M3 642 (.inl (1, .inl (gPut lc (112 + n) 0))) := ⟨_, rfl⟩
      rw [← e4] at F4 T4
      have W4 := W3.frm T4 F4 (by decide)
      have hM4 : gNth M4 633 = some (.inr (11, vs1)) := by rw [e4, nth_put, if_neg (fun q => absurd q.1 (by decide))]; exact hM3
      have h10 := hv1 _ _ _ (and_t mfR).2 sUR.2
      have h11 := hv1 _ _ _ (and_t (and_t (and_t mfL).1).1).1 sUL.1
      have h12 := hv1 _ _ _ (and_t (and_t (and_t mfL).1).1).2 sUL.2.1
      have F04 : Frm sT mdR M0 M4 := (((hF.trans (F1.more (by decide))).trans (F2.more (by decide))).trans (F3.more (by decide))).trans (F4.more (by decide))
      obtain ⟨v, M5, q5, r, rfl, T5, F5, hr5⟩ := ev_line1 (e := e) (kd := kd) (x3 := none) hx n15 W4
      have F05 : Frm sT mdR M0 M5 := F04.trans (F5.more (by decide))
      refine RF.pre (fun v M' hz => rd_92 hM1 h10 a1 ya1 (by rw [cl_n hx, ← e2]; exact rd_100 hM2 h11 b1 yb1 (by rw [cl_n hx, ← e3]; exact rd_108 hM3 h12 c1 yc1 (by rw [cl_n hx, ← e4]; exact rd_116 (Ev.call0 (fun n => gs_7 rfl rfl (cal_li hM4 rfl)) q5 (rd_123 hz)))))) ?_
      rcases hr5 with ⟨rfl, hi5⟩ | ⟨rfl, W5⟩
      · rw [if_pos rfl]
        exact ⟨some (.int 0), M5, rd_135, 0, rfl, T5, F05, Or.inl ⟨rfl, hi5⟩⟩
      rw [if_neg (by decide)]
      obtain ⟨_, vs5, hM5⟩ := W5.obj
      obtain ⟨v, M6, q6, T6, F6, s6, hs6, q7⟩ := use_cn (d := e + 4) (ws := [.ref 633, .int 59]) kX11_sign_ok mRr.2.2 rfl rfl (Nat.le_add_left 2 (e + 2)) (Two.mk rfl (Two.mk ⟨59, rfl, i32_any 59⟩ trivial)) T5
      cases List.mem_singleton.mp hs6
      cases v with
      | none => exact q7.elim
      | some w =>
      obtain ⟨y, rfl, _⟩ := q7
      have W6 := W5.frm T6 F6 (by decide)
      have F06 : Frm sT mdR M0 M6 := F05.trans (F6.more (by decide))
      refine RF.pre (fun v M' hz => rd_126 (Ev.call0 (fun n => gs_7 rfl rfl (cal_sn hM5 rfl)) q6 (rd_132 hz))) ?_
      by_cases hy : y = 0
      · rw [if_pos hy]
        exact ⟨some (.int 0), M6, rd_135, 0, rfl, T6, F06, Or.inl ⟨rfl, W6.itx⟩⟩
      rw [if_neg hy]
      obtain ⟨s, o, S, P, O, ls, lp, lm, lf, lt, _, hc, h1, h2, h3, hr, h7, hl, hi⟩ := id W6
      obtain ⟨vs6, hM6, v19, v20, v21, r645, r648⟩ := id hc
      obtain ⟨vs9, hM9, hv6⟩ := T6.mfld
      cases hM6.symm.trans hM9
      have h9b := hv6 _ _ _ (and_t mfR).1 sUR.1
      have g7 : gAt lm 7 = some N := by rw [at_nn (kn := 7) rfl]; exact h7
      obtain ⟨N2, eN2⟩ : ∃ N2, N2 = N + 1 := ⟨_, rfl⟩
      have dN2 : N2.toInt = N.toInt + 1 := by rw [eN2]; exact i32_p1 (by omega)
      obtain ⟨r639, r643, r644⟩ := hr
      have T7 := lm_put T6 r639 7 (y := N2) (by omega) (by omega)
      obtain ⟨M7, e7⟩ : ∃ M7, M7 = gPut M6 639 (.inl (1, .inl (gPut lm 7 N2))) := ⟨_, rfl⟩
      rw [← e7] at T7
      have n7 : ∀ c, c ≠ 639 → gNth M7 c = gNth M6 c := fun c hc => by rw [e7, nth_put, if_neg (fun q => hc q.1)]
      have F7 : Frm sT mdR M6 M7 := by rw [e7]; exact Frm.row r639 sT_639 (by decide)
      have hlm := gNth_lt _ _ _ h7
      refine RF.pre (fun v M' hz => rd_137 hM6 h9b r639 g7 (by rw [cl_n (kn := 7) rfl, ← eN2, ← e7]; exact hz)) ?_
      refine ih (n + 1) N2 M7 _ _ _ ⟨s, o, S, P, O, ls, lp, gPut lm 7 N2, lf, lt, T7, ⟨vs6, by rw [n7 633 (by decide)]; exact hM6, v19, v20, v21, by rw [n7 645 (by decide)]; exact r645, by rw [n7 648 (by decide)]; exact r648⟩, h1, h2, h3, ⟨by rw [e7, nth_put, if_pos ⟨rfl, gNth_lt _ _ _ r639⟩], by rw [n7 643 (by decide)]; exact r643, by rw [n7 644 (by decide)]; exact r644⟩, by rw [nth_put, if_pos ⟨rfl, hlm⟩], hl, fun i hi2 => by rw [nth_put, if_neg (by omega)]; exact hi.1 i hi2, hi.2⟩ (by omega) (by omega) (by omega) (F06.trans F7)
    have g70 : ∀ x3 : Option Value, RF (RdQ q0 M0) [] (e + 5) 169 70 [some (.ref 633), some (.int lw), some (.int kd), x3, x4] [] M := fun x3 => rd_bad h hF 3 (fun M' hb => rd_70 (Ev.call0 (fun n => gs_7 rfl rfl (cal_bd hM rfl)) hb rd_75))
    have g52 : RF (RdQ q0 M0) [] (e + 5) 169 52 [some (.ref 633), some (.int lw), some (.int kd), x3, x4] [] M := RF.pre (fun v M' hz => rd_52 hz) g58
    have g38 : RF (RdQ q0 M0) [] (e + 5) 169 38 [some (.ref 633), some (.int lw), some (.int kd), x3, x4] [] M := by
      obtain ⟨v, M2, q1, T2, F2, s, hs, q2⟩ := use_cn (d := e + 4) (ws := [.ref 633, .int 7, .int kd]) kX11_find_ok mRr.2.1 rfl rfl (Nat.zero_le _) (Two.mk rfl (Two.mk ⟨7, rfl, by decide, by decide⟩ (Two.mk ⟨kd, rfl, i32_any kd⟩ trivial))) hT
      cases List.mem_singleton.mp hs
      cases pure_ok F2
      cases v with
      | none => exact q2.elim
      | some w =>
      obtain ⟨y, rfl, _⟩ := q2
      refine RF.pre (fun v M' hz => rd_38 (Ev.call0 (fun n => gs_7 rfl rfl (cal_fi hM rfl)) q1 (rd_45 hz))) ?_
      by_cases hy : y < 0
      · rw [if_pos hy]; exact g52
      · rw [if_neg hy]
        exact RF.pre (fun v M' hz => rd_48 hz) (g70 _)
    refine RF.pre (fun v M' hz => rd_23 (Ev.call0 (fun n => rfl) ev_isin (rd_29 hz))) ?_
    obtain ⟨y, ey⟩ : ∃ y : Int32, y = if kd < 2 then 0 else if 4 < kd then 0 else 1 := ⟨_, rfl⟩
    rw [← ey]
    by_cases hy : y = 0
    · rw [if_pos hy]
      refine RF.pre (fun v M' hz => rd_32 hz) ?_
      by_cases h7 : kd = 7
      · rw [if_pos h7]; exact g38
      · rw [if_neg h7]; exact g52
    · rw [if_neg hy]; exact g38
end READ
/-! BY HAND: reading texts, the reference: the copies of a text -/
theorem tx_0 {e : Nat} {M : Mem} {M' : Mem} {v : Option Value} {vs : List Value} {lw to : Int32} {x3 x4 x5 : Option Value} (hM : gNth M 633 = some (.inr (11, vs))) (hlen : vs.length = 63) (hz : Ev none (e + 6) 181 5 [some (.ref 633), some (.int to), some (.int lw), x3, x4, x5] [] (gPut M 633 (.inr (11, gPut vs 26 (.int 0)))) v M' 0 0) : Ev none (e + 6) 181 0 [some (.ref 633), some (.int to), some (.int lw), x3, x4, x5] [] M v M' 0 0 := by
  refine Ev.step (pc' := 2) (ls' := [some (.ref 633), some (.int to), some (.int lw), x3, x4, x5]) (st' := [.int 0, .ref 633]) (M1 := M) 2 (fun n => rfl) ?_
  refine Ev.step 1 (gs_4 rfl rfl (pf_i rfl hM (by rw [hlen]; decide) rfl rfl)) ?_
  exact hz
theorem tx_5 {e : Nat} {M : Mem} {M' : Mem} {v : Option Value} {vs : List Value} {lw to y1 : Int32} {l639 : List Int32} {x3 x4 x5 : Option Value} (hM : gNth M 633 = some (.inr (11, vs))) (v9 : gNth vs 9 = some (.ref 639)) (r639 : gNth M 639 = some (.inl (1, .inl l639))) (g1 : gAt l639 7 = some y1) (hz : Ev none (e + 6) 181 13 [some (.ref 633), some (.int to), some (.int lw), x3, x4, x5] [] (gPut M 639 (.inl (1, .inl (gPut l639 (7 : Int32).toNatClampNeg 0)))) v M' 0 0) : Ev none (e + 6) 181 5 [some (.ref 633), some (.int to), some (.int lw), x3, x4, x5] [] M v M' 0 0 := by
  refine Ev.step (pc' := 6) (ls' := [some (.ref 633), some (.int to), some (.int lw), x3, x4, x5]) (st' := [.ref 633]) (M1 := M) 1 (fun n => rfl) ?_
  refine Ev.step 1 (gs_3 rfl rfl (gf_g rfl hM v9)) ?_
  refine Ev.step (pc' := 12) (ls' := [some (.ref 633), some (.int to), some (.int lw), x3, x4, x5]) (st' := [.int 0, .int 7, .ref 639]) (M1 := M) 2 (fun n => rfl) ?_
  refine Ev.step 1 (gs_4 rfl rfl (is_g r639 g1)) ?_
  exact hz
theorem tx_13 {e : Nat} {M : Mem} {M' : Mem} {v : Option Value} {vs : List Value} {lw to : Int32} {x3 x4 x5 : Option Value} (hM : gNth M 633 = some (.inr (11, vs))) (hlen : vs.length = 63) (hz : Ev none (e + 6) 181 18 [some (.ref 633), some (.int to), some (.int lw), x3, x4, x5] [] (gPut M 633 (.inr (11, gPut vs 19 (.int 0)))) v M' 0 0) : Ev none (e + 6) 181 13 [some (.ref 633), some (.int to), some (.int lw), x3, x4, x5] [] M v M' 0 0 := by
  refine Ev.step (pc' := 15) (ls' := [some (.ref 633), some (.int to), some (.int lw), x3, x4, x5]) (st' := [.int 0, .ref 633]) (M1 := M) 2 (fun n => rfl) ?_
  refine Ev.step 1 (gs_4 rfl rfl (pf_i rfl hM (by rw [hlen]; decide) rfl rfl)) ?_
  exact hz
theorem tx_18 {e : Nat} {M : Mem} {M' : Mem} {v : Option Value} {vs : List Value} {lw to : Int32} {x3 x4 x5 : Option Value} (hM : gNth M 633 = some (.inr (11, vs))) (hlen : vs.length = 63) (hz : Ev none (e + 6) 181 23 [some (.ref 633), some (.int to), some (.int lw), x3, x4, x5] [] (gPut M 633 (.inr (11, gPut vs 21 (.int 0)))) v M' 0 0) : Ev none (e + 6) 181 18 [some (.ref 633), some (.int to), some (.int lw), x3, x4, x5] [] M v M' 0 0 := by
  refine Ev.step (pc' := 20) (ls' := [some (.ref 633), some (.int to), some (.int lw), x3, x4, x5]) (st' := [.int 0, .ref 633]) (M1 := M) 2 (fun n => rfl) ?_
  refine Ev.step 1 (gs_4 rfl rfl (pf_i rfl hM (by rw [hlen]; decide) rfl rfl)) ?_
  exact hz
theorem tx_23 {e : Nat} {M : Mem} {M' : Mem} {v : Option Value} {lw to : Int32} {x3 x4 x5 : Option Value}  (hz : Ev none (e + 6) 181 24 [some (.ref 633), some (.int to), some (.int lw), x3, x4, x5] [.ref 633] M v M' 0 0) : Ev none (e + 6) 181 23 [some (.ref 633), some (.int to), some (.int lw), x3, x4, x5] [] M v M' 0 0 := by
  refine Ev.step (pc' := 24) (ls' := [some (.ref 633), some (.int to), some (.int lw), x3, x4, x5]) (st' := [.ref 633]) (M1 := M) 1 (fun n => rfl) ?_
  exact hz
theorem tx_27 {e : Nat} {M : Mem} {M' : Mem} {v : Option Value} {lw to : Int32} {x3 x4 x5 : Option Value}  (hz : Ev none (e + 6) 181 29 [some (.ref 633), some (.int to), some (.int lw), x3, x4, x5] [.int lw, .ref 633] M v M' 0 0) : Ev none (e + 6) 181 27 [some (.ref 633), some (.int to), some (.int lw), x3, x4, x5] [] M v M' 0 0 := by
  refine Ev.step (pc' := 29) (ls' := [some (.ref 633), some (.int to), some (.int lw), x3, x4, x5]) (st' := [.int lw, .ref 633]) (M1 := M) 2 (fun n => rfl) ?_
  exact hz
theorem tx_32 {e : Nat} {M : Mem} {M' : Mem} {v : Option Value} {lw to y : Int32} {x3 x4 x5 : Option Value}  (hz : Ev none (e + 6) 181 (if y = 0 then 35 else 42) [some (.ref 633), some (.int to), some (.int lw), x3, x4, x5] [] M v M' 0 0) : Ev none (e + 6) 181 32 [some (.ref 633), some (.int to), some (.int lw), x3, x4, x5] [.int y] M v M' 0 0 := by
  refine Ev.step (pc' := (if y = 0 then 35 else 42)) (ls' := [some (.ref 633), some (.int to), some (.int lw), x3, x4, x5]) (st' := []) (M1 := M) 1 (fun n => rfl) ?_
  exact hz
theorem tx_35 {e : Nat} {M : Mem} {vs : List Value} {f27 lw to mm : Int32} {x3 x4 x5 : Option Value} (hmm : mm = -1) (hM : gNth M 633 = some (.inr (11, vs))) (v27 : gNth vs 27 = some (.int f27)) : Ev none (e + 6) 181 35 [some (.ref 633), some (.int to), some (.int lw), x3, x4, x5] [] M (some (.int (mm - f27))) M 0 0 := by
  refine Ev.step (pc' := 37) (ls' := [some (.ref 633), some (.int to), some (.int lw), x3, x4, x5]) (st' := [.ref 633, .int mm]) (M1 := M) 2 (fun n => by rw [hmm]; rfl) ?_
  refine Ev.step 1 (gs_3 rfl rfl (gf_g rfl hM v27)) ?_
  refine Ev.step (pc' := 41) (ls' := [some (.ref 633), some (.int to), some (.int lw), x3, x4, x5]) (st' := [.int (mm - f27)]) (M1 := M) 1 (fun n => rfl) ?_
  exact Ev.ret (fun n => rfl)
theorem tx_42 {e : Nat} {M : Mem} {M' : Mem} {v : Option Value} {vs : List Value} {lw to y1 y2 : Int32} {l639 : List Int32} {x3 x4 x5 : Option Value} (hM : gNth M 633 = some (.inr (11, vs))) (v9 : gNth vs 9 = some (.ref 639)) (r639 : gNth M 639 = some (.inl (1, .inl l639))) (g1 : gAt l639 7 = some y1) (g2 : gAt l639 to = some y2) (hz : Ev none (e + 6) 181 57 [some (.ref 633), some (.int to), some (.int lw), some (.int 0), x4, x5] [] (gPut M 639 (.inl (1, .inl (gPut l639 to.toNatClampNeg y1)))) v M' 0 0) : Ev none (e + 6) 181 42 [some (.ref 633), some (.int to), some (.int lw), x3, x4, x5] [] M v M' 0 0 := by
  refine Ev.step (pc' := 43) (ls' := [some (.ref 633), some (.int to), some (.int lw), x3, x4, x5]) (st' := [.ref 633]) (M1 := M) 1 (fun n => rfl) ?_
  refine Ev.step 1 (gs_3 rfl rfl (gf_g rfl hM v9)) ?_
  refine Ev.step (pc' := 48) (ls' := [some (.ref 633), some (.int to), some (.int lw), x3, x4, x5]) (st' := [.ref 633, .int to, .ref 639]) (M1 := M) 2 (fun n => rfl) ?_
  refine Ev.step 1 (gs_3 rfl rfl (gf_g rfl hM v9)) ?_
  refine Ev.step (pc' := 53) (ls' := [some (.ref 633), some (.int to), some (.int lw), x3, x4, x5]) (st' := [.int 7, .ref 639, .int to, .ref 639]) (M1 := M) 1 (fun n => rfl) ?_
  refine Ev.step 1 (gs_3 rfl rfl (ia_g r639 g1)) ?_
  refine Ev.step 1 (gs_4 rfl rfl (is_g r639 g2)) ?_
  refine Ev.step (pc' := 57) (ls' := [some (.ref 633), some (.int to), some (.int lw), some (.int 0), x4, x5]) (st' := []) (M1 := (gPut M 639 (.inl (1, .inl (gPut l639 to.toNatClampNeg y1))))) 2 (fun n => rfl) ?_
  exact hz
theorem tx_57 {e : Nat} {M : Mem} {M' : Mem} {v : Option Value} {k lw to : Int32} {x4 x5 : Option Value}  (hz : Ev none (e + 6) 181 (if 16 ≤ k then 153 else 63) [some (.ref 633), some (.int to), some (.int lw), some (.int k), x4, x5] [] M v M' 0 0) : Ev none (e + 6) 181 57 [some (.ref 633), some (.int to), some (.int lw), some (.int k), x4, x5] [] M v M' 0 0 := by
  refine Ev.step (pc' := (if 16 ≤ k then 153 else 63)) (ls' := [some (.ref 633), some (.int to), some (.int lw), some (.int k), x4, x5]) (st' := []) (M1 := M) 3 (fun n => rfl) ?_
  exact hz
theorem tx_63 {e : Nat} {M : Mem} {M' : Mem} {v : Option Value} {vs : List Value} {k lw to y1 y2 : Int32} {l640 : List Int32} {x4 x5 : Option Value} (hM : gNth M 633 = some (.inr (11, vs))) (v10 : gNth vs 10 = some (.ref 640)) (r640 : gNth M 640 = some (.inl (1, .inl l640))) (g1 : gAt l640 (112 + k) = some y1) (g2 : gAt l640 ((16 * to) + k) = some y2) (hz : Ev none (e + 6) 181 91 [some (.ref 633), some (.int to), some (.int lw), some (.int k), some (.int (112 + k)), some (.int ((16 * to) + k))] [] (gPut M 640 (.inl (1, .inl (gPut l640 ((16 * to) + k).toNatClampNeg y1)))) v M' 0 0) : Ev none (e + 6) 181 63 [some (.ref 633), some (.int to), some (.int lw), some (.int k), x4, x5] [] M v M' 0 0 := by
  refine Ev.step (pc' := 78) (ls' := [some (.ref 633), some (.int to), some (.int lw), some (.int k), some (.int (112 + k)), some (.int ((16 * to) + k))]) (st' := [.ref 633]) (M1 := M) 11 (fun n => rfl) ?_
  refine Ev.step 1 (gs_3 rfl rfl (gf_g rfl hM v10)) ?_
  refine Ev.step (pc' := 84) (ls' := [some (.ref 633), some (.int to), some (.int lw), some (.int k), some (.int (112 + k)), some (.int ((16 * to) + k))]) (st' := [.ref 633, .int ((16 * to) + k), .ref 640]) (M1 := M) 2 (fun n => rfl) ?_
  refine Ev.step 1 (gs_3 rfl rfl (gf_g rfl hM v10)) ?_
  refine Ev.step (pc' := 89) (ls' := [some (.ref 633), some (.int to), some (.int lw), some (.int k), some (.int (112 + k)), some (.int ((16 * to) + k))]) (st' := [.int (112 + k), .ref 640, .int ((16 * to) + k), .ref 640]) (M1 := M) 1 (fun n => rfl) ?_
  refine Ev.step 1 (gs_3 rfl rfl (ia_g r640 g1)) ?_
  refine Ev.step 1 (gs_4 rfl rfl (is_g r640 g2)) ?_
  exact hz
theorem tx_91 {e : Nat} {M : Mem} {M' : Mem} {v : Option Value} {vs : List Value} {a b k lw to y1 y2 : Int32} {l641 : List Int32} (hM : gNth M 633 = some (.inr (11, vs))) (v11 : gNth vs 11 = some (.ref 641)) (r641 : gNth M 641 = some (.inl (1, .inl l641))) (g1 : gAt l641 a = some y1) (g2 : gAt l641 b = some y2) (hz : Ev none (e + 6) 181 105 [some (.ref 633), some (.int to), some (.int lw), some (.int k), some (.int a), some (.int b)] [] (gPut M 641 (.inl (1, .inl (gPut l641 b.toNatClampNeg y1)))) v M' 0 0) : Ev none (e + 6) 181 91 [some (.ref 633), some (.int to), some (.int lw), some (.int k), some (.int a), some (.int b)] [] M v M' 0 0 := by
  refine Ev.step (pc' := 92) (ls' := [some (.ref 633), some (.int to), some (.int lw), some (.int k), some (.int a), some (.int b)]) (st' := [.ref 633]) (M1 := M) 1 (fun n => rfl) ?_
  refine Ev.step 1 (gs_3 rfl rfl (gf_g rfl hM v11)) ?_
  refine Ev.step (pc' := 98) (ls' := [some (.ref 633), some (.int to), some (.int lw), some (.int k), some (.int a), some (.int b)]) (st' := [.ref 633, .int b, .ref 641]) (M1 := M) 2 (fun n => rfl) ?_
  refine Ev.step 1 (gs_3 rfl rfl (gf_g rfl hM v11)) ?_
  refine Ev.step (pc' := 103) (ls' := [some (.ref 633), some (.int to), some (.int lw), some (.int k), some (.int a), some (.int b)]) (st' := [.int a, .ref 641, .int b, .ref 641]) (M1 := M) 1 (fun n => rfl) ?_
  refine Ev.step 1 (gs_3 rfl rfl (ia_g r641 g1)) ?_
  refine Ev.step 1 (gs_4 rfl rfl (is_g r641 g2)) ?_
  exact hz
theorem tx_105 {e : Nat} {M : Mem} {M' : Mem} {v : Option Value} {vs : List Value} {a b k lw to y1 y2 : Int32} {l642 : List Int32} (hM : gNth M 633 = some (.inr (11, vs))) (v12 : gNth vs 12 = some (.ref 642)) (r642 : gNth M 642 = some (.inl (1, .inl l642))) (g1 : gAt l642 a = some y1) (g2 : gAt l642 b = some y2) (hz : Ev none (e + 6) 181 119 [some (.ref 633), some (.int to), some (.int lw), some (.int k), some (.int a), some (.int b)] [] (gPut M 642 (.inl (1, .inl (gPut l642 b.toNatClampNeg y1)))) v M' 0 0) : Ev none (e + 6) 181 105 [some (.ref 633), some (.int to), some (.int lw), some (.int k), some (.int a), some (.int b)] [] M v M' 0 0 := by
  refine Ev.step (pc' := 106) (ls' := [some (.ref 633), some (.int to), some (.int lw), some (.int k), some (.int a), some (.int b)]) (st' := [.ref 633]) (M1 := M) 1 (fun n => rfl) ?_
  refine Ev.step 1 (gs_3 rfl rfl (gf_g rfl hM v12)) ?_
  refine Ev.step (pc' := 112) (ls' := [some (.ref 633), some (.int to), some (.int lw), some (.int k), some (.int a), some (.int b)]) (st' := [.ref 633, .int b, .ref 642]) (M1 := M) 2 (fun n => rfl) ?_
  refine Ev.step 1 (gs_3 rfl rfl (gf_g rfl hM v12)) ?_
  refine Ev.step (pc' := 117) (ls' := [some (.ref 633), some (.int to), some (.int lw), some (.int k), some (.int a), some (.int b)]) (st' := [.int a, .ref 642, .int b, .ref 642]) (M1 := M) 1 (fun n => rfl) ?_
  refine Ev.step 1 (gs_3 rfl rfl (ia_g r642 g1)) ?_
  refine Ev.step 1 (gs_4 rfl rfl (is_g r642 g2)) ?_
  exact hz
theorem tx_119 {e : Nat} {M : Mem} {M' : Mem} {v : Option Value} {vs : List Value} {a b k lw to y1 y2 : Int32} {l643 : List Int32} (hM : gNth M 633 = some (.inr (11, vs))) (v13 : gNth vs 13 = some (.ref 643)) (r643 : gNth M 643 = some (.inl (1, .inl l643))) (g1 : gAt l643 a = some y1) (g2 : gAt l643 b = some y2) (hz : Ev none (e + 6) 181 133 [some (.ref 633), some (.int to), some (.int lw), some (.int k), some (.int a), some (.int b)] [] (gPut M 643 (.inl (1, .inl (gPut l643 b.toNatClampNeg y1)))) v M' 0 0) : Ev none (e + 6) 181 119 [some (.ref 633), some (.int to), some (.int lw), some (.int k), some (.int a), some (.int b)] [] M v M' 0 0 := by
  refine Ev.step (pc' := 120) (ls' := [some (.ref 633), some (.int to), some (.int lw), some (.int k), some (.int a), some (.int b)]) (st' := [.ref 633]) (M1 := M) 1 (fun n => rfl) ?_
  refine Ev.step 1 (gs_3 rfl rfl (gf_g rfl hM v13)) ?_
  refine Ev.step (pc' := 126) (ls' := [some (.ref 633), some (.int to), some (.int lw), some (.int k), some (.int a), some (.int b)]) (st' := [.ref 633, .int b, .ref 643]) (M1 := M) 2 (fun n => rfl) ?_
  refine Ev.step 1 (gs_3 rfl rfl (gf_g rfl hM v13)) ?_
  refine Ev.step (pc' := 131) (ls' := [some (.ref 633), some (.int to), some (.int lw), some (.int k), some (.int a), some (.int b)]) (st' := [.int a, .ref 643, .int b, .ref 643]) (M1 := M) 1 (fun n => rfl) ?_
  refine Ev.step 1 (gs_3 rfl rfl (ia_g r643 g1)) ?_
  refine Ev.step 1 (gs_4 rfl rfl (is_g r643 g2)) ?_
  exact hz
theorem tx_133 {e : Nat} {M : Mem} {M' : Mem} {v : Option Value} {vs : List Value} {a b k lw to y1 y2 : Int32} {l644 : List Int32} (hM : gNth M 633 = some (.inr (11, vs))) (v14 : gNth vs 14 = some (.ref 644)) (r644 : gNth M 644 = some (.inl (1, .inl l644))) (g1 : gAt l644 a = some y1) (g2 : gAt l644 b = some y2) (hz : Ev none (e + 6) 181 57 [some (.ref 633), some (.int to), some (.int lw), some (.int (k + 1)), some (.int a), some (.int b)] [] (gPut M 644 (.inl (1, .inl (gPut l644 b.toNatClampNeg y1)))) v M' 0 0) : Ev none (e + 6) 181 133 [some (.ref 633), some (.int to), some (.int lw), some (.int k), some (.int a), some (.int b)] [] M v M' 0 0 := by
  refine Ev.step (pc' := 134) (ls' := [some (.ref 633), some (.int to), some (.int lw), some (.int k), some (.int a), some (.int b)]) (st' := [.ref 633]) (M1 := M) 1 (fun n => rfl) ?_
  refine Ev.step 1 (gs_3 rfl rfl (gf_g rfl hM v14)) ?_
  refine Ev.step (pc' := 140) (ls' := [some (.ref 633), some (.int to), some (.int lw), some (.int k), some (.int a), some (.int b)]) (st' := [.ref 633, .int b, .ref 644]) (M1 := M) 2 (fun n => rfl) ?_
  refine Ev.step 1 (gs_3 rfl rfl (gf_g rfl hM v14)) ?_
  refine Ev.step (pc' := 145) (ls' := [some (.ref 633), some (.int to), some (.int lw), some (.int k), some (.int a), some (.int b)]) (st' := [.int a, .ref 644, .int b, .ref 644]) (M1 := M) 1 (fun n => rfl) ?_
  refine Ev.step 1 (gs_3 rfl rfl (ia_g r644 g1)) ?_
  refine Ev.step 1 (gs_4 rfl rfl (is_g r644 g2)) ?_
  refine Ev.step (pc' := 57) (ls' := [some (.ref 633), some (.int to), some (.int lw), some (.int (k + 1)), some (.int a), some (.int b)]) (st' := []) (M1 := (gPut M 644 (.inl (1, .inl (gPut l644 b.toNatClampNeg y1))))) 2 (fun n => rfl) ?_
  exact hz
theorem tx_153 {e : Nat} {M : Mem} {M' : Mem} {v : Option Value} {k lw to : Int32} {x4 x5 : Option Value}  (hz : Ev none (e + 6) 181 155 [some (.ref 633), some (.int to), some (.int lw), some (.int 0), x4, x5] [] M v M' 0 0) : Ev none (e + 6) 181 153 [some (.ref 633), some (.int to), some (.int lw), some (.int k), x4, x5] [] M v M' 0 0 := by
  refine Ev.step (pc' := 155) (ls' := [some (.ref 633), some (.int to), some (.int lw), some (.int 0), x4, x5]) (st' := []) (M1 := M) 2 (fun n => rfl) ?_
  exact hz
theorem tx_155 {e : Nat} {M : Mem} {M' : Mem} {v : Option Value} {k lw to : Int32} {x4 x5 : Option Value}  (hz : Ev none (e + 6) 181 (if 200 ≤ k then 234 else 162) [some (.ref 633), some (.int to), some (.int lw), some (.int k), x4, x5] [] M v M' 0 0) : Ev none (e + 6) 181 155 [some (.ref 633), some (.int to), some (.int lw), some (.int k), x4, x5] [] M v M' 0 0 := by
  refine Ev.step (pc' := (if 200 ≤ k then 234 else 162)) (ls' := [some (.ref 633), some (.int to), some (.int lw), some (.int k), x4, x5]) (st' := []) (M1 := M) 3 (fun n => rfl) ?_
  exact hz
theorem tx_162 {e : Nat} {M : Mem} {M' : Mem} {v : Option Value} {vs : List Value} {k lw to y1 y2 : Int32} {l645 : List Int32} {x4 x5 : Option Value} (hM : gNth M 633 = some (.inr (11, vs))) (v15 : gNth vs 15 = some (.ref 645)) (r645 : gNth M 645 = some (.inl (1, .inl l645))) (g1 : gAt l645 (1400 + k) = some y1) (g2 : gAt l645 ((200 * to) + k) = some y2) (hz : Ev none (e + 6) 181 184 [some (.ref 633), some (.int to), some (.int lw), some (.int k), x4, x5] [] (gPut M 645 (.inl (1, .inl (gPut l645 ((200 * to) + k).toNatClampNeg y1)))) v M' 0 0) : Ev none (e + 6) 181 162 [some (.ref 633), some (.int to), some (.int lw), some (.int k), x4, x5] [] M v M' 0 0 := by
  refine Ev.step (pc' := 163) (ls' := [some (.ref 633), some (.int to), some (.int lw), some (.int k), x4, x5]) (st' := [.ref 633]) (M1 := M) 1 (fun n => rfl) ?_
  refine Ev.step 1 (gs_3 rfl rfl (gf_g rfl hM v15)) ?_
  refine Ev.step (pc' := 174) (ls' := [some (.ref 633), some (.int to), some (.int lw), some (.int k), x4, x5]) (st' := [.ref 633, .int ((200 * to) + k), .ref 645]) (M1 := M) 6 (fun n => rfl) ?_
  refine Ev.step 1 (gs_3 rfl rfl (gf_g rfl hM v15)) ?_
  refine Ev.step (pc' := 182) (ls' := [some (.ref 633), some (.int to), some (.int lw), some (.int k), x4, x5]) (st' := [.int (1400 + k), .ref 645, .int ((200 * to) + k), .ref 645]) (M1 := M) 3 (fun n => rfl) ?_
  refine Ev.step 1 (gs_3 rfl rfl (ia_g r645 g1)) ?_
  refine Ev.step 1 (gs_4 rfl rfl (is_g r645 g2)) ?_
  exact hz
theorem tx_184 {e : Nat} {M : Mem} {M' : Mem} {v : Option Value} {vs : List Value} {k lw to y1 y2 : Int32} {l646 : List Int32} {x4 x5 : Option Value} (hM : gNth M 633 = some (.inr (11, vs))) (v16 : gNth vs 16 = some (.ref 646)) (r646 : gNth M 646 = some (.inl (1, .inl l646))) (g1 : gAt l646 (1400 + k) = some y1) (g2 : gAt l646 ((200 * to) + k) = some y2) (hz : Ev none (e + 6) 181 206 [some (.ref 633), some (.int to), some (.int lw), some (.int k), x4, x5] [] (gPut M 646 (.inl (1, .inl (gPut l646 ((200 * to) + k).toNatClampNeg y1)))) v M' 0 0) : Ev none (e + 6) 181 184 [some (.ref 633), some (.int to), some (.int lw), some (.int k), x4, x5] [] M v M' 0 0 := by
  refine Ev.step (pc' := 185) (ls' := [some (.ref 633), some (.int to), some (.int lw), some (.int k), x4, x5]) (st' := [.ref 633]) (M1 := M) 1 (fun n => rfl) ?_
  refine Ev.step 1 (gs_3 rfl rfl (gf_g rfl hM v16)) ?_
  refine Ev.step (pc' := 196) (ls' := [some (.ref 633), some (.int to), some (.int lw), some (.int k), x4, x5]) (st' := [.ref 633, .int ((200 * to) + k), .ref 646]) (M1 := M) 6 (fun n => rfl) ?_
  refine Ev.step 1 (gs_3 rfl rfl (gf_g rfl hM v16)) ?_
  refine Ev.step (pc' := 204) (ls' := [some (.ref 633), some (.int to), some (.int lw), some (.int k), x4, x5]) (st' := [.int (1400 + k), .ref 646, .int ((200 * to) + k), .ref 646]) (M1 := M) 3 (fun n => rfl) ?_
  refine Ev.step 1 (gs_3 rfl rfl (ia_g r646 g1)) ?_
  refine Ev.step 1 (gs_4 rfl rfl (is_g r646 g2)) ?_
  exact hz
theorem tx_206 {e : Nat} {M : Mem} {M' : Mem} {v : Option Value} {vs : List Value} {k lw to y1 y2 : Int32} {l647 : List Int32} {x4 x5 : Option Value} (hM : gNth M 633 = some (.inr (11, vs))) (v17 : gNth vs 17 = some (.ref 647)) (r647 : gNth M 647 = some (.inl (1, .inl l647))) (g1 : gAt l647 (1400 + k) = some y1) (g2 : gAt l647 ((200 * to) + k) = some y2) (hz : Ev none (e + 6) 181 155 [some (.ref 633), some (.int to), some (.int lw), some (.int (k + 1)), x4, x5] [] (gPut M 647 (.inl (1, .inl (gPut l647 ((200 * to) + k).toNatClampNeg y1)))) v M' 0 0) : Ev none (e + 6) 181 206 [some (.ref 633), some (.int to), some (.int lw), some (.int k), x4, x5] [] M v M' 0 0 := by
  refine Ev.step (pc' := 207) (ls' := [some (.ref 633), some (.int to), some (.int lw), some (.int k), x4, x5]) (st' := [.ref 633]) (M1 := M) 1 (fun n => rfl) ?_
  refine Ev.step 1 (gs_3 rfl rfl (gf_g rfl hM v17)) ?_
  refine Ev.step (pc' := 218) (ls' := [some (.ref 633), some (.int to), some (.int lw), some (.int k), x4, x5]) (st' := [.ref 633, .int ((200 * to) + k), .ref 647]) (M1 := M) 6 (fun n => rfl) ?_
  refine Ev.step 1 (gs_3 rfl rfl (gf_g rfl hM v17)) ?_
  refine Ev.step (pc' := 226) (ls' := [some (.ref 633), some (.int to), some (.int lw), some (.int k), x4, x5]) (st' := [.int (1400 + k), .ref 647, .int ((200 * to) + k), .ref 647]) (M1 := M) 3 (fun n => rfl) ?_
  refine Ev.step 1 (gs_3 rfl rfl (ia_g r647 g1)) ?_
  refine Ev.step 1 (gs_4 rfl rfl (is_g r647 g2)) ?_
  refine Ev.step (pc' := 155) (ls' := [some (.ref 633), some (.int to), some (.int lw), some (.int (k + 1)), x4, x5]) (st' := []) (M1 := (gPut M 647 (.inl (1, .inl (gPut l647 ((200 * to) + k).toNatClampNeg y1))))) 2 (fun n => rfl) ?_
  exact hz
theorem tx_234 {e : Nat} {M : Mem} {vs : List Value} {k lw to y1 : Int32} {l639 : List Int32} {x4 x5 : Option Value} (hM : gNth M 633 = some (.inr (11, vs))) (v9 : gNth vs 9 = some (.ref 639)) (r639 : gNth M 639 = some (.inl (1, .inl l639))) (g1 : gAt l639 to = some y1) : Ev none (e + 6) 181 234 [some (.ref 633), some (.int to), some (.int lw), some (.int k), x4, x5] [] M (some (.int y1)) M 0 0 := by
  refine Ev.step (pc' := 235) (ls' := [some (.ref 633), some (.int to), some (.int lw), some (.int k), x4, x5]) (st' := [.ref 633]) (M1 := M) 1 (fun n => rfl) ?_
  refine Ev.step 1 (gs_3 rfl rfl (gf_g rfl hM v9)) ?_
  refine Ev.step (pc' := 239) (ls' := [some (.ref 633), some (.int to), some (.int lw), some (.int k), x4, x5]) (st' := [.int to, .ref 639]) (M1 := M) 1 (fun n => rfl) ?_
  refine Ev.step 1 (gs_3 rfl rfl (ia_g r639 g1)) ?_
  exact Ev.ret (fun n => rfl)
theorem cal_rd {M : Mem} {vs : List Value} {a0 : Int32} {rest : List Value} (hM : gNth M 633 = some (.inr (11, vs))) (hr : gRoom rest = true) : gCal (.invokevirtual 321) 11 (.int a0 :: .ref 633 :: rest) M = some (.inr (169, [some (.ref 633), some (.int a0), none, none, none], rest)) := by
  show @cond (Option ((List Value × Mem) ⊕ (Nat × Lo × List Value))) (true && gRecv M (.ref 633) 11 && gRoom rest && true) (some (.inr (169, [some (.ref 633), some (.int a0), none, none, none], rest))) none = _
  rw [recv_ok hM, hr]
  rfl
set_option maxRecDepth 100000 in
theorem fB_26b : fldB 26 (-2147483648) 2147483647 = true := by decide +kernel
set_option maxRecDepth 100000 in
theorem fB_27 : fldB 27 (-2147483648) 2147483647 = true := by decide +kernel
theorem okS.shift {l l2 : List Int32} : ∀ {m k k2 : Nat} {n : Int}, okS m l k n → (∀ i, i < m → gNth l2 (k2 + i) = gNth l (k + i)) → okS m l2 k2 n := by
  intro m
  induction m with
  | zero => intro k k2 n _ _; trivial
  | succ m ih =>
    intro k k2 n h he
    have he2 : ∀ i, i < m → gNth l2 (k2 + 1 + i) = gNth l (k + 1 + i) := fun i hi => by
      have := he (i + 1) (by omega)
      rw [show k2 + 1 + i = k2 + (i + 1) by omega, show k + 1 + i = k + (i + 1) by omega]
      exact this
    obtain ⟨w, h1, h2⟩ := h
    refine ⟨w, by have := he 0 (by omega); rw [Nat.add_zero, Nat.add_zero] at this; rw [this]; exact h1, ?_⟩
    rcases h2 with ⟨a, b, c⟩ | ⟨a, b, c, d⟩ | ⟨a, b, c, d, e⟩
    · exact Or.inl ⟨a, b, ih c he2⟩
    · exact Or.inr (Or.inl ⟨a, b, c, ih d he2⟩)
    · exact Or.inr (Or.inr ⟨a, b, c, d, ih e he2⟩)
theorem i32_mk {c to k : Int32} {cn tn kn : Nat} (hc : c.toInt = (cn : Int)) (ht : to.toInt = (tn : Int)) (hk : k.toInt = (kn : Int)) (h : cn * tn + kn ≤ 2000000000) : (c * to + k).toInt = ((cn * tn + kn : Nat) : Int) := by
  have e : c.toInt * to.toInt = ((cn * tn : Nat) : Int) := by rw [hc, ht, Int.natCast_mul]
  have d1 : (c * to).toInt = c.toInt * to.toInt := i32_mul (by rw [e]; omega) (by rw [e]; omega)
  rw [i32_add (by rw [d1, e]; omega) (by rw [d1, e]; omega), d1, e, hk]
  omega
section TEXT
variable {M0 : Mem} {e tn : Nat} {to lw : Int32} {lm lf lt ls : List Int32} {Q : Option Value → Mem → Prop}
def TXa (M0 : Mem) (tn : Nat) (lm lf lt ls : List Int32) (cn : Nat) (M : Mem) : Prop := TM sT sG M ∧ Frm sT mdR M0 M ∧ gNth M 639 = some (.inl (1, .inl lm)) ∧ gNth M 645 = some (.inl (1, .inl ls)) ∧ ∃ lf' lt', gNth M 643 = some (.inl (1, .inl lf')) ∧ gNth M 644 = some (.inl (1, .inl lt')) ∧ CpP lf' lf lf (16 * tn) 112 cn ∧ CpP lt' lt lt (16 * tn) 112 cn
def TXb (M0 : Mem) (tn : Nat) (lm lf lt ls : List Int32) (cn : Nat) (M : Mem) : Prop := TM sT sG M ∧ Frm sT mdR M0 M ∧ gNth M 639 = some (.inl (1, .inl lm)) ∧ gNth M 643 = some (.inl (1, .inl lf)) ∧ gNth M 644 = some (.inl (1, .inl lt)) ∧ ∃ ls', gNth M 645 = some (.inl (1, .inl ls')) ∧ CpP ls' ls ls (200 * tn) 1400 cn
theorem tx_l1 (hto : to.toInt = (tn : Int)) (ht6 : tn ≤ 6) (hE : ∀ M k x4 x5, TXa M0 tn lm lf lt ls 16 M → RF Q [] (e + 6) 181 153 [some (.ref 633), some (.int to), some (.int lw), some (.int k), x4, x5] [] M) : ∀ (j cn : Nat) (M : Mem) (k : Int32) (x4 x5 : Option Value), TXa M0 tn lm lf lt ls cn M → k.toInt = (cn : Int) → cn + j = 16 → RF Q [] (e + 6) 181 57 [some (.ref 633), some (.int to), some (.int lw), some (.int k), x4, x5] [] M := by
  intro j
  have o16 : (16 : Int32).toInt = ((16 : Nat) : Int) := rfl
  induction j with
  | zero =>
    intro cn M k x4 x5 h hk hj
    have hcn : cn = 16 := by omega
    subst hcn
    refine RF.pre (fun v M' hz => tx_57 hz) ?_
    rw [if_pos (by rw [Int32.le_iff_toInt_le, o16]; omega)]
    exact hE M k x4 x5 h
  | succ j ih =>
    intro cn M k x4 x5 h hk hj
    obtain ⟨hT, hF, r639, r645, lf', lt', r643, r644, cf, ct⟩ := h
    obtain ⟨vs, hM, hv⟩ := hT.mfld
    have h10 := hv _ _ _ (and_t mfR).2 sUR.2
    obtain ⟨q, m4⟩ := and_t mfL
    obtain ⟨q, m3⟩ := and_t q
    obtain ⟨m1, m2⟩ := and_t q
    have h11 := hv _ _ _ m1 sUL.1
    have h12 := hv _ _ _ m2 sUL.2.1
    have h13 := hv _ _ _ m3 sUL.2.2.1
    have h14 := hv _ _ _ m4 sUL.2.2.2
    have o112 : (112 : Int32).toInt = 112 := rfl
    obtain ⟨a, ea⟩ : ∃ a, a = 112 + k := ⟨_, rfl⟩
    have ha : a.toInt = ((112 + cn : Nat) : Int) := by
      rw [ea, i32_add (by rw [o112]; omega) (by rw [o112]; omega), o112]
      omega
    obtain ⟨b, eb⟩ : ∃ b, b = 16 * to + k := ⟨_, rfl⟩
    have hb : b.toInt = ((16 * tn + cn : Nat) : Int) := by rw [eb]; exact i32_mk o16 hto hk (by omega)
    obtain ⟨l0, a0, a1, _⟩ := hT.mrow sT_640 rw_68
    obtain ⟨y0, u0, _⟩ := at_c (l := l0) ha (by omega)
    obtain ⟨z0, w0, _⟩ := at_c (l := l0) hb (by omega)
    obtain ⟨M1, e1⟩ : ∃ M1, M1 = gPut M 640 (.inl (1, .inl (gPut l0 (16 * tn + cn) y0))) := ⟨_, rfl⟩
    have T1 : TM sT sG M1 := by rw [e1]; exact any_put hT sT_640 a0 a1 (by decide +kernel) _ _
    have F1 : Frm sT mdR M M1 := by rw [e1]; exact Frm.row a0 sT_640 (by decide)
    have n1 : ∀ c, c ≠ 640 → gNth M1 c = gNth M c := fun c hc => by rw [e1, nth_put, if_neg (fun q => hc q.1)]
    obtain ⟨l1, b0, b1, _⟩ := T1.mrow sTL.1 (and_t rwL).1
    obtain ⟨y1, u1, _⟩ := at_c (l := l1) ha (by omega)
    obtain ⟨z1, w1, _⟩ := at_c (l := l1) hb (by omega)
    obtain ⟨M2, e2⟩ : ∃ M2, M2 = gPut M1 641 (.inl (1, .inl (gPut l1 (16 * tn + cn) y1))) := ⟨_, rfl⟩
    have T2 : TM sT sG M2 := by rw [e2]; exact any_put T1 sTL.1 b0 b1 (by decide +kernel) _ _
    have F2 : Frm sT mdR M1 M2 := by rw [e2]; exact Frm.row b0 sTL.1 (by decide)
    have n2 : ∀ c, c ≠ 641 → gNth M2 c = gNth M1 c := fun c hc => by rw [e2, nth_put, if_neg (fun q => hc q.1)]
    obtain ⟨l2, c0, c1, _⟩ := T2.mrow sTL.2 (and_t rwL).2
    obtain ⟨y2, u2, _⟩ := at_c (l := l2) ha (by omega)
    obtain ⟨z2, w2, _⟩ := at_c (l := l2) hb (by omega)
    obtain ⟨M3, e3⟩ : ∃ M3, M3 = gPut M2 642 (.inl (1, .inl (gPut l2 (16 * tn + cn) y2))) := ⟨_, rfl⟩
    have T3 : TM sT sG M3 := by rw [e3]; exact any_put T2 sTL.2 c0 c1 (by decide +kernel) _ _
    have F3 : Frm sT mdR M2 M3 := by rw [e3]; exact Frm.row c0 sTL.2 (by decide)
    have n3 : ∀ c, c ≠ 642 → gNth M3 c = gNth M2 c := fun c hc => by rw [e3, nth_put, if_neg (fun q => hc q.1)]
    have r643c : gNth M3 643 = some (.inl (1, .inl lf')) := by rw [n3 643 (by decide), n2 643 (by decide), n1 643 (by decide)]; exact r643
    obtain ⟨l3, d0, d1, d2⟩ := T3.mrow sT_643 rw_71
    cases r643c.symm.trans d0
    obtain ⟨y3, u3, v3⟩ := at_c (l := lf') ha (by omega)
    obtain ⟨z3, w3, _⟩ := at_c (l := lf') hb (by omega)
    obtain ⟨M4, e4⟩ : ∃ M4, M4 = gPut M3 643 (.inl (1, .inl (gPut lf' (16 * tn + cn) y3))) := ⟨_, rfl⟩
    have T4 : TM sT sG M4 := by
      rw [e4]
      exact T3.putrow (n := 128) (lo := 0) (hi := 200) sT_643 (by decide +kernel) (by rw [put_len]; exact d1) (fun j z hj => by
        rw [nth_put] at hj
        split at hj
        · cases hj
          exact d2 _ _ v3
        · exact d2 j z hj)
    have F4 : Frm sT mdR M3 M4 := by rw [e4]; exact Frm.row r643c sT_643 (by decide)
    have n4 : ∀ c, c ≠ 643 → gNth M4 c = gNth M3 c := fun c hc => by rw [e4, nth_put, if_neg (fun q => hc q.1)]
    have r644d : gNth M4 644 = some (.inl (1, .inl lt')) := by rw [n4 644 (by decide), n3 644 (by decide), n2 644 (by decide), n1 644 (by decide)]; exact r644
    obtain ⟨l4, f0, f1, f2⟩ := T4.mrow sT_644 rw_72
    cases r644d.symm.trans f0
    obtain ⟨y4, u4, v4⟩ := at_c (l := lt') ha (by omega)
    obtain ⟨z4, w4, _⟩ := at_c (l := lt') hb (by omega)
    obtain ⟨M5, e5⟩ : ∃ M5, M5 = gPut M4 644 (.inl (1, .inl (gPut lt' (16 * tn + cn) y4))) := ⟨_, rfl⟩
    have T5 : TM sT sG M5 := by
      rw [e5]
      exact T4.putrow (n := 128) (lo := 0) (hi := 200) sT_644 (by decide +kernel) (by rw [put_len]; exact f1) (fun j z hj => by
        rw [nth_put] at hj
        split at hj
        · cases hj
          exact f2 _ _ v4
        · exact f2 j z hj)
    have F5 : Frm sT mdR M4 M5 := by rw [e5]; exact Frm.row r644d sT_644 (by decide)
    have n5 : ∀ c, c ≠ 644 → gNth M5 c = gNth M4 c := fun c hc => by rw [e5, nth_put, if_neg (fun q => hc q.1)]
    have hM1 : gNth M1 633 = some (.inr (11, vs)) := by rw [n1 633 (by decide)]; exact hM
    have hM2 : gNth M2 633 = some (.inr (11, vs)) := by rw [n2 633 (by decide)]; exact hM1
    have hM3 : gNth M3 633 = some (.inr (11, vs)) := by rw [n3 633 (by decide)]; exact hM2
    have hM4 : gNth M4 633 = some (.inr (11, vs)) := by rw [n4 633 (by decide)]; exact hM3
    have ek : (k + 1).toInt = k.toInt + 1 := i32_p1 (by omega)
    have sf : gNth lf (112 + cn) = some y3 := by rw [← v3, cf.2, if_neg (by omega)]
    have st : gNth lt (112 + cn) = some y4 := by rw [← v4, ct.2, if_neg (by omega)]
    refine RF.pre (fun v M' hz => tx_57 (by
      rw [if_neg (by rw [Int32.le_iff_toInt_le, o16]; omega)]
      rw [ea] at u0
      rw [eb] at w0
      refine tx_63 hM h10 a0 u0 w0 ?_
      rw [← eb, ← ea, cl_n hb, ← e1]
      refine tx_91 hM1 h11 b0 u1 w1 ?_
      rw [cl_n hb, ← e2]
      refine tx_105 hM2 h12 c0 u2 w2 ?_
      rw [cl_n hb, ← e3]
      refine tx_119 hM3 h13 r643c u3 w3 ?_
      rw [cl_n hb, ← e4]
      refine tx_133 hM4 h14 r644d u4 w4 ?_
      rw [cl_n hb, ← e5]
      exact hz)) ?_
    refine ih (cn + 1) M5 (k + 1) _ _ ⟨T5, ((((hF.trans F1).trans F2).trans F3).trans F4).trans F5, by rw [n5 639 (by decide), n4 639 (by decide), n3 639 (by decide), n2 639 (by decide), n1 639 (by decide)]; exact r639, by rw [n5 645 (by decide), n4 645 (by decide), n3 645 (by decide), n2 645 (by decide), n1 645 (by decide)]; exact r645, _, _, by rw [n5 643 (by decide), e4, nth_put, if_pos ⟨rfl, gNth_lt _ _ _ r643c⟩], by rw [e5, nth_put, if_pos ⟨rfl, gNth_lt _ _ _ r644d⟩], cf.step sf (by omega), ct.step st (by omega)⟩ (by omega) (by omega)
theorem tx_l2 (hto : to.toInt = (tn : Int)) (ht6 : tn ≤ 6) (hE : ∀ M k x4 x5, TXb M0 tn lm lf lt ls 200 M → RF Q [] (e + 6) 181 234 [some (.ref 633), some (.int to), some (.int lw), some (.int k), x4, x5] [] M) : ∀ (j cn : Nat) (M : Mem) (k : Int32) (x4 x5 : Option Value), TXb M0 tn lm lf lt ls cn M → k.toInt = (cn : Int) → cn + j = 200 → RF Q [] (e + 6) 181 155 [some (.ref 633), some (.int to), some (.int lw), some (.int k), x4, x5] [] M := by
  intro j
  have o200 : (200 : Int32).toInt = ((200 : Nat) : Int) := rfl
  induction j with
  | zero =>
    intro cn M k x4 x5 h hk hj
    have hcn : cn = 200 := by omega
    subst hcn
    refine RF.pre (fun v M' hz => tx_155 hz) ?_
    rw [if_pos (by rw [Int32.le_iff_toInt_le, o200]; omega)]
    exact hE M k x4 x5 h
  | succ j ih =>
    intro cn M k x4 x5 h hk hj
    obtain ⟨hT, hF, r639, r643, r644, ls', r645, cs⟩ := h
    obtain ⟨vs, hM, hv⟩ := hT.mfld
    obtain ⟨q, m4⟩ := and_t mfT
    obtain ⟨q, m3⟩ := and_t q
    obtain ⟨m1, m2⟩ := and_t q
    have h15 := hv _ _ _ m1 sUT.1
    have h16 := hv _ _ _ m2 sUT.2.1
    have h17 := hv _ _ _ m3 sUT.2.2.1
    obtain ⟨q, _⟩ := and_t rwT
    obtain ⟨q, p3⟩ := and_t q
    obtain ⟨p1, p2⟩ := and_t q
    have o14 : (1400 : Int32).toInt = 1400 := rfl
    have ha : (1400 + k).toInt = ((1400 + cn : Nat) : Int) := by
      rw [i32_add (by rw [o14]; omega) (by rw [o14]; omega), o14]
      omega
    have hb : (200 * to + k).toInt = ((200 * tn + cn : Nat) : Int) := i32_mk o200 hto hk (by omega)
    obtain ⟨l0, a0, a1, _⟩ := hT.mrow sT_645 p1
    cases r645.symm.trans a0
    obtain ⟨y0, u0, v0⟩ := at_c (l := ls') ha (by omega)
    obtain ⟨z0, w0, _⟩ := at_c (l := ls') hb (by omega)
    obtain ⟨M1, e1⟩ : ∃ M1, M1 = gPut M 645 (.inl (1, .inl (gPut ls' (200 * tn + cn) y0))) := ⟨_, rfl⟩
    have T1 : TM sT sG M1 := by rw [e1]; exact any_put hT sT_645 a0 a1 (by decide +kernel) _ _
    have F1 : Frm sT mdR M M1 := by rw [e1]; exact Frm.row a0 sT_645 (by decide)
    have n1 : ∀ c, c ≠ 645 → gNth M1 c = gNth M c := fun c hc => by rw [e1, nth_put, if_neg (fun q => hc q.1)]
    obtain ⟨l1, b0, b1, _⟩ := T1.mrow sT_646 p2
    obtain ⟨y1, u1, _⟩ := at_c (l := l1) ha (by omega)
    obtain ⟨z1, w1, _⟩ := at_c (l := l1) hb (by omega)
    obtain ⟨M2, e2⟩ : ∃ M2, M2 = gPut M1 646 (.inl (1, .inl (gPut l1 (200 * tn + cn) y1))) := ⟨_, rfl⟩
    have T2 : TM sT sG M2 := by rw [e2]; exact any_put T1 sT_646 b0 b1 (by decide +kernel) _ _
    have F2 : Frm sT mdR M1 M2 := by rw [e2]; exact Frm.row b0 sT_646 (by decide)
    have n2 : ∀ c, c ≠ 646 → gNth M2 c = gNth M1 c := fun c hc => by rw [e2, nth_put, if_neg (fun q => hc q.1)]
    obtain ⟨l2, c0, c1, _⟩ := T2.mrow sT_647 p3
    obtain ⟨y2, u2, _⟩ := at_c (l := l2) ha (by omega)
    obtain ⟨z2, w2, _⟩ := at_c (l := l2) hb (by omega)
    obtain ⟨M3, e3⟩ : ∃ M3, M3 = gPut M2 647 (.inl (1, .inl (gPut l2 (200 * tn + cn) y2))) := ⟨_, rfl⟩
    have T3 : TM sT sG M3 := by rw [e3]; exact any_put T2 sT_647 c0 c1 (by decide +kernel) _ _
    have F3 : Frm sT mdR M2 M3 := by rw [e3]; exact Frm.row c0 sT_647 (by decide)
    have n3 : ∀ c, c ≠ 647 → gNth M3 c = gNth M2 c := fun c hc => by rw [e3, nth_put, if_neg (fun q => hc q.1)]
    have hM1 : gNth M1 633 = some (.inr (11, vs)) := by rw [n1 633 (by decide)]; exact hM
    have hM2 : gNth M2 633 = some (.inr (11, vs)) := by rw [n2 633 (by decide)]; exact hM1
    have ek : (k + 1).toInt = k.toInt + 1 := i32_p1 (by omega)
    have ss : gNth ls (1400 + cn) = some y0 := by rw [← v0, cs.2, if_neg (by omega)]
    refine RF.pre (fun v M' hz => tx_155 (by
      rw [if_neg (by rw [Int32.le_iff_toInt_le, o200]; omega)]
      refine tx_162 hM h15 a0 u0 w0 ?_
      rw [cl_n hb, ← e1]
      refine tx_184 hM1 h16 b0 u1 w1 ?_
      rw [cl_n hb, ← e2]
      refine tx_206 hM2 h17 c0 u2 w2 ?_
      rw [cl_n hb, ← e3]
      exact hz)) ?_
    refine ih (cn + 1) M3 (k + 1) _ _ ⟨T3, ((hF.trans F1).trans F2).trans F3, by rw [n3 639 (by decide), n2 639 (by decide), n1 639 (by decide)]; exact r639, by rw [n3 643 (by decide), n2 643 (by decide), n1 643 (by decide)]; exact r643, by rw [n3 644 (by decide), n2 644 (by decide), n1 644 (by decide)]; exact r644, _, by rw [n3 645 (by decide), n2 645 (by decide), e1, nth_put, if_pos ⟨rfl, gNth_lt _ _ _ r645⟩], cs.step ss (by omega)⟩ (by omega) (by omega)
end TEXT
/-- lines of the texts that are not read -/
def P24b (lm lf lt ls : List Int32) : Prop := ∀ (i : Nat) (v : Int32), gNth lm i = some v → i ≤ 6 → v.toInt ≤ 16 ∧ ∀ j : Nat, 16 * i ≤ j → (j : Int) < 16 * (i : Int) + v.toInt → ∃ f t, gNth lf j = some f ∧ gNth lt j = some t ∧ (f = t ∨ ∃ m k : Nat, f.toInt + (m : Int) = t.toInt ∧ (k : Int) = 200 * (i : Int) + f.toInt ∧ okS m ls k 0)
theorem P24b.itc {lm lf lt ls lm2 lf2 lt2 ls2 : List Int32} (h : P24b lm lf lt ls) (ht : ∀ j t, gNth lt j = some t → 0 ≤ t.toInt ∧ t.toInt ≤ 200) (hf : ∀ j t, gNth lf j = some t → 0 ≤ t.toInt ∧ t.toInt ≤ 200) (hi : ITC (lm, lf, lt, ls) lm2 lf2 lt2 ls2) : P24b lm2 lf2 lt2 ls2 := by
  intro i v hv i6
  rw [hi.1 i (by omega)] at hv
  obtain ⟨v16, h2⟩ := h i v hv i6
  refine ⟨v16, fun j j1 j2 => ?_⟩
  obtain ⟨f, t, q1, q2, q3⟩ := h2 j j1 j2
  have hj : j < 112 := by omega
  refine ⟨f, t, by rw [(hi.2.1 j hj).1]; exact q1, by rw [(hi.2.1 j hj).2]; exact q2, q3.imp id (fun ⟨m, k, k1, k2, k3⟩ => ⟨m, k, k1, k2, k3.eq (fun x x1 x2 => hi.2.2 x ?_)⟩)⟩
  have := ht _ _ q2
  have := hf _ _ q1
  omega
/-- a text is copied -/
theorem P24b.cpy {lm lf lt ls lf2 lt2 ls2 : List Int32} {tn n s : Nat} {N : Int32} (h : P24b lm lf lt ls) (ht : ∀ j t, gNth lt j = some t → 0 ≤ t.toInt ∧ t.toInt ≤ 200) (hf : ∀ j t, gNth lf j = some t → 0 ≤ t.toInt ∧ t.toInt ≤ 200) (hN : N.toInt = (n : Int)) (n16 : n ≤ 16) (t6 : tn ≤ 6) (hl : LOK n ls lf lt s) (cf : CpP lf2 lf lf (16 * tn) 112 16) (ct : CpP lt2 lt lt (16 * tn) 112 16) (cs : CpP ls2 ls ls (200 * tn) 1400 200) : P24b (gPut lm tn N) lf2 lt2 ls2 := by
  intro i v hv i6
  rw [nth_put] at hv
  by_cases hin : i = tn
  · subst hin
    by_cases hlen : i < lm.length
    · rw [if_pos ⟨rfl, hlen⟩] at hv
      cases hv
      refine ⟨by omega, fun j j1 j2 => ?_⟩
      obtain ⟨jj, rfl⟩ : ∃ jj, j = 16 * i + jj := ⟨j - 16 * i, by omega⟩
      obtain ⟨f, t, q1, q2, q3, q4, q5⟩ := hl (112 + jj) (by omega) (by omega)
      have hft := ht _ _ q2
      refine ⟨f, t, ?_, ?_, q5.imp id (fun ⟨m, k, k1, k2, k3⟩ => ⟨m, 200 * i + f.toInt.toNat, k1, by omega, k3.shift (fun x hx => ?_)⟩)⟩
      · rw [cf.2, if_pos (by omega), ← q1]
        congr 1
        omega
      · rw [ct.2, if_pos (by omega), ← q2]
        congr 1
        omega
      · rw [cs.2, if_pos (by omega)]
        congr 1
        omega
    · rw [if_neg (fun q => hlen q.2)] at hv
      exact absurd (gNth_lt _ _ _ hv) hlen
  · rw [if_neg (fun q => hin q.1)] at hv
    obtain ⟨v16, h2⟩ := h i v hv i6
    refine ⟨v16, fun j j1 j2 => ?_⟩
    obtain ⟨f, t, q1, q2, q3⟩ := h2 j j1 j2
    have hf1 := hf _ _ q1
    have ht1 := ht _ _ q2
    have hcase : i < tn ∨ tn < i := by omega
    refine ⟨f, t, by rw [cf.2, if_neg (by omega)]; exact q1, by rw [ct.2, if_neg (by omega)]; exact q2, q3.imp id (fun ⟨m, k, k1, k2, k3⟩ => ⟨m, k, k1, k2, k3.eq (fun x x1 x2 => by rw [cs.2, if_neg (by omega)])⟩)⟩
theorem rows_in {M : Mem} (hT : TM sT sG M) {lf lt : List Int32} (r643 : gNth M 643 = some (.inl (1, .inl lf))) (r644 : gNth M 644 = some (.inl (1, .inl lt))) : (∀ j t, gNth lt j = some t → 0 ≤ t.toInt ∧ t.toInt ≤ 200) ∧ ∀ j t, gNth lf j = some t → 0 ≤ t.toInt ∧ t.toInt ≤ 200 := by
  obtain ⟨l1, a1, _, a3⟩ := hT.mrow sT_643 rw_71
  obtain ⟨l2, b1, _, b3⟩ := hT.mrow sT_644 rw_72
  cases r643.symm.trans a1
  cases r644.symm.trans b1
  exact ⟨b3, a3⟩
def TxQ (M0 : Mem) (v : Option Value) (M' : Mem) : Prop := ∃ r : Int32, v = some (.int r) ∧ TM sT sG M' ∧ Frm sT mdR M0 M' ∧ P24 M'
theorem ev_text {M : Mem} {e tn : Nat} {to lw : Int32} {x3 x4 x5 : Option Value} (hT : TM sT sG M) (h24 : P24 M) (hto : to.toInt = (tn : Int)) (ht6 : tn ≤ 6) : RF (TxQ M) [] (e + 6) 181 0 [some (.ref 633), some (.int to), some (.int lw), x3, x4, x5] [] M := by
  obtain ⟨lm, lf, lt, ls, r639, r643, r644, r645, hp⟩ := h24
  have hp : P24b lm lf lt ls := hp
  obtain ⟨ht0, hf0⟩ := rows_in hT r643 r644
  obtain ⟨vs, _, hM, hlen, _⟩ := hT.fint fB_26b
  obtain ⟨T1, _⟩ := fset hT fB_26b hM (y := 0) (by decide) (by decide)
  obtain ⟨M1, e1⟩ : ∃ M1, M1 = gPut M 633 (.inr (11, gPut vs 26 (.int 0))) := ⟨_, rfl⟩
  rw [← e1] at T1
  have F1 : Frm sT mdR M M1 := by rw [e1]; exact Frm.fld hM (by decide)
  have n1 : ∀ c, c ≠ 633 → gNth M1 c = gNth M c := fun c hc => by rw [e1, nth_put, if_neg (fun q => hc q.1)]
  have a639 : gNth M1 639 = some (.inl (1, .inl lm)) := by rw [n1 639 (by decide)]; exact r639
  obtain ⟨vs1, hM1, hv1⟩ := T1.mfld
  have h9 := hv1 _ _ _ (and_t mfR).1 sUR.1
  obtain ⟨l2, b1, b2, _⟩ := T1.mrow sT_639 rw_67
  cases a639.symm.trans b1
  obtain ⟨y7, y71, _⟩ := at_c (l := lm) (j := 7) (kn := 7) rfl (by omega)
  have T2 := lm_put T1 a639 7 (y := 0) (by decide) (by decide)
  obtain ⟨M2, e2⟩ : ∃ M2, M2 = gPut M1 639 (.inl (1, .inl (gPut lm 7 0))) := ⟨_, rfl⟩
  rw [← e2] at T2
  have F2 : Frm sT mdR M1 M2 := by rw [e2]; exact Frm.row a639 sT_639 (by decide)
  have n2 : ∀ c, c ≠ 639 → gNth M2 c = gNth M1 c := fun c hc => by rw [e2, nth_put, if_neg (fun q => hc q.1)]
  obtain ⟨S, P, O, ls2, lp, c2, _⟩ := T2.cst
  obtain ⟨vs2, hM2, v19, v20, v21, q645, q648⟩ := id c2
  have els : ls2 = ls := by
    rw [n2 645 (by decide), n1 645 (by decide), r645] at q645
    cases q645
    rfl
  subst els
  obtain ⟨T3, c3⟩ := c2.S T2 hM2 (y := 0) (by decide) (by decide)
  obtain ⟨_, hlen2⟩ := fset T2 (and_t (and_t fBT).1).1 hM2 (y := 0) (by decide) (by decide)
  obtain ⟨M3, e3⟩ : ∃ M3, M3 = gPut M2 633 (.inr (11, gPut vs2 19 (.int 0))) := ⟨_, rfl⟩
  rw [← e3] at T3 c3
  have F3 : Frm sT mdR M2 M3 := by rw [e3]; exact Frm.fld hM2 (by decide)
  have n3 : ∀ c, c ≠ 633 → gNth M3 c = gNth M2 c := fun c hc => by rw [e3, nth_put, if_neg (fun q => hc q.1)]
  obtain ⟨vs3, hM3, w19, w20, w21, _⟩ := id c3
  obtain ⟨T4, c4⟩ := c3.O T3 hM3 (y := 0) (by decide) (by decide)
  obtain ⟨_, hlen3⟩ := fset T3 (and_t fBT).2 hM3 (y := 0) (by decide) (by decide)
  obtain ⟨M4, e4⟩ : ∃ M4, M4 = gPut M3 633 (.inr (11, gPut vs3 21 (.int 0))) := ⟨_, rfl⟩
  rw [← e4] at T4 c4
  have F4 : Frm sT mdR M3 M4 := by rw [e4]; exact Frm.fld hM3 (by decide)
  have n4 : ∀ c, c ≠ 633 → gNth M4 c = gNth M3 c := fun c hc => by rw [e4, nth_put, if_neg (fun q => hc q.1)]
  have W4 : WW (lm, lf, lt, ls2) 0 0 M4 := ⟨0, 0, 0, P, 0, ls2, lp, gPut lm 7 0, lf, lt, T4, c4, rfl, rfl, by omega, ⟨by rw [n4 639 (by decide), n3 639 (by decide), e2, nth_put, if_pos ⟨rfl, gNth_lt _ _ _ a639⟩], by rw [n4 643 (by decide), n3 643 (by decide), n2 643 (by decide), n1 643 (by decide)]; exact r643, by rw [n4 644 (by decide), n3 644 (by decide), n2 644 (by decide), n1 644 (by decide)]; exact r644⟩, by rw [nth_put, if_pos ⟨rfl, by omega⟩], fun j j1 j2 => by omega, fun i hi => by rw [nth_put, if_neg (by omega)], fun j _ => ⟨rfl, rfl⟩, fun i _ => rfl⟩
  obtain ⟨_, vs4, hM4⟩ := W4.obj
  obtain ⟨M5, x5', T5, F5⟩ := un_next (e := e + 4) T4
  have W5 := W4.frm T5 F5 (by decide)
  obtain ⟨_, vs5, hM5⟩ := W5.obj
  have F05 : Frm sT mdR M M5 := (((F1.trans F2).trans F3).trans F4).trans (F5.more (by decide))
  obtain ⟨v, M6, q6, r, rfl, T6, F6, hr⟩ := rd_loop (e := e) (M0 := M5) (lw := lw) 17 0 0 M5 none none none W5 rfl (by omega) (by omega) (Frm.refl M5)
  have F06 := F05.trans F6
  refine RF.pre (fun v M' hz => tx_0 hM hlen (by
    rw [← e1]
    refine tx_5 hM1 h9 a639 y71 ?_
    rw [cl_n (kn := 7) rfl, ← e2]
    refine tx_13 hM2 hlen2 ?_
    rw [← e3]
    refine tx_18 hM3 hlen3 ?_
    rw [← e4]
    exact tx_23 (Ev.call0 (fun n => gs_7 rfl rfl (cal_nx hM4 rfl)) x5' (tx_27 (Ev.call0 (fun n => gs_7 rfl rfl (cal_rd hM5 rfl)) q6 (tx_32 hz)))))) ?_
  rcases hr with ⟨rfl, lm6, lf6, lt6, ls6, ⟨u639, u643, u644⟩, u645, hi6⟩ | ⟨rfl, n, N, W6, hN, n16⟩
  · rw [if_pos rfl]
    obtain ⟨vs6, f27, hM6, _, g27, _⟩ := T6.fint fB_27
    obtain ⟨mm, hmm⟩ : ∃ mm : Int32, mm = -1 := ⟨_, rfl⟩
    exact ⟨some (.int (mm - f27)), M6, tx_35 hmm hM6 g27, _, rfl, T6, F06, lm6, lf6, lt6, ls6, u639, u643, u644, u645, hp.itc ht0 hf0 hi6⟩
  rw [if_neg (by decide)]
  obtain ⟨s, o, S6, P6, O6, ls6, lp6, lm6, lf6, lt6, _, c6, _, _, _, ⟨u639, u643, u644⟩, h7, hl, hi6⟩ := id W6
  obtain ⟨vs6, hM6, _, _, _, u645, _⟩ := id c6
  obtain ⟨vs9, hM9, hv6⟩ := T6.mfld
  cases hM6.symm.trans hM9
  have h9b := hv6 _ _ _ (and_t mfR).1 sUR.1
  have hp6 := hp.itc ht0 hf0 hi6
  obtain ⟨ht6', hf6'⟩ := rows_in T6 u643 u644
  obtain ⟨l9, d1, d2, d3⟩ := T6.mrow sT_639 rw_67
  cases u639.symm.trans d1
  obtain ⟨yt, yt1, _⟩ := at_c (l := lm6) hto (by omega)
  have g7 : gAt lm6 7 = some N := by rw [at_nn (kn := 7) rfl]; exact h7
  have T7 := lm_put T6 u639 tn (y := N) (by omega) (by omega)
  obtain ⟨M7, e7⟩ : ∃ M7, M7 = gPut M6 639 (.inl (1, .inl (gPut lm6 tn N))) := ⟨_, rfl⟩
  rw [← e7] at T7
  have F7 : Frm sT mdR M6 M7 := by rw [e7]; exact Frm.row u639 sT_639 (by decide)
  have n7 : ∀ c, c ≠ 639 → gNth M7 c = gNth M6 c := fun c hc => by rw [e7, nth_put, if_neg (fun q => hc q.1)]
  refine RF.pre (fun v M' hz => tx_42 hM6 h9b u639 g7 yt1 (by rw [cl_n hto, ← e7]; exact hz)) ?_
  refine tx_l1 (M0 := M) (lm := gPut lm6 tn N) (lf := lf6) (lt := lt6) (ls := ls6) hto ht6 (fun M8 k x4 x5 h8 => ?_) 16 0 M7 0 _ _ ⟨T7, F06.trans F7, by rw [e7, nth_put, if_pos ⟨rfl, gNth_lt _ _ _ u639⟩], by rw [n7 645 (by decide)]; exact u645, lf6, lt6, by rw [n7 643 (by decide)]; exact u643, by rw [n7 644 (by decide)]; exact u644, CpP.zero _ _ _ _, CpP.zero _ _ _ _⟩ rfl rfl
  obtain ⟨T8, F8, b639, b645, lf8, lt8, b643, b644, cf, ct⟩ := h8
  refine RF.pre (fun v M' hz => tx_153 hz) ?_
  refine tx_l2 (M0 := M) (lm := gPut lm6 tn N) (lf := lf8) (lt := lt8) (ls := ls6) hto ht6 (fun M9 k x4 x5 h9 => ?_) 200 0 M8 0 _ _ ⟨T8, F8, b639, b643, b644, ls6, b645, CpP.zero _ _ _ _⟩ rfl rfl
  obtain ⟨T9, F9, c639, c643, c644, ls9, c645, cs⟩ := h9
  obtain ⟨vs9, hM9, hv9⟩ := T9.mfld
  have h9c := hv9 _ _ _ (and_t mfR).1 sUR.1
  obtain ⟨y9, y91, _⟩ := at_c (l := gPut lm6 tn N) hto (by rw [put_len]; omega)
  exact ⟨some (.int y9), M9, tx_234 hM9 h9c c639 y91, y9, rfl, T9, F9, _, _, _, _, c639, c643, c644, c645, hp6.cpy ht6' hf6' hN n16 ht6 hl cf ct cs⟩
def kX11_text : CN := (181, 6, [.inr 1900, .inl (.ofNat 0, .ofNat 6), .inl (.ofNat 0, .ofNat 1)], [], [(24, [])], [(11, 4), (11, 19), (11, 20), (11, 21), (11, 22), (11, 23), (11, 24), (11, 25), (11, 26), (11, 27), (11, 31), (11, 32), (1067, 0), (1068, 0), (1069, 0), (1070, 0), (1071, 0), (1072, 0), (1073, 0), (1074, 0), (1075, 0), (1076, 0)], [(some (.inl (.negSucc 2147483647, .ofNat 2147483647)), [], [], [(24, [])], [])])
set_option maxRecDepth 100000 in
theorem mR_181 : (gNth mRs 181).map (fun q => q.2.2.2.1) = some 6 := by decide +kernel
theorem kX11_text_ok : cnOK sT sG FL0 kX11_text := by
  intro d M ws q hd hq ha hp hT
  have hm := mR_181
  have hq' : gNth mRs 181 = some q := hq
  rw [hq'] at hm
  have hm : q.2.2.2.1 = 6 := Option.some.inj hm
  obtain ⟨e, rfl⟩ : ∃ e, d = e + 6 := ⟨d - 6, by have : 6 ≤ d := hd; omega⟩
  rcases ws with _ | ⟨z0, _ | ⟨z1, _ | ⟨z2, _ | ⟨z3, r⟩⟩⟩⟩
  · exact ha.elim
  · exact ha.2.elim
  · exact ha.2.2.elim
  · obtain ⟨k1, ⟨to, rfl, t1, t2⟩, ⟨lw, rfl, _, _⟩, _⟩ := ha
    have k1 : z0 = .ref 633 := k1
    subst k1
    have t1 : 0 ≤ to.toInt := t1
    have t2 : to.toInt ≤ 6 := t2
    obtain ⟨hv, hv0, hfl⟩ := hp
    obtain ⟨y24, z24, h24⟩ := hfl (24, []) (List.mem_cons_self ..)
    obtain ⟨tn, htn⟩ : ∃ tn : Nat, to.toInt = (tn : Int) := ⟨to.toInt.toNat, by omega⟩
    obtain ⟨v, M', q1, r, rfl, q2, q3, q4⟩ := ev_text (e := e) (to := to) (lw := lw) (x3 := none) (x4 := none) (x5 := none) hT (fl0_24 h24) htn (by omega)
    rw [hm]
    refine ⟨some (.int r), M', q1, q2, q3, _, List.mem_cons_self .., ⟨⟨r, rfl, i32_any r⟩, fun q hq => (by cases hq), [], trivial, fun f hf => ?_, fun q hq => (by cases hq)⟩, cn_D rfl⟩
    cases List.mem_singleton.mp hf
    exact ⟨[], trivial, (show FL0 24 [] M' from q4)⟩
  · exact ha.2.2.2.elim
/-! CERTIFICATES (by program) -/
def kX11_law : CN := (183, 7, [.inr 1900], [], [(24, [])], [(11, 0), (11, 2), (11, 3), (11, 4), (11, 19), (11, 20), (11, 21), (11, 22), (11, 23), (11, 24), (11, 25), (11, 26), (11, 27), (11, 28), (11, 29), (11, 30), (11, 31), (11, 32), (1067, 0), (1068, 0), (1069, 0), (1070, 0), (1071, 0), (1072, 0), (1073, 0), (1074, 0), (1075, 0), (1076, 0)], [(some (.inl (.negSucc 2147483647, .ofNat 2147483647)), [], [(.inl 633, 11, 2, .inl (.ofNat 0, .ofNat 0))], [(24, [])], [])])
def kX11_law_t : List (Nat × TP) := []
set_option maxRecDepth 100000 in
theorem kX11_law_ok : cnOK sT sG FL0 kX11_law := ccM_V (Δ := [kX11_text, kX11_told]) (n := 53) (N := 0) (cuts := kX11_law_t) sU_ok dp0_ok ct0_ok (cons_ok kX11_text_ok (cons_ok kX11_told_ok nil_ok)) (by decide +kernel)
def kX11_habit : CN := (184, 7, [.inr 1900, .inl (.negSucc 2147483647, .ofNat 2147483647)], [], [(24, [])], [(11, 0), (11, 2), (11, 3), (11, 4), (11, 19), (11, 20), (11, 21), (11, 22), (11, 23), (11, 24), (11, 25), (11, 26), (11, 27), (11, 31), (11, 32), (1067, 0), (1068, 0), (1069, 0), (1070, 0), (1071, 0), (1072, 0), (1073, 0), (1074, 0), (1075, 0), (1076, 0)], [(some (.inl (.negSucc 2147483647, .ofNat 2147483647)), [], [(.inl 633, 11, 2, .inl (.ofNat 0, .ofNat 0))], [(24, [])], [])])
def kX11_habit_t : List (Nat × TP) := []
set_option maxRecDepth 100000 in
theorem kX11_habit_ok : cnOK sT sG FL0 kX11_habit := ccM_V (Δ := [kX11_text]) (n := 56) (N := 0) (cuts := kX11_habit_t) sU_ok dp0_ok ct0_ok (cons_ok kX11_text_ok nil_ok) (by decide +kernel)
/-! WHAT STANDS BETWEEN CALLS: the reference's side -/
def INVr (M : Mem) : Prop := TM sT sG M ∧ FL0 24 [] M ∧ FL0 28 [] M ∧ FL0 32 [] M
/-- a contract asks for no more, and keeps it -/
noncomputable def invB (c : CN) : Bool := c.2.2.2.1.isEmpty && (c.2.2.2.2.1.all (fun f => f.2.isEmpty && (Nat.beq f.1 24 || (Nat.beq f.1 28 || Nat.beq f.1 32))) && [24, 28, 32].all (fun x => c.2.2.2.2.2.1.all (fun q => !mdIn (dp0 x) q.1 q.2) || c.2.2.2.2.2.2.all (fun s => s.2.2.2.1.any (fun f => Nat.beq f.1 x && f.2.isEmpty))))
theorem inv_fl {c : CN} {x : Nat} {M M' : Mem} {ws : List Value} {v : Option Value} {s : CS} (h : (c.2.2.2.2.2.1.all (fun q => !mdIn (dp0 x) q.1 q.2) || c.2.2.2.2.2.2.all (fun s => s.2.2.2.1.any (fun f => Nat.beq f.1 x && f.2.isEmpty))) = true) (hF : Frm sT c.2.2.2.2.2.1 M M') (hs : s ∈ c.2.2.2.2.2.2) (hcs : csOK sT FL0 ws v M' s) (h0 : FL0 x [] M) : FL0 x [] M' := by
  rw [Bool.or_eq_true] at h
  rcases h with h | h
  · refine dp0_frm 0 x [] _ M M' hF (fun q hq hm => ?_) h0
    have h2 := List.all_eq_true.mp h q hq
    rw [mdIn_iff.mpr hm] at h2
    cases h2
  · have h2 := List.all_eq_true.mp h s hs
    obtain ⟨f, hf, h3⟩ := List.any_eq_true.mp h2
    obtain ⟨h4, h5⟩ := and_t h3
    obtain ⟨_, _, hv, _, h6, _⟩ := hcs
    obtain ⟨ys, h7, h8⟩ := h6 f hf
    obtain ⟨fx, ps⟩ := f
    cases Nat.eq_of_beq_eq_true h4
    have h5 : ps = [] := List.isEmpty_iff.mp h5
    subst h5
    cases ys with
    | nil => exact h8
    | cons _ _ => exact h7.elim
theorem inv_call {c : CN} {k d : Nat} {M : Mem} {ws : List Value} (hc : cnOK sT sG FL0 c) (hB : invB c = true) (hm : (gNth mRs c.1).map (fun q => q.2.2.2.1) = some k) (hd : c.2.1 ≤ d) (ha : Two (taOK sT) c.2.2.1 ws) (hI : INVr M) : ∃ v M', Ev none d c.1 0 (gPad k (gArgs ws)) [] M v M' 0 0 ∧ INVr M' ∧ Frm sT c.2.2.2.2.2.1 M M' ∧ ∃ s ∈ c.2.2.2.2.2.2, csOK sT FL0 ws v M' s := by
  obtain ⟨b1, b2⟩ := and_t hB
  obtain ⟨b2, b3⟩ := and_t b2
  obtain ⟨hT, f24, f28, f32⟩ := hI
  cases hq : gNth mRs c.1 with
  | none => rw [hq] at hm; cases hm
  | some q =>
    rw [hq] at hm
    have hm : q.2.2.2.1 = k := Option.some.inj hm
    have h3 : c.2.2.2.1 = [] := List.isEmpty_iff.mp b1
    obtain ⟨v, M', e1, e2, e3, s, e4, e5, _⟩ := hc d M ws q hd hq ha ⟨[], by rw [h3]; trivial, fun f hf => by
      obtain ⟨g1, g2⟩ := and_t (List.all_eq_true.mp b2 f hf)
      obtain ⟨fx, ps⟩ := f
      have g1 : ps = [] := List.isEmpty_iff.mp g1
      subst g1
      refine ⟨[], trivial, ?_⟩
      have g2 : (Nat.beq fx 24 || (Nat.beq fx 28 || Nat.beq fx 32)) = true := g2
      rw [Bool.or_eq_true, Bool.or_eq_true] at g2
      rcases g2 with g | g | g
      · cases Nat.eq_of_beq_eq_true g; exact f24
      · cases Nat.eq_of_beq_eq_true g; exact f28
      · cases Nat.eq_of_beq_eq_true g; exact f32⟩ hT
    rw [hm] at e1
    have b4 := fun x hx => List.all_eq_true.mp b3 x hx
    exact ⟨v, M', e1, ⟨e2, inv_fl (b4 24 (by decide)) e3 e4 e5 f24, inv_fl (b4 28 (by decide)) e3 e4 e5 f28, inv_fl (b4 32 (by decide)) e3 e4 e5 f32⟩, e3, s, e4, e5⟩
set_option maxRecDepth 100000 in
theorem inv_all : ([kX11_feed, kX11_end, kX11_park, kX11_door, kX11_law, kX11_habit, kX11_fault, kX11_wish, kX11_drop, kX11_run, kX11_week, kX11_rain, kX11_snow, kX11_lay, kX11_walker, kX11_cell, kX11_net, kX11_pieces, kX11_rests, kX11_least, kX11_longer, kX11_turns, kX11_paved, kX11_wait, kX11_fences, kX11_fenceAt, kX11_lasts, kX11_way, kX11_wayAt, kX11_read_, kX11_reads, kX11_fits, kX11_image, kX11_restore, kX11_count].all invB) = true := by decide +kernel
/-! WHAT STANDS AT THE START: the memory of the constructors -/
noncomputable def ftB (aT : List Nat) (t : FT) (v : Value) : Bool := match t, v with
  | .inl (lo, hi), .int x => iLe lo x.toInt && iLe x.toInt hi
  | .inr 0, .long _ => true
  | .inr (k + 1), .ref a => match gNth aT a with
    | some g => Nat.beq g (k / 2)
    | none => false
  | .inr (k + 1), .null => Nat.beq (k % 2) 1
  | _, _ => false
noncomputable def ftsB (aT : List Nat) : List FT → List Value → Bool
  | [], [] => true
  | t :: ts, v :: vs => ftB aT t v && ftsB aT ts vs
  | _, _ => false
noncomputable def rowB (sg : List SG) : List Int32 → Nat → Bool
  | [], _ => true
  | x :: r, j => gPc j (fun j => (match sgAt sg j with
    | some p => iLe p.1 x.toInt && iLe x.toInt p.2
    | none => false) && rowB sg r (j + 1))
/-- a row that one segment tells: its elements alone -/
noncomputable def rowF (sg : List SG) (n : Nat) (l : List Int32) : Bool := match sg with
  | [(0, b, 1, [p])] => Nat.ble n b && l.all (fun x => iLe p.1 x.toInt && iLe x.toInt p.2)
  | _ => rowB sg l 0
noncomputable def refB (aT : List Nat) (g : Nat) : List (Option Nat) → Bool
  | [] => true
  | some a :: r => (match gNth aT a with
    | some g2 => Nat.beq g2 g
    | none => false) && refB aT g r
  | none :: _ => false
noncomputable def ctB (aT : List Nat) (t : CT) (e : AE) : Bool := match t, e with
  | .inl (ci, fs), .inr (c, vs) => Nat.beq c ci && ftsB aT fs vs
  | .inr (2, n, _), .inl (2, .inr (.inl l)) => Nat.beq (gLn l) n
  | .inr (kd, n, .inl sg), .inl (kd2, .inl l) => (!Nat.beq kd 2 && Nat.beq kd kd2) && (Nat.beq (gLn l) n && rowF sg n l)
  | .inr (kd, n, .inr g), .inl (kd2, .inr (.inr l)) => (!Nat.beq kd 2 && Nat.beq kd kd2) && (Nat.beq (gLn l) n && refB aT g l)
  | _, _ => false
noncomputable def tmB (aT : List Nat) (gT : List CT) : List Nat → Mem → Bool
  | [], _ => true
  | g :: gs, e :: es => (match gNth gT g with
    | some t => ctB aT t e
    | none => true) && tmB aT gT gs es
  | _ :: _, [] => false
theorem ftB_V {aT : List Nat} {t : FT} {v : Value} (h : ftB aT t v = true) : ftOK aT t v := by
  unfold ftB at h
  split at h
  · rename_i lo hi x
    obtain ⟨h1, h2⟩ := and_t h
    exact ⟨x, rfl, iLe_iff.mp h1, iLe_iff.mp h2⟩
  · exact ⟨_, rfl⟩
  · rename_i k a
    split at h
    · rename_i g e
      cases Nat.eq_of_beq_eq_true h
      exact Or.inl ⟨a, rfl, e⟩
    · cases h
  · exact Or.inr ⟨Nat.eq_of_beq_eq_true h, rfl⟩
  · cases h
theorem ftsB_V {aT : List Nat} : ∀ (ts : List FT) (vs : List Value), ftsB aT ts vs = true → vs.length = ts.length ∧ ∀ k ft, gNth ts k = some ft → ∃ v, gNth vs k = some v ∧ ftOK aT ft v := by
  intro ts
  induction ts with
  | nil =>
    intro vs h
    cases vs with
    | nil => exact ⟨rfl, fun k ft hk => by cases hk⟩
    | cons _ _ => cases h
  | cons t ts ih =>
    intro vs h
    cases vs with
    | nil => cases h
    | cons v vs =>
      obtain ⟨h1, h2⟩ := and_t h
      obtain ⟨i1, i2⟩ := ih vs h2
      refine ⟨congrArg Nat.succ i1, fun k ft hk => ?_⟩
      cases k with
      | zero => cases hk; exact ⟨v, rfl, ftB_V h1⟩
      | succ k => exact i2 k ft hk
theorem rowB_V {sg : List SG} : ∀ (l : List Int32) (j0 : Nat), rowB sg l j0 = true → ∀ j x, gNth l j = some x → ∃ p : Iv, sgAt sg (j0 + j) = some p ∧ p.1 ≤ x.toInt ∧ x.toInt ≤ p.2 := by
  intro l
  induction l with
  | nil => intro j0 _ j x hj; cases hj
  | cons y r ih =>
    intro j0 h j x hj
    have h : gPc j0 (fun j => (match sgAt sg j with
      | some p => iLe p.1 y.toInt && iLe y.toInt p.2
      | none => false) && rowB sg r (j + 1)) = true := h
    rw [gPc_eq] at h
    obtain ⟨h1, h2⟩ := and_t h
    cases j with
    | zero =>
      cases hj
      split at h1
      · rename_i p e
        obtain ⟨h3, h4⟩ := and_t h1
        exact ⟨p, e, iLe_iff.mp h3, iLe_iff.mp h4⟩
      · cases h1
    | succ j =>
      obtain ⟨p, q1, q2⟩ := ih (j0 + 1) h2 j x hj
      exact ⟨p, by rw [show j0 + (j + 1) = j0 + 1 + j by omega]; exact q1, q2⟩
theorem refB_V {aT : List Nat} {g : Nat} : ∀ (l : List (Option Nat)), refB aT g l = true → ∀ j x, gNth l j = some x → ∃ a, x = some a ∧ gNth aT a = some g := by
  intro l
  induction l with
  | nil => intro _ j x hj; cases hj
  | cons y r ih =>
    intro h j x hj
    cases y with
    | none => cases h
    | some a =>
      obtain ⟨h1, h2⟩ := and_t h
      cases j with
      | zero =>
        cases hj
        split at h1
        · rename_i g2 e
          cases Nat.eq_of_beq_eq_true h1
          exact ⟨a, rfl, e⟩
        · cases h1
      | succ j => exact ih h2 j x hj
theorem gln_len {α : Type} (l : List α) : gLn l = l.length := by
  induction l with
  | nil => rfl
  | cons x xs ih =>
    show gLn xs + 1 = xs.length + 1
    rw [ih]
theorem rowF_V {sg : List SG} {n : Nat} {l : List Int32} (hn : gLn l = n) (h : rowF sg n l = true) : ∀ j x, gNth l j = some x → ∃ p : Iv, sgAt sg j = some p ∧ p.1 ≤ x.toInt ∧ x.toInt ≤ p.2 := by
  intro j x hj
  unfold rowF at h
  split at h
  · rename_i b p
    obtain ⟨h1, h2⟩ := and_t h
    have hl := gNth_lt _ _ _ hj
    rw [← hn, gln_len] at h1
    have h3 := Nat.le_of_ble_eq_true h1
    obtain ⟨h4, h5⟩ := and_t (List.all_eq_true.mp h2 x (gNth_mem _ _ _ hj))
    refine ⟨p, ?_, iLe_iff.mp h4, iLe_iff.mp h5⟩
    have q : Nat.blt j b = true := Nat.ble_eq_true_of_le (by omega)
    show cond (Nat.ble 0 j && Nat.blt j b) (gNth [p] ((j - 0) % 1)) none = some p
    rw [q, Nat.mod_one, Nat.ble_eq_true_of_le (Nat.zero_le j)]
    rfl
  · have := rowB_V l 0 h j x hj
    rw [Nat.zero_add] at this
    exact this
theorem ctB_V {aT : List Nat} {t : CT} {e : AE} (h : ctB aT t e = true) : ctOK aT t e := by
  unfold ctB at h
  split at h
  · rename_i ci fs c vs
    obtain ⟨h1, h2⟩ := and_t h
    cases Nat.eq_of_beq_eq_true h1
    obtain ⟨i1, i2⟩ := ftsB_V fs vs h2
    exact ⟨vs, rfl, i1, i2⟩
  · rename_i n et l
    exact ⟨l, rfl, by rw [← gln_len]; exact Nat.eq_of_beq_eq_true h⟩
  · rename_i kd n sg kd2 l
    obtain ⟨h1, h2⟩ := and_t h
    obtain ⟨h3, h4⟩ := and_t h1
    obtain ⟨h5, h6⟩ := and_t h2
    cases Nat.eq_of_beq_eq_true h4
    have hk : kd ≠ 2 := by
      rintro rfl
      cases h3
    exact ct_mk hk (by rw [← gln_len]; exact Nat.eq_of_beq_eq_true h5) (rowF_V (Nat.eq_of_beq_eq_true h5) h6)
  · rename_i kd n g kd2 l
    obtain ⟨h1, h2⟩ := and_t h
    obtain ⟨h3, h4⟩ := and_t h1
    obtain ⟨h5, h6⟩ := and_t h2
    cases Nat.eq_of_beq_eq_true h4
    have hk : kd ≠ 2 := by
      rintro rfl
      cases h3
    exact ct_mkr hk (by rw [← gln_len]; exact Nat.eq_of_beq_eq_true h5) (refB_V l h6)
  · cases h
theorem tmB_V {aT : List Nat} {gT : List CT} : ∀ (gs : List Nat) (M : Mem), tmB aT gT gs M = true → gs.length ≤ M.length ∧ ∀ a g t, gNth gs a = some g → gNth gT g = some t → ∃ e, gNth M a = some e ∧ ctOK aT t e := by
  intro gs
  induction gs with
  | nil => intro M _; exact ⟨Nat.zero_le _, fun a g t h => by cases h⟩
  | cons g gs ih =>
    intro M h
    cases M with
    | nil => cases h
    | cons e es =>
      obtain ⟨h1, h2⟩ := and_t h
      obtain ⟨i1, i2⟩ := ih es h2
      refine ⟨Nat.succ_le_succ i1, fun a g2 t ha ht => ?_⟩
      cases a with
      | zero =>
        cases ha
        rw [ht] at h1
        exact ⟨e, rfl, ctB_V h1⟩
      | succ a => exact i2 a g2 t ha ht
set_option maxRecDepth 400000 in
theorem tm0_k : tmB sT sG sT mem0 = true := by decide +kernel
theorem tm0 : TM sT sG mem0 := tmB_V sT mem0 tm0_k
noncomputable def zrB (a kd n : Nat) : Bool := match gNth mem0 a with
  | some (.inl (k, .inl l)) => Nat.beq k kd && (l.drop n).all (fun x => iEq x.toInt 0)
  | _ => false
theorem zrB_V {a kd n : Nat} (h : zrB a kd n = true) : ∃ l : List Int32, gNth mem0 a = some (.inl (kd, .inl l)) ∧ ∀ i x, gNth l i = some x → n ≤ i → x = 0 := by
  unfold zrB at h
  split at h
  · rename_i k l e
    obtain ⟨h1, h2⟩ := and_t h
    cases Nat.eq_of_beq_eq_true h1
    refine ⟨l, e, fun i x hx hi => ?_⟩
    have hm : x ∈ l.drop n := by
      rw [nth_eq] at hx
      have h3 : (l.drop n)[i - n]? = some x := by
        rw [List.getElem?_drop, show n + (i - n) = i by omega]
        exact hx
      exact List.mem_of_getElem? h3
    have h4 := iEq_V (List.all_eq_true.mp h2 x hm)
    exact Int32.toInt_inj.mp (show x.toInt = 0 from h4)
  · cases h
set_option maxRecDepth 400000 in
theorem zr0 : (zrB 639 1 0 && zrB 638 3 0 && zrB 635 1 2) = true := by decide +kernel
/-- the reference at its start -/
theorem inv0 : INVr mem0 := by
  obtain ⟨h, z3⟩ := and_t zr0
  obtain ⟨z1, z2⟩ := and_t h
  obtain ⟨lm, a1, a2⟩ := zrB_V z1
  obtain ⟨lb, b1, b2⟩ := zrB_V z2
  obtain ⟨ls, c1, c2⟩ := zrB_V z3
  obtain ⟨lf, d1, _⟩ := tm0.mrow sT_643 rw_71
  obtain ⟨lt, e1, _⟩ := tm0.mrow sT_644 rw_72
  obtain ⟨lp, f1, _⟩ := tm0.mrow sT_645 (and_t (and_t (and_t rwT).1).1).1
  obtain ⟨lk, g1, _⟩ := tm0.mrow sT_more.2.1 rw_64
  refine ⟨tm0, (show P24 mem0 from ⟨lm, lf, lt, lp, a1, d1, e1, f1, fun i v hv _ => ?_⟩), (show P28 mem0 from ⟨1, ls, c1, fun p p1 p2 p3 y hy hy1 => ?_, fun w h n _ _ hn => ?_⟩), (show P32 mem0 from ⟨1, 3, lk, lb, g1, b1, fun k b hb hb0 => absurd (b2 k b hb (Nat.zero_le k)) hb0⟩)⟩
  · have := a2 i v hv (Nat.zero_le i)
    subst this
    have o : (0 : Int32).toInt = 0 := rfl
    exact ⟨by omega, fun j j1 j2 => by omega⟩
  · have := c2 _ _ hy (by omega)
    subst this
    exact absurd hy1 (by decide)
  · have := c2 _ _ hn (by omega)
    subst this
    have o : (0 : Int32).toInt = 0 := rfl
    exact ⟨by omega, fun i j hi => by omega⟩
/-! BY HAND, for any object: reading and writing fields and rows (the class's side) -/
section OBJ
variable {M : Mem} {vs us : List Value} {a b ci cj o : Nat} {ini : Bool} {st : List Value}
theorem gf_c {ix k ty : Nat} {v : Value} (ho : gOwn fRs o ix = some (ci, k, ty)) (hM : gNth M a = some (.inr (ci, vs))) (hv : gNth vs k = some v) : gGet (.getfield ix) none o ini (.ref a :: st) M = some (v :: st, M) := by
  show (match gOwn fRs o ix, gNth M a with
    | some (ci, k, _), some (.inr (c, fs)) => match Nat.beq c ci, gNth fs k with
      | true, some v => some (v :: st, M)
      | _, _ => none
    | _, _ => none) = _
  rw [ho, hM]
  show (match Nat.beq ci ci, gNth vs k with
    | true, some v => some (v :: st, M)
    | _, _ => none) = _
  rw [hv, show Nat.beq ci ci = true from Nat.beq_refl ci]
theorem pf_c {ix k ty : Nat} {y : Int32} (ho : gOwn fRs o ix = some (ci, k, ty)) (hM : gNth M a = some (.inr (ci, vs))) (hl : k < vs.length) (hf : gFin ci k = false) (ht : fits (gTy ci k) (.int y) = true) : gGet (.putfield ix) none o ini (.int y :: .ref a :: st) M = some (st, gPut M a (.inr (ci, gPut vs k (.int y)))) := by
  show (match gOwn fRs o ix, gNth M a with
    | some (ci, k, _), some (.inr (c, fs)) => match Nat.beq c ci && Nat.blt k fs.length && (!gFin ci k || (ini && Nat.beq o ci)) && fits (gTy ci k) (.int y) with
      | true => some (st, gPut M a (.inr (c, gPut fs k (.int y))))
      | _ => none
    | _, _ => none) = _
  rw [ho, hM]
  show (match Nat.beq ci ci && Nat.blt k vs.length && (!gFin ci k || (ini && Nat.beq o ci)) && fits (gTy ci k) (.int y) with
      | true => some (st, gPut M a (.inr (ci, gPut vs k (.int y))))
      | _ => none) = _
  rw [hf, ht, show Nat.blt k vs.length = true from Nat.ble_eq_true_of_le hl, show Nat.beq ci ci = true from Nat.beq_refl ci]
  rfl
theorem ia_c {l : List Int32} {j x : Int32} (hs : gNth M a = some (.inl (1, .inl l))) (h0 : gAt l j = some x) : gGet .iaload none o ini (.int j :: .ref a :: st) M = some (.int x :: st, M) := by
  show (match gNth M a with
    | some (.inl (1, .inl l)) => match gAt l j with
      | some x => some (Value.int x :: st, M)
      | none => none
    | _ => none) = _
  rw [hs]
  show (match gAt l j with
      | some x => some (Value.int x :: st, M)
      | none => none) = _
  rw [h0]
theorem is_c {l : List Int32} {j x z : Int32} (hs : gNth M a = some (.inl (1, .inl l))) (h0 : gAt l j = some x) : gGet .iastore none o ini (.int z :: .int j :: .ref a :: st) M = some (st, gPut M a (.inl (1, .inl (gPut l j.toNatClampNeg z)))) := by
  show (match gNth M a with
    | some (.inl (1, .inl l)) => match gAt l j with
      | some _ => some (st, gPut M a (.inl (1, .inl (gPut l j.toNatClampNeg z))))
      | none => none
    | _ => none) = _
  rw [hs]
  show (match gAt l j with
      | some _ => some (st, gPut M a (.inl (1, .inl (gPut l j.toNatClampNeg z))))
      | none => none) = _
  rw [h0]
theorem aa_c {t : Nat} {l : List (Option Nat)} {j : Int32} (hs : gNth M a = some (.inl (t, .inr (.inr l)))) (h0 : gAt l j = some (some b)) (ht : (Nat.ble 4 t && Nat.ble t 8) = true) : gGet .aaload none o ini (.int j :: .ref a :: st) M = some (.ref b :: st, M) := by
  show (match gNth M a with
    | some (.inl (t, .inr (.inr l))) => match gAt l j with
      | some x => cond (Nat.ble 4 t && Nat.ble t 8) (some (va_rf x :: st, M)) none
      | none => none
    | _ => none) = _
  rw [hs]
  show (match gAt l j with
      | some x => cond (Nat.ble 4 t && Nat.ble t 8) (some (va_rf x :: st, M)) none
      | none => none) = _
  rw [h0, ht]
  rfl
theorem as_c {t : Nat} {l : List (Option Nat)} {x : Option Nat} {j : Int32} (hs : gNth M a = some (.inl (t, .inr (.inr l)))) (hb : gNth M b = some (.inr (cj, us))) (h0 : gAt l j = some x) (ht : gEl t = cj) : gGet .aastore none o ini (.ref b :: .int j :: .ref a :: st) M = some (st, gPut M a (.inl (t, .inr (.inr (gPut l j.toNatClampNeg (some b)))))) := by
  show (match gNth M a, gNth M b with
    | some (.inl (t, .inr (.inr l))), some (.inr (c, _)) => match gAt l j with
      | some _ => cond (Nat.beq (gEl t) c) (some (st, gPut M a (.inl (t, .inr (.inr (gPut l j.toNatClampNeg (some b))))))) none
      | none => none
    | _, _ => none) = _
  rw [hs, hb]
  show (match gAt l j with
      | some _ => cond (Nat.beq (gEl t) cj) (some (st, gPut M a (.inl (t, .inr (.inr (gPut l j.toNatClampNeg (some b))))))) none
      | none => none) = _
  rw [h0, ht, show Nat.beq cj cj = true from Nat.beq_refl cj]
  rfl
theorem recv_c (hM : gNth M a = some (.inr (ci, vs))) : gRecv M (.ref a) ci = true := by
  show (match gNth M a with
    | some (.inr (c, _)) => Nat.beq c ci
    | _ => false) = true
  rw [hM]
  exact Nat.beq_refl ci
/-- an object of a group: its fields -/
theorem TM.obj {g : Nat} {fs : List FT} (hT : TM sT sG M) (ha : gNth sT a = some g) (hg : gNth sG g = some (.inl (ci, fs))) : ∃ vs, gNth M a = some (.inr (ci, vs)) ∧ vs.length = fs.length ∧ ∀ k ft, gNth fs k = some ft → ∃ v, gNth vs k = some v ∧ ftOK sT ft v := by
  obtain ⟨e, e1, vs, rfl, e2, e3⟩ := hT.at ha hg
  exact ⟨vs, e1, e2, e3⟩
/-- a field of it is written -/
theorem TM.oput {g k : Nat} {fs : List FT} {ft : FT} {v : Value} (hT : TM sT sG M) (ha : gNth sT a = some g) (hg : gNth sG g = some (.inl (ci, fs))) (hM : gNth M a = some (.inr (ci, vs))) (hk : gNth fs k = some ft) (hv : ftOK sT ft v) : TM sT sG (gPut M a (.inr (ci, gPut vs k v))) := by
  obtain ⟨vs2, e1, e2, e3⟩ := hT.obj ha hg
  cases e1.symm.trans hM
  refine hT.put (fun g2 t q1 q2 => ?_)
  rw [ha] at q1
  cases q1
  rw [hg] at q2
  cases q2
  refine ⟨_, rfl, by rw [put_len]; exact e2, fun j fj hj => ?_⟩
  rw [nth_put]
  by_cases hjk : j = k ∧ k < vs.length
  · rw [if_pos hjk]
    rw [hjk.1] at hj
    cases hk.symm.trans hj
    exact ⟨v, rfl, hv⟩
  · rw [if_neg hjk]
    exact e3 j fj hj
end OBJ
/-! BY HAND, the class: sweep (its pieces) -/
theorem sw_0 {e : Nat} {M : Mem} {M' : Mem} {v : Option Value} {w : Nat} {x1 x2 x3 : Option Value}  (hz : Ev none e 61 4 [some (.ref w), some (.int 0), some (.int 0), x3] [] M v M' 0 0) : Ev none e 61 0 [some (.ref w), x1, x2, x3] [] M v M' 0 0 := by
  refine Ev.step (pc' := 4) (ls' := [some (.ref w), some (.int 0), some (.int 0), x3]) (st' := []) (M1 := M) 4 (fun n => rfl) ?_
  exact hz
theorem sw_4 {e : Nat} {M : Mem} {M' : Mem} {v : Option Value} {va2 vw : List Value} {i s y4 : Int32} {a2 w : Nat} {x3 : Option Value} (hw : gNth M w = some (.inr (7, vw))) (f1 : gNth vw 7 = some (.ref a2)) (ha2 : gNth M a2 = some (.inr (1, va2))) (f3 : gNth va2 15 = some (.int y4)) (hz : Ev none e 61 (if y4 ≤ i then 70 else 15) [some (.ref w), some (.int s), some (.int i), x3] [] M v M' 0 0) : Ev none e 61 4 [some (.ref w), some (.int s), some (.int i), x3] [] M v M' 0 0 := by
  refine Ev.step (pc' := 6) (ls' := [some (.ref w), some (.int s), some (.int i), x3]) (st' := [.ref w, .int i]) (M1 := M) 2 (fun n => rfl) ?_
  refine Ev.step 1 (gs_3 rfl rfl (gf_c rfl hw f1)) ?_
  refine Ev.step 1 (gs_3 rfl rfl (gf_c rfl ha2 f3)) ?_
  refine Ev.step (pc' := (if y4 ≤ i then 70 else 15)) (ls' := [some (.ref w), some (.int s), some (.int i), x3]) (st' := []) (M1 := M) 1 (fun n => rfl) ?_
  exact hz
theorem sw_15 {e : Nat} {M : Mem} {M' : Mem} {v : Option Value} {va2 va6 vw : List Value} {i s y8 : Int32} {a2 a4 a6 w : Nat} {la4 : List (Option Nat)} {x3 : Option Value} (hw : gNth M w = some (.inr (7, vw))) (f1 : gNth vw 7 = some (.ref a2)) (ha2 : gNth M a2 = some (.inr (1, va2))) (f3 : gNth va2 14 = some (.ref a4)) (ra4 : gNth M a4 = some (.inl (6, .inr (.inr la4)))) (g5 : gAt la4 i = some (some a6)) (ha6 : gNth M a6 = some (.inr (8, va6))) (f7 : gNth va6 0 = some (.int y8)) (hz : Ev none e 61 (if y8 = (-1) then 64 else 33) [some (.ref w), some (.int s), some (.int i), some (.ref a6)] [] M v M' 0 0) : Ev none e 61 15 [some (.ref w), some (.int s), some (.int i), x3] [] M v M' 0 0 := by
  refine Ev.step (pc' := 16) (ls' := [some (.ref w), some (.int s), some (.int i), x3]) (st' := [.ref w]) (M1 := M) 1 (fun n => rfl) ?_
  refine Ev.step 1 (gs_3 rfl rfl (gf_c rfl hw f1)) ?_
  refine Ev.step 1 (gs_3 rfl rfl (gf_c rfl ha2 f3)) ?_
  refine Ev.step (pc' := 23) (ls' := [some (.ref w), some (.int s), some (.int i), x3]) (st' := [.int i, .ref a4]) (M1 := M) 1 (fun n => rfl) ?_
  refine Ev.step 1 (gs_3 rfl rfl (aa_c ra4 g5 rfl)) ?_
  refine Ev.step (pc' := 26) (ls' := [some (.ref w), some (.int s), some (.int i), some (.ref a6)]) (st' := [.ref a6]) (M1 := M) 2 (fun n => rfl) ?_
  refine Ev.step 1 (gs_3 rfl rfl (gf_c rfl ha6 f7)) ?_
  refine Ev.step (pc' := (if y8 = (-1) then 64 else 33)) (ls' := [some (.ref w), some (.int s), some (.int i), some (.ref a6)]) (st' := []) (M1 := M) 2 (fun n => rfl) ?_
  exact hz
theorem sw_33 {e : Nat} {M : Mem} {M' : Mem} {v : Option Value} {va2 va6 vw : List Value} {i s : Int32} {a2 a4 a6 a8 o w : Nat} {la4 : List (Option Nat)} (hw : gNth M w = some (.inr (7, vw))) (f1 : gNth vw 7 = some (.ref a2)) (ha2 : gNth M a2 = some (.inr (1, va2))) (f3 : gNth va2 14 = some (.ref a4)) (ra4 : gNth M a4 = some (.inl (6, .inr (.inr la4)))) (g5 : gAt la4 s = some (some a6)) (ha6 : gNth M a6 = some (.inr (8, va6))) (g7 : gAt la4 i = some (some a8)) (hz : Ev none e 61 51 [some (.ref w), some (.int s), some (.int i), some (.ref o)] [] (gPut M a4 (.inl (6, .inr (.inr (gPut la4 i.toNatClampNeg (some a6)))))) v M' 0 0) : Ev none e 61 33 [some (.ref w), some (.int s), some (.int i), some (.ref o)] [] M v M' 0 0 := by
  refine Ev.step (pc' := 34) (ls' := [some (.ref w), some (.int s), some (.int i), some (.ref o)]) (st' := [.ref w]) (M1 := M) 1 (fun n => rfl) ?_
  refine Ev.step 1 (gs_3 rfl rfl (gf_c rfl hw f1)) ?_
  refine Ev.step 1 (gs_3 rfl rfl (gf_c rfl ha2 f3)) ?_
  refine Ev.step (pc' := 42) (ls' := [some (.ref w), some (.int s), some (.int i), some (.ref o)]) (st' := [.ref w, .int i, .ref a4]) (M1 := M) 2 (fun n => rfl) ?_
  refine Ev.step 1 (gs_3 rfl rfl (gf_c rfl hw f1)) ?_
  refine Ev.step 1 (gs_3 rfl rfl (gf_c rfl ha2 f3)) ?_
  refine Ev.step (pc' := 49) (ls' := [some (.ref w), some (.int s), some (.int i), some (.ref o)]) (st' := [.int s, .ref a4, .int i, .ref a4]) (M1 := M) 1 (fun n => rfl) ?_
  refine Ev.step 1 (gs_3 rfl rfl (aa_c ra4 g5 rfl)) ?_
  refine Ev.step 1 (gs_4 rfl rfl (as_c ra4 ha6 g7 rfl)) ?_
  exact hz
theorem sw_51 {e : Nat} {M : Mem} {M' : Mem} {v : Option Value} {va2 vo vw : List Value} {i s : Int32} {a2 a4 a6 o w : Nat} {la4 : List (Option Nat)} (hw : gNth M w = some (.inr (7, vw))) (f1 : gNth vw 7 = some (.ref a2)) (ha2 : gNth M a2 = some (.inr (1, va2))) (f3 : gNth va2 14 = some (.ref a4)) (ra4 : gNth M a4 = some (.inl (6, .inr (.inr la4)))) (ho : gNth M o = some (.inr (8, vo))) (g5 : gAt la4 s = some (some a6)) (hz : Ev none e 61 4 [some (.ref w), some (.int (s + 1)), some (.int (i + 1)), some (.ref o)] [] (gPut M a4 (.inl (6, .inr (.inr (gPut la4 s.toNatClampNeg (some o)))))) v M' 0 0) : Ev none e 61 51 [some (.ref w), some (.int s), some (.int i), some (.ref o)] [] M v M' 0 0 := by
  refine Ev.step (pc' := 52) (ls' := [some (.ref w), some (.int s), some (.int i), some (.ref o)]) (st' := [.ref w]) (M1 := M) 1 (fun n => rfl) ?_
  refine Ev.step 1 (gs_3 rfl rfl (gf_c rfl hw f1)) ?_
  refine Ev.step 1 (gs_3 rfl rfl (gf_c rfl ha2 f3)) ?_
  refine Ev.step (pc' := 60) (ls' := [some (.ref w), some (.int s), some (.int i), some (.ref o)]) (st' := [.ref o, .int s, .ref a4]) (M1 := M) 2 (fun n => rfl) ?_
  refine Ev.step 1 (gs_4 rfl rfl (as_c ra4 ho g5 rfl)) ?_
  refine Ev.step (pc' := 4) (ls' := [some (.ref w), some (.int (s + 1)), some (.int (i + 1)), some (.ref o)]) (st' := []) (M1 := (gPut M a4 (.inl (6, .inr (.inr (gPut la4 s.toNatClampNeg (some o))))))) 3 (fun n => rfl) ?_
  exact hz
theorem sw_64 {e : Nat} {M : Mem} {M' : Mem} {v : Option Value} {i s : Int32} {o w : Nat}  (hz : Ev none e 61 4 [some (.ref w), some (.int s), some (.int (i + 1)), some (.ref o)] [] M v M' 0 0) : Ev none e 61 64 [some (.ref w), some (.int s), some (.int i), some (.ref o)] [] M v M' 0 0 := by
  refine Ev.step (pc' := 4) (ls' := [some (.ref w), some (.int s), some (.int (i + 1)), some (.ref o)]) (st' := []) (M1 := M) 2 (fun n => rfl) ?_
  exact hz
theorem sw_70 {e : Nat} {M : Mem} {va2 vw : List Value} {i s : Int32} {a2 w : Nat} {x3 : Option Value} (hw : gNth M w = some (.inr (7, vw))) (f1 : gNth vw 7 = some (.ref a2)) (ha2 : gNth M a2 = some (.inr (1, va2))) (hla2 : 15 < va2.length) : Ev none e 61 70 [some (.ref w), some (.int s), some (.int i), x3] [] M none (gPut M a2 (.inr (1, gPut va2 15 (.int s)))) 0 0 := by
  refine Ev.step (pc' := 71) (ls' := [some (.ref w), some (.int s), some (.int i), x3]) (st' := [.ref w]) (M1 := M) 1 (fun n => rfl) ?_
  refine Ev.step 1 (gs_3 rfl rfl (gf_c rfl hw f1)) ?_
  refine Ev.step (pc' := 75) (ls' := [some (.ref w), some (.int s), some (.int i), x3]) (st' := [.int s, .ref a2]) (M1 := M) 1 (fun n => rfl) ?_
  refine Ev.step 1 (gs_4 rfl rfl (pf_c rfl ha2 hla2 rfl rfl)) ?_
  exact Ev.ret (fun n => rfl)
/-! BY HAND, the class: leaveIfDone, Walker.begin (their pieces) -/
theorem ld_0 {e : Nat} {M : Mem} {M' : Mem} {v : Option Value} {vo : List Value} {gl y2 : Int32} {o w : Nat} {x3 : Option Value} (ho : gNth M o = some (.inr (8, vo))) (f1 : gNth vo 0 = some (.int y2)) (hz : Ev none e 60 (if y2 = gl then 8 else 12) [some (.ref w), some (.ref o), some (.int gl), x3] [] M v M' 0 0) : Ev none e 60 0 [some (.ref w), some (.ref o), some (.int gl), x3] [] M v M' 0 0 := by
  refine Ev.step (pc' := 1) (ls' := [some (.ref w), some (.ref o), some (.int gl), x3]) (st' := [.ref o]) (M1 := M) 1 (fun n => rfl) ?_
  refine Ev.step 1 (gs_3 rfl rfl (gf_c rfl ho f1)) ?_
  refine Ev.step (pc' := (if y2 = gl then 8 else 12)) (ls' := [some (.ref w), some (.ref o), some (.int gl), x3]) (st' := []) (M1 := M) 2 (fun n => rfl) ?_
  exact hz
theorem ld_8 {e : Nat} {M : Mem} {M' : Mem} {v : Option Value} {gl : Int32} {o w : Nat} {x3 : Option Value}  (hz : Ev none e 60 (if 1 = 0 then 18 else 29) [some (.ref w), some (.ref o), some (.int gl), some (.int 1)] [] M v M' 0 0) : Ev none e 60 8 [some (.ref w), some (.ref o), some (.int gl), x3] [] M v M' 0 0 := by
  refine Ev.step (pc' := (if 1 = 0 then 18 else 29)) (ls' := [some (.ref w), some (.ref o), some (.int gl), some (.int 1)]) (st' := []) (M1 := M) 5 (fun n => rfl) ?_
  exact hz
theorem ld_12 {e : Nat} {M : Mem} {M' : Mem} {v : Option Value} {gl : Int32} {o w : Nat} {x3 : Option Value}  (hz : Ev none e 60 (if 0 = 0 then 18 else 29) [some (.ref w), some (.ref o), some (.int gl), some (.int 0)] [] M v M' 0 0) : Ev none e 60 12 [some (.ref w), some (.ref o), some (.int gl), x3] [] M v M' 0 0 := by
  refine Ev.step (pc' := (if 0 = 0 then 18 else 29)) (ls' := [some (.ref w), some (.ref o), some (.int gl), some (.int 0)]) (st' := []) (M1 := M) 4 (fun n => rfl) ?_
  exact hz
theorem ld_18 {e : Nat} {M : Mem} {M' : Mem} {v : Option Value} {vo : List Value} {ar gl y2 : Int32} {o w : Nat} (ho : gNth M o = some (.inr (8, vo))) (f1 : gNth vo 2 = some (.int y2)) (hz : Ev none e 60 (if 200 ≤ y2 then 29 else 28) [some (.ref w), some (.ref o), some (.int gl), some (.int ar)] [] M v M' 0 0) : Ev none e 60 18 [some (.ref w), some (.ref o), some (.int gl), some (.int ar)] [] M v M' 0 0 := by
  refine Ev.step (pc' := 19) (ls' := [some (.ref w), some (.ref o), some (.int gl), some (.int ar)]) (st' := [.ref o]) (M1 := M) 1 (fun n => rfl) ?_
  refine Ev.step 1 (gs_3 rfl rfl (gf_c rfl ho f1)) ?_
  refine Ev.step (pc' := (if 200 ≤ y2 then 29 else 28)) (ls' := [some (.ref w), some (.ref o), some (.int gl), some (.int ar)]) (st' := []) (M1 := M) 2 (fun n => rfl) ?_
  exact hz
theorem ld_28 {e : Nat} {M : Mem} {ar gl : Int32} {o w : Nat}  : Ev none e 60 28 [some (.ref w), some (.ref o), some (.int gl), some (.int ar)] [] M none M 0 0 := by
  exact Ev.ret (fun n => rfl)
theorem ld_29 {e : Nat} {M : Mem} {M' : Mem} {v : Option Value} {va2 vw : List Value} {ar gl y4 : Int32} {a2 o w : Nat} (hw : gNth M w = some (.inr (7, vw))) (f1 : gNth vw 7 = some (.ref a2)) (ha2 : gNth M a2 = some (.inr (1, va2))) (f3 : gNth va2 17 = some (.int y4)) (hz : Ev none e 60 (if ar = 0 then 45 else 41) [some (.ref w), some (.ref o), some (.int gl), some (.int ar)] [.int y4, .ref a2] M v M' 0 0) : Ev none e 60 29 [some (.ref w), some (.ref o), some (.int gl), some (.int ar)] [] M v M' 0 0 := by
  refine Ev.step (pc' := 30) (ls' := [some (.ref w), some (.ref o), some (.int gl), some (.int ar)]) (st' := [.ref w]) (M1 := M) 1 (fun n => rfl) ?_
  refine Ev.step 1 (gs_3 rfl rfl (gf_c rfl hw f1)) ?_
  refine Ev.step (pc' := 34) (ls' := [some (.ref w), some (.ref o), some (.int gl), some (.int ar)]) (st' := [.ref a2, .ref a2]) (M1 := M) 1 (fun n => rfl) ?_
  refine Ev.step 1 (gs_3 rfl rfl (gf_c rfl ha2 f3)) ?_
  refine Ev.step (pc' := (if ar = 0 then 45 else 41)) (ls' := [some (.ref w), some (.ref o), some (.int gl), some (.int ar)]) (st' := [.int y4, .ref a2]) (M1 := M) 2 (fun n => rfl) ?_
  exact hz
theorem ld_41 {e : Nat} {M : Mem} {M' : Mem} {v : Option Value} {vld : List Value} {ar gl u : Int32} {ld o w : Nat} (hld : gNth M ld = some (.inr (1, vld))) (hlld : 17 < vld.length) (hz : Ev none e 60 50 [some (.ref w), some (.ref o), some (.int gl), some (.int ar)] [] (gPut M ld (.inr (1, gPut vld 17 (.int (u + 1))))) v M' 0 0) : Ev none e 60 41 [some (.ref w), some (.ref o), some (.int gl), some (.int ar)] [.int u, .ref ld] M v M' 0 0 := by
  refine Ev.step (pc' := 47) (ls' := [some (.ref w), some (.ref o), some (.int gl), some (.int ar)]) (st' := [.int (u + 1), .ref ld]) (M1 := M) 3 (fun n => rfl) ?_
  refine Ev.step 1 (gs_4 rfl rfl (pf_c rfl hld hlld rfl rfl)) ?_
  exact hz
theorem ld_45 {e : Nat} {M : Mem} {M' : Mem} {v : Option Value} {vld : List Value} {ar gl u : Int32} {ld o w : Nat} (hld : gNth M ld = some (.inr (1, vld))) (hlld : 17 < vld.length) (hz : Ev none e 60 50 [some (.ref w), some (.ref o), some (.int gl), some (.int ar)] [] (gPut M ld (.inr (1, gPut vld 17 (.int (u + 0))))) v M' 0 0) : Ev none e 60 45 [some (.ref w), some (.ref o), some (.int gl), some (.int ar)] [.int u, .ref ld] M v M' 0 0 := by
  refine Ev.step (pc' := 47) (ls' := [some (.ref w), some (.ref o), some (.int gl), some (.int ar)]) (st' := [.int (u + 0), .ref ld]) (M1 := M) 2 (fun n => rfl) ?_
  refine Ev.step 1 (gs_4 rfl rfl (pf_c rfl hld hlld rfl rfl)) ?_
  exact hz
theorem ld_50 {e : Nat} {M : Mem} {M' : Mem} {v : Option Value} {va2 vw : List Value} {ar gl y4 : Int32} {a2 o w : Nat} (hw : gNth M w = some (.inr (7, vw))) (f1 : gNth vw 7 = some (.ref a2)) (ha2 : gNth M a2 = some (.inr (1, va2))) (f3 : gNth va2 18 = some (.int y4)) (hz : Ev none e 60 (if ar = 0 then 66 else 62) [some (.ref w), some (.ref o), some (.int gl), some (.int ar)] [.int y4, .ref a2] M v M' 0 0) : Ev none e 60 50 [some (.ref w), some (.ref o), some (.int gl), some (.int ar)] [] M v M' 0 0 := by
  refine Ev.step (pc' := 51) (ls' := [some (.ref w), some (.ref o), some (.int gl), some (.int ar)]) (st' := [.ref w]) (M1 := M) 1 (fun n => rfl) ?_
  refine Ev.step 1 (gs_3 rfl rfl (gf_c rfl hw f1)) ?_
  refine Ev.step (pc' := 55) (ls' := [some (.ref w), some (.ref o), some (.int gl), some (.int ar)]) (st' := [.ref a2, .ref a2]) (M1 := M) 1 (fun n => rfl) ?_
  refine Ev.step 1 (gs_3 rfl rfl (gf_c rfl ha2 f3)) ?_
  refine Ev.step (pc' := (if ar = 0 then 66 else 62)) (ls' := [some (.ref w), some (.ref o), some (.int gl), some (.int ar)]) (st' := [.int y4, .ref a2]) (M1 := M) 2 (fun n => rfl) ?_
  exact hz
theorem ld_62 {e : Nat} {M : Mem} {M' : Mem} {v : Option Value} {vld : List Value} {ar gl u : Int32} {ld o w : Nat} (hld : gNth M ld = some (.inr (1, vld))) (hlld : 18 < vld.length) (hz : Ev none e 60 71 [some (.ref w), some (.ref o), some (.int gl), some (.int ar)] [] (gPut M ld (.inr (1, gPut vld 18 (.int (u + 0))))) v M' 0 0) : Ev none e 60 62 [some (.ref w), some (.ref o), some (.int gl), some (.int ar)] [.int u, .ref ld] M v M' 0 0 := by
  refine Ev.step (pc' := 68) (ls' := [some (.ref w), some (.ref o), some (.int gl), some (.int ar)]) (st' := [.int (u + 0), .ref ld]) (M1 := M) 3 (fun n => rfl) ?_
  refine Ev.step 1 (gs_4 rfl rfl (pf_c rfl hld hlld rfl rfl)) ?_
  exact hz
theorem ld_66 {e : Nat} {M : Mem} {M' : Mem} {v : Option Value} {vld : List Value} {ar gl u : Int32} {ld o w : Nat} (hld : gNth M ld = some (.inr (1, vld))) (hlld : 18 < vld.length) (hz : Ev none e 60 71 [some (.ref w), some (.ref o), some (.int gl), some (.int ar)] [] (gPut M ld (.inr (1, gPut vld 18 (.int (u + 1))))) v M' 0 0) : Ev none e 60 66 [some (.ref w), some (.ref o), some (.int gl), some (.int ar)] [.int u, .ref ld] M v M' 0 0 := by
  refine Ev.step (pc' := 68) (ls' := [some (.ref w), some (.ref o), some (.int gl), some (.int ar)]) (st' := [.int (u + 1), .ref ld]) (M1 := M) 2 (fun n => rfl) ?_
  refine Ev.step 1 (gs_4 rfl rfl (pf_c rfl hld hlld rfl rfl)) ?_
  exact hz
theorem ld_71 {e : Nat} {M : Mem} {M' : Mem} {v : Option Value} {va2 vo vw : List Value} {ar gl y6 y8 : Int32} {a2 a4 o w : Nat} {la4 : List Int32} (hw : gNth M w = some (.inr (7, vw))) (f1 : gNth vw 7 = some (.ref a2)) (ha2 : gNth M a2 = some (.inr (1, va2))) (f3 : gNth va2 9 = some (.ref a4)) (ho : gNth M o = some (.inr (8, vo))) (f5 : gNth vo 0 = some (.int y6)) (ra4 : gNth M a4 = some (.inl (1, .inl la4))) (g7 : gAt la4 y6 = some y8) (hz : Ev none e 60 87 [some (.ref w), some (.ref o), some (.int gl), some (.int ar)] [] (gPut M a4 (.inl (1, .inl (gPut la4 y6.toNatClampNeg (y8 - 1))))) v M' 0 0) : Ev none e 60 71 [some (.ref w), some (.ref o), some (.int gl), some (.int ar)] [] M v M' 0 0 := by
  refine Ev.step (pc' := 72) (ls' := [some (.ref w), some (.ref o), some (.int gl), some (.int ar)]) (st' := [.ref w]) (M1 := M) 1 (fun n => rfl) ?_
  refine Ev.step 1 (gs_3 rfl rfl (gf_c rfl hw f1)) ?_
  refine Ev.step 1 (gs_3 rfl rfl (gf_c rfl ha2 f3)) ?_
  refine Ev.step (pc' := 79) (ls' := [some (.ref w), some (.ref o), some (.int gl), some (.int ar)]) (st' := [.ref o, .ref a4]) (M1 := M) 1 (fun n => rfl) ?_
  refine Ev.step 1 (gs_3 rfl rfl (gf_c rfl ho f5)) ?_
  refine Ev.step (pc' := 83) (ls' := [some (.ref w), some (.ref o), some (.int gl), some (.int ar)]) (st' := [.int y6, .ref a4, .int y6, .ref a4]) (M1 := M) 1 (fun n => rfl) ?_
  refine Ev.step 1 (gs_3 rfl rfl (ia_c ra4 g7)) ?_
  refine Ev.step (pc' := 86) (ls' := [some (.ref w), some (.ref o), some (.int gl), some (.int ar)]) (st' := [.int (y8 - 1), .int y6, .ref a4]) (M1 := M) 2 (fun n => rfl) ?_
  refine Ev.step 1 (gs_4 rfl rfl (is_c ra4 g7)) ?_
  exact hz
theorem ld_87 {e : Nat} {M : Mem} {vo : List Value} {ar gl : Int32} {o w : Nat} (ho : gNth M o = some (.inr (8, vo))) (hlo : 0 < vo.length) : Ev none e 60 87 [some (.ref w), some (.ref o), some (.int gl), some (.int ar)] [] M none (gPut M o (.inr (8, gPut vo 0 (.int (-1))))) 0 0 := by
  refine Ev.step (pc' := 89) (ls' := [some (.ref w), some (.ref o), some (.int gl), some (.int ar)]) (st' := [.int (-1), .ref o]) (M1 := M) 2 (fun n => rfl) ?_
  refine Ev.step 1 (gs_4 rfl rfl (pf_c rfl ho hlo rfl rfl)) ?_
  exact Ev.ret (fun n => rfl)
theorem wb_0 {e : Nat} {M : Mem} {M' : Mem} {v : Option Value} {vo : List Value} {c k : Int32} {o : Nat} (ho : gNth M o = some (.inr (8, vo))) (hlo : 0 < vo.length) (hz : Ev none e 73 5 [some (.ref o), some (.int c), some (.int k)] [] (gPut M o (.inr (8, gPut vo 0 (.int c)))) v M' 0 0) : Ev none e 73 0 [some (.ref o), some (.int c), some (.int k)] [] M v M' 0 0 := by
  refine Ev.step (pc' := 2) (ls' := [some (.ref o), some (.int c), some (.int k)]) (st' := [.int c, .ref o]) (M1 := M) 2 (fun n => rfl) ?_
  refine Ev.step 1 (gs_4 rfl rfl (pf_c rfl ho hlo rfl rfl)) ?_
  exact hz
theorem wb_5 {e : Nat} {M : Mem} {M' : Mem} {v : Option Value} {vo : List Value} {c k : Int32} {o : Nat} (ho : gNth M o = some (.inr (8, vo))) (hlo : 1 < vo.length) (hz : Ev none e 73 10 [some (.ref o), some (.int c), some (.int k)] [] (gPut M o (.inr (8, gPut vo 1 (.int k)))) v M' 0 0) : Ev none e 73 5 [some (.ref o), some (.int c), some (.int k)] [] M v M' 0 0 := by
  refine Ev.step (pc' := 7) (ls' := [some (.ref o), some (.int c), some (.int k)]) (st' := [.int k, .ref o]) (M1 := M) 2 (fun n => rfl) ?_
  refine Ev.step 1 (gs_4 rfl rfl (pf_c rfl ho hlo rfl rfl)) ?_
  exact hz
theorem wb_10 {e : Nat} {M : Mem} {M' : Mem} {v : Option Value} {vo : List Value} {c k : Int32} {o : Nat} (ho : gNth M o = some (.inr (8, vo))) (hlo : 2 < vo.length) (hz : Ev none e 73 15 [some (.ref o), some (.int c), some (.int k)] [] (gPut M o (.inr (8, gPut vo 2 (.int 0)))) v M' 0 0) : Ev none e 73 10 [some (.ref o), some (.int c), some (.int k)] [] M v M' 0 0 := by
  refine Ev.step (pc' := 12) (ls' := [some (.ref o), some (.int c), some (.int k)]) (st' := [.int 0, .ref o]) (M1 := M) 2 (fun n => rfl) ?_
  refine Ev.step 1 (gs_4 rfl rfl (pf_c rfl ho hlo rfl rfl)) ?_
  exact hz
theorem wb_15 {e : Nat} {M : Mem} {M' : Mem} {v : Option Value} {vo : List Value} {c k : Int32} {o : Nat} (ho : gNth M o = some (.inr (8, vo))) (hlo : 3 < vo.length) (hz : Ev none e 73 20 [some (.ref o), some (.int c), some (.int k)] [] (gPut M o (.inr (8, gPut vo 3 (.int (-1))))) v M' 0 0) : Ev none e 73 15 [some (.ref o), some (.int c), some (.int k)] [] M v M' 0 0 := by
  refine Ev.step (pc' := 17) (ls' := [some (.ref o), some (.int c), some (.int k)]) (st' := [.int (-1), .ref o]) (M1 := M) 2 (fun n => rfl) ?_
  refine Ev.step 1 (gs_4 rfl rfl (pf_c rfl ho hlo rfl rfl)) ?_
  exact hz
theorem wb_20 {e : Nat} {M : Mem} {vo : List Value} {c k : Int32} {o : Nat} (ho : gNth M o = some (.inr (8, vo))) (hlo : 4 < vo.length) : Ev none e 73 20 [some (.ref o), some (.int c), some (.int k)] [] M none (gPut M o (.inr (8, gPut vo 4 (.int (-1))))) 0 0 := by
  refine Ev.step (pc' := 22) (ls' := [some (.ref o), some (.int c), some (.int k)]) (st' := [.int (-1), .ref o]) (M1 := M) 2 (fun n => rfl) ?_
  refine Ev.step 1 (gs_4 rfl rfl (pf_c rfl ho hlo rfl rfl)) ?_
  exact Ev.ret (fun n => rfl)
/-! BY HAND, the class: sweep -/
/-- two places of a row change places -/
noncomputable def swp (l : List (Option Nat)) (i s : Nat) (a b : Nat) : List (Option Nat) := gPut (gPut l i (some a)) s (some b)
theorem swp_at {l : List (Option Nat)} {i s a b k : Nat} (hi : gNth l i = some (some b)) (hs : gNth l s = some (some a)) : gNth (swp l i s a b) k = if k = s then some (some b) else if k = i then some (some a) else gNth l k := by
  have h1 := gNth_lt _ _ _ hi
  have h2 := gNth_lt _ _ _ hs
  unfold swp
  rw [nth_put, nth_put, put_len]
  by_cases c1 : k = s
  · rw [if_pos ⟨c1, h2⟩, if_pos c1]
  · rw [if_neg (fun q => c1 q.1), if_neg c1]
    by_cases c2 : k = i
    · rw [if_pos ⟨c2, h1⟩, if_pos c2]
    · rw [if_neg (fun q => c2 q.1), if_neg c2]
theorem swp_unl {l : List (Option Nat)} {i s a b : Nat} (h : unl l) (hi : gNth l i = some (some b)) (hs : gNth l s = some (some a)) : unl (swp l i s a b) := by
  have src : ∀ k c, gNth (swp l i s a b) k = some (some c) → gNth l (if k = s then i else if k = i then s else k) = some (some c) := by
    intro k c hk
    rw [swp_at hi hs] at hk
    by_cases c1 : k = s
    · rw [if_pos c1] at hk ⊢
      rw [hi]; exact hk
    · rw [if_neg c1] at hk ⊢
      by_cases c2 : k = i
      · rw [if_pos c2] at hk ⊢
        rw [hs]; exact hk
      · rw [if_neg c2] at hk ⊢
        exact hk
  intro j k c hj hk
  have e := h _ _ c (src j c hj) (src k c hk)
  by_cases j1 : j = s
  · rw [if_pos j1] at e
    by_cases k1 : k = s
    · omega
    · rw [if_neg k1] at e
      by_cases k2 : k = i
      · rw [if_pos k2] at e; omega
      · rw [if_neg k2] at e; omega
  · rw [if_neg j1] at e
    by_cases j2 : j = i
    · rw [if_pos j2] at e
      by_cases k1 : k = s
      · rw [if_pos k1] at e; omega
      · rw [if_neg k1] at e
        by_cases k2 : k = i
        · omega
        · rw [if_neg k2] at e; omega
    · rw [if_neg j2] at e
      by_cases k1 : k = s
      · rw [if_pos k1] at e; omega
      · rw [if_neg k1] at e
        by_cases k2 : k = i
        · rw [if_pos k2] at e; omega
        · rw [if_neg k2] at e; exact e
theorem swp_mem {l : List (Option Nat)} {i s a b c : Nat} (hi : gNth l i = some (some b)) (hs : gNth l s = some (some a)) : (∃ k, gNth (swp l i s a b) k = some (some c)) ↔ ∃ k, gNth l k = some (some c) := by
  constructor
  · rintro ⟨k, hk⟩
    rw [swp_at hi hs] at hk
    by_cases c1 : k = s
    · rw [if_pos c1] at hk
      exact ⟨i, by rw [hi]; exact hk⟩
    · rw [if_neg c1] at hk
      by_cases c2 : k = i
      · rw [if_pos c2] at hk
        exact ⟨s, by rw [hs]; exact hk⟩
      · rw [if_neg c2] at hk
        exact ⟨k, hk⟩
  · rintro ⟨k, hk⟩
    by_cases c1 : k = s
    · refine ⟨i, ?_⟩
      rw [swp_at hi hs]
      subst c1
      by_cases c2 : i = k
      · rw [if_pos c2, ← hk, ← c2, hi]
      · rw [if_neg c2, if_pos rfl, ← hk, hs]
    · by_cases c2 : k = i
      · refine ⟨s, ?_⟩
        rw [swp_at hi hs, if_pos rfl, ← hk, c2, hi]
      · exact ⟨k, by rw [swp_at hi hs, if_neg c1, if_neg c2]; exact hk⟩
/-! WHAT THE LAYOUT TELLS of any object's field, of any row of references -/
noncomputable def fdB (g ci k g2 : Nat) : Bool := match gNth sG g with
  | some (.inl (c, fs)) => Nat.beq c ci && (match gNth fs k with
    | some (.inr n) => Nat.beq n (2 * g2 + 1)
    | _ => false)
  | _ => false
noncomputable def fiB (g ci k : Nat) (lo hi : Int) : Bool := match gNth sG g with
  | some (.inl (c, fs)) => Nat.beq c ci && (match gNth fs k with
    | some (.inl (a, b)) => decide (a = lo) && decide (b = hi)
    | _ => false)
  | _ => false
noncomputable def rrB (g kd n g2 : Nat) : Bool := match gNth sG g with
  | some (.inr (q, m, .inr h)) => !Nat.beq q 2 && (Nat.beq q kd && (Nat.beq m n && Nat.beq h g2))
  | _ => false
theorem TM.fref {M : Mem} {a g ci k g2 : Nat} (hT : TM sT sG M) (ha : gNth sT a = some g) (hB : fdB g ci k g2 = true) : ∃ vs b, gNth M a = some (.inr (ci, vs)) ∧ gNth vs k = some (.ref b) ∧ gNth sT b = some g2 := by
  unfold fdB at hB
  split at hB
  rotate_left
  · cases hB
  rename_i c fs e
  obtain ⟨b1, b2⟩ := and_t hB
  cases Nat.eq_of_beq_eq_true b1
  obtain ⟨vs, e1, _, e3⟩ := hT.obj ha e
  split at b2
  rotate_left
  · cases b2
  rename_i n e2
  cases Nat.eq_of_beq_eq_true b2
  obtain ⟨v, v1, v2⟩ := e3 k _ e2
  rcases v2 with ⟨b, rfl, hb⟩ | ⟨hk, _⟩
  · have hb : gNth sT b = some (2 * g2 / 2) := hb
    rw [Nat.mul_div_cancel_left _ (by decide : 0 < 2)] at hb
    exact ⟨vs, b, e1, v1, hb⟩
  · have hk : 2 * g2 % 2 = 1 := hk
    omega
theorem TM.fnum {M : Mem} {a g ci k : Nat} {lo hi : Int} (hT : TM sT sG M) (ha : gNth sT a = some g) (hB : fiB g ci k lo hi = true) : ∃ vs y, gNth M a = some (.inr (ci, vs)) ∧ gNth vs k = some (.int y) ∧ k < vs.length ∧ lo ≤ y.toInt ∧ y.toInt ≤ hi ∧ ∀ z : Int32, lo ≤ z.toInt → z.toInt ≤ hi → TM sT sG (gPut M a (.inr (ci, gPut vs k (.int z)))) := by
  unfold fiB at hB
  split at hB
  rotate_left
  · cases hB
  rename_i c fs e
  obtain ⟨b1, b2⟩ := and_t hB
  cases Nat.eq_of_beq_eq_true b1
  obtain ⟨vs, e1, _, e3⟩ := hT.obj ha e
  split at b2
  rotate_left
  · cases b2
  rename_i x y e2
  obtain ⟨b3, b4⟩ := and_t b2
  cases of_decide_eq_true b3
  cases of_decide_eq_true b4
  obtain ⟨v, v1, z, rfl, z1, z2⟩ := e3 k _ e2
  exact ⟨vs, z, e1, v1, gNth_lt _ _ _ v1, z1, z2, fun z z1 z2 => hT.oput ha e e1 e2 ⟨z, rfl, z1, z2⟩⟩
theorem TM.rref {M : Mem} {a g kd n g2 : Nat} (hT : TM sT sG M) (ha : gNth sT a = some g) (hB : rrB g kd n g2 = true) : ∃ l, gNth M a = some (.inl (kd, .inr (.inr l))) ∧ l.length = n ∧ (∀ j x, gNth l j = some x → ∃ b, x = some b ∧ gNth sT b = some g2) ∧ ∀ i b, gNth sT b = some g2 → TM sT sG (gPut M a (.inl (kd, .inr (.inr (gPut l i (some b)))))) := by
  unfold rrB at hB
  split at hB
  rotate_left
  · cases hB
  rename_i q m h e
  obtain ⟨b0, hB⟩ := and_t hB
  obtain ⟨b1, hB⟩ := and_t hB
  obtain ⟨b2, b3⟩ := and_t hB
  cases Nat.eq_of_beq_eq_true b1
  cases Nat.eq_of_beq_eq_true b2
  cases Nat.eq_of_beq_eq_true b3
  have hq : kd ≠ 2 := by
    rintro rfl
    cases b0
  obtain ⟨ee, e1, e2⟩ := hT.at ha e
  obtain ⟨l, rfl, l1, l2⟩ := ct_ref hq e2
  refine ⟨l, e1, l1, l2, fun i b hb => hT.put (fun g3 t q1 q2 => ?_)⟩
  rw [ha] at q1
  cases q1
  rw [e] at q2
  cases q2
  refine ct_mkr hq (by rw [put_len]; exact l1) (fun j x hj => ?_)
  rw [nth_put] at hj
  split at hj
  · cases hj
    exact ⟨b, rfl, hb⟩
  · exact l2 j x hj
/-! BY HAND, the class: sweep, put together -/
set_option maxRecDepth 100000 in
theorem sT_104 : gNth sT 104 = some 22 := by decide +kernel
set_option maxRecDepth 100000 in
theorem lyW : (fdB 22 7 7 8 && fdB 8 1 14 19 && fiB 8 1 15 0 60 && rrB 19 6 60 21 && fiB 21 8 0 (-1) 255) = true := by decide +kernel
theorem cge_put {M : Mem} {r t b : Nat} {x y : AC} (hr : gNth M r = some (.inl (t, x))) (h : cge M b) : cge (gPut M r (.inl (t, y))) b := by
  obtain ⟨us, z, h1, h2⟩ := h
  refine ⟨us, z, ?_, h2⟩
  rw [nth_put, if_neg (fun q => by rw [← q.1, h1] at hr; cases hr)]
  exact h1
theorem obj_put {M : Mem} {r t b c : Nat} {x y : AC} {us : List Value} (hr : gNth M r = some (.inl (t, x))) (h1 : gNth M b = some (.inr (c, us))) : gNth (gPut M r (.inl (t, y))) b = some (.inr (c, us)) := by
  rw [nth_put, if_neg (fun q => by rw [← q.1, h1] at hr; cases hr)]
  exact h1
section SWP
variable {M0 : Mem} {e ld r nn : Nat} {vw vl : List Value} {l0 : List (Option Nat)} {n : Int32}
theorem sw_loop (hld : gNth sT ld = some 8) (hr : gNth sT r = some 19) (f7 : gNth vw 7 = some (.ref ld)) (f14 : gNth vl 14 = some (.ref r)) (f15 : gNth vl 15 = some (.int n)) (hn : n.toInt = (nn : Int)) (n60 : nn ≤ 60) : ∀ (j inn sn : Nat) (i s : Int32) (M : Mem) (l : List (Option Nat)) (x3 : Option Value), TM sT sG M → Frm sT [(1, 15), (1019, 0)] M0 M → gNth M 104 = some (.inr (7, vw)) → gNth M ld = some (.inr (1, vl)) → gNth M r = some (.inl (6, .inr (.inr l))) → unl l → (∀ b, (∃ k, gNth l k = some (some b)) ↔ ∃ k, gNth l0 k = some (some b)) → sn ≤ inn → i.toInt = (inn : Int) → s.toInt = (sn : Int) → nn = inn + j → (∀ k, k < sn → ∃ b, gNth l k = some (some b) ∧ cge M b) → ∃ MF lF sF, ∃ zF : Int32, Ev none e 61 4 [some (.ref 104), some (.int s), some (.int i), x3] [] M none MF 0 0 ∧ TM sT sG MF ∧ Frm sT [(1, 15), (1019, 0)] M0 MF ∧ gNth MF r = some (.inl (6, .inr (.inr lF))) ∧ unl lF ∧ (∀ b, (∃ k, gNth lF k = some (some b)) ↔ ∃ k, gNth l0 k = some (some b)) ∧ gNth MF ld = some (.inr (1, gPut vl 15 (.int zF))) ∧ zF.toInt = ((sF : Nat) : Int) ∧ sF ≤ nn ∧ (∀ k, k < sF → ∃ b, gNth lF k = some (some b) ∧ cge MF b) ∧ ∀ a, a ≠ ld → a ≠ r → gNth MF a = gNth M a := by
  intro j
  obtain ⟨q, y5⟩ := and_t lyW
  obtain ⟨q, y4⟩ := and_t q
  obtain ⟨q, y3⟩ := and_t q
  induction j with
  | zero =>
    intro inn sn i s M l x3 hT hF hw hl hrow hu hm hsi hi hs hj hk
    obtain ⟨vl2, n2, g1, g2, g3, _, _, g4⟩ := hT.fnum hld y3
    cases hl.symm.trans g1
    refine ⟨_, l, sn, s, sw_4 hw f7 hl f15 (by rw [if_pos (by rw [Int32.le_iff_toInt_le]; omega)]; exact sw_70 hw f7 hl g3), g4 s (by omega) (by omega), hF.trans (Frm.fld hl (by decide)), ?_, hu, hm, by rw [nth_put, if_pos ⟨rfl, gNth_lt _ _ _ hl⟩], hs, by omega, fun k hks => ?_, fun a h1 h2 => by rw [nth_put, if_neg (fun q => h1 q.1)]⟩
    · rw [nth_put, if_neg (fun q => by rw [← q.1, hrow] at hl; cases hl)]
      exact hrow
    · obtain ⟨b, b1, us, z, c1, c2⟩ := hk k hks
      refine ⟨b, b1, us, z, ?_, c2⟩
      rw [nth_put, if_neg (fun q => by rw [← q.1, c1] at hl; cases hl)]
      exact c1
  | succ j ih =>
    intro inn sn i s M l x3 hT hF hw hl hrow hu hm hsi hi hs hj hk
    obtain ⟨l2, r1, r2, r3, r4⟩ := hT.rref hr y4
    cases hrow.symm.trans r1
    obtain ⟨xo, o1, o2⟩ := at_c (l := l) hi (by omega)
    obtain ⟨o, rfl, ho⟩ := r3 _ _ o2
    obtain ⟨vo, z, p1, p2, _, z1, z2, _⟩ := hT.fnum ho y5
    have ei : (i + 1).toInt = i.toInt + 1 := i32_p1 (by omega)
    have hlt : ¬ n ≤ i := by rw [Int32.le_iff_toInt_le]; omega
    by_cases hz : z = -1
    · obtain ⟨MF, lF, sF, zF, q1, q2⟩ := ih (inn + 1) sn (i + 1) s M l (some (.ref o)) hT hF hw hl hrow hu hm (by omega) (by omega) hs (by omega) hk
      exact ⟨MF, lF, sF, zF, sw_4 hw f7 hl f15 (by rw [if_neg hlt]; exact sw_15 hw f7 hl f14 hrow o1 p1 p2 (by rw [if_pos hz]; exact sw_64 q1)), q2⟩
    · have zge : 0 ≤ z.toInt := by
        rcases Int.lt_or_le z.toInt 0 with h | h
        · exact absurd (Int32.toInt_inj.mp (show z.toInt = (-1 : Int32).toInt from by show z.toInt = -1; omega)) hz
        · exact h
      obtain ⟨xa, a1, a2⟩ := at_c (l := l) hs (by omega)
      obtain ⟨a, rfl, ha⟩ := r3 _ _ a2
      obtain ⟨va, za, pa, _⟩ := hT.fnum ha y5
      have es : (s + 1).toInt = s.toInt + 1 := i32_p1 (by omega)
      obtain ⟨M1, e1⟩ : ∃ M1, M1 = gPut M r (.inl (6, .inr (.inr (gPut l inn (some a))))) := ⟨_, rfl⟩
      have T1 : TM sT sG M1 := by rw [e1]; exact r4 inn a ha
      have F1 : Frm sT [(1, 15), (1019, 0)] M M1 := by rw [e1]; exact Frm.row hrow hr (by decide)
      have hw1 : gNth M1 104 = some (.inr (7, vw)) := by rw [e1]; exact obj_put hrow hw
      have hl1 : gNth M1 ld = some (.inr (1, vl)) := by rw [e1]; exact obj_put hrow hl
      have ho1 : gNth M1 o = some (.inr (8, vo)) := by rw [e1]; exact obj_put hrow p1
      have hrow1 : gNth M1 r = some (.inl (6, .inr (.inr (gPut l inn (some a))))) := by rw [e1, nth_put, if_pos ⟨rfl, gNth_lt _ _ _ hrow⟩]
      obtain ⟨l3, s1, s2, s3, s4⟩ := T1.rref hr y4
      cases hrow1.symm.trans s1
      obtain ⟨xb, c1, c2⟩ := at_c (l := gPut l inn (some a)) hs (by rw [put_len]; omega)
      obtain ⟨b, rfl, _⟩ := s3 _ _ c2
      obtain ⟨M2, e2⟩ : ∃ M2, M2 = gPut M1 r (.inl (6, .inr (.inr (swp l inn sn a o)))) := ⟨_, rfl⟩
      have T2 : TM sT sG M2 := by rw [e2]; exact s4 sn o ho
      have F2 : Frm sT [(1, 15), (1019, 0)] M1 M2 := by rw [e2]; exact Frm.row hrow1 hr (by decide)
      obtain ⟨MF, lF, sF, zF, q1, q2⟩ := ih (inn + 1) (sn + 1) (i + 1) (s + 1) M2 (swp l inn sn a o) (some (.ref o)) T2 ((hF.trans F1).trans F2) (by rw [e2]; exact obj_put hrow1 hw1) (by rw [e2]; exact obj_put hrow1 hl1) (by rw [e2, nth_put, if_pos ⟨rfl, gNth_lt _ _ _ hrow1⟩]) (swp_unl hu o2 a2) (fun b => (swp_mem o2 a2).trans (hm b)) (by omega) (by omega) (by omega) (by omega) (fun k hks => by
        by_cases hk2 : k = sn
        · refine ⟨o, by rw [swp_at o2 a2, if_pos hk2], ?_⟩
          rw [e2]
          refine cge_put hrow1 ?_
          rw [e1]
          exact cge_put hrow ⟨vo, z, p1, p2, zge⟩
        · obtain ⟨b, b1, b2⟩ := hk k (by omega)
          refine ⟨b, by rw [swp_at o2 a2, if_neg hk2, if_neg (by omega)]; exact b1, ?_⟩
          rw [e2]
          refine cge_put hrow1 ?_
          rw [e1]
          exact cge_put hrow b2)
      obtain ⟨q3, q4, q5, q6, q7, q8, q9, q10, q11, q12⟩ := q2
      refine ⟨MF, lF, sF, zF, sw_4 hw f7 hl f15 ?_, q3, q4, q5, q6, q7, q8, q9, q10, q11, fun a h1 h2 => by rw [q12 a h1 h2, e2, nth_put, if_neg (fun q => h2 q.1), e1, nth_put, if_neg (fun q => h2 q.1)]⟩
      rw [if_neg hlt]
      refine sw_15 hw f7 hl f14 hrow o1 p1 p2 ?_
      rw [if_neg hz]
      refine sw_33 hw f7 hl f14 hrow a1 pa o1 ?_
      rw [cl_n hi, ← e1]
      refine sw_51 hw1 f7 hl1 f14 hrow1 ho1 c1 ?_
      rw [cl_n hs]
      have e3 : gPut M1 r (.inl (6, .inr (.inr (gPut (gPut l inn (some a)) sn (some o))))) = M2 := by rw [e2]; rfl
      rw [e3]
      exact q1
end SWP
/-! BY HAND, the class: the pieces of go, begin, step -/
theorem st_0 {e : Nat} {M : Mem} {M' : Mem} {v : Option Value} {vo : List Value} {c d y2 : Int32} {o : Nat} (ho : gNth M o = some (.inr (8, vo))) (f1 : gNth vo 0 = some (.int y2)) (hlo : 3 < vo.length) (hz : Ev none e 74 8 [some (.ref o), some (.int c), some (.int d)] [] (gPut M o (.inr (8, gPut vo 3 (.int y2)))) v M' 0 0) : Ev none e 74 0 [some (.ref o), some (.int c), some (.int d)] [] M v M' 0 0 := by
  refine Ev.step (pc' := 2) (ls' := [some (.ref o), some (.int c), some (.int d)]) (st' := [.ref o, .ref o]) (M1 := M) 2 (fun n => rfl) ?_
  refine Ev.step 1 (gs_3 rfl rfl (gf_c rfl ho f1)) ?_
  refine Ev.step 1 (gs_4 rfl rfl (pf_c rfl ho hlo rfl rfl)) ?_
  exact hz
theorem st_8 {e : Nat} {M : Mem} {M' : Mem} {v : Option Value} {vo : List Value} {c d : Int32} {o : Nat} (ho : gNth M o = some (.inr (8, vo))) (hlo : 0 < vo.length) (hz : Ev none e 74 13 [some (.ref o), some (.int c), some (.int d)] [] (gPut M o (.inr (8, gPut vo 0 (.int c)))) v M' 0 0) : Ev none e 74 8 [some (.ref o), some (.int c), some (.int d)] [] M v M' 0 0 := by
  refine Ev.step (pc' := 10) (ls' := [some (.ref o), some (.int c), some (.int d)]) (st' := [.int c, .ref o]) (M1 := M) 2 (fun n => rfl) ?_
  refine Ev.step 1 (gs_4 rfl rfl (pf_c rfl ho hlo rfl rfl)) ?_
  exact hz
theorem st_13 {e : Nat} {M : Mem} {vo : List Value} {c d : Int32} {o : Nat} (ho : gNth M o = some (.inr (8, vo))) (hlo : 4 < vo.length) : Ev none e 74 13 [some (.ref o), some (.int c), some (.int d)] [] M none (gPut M o (.inr (8, gPut vo 4 (.int d)))) 0 0 := by
  refine Ev.step (pc' := 15) (ls' := [some (.ref o), some (.int c), some (.int d)]) (st' := [.int d, .ref o]) (M1 := M) 2 (fun n => rfl) ?_
  refine Ev.step 1 (gs_4 rfl rfl (pf_c rfl ho hlo rfl rfl)) ?_
  exact Ev.ret (fun n => rfl)
theorem bg_0 {e : Nat} {M : Mem} {M' : Mem} {v : Option Value} {w : Nat} {x1 x2 x3 : Option Value}  (hz : Ev none e 59 2 [some (.ref w), some (.int 0), x2, x3] [] M v M' 0 0) : Ev none e 59 0 [some (.ref w), x1, x2, x3] [] M v M' 0 0 := by
  refine Ev.step (pc' := 2) (ls' := [some (.ref w), some (.int 0), x2, x3]) (st' := []) (M1 := M) 2 (fun n => rfl) ?_
  exact hz
theorem bg_2 {e : Nat} {M : Mem} {M' : Mem} {v : Option Value} {va2 vw : List Value} {k y4 : Int32} {a2 w : Nat} {x2 x3 : Option Value} (hw : gNth M w = some (.inr (7, vw))) (f1 : gNth vw 7 = some (.ref a2)) (ha2 : gNth M a2 = some (.inr (1, va2))) (f3 : gNth va2 13 = some (.int y4)) (hz : Ev none e 59 (if y4 ≤ k then 133 else 13) [some (.ref w), some (.int k), x2, x3] [] M v M' 0 0) : Ev none e 59 2 [some (.ref w), some (.int k), x2, x3] [] M v M' 0 0 := by
  refine Ev.step (pc' := 4) (ls' := [some (.ref w), some (.int k), x2, x3]) (st' := [.ref w, .int k]) (M1 := M) 2 (fun n => rfl) ?_
  refine Ev.step 1 (gs_3 rfl rfl (gf_c rfl hw f1)) ?_
  refine Ev.step 1 (gs_3 rfl rfl (gf_c rfl ha2 f3)) ?_
  refine Ev.step (pc' := (if y4 ≤ k then 133 else 13)) (ls' := [some (.ref w), some (.int k), x2, x3]) (st' := []) (M1 := M) 1 (fun n => rfl) ?_
  exact hz
theorem bg_13 {e : Nat} {M : Mem} {M' : Mem} {v : Option Value} {va2 vw : List Value} {k y8 : Int32} {a2 a4 a6 w : Nat} {la4 : List (Option Nat)} {x2 x3 : Option Value} (hw : gNth M w = some (.inr (7, vw))) (f1 : gNth vw 7 = some (.ref a2)) (ha2 : gNth M a2 = some (.inr (1, va2))) (f3 : gNth va2 12 = some (.ref a4)) (ra4 : gNth M a4 = some (.inl (7, .inr (.inr la4)))) (g5 : gAt la4 k = some (some a6)) (f7 : gNth va2 16 = some (.int y8)) (hz : Ev none e 59 31 [some (.ref w), some (.int k), some (.ref a6), x3] [.int y8, .ref a6] M v M' 0 0) : Ev none e 59 13 [some (.ref w), some (.int k), x2, x3] [] M v M' 0 0 := by
  refine Ev.step (pc' := 14) (ls' := [some (.ref w), some (.int k), x2, x3]) (st' := [.ref w]) (M1 := M) 1 (fun n => rfl) ?_
  refine Ev.step 1 (gs_3 rfl rfl (gf_c rfl hw f1)) ?_
  refine Ev.step 1 (gs_3 rfl rfl (gf_c rfl ha2 f3)) ?_
  refine Ev.step (pc' := 21) (ls' := [some (.ref w), some (.int k), x2, x3]) (st' := [.int k, .ref a4]) (M1 := M) 1 (fun n => rfl) ?_
  refine Ev.step 1 (gs_3 rfl rfl (aa_c ra4 g5 rfl)) ?_
  refine Ev.step (pc' := 25) (ls' := [some (.ref w), some (.int k), some (.ref a6), x3]) (st' := [.ref w, .ref a6]) (M1 := M) 3 (fun n => rfl) ?_
  refine Ev.step 1 (gs_3 rfl rfl (gf_c rfl hw f1)) ?_
  refine Ev.step 1 (gs_3 rfl rfl (gf_c rfl ha2 f7)) ?_
  exact hz
theorem bg_34 {e : Nat} {M : Mem} {M' : Mem} {v : Option Value} {k z : Int32} {w ws : Nat} {x3 : Option Value}  (hz : Ev none e 59 (if z = 0 then 37 else 40) [some (.ref w), some (.int k), some (.ref ws), x3] [] M v M' 0 0) : Ev none e 59 34 [some (.ref w), some (.int k), some (.ref ws), x3] [.int z] M v M' 0 0 := by
  refine Ev.step (pc' := (if z = 0 then 37 else 40)) (ls' := [some (.ref w), some (.int k), some (.ref ws), x3]) (st' := []) (M1 := M) 1 (fun n => rfl) ?_
  exact hz
theorem bg_37 {e : Nat} {M : Mem} {M' : Mem} {v : Option Value} {k : Int32} {w ws : Nat} {x3 : Option Value}  (hz : Ev none e 59 2 [some (.ref w), some (.int (k + 1)), some (.ref ws), x3] [] M v M' 0 0) : Ev none e 59 37 [some (.ref w), some (.int k), some (.ref ws), x3] [] M v M' 0 0 := by
  refine Ev.step (pc' := 2) (ls' := [some (.ref w), some (.int (k + 1)), some (.ref ws), x3]) (st' := []) (M1 := M) 3 (fun n => rfl) ?_
  exact hz
theorem bg_40 {e : Nat} {M : Mem} {M' : Mem} {v : Option Value} {va2 vw : List Value} {k y4 : Int32} {a2 w ws : Nat} {x3 : Option Value} (hw : gNth M w = some (.inr (7, vw))) (f1 : gNth vw 7 = some (.ref a2)) (ha2 : gNth M a2 = some (.inr (1, va2))) (f3 : gNth va2 15 = some (.int y4)) (hz : Ev none e 59 (if y4 < 60 then 68 else 52) [some (.ref w), some (.int k), some (.ref ws), x3] [] M v M' 0 0) : Ev none e 59 40 [some (.ref w), some (.int k), some (.ref ws), x3] [] M v M' 0 0 := by
  refine Ev.step (pc' := 41) (ls' := [some (.ref w), some (.int k), some (.ref ws), x3]) (st' := [.ref w]) (M1 := M) 1 (fun n => rfl) ?_
  refine Ev.step 1 (gs_3 rfl rfl (gf_c rfl hw f1)) ?_
  refine Ev.step 1 (gs_3 rfl rfl (gf_c rfl ha2 f3)) ?_
  refine Ev.step (pc' := (if y4 < 60 then 68 else 52)) (ls' := [some (.ref w), some (.int k), some (.ref ws), x3]) (st' := []) (M1 := M) 2 (fun n => rfl) ?_
  exact hz
theorem bg_52 {e : Nat} {M : Mem} {M' : Mem} {v : Option Value} {va2 vw : List Value} {k y4 : Int32} {a2 w ws : Nat} {x3 : Option Value} (hw : gNth M w = some (.inr (7, vw))) (f1 : gNth vw 7 = some (.ref a2)) (ha2 : gNth M a2 = some (.inr (1, va2))) (f3 : gNth va2 19 = some (.int y4)) (hla2 : 19 < va2.length) (hz : Ev none e 59 2 [some (.ref w), some (.int (k + 1)), some (.ref ws), x3] [] (gPut M a2 (.inr (1, gPut va2 19 (.int (y4 + 1))))) v M' 0 0) : Ev none e 59 52 [some (.ref w), some (.int k), some (.ref ws), x3] [] M v M' 0 0 := by
  refine Ev.step (pc' := 53) (ls' := [some (.ref w), some (.int k), some (.ref ws), x3]) (st' := [.ref w]) (M1 := M) 1 (fun n => rfl) ?_
  refine Ev.step 1 (gs_3 rfl rfl (gf_c rfl hw f1)) ?_
  refine Ev.step (pc' := 57) (ls' := [some (.ref w), some (.int k), some (.ref ws), x3]) (st' := [.ref a2, .ref a2]) (M1 := M) 1 (fun n => rfl) ?_
  refine Ev.step 1 (gs_3 rfl rfl (gf_c rfl ha2 f3)) ?_
  refine Ev.step (pc' := 62) (ls' := [some (.ref w), some (.int k), some (.ref ws), x3]) (st' := [.int (y4 + 1), .ref a2]) (M1 := M) 2 (fun n => rfl) ?_
  refine Ev.step 1 (gs_4 rfl rfl (pf_c rfl ha2 hla2 rfl rfl)) ?_
  refine Ev.step (pc' := 2) (ls' := [some (.ref w), some (.int (k + 1)), some (.ref ws), x3]) (st' := []) (M1 := (gPut M a2 (.inr (1, gPut va2 19 (.int (y4 + 1)))))) 3 (fun n => rfl) ?_
  exact hz
theorem bg_68 {e : Nat} {M : Mem} {M' : Mem} {v : Option Value} {va2 vw vws : List Value} {k y12 y6 y8 : Int32} {a10 a14 a2 a4 w ws : Nat} {la4 : List Int32} {la10 : List (Option Nat)} {x3 : Option Value} (hw : gNth M w = some (.inr (7, vw))) (f1 : gNth vw 7 = some (.ref a2)) (ha2 : gNth M a2 = some (.inr (1, va2))) (f3 : gNth va2 10 = some (.ref a4)) (hws : gNth M ws = some (.inr (9, vws))) (f5 : gNth vws 0 = some (.int y6)) (ra4 : gNth M a4 = some (.inl (1, .inl la4))) (g7 : gAt la4 y6 = some y8) (f9 : gNth va2 14 = some (.ref a10)) (f11 : gNth va2 15 = some (.int y12)) (ra10 : gNth M a10 = some (.inl (6, .inr (.inr la10)))) (g13 : gAt la10 y12 = some (some a14)) (hz : Ev none e 59 98 [some (.ref w), some (.int k), some (.ref ws), some (.int y8)] [.int k, .int y8, .ref a14] M v M' 0 0) : Ev none e 59 68 [some (.ref w), some (.int k), some (.ref ws), x3] [] M v M' 0 0 := by
  refine Ev.step (pc' := 69) (ls' := [some (.ref w), some (.int k), some (.ref ws), x3]) (st' := [.ref w]) (M1 := M) 1 (fun n => rfl) ?_
  refine Ev.step 1 (gs_3 rfl rfl (gf_c rfl hw f1)) ?_
  refine Ev.step 1 (gs_3 rfl rfl (gf_c rfl ha2 f3)) ?_
  refine Ev.step (pc' := 76) (ls' := [some (.ref w), some (.int k), some (.ref ws), x3]) (st' := [.ref ws, .ref a4]) (M1 := M) 1 (fun n => rfl) ?_
  refine Ev.step 1 (gs_3 rfl rfl (gf_c rfl hws f5)) ?_
  refine Ev.step 1 (gs_3 rfl rfl (ia_c ra4 g7)) ?_
  refine Ev.step (pc' := 82) (ls' := [some (.ref w), some (.int k), some (.ref ws), some (.int y8)]) (st' := [.ref w]) (M1 := M) 2 (fun n => rfl) ?_
  refine Ev.step 1 (gs_3 rfl rfl (gf_c rfl hw f1)) ?_
  refine Ev.step 1 (gs_3 rfl rfl (gf_c rfl ha2 f9)) ?_
  refine Ev.step (pc' := 89) (ls' := [some (.ref w), some (.int k), some (.ref ws), some (.int y8)]) (st' := [.ref w, .ref a10]) (M1 := M) 1 (fun n => rfl) ?_
  refine Ev.step 1 (gs_3 rfl rfl (gf_c rfl hw f1)) ?_
  refine Ev.step 1 (gs_3 rfl rfl (gf_c rfl ha2 f11)) ?_
  refine Ev.step 1 (gs_3 rfl rfl (aa_c ra10 g13 rfl)) ?_
  refine Ev.step (pc' := 98) (ls' := [some (.ref w), some (.int k), some (.ref ws), some (.int y8)]) (st' := [.int k, .int y8, .ref a14]) (M1 := M) 2 (fun n => rfl) ?_
  exact hz
theorem bg_101 {e : Nat} {M : Mem} {M' : Mem} {v : Option Value} {va2 vw : List Value} {ct k y4 : Int32} {a2 w ws : Nat} (hw : gNth M w = some (.inr (7, vw))) (f1 : gNth vw 7 = some (.ref a2)) (ha2 : gNth M a2 = some (.inr (1, va2))) (f3 : gNth va2 15 = some (.int y4)) (hla2 : 15 < va2.length) (hz : Ev none e 59 114 [some (.ref w), some (.int k), some (.ref ws), some (.int ct)] [] (gPut M a2 (.inr (1, gPut va2 15 (.int (y4 + 1))))) v M' 0 0) : Ev none e 59 101 [some (.ref w), some (.int k), some (.ref ws), some (.int ct)] [] M v M' 0 0 := by
  refine Ev.step (pc' := 102) (ls' := [some (.ref w), some (.int k), some (.ref ws), some (.int ct)]) (st' := [.ref w]) (M1 := M) 1 (fun n => rfl) ?_
  refine Ev.step 1 (gs_3 rfl rfl (gf_c rfl hw f1)) ?_
  refine Ev.step (pc' := 106) (ls' := [some (.ref w), some (.int k), some (.ref ws), some (.int ct)]) (st' := [.ref a2, .ref a2]) (M1 := M) 1 (fun n => rfl) ?_
  refine Ev.step 1 (gs_3 rfl rfl (gf_c rfl ha2 f3)) ?_
  refine Ev.step (pc' := 111) (ls' := [some (.ref w), some (.int k), some (.ref ws), some (.int ct)]) (st' := [.int (y4 + 1), .ref a2]) (M1 := M) 2 (fun n => rfl) ?_
  refine Ev.step 1 (gs_4 rfl rfl (pf_c rfl ha2 hla2 rfl rfl)) ?_
  exact hz
theorem bg_114 {e : Nat} {M : Mem} {M' : Mem} {v : Option Value} {va2 vw : List Value} {ct k y6 : Int32} {a2 a4 w ws : Nat} {la4 : List Int32} (hw : gNth M w = some (.inr (7, vw))) (f1 : gNth vw 7 = some (.ref a2)) (ha2 : gNth M a2 = some (.inr (1, va2))) (f3 : gNth va2 9 = some (.ref a4)) (ra4 : gNth M a4 = some (.inl (1, .inl la4))) (g5 : gAt la4 ct = some y6) (hz : Ev none e 59 2 [some (.ref w), some (.int (k + 1)), some (.ref ws), some (.int ct)] [] (gPut M a4 (.inl (1, .inl (gPut la4 ct.toNatClampNeg (y6 + 1))))) v M' 0 0) : Ev none e 59 114 [some (.ref w), some (.int k), some (.ref ws), some (.int ct)] [] M v M' 0 0 := by
  refine Ev.step (pc' := 115) (ls' := [some (.ref w), some (.int k), some (.ref ws), some (.int ct)]) (st' := [.ref w]) (M1 := M) 1 (fun n => rfl) ?_
  refine Ev.step 1 (gs_3 rfl rfl (gf_c rfl hw f1)) ?_
  refine Ev.step 1 (gs_3 rfl rfl (gf_c rfl ha2 f3)) ?_
  refine Ev.step (pc' := 123) (ls' := [some (.ref w), some (.int k), some (.ref ws), some (.int ct)]) (st' := [.int ct, .ref a4, .int ct, .ref a4]) (M1 := M) 2 (fun n => rfl) ?_
  refine Ev.step 1 (gs_3 rfl rfl (ia_c ra4 g5)) ?_
  refine Ev.step (pc' := 126) (ls' := [some (.ref w), some (.int k), some (.ref ws), some (.int ct)]) (st' := [.int (y6 + 1), .int ct, .ref a4]) (M1 := M) 2 (fun n => rfl) ?_
  refine Ev.step 1 (gs_4 rfl rfl (is_c ra4 g5)) ?_
  refine Ev.step (pc' := 2) (ls' := [some (.ref w), some (.int (k + 1)), some (.ref ws), some (.int ct)]) (st' := []) (M1 := (gPut M a4 (.inl (1, .inl (gPut la4 ct.toNatClampNeg (y6 + 1)))))) 2 (fun n => rfl) ?_
  exact hz
theorem bg_133 {e : Nat} {M : Mem} {k : Int32} {w : Nat} {x2 x3 : Option Value}  : Ev none e 59 133 [some (.ref w), some (.int k), x2, x3] [] M none M 0 0 := by
  exact Ev.ret (fun n => rfl)
theorem go_0 {e : Nat} {M : Mem} {M' : Mem} {v : Option Value} {va2 vw : List Value} {t y4 : Int32} {a2 w : Nat} {x2 x3 x4 x5 x6 x7 x8 : Option Value} (hw : gNth M w = some (.inr (7, vw))) (f1 : gNth vw 7 = some (.ref a2)) (ha2 : gNth M a2 = some (.inr (1, va2))) (f3 : gNth va2 17 = some (.int y4)) (hz : Ev none e 58 10 [some (.ref w), some (.int t), some (.int y4), some (.int 0), x4, x5, x6, x7, x8] [] M v M' 0 0) : Ev none e 58 0 [some (.ref w), some (.int t), x2, x3, x4, x5, x6, x7, x8] [] M v M' 0 0 := by
  refine Ev.step (pc' := 1) (ls' := [some (.ref w), some (.int t), x2, x3, x4, x5, x6, x7, x8]) (st' := [.ref w]) (M1 := M) 1 (fun n => rfl) ?_
  refine Ev.step 1 (gs_3 rfl rfl (gf_c rfl hw f1)) ?_
  refine Ev.step 1 (gs_3 rfl rfl (gf_c rfl ha2 f3)) ?_
  refine Ev.step (pc' := 10) (ls' := [some (.ref w), some (.int t), some (.int y4), some (.int 0), x4, x5, x6, x7, x8]) (st' := []) (M1 := M) 3 (fun n => rfl) ?_
  exact hz
theorem go_10 {e : Nat} {M : Mem} {M' : Mem} {v : Option Value} {bf n t : Int32} {w : Nat} {x4 x5 x6 x7 x8 : Option Value}  (hz : Ev none e 58 (if t ≤ n then 221 else 15) [some (.ref w), some (.int t), some (.int bf), some (.int n), x4, x5, x6, x7, x8] [] M v M' 0 0) : Ev none e 58 10 [some (.ref w), some (.int t), some (.int bf), some (.int n), x4, x5, x6, x7, x8] [] M v M' 0 0 := by
  refine Ev.step (pc' := (if t ≤ n then 221 else 15)) (ls' := [some (.ref w), some (.int t), some (.int bf), some (.int n), x4, x5, x6, x7, x8]) (st' := []) (M1 := M) 3 (fun n => rfl) ?_
  exact hz
theorem go_15 {e : Nat} {M : Mem} {M' : Mem} {v : Option Value} {vw : List Value} {bf n t y2 : Int32} {w : Nat} {x4 x5 x6 x7 x8 : Option Value} (hw : gNth M w = some (.inr (7, vw))) (f1 : gNth vw 10 = some (.int y2)) (hz : Ev none e 58 (if y2 = 0 then 22 else 221) [some (.ref w), some (.int t), some (.int bf), some (.int n), x4, x5, x6, x7, x8] [] M v M' 0 0) : Ev none e 58 15 [some (.ref w), some (.int t), some (.int bf), some (.int n), x4, x5, x6, x7, x8] [] M v M' 0 0 := by
  refine Ev.step (pc' := 16) (ls' := [some (.ref w), some (.int t), some (.int bf), some (.int n), x4, x5, x6, x7, x8]) (st' := [.ref w]) (M1 := M) 1 (fun n => rfl) ?_
  refine Ev.step 1 (gs_3 rfl rfl (gf_c rfl hw f1)) ?_
  refine Ev.step (pc' := (if y2 = 0 then 22 else 221)) (ls' := [some (.ref w), some (.int t), some (.int bf), some (.int n), x4, x5, x6, x7, x8]) (st' := []) (M1 := M) 1 (fun n => rfl) ?_
  exact hz
theorem go_22 {e : Nat} {M : Mem} {M' : Mem} {v : Option Value} {bf n t : Int32} {w : Nat} {x4 x5 x6 x7 x8 : Option Value}  (hz : Ev none e 58 23 [some (.ref w), some (.int t), some (.int bf), some (.int n), x4, x5, x6, x7, x8] [.ref w] M v M' 0 0) : Ev none e 58 22 [some (.ref w), some (.int t), some (.int bf), some (.int n), x4, x5, x6, x7, x8] [] M v M' 0 0 := by
  refine Ev.step (pc' := 23) (ls' := [some (.ref w), some (.int t), some (.int bf), some (.int n), x4, x5, x6, x7, x8]) (st' := [.ref w]) (M1 := M) 1 (fun n => rfl) ?_
  exact hz
theorem go_26 {e : Nat} {M : Mem} {M' : Mem} {v : Option Value} {bf n t : Int32} {w : Nat} {x4 x5 x6 x7 x8 : Option Value}  (hz : Ev none e 58 29 [some (.ref w), some (.int t), some (.int bf), some (.int n), some (.int 0), x5, x6, x7, x8] [] M v M' 0 0) : Ev none e 58 26 [some (.ref w), some (.int t), some (.int bf), some (.int n), x4, x5, x6, x7, x8] [] M v M' 0 0 := by
  refine Ev.step (pc' := 29) (ls' := [some (.ref w), some (.int t), some (.int bf), some (.int n), some (.int 0), x5, x6, x7, x8]) (st' := []) (M1 := M) 2 (fun n => rfl) ?_
  exact hz
theorem go_29 {e : Nat} {M : Mem} {M' : Mem} {v : Option Value} {va2 vw : List Value} {bf k n t y4 : Int32} {a2 w : Nat} {x5 x6 x7 x8 : Option Value} (hw : gNth M w = some (.inr (7, vw))) (f1 : gNth vw 7 = some (.ref a2)) (ha2 : gNth M a2 = some (.inr (1, va2))) (f3 : gNth va2 15 = some (.int y4)) (hz : Ev none e 58 (if y4 ≤ k then 198 else 41) [some (.ref w), some (.int t), some (.int bf), some (.int n), some (.int k), x5, x6, x7, x8] [] M v M' 0 0) : Ev none e 58 29 [some (.ref w), some (.int t), some (.int bf), some (.int n), some (.int k), x5, x6, x7, x8] [] M v M' 0 0 := by
  refine Ev.step (pc' := 32) (ls' := [some (.ref w), some (.int t), some (.int bf), some (.int n), some (.int k), x5, x6, x7, x8]) (st' := [.ref w, .int k]) (M1 := M) 2 (fun n => rfl) ?_
  refine Ev.step 1 (gs_3 rfl rfl (gf_c rfl hw f1)) ?_
  refine Ev.step 1 (gs_3 rfl rfl (gf_c rfl ha2 f3)) ?_
  refine Ev.step (pc' := (if y4 ≤ k then 198 else 41)) (ls' := [some (.ref w), some (.int t), some (.int bf), some (.int n), some (.int k), x5, x6, x7, x8]) (st' := []) (M1 := M) 1 (fun n => rfl) ?_
  exact hz
theorem go_41 {e : Nat} {M : Mem} {M' : Mem} {v : Option Value} {va12 va2 va6 vw : List Value} {bf k n t y10 y16 y18 y20 : Int32} {a12 a14 a2 a4 a6 a8 w : Nat} {la14 : List Int32} {la4 la8 : List (Option Nat)} {x5 x6 x7 x8 : Option Value} (hw : gNth M w = some (.inr (7, vw))) (f1 : gNth vw 7 = some (.ref a2)) (ha2 : gNth M a2 = some (.inr (1, va2))) (f3 : gNth va2 14 = some (.ref a4)) (ra4 : gNth M a4 = some (.inl (6, .inr (.inr la4)))) (g5 : gAt la4 k = some (some a6)) (f7 : gNth va2 12 = some (.ref a8)) (ha6 : gNth M a6 = some (.inr (8, va6))) (f9 : gNth va6 1 = some (.int y10)) (ra8 : gNth M a8 = some (.inl (7, .inr (.inr la8)))) (g11 : gAt la8 y10 = some (some a12)) (f13 : gNth va2 10 = some (.ref a14)) (ha12 : gNth M a12 = some (.inr (9, va12))) (f15 : gNth va12 1 = some (.int y16)) (ra14 : gNth M a14 = some (.inl (1, .inl la14))) (g17 : gAt la14 y16 = some y18) (f19 : gNth va12 2 = some (.int y20)) (hz : Ev none e 58 93 [some (.ref w), some (.int t), some (.int bf), some (.int n), some (.int k), some (.ref a6), some (.ref a12), some (.int y18), x8] [.int y20, .int y18, .ref a6, .ref w] M v M' 0 0) : Ev none e 58 41 [some (.ref w), some (.int t), some (.int bf), some (.int n), some (.int k), x5, x6, x7, x8] [] M v M' 0 0 := by
  refine Ev.step (pc' := 42) (ls' := [some (.ref w), some (.int t), some (.int bf), some (.int n), some (.int k), x5, x6, x7, x8]) (st' := [.ref w]) (M1 := M) 1 (fun n => rfl) ?_
  refine Ev.step 1 (gs_3 rfl rfl (gf_c rfl hw f1)) ?_
  refine Ev.step 1 (gs_3 rfl rfl (gf_c rfl ha2 f3)) ?_
  refine Ev.step (pc' := 50) (ls' := [some (.ref w), some (.int t), some (.int bf), some (.int n), some (.int k), x5, x6, x7, x8]) (st' := [.int k, .ref a4]) (M1 := M) 1 (fun n => rfl) ?_
  refine Ev.step 1 (gs_3 rfl rfl (aa_c ra4 g5 rfl)) ?_
  refine Ev.step (pc' := 54) (ls' := [some (.ref w), some (.int t), some (.int bf), some (.int n), some (.int k), some (.ref a6), x6, x7, x8]) (st' := [.ref w]) (M1 := M) 2 (fun n => rfl) ?_
  refine Ev.step 1 (gs_3 rfl rfl (gf_c rfl hw f1)) ?_
  refine Ev.step 1 (gs_3 rfl rfl (gf_c rfl ha2 f7)) ?_
  refine Ev.step (pc' := 62) (ls' := [some (.ref w), some (.int t), some (.int bf), some (.int n), some (.int k), some (.ref a6), x6, x7, x8]) (st' := [.ref a6, .ref a8]) (M1 := M) 1 (fun n => rfl) ?_
  refine Ev.step 1 (gs_3 rfl rfl (gf_c rfl ha6 f9)) ?_
  refine Ev.step 1 (gs_3 rfl rfl (aa_c ra8 g11 rfl)) ?_
  refine Ev.step (pc' := 69) (ls' := [some (.ref w), some (.int t), some (.int bf), some (.int n), some (.int k), some (.ref a6), some (.ref a12), x7, x8]) (st' := [.ref w]) (M1 := M) 2 (fun n => rfl) ?_
  refine Ev.step 1 (gs_3 rfl rfl (gf_c rfl hw f1)) ?_
  refine Ev.step 1 (gs_3 rfl rfl (gf_c rfl ha2 f13)) ?_
  refine Ev.step (pc' := 77) (ls' := [some (.ref w), some (.int t), some (.int bf), some (.int n), some (.int k), some (.ref a6), some (.ref a12), x7, x8]) (st' := [.ref a12, .ref a14]) (M1 := M) 1 (fun n => rfl) ?_
  refine Ev.step 1 (gs_3 rfl rfl (gf_c rfl ha12 f15)) ?_
  refine Ev.step 1 (gs_3 rfl rfl (ia_c ra14 g17)) ?_
  refine Ev.step (pc' := 90) (ls' := [some (.ref w), some (.int t), some (.int bf), some (.int n), some (.int k), some (.ref a6), some (.ref a12), some (.int y18), x8]) (st' := [.ref a12, .int y18, .ref a6, .ref w]) (M1 := M) 5 (fun n => rfl) ?_
  refine Ev.step 1 (gs_3 rfl rfl (gf_c rfl ha12 f19)) ?_
  exact hz
theorem go_96 {e : Nat} {M : Mem} {M' : Mem} {v : Option Value} {bf d gl k n t : Int32} {o w ws : Nat} {x8 : Option Value}  (hz : Ev none e 58 (if d = (-1) then 173 else 104) [some (.ref w), some (.int t), some (.int bf), some (.int n), some (.int k), some (.ref o), some (.ref ws), some (.int gl), some (.int d)] [] M v M' 0 0) : Ev none e 58 96 [some (.ref w), some (.int t), some (.int bf), some (.int n), some (.int k), some (.ref o), some (.ref ws), some (.int gl), x8] [.int d] M v M' 0 0 := by
  refine Ev.step (pc' := (if d = (-1) then 173 else 104)) (ls' := [some (.ref w), some (.int t), some (.int bf), some (.int n), some (.int k), some (.ref o), some (.ref ws), some (.int gl), some (.int d)]) (st' := []) (M1 := M) 4 (fun n => rfl) ?_
  exact hz
theorem go_104 {e : Nat} {M : Mem} {M' : Mem} {v : Option Value} {va2 vo vw : List Value} {bf d gl k n t y6 y8 : Int32} {a2 a4 o w ws : Nat} {la4 : List Int32} (hw : gNth M w = some (.inr (7, vw))) (f1 : gNth vw 7 = some (.ref a2)) (ha2 : gNth M a2 = some (.inr (1, va2))) (f3 : gNth va2 9 = some (.ref a4)) (ho : gNth M o = some (.inr (8, vo))) (f5 : gNth vo 0 = some (.int y6)) (ra4 : gNth M a4 = some (.inl (1, .inl la4))) (g7 : gAt la4 y6 = some y8) (hz : Ev none e 58 121 [some (.ref w), some (.int t), some (.int bf), some (.int n), some (.int k), some (.ref o), some (.ref ws), some (.int gl), some (.int d)] [] (gPut M a4 (.inl (1, .inl (gPut la4 y6.toNatClampNeg (y8 - 1))))) v M' 0 0) : Ev none e 58 104 [some (.ref w), some (.int t), some (.int bf), some (.int n), some (.int k), some (.ref o), some (.ref ws), some (.int gl), some (.int d)] [] M v M' 0 0 := by
  refine Ev.step (pc' := 105) (ls' := [some (.ref w), some (.int t), some (.int bf), some (.int n), some (.int k), some (.ref o), some (.ref ws), some (.int gl), some (.int d)]) (st' := [.ref w]) (M1 := M) 1 (fun n => rfl) ?_
  refine Ev.step 1 (gs_3 rfl rfl (gf_c rfl hw f1)) ?_
  refine Ev.step 1 (gs_3 rfl rfl (gf_c rfl ha2 f3)) ?_
  refine Ev.step (pc' := 113) (ls' := [some (.ref w), some (.int t), some (.int bf), some (.int n), some (.int k), some (.ref o), some (.ref ws), some (.int gl), some (.int d)]) (st' := [.ref o, .ref a4]) (M1 := M) 1 (fun n => rfl) ?_
  refine Ev.step 1 (gs_3 rfl rfl (gf_c rfl ho f5)) ?_
  refine Ev.step (pc' := 117) (ls' := [some (.ref w), some (.int t), some (.int bf), some (.int n), some (.int k), some (.ref o), some (.ref ws), some (.int gl), some (.int d)]) (st' := [.int y6, .ref a4, .int y6, .ref a4]) (M1 := M) 1 (fun n => rfl) ?_
  refine Ev.step 1 (gs_3 rfl rfl (ia_c ra4 g7)) ?_
  refine Ev.step (pc' := 120) (ls' := [some (.ref w), some (.int t), some (.int bf), some (.int n), some (.int k), some (.ref o), some (.ref ws), some (.int gl), some (.int d)]) (st' := [.int (y8 - 1), .int y6, .ref a4]) (M1 := M) 2 (fun n => rfl) ?_
  refine Ev.step 1 (gs_4 rfl rfl (is_c ra4 g7)) ?_
  exact hz
theorem go_121 {e : Nat} {M : Mem} {M' : Mem} {v : Option Value} {va2 vo vw : List Value} {bf d gl k n t y6 y8 : Int32} {a2 a4 o w ws : Nat} {la4 : List Int32} (hw : gNth M w = some (.inr (7, vw))) (f1 : gNth vw 0 = some (.ref a2)) (ha2 : gNth M a2 = some (.inr (0, va2))) (f3 : gNth va2 2 = some (.ref a4)) (ho : gNth M o = some (.inr (8, vo))) (f5 : gNth vo 0 = some (.int y6)) (ra4 : gNth M a4 = some (.inl (1, .inl la4))) (g7 : gAt la4 ((8 * y6) + d) = some y8) (hz : Ev none e 58 144 [some (.ref w), some (.int t), some (.int bf), some (.int n), some (.int k), some (.ref o), some (.ref ws), some (.int gl), some (.int d)] [.int d, .int y8, .ref o] M v M' 0 0) : Ev none e 58 121 [some (.ref w), some (.int t), some (.int bf), some (.int n), some (.int k), some (.ref o), some (.ref ws), some (.int gl), some (.int d)] [] M v M' 0 0 := by
  refine Ev.step (pc' := 124) (ls' := [some (.ref w), some (.int t), some (.int bf), some (.int n), some (.int k), some (.ref o), some (.ref ws), some (.int gl), some (.int d)]) (st' := [.ref w, .ref o]) (M1 := M) 2 (fun n => rfl) ?_
  refine Ev.step 1 (gs_3 rfl rfl (gf_c rfl hw f1)) ?_
  refine Ev.step 1 (gs_3 rfl rfl (gf_c rfl ha2 f3)) ?_
  refine Ev.step (pc' := 134) (ls' := [some (.ref w), some (.int t), some (.int bf), some (.int n), some (.int k), some (.ref o), some (.ref ws), some (.int gl), some (.int d)]) (st' := [.ref o, .int 8, .ref a4, .ref o]) (M1 := M) 2 (fun n => rfl) ?_
  refine Ev.step 1 (gs_3 rfl rfl (gf_c rfl ho f5)) ?_
  refine Ev.step (pc' := 141) (ls' := [some (.ref w), some (.int t), some (.int bf), some (.int n), some (.int k), some (.ref o), some (.ref ws), some (.int gl), some (.int d)]) (st' := [.int ((8 * y6) + d), .ref a4, .ref o]) (M1 := M) 3 (fun n => rfl) ?_
  refine Ev.step 1 (gs_3 rfl rfl (ia_c ra4 g7)) ?_
  refine Ev.step (pc' := 144) (ls' := [some (.ref w), some (.int t), some (.int bf), some (.int n), some (.int k), some (.ref o), some (.ref ws), some (.int gl), some (.int d)]) (st' := [.int d, .int y8, .ref o]) (M1 := M) 1 (fun n => rfl) ?_
  exact hz
theorem go_147 {e : Nat} {M : Mem} {M' : Mem} {v : Option Value} {va2 vo vw : List Value} {bf d gl k n t y6 y8 : Int32} {a2 a4 o w ws : Nat} {la4 : List Int32} (hw : gNth M w = some (.inr (7, vw))) (f1 : gNth vw 7 = some (.ref a2)) (ha2 : gNth M a2 = some (.inr (1, va2))) (f3 : gNth va2 9 = some (.ref a4)) (ho : gNth M o = some (.inr (8, vo))) (f5 : gNth vo 0 = some (.int y6)) (ra4 : gNth M a4 = some (.inl (1, .inl la4))) (g7 : gAt la4 y6 = some y8) (hz : Ev none e 58 164 [some (.ref w), some (.int t), some (.int bf), some (.int n), some (.int k), some (.ref o), some (.ref ws), some (.int gl), some (.int d)] [] (gPut M a4 (.inl (1, .inl (gPut la4 y6.toNatClampNeg (y8 + 1))))) v M' 0 0) : Ev none e 58 147 [some (.ref w), some (.int t), some (.int bf), some (.int n), some (.int k), some (.ref o), some (.ref ws), some (.int gl), some (.int d)] [] M v M' 0 0 := by
  refine Ev.step (pc' := 148) (ls' := [some (.ref w), some (.int t), some (.int bf), some (.int n), some (.int k), some (.ref o), some (.ref ws), some (.int gl), some (.int d)]) (st' := [.ref w]) (M1 := M) 1 (fun n => rfl) ?_
  refine Ev.step 1 (gs_3 rfl rfl (gf_c rfl hw f1)) ?_
  refine Ev.step 1 (gs_3 rfl rfl (gf_c rfl ha2 f3)) ?_
  refine Ev.step (pc' := 156) (ls' := [some (.ref w), some (.int t), some (.int bf), some (.int n), some (.int k), some (.ref o), some (.ref ws), some (.int gl), some (.int d)]) (st' := [.ref o, .ref a4]) (M1 := M) 1 (fun n => rfl) ?_
  refine Ev.step 1 (gs_3 rfl rfl (gf_c rfl ho f5)) ?_
  refine Ev.step (pc' := 160) (ls' := [some (.ref w), some (.int t), some (.int bf), some (.int n), some (.int k), some (.ref o), some (.ref ws), some (.int gl), some (.int d)]) (st' := [.int y6, .ref a4, .int y6, .ref a4]) (M1 := M) 1 (fun n => rfl) ?_
  refine Ev.step 1 (gs_3 rfl rfl (ia_c ra4 g7)) ?_
  refine Ev.step (pc' := 163) (ls' := [some (.ref w), some (.int t), some (.int bf), some (.int n), some (.int k), some (.ref o), some (.ref ws), some (.int gl), some (.int d)]) (st' := [.int (y8 + 1), .int y6, .ref a4]) (M1 := M) 2 (fun n => rfl) ?_
  refine Ev.step 1 (gs_4 rfl rfl (is_c ra4 g7)) ?_
  exact hz
theorem go_164 {e : Nat} {M : Mem} {M' : Mem} {v : Option Value} {vo : List Value} {bf d gl k n t y2 : Int32} {o w ws : Nat} (ho : gNth M o = some (.inr (8, vo))) (f1 : gNth vo 0 = some (.int y2)) (hz : Ev none e 58 170 [some (.ref w), some (.int t), some (.int bf), some (.int n), some (.int k), some (.ref o), some (.ref ws), some (.int gl), some (.int d)] [.int y2, .ref w] M v M' 0 0) : Ev none e 58 164 [some (.ref w), some (.int t), some (.int bf), some (.int n), some (.int k), some (.ref o), some (.ref ws), some (.int gl), some (.int d)] [] M v M' 0 0 := by
  refine Ev.step (pc' := 167) (ls' := [some (.ref w), some (.int t), some (.int bf), some (.int n), some (.int k), some (.ref o), some (.ref ws), some (.int gl), some (.int d)]) (st' := [.ref o, .ref w]) (M1 := M) 2 (fun n => rfl) ?_
  refine Ev.step 1 (gs_3 rfl rfl (gf_c rfl ho f1)) ?_
  exact hz
theorem go_173 {e : Nat} {M : Mem} {M' : Mem} {v : Option Value} {vo : List Value} {bf d gl k n t y2 : Int32} {o w ws : Nat} (ho : gNth M o = some (.inr (8, vo))) (f1 : gNth vo 2 = some (.int y2)) (hlo : 2 < vo.length) (hz : Ev none e 58 184 [some (.ref w), some (.int t), some (.int bf), some (.int n), some (.int k), some (.ref o), some (.ref ws), some (.int gl), some (.int d)] [] (gPut M o (.inr (8, gPut vo 2 (.int (y2 + 1))))) v M' 0 0) : Ev none e 58 173 [some (.ref w), some (.int t), some (.int bf), some (.int n), some (.int k), some (.ref o), some (.ref ws), some (.int gl), some (.int d)] [] M v M' 0 0 := by
  refine Ev.step (pc' := 176) (ls' := [some (.ref w), some (.int t), some (.int bf), some (.int n), some (.int k), some (.ref o), some (.ref ws), some (.int gl), some (.int d)]) (st' := [.ref o, .ref o]) (M1 := M) 2 (fun n => rfl) ?_
  refine Ev.step 1 (gs_3 rfl rfl (gf_c rfl ho f1)) ?_
  refine Ev.step (pc' := 181) (ls' := [some (.ref w), some (.int t), some (.int bf), some (.int n), some (.int k), some (.ref o), some (.ref ws), some (.int gl), some (.int d)]) (st' := [.int (y2 + 1), .ref o]) (M1 := M) 2 (fun n => rfl) ?_
  refine Ev.step 1 (gs_4 rfl rfl (pf_c rfl ho hlo rfl rfl)) ?_
  exact hz
theorem go_184 {e : Nat} {M : Mem} {M' : Mem} {v : Option Value} {bf d gl k n t : Int32} {o w ws : Nat}  (hz : Ev none e 58 189 [some (.ref w), some (.int t), some (.int bf), some (.int n), some (.int k), some (.ref o), some (.ref ws), some (.int gl), some (.int d)] [.int gl, .ref o, .ref w] M v M' 0 0) : Ev none e 58 184 [some (.ref w), some (.int t), some (.int bf), some (.int n), some (.int k), some (.ref o), some (.ref ws), some (.int gl), some (.int d)] [] M v M' 0 0 := by
  refine Ev.step (pc' := 189) (ls' := [some (.ref w), some (.int t), some (.int bf), some (.int n), some (.int k), some (.ref o), some (.ref ws), some (.int gl), some (.int d)]) (st' := [.int gl, .ref o, .ref w]) (M1 := M) 3 (fun n => rfl) ?_
  exact hz
theorem go_192 {e : Nat} {M : Mem} {M' : Mem} {v : Option Value} {bf d gl k n t : Int32} {o w ws : Nat}  (hz : Ev none e 58 29 [some (.ref w), some (.int t), some (.int bf), some (.int n), some (.int (k + 1)), some (.ref o), some (.ref ws), some (.int gl), some (.int d)] [] M v M' 0 0) : Ev none e 58 192 [some (.ref w), some (.int t), some (.int bf), some (.int n), some (.int k), some (.ref o), some (.ref ws), some (.int gl), some (.int d)] [] M v M' 0 0 := by
  refine Ev.step (pc' := 29) (ls' := [some (.ref w), some (.int t), some (.int bf), some (.int n), some (.int (k + 1)), some (.ref o), some (.ref ws), some (.int gl), some (.int d)]) (st' := []) (M1 := M) 2 (fun n => rfl) ?_
  exact hz
theorem go_198 {e : Nat} {M : Mem} {M' : Mem} {v : Option Value} {bf k n t : Int32} {w : Nat} {x5 x6 x7 x8 : Option Value}  (hz : Ev none e 58 199 [some (.ref w), some (.int t), some (.int bf), some (.int n), some (.int k), x5, x6, x7, x8] [.ref w] M v M' 0 0) : Ev none e 58 198 [some (.ref w), some (.int t), some (.int bf), some (.int n), some (.int k), x5, x6, x7, x8] [] M v M' 0 0 := by
  refine Ev.step (pc' := 199) (ls' := [some (.ref w), some (.int t), some (.int bf), some (.int n), some (.int k), x5, x6, x7, x8]) (st' := [.ref w]) (M1 := M) 1 (fun n => rfl) ?_
  exact hz
theorem go_202 {e : Nat} {M : Mem} {M' : Mem} {v : Option Value} {va2 vw : List Value} {bf n t y4 : Int32} {a2 w : Nat} {x4 x5 x6 x7 x8 : Option Value} (hw : gNth M w = some (.inr (7, vw))) (f1 : gNth vw 7 = some (.ref a2)) (ha2 : gNth M a2 = some (.inr (1, va2))) (f3 : gNth va2 16 = some (.int y4)) (hla2 : 16 < va2.length) (hz : Ev none e 58 10 [some (.ref w), some (.int t), some (.int bf), some (.int (n + 1)), x4, x5, x6, x7, x8] [] (gPut M a2 (.inr (1, gPut va2 16 (.int (y4 + 1))))) v M' 0 0) : Ev none e 58 202 [some (.ref w), some (.int t), some (.int bf), some (.int n), x4, x5, x6, x7, x8] [] M v M' 0 0 := by
  refine Ev.step (pc' := 203) (ls' := [some (.ref w), some (.int t), some (.int bf), some (.int n), x4, x5, x6, x7, x8]) (st' := [.ref w]) (M1 := M) 1 (fun n => rfl) ?_
  refine Ev.step 1 (gs_3 rfl rfl (gf_c rfl hw f1)) ?_
  refine Ev.step (pc' := 207) (ls' := [some (.ref w), some (.int t), some (.int bf), some (.int n), x4, x5, x6, x7, x8]) (st' := [.ref a2, .ref a2]) (M1 := M) 1 (fun n => rfl) ?_
  refine Ev.step 1 (gs_3 rfl rfl (gf_c rfl ha2 f3)) ?_
  refine Ev.step (pc' := 212) (ls' := [some (.ref w), some (.int t), some (.int bf), some (.int n), x4, x5, x6, x7, x8]) (st' := [.int (y4 + 1), .ref a2]) (M1 := M) 2 (fun n => rfl) ?_
  refine Ev.step 1 (gs_4 rfl rfl (pf_c rfl ha2 hla2 rfl rfl)) ?_
  refine Ev.step (pc' := 10) (ls' := [some (.ref w), some (.int t), some (.int bf), some (.int (n + 1)), x4, x5, x6, x7, x8]) (st' := []) (M1 := (gPut M a2 (.inr (1, gPut va2 16 (.int (y4 + 1)))))) 2 (fun n => rfl) ?_
  exact hz
theorem go_221 {e : Nat} {M : Mem} {va2 vw : List Value} {bf n t y4 : Int32} {a2 w : Nat} {x4 x5 x6 x7 x8 : Option Value} (hw : gNth M w = some (.inr (7, vw))) (f1 : gNth vw 7 = some (.ref a2)) (ha2 : gNth M a2 = some (.inr (1, va2))) (f3 : gNth va2 17 = some (.int y4)) : Ev none e 58 221 [some (.ref w), some (.int t), some (.int bf), some (.int n), x4, x5, x6, x7, x8] [] M (some (.int (y4 - bf))) M 0 0 := by
  refine Ev.step (pc' := 222) (ls' := [some (.ref w), some (.int t), some (.int bf), some (.int n), x4, x5, x6, x7, x8]) (st' := [.ref w]) (M1 := M) 1 (fun n => rfl) ?_
  refine Ev.step 1 (gs_3 rfl rfl (gf_c rfl hw f1)) ?_
  refine Ev.step 1 (gs_3 rfl rfl (gf_c rfl ha2 f3)) ?_
  refine Ev.step (pc' := 230) (ls' := [some (.ref w), some (.int t), some (.int bf), some (.int n), x4, x5, x6, x7, x8]) (st' := [.int (y4 - bf)]) (M1 := M) 2 (fun n => rfl) ?_
  exact Ev.ret (fun n => rfl)
/-! BY HAND, the class: what the walkers' steps keep -/
noncomputable def irB (g n : Nat) (lo hi : Int) : Bool := match gNth sG g with
  | some (.inr (q, m, .inl [(a, b, w, [(x, y)])])) => (Nat.beq q 1 && (Nat.beq m n && (Nat.beq a 0 && (Nat.beq b n && Nat.beq w 1)))) && (decide (x = lo) && decide (y = hi))
  | _ => false
theorem sg_one {n i : Nat} {p : Iv} (h : i < n) : sgAt [(0, n, 1, [p])] i = some p := by
  show cond (Nat.ble 0 i && Nat.blt i n) (gNth [p] ((i - 0) % 1)) _ = _
  have h1 : Nat.ble 0 i = true := Nat.ble_eq_true_of_le (Nat.zero_le _)
  have h2 : Nat.blt i n = true := Nat.ble_eq_true_of_le h
  rw [h1, h2, Nat.mod_one]
  rfl
theorem TM.irow {M : Mem} {a g n : Nat} {lo hi : Int} (hT : TM sT sG M) (ha : gNth sT a = some g) (hB : irB g n lo hi = true) : ∃ l, gNth M a = some (.inl (1, .inl l)) ∧ l.length = n ∧ (∀ j x, gNth l j = some x → lo ≤ x.toInt ∧ x.toInt ≤ hi) ∧ ∀ (i : Nat) (z : Int32), lo ≤ z.toInt → z.toInt ≤ hi → TM sT sG (gPut M a (.inl (1, .inl (gPut l i z)))) := by
  unfold irB at hB
  split at hB
  rotate_left
  · cases hB
  rename_i q m a0 b0 w x y e
  obtain ⟨b1, hB⟩ := and_t hB
  obtain ⟨x1, x2⟩ := and_t hB
  obtain ⟨b1, b2⟩ := and_t b1
  obtain ⟨b2, b3⟩ := and_t b2
  obtain ⟨b3, b4⟩ := and_t b3
  obtain ⟨b4, b5⟩ := and_t b4
  cases Nat.eq_of_beq_eq_true b1
  cases Nat.eq_of_beq_eq_true b2
  cases Nat.eq_of_beq_eq_true b3
  cases Nat.eq_of_beq_eq_true b4
  cases Nat.eq_of_beq_eq_true b5
  cases of_decide_eq_true x1
  cases of_decide_eq_true x2
  obtain ⟨ee, e1, e2⟩ := hT.at ha e
  obtain ⟨l, rfl, l1, l2⟩ := ct_int (by decide) e2
  refine ⟨l, e1, l1, fun j v hj => ?_, fun i z z1 z2 => hT.put (fun g3 t q1 q2 => ?_)⟩
  · obtain ⟨p, p1, p2⟩ := l2 j v hj
    have hlt := gNth_lt _ _ _ hj
    rw [l1] at hlt
    rw [sg_one hlt] at p1
    cases p1
    exact p2
  · rw [ha] at q1
    cases q1
    rw [e] at q2
    cases q2
    refine ct_mk (by decide) (by rw [put_len]; exact l1) (fun j v hj => ?_)
    have hlt := gNth_lt _ _ _ hj
    rw [put_len, l1] at hlt
    refine ⟨_, sg_one hlt, ?_⟩
    rw [nth_put] at hj
    split at hj
    · cases hj
      exact ⟨z1, z2⟩
    · obtain ⟨p, p1, p2⟩ := l2 j v hj
      rw [sg_one hlt] at p1
      cases p1
      exact p2
/-- the land that walks -/
def LD (ld : Nat) (M : Mem) : Prop := ∃ vw, gNth M 104 = some (.inr (7, vw)) ∧ gNth vw 7 = some (.ref ld)
theorem LD.frm {ld : Nat} {md : Md} {M M' : Mem} (hF : Frm sT md M M') (hm : (7, 7) ∉ md) (h : LD ld M) : LD ld M' := by
  obtain ⟨vw, e1, e2⟩ := h
  obtain ⟨vw', f1, _, f3⟩ := hF.2.1 _ _ _ e1
  exact ⟨vw', f1, (f3 7 hm).trans e2⟩
theorem LD.grp {ld : Nat} {M : Mem} (hT : TM sT sG M) (h : LD ld M) : gNth sT ld = some 8 := by
  obtain ⟨vw, e1, e2⟩ := h
  obtain ⟨q, y5⟩ := and_t lyW
  obtain ⟨q, y4⟩ := and_t q
  obtain ⟨q, y3⟩ := and_t q
  obtain ⟨y1, y2⟩ := and_t q
  obtain ⟨vs, b, f1, f2, f3⟩ := hT.fref sT_104 y1
  cases e1.symm.trans f1
  cases e2.symm.trans f2
  exact f3
theorem cge_frm {md : Md} {M M' : Mem} {b : Nat} (hF : Frm sT md M M') (hm : (8, 0) ∉ md) (h : cge M b) : cge M' b := by
  obtain ⟨us, x, g2, g3, g4⟩ := h
  obtain ⟨us', i1, i2, i3⟩ := hF.2.1 _ _ _ g2
  exact ⟨us', x, i1, (i3 0 hm).trans g3, g4⟩
/-- some steps: walkers of S may lose their cells, no others -/
def KP (S : Nat → Prop) (md : Md) (ld : Nat) (M M' : Mem) : Prop := TM sT sG M' ∧ Frm sT md M M' ∧ LD ld M' ∧ ∀ b, ¬ S b → cge M b → cge M' b
section KPS
variable {S : Nat → Prop} {md : Md} {ld : Nat} {M M1 M2 : Mem}
theorem KP.refl (hT : TM sT sG M) (hL : LD ld M) : KP S md ld M M := ⟨hT, Frm.refl _, hL, fun _ _ h => h⟩
theorem KP.trans (h : KP S md ld M M1) (h2 : KP S md ld M1 M2) : KP S md ld M M2 := ⟨h2.1, h.2.1.trans h2.2.1, h2.2.2.1, fun b hb hc => h2.2.2.2 b hb (h.2.2.2 b hb hc)⟩
theorem KP.call {cm : Md} (hT : TM sT sG M1) (hF : Frm sT cm M M1) (hs : mdSub cm md = true) (h8 : (8, 0) ∉ cm) (h7 : (7, 7) ∉ cm) (hL : LD ld M) : KP S md ld M M1 :=
  ⟨hT, hF.more (mdSub_mem hs), hL.frm hF h7, fun _ _ h => cge_frm hF h8 h⟩
theorem KP.fld {a g ci k : Nat} {lo hi : Int} {vs : List Value} (hT : TM sT sG M) (hL : LD ld M) (ha : gNth sT a = some g) (hB : fiB g ci k lo hi = true) (hM : gNth M a = some (.inr (ci, vs))) (hmd : (ci, k) ∈ md) {z : Int32} (z1 : lo ≤ z.toInt) (z2 : z.toInt ≤ hi) (h7 : ci ≠ 7) (h8 : ¬ (ci = 8 ∧ k = 0) ∨ S a ∨ 0 ≤ z.toInt) : KP S md ld M (gPut M a (.inr (ci, gPut vs k (.int z)))) := by
  obtain ⟨vs2, y, e1, e2, e3, _, _, e4⟩ := hT.fnum ha hB
  cases e1.symm.trans hM
  have hF : Frm sT [(ci, k)] M (gPut M a (.inr (ci, gPut vs k (.int z)))) := Frm.fld hM List.mem_cons_self
  refine ⟨e4 z z1 z2, Frm.fld hM hmd, hL.frm hF (fun q => h7 (by cases List.mem_singleton.mp q; rfl)), fun b hb hc => ?_⟩
  rcases h8 with h8 | h8 | h8
  · exact cge_frm hF (fun q => h8 (by cases List.mem_singleton.mp q; exact ⟨rfl, rfl⟩)) hc
  · obtain ⟨us, x, g2, g3, g4⟩ := hc
    exact ⟨us, x, by rw [nth_put, if_neg (fun q => hb (by rw [q.1]; exact h8))]; exact g2, g3, g4⟩
  · obtain ⟨us, x, g2, g3, g4⟩ := hc
    by_cases hba : b = a
    · subst hba
      cases g2.symm.trans hM
      refine ⟨gPut vs k (.int z), if k = 0 then z else x, by rw [nth_put, if_pos ⟨rfl, gNth_lt _ _ _ hM⟩], ?_, ?_⟩
      · by_cases hk : k = 0
        · subst hk
          rw [if_pos rfl, nth_put, if_pos ⟨rfl, e3⟩]
        · rw [if_neg hk, nth_put, if_neg (fun q => hk q.1.symm)]
          exact g3
      · by_cases hk : k = 0
        · rw [if_pos hk]; exact h8
        · rw [if_neg hk]; exact g4
    · exact ⟨us, x, by rw [nth_put, if_neg (fun q => hba q.1)]; exact g2, g3, g4⟩
theorem KP.row {a g n i : Nat} {lo hi : Int} {l : List Int32} (hT : TM sT sG M) (hL : LD ld M) (ha : gNth sT a = some g) (hB : irB g n lo hi = true) (hM : gNth M a = some (.inl (1, .inl l))) (hmd : (1000 + g, 0) ∈ md) {z : Int32} (z1 : lo ≤ z.toInt) (z2 : z.toInt ≤ hi) : KP S md ld M (gPut M a (.inl (1, .inl (gPut l i z)))) := by
  obtain ⟨l2, e1, e2, e3, e4⟩ := hT.irow ha hB
  cases e1.symm.trans hM
  have hF : Frm sT [(1000 + g, 0)] M (gPut M a (.inl (1, .inl (gPut l i z)))) := Frm.row hM ha List.mem_cons_self
  exact ⟨e4 i z z1 z2, Frm.row hM ha hmd, hL.frm hF (fun q => by have := (Prod.mk.inj (List.mem_singleton.mp q)).1; omega), fun b _ hc => cge_put hM hc⟩
end KPS
/-- all lands' walkers, but the first i of the land that walks -/
def WKi (a i : Nat) (M : Mem) : Prop := ∃ (vl : List Value) (l : List (Option Nat)) (n : Int32), gNth M a = some (.inr (1, vl)) ∧ gNth vl 14 = some (.ref (a + 11)) ∧ gNth vl 15 = some (.int n) ∧ gNth M (a + 11) = some (.inl (6, .inr (.inr l))) ∧ unl l ∧ (∀ k b, gNth l k = some (some b) → a + 36 ≤ b ∧ b < a + 96) ∧ ∀ k, i ≤ k → k < n.toInt.toNat → ∃ b, gNth l k = some (some b) ∧ cge M b
def PG (ld i : Nat) (M : Mem) : Prop := ∀ a, a ∈ [8, 243, 345, 441, 537] → WKi a (if a = ld then i else 0) M
theorem PG.of {ld : Nat} {M : Mem} (h : P34 M) : PG ld 0 M := by
  intro a ha
  obtain ⟨vl, l, n, e1, e2, e3, e4, e5, e6, e7⟩ := h a ha
  exact ⟨vl, l, n, e1, e2, e3, e4, e5, e6, fun k _ hk => e7 k hk⟩
set_option maxRecDepth 100000 in
theorem ld_grp : ((List.range 664).all (fun a => match gNth sT a with
  | some g => !Nat.beq g 8 || (Nat.beq a 8 || (Nat.beq a 243 || (Nat.beq a 345 || (Nat.beq a 441 || Nat.beq a 537))))
  | none => true)) = true := by decide +kernel
theorem ld_in {a : Nat} (h : gNth sT a = some 8) : a ∈ [8, 243, 345, 441, 537] := by
  have hl := gNth_lt _ _ _ h
  rw [sT_len] at hl
  have h1 := List.all_eq_true.mp ld_grp a (List.mem_range.mpr hl)
  rw [h] at h1
  have h2 : (!Nat.beq 8 8 || (Nat.beq a 8 || (Nat.beq a 243 || (Nat.beq a 345 || (Nat.beq a 441 || Nat.beq a 537))))) = true := h1
  simp only [Bool.or_eq_true] at h2
  rcases h2 with h2 | h2 | h2 | h2 | h2 | h2
  · cases h2
  · cases Nat.eq_of_beq_eq_true h2; decide
  · cases Nat.eq_of_beq_eq_true h2; decide
  · cases Nat.eq_of_beq_eq_true h2; decide
  · cases Nat.eq_of_beq_eq_true h2; decide
  · cases Nat.eq_of_beq_eq_true h2; decide
theorem WKi.frm {a i i' : Nat} {md : Md} {M M' : Mem} (ha : a ∈ [8, 243, 345, 441, 537]) (hF : Frm sT md M M') (m1 : (1, 14) ∉ md) (m2 : (1, 15) ∉ md) (m4 : (1019, 0) ∉ md) (hii : i ≤ i') (h : WKi a i M) (hc : ∀ l k b, gNth M (a + 11) = some (.inl (6, .inr (.inr l))) → unl l → (∀ k b, gNth l k = some (some b) → a + 36 ≤ b ∧ b < a + 96) → gNth l k = some (some b) → i' ≤ k → cge M b → cge M' b) : WKi a i' M' := by
  obtain ⟨vl, l, n, e1, e2, e3, e4, e5, e6, e7⟩ := h
  obtain ⟨vl', f1, f2, f3⟩ := hF.2.1 _ _ _ e1
  refine ⟨vl', l, n, f1, (f3 14 m1).trans e2, (f3 15 m2).trans e3, row_frm hF (ld_row ha) m4 e4, e5, e6, fun k hk hk2 => ?_⟩
  obtain ⟨b, g1, g2⟩ := e7 k (Nat.le_trans hii hk) hk2
  exact ⟨b, g1, hc l k b e4 e5 e6 g1 hk g2⟩
/-- the i-th walker has gone -/
theorem PG.step {ld i o : Nat} {md : Md} {M M' : Mem} {l : List (Option Nat)} (hld : ld ∈ [8, 243, 345, 441, 537]) (h : PG ld i M) (hK : KP (fun b => b = o) md ld M M') (m1 : (1, 14) ∉ md) (m2 : (1, 15) ∉ md) (m4 : (1019, 0) ∉ md) (hr : gNth M (ld + 11) = some (.inl (6, .inr (.inr l)))) (ho : gNth l i = some (some o)) : PG ld (i + 1) M' := by
  intro a ha
  have hW := h a ha
  obtain ⟨vl0, l0, n0, _, _, _, d4, d5, d6, _⟩ := h ld hld
  cases d4.symm.trans hr
  have hob := d6 i o ho
  by_cases hal : a = ld
  · subst hal
    rw [if_pos rfl] at hW ⊢
    refine WKi.frm ha hK.2.1 m1 m2 m4 (Nat.le_succ _) hW (fun l2 k b q1 q2 q3 q4 q5 q6 => hK.2.2.2 b (fun q => ?_) q6)
    cases q1.symm.trans hr
    have q : b = o := q
    subst q
    have := q2 k i b q4 ho
    omega
  · rw [if_neg hal] at hW ⊢
    refine WKi.frm ha hK.2.1 m1 m2 m4 (Nat.le_refl _) hW (fun l2 k b q1 q2 q3 q4 q5 q6 => hK.2.2.2 b (fun q => ?_) q6)
    have q : b = o := q
    subst q
    have := q3 k b q4
    have := ld_all ha
    have := ld_all hld
    omega
theorem P34.kp {ld : Nat} {md : Md} {M M' : Mem} (h : P34 M) (hK : KP (fun _ => False) md ld M M') (m1 : (1, 14) ∉ md) (m2 : (1, 15) ∉ md) (m4 : (1019, 0) ∉ md) : P34 M' := by
  intro a ha
  obtain ⟨vl, l, n, e1, e2, e3, e4, e5, e6, e7⟩ := h a ha
  obtain ⟨vl', l', n', f1, f2, f3, f4, f5, f6, f7⟩ := WKi.frm (i := 0) (i' := 0) ha hK.2.1 m1 m2 m4 (Nat.le_refl _) ⟨vl, l, n, e1, e2, e3, e4, e5, e6, fun k _ hk => e7 k hk⟩ (fun _ _ b _ _ _ _ _ q => hK.2.2.2 b (fun q => q) q)
  exact ⟨vl', l', n', f1, f2, f3, f4, f5, f6, fun k hk => f7 k (Nat.zero_le _) hk⟩
/-- one more walks -/
theorem P34.more {ld b nn : Nat} {M : Mem} {vl : List Value} {l : List (Option Nat)} {n : Int32} (hld : ld ∈ [8, 243, 345, 441, 537]) (h : P34 M) (hM : gNth M ld = some (.inr (1, vl))) (hn : gNth vl 15 = some (.int n)) (hnn : n.toInt = (nn : Int)) (h60 : nn < 60) (hr : gNth M (ld + 11) = some (.inl (6, .inr (.inr l)))) (hb : gNth l nn = some (some b)) (hc : cge M b) : P34 (gPut M ld (.inr (1, gPut vl 15 (.int (n + 1))))) := by
  intro a ha
  obtain ⟨vl2, l2, n2, e1, e2, e3, e4, e5, e6, e7⟩ := h a ha
  have hlt := gNth_lt _ _ _ hM
  have e1n : (n + 1).toInt = n.toInt + 1 := i32_p1 (by omega)
  have hrow : gNth (gPut M ld (.inr (1, gPut vl 15 (.int (n + 1))))) (a + 11) = some (.inl (6, .inr (.inr l2))) := by
    rw [nth_put, if_neg (fun q => by rw [q.1, hM] at e4; cases e4)]
    exact e4
  have hcg : ∀ c, cge M c → cge (gPut M ld (.inr (1, gPut vl 15 (.int (n + 1))))) c := by
    rintro c ⟨us, x, g2, g3, g4⟩
    exact ⟨us, x, by rw [nth_put, if_neg (fun q => by rw [q.1, hM] at g2; cases g2)]; exact g2, g3, g4⟩
  by_cases hal : a = ld
  · subst hal
    cases e1.symm.trans hM
    cases e3.symm.trans hn
    cases e4.symm.trans hr
    refine ⟨_, l, n + 1, by rw [nth_put, if_pos ⟨rfl, hlt⟩], by rw [nth_put, if_neg (by omega)]; exact e2, by rw [nth_put, if_pos ⟨rfl, gNth_lt _ _ _ e3⟩], hrow, e5, e6, fun k hk => ?_⟩
    by_cases hkn : k = nn
    · exact ⟨b, by rw [hkn]; exact hb, hcg b hc⟩
    · obtain ⟨b2, g1, g2⟩ := e7 k (by omega)
      exact ⟨b2, g1, hcg b2 g2⟩
  · refine ⟨vl2, l2, n2, by rw [nth_put, if_neg (fun q => hal q.1)]; exact e1, e2, e3, hrow, e5, e6, fun k hk => ?_⟩
    obtain ⟨b2, g1, g2⟩ := e7 k hk
    exact ⟨b2, g1, hcg b2 g2⟩
/-! BY HAND, the class: step, Walker.begin, leaveIfDone, choose, tread, due, as the loops of go ask for them -/
def mdBd : Md := [(1, 17), (1, 18), (7, 10), (8, 0), (8, 1), (8, 2), (8, 3), (8, 4), (1012, 0), (1014, 0), (1015, 0), (1016, 0), (1037, 0), (1039, 0)]
def mdBg : Md := [(1, 19), (8, 0), (8, 1), (8, 2), (8, 3), (8, 4), (1016, 0)]
set_option maxRecDepth 100000 in
theorem ly_land : fdB 22 7 7 8 = true := by decide +kernel
set_option maxRecDepth 100000 in
theorem ly_grid : fdB 22 7 0 23 = true := by decide +kernel
set_option maxRecDepth 100000 in
theorem ly_bes : fdB 23 0 2 26 = true := by decide +kernel
set_option maxRecDepth 100000 in
theorem ly_crowd : fdB 8 1 9 16 = true := by decide +kernel
set_option maxRecDepth 100000 in
theorem ly_crowdr : irB 16 256 (-2147483648) 2147483647 = true := by decide +kernel
set_option maxRecDepth 100000 in
theorem ly_door : fdB 8 1 10 17 = true := by decide +kernel
set_option maxRecDepth 100000 in
theorem ly_doorr : irB 17 9 0 255 = true := by decide +kernel
set_option maxRecDepth 100000 in
theorem ly_wish : fdB 8 1 12 18 = true := by decide +kernel
set_option maxRecDepth 100000 in
theorem ly_wishr : rrB 18 7 24 20 = true := by decide +kernel
set_option maxRecDepth 100000 in
theorem ly_wk : fdB 8 1 14 19 = true := by decide +kernel
set_option maxRecDepth 100000 in
theorem ly_wkr : rrB 19 6 60 21 = true := by decide +kernel
set_option maxRecDepth 100000 in
theorem ly_wishes : fiB 8 1 13 0 24 = true := by decide +kernel
set_option maxRecDepth 100000 in
theorem ly_walkers : fiB 8 1 15 0 60 = true := by decide +kernel
set_option maxRecDepth 100000 in
theorem ly_tick : fiB 8 1 16 (-2147483648) 2147483647 = true := by decide +kernel
set_option maxRecDepth 100000 in
theorem ly_arr : fiB 8 1 17 (-2147483648) 2147483647 = true := by decide +kernel
set_option maxRecDepth 100000 in
theorem ly_lost : fiB 8 1 18 (-2147483648) 2147483647 = true := by decide +kernel
set_option maxRecDepth 100000 in
theorem ly_turn : fiB 8 1 19 (-2147483648) 2147483647 = true := by decide +kernel
set_option maxRecDepth 100000 in
theorem ly_from : fiB 20 9 0 0 8 = true := by decide +kernel
set_option maxRecDepth 100000 in
theorem ly_to : fiB 20 9 1 0 8 = true := by decide +kernel
set_option maxRecDepth 100000 in
theorem ly_habit : fiB 20 9 2 0 5 = true := by decide +kernel
set_option maxRecDepth 100000 in
theorem ly_cell : fiB 21 8 0 (-1) 255 = true := by decide +kernel
set_option maxRecDepth 100000 in
theorem ly_wwish : fiB 21 8 1 0 23 = true := by decide +kernel
set_option maxRecDepth 100000 in
theorem ly_age : fiB 21 8 2 (-2147483648) 2147483647 = true := by decide +kernel
set_option maxRecDepth 100000 in
theorem ly_came : fiB 21 8 3 (-2147483648) 2147483647 = true := by decide +kernel
set_option maxRecDepth 100000 in
theorem ly_way : fiB 21 8 4 (-2147483648) 2147483647 = true := by decide +kernel
set_option maxRecDepth 100000 in
theorem ly_trodw : fiB 22 7 10 0 1 = true := by decide +kernel
set_option maxRecDepth 100000 in
theorem sU_26 : gNth sU 26 = some (some 108) := by decide +kernel
set_option maxRecDepth 100000 in
theorem sG_26 : gNth sG 26 = some (.inr (1, 2048, .inl [(0, 1024, 1, [(.negSucc 0, .ofNat 255)]), (1024, 2048, 1, [(.negSucc 0, .ofNat 255)])])) := by rfl
section WLK
variable {S : Nat → Prop} {ld e : Nat} {M : Mem}
theorem LD.obj (hT : TM sT sG M) (hL : LD ld M) : ∃ vw vl, gNth M 104 = some (.inr (7, vw)) ∧ gNth vw 7 = some (.ref ld) ∧ gNth M ld = some (.inr (1, vl)) := by
  obtain ⟨vw, e1, e2⟩ := hL
  obtain ⟨vs, y, f1, _⟩ := hT.fnum (LD.grp hT ⟨vw, e1, e2⟩) ly_tick
  exact ⟨vw, vs, e1, e2, f1⟩
/-- a place of the land's row of ints -/
theorem LD.irow {k g n j : Nat} {lo hi : Int} {vl : List Value} {x : Int32} (hT : TM sT sG M) (hL : LD ld M) (hM : gNth M ld = some (.inr (1, vl))) (h1 : fdB 8 1 k g = true) (h2 : irB g n lo hi = true) (hx : x.toInt = (j : Int)) (hj : j < n) : ∃ a l y, gNth vl k = some (.ref a) ∧ gNth sT a = some g ∧ gNth M a = some (.inl (1, .inl l)) ∧ gAt l x = some y ∧ lo ≤ y.toInt ∧ y.toInt ≤ hi := by
  obtain ⟨vs, b, f1, f2, f3⟩ := hT.fref (hL.grp hT) h1
  cases f1.symm.trans hM
  obtain ⟨l, g1, g2, g3, _⟩ := hT.irow f3 h2
  obtain ⟨y, i1, i2⟩ := at_c (l := l) hx (by omega)
  exact ⟨b, l, y, f2, f3, g1, i1, g3 j y i2⟩
/-- a place of the land's row of objects -/
theorem LD.rrow {k g kd n g2 j : Nat} {vl : List Value} {x : Int32} (hT : TM sT sG M) (hL : LD ld M) (hM : gNth M ld = some (.inr (1, vl))) (h1 : fdB 8 1 k g = true) (h2 : rrB g kd n g2 = true) (hx : x.toInt = (j : Int)) (hj : j < n) : ∃ a l b, gNth vl k = some (.ref a) ∧ gNth sT a = some g ∧ gNth M a = some (.inl (kd, .inr (.inr l))) ∧ gAt l x = some (some b) ∧ gNth l j = some (some b) ∧ gNth sT b = some g2 := by
  obtain ⟨vs, b, f1, f2, f3⟩ := hT.fref (hL.grp hT) h1
  cases f1.symm.trans hM
  obtain ⟨l, g1, g4, g3, _⟩ := hT.rref f3 h2
  obtain ⟨y, i1, i2⟩ := at_c (l := l) hx (by omega)
  obtain ⟨c, rfl, hc⟩ := g3 j y i2
  exact ⟨b, l, c, f2, f3, g1, i1, i2, hc⟩
theorem ev_step {o : Nat} {c d : Int32} {M0 : Mem} (T0 : TM sT sG M0) (L0 : LD ld M0) (ho : gNth sT o = some 21) (hS : S o ∨ 0 ≤ c.toInt) (z1 : -1 ≤ c.toInt) (z2 : c.toInt ≤ 255) : ∃ M', Ev none e 74 0 [some (.ref o), some (.int c), some (.int d)] [] M0 none M' 0 0 ∧ KP S mdBd ld M0 M' ∧ ∃ vo, gNth M' o = some (.inr (8, vo)) ∧ gNth vo 0 = some (.int c) := by
  obtain ⟨w0, x0, p0, q0, _⟩ := T0.fnum ho ly_cell
  obtain ⟨v0, y0, a0, b0, c0, _, _, _⟩ := T0.fnum ho ly_came
  obtain ⟨M1, m1⟩ : ∃ N, N = gPut M0 o (.inr (8, gPut v0 3 (.int (x0)))) := ⟨_, rfl⟩
  have K1 : KP S mdBd ld M0 M1 := by rw [m1]; exact KP.fld T0 L0 ho ly_came a0 (by decide) (i32_lt _).1 (i32_lt _).2 (by decide) (Or.inl (by decide))
  have T1 := K1.1
  have L1 := K1.2.2.1
  obtain ⟨v1, y1, a1, b1, c1, _, _, _⟩ := T1.fnum ho ly_cell
  obtain ⟨M2, m2⟩ : ∃ N, N = gPut M1 o (.inr (8, gPut v1 0 (.int (c)))) := ⟨_, rfl⟩
  have K2 : KP S mdBd ld M1 M2 := by rw [m2]; exact KP.fld T1 L1 ho ly_cell a1 (by decide) z1 z2 (by decide) (Or.inr hS)
  have T2 := K2.1
  have L2 := K2.2.2.1
  obtain ⟨v2, y2, a2, b2, c2, _, _, _⟩ := T2.fnum ho ly_way
  obtain ⟨M3, m3⟩ : ∃ N, N = gPut M2 o (.inr (8, gPut v2 4 (.int (d)))) := ⟨_, rfl⟩
  have K3 : KP S mdBd ld M2 M3 := by rw [m3]; exact KP.fld T2 L2 ho ly_way a2 (by decide) (i32_lt _).1 (i32_lt _).2 (by decide) (Or.inl (by decide))
  have T3 := K3.1
  have L3 := K3.2.2.1
  cases a0.symm.trans p0
  refine ⟨M3, ?_, K1.trans (K2.trans K3), gPut v2 4 (.int d), by rw [m3, nth_put, if_pos ⟨rfl, gNth_lt _ _ _ a2⟩], ?_⟩
  · refine st_0 a0 q0 c0 ?_
    rw [← m1]
    refine st_8 a1 c1 ?_
    rw [← m2, m3]
    exact st_13 a2 c2
  · have a2' := a2
    rw [m2, nth_put, if_pos ⟨rfl, gNth_lt _ _ _ a1⟩] at a2'
    cases a2'
    rw [nth_put, if_neg (by omega), nth_put, if_pos ⟨rfl, c1⟩]
theorem ev_wbegin {o : Nat} {c k : Int32} {M0 : Mem} (T0 : TM sT sG M0) (L0 : LD ld M0) (ho : gNth sT o = some 21) (z1 : 0 ≤ c.toInt) (z2 : c.toInt ≤ 255) (k1 : 0 ≤ k.toInt) (k2 : k.toInt ≤ 23) : ∃ M', Ev none e 73 0 [some (.ref o), some (.int c), some (.int k)] [] M0 none M' 0 0 ∧ KP S mdBg ld M0 M' ∧ cge M' o := by
  obtain ⟨v0, y0, a0, b0, c0, _, _, _⟩ := T0.fnum ho ly_cell
  obtain ⟨M1, m1⟩ : ∃ N, N = gPut M0 o (.inr (8, gPut v0 0 (.int (c)))) := ⟨_, rfl⟩
  have K1 : KP S mdBg ld M0 M1 := by rw [m1]; exact KP.fld T0 L0 ho ly_cell a0 (by decide) (by omega) z2 (by decide) (Or.inr (Or.inr z1))
  have T1 := K1.1
  have L1 := K1.2.2.1
  obtain ⟨v1, y1, a1, b1, c1, _, _, _⟩ := T1.fnum ho ly_wwish
  obtain ⟨M2, m2⟩ : ∃ N, N = gPut M1 o (.inr (8, gPut v1 1 (.int (k)))) := ⟨_, rfl⟩
  have K2 : KP S mdBg ld M1 M2 := by rw [m2]; exact KP.fld T1 L1 ho ly_wwish a1 (by decide) k1 k2 (by decide) (Or.inl (by decide))
  have T2 := K2.1
  have L2 := K2.2.2.1
  obtain ⟨v2, y2, a2, b2, c2, _, _, _⟩ := T2.fnum ho ly_age
  obtain ⟨M3, m3⟩ : ∃ N, N = gPut M2 o (.inr (8, gPut v2 2 (.int (0)))) := ⟨_, rfl⟩
  have K3 : KP S mdBg ld M2 M3 := by rw [m3]; exact KP.fld T2 L2 ho ly_age a2 (by decide) (i32_lt _).1 (i32_lt _).2 (by decide) (Or.inl (by decide))
  have T3 := K3.1
  have L3 := K3.2.2.1
  obtain ⟨v3, y3, a3, b3, c3, _, _, _⟩ := T3.fnum ho ly_came
  obtain ⟨M4, m4⟩ : ∃ N, N = gPut M3 o (.inr (8, gPut v3 3 (.int (-1)))) := ⟨_, rfl⟩
  have K4 : KP S mdBg ld M3 M4 := by rw [m4]; exact KP.fld T3 L3 ho ly_came a3 (by decide) (i32_lt _).1 (i32_lt _).2 (by decide) (Or.inl (by decide))
  have T4 := K4.1
  have L4 := K4.2.2.1
  obtain ⟨v4, y4, a4, b4, c4, _, _, _⟩ := T4.fnum ho ly_way
  obtain ⟨M5, m5⟩ : ∃ N, N = gPut M4 o (.inr (8, gPut v4 4 (.int (-1)))) := ⟨_, rfl⟩
  have K5 : KP S mdBg ld M4 M5 := by rw [m5]; exact KP.fld T4 L4 ho ly_way a4 (by decide) (i32_lt _).1 (i32_lt _).2 (by decide) (Or.inl (by decide))
  have T5 := K5.1
  have L5 := K5.2.2.1
  have hc : cge M1 o := ⟨_, c, by rw [m1, nth_put, if_pos ⟨rfl, gNth_lt _ _ _ a0⟩], by rw [nth_put, if_pos ⟨rfl, c0⟩], z1⟩
  have keep : ∀ {N N' : Mem} {vs : List Value} {kk : Nat} {z : Value}, gNth N o = some (.inr (8, vs)) → N' = gPut N o (.inr (8, gPut vs kk z)) → kk ≠ 0 → cge N o → cge N' o := by
    rintro N N' vs kk z h1 rfl hk ⟨us, x, g2, g3, g4⟩
    cases g2.symm.trans h1
    exact ⟨_, x, by rw [nth_put, if_pos ⟨rfl, gNth_lt _ _ _ h1⟩], by rw [nth_put, if_neg (fun q => hk q.1.symm)]; exact g3, g4⟩
  refine ⟨M5, ?_, K1.trans (K2.trans (K3.trans (K4.trans K5))), keep a4 m5 (by decide) (keep a3 m4 (by decide) (keep a2 m3 (by decide) (keep a1 m2 (by decide) hc)))⟩
  refine wb_0 a0 c0 ?_
  rw [← m1]
  refine wb_5 a1 c1 ?_
  rw [← m2]
  refine wb_10 a2 c2 ?_
  rw [← m3]
  refine wb_15 a3 c3 ?_
  rw [← m4, m5]
  exact wb_20 a4 c4
theorem ev_leave {o cn : Nat} {gl x : Int32} {vo : List Value} {M0 : Mem} (T0 : TM sT sG M0) (L0 : LD ld M0) (ho : gNth sT o = some 21) (hM : gNth M0 o = some (.inr (8, vo))) (hx : gNth vo 0 = some (.int x)) (hc : x.toInt = (cn : Int)) (hc2 : cn ≤ 255) : ∃ M', Ev none e 60 0 [some (.ref 104), some (.ref o), some (.int gl), none] [] M0 none M' 0 0 ∧ KP (fun b => b = o) mdBd ld M0 M' := by
  have gone : ∀ (ar : Int32), ∃ M', Ev none e 60 29 [some (.ref 104), some (.ref o), some (.int gl), some (.int ar)] [] M0 none M' 0 0 ∧ KP (fun b => b = o) mdBd ld M0 M' := by
    intro ar
    obtain ⟨vw, vl, w1, w2, w3⟩ := L0.obj T0
    obtain ⟨v0, y0, a0, b0, c0, _, _, _⟩ := T0.fnum (L0.grp T0) ly_arr
    cases w3.symm.trans a0
    have st : ∀ (z1 z2 : Int32), ∃ M1 M2, M1 = gPut M0 ld (.inr (1, gPut vl 17 (.int z1))) ∧ KP (fun b => b = o) mdBd ld M0 M1 ∧ ∃ vl1 y1, gNth M1 ld = some (.inr (1, vl1)) ∧ gNth vl1 18 = some (.int y1) ∧ 18 < vl1.length ∧ M2 = gPut M1 ld (.inr (1, gPut vl1 18 (.int (y1 + z2)))) ∧ KP (fun b => b = o) mdBd ld M1 M2 := by
      intro z1 z2
      have K1 : KP (fun b => b = o) mdBd ld M0 (gPut M0 ld (.inr (1, gPut vl 17 (.int z1)))) := KP.fld T0 L0 (L0.grp T0) ly_arr w3 (by decide) (i32_lt _).1 (i32_lt _).2 (by decide) (Or.inl (by decide))
      obtain ⟨v1, y1, a1, b1, c1, _, _, _⟩ := K1.1.fnum (K1.2.2.1.grp K1.1) ly_lost
      exact ⟨_, _, rfl, K1, v1, y1, a1, b1, c1, rfl, KP.fld K1.1 K1.2.2.1 (K1.2.2.1.grp K1.1) ly_lost a1 (by decide) (i32_lt _).1 (i32_lt _).2 (by decide) (Or.inl (by decide))⟩
    have fin : ∀ M2, KP (fun b => b = o) mdBd ld M0 M2 → gNth M2 o = some (.inr (8, vo)) → ∃ M', Ev none e 60 71 [some (.ref 104), some (.ref o), some (.int gl), some (.int ar)] [] M2 none M' 0 0 ∧ KP (fun b => b = o) mdBd ld M0 M' := by
      intro M2 K2 ho2
      have T2 := K2.1
      have L2 := K2.2.2.1
      obtain ⟨vw, vl, w1, w2, w3⟩ := L2.obj T2
      obtain ⟨a, l, y, r1, r2, r3, r4, _⟩ := L2.irow T2 w3 ly_crowd ly_crowdr hc (by omega)
      obtain ⟨M3, m3⟩ : ∃ N, N = gPut M2 a (.inl (1, .inl (gPut l x.toNatClampNeg (y - 1)))) := ⟨_, rfl⟩
      have K3 : KP (fun b => b = o) mdBd ld M2 M3 := by rw [m3]; exact KP.row T2 L2 r2 ly_crowdr r3 (by decide) (i32_lt _).1 (i32_lt _).2
      have ho3 : gNth M3 o = some (.inr (8, vo)) := by rw [m3, nth_put, if_neg (fun q => by rw [q.1, r3] at ho2; cases ho2)]; exact ho2
      obtain ⟨v4, y4, a4, b4, c4, _, _, _⟩ := K3.1.fnum ho ly_cell
      cases a4.symm.trans ho3
      refine ⟨gPut M3 o (.inr (8, gPut vo 0 (.int (-1)))), ld_71 w1 w2 w3 r1 ho2 hx r3 r4 (by rw [← m3]; exact ld_87 ho3 c4), K2.trans (K3.trans (KP.fld K3.1 K3.2.2.1 ho ly_cell ho3 (by decide) (z := -1) (by decide) (by decide) (by decide) (Or.inr (Or.inl rfl))))⟩
    have obj : ∀ {N : Mem} {vs : List Value} {k : Nat} {z : Value}, gNth N ld = some (.inr (1, vs)) → gNth N o = some (.inr (8, vo)) → gNth (gPut N ld (.inr (1, gPut vs k z))) o = some (.inr (8, vo)) := by
      intro N vs k z h1 h2
      rw [nth_put, if_neg (fun q => by rw [q.1, h1] at h2; cases h2)]
      exact h2
    by_cases ha : ar = 0
    · obtain ⟨M1, M2, m1, K1, vl1, y1, n1, n2, n3, m2, K2⟩ := st (y0 + 0) 1
      obtain ⟨MF, f1, f2⟩ := fin M2 (K1.trans K2) (by rw [m2]; exact obj n1 (by rw [m1]; exact obj w3 hM))
      obtain ⟨vw1, vl9, u1, u2, u3⟩ := K1.2.2.1.obj K1.1
      cases u3.symm.trans n1
      refine ⟨MF, ld_29 w1 w2 w3 b0 ?_, f2⟩
      rw [if_pos ha]
      refine ld_45 w3 c0 ?_
      rw [← m1]
      refine ld_50 u1 u2 n1 n2 ?_
      rw [if_pos ha]
      refine ld_66 n1 n3 ?_
      rw [← m2]
      exact f1
    · obtain ⟨M1, M2, m1, K1, vl1, y1, n1, n2, n3, m2, K2⟩ := st (y0 + 1) 0
      obtain ⟨MF, f1, f2⟩ := fin M2 (K1.trans K2) (by rw [m2]; exact obj n1 (by rw [m1]; exact obj w3 hM))
      obtain ⟨vw1, vl9, u1, u2, u3⟩ := K1.2.2.1.obj K1.1
      cases u3.symm.trans n1
      refine ⟨MF, ld_29 w1 w2 w3 b0 ?_, f2⟩
      rw [if_neg ha]
      refine ld_41 w3 c0 ?_
      rw [← m1]
      refine ld_50 u1 u2 n1 n2 ?_
      rw [if_neg ha]
      refine ld_62 n1 n3 ?_
      rw [← m2]
      exact f1
  by_cases h : x = gl
  · obtain ⟨MF, f1, f2⟩ := gone 1
    exact ⟨MF, ld_0 hM hx (by rw [if_pos h]; exact ld_8 (by rw [if_neg (by decide)]; exact f1)), f2⟩
  · obtain ⟨v2, y2, a2, b2, c2, _⟩ := T0.fnum ho ly_age
    cases a2.symm.trans hM
    by_cases h2 : 200 ≤ y2
    · obtain ⟨MF, f1, f2⟩ := gone 0
      exact ⟨MF, ld_0 hM hx (by rw [if_neg h]; exact ld_12 (by rw [if_pos rfl]; exact ld_18 hM b2 (by rw [if_pos h2]; exact f1))), f2⟩
    · exact ⟨M0, ld_0 hM hx (by rw [if_neg h]; exact ld_12 (by rw [if_pos rfl]; exact ld_18 hM b2 (by rw [if_neg h2]; exact ld_28))), KP.refl T0 L0⟩
set_option maxRecDepth 100000 in
theorem mRg : (gNth mRs 66).map (fun q => q.2.2.2.1) = some 10 ∧ (gNth mRs 62).map (fun q => q.2.2.2.1) = some 3 ∧ (gNth mRs 78).map (fun q => q.2.2.2.1) = some 2 := by refine ⟨?_, ?_, ?_⟩ <;> decide +kernel
theorem ev_due {b : Nat} {t : Int32} (hT : TM sT sG M) (hb : gNth sT b = some 20) : ∃ r M', Ev none (e + 1) 78 0 [some (.ref b), some (.int t)] [] M (some (.int r)) M' 0 0 ∧ TM sT sG M' ∧ Frm sT [] M M' := by
  obtain ⟨v, M', e1, e2, e3, s, e4, e5⟩ := use_cn (c := kX9_due) (ws := [.ref b, .int t]) kX9_due_ok mRg.2.2 rfl rfl (d := e + 1) (Nat.zero_le _) ⟨⟨b, rfl, hb⟩, ⟨t, rfl, i32_lt t⟩, trivial⟩ hT
  cases List.mem_singleton.mp e4
  cases v with
  | none => exact e5.elim
  | some w =>
    obtain ⟨r, rfl, _⟩ := e5
    exact ⟨r, M', e1, e2, e3⟩
theorem ev_tread {c : Int32} (hT : TM sT sG M) (hL : LD ld M) (c1 : 0 ≤ c.toInt) (c2 : c.toInt ≤ 255) : ∃ M', Ev none (e + 3) 62 0 [some (.ref 104), some (.int c), none] [] M none M' 0 0 ∧ KP S mdBd ld M M' ∧ Frm sT [(7, 10), (1012, 0), (1014, 0), (1015, 0), (1037, 0)] M M' := by
  obtain ⟨v, M', e1, e2, e3, s, e4, e5⟩ := use_cn (c := kX7_tread) (ws := [.ref 104, .int c]) kX7_tread_ok mRg.2.1 rfl rfl (d := e + 3) (Nat.le_add_left _ _) ⟨rfl, ⟨c, rfl, c1, c2⟩, trivial⟩ hT
  cases List.mem_singleton.mp e4
  cases v with
  | none => exact ⟨M', e1, KP.call e2 e3 (by decide +kernel) (by decide) (by decide) hL, e3⟩
  | some w => exact e5.elim
theorem ev_choose {o : Nat} {vo : List Value} {x gl hb : Int32} (hT : TM sT sG M) (hL : LD ld M) (ho : gNth sT o = some 21) (hM : gNth M o = some (.inr (8, vo))) (hx : gNth vo 0 = some (.int x)) (x1 : 0 ≤ x.toInt) (x2 : x.toInt ≤ 255) (g1 : 0 ≤ gl.toInt) (g2 : gl.toInt ≤ 255) (h1 : 0 ≤ hb.toInt) (h2 : hb.toInt ≤ 5) : ∃ r M', Ev none (e + 3) 66 0 [some (.ref 104), some (.ref o), some (.int gl), some (.int hb), none, none, none, none, none, none] [] M (some (.int r)) M' 0 0 ∧ KP S mdBd ld M M' ∧ (∃ vo', gNth M' o = some (.inr (8, vo')) ∧ gNth vo' 0 = some (.int x)) ∧ (r = -1 ∨ ∃ l y, gNth M' 108 = some (.inl (1, .inl l)) ∧ gAt l (8 * x + r) = some y ∧ 0 ≤ y.toInt ∧ y.toInt ≤ 255) := by
  cases hq : gNth mRs 66 with
  | none => have := mRg.1; rw [hq] at this; cases this
  | some q =>
    have hm := mRg.1
    rw [hq] at hm
    have hm : q.2.2.2.1 = 10 := Option.some.inj hm
    obtain ⟨v, M', e1, e2, e3, s, e4, ⟨e5, _, hv, e6, _, e7⟩, _⟩ := kX7_choose_ok (e + 3) M [.ref 104, .ref o, .int gl, .int hb] q (Nat.le_add_left _ _) hq ⟨rfl, ⟨o, rfl, ho⟩, ⟨gl, rfl, g1, g2⟩, ⟨hb, rfl, h1, h2⟩, trivial⟩ ⟨[.int x], ⟨⟨o, vo, rfl, hM, hx, x, rfl, x1, x2⟩, trivial⟩, fun f hf => by cases hf⟩ hT
    rw [hm] at e1
    have hF : Frm sT [(1037, 0), (1039, 0)] M M' := e3
    obtain ⟨vo', i1, i2, i3⟩ := hF.2.1 _ _ _ hM
    have hx' : gNth vo' 0 = some (.int x) := (i3 0 (by decide)).trans hx
    have hK : KP S mdBd ld M M' := KP.call e2 hF (by decide +kernel) (by decide) (by decide) hL
    have e4 : s ∈ [((some (.inl (.negSucc 0, .negSucc 0)) : Option TA), ([] : List (Nat × Iv)), ([] : List HT), ([] : List FP), ([] : List EL)), (some (.inl (.ofNat 0, .ofNat 7)), [], [(.inr 1, 8, 0, .inl (.ofNat 0, .ofNat 255))], [], [(108, [(0, .ofNat 1), (5, .ofNat 8)], .ofNat 0, (.ofNat 0, .ofNat 255))])] := e4
    rcases List.mem_cons.mp e4 with rfl | e4
    · cases v with
      | none => exact e5.elim
      | some w =>
        obtain ⟨r, rfl, r1, r2⟩ := e5
        refine ⟨r, M', e1, hK, ⟨vo', i1, hx'⟩, Or.inl (Int32.toInt_inj.mp ?_)⟩
        have r1 : (-1 : Int) ≤ r.toInt := r1
        have r2 : r.toInt ≤ (-1 : Int) := r2
        show r.toInt = -1
        omega
    · cases List.mem_singleton.mp e4
      cases v with
      | none => exact e5.elim
      | some w =>
        obtain ⟨r, rfl, r1, r2⟩ := e5
        have r1 : (0 : Int) ≤ r.toInt := r1
        have r2 : r.toInt ≤ (7 : Int) := r2
        rcases hv with _ | ⟨hv, _ | ⟨_, _⟩⟩
        · exact e6.elim
        rotate_left
        · exact e6.2.elim
        obtain ⟨⟨o9, vs9, k1, k2, k3, x9, rfl, _⟩, _⟩ := e6
        cases (show some (Value.ref o) = some (.ref o9) from k1)
        cases k2.symm.trans i1
        cases k3.symm.trans hx'
        obtain ⟨i, y, t, l, z, f1, f2, f3, f4, f5, f6⟩ := e7 _ (List.mem_singleton.mpr rfl)
        have f1 : some (1 * r.toInt + (8 * x.toInt + 0)) = some y := f1
        have f1 := Option.some.inj f1
        have f2 : y + 0 = (i : Int) := f2
        obtain ⟨vs, b, w1, w2, w3⟩ := e2.fref sT_104 ly_grid
        obtain ⟨vs2, b2, w4, w5, w6⟩ := e2.fref w3 ly_bes
        have hb2 : b2 = 108 := sU_ok _ _ _ w6 sU_26
        subst hb2
        obtain ⟨ee, q1, q2⟩ := e2.at w6 sG_26
        have f3 : gNth M' 108 = some (.inl (t, .inl l)) := f3
        have ht : t = 1 := by
          cases q1.symm.trans f3
          obtain ⟨l9, q3, _⟩ := ct_int (by decide) q2
          cases q3
          rfl
        subst ht
        have hm8 : (8 * x).toInt = 8 * x.toInt := by
          have o8 : (8 : Int32).toInt = 8 := rfl
          rw [i32_mul (by rw [o8]; omega) (by rw [o8]; omega), o8]
        have hj : (8 * x + r).toInt = (i : Int) := by
          rw [i32_add (by rw [hm8]; omega) (by rw [hm8]; omega), hm8]
          omega
        obtain ⟨z2, z3, z4⟩ := at_c (l := l) hj (gNth_lt _ _ _ f4)
        cases z4.symm.trans f4
        exact ⟨r, M', e1, hK, ⟨vo', i1, hx'⟩, Or.inr ⟨l, z, f3, z3, f5, f6⟩⟩
end WLK
/-! BY HAND, the class: begin, sweep, go -/
theorem cal_due {M : Mem} {vs : List Value} {a : Nat} {a0 : Int32} {rest : List Value} (hM : gNth M a = some (.inr (9, vs))) (hr : gRoom rest = true) : gCal (.invokevirtual 164) 7 (.int a0 :: .ref a :: rest) M = some (.inr (78, [some (.ref a), some (.int a0)], rest)) := by
  show @cond (Option ((List Value × Mem) ⊕ (Nat × Lo × List Value))) (true && gRecv M (.ref a) 9 && gRoom rest && true) (some (.inr (78, [some (.ref a), some (.int a0)], rest))) none = _
  rw [recv_c hM, hr]
  rfl
theorem cal_wb {M : Mem} {vs : List Value} {a : Nat} {a0 : Int32} {a1 : Int32} {rest : List Value} (hM : gNth M a = some (.inr (8, vs))) (hr : gRoom rest = true) : gCal (.invokevirtual 173) 7 (.int a1 :: .int a0 :: .ref a :: rest) M = some (.inr (73, [some (.ref a), some (.int a0), some (.int a1)], rest)) := by
  show @cond (Option ((List Value × Mem) ⊕ (Nat × Lo × List Value))) (true && gRecv M (.ref a) 8 && gRoom rest && true) (some (.inr (73, [some (.ref a), some (.int a0), some (.int a1)], rest))) none = _
  rw [recv_c hM, hr]
  rfl
theorem cal_bg {M : Mem} {vs : List Value} {a : Nat} {rest : List Value} (hM : gNth M a = some (.inr (7, vs))) (hr : gRoom rest = true) : gCal (.invokevirtual 101) 7 (.ref a :: rest) M = some (.inr (59, [some (.ref a), none, none, none], rest)) := by
  show @cond (Option ((List Value × Mem) ⊕ (Nat × Lo × List Value))) (true && gRecv M (.ref a) 7 && gRoom rest && true) (some (.inr (59, [some (.ref a), none, none, none], rest))) none = _
  rw [recv_c hM, hr]
  rfl
theorem cal_ch {M : Mem} {vs : List Value} {a : Nat} {a0 : Nat} {a1 : Int32} {a2 : Int32} {rest : List Value} (hM : gNth M a = some (.inr (7, vs))) (hr : gRoom rest = true) : gCal (.invokevirtual 128) 7 (.int a2 :: .int a1 :: .ref a0 :: .ref a :: rest) M = some (.inr (66, [some (.ref a), some (.ref a0), some (.int a1), some (.int a2), none, none, none, none, none, none], rest)) := by
  show @cond (Option ((List Value × Mem) ⊕ (Nat × Lo × List Value))) (true && gRecv M (.ref a) 7 && gRoom rest && true) (some (.inr (66, [some (.ref a), some (.ref a0), some (.int a1), some (.int a2), none, none, none, none, none, none], rest))) none = _
  rw [recv_c hM, hr]
  rfl
theorem cal_st {M : Mem} {vs : List Value} {a : Nat} {a0 : Int32} {a1 : Int32} {rest : List Value} (hM : gNth M a = some (.inr (8, vs))) (hr : gRoom rest = true) : gCal (.invokevirtual 141) 7 (.int a1 :: .int a0 :: .ref a :: rest) M = some (.inr (74, [some (.ref a), some (.int a0), some (.int a1)], rest)) := by
  show @cond (Option ((List Value × Mem) ⊕ (Nat × Lo × List Value))) (true && gRecv M (.ref a) 8 && gRoom rest && true) (some (.inr (74, [some (.ref a), some (.int a0), some (.int a1)], rest))) none = _
  rw [recv_c hM, hr]
  rfl
theorem cal_tr {M : Mem} {vs : List Value} {a : Nat} {a0 : Int32} {rest : List Value} (hM : gNth M a = some (.inr (7, vs))) (hr : gRoom rest = true) : gCal (.invokevirtual 144) 7 (.int a0 :: .ref a :: rest) M = some (.inr (62, [some (.ref a), some (.int a0), none], rest)) := by
  show @cond (Option ((List Value × Mem) ⊕ (Nat × Lo × List Value))) (true && gRecv M (.ref a) 7 && gRoom rest && true) (some (.inr (62, [some (.ref a), some (.int a0), none], rest))) none = _
  rw [recv_c hM, hr]
  rfl
theorem cal_lv {M : Mem} {vs : List Value} {a : Nat} {a0 : Nat} {a1 : Int32} {rest : List Value} (hM : gNth M a = some (.inr (7, vs))) (hr : gRoom rest = true) : gCal (.invokevirtual 151) 7 (.int a1 :: .ref a0 :: .ref a :: rest) M = some (.inr (60, [some (.ref a), some (.ref a0), some (.int a1), none], rest)) := by
  show @cond (Option ((List Value × Mem) ⊕ (Nat × Lo × List Value))) (true && gRecv M (.ref a) 7 && gRoom rest && true) (some (.inr (60, [some (.ref a), some (.ref a0), some (.int a1), none], rest))) none = _
  rw [recv_c hM, hr]
  rfl
theorem cal_sw {M : Mem} {vs : List Value} {a : Nat} {rest : List Value} (hM : gNth M a = some (.inr (7, vs))) (hr : gRoom rest = true) : gCal (.invokevirtual 155) 7 (.ref a :: rest) M = some (.inr (61, [some (.ref a), none, none, none], rest)) := by
  show @cond (Option ((List Value × Mem) ⊕ (Nat × Lo × List Value))) (true && gRecv M (.ref a) 7 && gRoom rest && true) (some (.inr (61, [some (.ref a), none, none, none], rest))) none = _
  rw [recv_c hM, hr]
  rfl
def mdBe : Md := [(1, 15), (1, 19), (8, 0), (8, 1), (8, 2), (8, 3), (8, 4), (1016, 0)]
set_option maxRecDepth 100000 in
theorem sT_108 : gNth sT 108 = some 26 := by decide +kernel
/-- a field of the land that is kept -/
theorem fk {ld k : Nat} {md : Md} {M M' : Mem} {vl : List Value} {v : Value} (hF : Frm sT md M M') (hm : (1, k) ∉ md) (h1 : gNth M ld = some (.inr (1, vl))) (h2 : gNth vl k = some v) : ∃ vl', gNth M' ld = some (.inr (1, vl')) ∧ gNth vl' k = some v := by
  obtain ⟨vl', f1, _, f3⟩ := hF.2.1 _ _ _ h1
  exact ⟨vl', f1, (f3 k hm).trans h2⟩
section BEG
variable {ld e : Nat}
set_option maxHeartbeats 1000000 in
theorem bg_loop (hld : ld ∈ [8, 243, 345, 441, 537]) {nw : Int32} {nn : Nat} (hn : nw.toInt = (nn : Int)) (h24 : nn ≤ 24) : ∀ (j kn : Nat) (k : Int32) (M : Mem) (x2 x3 : Option Value), kn + j = nn → k.toInt = (kn : Int) → TM sT sG M → LD ld M → P34 M → (∃ vl, gNth M ld = some (.inr (1, vl)) ∧ gNth vl 13 = some (.int nw)) → ∃ M', Ev none (e + 2) 59 2 [some (.ref 104), some (.int k), x2, x3] [] M none M' 0 0 ∧ TM sT sG M' ∧ Frm sT mdBe M M' ∧ LD ld M' ∧ P34 M' := by
  intro j
  induction j with
  | zero =>
    rintro kn k M x2 x3 hj hk hT hL hP ⟨vl, m1, m2⟩
    obtain ⟨vw, vl', w1, w2, w3⟩ := hL.obj hT
    cases w3.symm.trans m1
    exact ⟨M, bg_2 w1 w2 w3 m2 (by rw [if_pos (by rw [Int32.le_iff_toInt_le]; omega)]; exact bg_133), hT, Frm.refl _, hL, hP⟩
  | succ j ih =>
    rintro kn k M x2 x3 hj hk hT hL hP ⟨vl, m1, m2⟩
    obtain ⟨vw, vl', w1, w2, w3⟩ := hL.obj hT
    cases w3.symm.trans m1
    have hlt : ¬ nw ≤ k := by rw [Int32.le_iff_toInt_le]; omega
    have ek : (k + 1).toInt = k.toInt + 1 := i32_p1 (by omega)
    obtain ⟨ra, rl, b, r1, r2, r3, r4, r5, r6⟩ := hL.rrow hT w3 ly_wish ly_wishr hk (by omega)
    obtain ⟨v16, t16, f1, f2, _⟩ := hT.fnum (hL.grp hT) ly_tick
    cases f1.symm.trans w3
    obtain ⟨vb0, y0, hb0, _⟩ := hT.fnum r6 ly_from
    obtain ⟨r, M1, d1, d2, d3⟩ := ev_due (e := e) (t := t16) hT r6
    have hL1 := hL.frm d3 (by decide)
    have K1 : KP (fun _ => False) mdBg ld M M1 := KP.call d2 d3 rfl (by decide) (by decide) hL
    have hP1 := hP.kp K1 (by decide) (by decide) (by decide)
    have go_on : ∀ (M2 : Mem) (x3' : Option Value), TM sT sG M2 → Frm sT mdBe M M2 → LD ld M2 → P34 M2 → (∀ v MF, Ev none (e + 2) 59 2 [some (.ref 104), some (.int (k + 1)), some (.ref b), x3'] [] M2 v MF 0 0 → Ev none (e + 2) 59 34 [some (.ref 104), some (.int k), some (.ref b), x3] [.int r] M1 v MF 0 0) → ∃ M', Ev none (e + 2) 59 2 [some (.ref 104), some (.int k), x2, x3] [] M none M' 0 0 ∧ TM sT sG M' ∧ Frm sT mdBe M M' ∧ LD ld M' ∧ P34 M' := by
      intro M2 x3' t2 f2' l2 p2 hE
      obtain ⟨MF, q1, q2, q3, q4, q5⟩ := ih (kn + 1) (k + 1) M2 (some (.ref b)) x3' (by omega) (by omega) t2 l2 p2 (fk f2' (by decide) m1 m2)
      exact ⟨MF, bg_2 w1 w2 w3 m2 (by rw [if_neg hlt]; exact bg_13 w1 w2 w3 r1 r3 r4 f2 (Ev.call0 (fun n => gs_7 rfl rfl (cal_due hb0 rfl)) d1 (hE _ _ q1))), q2, f2'.trans q3, q4, q5⟩
    have F1 : Frm sT mdBe M M1 := d3.more (mdSub_mem rfl)
    by_cases hr : r = 0
    · exact go_on M1 x3 d2 F1 hL1 hP1 (fun v MF h => bg_34 (by rw [if_pos hr]; exact bg_37 h))
    · obtain ⟨vw1, vl1, u1, u2, u3⟩ := hL1.obj d2
      obtain ⟨vl1', n1, f3, f4, f5, f6, f7, _⟩ := d2.fnum (hL1.grp d2) ly_walkers
      cases f3.symm.trans u3
      by_cases h60 : n1 < 60
      rotate_left
      · obtain ⟨vl2, t2, g1, g2, g3, _⟩ := d2.fnum (hL1.grp d2) ly_turn
        cases g1.symm.trans u3
        have K2 : KP (fun _ => False) mdBg ld M1 (gPut M1 ld (.inr (1, gPut vl1 19 (.int (t2 + 1))))) := KP.fld d2 hL1 (hL1.grp d2) ly_turn u3 (by decide) (i32_lt _).1 (i32_lt _).2 (by decide) (Or.inl (by decide))
        exact go_on _ x3 K2.1 (F1.trans (K2.2.1.more (mdSub_mem rfl))) K2.2.2.1 (hP1.kp K2 (by decide) (by decide) (by decide)) (fun v MF h => bg_34 (by rw [if_neg hr]; exact bg_40 u1 u2 u3 f4 (by rw [if_neg h60]; exact bg_52 u1 u2 u3 g2 g3 h)))
      · have n60 : n1.toInt < 60 := by rw [Int32.lt_iff_toInt_lt] at h60; exact h60
        obtain ⟨nn1, hnn1⟩ : ∃ nn1 : Nat, n1.toInt = (nn1 : Int) := ⟨n1.toInt.toNat, by omega⟩
        obtain ⟨vb1, fr, b1, b2, b3, b4, b5, _⟩ := d2.fnum r6 ly_from
        obtain ⟨frn, hfr⟩ : ∃ frn : Nat, fr.toInt = (frn : Int) := ⟨fr.toInt.toNat, by omega⟩
        obtain ⟨da, dl, ct, e1, e2, e3, e4, e5, e6⟩ := hL1.irow d2 u3 ly_door ly_doorr hfr (by omega)
        obtain ⟨wa, wl, o, p1, p2, p3, p4, p5, p6⟩ := hL1.rrow d2 u3 ly_wk ly_wkr hnn1 (by omega)
        obtain ⟨vo0, yo0, ho0, _⟩ := d2.fnum p6 ly_cell
        obtain ⟨M2, s1, K2, s3⟩ := ev_wbegin (S := fun _ => False) (e := e + 1) (c := ct) (k := k) d2 hL1 p6 e5 e6 (by omega) (by omega)
        have hP2 := hP1.kp K2 (by decide) (by decide) (by decide)
        obtain ⟨vw2, vl2, u21, u22, u23⟩ := K2.2.2.1.obj K2.1
        obtain ⟨vl2', i1, i2⟩ := fk K2.2.1 (by decide) u3 f4
        cases i1.symm.trans u23
        obtain ⟨vlp, lp, np, P1, P2, P3, P4, P5, P6, P7⟩ := hP1 ld hld
        cases P1.symm.trans u3
        cases p1.symm.trans P2
        have row2 := row_frm K2.2.1 (ld_row hld) (by decide) p3
        obtain ⟨vlq, nq, j1, j2, j3, j4, j5, j6⟩ := K2.1.fnum (K2.2.2.1.grp K2.1) ly_walkers
        cases j1.symm.trans u23
        cases j2.symm.trans i2
        have en : (n1 + 1).toInt = n1.toInt + 1 := i32_p1 (by omega)
        have hP3 := P34.more hld hP2 u23 i2 hnn1 (by omega) row2 p5 s3
        have T3 := j6 (n1 + 1) (by omega) (by omega)
        obtain ⟨M3, m3⟩ : ∃ N, N = gPut M2 ld (.inr (1, gPut vl2 15 (.int (n1 + 1)))) := ⟨_, rfl⟩
        have F3 : Frm sT [(1, 15)] M2 M3 := by rw [m3]; exact Frm.fld u23 List.mem_cons_self
        rw [← m3] at hP3 T3
        have L3 := K2.2.2.1.frm F3 (by decide)
        obtain ⟨vw3, vl3, u31, u32, u33⟩ := L3.obj T3
        obtain ⟨cn, hcn⟩ : ∃ cn : Nat, ct.toInt = (cn : Int) := ⟨ct.toInt.toNat, by omega⟩
        obtain ⟨ca, cl, cy, c1, c2, c3, c4, _⟩ := L3.irow T3 u33 ly_crowd ly_crowdr hcn (by omega)
        obtain ⟨M4, m4⟩ : ∃ N, N = gPut M3 ca (.inl (1, .inl (gPut cl ct.toNatClampNeg (cy + 1)))) := ⟨_, rfl⟩
        have K4 : KP (fun _ => False) mdBg ld M3 M4 := by rw [m4]; exact KP.row T3 L3 c2 ly_crowdr c3 (by decide) (i32_lt _).1 (i32_lt _).2
        refine go_on M4 (some (.int ct)) K4.1 (F1.trans ((K2.2.1.more (mdSub_mem rfl)).trans ((F3.more (mdSub_mem rfl)).trans (K4.2.1.more (mdSub_mem rfl))))) K4.2.2.1 (hP3.kp K4 (by decide) (by decide) (by decide)) (fun v MF h => bg_34 ?_)
        rw [if_neg hr]
        refine bg_40 u1 u2 u3 f4 ?_
        rw [if_pos h60]
        refine bg_68 u1 u2 u3 e1 b1 b2 e3 e4 p1 f4 p3 p4 (Ev.call0 (fun n => gs_7 rfl rfl (cal_wb ho0 rfl)) s1 (bg_101 u21 u22 u23 i2 j3 ?_))
        rw [← m3]
        refine bg_114 u31 u32 u33 c1 c3 c4 ?_
        rw [← m4]
        exact h
theorem ev_begin {M : Mem} {x1 x2 x3 : Option Value} (hld : ld ∈ [8, 243, 345, 441, 537]) (hT : TM sT sG M) (hL : LD ld M) (hP : P34 M) : ∃ M', Ev none (e + 2) 59 0 [some (.ref 104), x1, x2, x3] [] M none M' 0 0 ∧ TM sT sG M' ∧ Frm sT mdBe M M' ∧ LD ld M' ∧ P34 M' := by
  obtain ⟨vs, y, a1, a2, _, a4, a5, _⟩ := hT.fnum (hL.grp hT) ly_wishes
  obtain ⟨M', h1, h2⟩ := bg_loop (e := e) hld (nw := y) (nn := y.toInt.toNat) (by omega) (by omega) y.toInt.toNat 0 0 M x2 x3 (by omega) rfl hT hL hP ⟨vs, a1, a2⟩
  exact ⟨M', bg_0 h1, h2⟩
theorem ev_sweep {nn : Nat} {M : Mem} {y : Int32} {x1 x2 x3 : Option Value} (hld : ld ∈ [8, 243, 345, 441, 537]) (hT : TM sT sG M) (hL : LD ld M) (hP : PG ld nn M) (hn : ∃ vl, gNth M ld = some (.inr (1, vl)) ∧ gNth vl 15 = some (.int y)) (hy : y.toInt = (nn : Int)) (h60 : nn ≤ 60) : ∃ M', Ev none e 61 0 [some (.ref 104), x1, x2, x3] [] M none M' 0 0 ∧ TM sT sG M' ∧ Frm sT [(1, 15), (1019, 0)] M M' ∧ LD ld M' ∧ P34 M' := by
  obtain ⟨vl, m1, m2⟩ := hn
  have hW := hP ld hld
  obtain ⟨vlp, lp, np, P1, P2, P3, P4, P5, P6, P7⟩ := hW
  cases P1.symm.trans m1
  cases P3.symm.trans m2
  obtain ⟨vw, w1, w2⟩ := hL
  have hg := LD.grp hT ⟨vw, w1, w2⟩
  obtain ⟨MF, lF, sF, zF, q1, q2, q3, q4, q5, q6, q7, q8, q9, q10, q11⟩ := sw_loop (e := e) hg (ld_row hld) w2 P2 P3 hy h60 nn 0 0 0 0 M lp x3 hT (Frm.refl _) w1 P1 P4 P5 (fun b => Iff.rfl) (Nat.le_refl _) rfl rfl (by omega) (fun k hk => absurd hk (Nat.not_lt_zero _))
  refine ⟨MF, sw_0 q1, q2, q3, LD.frm q3 (by decide) ⟨vw, w1, w2⟩, fun a ha => ?_⟩
  by_cases hal : a = ld
  · subst hal
    refine ⟨_, lF, zF, q7, by rw [nth_put, if_neg (by omega)]; exact P2, by rw [nth_put, if_pos ⟨rfl, gNth_lt _ _ _ P3⟩], q4, q5, fun k b hb => ?_, fun k hk => q10 k (by omega)⟩
    obtain ⟨k2, hk2⟩ := (q6 b).mp ⟨k, hb⟩
    exact P6 k2 b hk2
  · have hW := hP a ha
    rw [if_neg hal] at hW
    obtain ⟨vl2, l2, n2, e1, e2, e3, e4, e5, e6, e7⟩ := hW
    have i1 := ld_all ha
    have i2 := ld_all hld
    refine ⟨vl2, l2, n2, (q11 a hal (by omega)).trans e1, e2, e3, (q11 (a + 11) (by omega) (by omega)).trans e4, e5, e6, fun k hk => ?_⟩
    obtain ⟨b, g1, us, x, g2, g3, g4⟩ := e7 k (Nat.zero_le _) hk
    have i3 := e6 k b g1
    exact ⟨b, g1, us, x, (q11 b (by omega) (by omega)).trans g2, g3, g4⟩
end BEG
/-! BY HAND, the class: go -/
section GO
variable {ld e : Nat}
set_option maxHeartbeats 2000000 in
theorem go_body {kn : Nat} {k n t bf y : Int32} {x5 x6 x7 x8 : Option Value} {M : Mem} (hld : ld ∈ [8, 243, 345, 441, 537]) (hT : TM sT sG M) (hL : LD ld M) (hP : PG ld kn M) (hk : k.toInt = (kn : Int)) (hn : ∃ vl, gNth M ld = some (.inr (1, vl)) ∧ gNth vl 15 = some (.int y)) (hky : k.toInt < y.toInt) (h60 : y.toInt ≤ 60) : ∃ M' x5' x6' x7' x8', TM sT sG M' ∧ Frm sT mdBd M M' ∧ LD ld M' ∧ PG ld (kn + 1) M' ∧ ∀ v MF, Ev none (e + 4) 58 29 [some (.ref 104), some (.int t), some (.int bf), some (.int n), some (.int (k + 1)), x5', x6', x7', x8'] [] M' v MF 0 0 → Ev none (e + 4) 58 41 [some (.ref 104), some (.int t), some (.int bf), some (.int n), some (.int k), x5, x6, x7, x8] [] M v MF 0 0 := by
  obtain ⟨vl0, m1, m2⟩ := hn
  obtain ⟨vw, vl, w1, w2, w3⟩ := hL.obj hT
  cases w3.symm.trans m1
  have hW := hP ld hld
  rw [if_pos rfl] at hW
  obtain ⟨vlp, lp, np, P1, P2, P3, P4, P5, P6, P7⟩ := hW
  cases P1.symm.trans w3
  cases P3.symm.trans m2
  obtain ⟨wa, wl, o, p1, p2, p3, p4, p5, p6⟩ := hL.rrow hT w3 ly_wk ly_wkr hk (by omega)
  cases p1.symm.trans P2
  cases p3.symm.trans P4
  obtain ⟨o', q1, us, x, c1, c2, c3⟩ := P7 kn (Nat.le_refl _) (by omega)
  cases q1.symm.trans p5
  obtain ⟨us', x', a1, a2, _, _, a5, _⟩ := hT.fnum p6 ly_cell
  cases a1.symm.trans c1
  cases a2.symm.trans c2
  obtain ⟨us', wi, b1, b2, _, b4, b5, _⟩ := hT.fnum p6 ly_wwish
  cases b1.symm.trans c1
  obtain ⟨win, hwi⟩ : ∃ win : Nat, wi.toInt = (win : Int) := ⟨wi.toInt.toNat, by omega⟩
  obtain ⟨xa, xl, ws, d1, d2, d3, d4, d5, d6⟩ := hL.rrow hT w3 ly_wish ly_wishr hwi (by omega)
  obtain ⟨vws, to, e1, e2, _, e4, e5, _⟩ := hT.fnum d6 ly_to
  obtain ⟨vws', hb, e6, e7, _, e9, e10, _⟩ := hT.fnum d6 ly_habit
  cases e6.symm.trans e1
  obtain ⟨ton, hto⟩ : ∃ ton : Nat, to.toInt = (ton : Int) := ⟨to.toInt.toNat, by omega⟩
  obtain ⟨da, dl, gl, f1, f2, f3, f4, f5, f6⟩ := hL.irow hT w3 ly_door ly_doorr hto (by omega)
  obtain ⟨r, M1, g1, K1, ⟨vo1, g2, g3⟩, g4⟩ := ev_choose (S := fun b => b = o) (e := e) hT hL p6 c1 c2 c3 a5 f5 f6 e9 e10
  have tail : ∀ (M2 : Mem) (x2 : Int32) (vo2 : List Value), KP (fun b => b = o) mdBd ld M M2 → gNth M2 o = some (.inr (8, vo2)) → gNth vo2 0 = some (.int x2) → 0 ≤ x2.toInt → x2.toInt ≤ 255 → ∃ M', TM sT sG M' ∧ Frm sT mdBd M M' ∧ LD ld M' ∧ PG ld (kn + 1) M' ∧ ∀ v MF, Ev none (e + 4) 58 29 [some (.ref 104), some (.int t), some (.int bf), some (.int n), some (.int (k + 1)), some (.ref o), some (.ref ws), some (.int gl), some (.int r)] [] M' v MF 0 0 → Ev none (e + 4) 58 173 [some (.ref 104), some (.int t), some (.int bf), some (.int n), some (.int k), some (.ref o), some (.ref ws), some (.int gl), some (.int r)] [] M2 v MF 0 0 := by
    intro M2 x2 vo2 K2 h1 h2 h3 h4
    obtain ⟨v3, ag, i1, i2, i3, _⟩ := K2.1.fnum p6 ly_age
    cases i1.symm.trans h1
    obtain ⟨M3, m3⟩ : ∃ N, N = gPut M2 o (.inr (8, gPut vo2 2 (.int (ag + 1)))) := ⟨_, rfl⟩
    have K3 : KP (fun b => b = o) mdBd ld M2 M3 := by rw [m3]; exact KP.fld K2.1 K2.2.2.1 p6 ly_age h1 (by decide) (i32_lt _).1 (i32_lt _).2 (by decide) (Or.inl (by decide))
    have j1 : gNth M3 o = some (.inr (8, gPut vo2 2 (.int (ag + 1)))) := by rw [m3, nth_put, if_pos ⟨rfl, gNth_lt _ _ _ h1⟩]
    have j2 : gNth (gPut vo2 2 (.int (ag + 1))) 0 = some (.int x2) := by rw [nth_put, if_neg (by omega)]; exact h2
    obtain ⟨cn, hcn⟩ : ∃ cn : Nat, x2.toInt = (cn : Int) := ⟨x2.toInt.toNat, by omega⟩
    obtain ⟨M4, s1, K4⟩ := ev_leave (e := e + 3) (gl := gl) K3.1 K3.2.2.1 p6 j1 j2 hcn (by omega)
    have K := K2.trans (K3.trans K4)
    obtain ⟨vw3, vl3, u1, _⟩ := K3.2.2.1.obj K3.1
    refine ⟨M4, K.1, K.2.1, K.2.2.1, hP.step hld K (by decide) (by decide) (by decide) P4 p5, fun v MF h => go_173 h1 i2 i3 ?_⟩
    rw [← m3]
    exact go_184 (Ev.call0 (fun n => gs_7 rfl rfl (cal_lv u1 rfl)) s1 (go_192 h))
  by_cases hr : r = -1
  · obtain ⟨M', t1, t2, t3, t4, t5⟩ := tail M1 x vo1 K1 g2 g3 c3 a5
    exact ⟨M', some (.ref o), some (.ref ws), some (.int gl), some (.int r), t1, t2, t3, t4, fun v MF h => go_41 w1 w2 w3 p1 p3 p4 d1 c1 b2 d3 d4 f1 e1 e2 f3 f4 e7 (Ev.call0 (fun n => gs_7 rfl rfl (cal_ch w1 rfl)) g1 (go_96 (by rw [if_pos hr]; exact t5 v MF h)))⟩
  · obtain ⟨bl, y, g5, g6, g7, g8⟩ := g4.resolve_left hr
    have T1 := K1.1
    have L1 := K1.2.2.1
    obtain ⟨vw1, vl1, u1, u2, u3⟩ := L1.obj T1
    obtain ⟨xn, hxn⟩ : ∃ xn : Nat, x.toInt = (xn : Int) := ⟨x.toInt.toNat, by omega⟩
    obtain ⟨ca, cl, cy, j1, j2, j3, j4, _⟩ := L1.irow T1 u3 ly_crowd ly_crowdr hxn (by omega)
    obtain ⟨M2, m2⟩ : ∃ N, N = gPut M1 ca (.inl (1, .inl (gPut cl x.toNatClampNeg (cy - 1)))) := ⟨_, rfl⟩
    have K2 : KP (fun b => b = o) mdBd ld M1 M2 := by rw [m2]; exact KP.row T1 L1 j2 ly_crowdr j3 (by decide) (i32_lt _).1 (i32_lt _).2
    have T2 := K2.1
    have L2 := K2.2.2.1
    have o2 : gNth M2 o = some (.inr (8, vo1)) := by rw [m2, nth_put, if_neg (fun q => by rw [q.1, j3] at g2; cases g2)]; exact g2
    have b8 : gNth M2 108 = some (.inl (1, .inl bl)) := by rw [m2, nth_put, if_neg (fun q => by rw [← q.1, sT_108] at j2; cases j2)]; exact g5
    obtain ⟨vw2, ga, h1, h2, h3⟩ := T2.fref sT_104 ly_grid
    obtain ⟨vg2, gb, h4, h5, h6⟩ := T2.fref h3 ly_bes
    cases sU_ok _ _ _ h6 sU_26
    obtain ⟨M3, s1, K3, vo3, s3, s4⟩ := ev_step (S := fun b => b = o) (e := e + 3) (o := o) (c := y) (d := r) T2 L2 p6 (Or.inl rfl) (by omega) g8
    have T3 := K3.1
    have L3 := K3.2.2.1
    obtain ⟨vw3, vl3, v1, v2, v3⟩ := L3.obj T3
    obtain ⟨yn, hyn⟩ : ∃ yn : Nat, y.toInt = (yn : Int) := ⟨y.toInt.toNat, by omega⟩
    obtain ⟨cb, cm, cz, l1, l2, l3, l4, _⟩ := L3.irow T3 v3 ly_crowd ly_crowdr hyn (by omega)
    obtain ⟨M4, m4⟩ : ∃ N, N = gPut M3 cb (.inl (1, .inl (gPut cm y.toNatClampNeg (cz + 1)))) := ⟨_, rfl⟩
    have K4 : KP (fun b => b = o) mdBd ld M3 M4 := by rw [m4]; exact KP.row T3 L3 l2 ly_crowdr l3 (by decide) (i32_lt _).1 (i32_lt _).2
    have o4 : gNth M4 o = some (.inr (8, vo3)) := by rw [m4, nth_put, if_neg (fun q => by rw [q.1, l3] at s3; cases s3)]; exact s3
    obtain ⟨vw4, vl4, z1, _⟩ := K4.2.2.1.obj K4.1
    obtain ⟨M5, r1, K5, r2⟩ := ev_tread (S := fun b => b = o) (e := e) K4.1 K4.2.2.1 g7 g8
    obtain ⟨vo5, o5, _, o6⟩ := r2.2.1 _ _ _ o4
    have o7 := (o6 0 (by decide)).trans s4
    obtain ⟨M', t1, t2, t3, t4, t5⟩ := tail M5 y vo5 (K1.trans (K2.trans (K3.trans (K4.trans K5)))) o5 o7 g7 g8
    refine ⟨M', some (.ref o), some (.ref ws), some (.int gl), some (.int r), t1, t2, t3, t4, fun v MF h => go_41 w1 w2 w3 p1 p3 p4 d1 c1 b2 d3 d4 f1 e1 e2 f3 f4 e7 (Ev.call0 (fun n => gs_7 rfl rfl (cal_ch w1 rfl)) g1 (go_96 ?_))⟩
    rw [if_neg hr]
    refine go_104 u1 u2 u3 j1 g2 g3 j3 j4 ?_
    rw [← m2]
    refine go_121 h1 h2 h4 h5 o2 g3 b8 g6 (Ev.call0 (fun n => gs_7 rfl rfl (cal_st o2 rfl)) s1 (go_147 v1 v2 v3 l1 s3 s4 l3 l4 ?_))
    rw [← m4]
    exact go_164 o4 s4 (Ev.call0 (fun n => gs_7 rfl rfl (cal_tr z1 rfl)) r1 (t5 v MF h))
theorem go_in {n t bf y : Int32} {nn : Nat} (hld : ld ∈ [8, 243, 345, 441, 537]) (hy : y.toInt = (nn : Int)) (h60 : nn ≤ 60) : ∀ (j kn : Nat) (k : Int32) (M : Mem) (x5 x6 x7 x8 : Option Value), kn + j = nn → k.toInt = (kn : Int) → TM sT sG M → LD ld M → PG ld kn M → (∃ vl, gNth M ld = some (.inr (1, vl)) ∧ gNth vl 15 = some (.int y)) → ∃ M' k' x5' x6' x7' x8', TM sT sG M' ∧ Frm sT mdBd M M' ∧ LD ld M' ∧ PG ld nn M' ∧ ∀ v MF, Ev none (e + 4) 58 198 [some (.ref 104), some (.int t), some (.int bf), some (.int n), some (.int k'), x5', x6', x7', x8'] [] M' v MF 0 0 → Ev none (e + 4) 58 29 [some (.ref 104), some (.int t), some (.int bf), some (.int n), some (.int k), x5, x6, x7, x8] [] M v MF 0 0 := by
  intro j
  induction j with
  | zero =>
    rintro kn k M x5 x6 x7 x8 hj hk hT hL hP ⟨vl, m1, m2⟩
    obtain ⟨vw, vl', w1, w2, w3⟩ := hL.obj hT
    cases w3.symm.trans m1
    have hkn : kn = nn := by omega
    subst hkn
    exact ⟨M, k, x5, x6, x7, x8, hT, Frm.refl _, hL, hP, fun v MF h => go_29 w1 w2 w3 m2 (by rw [if_pos (by rw [Int32.le_iff_toInt_le]; omega)]; exact h)⟩
  | succ j ih =>
    rintro kn k M x5 x6 x7 x8 hj hk hT hL hP ⟨vl, m1, m2⟩
    obtain ⟨vw, vl', w1, w2, w3⟩ := hL.obj hT
    cases w3.symm.trans m1
    have ek : (k + 1).toInt = k.toInt + 1 := i32_p1 (by omega)
    obtain ⟨M1, y5, y6, y7, y8, t1, t2, t3, t4, t5⟩ := go_body (e := e) (n := n) (t := t) (bf := bf) (x5 := x5) (x6 := x6) (x7 := x7) (x8 := x8) hld hT hL hP hk ⟨vl, m1, m2⟩ (by omega) (by omega)
    obtain ⟨M2, k', z5, z6, z7, z8, s1, s2, s3, s4, s5⟩ := ih (kn + 1) (k + 1) M1 y5 y6 y7 y8 (by omega) (by omega) t1 t3 t4 (fk t2 (by decide) m1 m2)
    exact ⟨M2, k', z5, z6, z7, z8, s1, t2.trans s2, s3, s4, fun v MF h => go_29 w1 w2 w3 m2 (by rw [if_neg (by rw [Int32.le_iff_toInt_le]; omega)]; exact t5 _ _ (s5 v MF h))⟩
def mdGo : Md := [(1, 15), (1, 16), (1, 17), (1, 18), (1, 19), (7, 10), (8, 0), (8, 1), (8, 2), (8, 3), (8, 4), (1012, 0), (1014, 0), (1015, 0), (1016, 0), (1019, 0), (1037, 0), (1039, 0)]
theorem go_out {t bf : Int32} (hld : ld ∈ [8, 243, 345, 441, 537]) : ∀ (j : Nat) (n : Int32) (M : Mem) (x4 x5 x6 x7 x8 : Option Value), t.toInt - n.toInt ≤ (j : Int) → TM sT sG M → LD ld M → P34 M → ∃ r M', Ev none (e + 4) 58 10 [some (.ref 104), some (.int t), some (.int bf), some (.int n), x4, x5, x6, x7, x8] [] M (some (.int r)) M' 0 0 ∧ TM sT sG M' ∧ Frm sT mdGo M M' ∧ P34 M' := by
  intro j
  have stop : ∀ (n : Int32) (M : Mem) (x4 x5 x6 x7 x8 : Option Value), TM sT sG M → LD ld M → ∃ r, Ev none (e + 4) 58 221 [some (.ref 104), some (.int t), some (.int bf), some (.int n), x4, x5, x6, x7, x8] [] M (some (.int r)) M 0 0 := by
    intro n M x4 x5 x6 x7 x8 hT hL
    obtain ⟨vw, vl, w1, w2, w3⟩ := hL.obj hT
    obtain ⟨v2, y2, a1, a2, _⟩ := hT.fnum (hL.grp hT) ly_arr
    exact ⟨_, go_221 w1 w2 a1 a2⟩
  induction j with
  | zero =>
    intro n M x4 x5 x6 x7 x8 hj hT hL hP
    obtain ⟨r, h⟩ := stop n M x4 x5 x6 x7 x8 hT hL
    exact ⟨r, M, go_10 (by rw [if_pos (by rw [Int32.le_iff_toInt_le]; omega)]; exact h), hT, Frm.refl _, hP⟩
  | succ j ih =>
    intro n M x4 x5 x6 x7 x8 hj hT hL hP
    obtain ⟨r, hst⟩ := stop n M x4 x5 x6 x7 x8 hT hL
    by_cases ht : t ≤ n
    · exact ⟨r, M, go_10 (by rw [if_pos ht]; exact hst), hT, Frm.refl _, hP⟩
    obtain ⟨v9, y9, a1, a2, _⟩ := hT.fnum sT_104 ly_trodw
    by_cases h9 : y9 = 0
    rotate_left
    · exact ⟨r, M, go_10 (by rw [if_neg ht]; exact go_15 a1 a2 (by rw [if_neg h9]; exact hst)), hT, Frm.refl _, hP⟩
    obtain ⟨M1, b1, b2, b3, b4, b5⟩ := ev_begin (e := e + 1) (x1 := none) (x2 := none) (x3 := none) hld hT hL hP
    obtain ⟨v1, y1, c1, c2, _, c4, c5, _⟩ := b2.fnum (b4.grp b2) ly_walkers
    obtain ⟨M2, k', z5, z6, z7, z8, s1, s2, s3, s4, s5⟩ := go_in (e := e) (n := n) (t := t) (bf := bf) (y := y1) (nn := y1.toInt.toNat) hld (by omega) (by omega) y1.toInt.toNat 0 0 M1 x5 x6 x7 x8 (by omega) rfl b2 b4 (PG.of b5) ⟨v1, c1, c2⟩
    obtain ⟨v2, d1, d2⟩ := fk s2 (by decide) c1 c2
    obtain ⟨M3, f1, f2, f3, f4, f5⟩ := ev_sweep (e := e + 3) (x1 := none) (x2 := none) (x3 := none) hld s1 s3 s4 ⟨v2, d1, d2⟩ (by omega) (by omega)
    obtain ⟨vw3, vl3, u1, u2, u3⟩ := f4.obj f2
    obtain ⟨v4, y4, g1, g2, g3, _⟩ := f2.fnum (f4.grp f2) ly_tick
    cases g1.symm.trans u3
    obtain ⟨M4, m4⟩ : ∃ N, N = gPut M3 ld (.inr (1, gPut vl3 16 (.int (y4 + 1)))) := ⟨_, rfl⟩
    have K4 : KP (fun _ => False) [(1, 16)] ld M3 M4 := by rw [m4]; exact KP.fld f2 f4 (f4.grp f2) ly_tick u3 (by decide) (i32_lt _).1 (i32_lt _).2 (by decide) (Or.inl (by decide))
    have en : (n + 1).toInt = n.toInt + 1 := by
      rw [Int32.le_iff_toInt_le] at ht
      have := i32_lt t
      exact i32_p1 (by omega)
    obtain ⟨r, MF, h1, h2, h3, h4⟩ := ih (n + 1) M4 (some (.int k')) z5 z6 z7 z8 (by omega) K4.1 K4.2.2.1 (f5.kp K4 (by decide) (by decide) (by decide))
    obtain ⟨vw2, vl2, w1, _⟩ := s3.obj s1
    obtain ⟨vw0, vl0, w0, _⟩ := hL.obj hT
    refine ⟨r, MF, go_10 ?_, h2, (b3.more (mdSub_mem rfl)).trans ((s2.more (mdSub_mem rfl)).trans ((f3.more (mdSub_mem rfl)).trans ((K4.2.1.more (mdSub_mem rfl)).trans h3))), h4⟩
    rw [if_neg ht]
    refine go_15 a1 a2 ?_
    rw [if_pos h9]
    refine go_22 (Ev.call0 (fun n => gs_7 rfl rfl (cal_bg w0 rfl)) b1 (go_26 (s5 _ _ (go_198 (Ev.call0 (fun n => gs_7 rfl rfl (cal_sw w1 rfl)) f1 (go_202 u1 u2 u3 g2 g3 ?_))))))
    rw [← m4]
    exact h1
end GO
set_option maxRecDepth 100000 in
theorem mR58 : (gNth mRs 58).map (fun q => q.2.2.2.1) = some 9 := by decide +kernel
def kX7_go : CN := (58, 6, [.inr 313, .inl (.negSucc 2147483647, .ofNat 2147483647)], [], [(34, [])], mdGo, [(some (.inl (.negSucc 2147483647, .ofNat 2147483647)), [], [], [(34, [])], [])])
theorem kX7_go_ok : cnOK sT sG FL0 kX7_go := by
  intro d M ws q hD hq hws hpre hT
  obtain ⟨hv, _, hfl⟩ := hpre
  obtain ⟨ys, _, hP⟩ := hfl _ (List.mem_singleton.mpr rfl)
  have hP : P34 M := fl0_34 hP
  rcases ws with _ | ⟨w0, _ | ⟨w1, _ | ⟨_, _⟩⟩⟩
  · exact hws.elim
  · exact hws.2.elim
  rotate_left
  · exact hws.2.2.elim
  obtain ⟨h0, ⟨t, rfl, _⟩, _⟩ := hws
  have h0 : w0 = .ref 104 := h0
  subst h0
  obtain ⟨e, rfl⟩ : ∃ e, d = e + 4 := ⟨d - 4, by have : 6 ≤ d := hD; omega⟩
  have hm := mR58
  rw [show gNth mRs 58 = some q from hq] at hm
  have hm : q.2.2.2.1 = 9 := Option.some.inj hm
  rw [hm]
  obtain ⟨vw, ld, a1, a2, a3⟩ := hT.fref sT_104 ly_land
  obtain ⟨vl, y, b1, b2, _⟩ := hT.fnum a3 ly_arr
  obtain ⟨r, M', h1, h2, h3, h4⟩ := go_out (e := e) (t := t) (bf := y) (ld_in a3) (t.toInt - 0).toNat 0 M none none none none none (by have : (0 : Int32).toInt = 0 := rfl; omega) hT ⟨vw, a1, a2⟩ hP
  exact ⟨_, M', go_0 a1 a2 b1 b2 h1, h2, h3, _, List.mem_singleton.mpr rfl, ⟨⟨r, rfl, i32_lt r⟩, fun q hq => (by cases hq), [], trivial, fun f hf => (by cases List.mem_singleton.mp hf; exact ⟨[], trivial, h4⟩), fun f hf => (by cases hf)⟩, cn_D rfl⟩
