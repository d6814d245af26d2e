/-! BY HAND, the class: go -/
section GO
variable {ld e : Nat}
set_option maxHeartbeats 2000000 in
theorem go_body {kn : Nat} {k n t bf y : Int32} {x5 x6 x7 x8 : Option Value} {M : Mem} (hld : ld ∈ [8, 243, 345, 441, 537]) (hT : TM sT sG M) (hL : LD ld M) (hP : PG ld kn M) (hk : k.toInt = (kn : Int)) (hn : ∃ vl, gNth M ld = some (.inr (1, vl)) ∧ gNth vl 15 = some (.int y)) (hky : k.toInt < y.toInt) (h60 : y.toInt ≤ 60) : ∃ M' x5' x6' x7' x8', TM sT sG M' ∧ Frm sT mdBd M M' ∧ LD ld M' ∧ PG ld (kn + 1) M' ∧ ∀ v MF, Ev none (e + 4) 58 29 [some (.ref 104), some (.int t), some (.int bf), some (.int n), some (.int (k + 1)), x5', x6', x7', x8'] [] M' v MF 0 0 → Ev none (e + 4) 58 41 [some (.ref 104), some (.int t), some (.int bf), some (.int n), some (.int k), x5, x6, x7, x8] [] M v MF 0 0 := by
  obtain ⟨vl0, m1, m2⟩ := hn
  obtain ⟨vw, vl, w1, w2, w3⟩ := hL.obj hT
  cases w3.symm.trans m1
  have hW := hP ld hld
  rw [if_pos rfl] at hW
  obtain ⟨vlp, lp, np, P1, P2, P3, P4, P5, P6, P7⟩ := hW
  cases P1.symm.trans w3
  cases P3.symm.trans m2
  obtain ⟨wa, wl, o, p1, p2, p3, p4, p5, p6⟩ := hL.rrow hT w3 ly_wk ly_wkr hk (by omega)
  cases p1.symm.trans P2
  cases p3.symm.trans P4
  obtain ⟨o', q1, us, x, c1, c2, c3⟩ := P7 kn (Nat.le_refl _) (by omega)
  cases q1.symm.trans p5
  obtain ⟨us', x', a1, a2, _, _, a5, _⟩ := hT.fnum p6 ly_cell
  cases a1.symm.trans c1
  cases a2.symm.trans c2
  obtain ⟨us', wi, b1, b2, _, b4, b5, _⟩ := hT.fnum p6 ly_wwish
  cases b1.symm.trans c1
  obtain ⟨win, hwi⟩ : ∃ win : Nat, wi.toInt = (win : Int) := ⟨wi.toInt.toNat, by omega⟩
  obtain ⟨xa, xl, ws, d1, d2, d3, d4, d5, d6⟩ := hL.rrow hT w3 ly_wish ly_wishr hwi (by omega)
  obtain ⟨vws, to, e1, e2, _, e4, e5, _⟩ := hT.fnum d6 ly_to
  obtain ⟨vws', hb, e6, e7, _, e9, e10, _⟩ := hT.fnum d6 ly_habit
  cases e6.symm.trans e1
  obtain ⟨ton, hto⟩ : ∃ ton : Nat, to.toInt = (ton : Int) := ⟨to.toInt.toNat, by omega⟩
  obtain ⟨da, dl, gl, f1, f2, f3, f4, f5, f6⟩ := hL.irow hT w3 ly_door ly_doorr hto (by omega)
  obtain ⟨r, M1, g1, K1, ⟨vo1, g2, g3⟩, g4⟩ := ev_choose (S := fun b => b = o) (e := e) hT hL p6 c1 c2 c3 a5 f5 f6 e9 e10
  have tail : ∀ (M2 : Mem) (x2 : Int32) (vo2 : List Value), KP (fun b => b = o) mdBd ld M M2 → gNth M2 o = some (.inr (8, vo2)) → gNth vo2 0 = some (.int x2) → 0 ≤ x2.toInt → x2.toInt ≤ 255 → ∃ M', TM sT sG M' ∧ Frm sT mdBd M M' ∧ LD ld M' ∧ PG ld (kn + 1) M' ∧ ∀ v MF, Ev none (e + 4) 58 29 [some (.ref 104), some (.int t), some (.int bf), some (.int n), some (.int (k + 1)), some (.ref o), some (.ref ws), some (.int gl), some (.int r)] [] M' v MF 0 0 → Ev none (e + 4) 58 173 [some (.ref 104), some (.int t), some (.int bf), some (.int n), some (.int k), some (.ref o), some (.ref ws), some (.int gl), some (.int r)] [] M2 v MF 0 0 := by
    intro M2 x2 vo2 K2 h1 h2 h3 h4
    obtain ⟨v3, ag, i1, i2, i3, _⟩ := K2.1.fnum p6 ly_age
    cases i1.symm.trans h1
    obtain ⟨M3, m3⟩ : ∃ N, N = gPut M2 o (.inr (8, gPut vo2 2 (.int (ag + 1)))) := ⟨_, rfl⟩
    have K3 : KP (fun b => b = o) mdBd ld M2 M3 := by rw [m3]; exact KP.fld K2.1 K2.2.2.1 p6 ly_age h1 (by decide) (i32_lt _).1 (i32_lt _).2 (by decide) (Or.inl (by decide))
    have j1 : gNth M3 o = some (.inr (8, gPut vo2 2 (.int (ag + 1)))) := by rw [m3, nth_put, if_pos ⟨rfl, gNth_lt _ _ _ h1⟩]
    have j2 : gNth (gPut vo2 2 (.int (ag + 1))) 0 = some (.int x2) := by rw [nth_put, if_neg (by omega)]; exact h2
    obtain ⟨cn, hcn⟩ : ∃ cn : Nat, x2.toInt = (cn : Int) := ⟨x2.toInt.toNat, by omega⟩
    obtain ⟨M4, s1, K4⟩ := ev_leave (e := e + 3) (gl := gl) K3.1 K3.2.2.1 p6 j1 j2 hcn (by omega)
    have K := K2.trans (K3.trans K4)
    obtain ⟨vw3, vl3, u1, _⟩ := K3.2.2.1.obj K3.1
    refine ⟨M4, K.1, K.2.1, K.2.2.1, hP.step hld K (by decide) (by decide) (by decide) P4 p5, fun v MF h => go_173 h1 i2 i3 ?_⟩
    rw [← m3]
    exact go_184 (Ev.call0 (fun n => gs_7 rfl rfl (cal_lv u1 rfl)) s1 (go_192 h))
  by_cases hr : r = -1
  · obtain ⟨M', t1, t2, t3, t4, t5⟩ := tail M1 x vo1 K1 g2 g3 c3 a5
    exact ⟨M', some (.ref o), some (.ref ws), some (.int gl), some (.int r), t1, t2, t3, t4, fun v MF h => go_41 w1 w2 w3 p1 p3 p4 d1 c1 b2 d3 d4 f1 e1 e2 f3 f4 e7 (Ev.call0 (fun n => gs_7 rfl rfl (cal_ch w1 rfl)) g1 (go_96 (by rw [if_pos hr]; exact t5 v MF h)))⟩
  · obtain ⟨bl, y, g5, g6, g7, g8⟩ := g4.resolve_left hr
    have T1 := K1.1
    have L1 := K1.2.2.1
    obtain ⟨vw1, vl1, u1, u2, u3⟩ := L1.obj T1
    obtain ⟨xn, hxn⟩ : ∃ xn : Nat, x.toInt = (xn : Int) := ⟨x.toInt.toNat, by omega⟩
    obtain ⟨ca, cl, cy, j1, j2, j3, j4, _⟩ := L1.irow T1 u3 ly_crowd ly_crowdr hxn (by omega)
    obtain ⟨M2, m2⟩ : ∃ N, N = gPut M1 ca (.inl (1, .inl (gPut cl x.toNatClampNeg (cy - 1)))) := ⟨_, rfl⟩
    have K2 : KP (fun b => b = o) mdBd ld M1 M2 := by rw [m2]; exact KP.row T1 L1 j2 ly_crowdr j3 (by decide) (i32_lt _).1 (i32_lt _).2
    have T2 := K2.1
    have L2 := K2.2.2.1
    have o2 : gNth M2 o = some (.inr (8, vo1)) := by rw [m2, nth_put, if_neg (fun q => by rw [q.1, j3] at g2; cases g2)]; exact g2
    have b8 : gNth M2 108 = some (.inl (1, .inl bl)) := by rw [m2, nth_put, if_neg (fun q => by rw [← q.1, sT_108] at j2; cases j2)]; exact g5
    obtain ⟨vw2, ga, h1, h2, h3⟩ := T2.fref sT_104 ly_grid
    obtain ⟨vg2, gb, h4, h5, h6⟩ := T2.fref h3 ly_bes
    cases sU_ok _ _ _ h6 sU_26
    obtain ⟨M3, s1, K3, vo3, s3, s4⟩ := ev_step (S := fun b => b = o) (e := e + 3) (o := o) (c := y) (d := r) T2 L2 p6 (Or.inl rfl) (by omega) g8
    have T3 := K3.1
    have L3 := K3.2.2.1
    obtain ⟨vw3, vl3, v1, v2, v3⟩ := L3.obj T3
    obtain ⟨yn, hyn⟩ : ∃ yn : Nat, y.toInt = (yn : Int) := ⟨y.toInt.toNat, by omega⟩
    obtain ⟨cb, cm, cz, l1, l2, l3, l4, _⟩ := L3.irow T3 v3 ly_crowd ly_crowdr hyn (by omega)
    obtain ⟨M4, m4⟩ : ∃ N, N = gPut M3 cb (.inl (1, .inl (gPut cm y.toNatClampNeg (cz + 1)))) := ⟨_, rfl⟩
    have K4 : KP (fun b => b = o) mdBd ld M3 M4 := by rw [m4]; exact KP.row T3 L3 l2 ly_crowdr l3 (by decide) (i32_lt _).1 (i32_lt _).2
    have o4 : gNth M4 o = some (.inr (8, vo3)) := by rw [m4, nth_put, if_neg (fun q => by rw [q.1, l3] at s3; cases s3)]; exact s3
    obtain ⟨vw4, vl4, z1, _⟩ := K4.2.2.1.obj K4.1
    obtain ⟨M5, r1, K5, r2⟩ := ev_tread (S := fun b => b = o) (e := e) K4.1 K4.2.2.1 g7 g8
    obtain ⟨vo5, o5, _, o6⟩ := r2.2.1 _ _ _ o4
    have o7 := (o6 0 (by decide)).trans s4
    obtain ⟨M', t1, t2, t3, t4, t5⟩ := tail M5 y vo5 (K1.trans (K2.trans (K3.trans (K4.trans K5)))) o5 o7 g7 g8
    refine ⟨M', some (.ref o), some (.ref ws), some (.int gl), some (.int r), t1, t2, t3, t4, fun v MF h => go_41 w1 w2 w3 p1 p3 p4 d1 c1 b2 d3 d4 f1 e1 e2 f3 f4 e7 (Ev.call0 (fun n => gs_7 rfl rfl (cal_ch w1 rfl)) g1 (go_96 ?_))⟩
    rw [if_neg hr]
    refine go_104 u1 u2 u3 j1 g2 g3 j3 j4 ?_
    rw [← m2]
    refine go_121 h1 h2 h4 h5 o2 g3 b8 g6 (Ev.call0 (fun n => gs_7 rfl rfl (cal_st o2 rfl)) s1 (go_147 v1 v2 v3 l1 s3 s4 l3 l4 ?_))
    rw [← m4]
    exact go_164 o4 s4 (Ev.call0 (fun n => gs_7 rfl rfl (cal_tr z1 rfl)) r1 (t5 v MF h))
theorem go_in {n t bf y : Int32} {nn : Nat} (hld : ld ∈ [8, 243, 345, 441, 537]) (hy : y.toInt = (nn : Int)) (h60 : nn ≤ 60) : ∀ (j kn : Nat) (k : Int32) (M : Mem) (x5 x6 x7 x8 : Option Value), kn + j = nn → k.toInt = (kn : Int) → TM sT sG M → LD ld M → PG ld kn M → (∃ vl, gNth M ld = some (.inr (1, vl)) ∧ gNth vl 15 = some (.int y)) → ∃ M' k' x5' x6' x7' x8', TM sT sG M' ∧ Frm sT mdBd M M' ∧ LD ld M' ∧ PG ld nn M' ∧ ∀ v MF, Ev none (e + 4) 58 198 [some (.ref 104), some (.int t), some (.int bf), some (.int n), some (.int k'), x5', x6', x7', x8'] [] M' v MF 0 0 → Ev none (e + 4) 58 29 [some (.ref 104), some (.int t), some (.int bf), some (.int n), some (.int k), x5, x6, x7, x8] [] M v MF 0 0 := by
  intro j
  induction j with
  | zero =>
    rintro kn k M x5 x6 x7 x8 hj hk hT hL hP ⟨vl, m1, m2⟩
    obtain ⟨vw, vl', w1, w2, w3⟩ := hL.obj hT
    cases w3.symm.trans m1
    have hkn : kn = nn := by omega
    subst hkn
    exact ⟨M, k, x5, x6, x7, x8, hT, Frm.refl _, hL, hP, fun v MF h => go_29 w1 w2 w3 m2 (by rw [if_pos (by rw [Int32.le_iff_toInt_le]; omega)]; exact h)⟩
  | succ j ih =>
    rintro kn k M x5 x6 x7 x8 hj hk hT hL hP ⟨vl, m1, m2⟩
    obtain ⟨vw, vl', w1, w2, w3⟩ := hL.obj hT
    cases w3.symm.trans m1
    have ek : (k + 1).toInt = k.toInt + 1 := i32_p1 (by omega)
    obtain ⟨M1, y5, y6, y7, y8, t1, t2, t3, t4, t5⟩ := go_body (e := e) (n := n) (t := t) (bf := bf) (x5 := x5) (x6 := x6) (x7 := x7) (x8 := x8) hld hT hL hP hk ⟨vl, m1, m2⟩ (by omega) (by omega)
    obtain ⟨M2, k', z5, z6, z7, z8, s1, s2, s3, s4, s5⟩ := ih (kn + 1) (k + 1) M1 y5 y6 y7 y8 (by omega) (by omega) t1 t3 t4 (fk t2 (by decide) m1 m2)
    exact ⟨M2, k', z5, z6, z7, z8, s1, t2.trans s2, s3, s4, fun v MF h => go_29 w1 w2 w3 m2 (by rw [if_neg (by rw [Int32.le_iff_toInt_le]; omega)]; exact t5 _ _ (s5 v MF h))⟩
def mdGo : Md := [(1, 15), (1, 16), (1, 17), (1, 18), (1, 19), (7, 10), (8, 0), (8, 1), (8, 2), (8, 3), (8, 4), (1012, 0), (1014, 0), (1015, 0), (1016, 0), (1019, 0), (1037, 0), (1039, 0)]
theorem go_out {t bf : Int32} (hld : ld ∈ [8, 243, 345, 441, 537]) : ∀ (j : Nat) (n : Int32) (M : Mem) (x4 x5 x6 x7 x8 : Option Value), t.toInt - n.toInt ≤ (j : Int) → TM sT sG M → LD ld M → P34 M → ∃ r M', Ev none (e + 4) 58 10 [some (.ref 104), some (.int t), some (.int bf), some (.int n), x4, x5, x6, x7, x8] [] M (some (.int r)) M' 0 0 ∧ TM sT sG M' ∧ Frm sT mdGo M M' ∧ P34 M' := by
  intro j
  have stop : ∀ (n : Int32) (M : Mem) (x4 x5 x6 x7 x8 : Option Value), TM sT sG M → LD ld M → ∃ r, Ev none (e + 4) 58 221 [some (.ref 104), some (.int t), some (.int bf), some (.int n), x4, x5, x6, x7, x8] [] M (some (.int r)) M 0 0 := by
    intro n M x4 x5 x6 x7 x8 hT hL
    obtain ⟨vw, vl, w1, w2, w3⟩ := hL.obj hT
    obtain ⟨v2, y2, a1, a2, _⟩ := hT.fnum (hL.grp hT) ly_arr
    exact ⟨_, go_221 w1 w2 a1 a2⟩
  induction j with
  | zero =>
    intro n M x4 x5 x6 x7 x8 hj hT hL hP
    obtain ⟨r, h⟩ := stop n M x4 x5 x6 x7 x8 hT hL
    exact ⟨r, M, go_10 (by rw [if_pos (by rw [Int32.le_iff_toInt_le]; omega)]; exact h), hT, Frm.refl _, hP⟩
  | succ j ih =>
    intro n M x4 x5 x6 x7 x8 hj hT hL hP
    obtain ⟨r, hst⟩ := stop n M x4 x5 x6 x7 x8 hT hL
    by_cases ht : t ≤ n
    · exact ⟨r, M, go_10 (by rw [if_pos ht]; exact hst), hT, Frm.refl _, hP⟩
    obtain ⟨v9, y9, a1, a2, _⟩ := hT.fnum sT_104 ly_trodw
    by_cases h9 : y9 = 0
    rotate_left
    · exact ⟨r, M, go_10 (by rw [if_neg ht]; exact go_15 a1 a2 (by rw [if_neg h9]; exact hst)), hT, Frm.refl _, hP⟩
    obtain ⟨M1, b1, b2, b3, b4, b5⟩ := ev_begin (e := e + 1) (x1 := none) (x2 := none) (x3 := none) hld hT hL hP
    obtain ⟨v1, y1, c1, c2, _, c4, c5, _⟩ := b2.fnum (b4.grp b2) ly_walkers
    obtain ⟨M2, k', z5, z6, z7, z8, s1, s2, s3, s4, s5⟩ := go_in (e := e) (n := n) (t := t) (bf := bf) (y := y1) (nn := y1.toInt.toNat) hld (by omega) (by omega) y1.toInt.toNat 0 0 M1 x5 x6 x7 x8 (by omega) rfl b2 b4 (PG.of b5) ⟨v1, c1, c2⟩
    obtain ⟨v2, d1, d2⟩ := fk s2 (by decide) c1 c2
    obtain ⟨M3, f1, f2, f3, f4, f5⟩ := ev_sweep (e := e + 3) (x1 := none) (x2 := none) (x3 := none) hld s1 s3 s4 ⟨v2, d1, d2⟩ (by omega) (by omega)
    obtain ⟨vw3, vl3, u1, u2, u3⟩ := f4.obj f2
    obtain ⟨v4, y4, g1, g2, g3, _⟩ := f2.fnum (f4.grp f2) ly_tick
    cases g1.symm.trans u3
    obtain ⟨M4, m4⟩ : ∃ N, N = gPut M3 ld (.inr (1, gPut vl3 16 (.int (y4 + 1)))) := ⟨_, rfl⟩
    have K4 : KP (fun _ => False) [(1, 16)] ld M3 M4 := by rw [m4]; exact KP.fld f2 f4 (f4.grp f2) ly_tick u3 (by decide) (i32_lt _).1 (i32_lt _).2 (by decide) (Or.inl (by decide))
    have en : (n + 1).toInt = n.toInt + 1 := by
      rw [Int32.le_iff_toInt_le] at ht
      have := i32_lt t
      exact i32_p1 (by omega)
    obtain ⟨r, MF, h1, h2, h3, h4⟩ := ih (n + 1) M4 (some (.int k')) z5 z6 z7 z8 (by omega) K4.1 K4.2.2.1 (f5.kp K4 (by decide) (by decide) (by decide))
    obtain ⟨vw2, vl2, w1, _⟩ := s3.obj s1
    obtain ⟨vw0, vl0, w0, _⟩ := hL.obj hT
    refine ⟨r, MF, go_10 ?_, h2, (b3.more (mdSub_mem rfl)).trans ((s2.more (mdSub_mem rfl)).trans ((f3.more (mdSub_mem rfl)).trans ((K4.2.1.more (mdSub_mem rfl)).trans h3))), h4⟩
    rw [if_neg ht]
    refine go_15 a1 a2 ?_
    rw [if_pos h9]
    refine go_22 (Ev.call0 (fun n => gs_7 rfl rfl (cal_bg w0 rfl)) b1 (go_26 (s5 _ _ (go_198 (Ev.call0 (fun n => gs_7 rfl rfl (cal_sw w1 rfl)) f1 (go_202 u1 u2 u3 g2 g3 ?_))))))
    rw [← m4]
    exact h1
end GO
set_option maxRecDepth 100000 in
theorem mR58 : (gNth mRs 58).map (fun q => q.2.2.2.1) = some 9 := by decide +kernel
def kX7_go : CN := (58, 6, [.inr 313, .inl (.negSucc 2147483647, .ofNat 2147483647)], [], [(34, [])], mdGo, [(some (.inl (.negSucc 2147483647, .ofNat 2147483647)), [], [], [(34, [])], [])])
theorem kX7_go_ok : cnOK sT sG FL0 kX7_go := by
  intro d M ws q hD hq hws hpre hT
  obtain ⟨hv, _, hfl⟩ := hpre
  obtain ⟨ys, _, hP⟩ := hfl _ (List.mem_singleton.mpr rfl)
  have hP : P34 M := fl0_34 hP
  rcases ws with _ | ⟨w0, _ | ⟨w1, _ | ⟨_, _⟩⟩⟩
  · exact hws.elim
  · exact hws.2.elim
  rotate_left
  · exact hws.2.2.elim
  obtain ⟨h0, ⟨t, rfl, _⟩, _⟩ := hws
  have h0 : w0 = .ref 104 := h0
  subst h0
  obtain ⟨e, rfl⟩ : ∃ e, d = e + 4 := ⟨d - 4, by have : 6 ≤ d := hD; omega⟩
  have hm := mR58
  rw [show gNth mRs 58 = some q from hq] at hm
  have hm : q.2.2.2.1 = 9 := Option.some.inj hm
  rw [hm]
  obtain ⟨vw, ld, a1, a2, a3⟩ := hT.fref sT_104 ly_land
  obtain ⟨vl, y, b1, b2, _⟩ := hT.fnum a3 ly_arr
  obtain ⟨r, M', h1, h2, h3, h4⟩ := go_out (e := e) (t := t) (bf := y) (ld_in a3) (t.toInt - 0).toNat 0 M none none none none none (by have : (0 : Int32).toInt = 0 := rfl; omega) hT ⟨vw, a1, a2⟩ hP
  exact ⟨_, M', go_0 a1 a2 b1 b2 h1, h2, h3, _, List.mem_singleton.mpr rfl, ⟨⟨r, rfl, i32_lt r⟩, fun q hq => (by cases hq), [], trivial, fun f hf => (by cases List.mem_singleton.mp hf; exact ⟨[], trivial, h4⟩), fun f hf => (by cases hf)⟩, cn_D rfl⟩
