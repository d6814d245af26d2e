/-! BY HAND: longer of the reference -/
theorem id_0 {e : Nat} {M : Mem} {M' : Mem} {v : Option Value} {vs : List Value} {a y1 : Int32} {l635 : List Int32} (hM : gNth M 633 = some (.inr (11, vs))) (v5 : gNth vs 5 = some (.ref 635)) (r635 : gNth M 635 = some (.inl (1, .inl l635))) (g1 : gAt l635 2 = some y1) (hz : Ev none (e + 1) 152 10 [some (.ref 633), some (.int a)] [.int (y1 - 1), .int 0, .int a] M v M' 0 0) : Ev none (e + 1) 152 0 [some (.ref 633), some (.int a)] [] M v M' 0 0 := by
  refine Ev.step (pc' := 3) (ls' := [some (.ref 633), some (.int a)]) (st' := [.ref 633, .int 0, .int a]) (M1 := M) 3 (fun n => rfl) ?_
  refine Ev.step 1 (gs_3 rfl rfl (gf_g rfl hM v5)) ?_
  refine Ev.step (pc' := 7) (ls' := [some (.ref 633), some (.int a)]) (st' := [.int 2, .ref 635, .int 0, .int a]) (M1 := M) 1 (fun n => rfl) ?_
  refine Ev.step 1 (gs_3 rfl rfl (ia_g r635 g1)) ?_
  refine Ev.step (pc' := 10) (ls' := [some (.ref 633), some (.int a)]) (st' := [.int (y1 - 1), .int 0, .int a]) (M1 := M) 2 (fun n => rfl) ?_
  exact hz
theorem id_13z {e : Nat} {M : Mem} {a : Int32}  : Ev none (e + 1) 152 13 [some (.ref 633), some (.int a)] [.int 0] M (some (.int 0)) M 0 0 := by
  exact Ev.ret (fun n => rfl)
theorem id_13o {e : Nat} {M : Mem} {a : Int32}  : Ev none (e + 1) 152 13 [some (.ref 633), some (.int a)] [.int 1] M (some (.int 1)) M 0 0 := by
  exact Ev.ret (fun n => rfl)
theorem lg_0 {e : Nat} {M : Mem} {M' : Mem} {v : Option Value} {vs : List Value} {a b : Int32} (hM : gNth M 633 = some (.inr (11, vs))) (hlen : vs.length = 63) (hz : Ev none (e + 4) 228 5 [some (.ref 633), some (.int a), some (.int b), none, none] [] (gPut M 633 (.inr (11, gPut vs 0 (.int 0)))) v M' 0 0) : Ev none (e + 4) 228 0 [some (.ref 633), some (.int a), some (.int b), none, none] [] M v M' 0 0 := by
  refine Ev.step (pc' := 2) (ls' := [some (.ref 633), some (.int a), some (.int b), none, none]) (st' := [.int 0, .ref 633]) (M1 := M) 2 (fun n => rfl) ?_
  refine Ev.step 1 (gs_4 rfl rfl (pf_i rfl hM (by rw [hlen]; decide) rfl rfl)) ?_
  exact hz
theorem lg_5 {e : Nat} {M : Mem} {M' : Mem} {v : Option Value} {a b : Int32}  (hz : Ev none (e + 4) 228 7 [some (.ref 633), some (.int a), some (.int b), none, none] [.int a, .ref 633] M v M' 0 0) : Ev none (e + 4) 228 5 [some (.ref 633), some (.int a), some (.int b), none, none] [] M v M' 0 0 := by
  refine Ev.step (pc' := 7) (ls' := [some (.ref 633), some (.int a), some (.int b), none, none]) (st' := [.int a, .ref 633]) (M1 := M) 2 (fun n => rfl) ?_
  exact hz
theorem lg_10 {e : Nat} {M : Mem} {M' : Mem} {v : Option Value} {a b z : Int32}  (hz : Ev none (e + 4) 228 (if z = 0 then 26 else 13) [some (.ref 633), some (.int a), some (.int b), none, none] [] M v M' 0 0) : Ev none (e + 4) 228 10 [some (.ref 633), some (.int a), some (.int b), none, none] [.int z] M v M' 0 0 := by
  refine Ev.step (pc' := (if z = 0 then 26 else 13)) (ls' := [some (.ref 633), some (.int a), some (.int b), none, none]) (st' := []) (M1 := M) 1 (fun n => rfl) ?_
  exact hz
theorem lg_13 {e : Nat} {M : Mem} {M' : Mem} {v : Option Value} {a b : Int32}  (hz : Ev none (e + 4) 228 15 [some (.ref 633), some (.int a), some (.int b), none, none] [.int b, .ref 633] M v M' 0 0) : Ev none (e + 4) 228 13 [some (.ref 633), some (.int a), some (.int b), none, none] [] M v M' 0 0 := by
  refine Ev.step (pc' := 15) (ls' := [some (.ref 633), some (.int a), some (.int b), none, none]) (st' := [.int b, .ref 633]) (M1 := M) 2 (fun n => rfl) ?_
  exact hz
theorem lg_18 {e : Nat} {M : Mem} {M' : Mem} {v : Option Value} {a b z : Int32}  (hz : Ev none (e + 4) 228 (if z = 0 then 26 else 21) [some (.ref 633), some (.int a), some (.int b), none, none] [] M v M' 0 0) : Ev none (e + 4) 228 18 [some (.ref 633), some (.int a), some (.int b), none, none] [.int z] M v M' 0 0 := by
  refine Ev.step (pc' := (if z = 0 then 26 else 21)) (ls' := [some (.ref 633), some (.int a), some (.int b), none, none]) (st' := []) (M1 := M) 1 (fun n => rfl) ?_
  exact hz
theorem lg_21 {e : Nat} {M : Mem} {M' : Mem} {v : Option Value} {a b : Int32}  (hz : Ev none (e + 4) 228 (if a = b then 26 else 29) [some (.ref 633), some (.int a), some (.int b), none, none] [] M v M' 0 0) : Ev none (e + 4) 228 21 [some (.ref 633), some (.int a), some (.int b), none, none] [] M v M' 0 0 := by
  refine Ev.step (pc' := (if a = b then 26 else 29)) (ls' := [some (.ref 633), some (.int a), some (.int b), none, none]) (st' := []) (M1 := M) 3 (fun n => rfl) ?_
  exact hz
theorem lg_26 {e : Nat} {M : Mem} {a b : Int32}  : Ev none (e + 4) 228 26 [some (.ref 633), some (.int a), some (.int b), none, none] [] M (some (.int (-2))) M 0 0 := by
  refine Ev.step (pc' := 28) (ls' := [some (.ref 633), some (.int a), some (.int b), none, none]) (st' := [.int (-2)]) (M1 := M) 1 (fun n => rfl) ?_
  exact Ev.ret (fun n => rfl)
theorem lg_29 {e : Nat} {M : Mem} {M' : Mem} {v : Option Value} {vs : List Value} {a b y1 y2 : Int32} {l635 : List Int32} (hM : gNth M 633 = some (.inr (11, vs))) (v5 : gNth vs 5 = some (.ref 635)) (r635 : gNth M 635 = some (.inl (1, .inl l635))) (g1 : gAt l635 (3 + a) = some y1) (g2 : gAt l635 (3 + b) = some y2) (hz : Ev none (e + 4) 228 47 [some (.ref 633), some (.int a), some (.int b), none, none] [.int 0, .int y2, .int y1, .ref 633] M v M' 0 0) : Ev none (e + 4) 228 29 [some (.ref 633), some (.int a), some (.int b), none, none] [] M v M' 0 0 := by
  refine Ev.step (pc' := 31) (ls' := [some (.ref 633), some (.int a), some (.int b), none, none]) (st' := [.ref 633, .ref 633]) (M1 := M) 2 (fun n => rfl) ?_
  refine Ev.step 1 (gs_3 rfl rfl (gf_g rfl hM v5)) ?_
  refine Ev.step (pc' := 37) (ls' := [some (.ref 633), some (.int a), some (.int b), none, none]) (st' := [.int (3 + a), .ref 635, .ref 633]) (M1 := M) 3 (fun n => rfl) ?_
  refine Ev.step 1 (gs_3 rfl rfl (ia_g r635 g1)) ?_
  refine Ev.step (pc' := 39) (ls' := [some (.ref 633), some (.int a), some (.int b), none, none]) (st' := [.ref 633, .int y1, .ref 633]) (M1 := M) 1 (fun n => rfl) ?_
  refine Ev.step 1 (gs_3 rfl rfl (gf_g rfl hM v5)) ?_
  refine Ev.step (pc' := 45) (ls' := [some (.ref 633), some (.int a), some (.int b), none, none]) (st' := [.int (3 + b), .ref 635, .int y1, .ref 633]) (M1 := M) 3 (fun n => rfl) ?_
  refine Ev.step 1 (gs_3 rfl rfl (ia_g r635 g2)) ?_
  refine Ev.step (pc' := 47) (ls' := [some (.ref 633), some (.int a), some (.int b), none, none]) (st' := [.int 0, .int y2, .int y1, .ref 633]) (M1 := M) 1 (fun n => rfl) ?_
  exact hz
theorem lg_50 {e : Nat} {M : Mem} {M' : Mem} {v : Option Value} {vs : List Value} {a b x y1 y2 : Int32} {l635 : List Int32} (hM : gNth M 633 = some (.inr (11, vs))) (v5 : gNth vs 5 = some (.ref 635)) (r635 : gNth M 635 = some (.inl (1, .inl l635))) (g1 : gAt l635 (3 + a) = some y1) (g2 : gAt l635 (3 + b) = some y2) (hz : Ev none (e + 4) 228 69 [some (.ref 633), some (.int a), some (.int b), some (.int x), none] [.int 1, .int y2, .int y1, .ref 633] M v M' 0 0) : Ev none (e + 4) 228 50 [some (.ref 633), some (.int a), some (.int b), none, none] [.int x] M v M' 0 0 := by
  refine Ev.step (pc' := 53) (ls' := [some (.ref 633), some (.int a), some (.int b), some (.int x), none]) (st' := [.ref 633, .ref 633]) (M1 := M) 3 (fun n => rfl) ?_
  refine Ev.step 1 (gs_3 rfl rfl (gf_g rfl hM v5)) ?_
  refine Ev.step (pc' := 59) (ls' := [some (.ref 633), some (.int a), some (.int b), some (.int x), none]) (st' := [.int (3 + a), .ref 635, .ref 633]) (M1 := M) 3 (fun n => rfl) ?_
  refine Ev.step 1 (gs_3 rfl rfl (ia_g r635 g1)) ?_
  refine Ev.step (pc' := 61) (ls' := [some (.ref 633), some (.int a), some (.int b), some (.int x), none]) (st' := [.ref 633, .int y1, .ref 633]) (M1 := M) 1 (fun n => rfl) ?_
  refine Ev.step 1 (gs_3 rfl rfl (gf_g rfl hM v5)) ?_
  refine Ev.step (pc' := 67) (ls' := [some (.ref 633), some (.int a), some (.int b), some (.int x), none]) (st' := [.int (3 + b), .ref 635, .int y1, .ref 633]) (M1 := M) 3 (fun n => rfl) ?_
  refine Ev.step 1 (gs_3 rfl rfl (ia_g r635 g2)) ?_
  refine Ev.step (pc' := 69) (ls' := [some (.ref 633), some (.int a), some (.int b), some (.int x), none]) (st' := [.int 1, .int y2, .int y1, .ref 633]) (M1 := M) 1 (fun n => rfl) ?_
  exact hz
theorem lg_51 {e : Nat} {M : Mem} {M' : Mem} {v : Option Value} {vs : List Value} {a b x y1 y2 : Int32} {l635 : List Int32} (hM : gNth M 633 = some (.inr (11, vs))) (v5 : gNth vs 5 = some (.ref 635)) (r635 : gNth M 635 = some (.inl (1, .inl l635))) (g1 : gAt l635 (3 + a) = some y1) (g2 : gAt l635 (3 + b) = some y2) (hz : Ev none (e + 4) 228 69 [some (.ref 633), some (.int a), some (.int b), some (.int x), none] [.int 1, .int y2, .int y1, .ref 633] M v M' 0 0) : Ev none (e + 4) 228 51 [some (.ref 633), some (.int a), some (.int b), some (.int x), none] [] M v M' 0 0 := by
  refine Ev.step (pc' := 53) (ls' := [some (.ref 633), some (.int a), some (.int b), some (.int x), none]) (st' := [.ref 633, .ref 633]) (M1 := M) 2 (fun n => rfl) ?_
  refine Ev.step 1 (gs_3 rfl rfl (gf_g rfl hM v5)) ?_
  refine Ev.step (pc' := 59) (ls' := [some (.ref 633), some (.int a), some (.int b), some (.int x), none]) (st' := [.int (3 + a), .ref 635, .ref 633]) (M1 := M) 3 (fun n => rfl) ?_
  refine Ev.step 1 (gs_3 rfl rfl (ia_g r635 g1)) ?_
  refine Ev.step (pc' := 61) (ls' := [some (.ref 633), some (.int a), some (.int b), some (.int x), none]) (st' := [.ref 633, .int y1, .ref 633]) (M1 := M) 1 (fun n => rfl) ?_
  refine Ev.step 1 (gs_3 rfl rfl (gf_g rfl hM v5)) ?_
  refine Ev.step (pc' := 67) (ls' := [some (.ref 633), some (.int a), some (.int b), some (.int x), none]) (st' := [.int (3 + b), .ref 635, .int y1, .ref 633]) (M1 := M) 3 (fun n => rfl) ?_
  refine Ev.step 1 (gs_3 rfl rfl (ia_g r635 g2)) ?_
  refine Ev.step (pc' := 69) (ls' := [some (.ref 633), some (.int a), some (.int b), some (.int x), none]) (st' := [.int 1, .int y2, .int y1, .ref 633]) (M1 := M) 1 (fun n => rfl) ?_
  exact hz
theorem lg_72 {e : Nat} {M : Mem} {M' : Mem} {v : Option Value} {a b x y : Int32}  (hz : Ev none (e + 4) 228 74 [some (.ref 633), some (.int a), some (.int b), some (.int x), some (.int y)] [] M v M' 0 0) : Ev none (e + 4) 228 72 [some (.ref 633), some (.int a), some (.int b), some (.int x), none] [.int y] M v M' 0 0 := by
  refine Ev.step (pc' := 74) (ls' := [some (.ref 633), some (.int a), some (.int b), some (.int x), some (.int y)]) (st' := []) (M1 := M) 1 (fun n => rfl) ?_
  exact hz
theorem lg_74 {e : Nat} {M : Mem} {M' : Mem} {v : Option Value} {a b x y : Int32}  (hz : Ev none (e + 4) 228 (if 10000000 ≤ x then 89 else 81) [some (.ref 633), some (.int a), some (.int b), some (.int x), some (.int y)] [] M v M' 0 0) : Ev none (e + 4) 228 74 [some (.ref 633), some (.int a), some (.int b), some (.int x), some (.int y)] [] M v M' 0 0 := by
  refine Ev.step (pc' := (if 10000000 ≤ x then 89 else 81)) (ls' := [some (.ref 633), some (.int a), some (.int b), some (.int x), some (.int y)]) (st' := []) (M1 := M) 3 (fun n => rfl) ?_
  exact hz
theorem lg_81 {e : Nat} {M : Mem} {M' : Mem} {v : Option Value} {a b x y : Int32}  (hz : Ev none (e + 4) 228 (if y < 10000000 then 93 else 89) [some (.ref 633), some (.int a), some (.int b), some (.int x), some (.int y)] [] M v M' 0 0) : Ev none (e + 4) 228 81 [some (.ref 633), some (.int a), some (.int b), some (.int x), some (.int y)] [] M v M' 0 0 := by
  refine Ev.step (pc' := (if y < 10000000 then 93 else 89)) (ls' := [some (.ref 633), some (.int a), some (.int b), some (.int x), some (.int y)]) (st' := []) (M1 := M) 3 (fun n => rfl) ?_
  exact hz
theorem lg_89 {e : Nat} {M : Mem} {a b x y : Int32}  : Ev none (e + 4) 228 89 [some (.ref 633), some (.int a), some (.int b), some (.int x), some (.int y)] [] M (some (.int (-1))) M 0 0 := by
  refine Ev.step (pc' := 100) (ls' := [some (.ref 633), some (.int a), some (.int b), some (.int x), some (.int y)]) (st' := [.int (-1)]) (M1 := M) 2 (fun n => rfl) ?_
  exact Ev.ret (fun n => rfl)
theorem lg_93 {e : Nat} {M : Mem} {a b x y : Int32} (nz99 : ¬ x = 0) : Ev none (e + 4) 228 93 [some (.ref 633), some (.int a), some (.int b), some (.int x), some (.int y)] [] M (some (.int ((100 * y) / x))) M 0 0 := by
  refine Ev.step (pc' := 99) (ls' := [some (.ref 633), some (.int a), some (.int b), some (.int x), some (.int y)]) (st' := [.int x, .int (100 * y)]) (M1 := M) 4 (fun n => rfl) ?_
  refine Ev.step 1 (gs_0 (st' := [.int ((100 * y) / x)]) rfl rfl (show (if x = 0 then none else some _) = _ by rw [if_neg nz99])) ?_
  exact Ev.ret (fun n => rfl)
theorem cal_id {M : Mem} {vs : List Value} {a0 : Int32} {rest : List Value} (hM : gNth M 633 = some (.inr (11, vs))) (hr : gRoom rest = true) : gCal (.invokevirtual 340) 11 (.int a0 :: .ref 633 :: rest) M = some (.inr (152, [some (.ref 633), some (.int a0)], rest)) := by
  show @cond (Option ((List Value × Mem) ⊕ (Nat × Lo × List Value))) (true && gRecv M (.ref 633) 11 && gRoom rest && true) (some (.inr (152, [some (.ref 633), some (.int a0)], rest))) none = _
  rw [recv_ok hM, hr]
  rfl
theorem cal_sh {M : Mem} {vs : List Value} {a0 a1 a2 : Int32} {rest : List Value} (hM : gNth M 633 = some (.inr (11, vs))) (hr : gRoom rest = true) : gCal (.invokevirtual 469) 11 (.int a2 :: .int a1 :: .int a0 :: .ref 633 :: rest) M = some (.inr (227, [some (.ref 633), some (.int a0), some (.int a1), some (.int a2), none, none, none, none, none], rest)) := by
  show @cond (Option ((List Value × Mem) ⊕ (Nat × Lo × List Value))) (true && gRecv M (.ref 633) 11 && gRoom rest && true) (some (.inr (227, [some (.ref 633), some (.int a0), some (.int a1), some (.int a2), none, none, none, none, none], rest))) none = _
  rw [recv_ok hM, hr]
  rfl
theorem ev_isDoor {M : Mem} {e : Nat} {vs : List Value} {l : List Int32} {n a : Int32} (hM : gNth M 633 = some (.inr (11, vs))) (h5 : gNth vs 5 = some (.ref 635)) (hs : gNth M 635 = some (.inl (1, .inl l))) (h2 : gAt l 2 = some n) : Ev none (e + 1) 152 0 [some (.ref 633), some (.int a)] [] M (some (.int (if a < 0 then 0 else if n - 1 < a then 0 else 1))) M 0 0 := by
  refine id_0 hM h5 hs h2 (Ev.call0 (fun n => rfl) ev_isin ?_)
  by_cases c1 : a < 0
  · rw [if_pos c1]
    exact id_13z
  · rw [if_neg c1]
    by_cases c2 : n - 1 < a
    · rw [if_pos c2]
      exact id_13z
    · rw [if_neg c2]
      exact id_13o
def kX11_longer : CN := (228, 4, [.inr 1900, .inl (.negSucc 2147483647, .ofNat 2147483647), .inl (.negSucc 2147483647, .ofNat 2147483647)], [], [(28, [])], [(11, 0), (1083, 0)], [(some (.inl (.negSucc 2147483647, .ofNat 2147483647)), [], [], [], [])])
set_option maxRecDepth 100000 in
theorem mR_228 : (gNth mRs 228).map (fun q => q.2.2.2.1) = some 5 := by decide +kernel
theorem kX11_longer_ok : cnOK sT sG FL0 kX11_longer := by
  intro d M ws q hd hq ha hp hT
  have hm := mR_228
  have hq' : gNth mRs 228 = some q := hq
  rw [hq'] at hm
  have hm : q.2.2.2.1 = 5 := Option.some.inj hm
  obtain ⟨e, rfl⟩ : ∃ e, d = e + 4 := ⟨d - 4, by have : 4 ≤ d := hd; omega⟩
  rcases ws with _ | ⟨z0, _ | ⟨z1, _ | ⟨z2, _ | ⟨z3, r⟩⟩⟩⟩
  · exact ha.elim
  · exact ha.2.elim
  · exact ha.2.2.elim
  · obtain ⟨k1, ⟨a, rfl, _, _⟩, ⟨b, rfl, _, _⟩, _⟩ := ha
    have k1 : z0 = .ref 633 := k1
    subst k1
    obtain ⟨hv, hv0, hfl⟩ := hp
    obtain ⟨y28, z28, h28⟩ := hfl (28, []) (List.mem_cons_self ..)
    obtain ⟨vs, hM, hlen, hT1⟩ := hT.thr
    obtain ⟨M1, e1⟩ : ∃ M1, M1 = gPut M 633 (.inr (11, gPut vs 0 (.int 0))) := ⟨_, rfl⟩
    rw [← e1] at hT1
    have hF1 : Frm sT [(11, 0), (1083, 0)] M M1 := by rw [e1]; exact Frm.fld hM (by decide)
    have hF0 : Frm sT [(11, 0)] M M1 := by rw [e1]; exact Frm.fld hM (by decide)
    have h28 := dp0_frm 0 28 _ _ _ _ hF0 (by decide) h28
    obtain ⟨t2, l2, p1, p2, p3⟩ := fl0_28 h28
    obtain ⟨vs1, l, w, hh, m1, m2, m3, m4, m5, w1, w2, h1, h2⟩ := hT1.s_ref
    obtain ⟨vs1', l', m1', _, m3', sl⟩ := hT1.s_all
    have el : l' = l := by cases m3.symm.trans m3'; rfl
    subst el
    have el : l2 = l' := by cases p1.symm.trans m3; rfl
    subst el
    obtain ⟨n, n1, n2⟩ := at_c (l := l2) (j := 2) (kn := 2) rfl (by omega)
    obtain ⟨n0, n9⟩ := hT1.s_in m3 sB_2 n2
    rw [hm]
    have fin : ∀ (r : Int32) (M2 : Mem), TM sT sG M2 → Frm sT [(1083, 0)] M1 M2 → Ev none (e + 4) 228 5 [some (.ref 633), some (.int a), some (.int b), none, none] [] M1 (some (.int r)) M2 0 0 → ∃ v M', Ev none (e + 4) kX11_longer.1 0 (gPad 5 (gArgs [.ref 633, .int a, .int b])) [] M v M' 0 0 ∧ TM sT sG M' ∧ Frm sT kX11_longer.2.2.2.2.2.1 M M' ∧ ∃ s ∈ kX11_longer.2.2.2.2.2.2, csOK sT FL0 [.ref 633, .int a, .int b] v M' s ∧ dlOK kX11_longer.1 M M' := by
      intro r M2 q1 q2 q3
      obtain ⟨r1, r2⟩ := i32_any r
      refine ⟨some (.int r), M2, lg_0 hM hlen (by rw [← e1]; exact q3), q1, hF1.trans (q2.more (by decide)), _, List.mem_cons_self .., ⟨⟨r, rfl, r1, r2⟩, fun q hq => (by cases hq), [], trivial, fun f hf => (by cases hf), fun q hq => (by cases hq)⟩, cn_D rfl⟩
    have da := ev_isDoor (e := e + 2) (a := a) m1 m2 m3 n1
    rcases isin_01 a 0 (n - 1) with hz | ⟨a0, a9, hz⟩
    · rw [hz] at da
      exact fin (-2) M1 hT1 (Frm.refl _) (lg_5 (Ev.call0 (fun n => gs_7 rfl rfl (cal_id m1 rfl)) da (lg_10 (by rw [if_pos rfl]; exact lg_26))))
    rw [hz] at da
    have db := ev_isDoor (e := e + 2) (a := b) m1 m2 m3 n1
    rcases isin_01 b 0 (n - 1) with hz | ⟨b0, b9, hz⟩
    · rw [hz] at db
      exact fin (-2) M1 hT1 (Frm.refl _) (lg_5 (Ev.call0 (fun n => gs_7 rfl rfl (cal_id m1 rfl)) da (lg_10 (by rw [if_neg (by decide)]; exact lg_13 (Ev.call0 (fun n => gs_7 rfl rfl (cal_id m1 rfl)) db (lg_18 (by rw [if_pos rfl]; exact lg_26)))))))
    rw [hz] at db
    by_cases hab : a = b
    · exact fin (-2) M1 hT1 (Frm.refl _) (lg_5 (Ev.call0 (fun n => gs_7 rfl rfl (cal_id m1 rfl)) da (lg_10 (by rw [if_neg (by decide)]; exact lg_13 (Ev.call0 (fun n => gs_7 rfl rfl (cal_id m1 rfl)) db (lg_18 (by rw [if_neg (by decide)]; exact lg_21 (by rw [if_pos hab]; exact lg_26))))))))
    have o0 : (0 : Int32).toInt = 0 := rfl
    rw [Int32.le_iff_toInt_le] at a0 a9 b0 b9
    have dn : (n - 1).toInt = n.toInt - 1 := i32_m1 (by omega)
    obtain ⟨an, han⟩ : ∃ an : Nat, a.toInt = (an : Int) := ⟨a.toInt.toNat, by omega⟩
    obtain ⟨bn, hbn⟩ : ∃ bn : Nat, b.toInt = (bn : Int) := ⟨b.toInt.toNat, by omega⟩
    obtain ⟨_, hd⟩ := p3 w hh n m4 m5 n2
    obtain ⟨xa, xb, xa1, xb1, _, xab⟩ := hd an bn (by omega) (by omega)
    obtain ⟨_, xb9, _, xb2, xbc, _⟩ := hd bn an (by omega) (by omega)
    have hxb : xb.toInt < w.toInt * hh.toInt := by
      obtain ⟨u1, u2, u3, u4, u5, _⟩ := hd bn bn (by omega) (by omega)
      cases u3.symm.trans xb1
      exact u5
    have hne : xa ≠ xb := xab (fun e => hab (Int32.toInt_inj.mp (by omega)))
    obtain ⟨xa2, xa3⟩ := hT1.s_in m3 (List.all_eq_true.mp sB_d an (List.mem_range.mpr (by omega))) xa1
    obtain ⟨xb3, xb4⟩ := hT1.s_in m3 (List.all_eq_true.mp sB_d bn (List.mem_range.mpr (by omega))) xb1
    have o3 : (3 : Int32).toInt = 3 := rfl
    have e3a : (3 + a).toInt = ((3 + an : Nat) : Int) := by
      rw [i32_add (by rw [o3]; omega) (by rw [o3]; omega), o3]
      omega
    have e3b : (3 + b).toInt = ((3 + bn : Nat) : Int) := by
      rw [i32_add (by rw [o3]; omega) (by rw [o3]; omega), o3]
      omega
    have ga : gAt l2 (3 + a) = some xa := by rw [at_nn e3a]; exact xa1
    have gb : gAt l2 (3 + b) = some xb := by rw [at_nn e3b]; exact xb1
    obtain ⟨x, M2, s1, s2, s3, s4⟩ := ev_shortest (e := e) (a := xa) (b := xb) (f := 0) hT1 xa2 xa3 xb3 xb4
    have hx : 1 ≤ x.toInt := s4 hne (fun l9 w9 h9 q1 q2 q3 => by
      cases q1.symm.trans m3
      cases q2.symm.trans m4
      cases q3.symm.trans m5
      exact hxb)
    obtain ⟨vs2, l9, m1b, m2b, m3b, _⟩ := s2.s_all
    have hl9 := row_frm s3 sT_635 (by decide) m3
    have el : l9 = l2 := by cases hl9.symm.trans m3b; rfl
    subst el
    obtain ⟨y, M3, u1, u2, u3, _⟩ := ev_shortest (e := e) (a := xa) (b := xb) (f := 1) s2 xa2 xa3 xb3 xb4
    have tail : ∀ r : Int32, Ev none (e + 4) 228 74 [some (.ref 633), some (.int a), some (.int b), some (.int x), some (.int y)] [] M3 (some (.int r)) M3 0 0 → ∃ v M', Ev none (e + 4) kX11_longer.1 0 (gPad 5 (gArgs [.ref 633, .int a, .int b])) [] M v M' 0 0 ∧ TM sT sG M' ∧ Frm sT kX11_longer.2.2.2.2.2.1 M M' ∧ ∃ s ∈ kX11_longer.2.2.2.2.2.2, csOK sT FL0 [.ref 633, .int a, .int b] v M' s ∧ dlOK kX11_longer.1 M M' := fun r h => fin r M3 u2 (s3.trans u3) (lg_5 (Ev.call0 (fun n => gs_7 rfl rfl (cal_id m1 rfl)) da (lg_10 (by rw [if_neg (by decide)]; exact lg_13 (Ev.call0 (fun n => gs_7 rfl rfl (cal_id m1 rfl)) db (lg_18 (by rw [if_neg (by decide)]; exact lg_21 (by rw [if_neg hab]; exact lg_29 m1 m2 m3 ga gb (Ev.call0 (fun n => gs_7 rfl rfl (cal_sh m1 rfl)) s1 (lg_50 m1b m2b m3b ga gb (Ev.call0 (fun n => gs_7 rfl rfl (cal_sh m1b rfl)) u1 (lg_72 h))))))))))))
    by_cases c1 : (10000000 : Int32) ≤ x
    · exact tail (-1) (lg_74 (by rw [if_pos c1]; exact lg_89))
    by_cases c2 : y < 10000000
    · exact tail _ (lg_74 (by rw [if_neg c1]; exact lg_81 (by rw [if_pos c2]; exact lg_93 (fun h => by rw [h] at hx; exact absurd hx (by decide)))))
    · exact tail (-1) (lg_74 (by rw [if_neg c1]; exact lg_81 (by rw [if_neg c2]; exact lg_89)))
  · exact ha.2.2.2.elim
