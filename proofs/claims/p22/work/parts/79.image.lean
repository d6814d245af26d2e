/-! BY HAND: image and restore of the reference -/
theorem pf_i {M : Mem} {vs : List Value} {ix k ty : Nat} {st : List Value} {ini : Bool} {y : Int32} (ho : gOwn fRs 11 ix = some (11, k, ty)) (hM : gNth M 633 = some (.inr (11, vs))) (hl : k < vs.length) (hf : gFin 11 k = false) (ht : fits (gTy 11 k) (.int y) = true) : gGet (.putfield ix) none 11 ini (.int y :: .ref 633 :: st) M = some (st, gPut M 633 (.inr (11, gPut vs k (.int y)))) := by
  show (match gOwn fRs 11 ix, gNth M 633 with
    | some (ci, k, _), some (.inr (c, fs)) => match Nat.beq c ci && Nat.blt k fs.length && (!gFin ci k || (ini && Nat.beq 11 ci)) && fits (gTy ci k) (.int y) with
      | true => some (st, gPut M 633 (.inr (c, gPut fs k (.int y))))
      | _ => none
    | _, _ => none) = _
  rw [ho, hM]
  show (match Nat.beq 11 11 && Nat.blt k vs.length && (!gFin 11 k || (ini && Nat.beq 11 11)) && fits (gTy 11 k) (.int y) with
      | true => some (st, gPut M 633 (.inr (11, gPut vs k (.int y))))
      | _ => none) = _
  rw [hf, ht, show Nat.blt k vs.length = true from Nat.ble_eq_true_of_le hl]
  rfl
noncomputable def fldB (k : Nat) (lo hi : Int) : Bool := match gNth sG 61 with
  | some (.inl (11, fs)) => Nat.beq fs.length 63 && (match gNth fs k with
    | some (.inl (a, b)) => decide (a = lo) && decide (b = hi)
    | _ => false)
  | _ => false
/-- a field of the Model that is an int: its range; written -/
theorem TM.fint {M : Mem} (hT : TM sT sG M) {k : Nat} {lo hi : Int} (hB : fldB k lo hi = true) : ∃ vs y, gNth M 633 = some (.inr (11, vs)) ∧ vs.length = 63 ∧ gNth vs k = some (.int y) ∧ lo ≤ y.toInt ∧ y.toInt ≤ hi ∧ ∀ z : Int32, lo ≤ z.toInt → z.toInt ≤ hi → TM sT sG (gPut M 633 (.inr (11, gPut vs k (.int z)))) := by
  unfold fldB at hB
  split at hB
  rotate_left
  · cases hB
  rename_i fs e
  obtain ⟨b1, b2⟩ := and_t hB
  split at b2
  rotate_left
  · cases b2
  rename_i a b e2
  obtain ⟨b3, b4⟩ := and_t b2
  cases of_decide_eq_true b3
  cases of_decide_eq_true b4
  obtain ⟨ee, c1, c2⟩ := hT.at sT_633 e
  obtain ⟨vs, rfl, v1, v2⟩ := c2
  obtain ⟨v, w1, y, rfl, y1, y2⟩ := v2 k _ e2
  refine ⟨vs, y, c1, v1.trans (Nat.eq_of_beq_eq_true b1), w1, y1, y2, fun z z1 z2 => hT.put (fun g2 t q1 q2 => ?_)⟩
  rw [sT_633] at q1
  cases q1
  rw [e] at q2
  cases q2
  refine ⟨_, rfl, by rw [put_len]; exact v1, fun j ft hj => ?_⟩
  rw [nth_put]
  by_cases hjk : j = k
  · subst hjk
    rw [e2] at hj
    cases hj
    rw [if_pos ⟨rfl, gNth_lt _ _ _ w1⟩]
    exact ⟨_, rfl, z, rfl, z1, z2⟩
  · rw [if_neg (fun q => hjk q.1)]
    exact v2 j ft hj
set_option maxRecDepth 100000 in
theorem fB_0 : fldB 0 (-2147483648) 2147483647 = true := by decide +kernel
/-- thrown = 0 -/
theorem TM.thr {M : Mem} (hT : TM sT sG M) : ∃ vs, gNth M 633 = some (.inr (11, vs)) ∧ vs.length = 63 ∧ TM sT sG (gPut M 633 (.inr (11, gPut vs 0 (.int 0)))) := by
  obtain ⟨vs, y, h1, h2, _, _, _, h3⟩ := hT.fint fB_0
  exact ⟨vs, h1, h2, h3 0 (by decide) (by decide)⟩
theorem im_0 {e : Nat} {M : Mem} {M' : Mem} {v : Option Value} {vs : List Value} {k : Int32} {x1 : Option Value} (hM : gNth M 633 = some (.inr (11, vs))) (hlen : vs.length = 63) (hz : Ev none (e + 1) 246 8 [some (.ref 633), some (.int k), x1] [.int 2, .int 0, .int k] (gPut M 633 (.inr (11, gPut vs 0 (.int 0)))) v M' 0 0) : Ev none (e + 1) 246 0 [some (.ref 633), some (.int k), x1] [] M v M' 0 0 := by
  refine Ev.step (pc' := 2) (ls' := [some (.ref 633), some (.int k), x1]) (st' := [.int 0, .ref 633]) (M1 := M) 2 (fun n => rfl) ?_
  refine Ev.step 1 (gs_4 rfl rfl (pf_i rfl hM (by rw [hlen]; decide) rfl rfl)) ?_
  refine Ev.step (pc' := 8) (ls' := [some (.ref 633), some (.int k), x1]) (st' := [.int 2, .int 0, .int k]) (M1 := (gPut M 633 (.inr (11, gPut vs 0 (.int 0))))) 3 (fun n => rfl) ?_
  exact hz
theorem re_0 {e : Nat} {M : Mem} {M' : Mem} {v : Option Value} {vs : List Value} {k : Int32} {x1 : Option Value} (hM : gNth M 633 = some (.inr (11, vs))) (hlen : vs.length = 63) (hz : Ev none (e + 1) 247 8 [some (.ref 633), some (.int k), x1] [.int 2, .int 0, .int k] (gPut M 633 (.inr (11, gPut vs 0 (.int 0)))) v M' 0 0) : Ev none (e + 1) 247 0 [some (.ref 633), some (.int k), x1] [] M v M' 0 0 := by
  refine Ev.step (pc' := 2) (ls' := [some (.ref 633), some (.int k), x1]) (st' := [.int 0, .ref 633]) (M1 := M) 2 (fun n => rfl) ?_
  refine Ev.step 1 (gs_4 rfl rfl (pf_i rfl hM (by rw [hlen]; decide) rfl rfl)) ?_
  refine Ev.step (pc' := 8) (ls' := [some (.ref 633), some (.int k), x1]) (st' := [.int 2, .int 0, .int k]) (M1 := (gPut M 633 (.inr (11, gPut vs 0 (.int 0))))) 3 (fun n => rfl) ?_
  exact hz
section IM
variable {M0 : Mem} {e : Nat} {s l0 : List Int32} {k : Int32} {kn : Nat}
theorem i32_kept {k i : Int32} {kn inn : Nat} (hk : k.toInt = (kn : Int)) (hi : i.toInt = (inn : Int)) (k2 : kn ≤ 2) (i2 : inn ≤ 2314) : (2314 * k + i).toInt = ((2314 * kn + inn : Nat) : Int) := by
  have o : (2314 : Int32).toInt = 2314 := rfl
  have d1 : (2314 * k).toInt = 2314 * k.toInt := by
    rw [i32_mul (by rw [o]; omega) (by rw [o]; omega), o]
  rw [i32_add (by rw [d1]; omega) (by rw [d1]; omega), d1]
  omega
set_option maxRecDepth 100000 in
theorem im_loop (hk : k.toInt = (kn : Int)) (k2 : kn ≤ 2) : ∀ (j inn : Nat) (M : Mem) (i : Int32) (l : List Int32), TM sT sG M → Frm sT [(11, 0), (1064, 0), (1066, 0)] M0 M → gNth M 635 = some (.inl (1, .inl s)) → gNth M 636 = some (.inl (1, .inl l)) → CpP l l0 s (2314 * kn) 0 inn → i.toInt = (inn : Int) → inn + j = 2314 → ∃ M1 lF, (∀ v M', Ev none (e + 1) 246 49 [some (.ref 633), some (.int k), some (.int 2314)] [] M1 v M' 0 0 → Ev none (e + 1) 246 18 [some (.ref 633), some (.int k), some (.int i)] [] M v M' 0 0) ∧ TM sT sG M1 ∧ Frm sT [(11, 0), (1064, 0), (1066, 0)] M0 M1 ∧ gNth M1 636 = some (.inl (1, .inl lF)) ∧ CpP lF l0 s (2314 * kn) 0 2314 ∧ gNth M1 638 = gNth M 638 := by
  intro j
  have o : (2314 : Int32).toInt = 2314 := rfl
  induction j with
  | zero =>
    intro inn M i l hT hF hs ha hc hi hj
    have hi2 : i = 2314 := Int32.toInt_inj.mp (by rw [o]; omega)
    subst hi2
    refine ⟨M, l, fun v M' hz => im_18 ?_, hT, hF, ha, (by
      have h9 : inn = 2314 := by omega
      subst h9
      exact hc), rfl⟩
    rw [if_pos (by rw [Int32.le_iff_toInt_le]; omega)]
    exact hz
  | succ j ih =>
    intro inn M i l hT hF hs ha hc hi hj
    obtain ⟨vs, s2, la, lk, lb, hM, h5, _, h6, _, hs2, sl, _, _, ha2, al, _⟩ := hT.cp
    cases hs.symm.trans hs2
    cases ha.symm.trans ha2
    obtain ⟨y, y1, y2⟩ := at_c (l := s) hi (by omega)
    have hik := i32_kept (k := k) (i := i) hk hi k2 (by omega)
    obtain ⟨z, z1, z2⟩ := at_c (l := l) hik (by omega)
    have p1 : TM sT sG (gPut M 636 (.inl (1, .inl (gPut l (2314 * kn + inn) y)))) := hT.putrow (n := 6942) (lo := -2147483648) (hi := 2147483647) sT_more.2.1 (by decide +kernel) (by rw [put_len]; exact al) (fun _ x _ => i32_any x)
    have e1 : (i + 1).toInt = i.toInt + 1 := i32_p1 (by omega)
    have hcs := hc.step (y := y) (by rw [Nat.zero_add]; exact y2) (by omega)
    obtain ⟨M1, lF, q1, q2, q3, q4, q5, q6⟩ := ih (inn + 1) _ (i + 1) _ p1 (hF.trans (Frm.row ha sT_more.2.1 (by decide))) (by rw [nth_put, if_neg (fun q => absurd q.1 (by decide))]; exact hs) (by rw [nth_put, if_pos ⟨rfl, gNth_lt _ _ _ ha⟩]) hcs (by omega) (by omega)
    refine ⟨M1, lF, fun v M' hz => im_18 ?_, q2, q3, q4, q5, by rw [q6, nth_put, if_neg (fun q => absurd q.1 (by decide))]⟩
    rw [if_neg (by rw [Int32.le_iff_toInt_le, o]; omega)]
    refine im_25 hM h6 h5 hs y1 ha z1 ?_
    rw [cl_n hik]
    exact q1 v M' hz
theorem re_loop {lk l2 : List Int32} (hg : goodS l2) (hk : k.toInt = (kn : Int)) (k2 : kn ≤ 2) (hsl : ∀ i : Nat, i < 2314 → gNth lk (2314 * kn + i) = gNth l2 i) (hkl : lk.length = 6942) : ∀ (j inn : Nat) (M : Mem) (i : Int32) (l : List Int32), TM sT sG M → Frm sT [(11, 0), (1063, 0)] M0 M → gNth M 636 = some (.inl (1, .inl lk)) → gNth M 635 = some (.inl (1, .inl l)) → CpP l l0 l2 0 0 inn → i.toInt = (inn : Int) → inn + j = 2314 → ∃ MF lF, Ev none (e + 1) 247 27 [some (.ref 633), some (.int k), some (.int i)] [] M (some (.int 1)) MF 0 0 ∧ TM sT sG MF ∧ Frm sT [(11, 0), (1063, 0)] M0 MF ∧ gNth MF 635 = some (.inl (1, .inl lF)) ∧ CpP lF l0 l2 0 0 2314 := by
  intro j
  have o : (2314 : Int32).toInt = 2314 := rfl
  induction j with
  | zero =>
    intro inn M i l hT hF ha hs hc hi hj
    refine ⟨M, l, re_27 ?_, hT, hF, hs, by rw [← show inn = 2314 by omega]; exact hc⟩
    rw [if_pos (by rw [Int32.le_iff_toInt_le, o]; omega)]
    exact re_58
  | succ j ih =>
    intro inn M i l hT hF ha hs hc hi hj
    obtain ⟨vs, s2, la, lk2, lb, hM, h5, _, h6, _, hs2, sl, _, _, ha2, al, _⟩ := hT.cp
    cases hs.symm.trans hs2
    cases ha.symm.trans ha2
    have hik := i32_kept (k := k) (i := i) hk hi k2 (by omega)
    obtain ⟨y, y1, y2⟩ := at_c (l := lk) hik (by omega)
    rw [hsl inn (by omega)] at y2
    obtain ⟨z, z1, z2⟩ := at_c (l := l) hi (by omega)
    obtain ⟨p, t1, t2, t3⟩ := hg.2.1 _ _ y2
    have p1 := hT.s_p hs t1 t2 t3
    have e1 : (i + 1).toInt = i.toInt + 1 := i32_p1 (by omega)
    have hcs := hc.step (y := y) (by rw [Nat.zero_add]; exact y2) (by omega)
    rw [Nat.zero_add] at hcs
    obtain ⟨MF, lF, q1, q2⟩ := ih (inn + 1) _ (i + 1) (gPut l inn y) p1 (hF.trans (Frm.row hs sT_635 (by decide))) (by rw [nth_put, if_neg (fun q => absurd q.1 (by decide))]; exact ha) (by rw [nth_put, if_pos ⟨rfl, gNth_lt _ _ _ hs⟩]) hcs (by omega) (by omega)
    refine ⟨MF, lF, re_27 ?_, q2⟩
    rw [if_neg (by rw [Int32.le_iff_toInt_le, o]; omega)]
    refine re_34 hM h5 h6 ha y1 hs z1 ?_
    rw [cl_n hi]
    exact q1
end IM
def kX11_image : CN := (246, 1, [.inr 1900, .inl (.negSucc 2147483647, .ofNat 2147483647)], [], [(28, []), (32, [])], [(11, 0), (1064, 0), (1066, 0)], [(some (.inl (.ofNat 0, .ofNat 0)), [(1, (.negSucc 2147483647, .negSucc 0))], [], [(32, [])], []), (some (.inl (.ofNat 0, .ofNat 0)), [(1, (.ofNat 3, .ofNat 2147483647))], [], [(32, [])], []), (some (.inl (.ofNat 1, .ofNat 1)), [(1, (.ofNat 0, .ofNat 2))], [], [(32, [])], [])])
def kX11_restore : CN := (247, 1, [.inr 1900, .inl (.negSucc 2147483647, .ofNat 2147483647)], [], [(28, []), (32, [])], [(11, 0), (1063, 0)], [(some (.inl (.ofNat 0, .ofNat 1)), [], [], [(28, [])], [])])
set_option maxRecDepth 100000 in
theorem mR_246 : (gNth mRs 246).map (fun q => q.2.2.2.1) = some 3 := by decide +kernel
set_option maxRecDepth 100000 in
theorem mR_247 : (gNth mRs 247).map (fun q => q.2.2.2.1) = some 3 := by decide +kernel
theorem isin_01 (x lo hi : Int32) : (if x < lo then (0 : Int32) else if hi < x then 0 else 1) = 0 ∨ (lo ≤ x ∧ x ≤ hi ∧ (if x < lo then (0 : Int32) else if hi < x then 0 else 1) = 1) := by
  by_cases h1 : x < lo
  · rw [if_pos h1]; exact Or.inl rfl
  · rw [if_neg h1]
    by_cases h2 : hi < x
    · rw [if_pos h2]; exact Or.inl rfl
    · rw [if_neg h2]
      rw [Int32.lt_iff_toInt_lt] at h1 h2
      exact Or.inr ⟨Int32.le_iff_toInt_le.mpr (by omega), Int32.le_iff_toInt_le.mpr (by omega), rfl⟩
theorem kX11_image_ok : cnOK sT sG FL0 kX11_image := by
  intro d M ws q hd hq ha hp hT
  have hm := mR_246
  have hq' : gNth mRs 246 = some q := hq
  rw [hq'] at hm
  have hm : q.2.2.2.1 = 3 := Option.some.inj hm
  obtain ⟨e, rfl⟩ : ∃ e, d = e + 1 := ⟨d - 1, by have : 1 ≤ d := hd; omega⟩
  rcases ws with _ | ⟨a, _ | ⟨b, _ | ⟨b2, r⟩⟩⟩
  · exact ha.elim
  · exact ha.2.elim
  · obtain ⟨k1, ⟨k, rfl, _, _⟩, _⟩ := ha
    have k1 : a = .ref 633 := k1
    subst k1
    obtain ⟨hv, hv0, hfl⟩ := hp
    obtain ⟨y28, z28, h28⟩ := hfl (28, []) (List.mem_cons_self ..)
    obtain ⟨y32, z32, h32⟩ := hfl (32, []) (List.mem_cons_of_mem _ (List.mem_cons_self ..))
    obtain ⟨vs, hM, hlen, hT1⟩ := hT.thr
    obtain ⟨M1, e1⟩ : ∃ M1, M1 = gPut M 633 (.inr (11, gPut vs 0 (.int 0))) := ⟨_, rfl⟩
    rw [← e1] at hT1
    have hF1 : Frm sT [(11, 0), (1064, 0), (1066, 0)] M M1 := by rw [e1]; exact Frm.fld hM (by decide)
    have h28 := dp0_frm 0 28 _ _ _ _ hF1 (by decide) h28
    have h32 := dp0_frm 0 32 _ _ _ _ (show Frm sT [(11, 0)] M M1 by rw [e1]; exact Frm.fld hM (by decide)) (by decide) h32
    obtain ⟨t2, l2, p1, p2⟩ := fl0_28 h28
    obtain ⟨t3, t4, l3, l4, p3, p4, p5⟩ := fl0_32 h32
    obtain ⟨vs2, s, la, lk, lb, hM2, h5, h7, h6, h8, hs, sl, ha2, al, hk2, kl, hb2, bl, bx⟩ := hT1.cp
    have hsl : l2 = s := by cases p1.symm.trans hs; rfl
    subst hsl
    have hsl : l3 = lk := by cases p3.symm.trans hk2; rfl
    subst hsl
    have hsl : l4 = lb := by cases p4.symm.trans hb2; rfl
    subst hsl
    have hg := hT1.good hs p2
    rw [hm]
    rcases isin_01 k 0 2 with hz | ⟨k0, k2, hz⟩
    · have kb := i32_lt k
      have hs9 : k.toInt < 0 ∨ 2 < k.toInt := by
        by_cases h1 : k < 0
        · exact Or.inl (by rw [Int32.lt_iff_toInt_lt] at h1; exact h1)
        · by_cases h2 : 2 < k
          · exact Or.inr (by rw [Int32.lt_iff_toInt_lt] at h2; exact h2)
          · rw [if_neg h1, if_neg h2] at hz
            cases hz
      have hcs : ∀ s ∈ kX11_image.2.2.2.2.2.2, (∀ q ∈ s.2.1, ∃ x : Int32, gNth [Value.ref 633, .int k] q.1 = some (.int x) ∧ q.2.1 ≤ x.toInt ∧ x.toInt ≤ q.2.2) → s.1 = some (.inl (.ofNat 0, .ofNat 0)) → s.2.2.1 = [] → s.2.2.2.1 = [(32, [])] → s.2.2.2.2 = [] → csOK sT FL0 [.ref 633, .int k] (some (.int 0)) M1 s := by
        intro s hs g1 g2 g3 g4 g5
        refine ⟨by rw [g2]; exact ⟨0, rfl, by decide, by decide⟩, g1, [], by rw [g3]; trivial, fun f hf => ?_, fun q hq => (by rw [g5] at hq; cases hq)⟩
        rw [g4] at hf
        cases List.mem_singleton.mp hf
        exact ⟨[], trivial, h32⟩
      rcases hs9 with hs9 | hs9
      · exact ⟨some (.int 0), M1, im_0 hM hlen (by rw [← e1]; exact Ev.call0 (fun n => rfl) ev_isin (im_11 (by rw [if_pos hz]; exact im_14))), hT1, hF1, _, List.mem_cons_self .., hcs _ (List.mem_cons_self ..) (fun q hq => by cases List.mem_singleton.mp hq; exact ⟨k, rfl, by show (-2147483648 : Int) ≤ k.toInt; omega, by show k.toInt ≤ (-1 : Int); omega⟩) rfl rfl rfl rfl, cn_D rfl⟩
      · exact ⟨some (.int 0), M1, im_0 hM hlen (by rw [← e1]; exact Ev.call0 (fun n => rfl) ev_isin (im_11 (by rw [if_pos hz]; exact im_14))), hT1, hF1, _, List.mem_cons_of_mem _ (List.mem_cons_self ..), hcs _ (List.mem_cons_of_mem _ (List.mem_cons_self ..)) (fun q hq => by cases List.mem_singleton.mp hq; exact ⟨k, rfl, by show (3 : Int) ≤ k.toInt; omega, by show k.toInt ≤ (2147483647 : Int); omega⟩) rfl rfl rfl rfl, cn_D rfl⟩
    · rw [Int32.le_iff_toInt_le] at k0 k2
      have o2 : (2 : Int32).toInt = 2 := rfl
      have o0 : (0 : Int32).toInt = 0 := rfl
      obtain ⟨kn, hkn⟩ : ∃ kn : Nat, k.toInt = (kn : Int) := ⟨k.toInt.toNat, by omega⟩
      obtain ⟨M2, lF, q1, q2, q3, q4, q5, q6⟩ := im_loop (M0 := M) (e := e) (s := l2) (l0 := l3) hkn (by omega) 2314 0 M1 0 l3 hT1 hF1 hs hk2 (CpP.zero _ _ _ _) rfl rfl
      obtain ⟨vs3, _, _, lk3, lb3, hM3, _, _, _, h83, _, _, _, _, hk3, _, hb3, bl3, bx3⟩ := q2.cp
      rw [hb2] at q6
      have hsl : lb3 = l4 := by cases hb3.symm.trans q6; rfl
      subst hsl
      obtain ⟨y, y1, y2⟩ := at_c (l := lb3) hkn (by omega)
      have hnar : vp_nar .boolean 1 = 1 := rfl
      have hT3 : TM sT sG (gPut M2 638 (.inl (3, .inl (gPut lb3 kn 1)))) := q2.putrow (n := 3) (lo := 0) (hi := 1) sT_more.2.2.1 (by decide +kernel) (by rw [put_len]; exact bl3) (fun j x hj => by
        rw [nth_put] at hj
        split at hj
        · cases hj; decide
        · exact bx3 j x hj)
      refine ⟨some (.int 1), gPut M2 638 (.inl (3, .inl (gPut lb3 kn 1))), im_0 hM hlen (by rw [← e1]; exact Ev.call0 (fun n => rfl) ev_isin (im_11 (by rw [hz, if_neg (by decide)]; exact im_16 (q1 _ _ (by
        have h := im_49 (e := e) (k := k) (i := 2314) hM3 h83 hb3 y1
        rw [hnar, cl_n hkn] at h
        exact h))))), hT3, q3.trans (Frm.row hb3 sT_more.2.2.1 (by decide)), _, List.mem_cons_of_mem _ (List.mem_cons_of_mem _ (List.mem_cons_self ..)), ⟨⟨1, rfl, by decide, by decide⟩, fun q hq => (by cases List.mem_singleton.mp hq; exact ⟨k, rfl, by show (0 : Int) ≤ k.toInt; omega, by show k.toInt ≤ (2 : Int); omega⟩), [], trivial, fun f hf => ?_, fun q hq => (by cases hq)⟩, cn_D rfl⟩
      cases List.mem_singleton.mp hf
      refine ⟨[], trivial, (show FL0 32 [] _ from ⟨1, 3, lF, gPut lb3 kn 1, by rw [nth_put, if_neg (fun q => absurd q.1 (by decide))]; exact q4, by rw [nth_put, if_pos ⟨rfl, gNth_lt _ _ _ hb3⟩], fun kk b hb hb0 => ?_⟩)⟩
      by_cases hkk : kk = kn
      · subst hkk
        refine ⟨l2, hg, fun i hi => ?_⟩
        rw [q5.2, if_pos (by omega)]
        congr 1
        omega
      · rw [nth_put, if_neg (fun q => hkk q.1)] at hb
        obtain ⟨l9, g9, s9⟩ := p5 kk b hb hb0
        refine ⟨l9, g9, fun i hi => ?_⟩
        rw [q5.2, if_neg (by omega)]
        exact s9 i hi
  · exact ha.2.2.elim
theorem kX11_restore_ok : cnOK sT sG FL0 kX11_restore := by
  intro d M ws q hd hq ha hp hT
  have hm := mR_247
  have hq' : gNth mRs 247 = some q := hq
  rw [hq'] at hm
  have hm : q.2.2.2.1 = 3 := Option.some.inj hm
  obtain ⟨e, rfl⟩ : ∃ e, d = e + 1 := ⟨d - 1, by have : 1 ≤ d := hd; omega⟩
  rcases ws with _ | ⟨a, _ | ⟨b, _ | ⟨b2, r⟩⟩⟩
  · exact ha.elim
  · exact ha.2.elim
  · obtain ⟨k1, ⟨k, rfl, _, _⟩, _⟩ := ha
    have k1 : a = .ref 633 := k1
    subst k1
    obtain ⟨hv, hv0, hfl⟩ := hp
    obtain ⟨y28, z28, h28⟩ := hfl (28, []) (List.mem_cons_self ..)
    obtain ⟨y32, z32, h32⟩ := hfl (32, []) (List.mem_cons_of_mem _ (List.mem_cons_self ..))
    obtain ⟨vs, hM, hlen, hT1⟩ := hT.thr
    obtain ⟨M1, e1⟩ : ∃ M1, M1 = gPut M 633 (.inr (11, gPut vs 0 (.int 0))) := ⟨_, rfl⟩
    rw [← e1] at hT1
    have hF1 : Frm sT [(11, 0), (1063, 0)] M M1 := by rw [e1]; exact Frm.fld hM (by decide)
    have hF0 : Frm sT [(11, 0)] M M1 := by rw [e1]; exact Frm.fld hM (by decide)
    have h28 := dp0_frm 0 28 _ _ _ _ hF0 (by decide) h28
    have h32 := dp0_frm 0 32 _ _ _ _ hF0 (by decide) h32
    obtain ⟨t2, l2, p1, p2⟩ := fl0_28 h28
    obtain ⟨t3, t4, l3, l4, p3, p4, p5⟩ := fl0_32 h32
    obtain ⟨vs2, s, la, lk, lb, hM2, h5, h7, h6, h8, hs, sl, ha2, al, hk2, kl, hb2, bl, bx⟩ := hT1.cp
    have hsl : l3 = lk := by cases p3.symm.trans hk2; rfl
    subst hsl
    have hsl : l4 = lb := by cases p4.symm.trans hb2; rfl
    subst hsl
    rw [hm]
    have none_ : (∀ v M', Ev none (e + 1) 247 23 [some (.ref 633), some (.int k), none] [] M1 v M' 0 0 → Ev none (e + 1) 247 0 (gPad 3 (gArgs [.ref 633, .int k])) [] M v M' 0 0) → ∃ v M', Ev none (e + 1) kX11_restore.1 0 (gPad 3 (gArgs [.ref 633, .int k])) [] M v M' 0 0 ∧ TM sT sG M' ∧ Frm sT kX11_restore.2.2.2.2.2.1 M M' ∧ ∃ s ∈ kX11_restore.2.2.2.2.2.2, csOK sT FL0 [.ref 633, .int k] v M' s ∧ dlOK kX11_restore.1 M M' := by
      intro h
      refine ⟨some (.int 0), M1, h _ _ re_23, hT1, hF1, _, List.mem_cons_self .., ⟨⟨0, rfl, by decide, by decide⟩, fun q hq => (by cases hq), [], trivial, fun f hf => ?_, fun q hq => (by cases hq)⟩, cn_D rfl⟩
      cases List.mem_singleton.mp hf
      exact ⟨[], trivial, h28⟩
    rcases isin_01 k 0 2 with hz | ⟨k0, k2, hz⟩
    · exact none_ (fun v M' h => re_0 hM hlen (by rw [← e1]; exact Ev.call0 (fun n => rfl) ev_isin (re_11 (by rw [if_pos hz]; exact h))))
    · rw [Int32.le_iff_toInt_le] at k0 k2
      have o2 : (2 : Int32).toInt = 2 := rfl
      have o0 : (0 : Int32).toInt = 0 := rfl
      obtain ⟨kn, hkn⟩ : ∃ kn : Nat, k.toInt = (kn : Int) := ⟨k.toInt.toNat, by omega⟩
      obtain ⟨y, y1, y2⟩ := at_c (l := l4) hkn (by omega)
      by_cases hy : y = 0
      · exact none_ (fun v M' h => re_0 hM hlen (by rw [← e1]; exact Ev.call0 (fun n => rfl) ev_isin (re_11 (by rw [hz, if_neg (by decide)]; exact re_14 hM2 h8 hb2 y1 (by rw [if_pos hy]; exact h)))))
      · obtain ⟨l9, g9, s9⟩ := p5 kn y y2 hy
        obtain ⟨MF, lF, q1, q2, q3, q4, q5⟩ := re_loop (M0 := M) (e := e) (l0 := s) g9 hkn (by omega) s9 kl 2314 0 M1 0 s hT1 hF1 hk2 hs (CpP.zero _ _ _ _) rfl rfl
        have hlF := q5.all sl g9.1
        subst hlF
        refine ⟨some (.int 1), MF, re_0 hM hlen (by rw [← e1]; exact Ev.call0 (fun n => rfl) ev_isin (re_11 (by rw [hz, if_neg (by decide)]; exact re_14 hM2 h8 hb2 y1 (by rw [if_neg hy]; exact re_25 q1)))), q2, q3, _, List.mem_cons_self .., ⟨⟨1, rfl, by decide, by decide⟩, fun q hq => (by cases hq), [], trivial, fun f hf => ?_, fun q hq => (by cases hq)⟩, cn_D rfl⟩
        cases List.mem_singleton.mp hf
        exact ⟨[], trivial, (show FL0 28 [] MF from ⟨1, _, q4, g9.2.2⟩)⟩
  · exact ha.2.2.elim
