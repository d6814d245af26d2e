/-! THE IMAGES, exactly: which are kept; restored or not -/
def imA (x : Int32) : Int32 := if 0 ≤ x.toInt ∧ x.toInt ≤ 2 then 1 else 0
noncomputable def imK (l : List Int32) (x : Int32) : List Int32 := if 0 ≤ x.toInt ∧ x.toInt ≤ 2 then gPut l x.toInt.toNat 1 else l
noncomputable def reA (l : List Int32) (x : Int32) : Int32 := if (0 ≤ x.toInt ∧ x.toInt ≤ 2) ∧ (gNth l x.toInt.toNat).getD 0 ≠ 0 then 1 else 0
theorem isin_no {k : Int32} (h : ¬ (0 ≤ k.toInt ∧ k.toInt ≤ 2)) : (if k < 0 then (0 : Int32) else if 2 < k then 0 else 1) = 0 := by
  have o2 : (2 : Int32).toInt = 2 := rfl
  have o0 : (0 : Int32).toInt = 0 := rfl
  by_cases h1 : k < 0
  · rw [if_pos h1]
  · rw [if_neg h1]
    by_cases h2 : 2 < k
    · rw [if_pos h2]
    · rw [Int32.lt_iff_toInt_lt] at h1 h2
      exact absurd ⟨by omega, by omega⟩ h
theorem isin_ye {k : Int32} (h : 0 ≤ k.toInt ∧ k.toInt ≤ 2) : (if k < 0 then (0 : Int32) else if 2 < k then 0 else 1) = 1 := by
  have o2 : (2 : Int32).toInt = 2 := rfl
  have o0 : (0 : Int32).toInt = 0 := rfl
  rw [if_neg (by rw [Int32.lt_iff_toInt_lt]; omega), if_neg (by rw [Int32.lt_iff_toInt_lt]; omega)]
theorem ev_imageR {e : Nat} {M : Mem} {l : List Int32} {k : Int32} (hV : INV M) (hk : KR l M) : ∃ M', Ev none (e + 1) 246 0 [some (.ref 633), some (.int k), none] [] M (some (.int (imA k))) M' 0 0 ∧ INV M' ∧ Frm sT [(11, 0), (1064, 0), (1066, 0)] M M' ∧ KR (imK l k) M' := by
  obtain ⟨hT, hf⟩ := hV
  have h24 := hf 24 (Or.inl rfl)
  have h28 := hf 28 (Or.inr (Or.inl rfl))
  have h32 := hf 32 (Or.inr (Or.inr (Or.inl rfl)))
  have h34 := hf 34 (Or.inr (Or.inr (Or.inr rfl)))
  obtain ⟨vs, hM, hlen, hT1⟩ := hT.thr
  obtain ⟨M1, e1⟩ : ∃ M1, M1 = gPut M 633 (.inr (11, gPut vs 0 (.int 0))) := ⟨_, rfl⟩
  rw [← e1] at hT1
  have hF0 : Frm sT [(11, 0)] M M1 := by rw [e1]; exact Frm.fld hM (by decide)
  have hF1 : Frm sT [(11, 0), (1064, 0), (1066, 0)] M M1 := by rw [e1]; exact Frm.fld hM (by decide)
  have g28 := dp0_frm 0 28 _ _ _ _ hF0 (by decide) h28
  have g32 := dp0_frm 0 32 _ _ _ _ hF0 (by decide) h32
  have kM1 := hk.frm hF0 (by decide)
  obtain ⟨t2, l2, p1, p2⟩ := fl0_28 g28
  obtain ⟨t3, t4, l3, l4, p3, p4, p5⟩ := fl0_32 g32
  obtain ⟨vs2, s, la, lk, lb, hM2, h5, h7, h6, h8, hs, sl, ha2, al, hk2, kl, hb2, bl, bx⟩ := hT1.cp
  have hsl : l2 = s := by cases p1.symm.trans hs; rfl
  subst hsl
  have hsl : l3 = lk := by cases p3.symm.trans hk2; rfl
  subst hsl
  have hsl : l4 = lb := by cases p4.symm.trans hb2; rfl
  subst hsl
  have hsl : l = l4 := by cases kM1.symm.trans hb2; rfl
  subst hsl
  have hg := hT1.good hs p2
  unfold imA imK
  by_cases hx : 0 ≤ k.toInt ∧ k.toInt ≤ 2
  rotate_left
  · rw [if_neg hx, if_neg hx]
    have hV1 : INV M1 := INV.mv ⟨hT, hf⟩ hT1 hF0 (by decide) (by decide) (by decide) (by decide)
    exact ⟨M1, im_0 hM hlen (by rw [← e1]; exact Ev.call0 (fun n => rfl) ev_isin (im_11 (by rw [if_pos (isin_no hx)]; exact im_14))), hV1, hF1, kM1⟩
  · rw [if_pos hx, if_pos hx]
    have hz := isin_ye hx
    obtain ⟨k0, k2⟩ := hx
    have o2 : (2 : Int32).toInt = 2 := rfl
    have o0 : (0 : Int32).toInt = 0 := rfl
    obtain ⟨kn, hkn⟩ : ∃ kn : Nat, k.toInt = (kn : Int) := ⟨k.toInt.toNat, by omega⟩
    have hkt : k.toInt.toNat = kn := by omega
    rw [hkt]
    obtain ⟨M2, lF, q1, q2, q3, q4, q5, q6⟩ := im_loop (M0 := M) (e := e) (s := l2) (l0 := l3) hkn (by omega) 2314 0 M1 0 l3 hT1 hF1 hs hk2 (CpP.zero _ _ _ _) rfl rfl
    obtain ⟨vs3, _, _, lk3, lb3, hM3, _, _, _, h83, _, _, _, _, hk3, _, hb3, bl3, bx3⟩ := q2.cp
    rw [hb2] at q6
    have hsl : lb3 = l := by cases hb3.symm.trans q6; rfl
    subst hsl
    obtain ⟨y, y1, y2⟩ := at_c (l := lb3) hkn (by omega)
    have hnar : vp_nar .boolean 1 = 1 := rfl
    have hT3 : TM sT sG (gPut M2 638 (.inl (3, .inl (gPut lb3 kn 1)))) := q2.putrow (n := 3) (lo := 0) (hi := 1) sT_more.2.2.1 (by decide +kernel) (by rw [put_len]; exact bl3) (fun j x hj => by
      rw [nth_put] at hj
      split at hj
      · cases hj; decide
      · exact bx3 j x hj)
    have hF3 : Frm sT [(11, 0), (1064, 0), (1066, 0)] M (gPut M2 638 (.inl (3, .inl (gPut lb3 kn 1)))) := q3.trans (Frm.row hb3 sT_more.2.2.1 (by decide))
    refine ⟨gPut M2 638 (.inl (3, .inl (gPut lb3 kn 1))), im_0 hM hlen (by rw [← e1]; exact Ev.call0 (fun n => rfl) ev_isin (im_11 (by rw [hz, if_neg (by decide)]; exact im_16 (q1 _ _ (by
      have h := im_49 (e := e) (k := k) (i := 2314) hM3 h83 hb3 y1
      rw [hnar, cl_n hkn] at h
      exact h))))), ⟨hT3, fun x hx => ?_⟩, hF3, (show gNth _ 638 = _ by rw [nth_put, if_pos ⟨rfl, gNth_lt _ _ _ hb3⟩])⟩
    rcases hx with rfl | rfl | rfl | rfl
    · exact dp0_frm 0 24 _ _ _ _ hF3 (by decide) h24
    · exact dp0_frm 0 28 _ _ _ _ hF3 (by decide) h28
    · refine (show FL0 32 [] _ from ⟨1, 3, lF, gPut lb3 kn 1, by rw [nth_put, if_neg (fun q => absurd q.1 (by decide))]; exact q4, by rw [nth_put, if_pos ⟨rfl, gNth_lt _ _ _ hb3⟩], fun kk b hb hb0 => ?_⟩)
      by_cases hkk : kk = kn
      · subst hkk
        refine ⟨l2, hg, fun i hi => ?_⟩
        rw [q5.2, if_pos (by omega)]
        congr 1
        omega
      · rw [nth_put, if_neg (fun q => hkk q.1)] at hb
        obtain ⟨l9, g9, s9⟩ := p5 kk b hb hb0
        refine ⟨l9, g9, fun i hi => ?_⟩
        rw [q5.2, if_neg (by omega)]
        exact s9 i hi
    · exact dp0_frm 0 34 _ _ _ _ hF3 (by decide) h34
theorem ev_restoreR {e : Nat} {M : Mem} {l : List Int32} {k : Int32} (hV : INV M) (hk : KR l M) : ∃ M', Ev none (e + 1) 247 0 [some (.ref 633), some (.int k), none] [] M (some (.int (reA l k))) M' 0 0 ∧ INV M' ∧ Frm sT [(11, 0), (1063, 0)] M M' := by
  obtain ⟨hT, hf⟩ := hV
  have h24 := hf 24 (Or.inl rfl)
  have h28 := hf 28 (Or.inr (Or.inl rfl))
  have h32 := hf 32 (Or.inr (Or.inr (Or.inl rfl)))
  have h34 := hf 34 (Or.inr (Or.inr (Or.inr rfl)))
  obtain ⟨vs, hM, hlen, hT1⟩ := hT.thr
  obtain ⟨M1, e1⟩ : ∃ M1, M1 = gPut M 633 (.inr (11, gPut vs 0 (.int 0))) := ⟨_, rfl⟩
  rw [← e1] at hT1
  have hF1 : Frm sT [(11, 0), (1063, 0)] M M1 := by rw [e1]; exact Frm.fld hM (by decide)
  have hF0 : Frm sT [(11, 0)] M M1 := by rw [e1]; exact Frm.fld hM (by decide)
  have hV1 : INV M1 := INV.mv ⟨hT, hf⟩ hT1 hF0 (by decide) (by decide) (by decide) (by decide)
  have g32 := dp0_frm 0 32 _ _ _ _ hF0 (by decide) h32
  have kM1 := hk.frm hF0 (by decide)
  obtain ⟨t3, t4, l3, l4, p3, p4, p5⟩ := fl0_32 g32
  obtain ⟨vs2, s, la, lk, lb, hM2, h5, h7, h6, h8, hs, sl, ha2, al, hk2, kl, hb2, bl, bx⟩ := hT1.cp
  have hsl : l3 = lk := by cases p3.symm.trans hk2; rfl
  subst hsl
  have hsl : l4 = lb := by cases p4.symm.trans hb2; rfl
  subst hsl
  have hsl : l = l4 := by cases kM1.symm.trans hb2; rfl
  subst hsl
  unfold reA
  by_cases hx : 0 ≤ k.toInt ∧ k.toInt ≤ 2
  rotate_left
  · rw [if_neg (fun q => hx q.1)]
    exact ⟨M1, re_0 hM hlen (by rw [← e1]; exact Ev.call0 (fun n => rfl) ev_isin (re_11 (by rw [if_pos (isin_no hx)]; exact re_23))), hV1, hF1⟩
  · have hz := isin_ye hx
    obtain ⟨kn, hkn⟩ : ∃ kn : Nat, k.toInt = (kn : Int) := ⟨k.toInt.toNat, by omega⟩
    have hkt : k.toInt.toNat = kn := by omega
    obtain ⟨y, y1, y2⟩ := at_c (l := l) hkn (by omega)
    rw [hkt, y2]
    by_cases hy : y = 0
    · rw [if_neg (fun q => q.2 hy)]
      exact ⟨M1, re_0 hM hlen (by rw [← e1]; exact Ev.call0 (fun n => rfl) ev_isin (re_11 (by rw [hz, if_neg (by decide)]; exact re_14 hM2 h8 hb2 y1 (by rw [if_pos hy]; exact re_23)))), hV1, hF1⟩
    · rw [if_pos ⟨hx, hy⟩]
      obtain ⟨l9, g9, s9⟩ := p5 kn y y2 hy
      obtain ⟨MF, lF, q1, q2, q3, q4, q5⟩ := re_loop (M0 := M) (e := e) (l0 := s) g9 hkn (by omega) s9 kl 2314 0 M1 0 s hT1 hF1 hk2 hs (CpP.zero _ _ _ _) rfl rfl
      have hlF := q5.all sl g9.1
      subst hlF
      refine ⟨MF, re_0 hM hlen (by rw [← e1]; exact Ev.call0 (fun n => rfl) ev_isin (re_11 (by rw [hz, if_neg (by decide)]; exact re_14 hM2 h8 hb2 y1 (by rw [if_neg hy]; exact re_25 q1)))), ⟨q2, fun x hx => ?_⟩, q3⟩
      rcases hx with rfl | rfl | rfl | rfl
      · exact dp0_frm 0 24 _ _ _ _ q3 (by decide) h24
      · exact (show FL0 28 [] MF from ⟨1, _, q4, g9.2.2⟩)
      · exact dp0_frm 0 32 _ _ _ _ q3 (by decide) h32
      · exact dp0_frm 0 34 _ _ _ _ q3 (by decide) h34
set_option maxRecDepth 100000 in
theorem kp_f : fdB 0 10 7 56 = true ∧ rrB 56 4 3 8 = true ∧ fiB 8 1 0 4 16 = true := by refine ⟨?_, ?_, ?_⟩ <;> decide +kernel
set_option maxRecDepth 100000 in
theorem mR_13 : (gNth mRs kX1_copy.1).map (fun q => q.2.2.2.1) = some 3 := by decide +kernel
theorem cal_cy {M : Mem} {vs : List Value} {a b : Nat} {rest : List Value} (hM : gNth M a = some (.inr (1, vs))) (hr : gRoom rest = true) : gCal (.invokevirtual 390) 10 (.ref b :: .ref a :: rest) M = some (.inr (13, [some (.ref a), some (.ref b), none], rest)) := by
  show @cond (Option ((List Value × Mem) ⊕ (Nat × Lo × List Value))) (true && gRecv M (.ref a) 1 && gRoom rest && true) (some (.inr (13, [some (.ref a), some (.ref b), none], rest))) none = _
  rw [recv_c hM, hr]
  rfl
def mdIC : Md := kX1_copy.2.2.2.2.2.1 ++ [(1057, 0)]
/-- a land copied to another -/
theorem ev_copyL {e : Nat} {M : Mem} {a b : Nat} (hV : INV M) (ha : gNth sT a = some 8) (hb : gNth sT b = some 8) : ∃ va M', gNth M a = some (.inr (1, va)) ∧ Ev none (e + 1) 13 0 [some (.ref a), some (.ref b), none] [] M none M' 0 0 ∧ INV M' ∧ Frm sT kX1_copy.2.2.2.2.2.1 M M' := by
  obtain ⟨va, _, h1, _⟩ := hV.1.fnum ha kp_f.2.2
  obtain ⟨v, M', h2, h3, h4, s, hs, hr, _⟩ := inv_f (d := e + 1) (ws := [.ref a, .ref b]) kX1_copy_ok (by decide +kernel) mR_13 (Nat.le_add_left 1 e) (Two.mk ⟨a, rfl, ha⟩ (Two.mk ⟨b, rfl, hb⟩ trivial)) hV
  cases List.mem_singleton.mp hs
  have hv : v = none := by
    cases v with
    | none => rfl
    | some w => exact hr.elim
  subst hv
  exact ⟨va, M', h1, h2, h3, h4⟩
theorem ev_imageC {e : Nat} {M : Mem} {l : List Int32} {x : Int32} (hV : INV M) (hk : KC l M) : ∃ M', Ev none (e + 2) 123 0 [some (.ref 0), some (.int x)] [] M (some (.int (imA x))) M' 0 0 ∧ INV M' ∧ Frm sT mdIC M M' ∧ KC (imK l x) M' := by
  have o2 : (2 : Int32).toInt = 2 := rfl
  have o0 : (0 : Int32).toInt = 0 := rfl
  unfold imA imK
  by_cases hx : 0 ≤ x.toInt ∧ x.toInt ≤ 2
  rotate_left
  · rw [if_neg hx, if_neg hx]
    have hw : Ev none (e + 1) 126 0 [some (.int x), some (.int 0), some (.int 2)] [] M (some (.int 0)) M 0 0 := by
      by_cases h1 : x < 0
      · exact within_lo h1
      · refine within_hi h1 ?_
        rw [Int32.lt_iff_toInt_lt] at h1 ⊢
        omega
    exact ⟨M, mc_0 (Ev.call0 (fun n => rfl) hw (mc_6 (by rw [if_pos rfl]; exact mc_9))), hV, Frm.refl _, hk⟩
  · rw [if_pos hx, if_pos hx]
    have hw : Ev none (e + 1) 126 0 [some (.int x), some (.int 0), some (.int 2)] [] M (some (.int 1)) M 0 0 := within_in (by rw [Int32.lt_iff_toInt_lt]; omega) (by rw [Int32.lt_iff_toInt_lt]; omega)
    obtain ⟨kn, hkn⟩ : ∃ kn : Nat, x.toInt = (kn : Int) := ⟨x.toInt.toNat, by omega⟩
    have hkt : x.toInt.toNat = kn := by omega
    rw [hkt]
    obtain ⟨vp, b7, u1, u2, u3⟩ := hV.1.fref sT_00 kp_f.1
    obtain ⟨la, v1, v2, v3, _⟩ := hV.1.rref u3 kp_f.2.1
    obtain ⟨vp', b6, w1, w2, w3⟩ := hV.1.fref sT_00 cl_land
    cases u1.symm.trans w1
    obtain ⟨o, o3, o4⟩ := at_c (l := la) hkn (by omega)
    obtain ⟨a4, rfl, s4⟩ := v3 _ _ o4
    obtain ⟨va, M1, hA, hE, hV1, hF1⟩ := ev_copyL (e := e) hV s4 w3
    obtain ⟨vp1, b8, t1, t2, t3⟩ := hV1.1.fref sT_00 tp_k.1
    have h340 := sU_ok b8 57 340 t3 tp_u.2.2
    subst h340
    have kM1 := hk.frm hF1 (by decide)
    obtain ⟨l', m1, m2, m3⟩ := hV1.1.mrow t3 tp_k.2
    have hsl : l' = l := by cases m1.symm.trans kM1; rfl
    subst hsl
    obtain ⟨y, y1, _⟩ := at_c (l := l') hkn (by omega)
    have hnar : vp_nar .boolean 1 = 1 := rfl
    have hT3 : TM sT sG (gPut M1 340 (.inl (3, .inl (gPut l' kn 1)))) := hV1.1.putrow (n := 3) (lo := 0) (hi := 1) t3 (by decide +kernel) (by rw [put_len]; exact m2) (fun j w hj => by
      rw [nth_put] at hj
      split at hj
      · cases hj; decide
      · exact m3 j w hj)
    have hF3 : Frm sT [(1057, 0)] M1 (gPut M1 340 (.inl (3, .inl (gPut l' kn 1)))) := Frm.row m1 t3 (by decide)
    have h24 := mc_24 (e := e + 2) (x := x) t1 t2 m1 y1
    rw [hnar, cl_n hkn] at h24
    exact ⟨_, mc_0 (Ev.call0 (fun n => rfl) hw (mc_6 (by rw [if_neg (by decide)]; exact mc_11 u1 u2 v1 o3 w2 (Ev.call0 (fun n => gs_7 rfl rfl (cal_cy hA rfl)) hE h24)))), hV1.mv hT3 hF3 (by decide) (by decide) (by decide) (by decide), (hF1.more (md' := mdIC) (fun q hq => List.mem_append_left _ hq)).trans (hF3.more (md' := mdIC) (fun q hq => List.mem_append_right _ hq)), (show gNth _ 340 = _ by rw [nth_put, if_pos ⟨rfl, gNth_lt _ _ _ m1⟩])⟩
theorem ev_restoreC {e : Nat} {M : Mem} {l : List Int32} {x : Int32} (hV : INV M) (hk : KC l M) : ∃ M', Ev none (e + 2) 124 0 [some (.ref 0), some (.int x)] [] M (some (.int (reA l x))) M' 0 0 ∧ INV M' ∧ Frm sT kX1_copy.2.2.2.2.2.1 M M' := by
  have o2 : (2 : Int32).toInt = 2 := rfl
  have o0 : (0 : Int32).toInt = 0 := rfl
  unfold reA
  by_cases hx : 0 ≤ x.toInt ∧ x.toInt ≤ 2
  rotate_left
  · rw [if_neg (fun q => hx q.1)]
    have hw : Ev none (e + 1) 126 0 [some (.int x), some (.int 0), some (.int 2)] [] M (some (.int 0)) M 0 0 := by
      by_cases h1 : x < 0
      · exact within_lo h1
      · refine within_hi h1 ?_
        rw [Int32.lt_iff_toInt_lt] at h1 ⊢
        omega
    exact ⟨M, rc_0 (Ev.call0 (fun n => rfl) hw (rc_6 (by rw [if_pos rfl]; exact rc_18))), hV, Frm.refl _⟩
  · have hw : Ev none (e + 1) 126 0 [some (.int x), some (.int 0), some (.int 2)] [] M (some (.int 1)) M 0 0 := within_in (by rw [Int32.lt_iff_toInt_lt]; omega) (by rw [Int32.lt_iff_toInt_lt]; omega)
    obtain ⟨kn, hkn⟩ : ∃ kn : Nat, x.toInt = (kn : Int) := ⟨x.toInt.toNat, by omega⟩
    have hkt : x.toInt.toNat = kn := by omega
    rw [hkt]
    obtain ⟨vp1, b8, t1, t2, t3⟩ := hV.1.fref sT_00 tp_k.1
    have h340 := sU_ok b8 57 340 t3 tp_u.2.2
    subst h340
    obtain ⟨l', m1, m2, m3⟩ := hV.1.mrow t3 tp_k.2
    have hsl : l' = l := by cases m1.symm.trans hk; rfl
    subst hsl
    obtain ⟨y, y1, y2⟩ := at_c (l := l') hkn (by omega)
    rw [y2]
    by_cases hy : y = 0
    · rw [if_neg (fun q => q.2 hy)]
      exact ⟨M, rc_0 (Ev.call0 (fun n => rfl) hw (rc_6 (by rw [if_neg (by decide)]; exact rc_9 t1 t2 m1 y1 (by rw [if_pos hy]; exact rc_18)))), hV, Frm.refl _⟩
    · rw [if_pos ⟨hx, hy⟩]
      obtain ⟨vp, b7, u1, u2, u3⟩ := hV.1.fref sT_00 kp_f.1
      obtain ⟨la, v1, v2, v3, _⟩ := hV.1.rref u3 kp_f.2.1
      obtain ⟨vp', b6, w1, w2, w3⟩ := hV.1.fref sT_00 cl_land
      cases u1.symm.trans w1
      obtain ⟨o, o3, o4⟩ := at_c (l := la) hkn (by omega)
      obtain ⟨a4, rfl, s4⟩ := v3 _ _ o4
      obtain ⟨va, M1, hA, hE, hV1, hF1⟩ := ev_copyL (e := e) hV w3 s4
      exact ⟨M1, rc_0 (Ev.call0 (fun n => rfl) hw (rc_6 (by rw [if_neg (by decide)]; exact rc_9 t1 t2 m1 y1 (by rw [if_neg hy]; exact rc_20 u1 w2 u2 v1 o3 (Ev.call0 (fun n => gs_7 rfl rfl (cal_cy hA rfl)) hE rc_33))))), hV1, hF1⟩
