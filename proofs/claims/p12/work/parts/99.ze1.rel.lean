/-! BOTH SIDES BESIDE EACH OTHER: what a pair of calls keeps -/
def SV (M : Mem) : Prop := INV M ∧ ∃ z l, LC z M ∧ LR z M ∧ KC l M ∧ KR l M
noncomputable def zeB (a ci f : Nat) (c : CN) : Bool := c.2.2.2.2.2.2.all (fun s => match s.2.2.1 with
  | [(.inl b, cj, g, .inl (lo, hi))] => Nat.beq b a && (Nat.beq cj ci && (Nat.beq g f && (decide (lo = 0) && decide (hi = 0))))
  | _ => false)
theorem zeB_V {a ci f : Nat} {c : CN} {ws : List Value} {v : Option Value} {M : Mem} (h : zeB a ci f c = true) (hs : ∃ s ∈ c.2.2.2.2.2.2, csOK sT FL0 ws v M s) : ∃ vs, gNth M a = some (.inr (ci, vs)) ∧ gNth vs f = some (.int 0) := by
  obtain ⟨s, hs, _, _, hv, h1, _⟩ := hs
  have h2 := List.all_eq_true.mp h s hs
  split at h2
  rotate_left
  · cases h2
  rename_i b cj g lo hi e
  obtain ⟨h3, h2⟩ := and_t h2
  obtain ⟨h4, h2⟩ := and_t h2
  obtain ⟨h5, h2⟩ := and_t h2
  obtain ⟨h6, h7⟩ := and_t h2
  cases Nat.eq_of_beq_eq_true h3
  cases Nat.eq_of_beq_eq_true h4
  cases Nat.eq_of_beq_eq_true h5
  cases of_decide_eq_true h6
  cases of_decide_eq_true h7
  rw [e] at h1
  cases hv with
  | nil => exact h1.elim
  | cons w hv =>
    obtain ⟨⟨a', vs, k1, k2, k3, x, rfl, x1, x2⟩, _⟩ := h1
    have k1 : a' = a := k1
    subst k1
    have x3 : x = 0 := Int32.toInt_inj.mp (by
      have x1 : (0 : Int) ≤ x.toInt := x1
      have x2 : x.toInt ≤ (0 : Int) := x2
      have o : (0 : Int32).toInt = 0 := rfl
      omega)
    subst x3
    exact ⟨vs, k2, k3⟩
noncomputable def relC (zz : Bool) (c : CN) : Bool := (bif zz then zeB 1 5 1 c else !mdIn c.2.2.2.2.2.1 5 1) && (!mdIn c.2.2.2.2.2.1 11 2 && (!mdIn c.2.2.2.2.2.1 1057 0 && !mdIn c.2.2.2.2.2.1 1066 0))
noncomputable def relR (zz : Bool) (c : CN) : Bool := (bif zz then zeB 633 11 2 c else !mdIn c.2.2.2.2.2.1 11 2) && (!mdIn c.2.2.2.2.2.1 5 1 && (!mdIn c.2.2.2.2.2.1 1057 0 && !mdIn c.2.2.2.2.2.1 1066 0))
theorem md_no {md : Md} {c k : Nat} (h : (!mdIn md c k) = true) : (c, k) ∉ md := fun q => by
  rw [mdIn_iff.mpr q] at h
  cases h
theorem inv_f {c : CN} {k d : Nat} {M : Mem} {ws : List Value} (hc : cnOK sT sG FL0 c) (hB : invC c = true) (hm : (gNth mRs c.1).map (fun q => q.2.2.2.1) = some k) (hd : c.2.1 ≤ d) (ha : Two (taOK sT) c.2.2.1 ws) (hI : INV M) : ∃ v M', Ev none d c.1 0 (gPad k (gArgs ws)) [] M v M' 0 0 ∧ INV M' ∧ Frm sT c.2.2.2.2.2.1 M M' ∧ ∃ s ∈ c.2.2.2.2.2.2, csOK sT FL0 ws v M' s := by
  obtain ⟨b1, b2⟩ := and_t hB
  obtain ⟨b2, b3⟩ := and_t b2
  obtain ⟨hT, hf4⟩ := hI
  cases hq : gNth mRs c.1 with
  | none => rw [hq] at hm; cases hm
  | some q =>
    rw [hq] at hm
    have hm : q.2.2.2.1 = k := Option.some.inj hm
    have h3 : c.2.2.2.1 = [] := List.isEmpty_iff.mp b1
    obtain ⟨v, M', e1, e2, e3, s, e4, e5, _⟩ := hc d M ws q hd hq ha ⟨[], by rw [h3]; trivial, fun f hf => by
      obtain ⟨g1, g2⟩ := and_t (List.all_eq_true.mp b2 f hf)
      obtain ⟨fx, ps⟩ := f
      have g1 : ps = [] := List.isEmpty_iff.mp g1
      subst g1
      exact ⟨[], trivial, hf4 fx (fb4_V g2)⟩⟩ hT
    rw [hm] at e1
    have b4 := fun x hx => List.all_eq_true.mp b3 x hx
    refine ⟨v, M', e1, ⟨e2, fun x hx => ?_⟩, e3, s, e4, e5⟩
    have h9 := hf4 x hx
    rcases hx with rfl | rfl | rfl | rfl
    · exact inv_fl (b4 24 (by decide)) e3 e4 e5 h9
    · exact inv_fl (b4 28 (by decide)) e3 e4 e5 h9
    · exact inv_fl (b4 32 (by decide)) e3 e4 e5 h9
    · exact inv_fl (b4 34 (by decide)) e3 e4 e5 h9
theorem rel_c {cn : CN} {k : Nat} {z w : Int32} {M : Mem} {ws : List Value} {l : List Int32} (zz : Bool) (hok : cnOK sT sG FL0 cn) (hB : (invC cn && relC zz cn) = true) (hm : (gNth mRs cn.1).map (fun q => q.2.2.2.1) = some k) (hd : cn.2.1 ≤ 999) (ha : Two (taOK sT) cn.2.2.1 ws) (hV : INV M) (hC : LC z M) (hR : LR w M) (hK : KC l M) (hL : KR l M) : ∃ v M', Ev none 999 cn.1 0 (gPad k (gArgs ws)) [] M v M' 0 0 ∧ (∃ s ∈ cn.2.2.2.2.2.2, csOK sT FL0 ws v M' s) ∧ INV M' ∧ LC (bif zz then 0 else z) M' ∧ LR w M' ∧ KC l M' ∧ KR l M' := by
  obtain ⟨hB, hr⟩ := and_t hB
  obtain ⟨r1, r2⟩ := and_t hr
  obtain ⟨r2, r3⟩ := and_t r2
  obtain ⟨r3, r4⟩ := and_t r3
  obtain ⟨v, M', h1, h2, h3, h4⟩ := inv_f hok hB hm hd ha hV
  refine ⟨v, M', h1, h4, h2, ?_, hR.frm h3 (md_no r2), hK.frm h3 (md_no r3), hL.frm h3 (md_no r4)⟩
  cases zz with
  | true => exact zeB_V r1 h4
  | false => exact hC.frm h3 (md_no r1)
theorem rel_r {cn : CN} {k : Nat} {z w : Int32} {M : Mem} {ws : List Value} {l : List Int32} (zz : Bool) (hok : cnOK sT sG FL0 cn) (hB : (invC cn && relR zz cn) = true) (hm : (gNth mRs cn.1).map (fun q => q.2.2.2.1) = some k) (hd : cn.2.1 ≤ 999) (ha : Two (taOK sT) cn.2.2.1 ws) (hV : INV M) (hC : LC z M) (hR : LR w M) (hK : KC l M) (hL : KR l M) : ∃ v M', Ev none 999 cn.1 0 (gPad k (gArgs ws)) [] M v M' 0 0 ∧ (∃ s ∈ cn.2.2.2.2.2.2, csOK sT FL0 ws v M' s) ∧ INV M' ∧ LC z M' ∧ LR (bif zz then 0 else w) M' ∧ KC l M' ∧ KR l M' := by
  obtain ⟨hB, hr⟩ := and_t hB
  obtain ⟨r1, r2⟩ := and_t hr
  obtain ⟨r2, r3⟩ := and_t r2
  obtain ⟨r3, r4⟩ := and_t r3
  obtain ⟨v, M', h1, h2, h3, h4⟩ := inv_f hok hB hm hd ha hV
  refine ⟨v, M', h1, h4, h2, hC.frm h3 (md_no r2), ?_, hK.frm h3 (md_no r3), hL.frm h3 (md_no r4)⟩
  cases zz with
  | true => exact zeB_V r1 h4
  | false => exact hR.frm h3 (md_no r1)
theorem SV.app {M : Mem} (h : SV M) (e : AE) : SV (M ++ [e]) := by
  obtain ⟨h1, z, lk, ⟨vs, a1, a2⟩, ⟨vr, b1, b2⟩, k1, k2⟩ := h
  exact ⟨h1.app e, z, lk, ⟨vs, nth_app a1, a2⟩, ⟨vr, nth_app b1, b2⟩, nth_app k1, nth_app k2⟩
theorem SV.out {M : Mem} (h : SV M) : ∃ l : List Int64, gNth M 663 = some (.inl (2, .inr (.inl l))) ∧ l.length = 1 ∧ ∀ z : Int64, SV (gPut M 663 (.inl (2, .inr (.inl (gPut l 0 z))))) := by
  obtain ⟨h1, z, lk, ⟨vs, a1, a2⟩, ⟨vr, b1, b2⟩, k1, k2⟩ := h
  obtain ⟨l, l1, l2, l3⟩ := h1.out
  refine ⟨l, l1, l2, fun y => ⟨l3 y, z, lk, ⟨vs, ?_, a2⟩, ⟨vr, ?_, b2⟩, ?_, ?_⟩⟩
  · rw [nth_put, if_neg (fun q => absurd q.1 (by decide))]
    exact a1
  · rw [nth_put, if_neg (fun q => absurd q.1 (by decide))]
    exact b1
  · show gNth _ 340 = _
    rw [nth_put, if_neg (fun q => absurd q.1 (by decide))]
    exact k1
  · show gNth _ 638 = _
    rw [nth_put, if_neg (fun q => absurd q.1 (by decide))]
    exact k2
noncomputable def le0B (a ci f : Nat) : Bool := match gNth mem0 a with
  | some (.inr (c, vs)) => Nat.beq c ci && (match gNth vs f with
    | some (.int x) => decide (x = 0)
    | _ => false)
  | _ => false
theorem le0_V {a ci f : Nat} (h : le0B a ci f = true) : ∃ vs, gNth mem0 a = some (.inr (ci, vs)) ∧ gNth vs f = some (.int 0) := by
  unfold le0B at h
  split at h
  rotate_left
  · cases h
  rename_i c vs e
  obtain ⟨h1, h2⟩ := and_t h
  cases Nat.eq_of_beq_eq_true h1
  split at h2
  rotate_left
  · cases h2
  rename_i x e2
  cases of_decide_eq_true h2
  exact ⟨vs, e, e2⟩
set_option maxRecDepth 200000 in
theorem le0_all : le0B 1 5 1 = true ∧ le0B 633 11 2 = true := by refine ⟨?_, ?_⟩ <;> decide +kernel
noncomputable def ke0B (a : Nat) : Bool := match gNth mem0 a with
  | some (.inl (3, .inl l)) => match l with
    | [x, y, z] => decide (x = 0) && (decide (y = 0) && decide (z = 0))
    | _ => false
  | _ => false
theorem ke0_V {a : Nat} (h : ke0B a = true) : gNth mem0 a = some (.inl (3, .inl [0, 0, 0])) := by
  unfold ke0B at h
  split at h
  rotate_left
  · cases h
  rename_i l e
  split at h
  rotate_left
  · cases h
  rename_i x y z
  obtain ⟨h1, h2⟩ := and_t h
  obtain ⟨h2, h3⟩ := and_t h2
  cases of_decide_eq_true h1
  cases of_decide_eq_true h2
  cases of_decide_eq_true h3
  exact e
set_option maxRecDepth 200000 in
theorem ke0_all : ke0B 340 = true ∧ ke0B 638 = true := by refine ⟨?_, ?_⟩ <;> decide +kernel
theorem SV0 : SV mem0 := ⟨INV0, 0, _, le0_V le0_all.1, le0_V le0_all.2, ke0_V ke0_all.1, ke0_V ke0_all.2⟩
/-! THE IMAGES, exactly: which are kept; restored or not -/
def imA (x : Int32) : Int32 := if 0 ≤ x.toInt ∧ x.toInt ≤ 2 then 1 else 0
noncomputable def imK (l : List Int32) (x : Int32) : List Int32 := if 0 ≤ x.toInt ∧ x.toInt ≤ 2 then gPut l x.toInt.toNat 1 else l
noncomputable def reA (l : List Int32) (x : Int32) : Int32 := if (0 ≤ x.toInt ∧ x.toInt ≤ 2) ∧ (gNth l x.toInt.toNat).getD 0 ≠ 0 then 1 else 0
theorem isin_no {k : Int32} (h : ¬ (0 ≤ k.toInt ∧ k.toInt ≤ 2)) : (if k < 0 then (0 : Int32) else if 2 < k then 0 else 1) = 0 := by
  have o2 : (2 : Int32).toInt = 2 := rfl
  have o0 : (0 : Int32).toInt = 0 := rfl
  by_cases h1 : k < 0
  · rw [if_pos h1]
  · rw [if_neg h1]
    by_cases h2 : 2 < k
    · rw [if_pos h2]
    · rw [Int32.lt_iff_toInt_lt] at h1 h2
      exact absurd ⟨by omega, by omega⟩ h
theorem isin_ye {k : Int32} (h : 0 ≤ k.toInt ∧ k.toInt ≤ 2) : (if k < 0 then (0 : Int32) else if 2 < k then 0 else 1) = 1 := by
  have o2 : (2 : Int32).toInt = 2 := rfl
  have o0 : (0 : Int32).toInt = 0 := rfl
  rw [if_neg (by rw [Int32.lt_iff_toInt_lt]; omega), if_neg (by rw [Int32.lt_iff_toInt_lt]; omega)]
theorem ev_imageR {e : Nat} {M : Mem} {l : List Int32} {k : Int32} (hV : INV M) (hk : KR l M) : ∃ M', Ev none (e + 1) 246 0 [some (.ref 633), some (.int k), none] [] M (some (.int (imA k))) M' 0 0 ∧ INV M' ∧ Frm sT [(11, 0), (1064, 0), (1066, 0)] M M' ∧ KR (imK l k) M' := by
  obtain ⟨hT, hf⟩ := hV
  have h24 := hf 24 (Or.inl rfl)
  have h28 := hf 28 (Or.inr (Or.inl rfl))
  have h32 := hf 32 (Or.inr (Or.inr (Or.inl rfl)))
  have h34 := hf 34 (Or.inr (Or.inr (Or.inr rfl)))
  obtain ⟨vs, hM, hlen, hT1⟩ := hT.thr
  obtain ⟨M1, e1⟩ : ∃ M1, M1 = gPut M 633 (.inr (11, gPut vs 0 (.int 0))) := ⟨_, rfl⟩
  rw [← e1] at hT1
  have hF0 : Frm sT [(11, 0)] M M1 := by rw [e1]; exact Frm.fld hM (by decide)
  have hF1 : Frm sT [(11, 0), (1064, 0), (1066, 0)] M M1 := by rw [e1]; exact Frm.fld hM (by decide)
  have g28 := dp0_frm 0 28 _ _ _ _ hF0 (by decide) h28
  have g32 := dp0_frm 0 32 _ _ _ _ hF0 (by decide) h32
  have kM1 := hk.frm hF0 (by decide)
  obtain ⟨t2, l2, p1, p2⟩ := fl0_28 g28
  obtain ⟨t3, t4, l3, l4, p3, p4, p5⟩ := fl0_32 g32
  obtain ⟨vs2, s, la, lk, lb, hM2, h5, h7, h6, h8, hs, sl, ha2, al, hk2, kl, hb2, bl, bx⟩ := hT1.cp
  have hsl : l2 = s := by cases p1.symm.trans hs; rfl
  subst hsl
  have hsl : l3 = lk := by cases p3.symm.trans hk2; rfl
  subst hsl
  have hsl : l4 = lb := by cases p4.symm.trans hb2; rfl
  subst hsl
  have hsl : l = l4 := by cases kM1.symm.trans hb2; rfl
  subst hsl
  have hg := hT1.good hs p2
  unfold imA imK
  by_cases hx : 0 ≤ k.toInt ∧ k.toInt ≤ 2
  rotate_left
  · rw [if_neg hx, if_neg hx]
    have hV1 : INV M1 := INV.mv ⟨hT, hf⟩ hT1 hF0 (by decide) (by decide) (by decide) (by decide)
    exact ⟨M1, im_0 hM hlen (by rw [← e1]; exact Ev.call0 (fun n => rfl) ev_isin (im_11 (by rw [if_pos (isin_no hx)]; exact im_14))), hV1, hF1, kM1⟩
  · rw [if_pos hx, if_pos hx]
    have hz := isin_ye hx
    obtain ⟨k0, k2⟩ := hx
    have o2 : (2 : Int32).toInt = 2 := rfl
    have o0 : (0 : Int32).toInt = 0 := rfl
    obtain ⟨kn, hkn⟩ : ∃ kn : Nat, k.toInt = (kn : Int) := ⟨k.toInt.toNat, by omega⟩
    have hkt : k.toInt.toNat = kn := by omega
    rw [hkt]
    obtain ⟨M2, lF, q1, q2, q3, q4, q5, q6⟩ := im_loop (M0 := M) (e := e) (s := l2) (l0 := l3) hkn (by omega) 2314 0 M1 0 l3 hT1 hF1 hs hk2 (CpP.zero _ _ _ _) rfl rfl
    obtain ⟨vs3, _, _, lk3, lb3, hM3, _, _, _, h83, _, _, _, _, hk3, _, hb3, bl3, bx3⟩ := q2.cp
    rw [hb2] at q6
    have hsl : lb3 = l := by cases hb3.symm.trans q6; rfl
    subst hsl
    obtain ⟨y, y1, y2⟩ := at_c (l := lb3) hkn (by omega)
    have hnar : vp_nar .boolean 1 = 1 := rfl
    have hT3 : TM sT sG (gPut M2 638 (.inl (3, .inl (gPut lb3 kn 1)))) := q2.putrow (n := 3) (lo := 0) (hi := 1) sT_more.2.2.1 (by decide +kernel) (by rw [put_len]; exact bl3) (fun j x hj => by
      rw [nth_put] at hj
      split at hj
      · cases hj; decide
      · exact bx3 j x hj)
    have hF3 : Frm sT [(11, 0), (1064, 0), (1066, 0)] M (gPut M2 638 (.inl (3, .inl (gPut lb3 kn 1)))) := q3.trans (Frm.row hb3 sT_more.2.2.1 (by decide))
    refine ⟨gPut M2 638 (.inl (3, .inl (gPut lb3 kn 1))), im_0 hM hlen (by rw [← e1]; exact Ev.call0 (fun n => rfl) ev_isin (im_11 (by rw [hz, if_neg (by decide)]; exact im_16 (q1 _ _ (by
      have h := im_49 (e := e) (k := k) (i := 2314) hM3 h83 hb3 y1
      rw [hnar, cl_n hkn] at h
      exact h))))), ⟨hT3, fun x hx => ?_⟩, hF3, (show gNth _ 638 = _ by rw [nth_put, if_pos ⟨rfl, gNth_lt _ _ _ hb3⟩])⟩
    rcases hx with rfl | rfl | rfl | rfl
    · exact dp0_frm 0 24 _ _ _ _ hF3 (by decide) h24
    · exact dp0_frm 0 28 _ _ _ _ hF3 (by decide) h28
    · refine (show FL0 32 [] _ from ⟨1, 3, lF, gPut lb3 kn 1, by rw [nth_put, if_neg (fun q => absurd q.1 (by decide))]; exact q4, by rw [nth_put, if_pos ⟨rfl, gNth_lt _ _ _ hb3⟩], fun kk b hb hb0 => ?_⟩)
      by_cases hkk : kk = kn
      · subst hkk
        refine ⟨l2, hg, fun i hi => ?_⟩
        rw [q5.2, if_pos (by omega)]
        congr 1
        omega
      · rw [nth_put, if_neg (fun q => hkk q.1)] at hb
        obtain ⟨l9, g9, s9⟩ := p5 kk b hb hb0
        refine ⟨l9, g9, fun i hi => ?_⟩
        rw [q5.2, if_neg (by omega)]
        exact s9 i hi
    · exact dp0_frm 0 34 _ _ _ _ hF3 (by decide) h34
theorem ev_restoreR {e : Nat} {M : Mem} {l : List Int32} {k : Int32} (hV : INV M) (hk : KR l M) : ∃ M', Ev none (e + 1) 247 0 [some (.ref 633), some (.int k), none] [] M (some (.int (reA l k))) M' 0 0 ∧ INV M' ∧ Frm sT [(11, 0), (1063, 0)] M M' := by
  obtain ⟨hT, hf⟩ := hV
  have h24 := hf 24 (Or.inl rfl)
  have h28 := hf 28 (Or.inr (Or.inl rfl))
  have h32 := hf 32 (Or.inr (Or.inr (Or.inl rfl)))
  have h34 := hf 34 (Or.inr (Or.inr (Or.inr rfl)))
  obtain ⟨vs, hM, hlen, hT1⟩ := hT.thr
  obtain ⟨M1, e1⟩ : ∃ M1, M1 = gPut M 633 (.inr (11, gPut vs 0 (.int 0))) := ⟨_, rfl⟩
  rw [← e1] at hT1
  have hF1 : Frm sT [(11, 0), (1063, 0)] M M1 := by rw [e1]; exact Frm.fld hM (by decide)
  have hF0 : Frm sT [(11, 0)] M M1 := by rw [e1]; exact Frm.fld hM (by decide)
  have hV1 : INV M1 := INV.mv ⟨hT, hf⟩ hT1 hF0 (by decide) (by decide) (by decide) (by decide)
  have g32 := dp0_frm 0 32 _ _ _ _ hF0 (by decide) h32
  have kM1 := hk.frm hF0 (by decide)
  obtain ⟨t3, t4, l3, l4, p3, p4, p5⟩ := fl0_32 g32
  obtain ⟨vs2, s, la, lk, lb, hM2, h5, h7, h6, h8, hs, sl, ha2, al, hk2, kl, hb2, bl, bx⟩ := hT1.cp
  have hsl : l3 = lk := by cases p3.symm.trans hk2; rfl
  subst hsl
  have hsl : l4 = lb := by cases p4.symm.trans hb2; rfl
  subst hsl
  have hsl : l = l4 := by cases kM1.symm.trans hb2; rfl
  subst hsl
  unfold reA
  by_cases hx : 0 ≤ k.toInt ∧ k.toInt ≤ 2
  rotate_left
  · rw [if_neg (fun q => hx q.1)]
    exact ⟨M1, re_0 hM hlen (by rw [← e1]; exact Ev.call0 (fun n => rfl) ev_isin (re_11 (by rw [if_pos (isin_no hx)]; exact re_23))), hV1, hF1⟩
  · have hz := isin_ye hx
    obtain ⟨kn, hkn⟩ : ∃ kn : Nat, k.toInt = (kn : Int) := ⟨k.toInt.toNat, by omega⟩
    have hkt : k.toInt.toNat = kn := by omega
    obtain ⟨y, y1, y2⟩ := at_c (l := l) hkn (by omega)
    rw [hkt, y2]
    by_cases hy : y = 0
    · rw [if_neg (fun q => q.2 hy)]
      exact ⟨M1, re_0 hM hlen (by rw [← e1]; exact Ev.call0 (fun n => rfl) ev_isin (re_11 (by rw [hz, if_neg (by decide)]; exact re_14 hM2 h8 hb2 y1 (by rw [if_pos hy]; exact re_23)))), hV1, hF1⟩
    · rw [if_pos ⟨hx, hy⟩]
      obtain ⟨l9, g9, s9⟩ := p5 kn y y2 hy
      obtain ⟨MF, lF, q1, q2, q3, q4, q5⟩ := re_loop (M0 := M) (e := e) (l0 := s) g9 hkn (by omega) s9 kl 2314 0 M1 0 s hT1 hF1 hk2 hs (CpP.zero _ _ _ _) rfl rfl
      have hlF := q5.all sl g9.1
      subst hlF
      refine ⟨MF, re_0 hM hlen (by rw [← e1]; exact Ev.call0 (fun n => rfl) ev_isin (re_11 (by rw [hz, if_neg (by decide)]; exact re_14 hM2 h8 hb2 y1 (by rw [if_neg hy]; exact re_25 q1)))), ⟨q2, fun x hx => ?_⟩, q3⟩
      rcases hx with rfl | rfl | rfl | rfl
      · exact dp0_frm 0 24 _ _ _ _ q3 (by decide) h24
      · exact (show FL0 28 [] MF from ⟨1, _, q4, g9.2.2⟩)
      · exact dp0_frm 0 32 _ _ _ _ q3 (by decide) h32
      · exact dp0_frm 0 34 _ _ _ _ q3 (by decide) h34
set_option maxRecDepth 100000 in
theorem kp_f : fdB 0 10 7 56 = true ∧ rrB 56 4 3 8 = true ∧ fiB 8 1 0 4 16 = true := by refine ⟨?_, ?_, ?_⟩ <;> decide +kernel
set_option maxRecDepth 100000 in
theorem mR_13 : (gNth mRs kX1_copy.1).map (fun q => q.2.2.2.1) = some 3 := by decide +kernel
theorem cal_cy {M : Mem} {vs : List Value} {a b : Nat} {rest : List Value} (hM : gNth M a = some (.inr (1, vs))) (hr : gRoom rest = true) : gCal (.invokevirtual 390) 10 (.ref b :: .ref a :: rest) M = some (.inr (13, [some (.ref a), some (.ref b), none], rest)) := by
  show @cond (Option ((List Value × Mem) ⊕ (Nat × Lo × List Value))) (true && gRecv M (.ref a) 1 && gRoom rest && true) (some (.inr (13, [some (.ref a), some (.ref b), none], rest))) none = _
  rw [recv_c hM, hr]
  rfl
def mdIC : Md := kX1_copy.2.2.2.2.2.1 ++ [(1057, 0)]
/-- a land copied to another -/
theorem ev_copyL {e : Nat} {M : Mem} {a b : Nat} (hV : INV M) (ha : gNth sT a = some 8) (hb : gNth sT b = some 8) : ∃ va M', gNth M a = some (.inr (1, va)) ∧ Ev none (e + 1) 13 0 [some (.ref a), some (.ref b), none] [] M none M' 0 0 ∧ INV M' ∧ Frm sT kX1_copy.2.2.2.2.2.1 M M' := by
  obtain ⟨va, _, h1, _⟩ := hV.1.fnum ha kp_f.2.2
  obtain ⟨v, M', h2, h3, h4, s, hs, hr, _⟩ := inv_f (d := e + 1) (ws := [.ref a, .ref b]) kX1_copy_ok (by decide +kernel) mR_13 (Nat.le_add_left 1 e) (Two.mk ⟨a, rfl, ha⟩ (Two.mk ⟨b, rfl, hb⟩ trivial)) hV
  cases List.mem_singleton.mp hs
  have hv : v = none := by
    cases v with
    | none => rfl
    | some w => exact hr.elim
  subst hv
  exact ⟨va, M', h1, h2, h3, h4⟩
theorem ev_imageC {e : Nat} {M : Mem} {l : List Int32} {x : Int32} (hV : INV M) (hk : KC l M) : ∃ M', Ev none (e + 2) 123 0 [some (.ref 0), some (.int x)] [] M (some (.int (imA x))) M' 0 0 ∧ INV M' ∧ Frm sT mdIC M M' ∧ KC (imK l x) M' := by
  have o2 : (2 : Int32).toInt = 2 := rfl
  have o0 : (0 : Int32).toInt = 0 := rfl
  unfold imA imK
  by_cases hx : 0 ≤ x.toInt ∧ x.toInt ≤ 2
  rotate_left
  · rw [if_neg hx, if_neg hx]
    have hw : Ev none (e + 1) 126 0 [some (.int x), some (.int 0), some (.int 2)] [] M (some (.int 0)) M 0 0 := by
      by_cases h1 : x < 0
      · exact within_lo h1
      · refine within_hi h1 ?_
        rw [Int32.lt_iff_toInt_lt] at h1 ⊢
        omega
    exact ⟨M, mc_0 (Ev.call0 (fun n => rfl) hw (mc_6 (by rw [if_pos rfl]; exact mc_9))), hV, Frm.refl _, hk⟩
  · rw [if_pos hx, if_pos hx]
    have hw : Ev none (e + 1) 126 0 [some (.int x), some (.int 0), some (.int 2)] [] M (some (.int 1)) M 0 0 := within_in (by rw [Int32.lt_iff_toInt_lt]; omega) (by rw [Int32.lt_iff_toInt_lt]; omega)
    obtain ⟨kn, hkn⟩ : ∃ kn : Nat, x.toInt = (kn : Int) := ⟨x.toInt.toNat, by omega⟩
    have hkt : x.toInt.toNat = kn := by omega
    rw [hkt]
    obtain ⟨vp, b7, u1, u2, u3⟩ := hV.1.fref sT_00 kp_f.1
    obtain ⟨la, v1, v2, v3, _⟩ := hV.1.rref u3 kp_f.2.1
    obtain ⟨vp', b6, w1, w2, w3⟩ := hV.1.fref sT_00 cl_land
    cases u1.symm.trans w1
    obtain ⟨o, o3, o4⟩ := at_c (l := la) hkn (by omega)
    obtain ⟨a4, rfl, s4⟩ := v3 _ _ o4
    obtain ⟨va, M1, hA, hE, hV1, hF1⟩ := ev_copyL (e := e) hV s4 w3
    obtain ⟨vp1, b8, t1, t2, t3⟩ := hV1.1.fref sT_00 tp_k.1
    have h340 := sU_ok b8 57 340 t3 tp_u.2.2
    subst h340
    have kM1 := hk.frm hF1 (by decide)
    obtain ⟨l', m1, m2, m3⟩ := hV1.1.mrow t3 tp_k.2
    have hsl : l' = l := by cases m1.symm.trans kM1; rfl
    subst hsl
    obtain ⟨y, y1, _⟩ := at_c (l := l') hkn (by omega)
    have hnar : vp_nar .boolean 1 = 1 := rfl
    have hT3 : TM sT sG (gPut M1 340 (.inl (3, .inl (gPut l' kn 1)))) := hV1.1.putrow (n := 3) (lo := 0) (hi := 1) t3 (by decide +kernel) (by rw [put_len]; exact m2) (fun j w hj => by
      rw [nth_put] at hj
      split at hj
      · cases hj; decide
      · exact m3 j w hj)
    have hF3 : Frm sT [(1057, 0)] M1 (gPut M1 340 (.inl (3, .inl (gPut l' kn 1)))) := Frm.row m1 t3 (by decide)
    have h24 := mc_24 (e := e + 2) (x := x) t1 t2 m1 y1
    rw [hnar, cl_n hkn] at h24
    exact ⟨_, mc_0 (Ev.call0 (fun n => rfl) hw (mc_6 (by rw [if_neg (by decide)]; exact mc_11 u1 u2 v1 o3 w2 (Ev.call0 (fun n => gs_7 rfl rfl (cal_cy hA rfl)) hE h24)))), hV1.mv hT3 hF3 (by decide) (by decide) (by decide) (by decide), (hF1.more (md' := mdIC) (fun q hq => List.mem_append_left _ hq)).trans (hF3.more (md' := mdIC) (fun q hq => List.mem_append_right _ hq)), (show gNth _ 340 = _ by rw [nth_put, if_pos ⟨rfl, gNth_lt _ _ _ m1⟩])⟩
theorem ev_restoreC {e : Nat} {M : Mem} {l : List Int32} {x : Int32} (hV : INV M) (hk : KC l M) : ∃ M', Ev none (e + 2) 124 0 [some (.ref 0), some (.int x)] [] M (some (.int (reA l x))) M' 0 0 ∧ INV M' ∧ Frm sT kX1_copy.2.2.2.2.2.1 M M' := by
  have o2 : (2 : Int32).toInt = 2 := rfl
  have o0 : (0 : Int32).toInt = 0 := rfl
  unfold reA
  by_cases hx : 0 ≤ x.toInt ∧ x.toInt ≤ 2
  rotate_left
  · rw [if_neg (fun q => hx q.1)]
    have hw : Ev none (e + 1) 126 0 [some (.int x), some (.int 0), some (.int 2)] [] M (some (.int 0)) M 0 0 := by
      by_cases h1 : x < 0
      · exact within_lo h1
      · refine within_hi h1 ?_
        rw [Int32.lt_iff_toInt_lt] at h1 ⊢
        omega
    exact ⟨M, rc_0 (Ev.call0 (fun n => rfl) hw (rc_6 (by rw [if_pos rfl]; exact rc_18))), hV, Frm.refl _⟩
  · have hw : Ev none (e + 1) 126 0 [some (.int x), some (.int 0), some (.int 2)] [] M (some (.int 1)) M 0 0 := within_in (by rw [Int32.lt_iff_toInt_lt]; omega) (by rw [Int32.lt_iff_toInt_lt]; omega)
    obtain ⟨kn, hkn⟩ : ∃ kn : Nat, x.toInt = (kn : Int) := ⟨x.toInt.toNat, by omega⟩
    have hkt : x.toInt.toNat = kn := by omega
    rw [hkt]
    obtain ⟨vp1, b8, t1, t2, t3⟩ := hV.1.fref sT_00 tp_k.1
    have h340 := sU_ok b8 57 340 t3 tp_u.2.2
    subst h340
    obtain ⟨l', m1, m2, m3⟩ := hV.1.mrow t3 tp_k.2
    have hsl : l' = l := by cases m1.symm.trans hk; rfl
    subst hsl
    obtain ⟨y, y1, y2⟩ := at_c (l := l') hkn (by omega)
    rw [y2]
    by_cases hy : y = 0
    · rw [if_neg (fun q => q.2 hy)]
      exact ⟨M, rc_0 (Ev.call0 (fun n => rfl) hw (rc_6 (by rw [if_neg (by decide)]; exact rc_9 t1 t2 m1 y1 (by rw [if_pos hy]; exact rc_18)))), hV, Frm.refl _⟩
    · rw [if_pos ⟨hx, hy⟩]
      obtain ⟨vp, b7, u1, u2, u3⟩ := hV.1.fref sT_00 kp_f.1
      obtain ⟨la, v1, v2, v3, _⟩ := hV.1.rref u3 kp_f.2.1
      obtain ⟨vp', b6, w1, w2, w3⟩ := hV.1.fref sT_00 cl_land
      cases u1.symm.trans w1
      obtain ⟨o, o3, o4⟩ := at_c (l := la) hkn (by omega)
      obtain ⟨a4, rfl, s4⟩ := v3 _ _ o4
      obtain ⟨va, M1, hA, hE, hV1, hF1⟩ := ev_copyL (e := e) hV w3 s4
      exact ⟨M1, rc_0 (Ev.call0 (fun n => rfl) hw (rc_6 (by rw [if_neg (by decide)]; exact rc_9 t1 t2 m1 y1 (by rw [if_neg hy]; exact rc_20 u1 w2 u2 v1 o3 (Ev.call0 (fun n => gs_7 rfl rfl (cal_cy hA rfl)) hE rc_33))))), hV1, hF1⟩
/-! BOTH SIDES BESIDE EACH OTHER, with the bytes of the tapes -/
def SV4 (M : Mem) : Prop := INV M ∧ ∃ z l lb lt, LC z M ∧ LR z M ∧ KC l M ∧ KR l M ∧ BC lb M ∧ BR lt M ∧ BBp z.toInt.toNat lb lt
noncomputable def byB (c : CN) : Bool := !mdIn c.2.2.2.2.2.1 1002 0 && !mdIn c.2.2.2.2.2.1 1062 0
theorem rel_c4 {cn : CN} {k : Nat} {z w : Int32} {M : Mem} {ws : List Value} {l lb lt : List Int32} (zz : Bool) (hok : cnOK sT sG FL0 cn) (hB : ((invC cn && relC zz cn) && byB cn) = true) (hm : (gNth mRs cn.1).map (fun q => q.2.2.2.1) = some k) (hd : cn.2.1 ≤ 999) (ha : Two (taOK sT) cn.2.2.1 ws) (hV : INV M) (hC : LC z M) (hR : LR w M) (hK : KC l M) (hL : KR l M) (hP : BC lb M) (hQ : BR lt M) : ∃ v M', Ev none 999 cn.1 0 (gPad k (gArgs ws)) [] M v M' 0 0 ∧ (∃ s ∈ cn.2.2.2.2.2.2, csOK sT FL0 ws v M' s) ∧ INV M' ∧ LC (bif zz then 0 else z) M' ∧ LR w M' ∧ KC l M' ∧ KR l M' ∧ BC lb M' ∧ BR lt M' := by
  obtain ⟨hB, hb⟩ := and_t hB
  obtain ⟨hB, hr⟩ := and_t hB
  obtain ⟨r1, r2⟩ := and_t hr
  obtain ⟨r2, r3⟩ := and_t r2
  obtain ⟨r3, r4⟩ := and_t r3
  obtain ⟨b1, b2⟩ := and_t hb
  obtain ⟨v, M', h1, h2, h3, h4⟩ := inv_f hok hB hm hd ha hV
  refine ⟨v, M', h1, h4, h2, ?_, hR.frm h3 (md_no r2), hK.frm h3 (md_no r3), hL.frm h3 (md_no r4), hP.frm h3 (md_no b1), hQ.frm h3 (md_no b2)⟩
  cases zz with
  | true => exact zeB_V r1 h4
  | false => exact hC.frm h3 (md_no r1)
theorem rel_r4 {cn : CN} {k : Nat} {z w : Int32} {M : Mem} {ws : List Value} {l lb lt : List Int32} (zz : Bool) (hok : cnOK sT sG FL0 cn) (hB : ((invC cn && relR zz cn) && byB cn) = true) (hm : (gNth mRs cn.1).map (fun q => q.2.2.2.1) = some k) (hd : cn.2.1 ≤ 999) (ha : Two (taOK sT) cn.2.2.1 ws) (hV : INV M) (hC : LC z M) (hR : LR w M) (hK : KC l M) (hL : KR l M) (hP : BC lb M) (hQ : BR lt M) : ∃ v M', Ev none 999 cn.1 0 (gPad k (gArgs ws)) [] M v M' 0 0 ∧ (∃ s ∈ cn.2.2.2.2.2.2, csOK sT FL0 ws v M' s) ∧ INV M' ∧ LC z M' ∧ LR (bif zz then 0 else w) M' ∧ KC l M' ∧ KR l M' ∧ BC lb M' ∧ BR lt M' := by
  obtain ⟨hB, hb⟩ := and_t hB
  obtain ⟨hB, hr⟩ := and_t hB
  obtain ⟨r1, r2⟩ := and_t hr
  obtain ⟨r2, r3⟩ := and_t r2
  obtain ⟨r3, r4⟩ := and_t r3
  obtain ⟨b1, b2⟩ := and_t hb
  obtain ⟨v, M', h1, h2, h3, h4⟩ := inv_f hok hB hm hd ha hV
  refine ⟨v, M', h1, h4, h2, hC.frm h3 (md_no r2), ?_, hK.frm h3 (md_no r3), hL.frm h3 (md_no r4), hP.frm h3 (md_no b1), hQ.frm h3 (md_no b2)⟩
  cases zz with
  | true => exact zeB_V r1 h4
  | false => exact hR.frm h3 (md_no r1)
theorem SV4.sv {M : Mem} (h : SV4 M) : SV M := by
  obtain ⟨h1, z, l, lb, lt, a1, a2, a3, a4, _⟩ := h
  exact ⟨h1, z, l, a1, a2, a3, a4⟩
theorem SV4.app {M : Mem} (h : SV4 M) (e : AE) : SV4 (M ++ [e]) := by
  obtain ⟨h1, z, lk, lb, lt, ⟨vs, a1, a2⟩, ⟨vr, b1, b2⟩, k1, k2, p1, p2, hn⟩ := h
  exact ⟨h1.app e, z, lk, lb, lt, ⟨vs, nth_app a1, a2⟩, ⟨vr, nth_app b1, b2⟩, nth_app k1, nth_app k2, nth_app p1, nth_app p2, hn⟩
theorem SV4.out {M : Mem} (h : SV4 M) : ∃ l : List Int64, gNth M 663 = some (.inl (2, .inr (.inl l))) ∧ l.length = 1 ∧ ∀ z : Int64, SV4 (gPut M 663 (.inl (2, .inr (.inl (gPut l 0 z))))) := by
  obtain ⟨h1, z, lk, lb, lt, ⟨vs, a1, a2⟩, ⟨vr, b1, b2⟩, k1, k2, p1, p2, hn⟩ := h
  obtain ⟨l, l1, l2, l3⟩ := h1.out
  have g : ∀ (y : Int64) (a : Nat) (x : AE), a ≠ 663 → gNth M a = some x → gNth (gPut M 663 (.inl (2, .inr (.inl (gPut l 0 y))))) a = some x := fun y a x ha hx => by
    rw [nth_put, if_neg (fun q => ha q.1)]
    exact hx
  exact ⟨l, l1, l2, fun y => ⟨l3 y, z, lk, lb, lt, ⟨vs, g y 1 _ (by decide) a1, a2⟩, ⟨vr, g y 633 _ (by decide) b1, b2⟩, g y 340 _ (by decide) k1, g y 638 _ (by decide) k2, g y 2 _ (by decide) p1, g y 634 _ (by decide) p2, hn⟩⟩
theorem BC.len {l : List Int32} {M : Mem} (hT : TM sT sG M) (h : BC l M) : l.length = 440 := by
  obtain ⟨l', r1, r2, _⟩ := hT.irow tp_u2.2.1 tp_b.2.2.2
  cases h.symm.trans r1
  exact r2
theorem BR.len {l : List Int32} {M : Mem} (hT : TM sT sG M) (h : BR l M) : l.length = 440 := by
  obtain ⟨l', r1, r2, _⟩ := hT.mrow tp_u2.2.2 tp_m.2.2
  cases h.symm.trans r1
  exact r2
theorem BBp.end {z x : Int32} {lb lt : List Int32} (h : BBp z.toInt.toNat lb lt) : BBp (endZ z x).toInt.toNat lb lt := by
  refine h.less ?_
  unfold endZ
  split
  · exact Nat.le_refl _
  · split
    · rename_i h1 h2
      have := Int32.le_iff_toInt_le.mp h2
      omega
    · exact Nat.le_refl _
theorem SV40 : SV4 mem0 := by
  obtain ⟨h1, z, l, a1, a2, a3, a4⟩ := SV0
  obtain ⟨lb, r1, _⟩ := h1.1.irow tp_u2.2.1 tp_b.2.2.2
  obtain ⟨lt, s1, _⟩ := h1.1.mrow tp_u2.2.2 tp_m.2.2
  obtain ⟨_, _, _, b1, b2, b3, b4⟩ := SV0
  exact ⟨h1, 0, _, lb, lt, le0_V le0_all.1, le0_V le0_all.2, ke0_V ke0_all.1, ke0_V ke0_all.2, r1, s1, fun k hk => absurd hk (Nat.not_lt_zero k)⟩
/-! BOTH SIDES BESIDE EACH OTHER, with the bytes, the fixed references, the fault told -/
def FCq (y : Int32) (M : Mem) : Prop := ∃ vs, gNth M 0 = some (.inr (10, vs)) ∧ gNth vs 15 = some (.int y)
def FRq (y : Int32) (M : Mem) : Prop := ∃ vs, gNth M 633 = some (.inr (11, vs)) ∧ gNth vs 26 = some (.int y)
theorem FCq.frm {z : Int32} {md : Md} {M M' : Mem} (h : FCq z M) (hF : Frm sT md M M') (hm : (10, 15) ∉ md) : FCq z M' := by
  obtain ⟨vs, h1, h2⟩ := h
  obtain ⟨vs', h3, _, h4⟩ := hF.2.1 0 10 vs h1
  exact ⟨vs', h3, (h4 15 hm).trans h2⟩
theorem FRq.frm {z : Int32} {md : Md} {M M' : Mem} (h : FRq z M) (hF : Frm sT md M M') (hm : (11, 26) ∉ md) : FRq z M' := by
  obtain ⟨vs, h1, h2⟩ := h
  obtain ⟨vs', h3, _, h4⟩ := hF.2.1 633 11 vs h1
  exact ⟨vs', h3, (h4 26 hm).trans h2⟩
noncomputable def fxM (md : Md) : Bool := (List.range 8).all (fun k => !mdIn md 6 k) && ((List.range 8).all (fun k => !mdIn md 1 (2 + k)) && (!mdIn md 1 10 && (!mdIn md 1 12 && !mdIn md 1 14)))
set_option maxRecDepth 200000 in
theorem fxT_g : ∀ t ∈ fxT, gNth sT t = some 28 := by decide +kernel
set_option maxRecDepth 200000 in
theorem fxA_g : ∀ t ∈ fxA, gNth sT t = some 8 := by decide +kernel
theorem fV_frm {md : Md} {M M' : Mem} {a g ci k r : Nat} (hS : SH M) (ha : gNth sT a = some g) (hB : oB g ci = true) (hF : Frm sT md M M') (hm : (!mdIn md ci k) = true) (h : fV M a k = some (.ref r)) : fV M' a k = some (.ref r) := by
  obtain ⟨vs, h1⟩ := hS.obj ha hB
  obtain ⟨vs', h3, _, h4⟩ := hF.2.1 a ci vs h1
  unfold fV at h ⊢
  rw [h1] at h
  rw [h3]
  exact (h4 k (md_no hm)).trans h
theorem FX.frm {md : Md} {M M' : Mem} (hX : FX M) (hS : SH M) (hF : Frm sT md M M') (hm : fxM md = true) : FX M' := by
  obtain ⟨m1, hm⟩ := and_t hm
  obtain ⟨m2, hm⟩ := and_t hm
  obtain ⟨m3, hm⟩ := and_t hm
  obtain ⟨m4, m5⟩ := and_t hm
  refine ⟨fun t ht k hk => fV_frm hS (fxT_g t ht) qo_28 hF (List.all_eq_true.mp m1 k (List.mem_range.mpr hk)) (hX.1 t ht k hk), fun a ha => ⟨fun k hk => ?_, ?_, ?_, ?_⟩⟩
  · exact fV_frm hS (fxA_g a ha) qo_8 hF (List.all_eq_true.mp m2 k (List.mem_range.mpr hk)) ((hX.2 a ha).1 k hk)
  · exact fV_frm hS (fxA_g a ha) qo_8 hF m3 (hX.2 a ha).2.1
  · exact fV_frm hS (fxA_g a ha) qo_8 hF m4 (hX.2 a ha).2.2.1
  · exact fV_frm hS (fxA_g a ha) qo_8 hF m5 (hX.2 a ha).2.2.2
noncomputable def rfB (a k r : Nat) : Bool := match gNth mem0 a with
  | some (.inr (_, vs)) => match gNth vs k with
    | some (.ref b) => Nat.beq b r
    | _ => false
  | _ => false
theorem rfB_V {a k r : Nat} (h : rfB a k r = true) : fV mem0 a k = some (.ref r) := by
  unfold rfB at h
  unfold fV
  split at h
  rotate_left
  · cases h
  rename_i c vs e
  rw [e]
  split at h
  rotate_left
  · cases h
  rename_i b e2
  cases Nat.eq_of_beq_eq_true h
  exact e2
set_option maxRecDepth 200000 in
theorem fx0_t : fxT.all (fun t => (List.range 8).all (fun k => rfB t k (t + 1 + k))) = true := by decide +kernel
set_option maxRecDepth 200000 in
theorem fx0_a : fxA.all (fun a => (List.range 8).all (fun k => rfB a (2 + k) (a + 1 + k)) && (rfB a 10 (a + 9) && (rfB a 12 (a + 10) && rfB a 14 (a + 11)))) = true := by decide +kernel
theorem FX0 : FX mem0 := by
  refine ⟨fun t ht k hk => rfB_V (List.all_eq_true.mp (List.all_eq_true.mp fx0_t t ht) k (List.mem_range.mpr hk)), fun a ha => ?_⟩
  obtain ⟨h1, h⟩ := and_t (List.all_eq_true.mp fx0_a a ha)
  obtain ⟨h2, h⟩ := and_t h
  obtain ⟨h3, h4⟩ := and_t h
  exact ⟨fun k hk => rfB_V (List.all_eq_true.mp h1 k (List.mem_range.mpr hk)), rfB_V h2, rfB_V h3, rfB_V h4⟩
set_option maxRecDepth 200000 in
theorem le0_flt : le0B 0 10 15 = true ∧ le0B 633 11 26 = true := by refine ⟨?_, ?_⟩ <;> decide +kernel
def SV6 (M : Mem) : Prop := INV M ∧ FX M ∧ ∃ z y l lb lt, LC z M ∧ LR z M ∧ KC l M ∧ KR l M ∧ BC lb M ∧ BR lt M ∧ BBp z.toInt.toNat lb lt ∧ FCq y M ∧ FRq y M
noncomputable def byC (ff : Bool) (c : CN) : Bool := (ff || !mdIn c.2.2.2.2.2.1 10 15) && (!mdIn c.2.2.2.2.2.1 11 26 && fxM c.2.2.2.2.2.1)
noncomputable def byR (ff : Bool) (c : CN) : Bool := (ff || !mdIn c.2.2.2.2.2.1 11 26) && (!mdIn c.2.2.2.2.2.1 10 15 && fxM c.2.2.2.2.2.1)
theorem rel_c6 {cn : CN} {k : Nat} {z w y q : Int32} {M : Mem} {ws : List Value} {l lb lt : List Int32} (zz ff : Bool) (hok : cnOK sT sG FL0 cn) (hB : (((invC cn && relC zz cn) && byB cn) && byC ff cn) = true) (hm : (gNth mRs cn.1).map (fun q => q.2.2.2.1) = some k) (hd : cn.2.1 ≤ 999) (ha : Two (taOK sT) cn.2.2.1 ws) (hV : INV M) (hX : FX M) (hC : LC z M) (hR : LR w M) (hK : KC l M) (hL : KR l M) (hP : BC lb M) (hQ : BR lt M) (hF : FCq y M) (hG : FRq q M) : ∃ v M', Ev none 999 cn.1 0 (gPad k (gArgs ws)) [] M v M' 0 0 ∧ (∃ s ∈ cn.2.2.2.2.2.2, csOK sT FL0 ws v M' s) ∧ INV M' ∧ FX M' ∧ LC (bif zz then 0 else z) M' ∧ LR w M' ∧ KC l M' ∧ KR l M' ∧ BC lb M' ∧ BR lt M' ∧ (ff = false → FCq y M') ∧ FRq q M' := by
  obtain ⟨hB, hf⟩ := and_t hB
  obtain ⟨f1, hf⟩ := and_t hf
  obtain ⟨f2, f3⟩ := and_t hf
  obtain ⟨hB, hb⟩ := and_t hB
  obtain ⟨hB, hr⟩ := and_t hB
  obtain ⟨r1, r2⟩ := and_t hr
  obtain ⟨r2, r3⟩ := and_t r2
  obtain ⟨r3, r4⟩ := and_t r3
  obtain ⟨b1, b2⟩ := and_t hb
  obtain ⟨v, M', h1, h2, h3, h4⟩ := inv_f hok hB hm hd ha hV
  refine ⟨v, M', h1, h4, h2, hX.frm hV.1.sh h3 f3, ?_, hR.frm h3 (md_no r2), hK.frm h3 (md_no r3), hL.frm h3 (md_no r4), hP.frm h3 (md_no b1), hQ.frm h3 (md_no b2), fun e => ?_, hG.frm h3 (md_no f2)⟩
  · cases zz with
    | true => exact zeB_V r1 h4
    | false => exact hC.frm h3 (md_no r1)
  · subst e
    exact hF.frm h3 (md_no f1)
theorem rel_r6 {cn : CN} {k : Nat} {z w y q : Int32} {M : Mem} {ws : List Value} {l lb lt : List Int32} (zz ff : Bool) (hok : cnOK sT sG FL0 cn) (hB : (((invC cn && relR zz cn) && byB cn) && byR ff cn) = true) (hm : (gNth mRs cn.1).map (fun q => q.2.2.2.1) = some k) (hd : cn.2.1 ≤ 999) (ha : Two (taOK sT) cn.2.2.1 ws) (hV : INV M) (hX : FX M) (hC : LC z M) (hR : LR w M) (hK : KC l M) (hL : KR l M) (hP : BC lb M) (hQ : BR lt M) (hF : FCq y M) (hG : FRq q M) : ∃ v M', Ev none 999 cn.1 0 (gPad k (gArgs ws)) [] M v M' 0 0 ∧ (∃ s ∈ cn.2.2.2.2.2.2, csOK sT FL0 ws v M' s) ∧ INV M' ∧ FX M' ∧ LC z M' ∧ LR (bif zz then 0 else w) M' ∧ KC l M' ∧ KR l M' ∧ BC lb M' ∧ BR lt M' ∧ FCq y M' ∧ (ff = false → FRq q M') := by
  obtain ⟨hB, hf⟩ := and_t hB
  obtain ⟨f1, hf⟩ := and_t hf
  obtain ⟨f2, f3⟩ := and_t hf
  obtain ⟨hB, hb⟩ := and_t hB
  obtain ⟨hB, hr⟩ := and_t hB
  obtain ⟨r1, r2⟩ := and_t hr
  obtain ⟨r2, r3⟩ := and_t r2
  obtain ⟨r3, r4⟩ := and_t r3
  obtain ⟨b1, b2⟩ := and_t hb
  obtain ⟨v, M', h1, h2, h3, h4⟩ := inv_f hok hB hm hd ha hV
  refine ⟨v, M', h1, h4, h2, hX.frm hV.1.sh h3 f3, hC.frm h3 (md_no r2), ?_, hK.frm h3 (md_no r3), hL.frm h3 (md_no r4), hP.frm h3 (md_no b1), hQ.frm h3 (md_no b2), hF.frm h3 (md_no f2), fun e => ?_⟩
  · cases zz with
    | true => exact zeB_V r1 h4
    | false => exact hR.frm h3 (md_no r1)
  · subst e
    exact hG.frm h3 (md_no f1)
theorem SV6.sv4 {M : Mem} (h : SV6 M) : SV4 M := by
  obtain ⟨h1, _, z, y, l, lb, lt, a1, a2, a3, a4, a5, a6, a7, _⟩ := h
  exact ⟨h1, z, l, lb, lt, a1, a2, a3, a4, a5, a6, a7⟩
theorem fV_app {M : Mem} {a k r : Nat} {e : AE} (h : fV M a k = some (.ref r)) : fV (M ++ [e]) a k = some (.ref r) := by
  unfold fV at h ⊢
  cases hM : gNth M a with
  | none => rw [hM] at h; cases h
  | some x =>
    rw [hM] at h
    rw [nth_app hM]
    exact h
theorem SV6.app {M : Mem} (h : SV6 M) (e : AE) : SV6 (M ++ [e]) := by
  obtain ⟨h1, hX, z, y, lk, lb, lt, ⟨vs, a1, a2⟩, ⟨vr, b1, b2⟩, k1, k2, p1, p2, hn, ⟨vf, c1, c2⟩, ⟨vg, d1, d2⟩⟩ := h
  exact ⟨h1.app e, ⟨fun t ht k hk => fV_app (hX.1 t ht k hk), fun a ha => ⟨fun k hk => fV_app ((hX.2 a ha).1 k hk), fV_app (hX.2 a ha).2.1, fV_app (hX.2 a ha).2.2.1, fV_app (hX.2 a ha).2.2.2⟩⟩, z, y, lk, lb, lt, ⟨vs, nth_app a1, a2⟩, ⟨vr, nth_app b1, b2⟩, nth_app k1, nth_app k2, nth_app p1, nth_app p2, hn, ⟨vf, nth_app c1, c2⟩, ⟨vg, nth_app d1, d2⟩⟩
theorem SV6.out {M : Mem} (h : SV6 M) : ∃ l : List Int64, gNth M 663 = some (.inl (2, .inr (.inl l))) ∧ l.length = 1 ∧ ∀ z : Int64, SV6 (gPut M 663 (.inl (2, .inr (.inl (gPut l 0 z))))) := by
  obtain ⟨h1, hX, z, y, lk, lb, lt, ⟨vs, a1, a2⟩, ⟨vr, b1, b2⟩, k1, k2, p1, p2, hn, ⟨vf, c1, c2⟩, ⟨vg, d1, d2⟩⟩ := h
  obtain ⟨l, l1, l2, l3⟩ := h1.out
  have g : ∀ (y : Int64) (a : Nat) (x : AE), a ≠ 663 → gNth M a = some x → gNth (gPut M 663 (.inl (2, .inr (.inl (gPut l 0 y))))) a = some x := fun y a x ha hx => by
    rw [nth_put, if_neg (fun q => ha q.1)]
    exact hx
  have gv : ∀ (y : Int64) (a k r : Nat), fV M a k = some (.ref r) → fV (gPut M 663 (.inl (2, .inr (.inl (gPut l 0 y))))) a k = some (.ref r) := fun y a k r hx => by
    rw [fV_put (fun c vs q => by cases q) (fun c vs q => by rw [l1] at q; cases q)]
    exact hx
  exact ⟨l, l1, l2, fun w => ⟨l3 w, ⟨fun t ht k hk => gv w _ _ _ (hX.1 t ht k hk), fun a ha => ⟨fun k hk => gv w _ _ _ ((hX.2 a ha).1 k hk), gv w _ _ _ (hX.2 a ha).2.1, gv w _ _ _ (hX.2 a ha).2.2.1, gv w _ _ _ (hX.2 a ha).2.2.2⟩⟩, z, y, lk, lb, lt, ⟨vs, g w 1 _ (by decide) a1, a2⟩, ⟨vr, g w 633 _ (by decide) b1, b2⟩, g w 340 _ (by decide) k1, g w 638 _ (by decide) k2, g w 2 _ (by decide) p1, g w 634 _ (by decide) p2, hn, ⟨vf, g w 0 _ (by decide) c1, c2⟩, ⟨vg, g w 633 _ (by decide) d1, d2⟩⟩⟩
theorem SV60 : SV6 mem0 := by
  obtain ⟨h1, z, l, a1, a2, a3, a4⟩ := SV0
  obtain ⟨lb, r1, _⟩ := h1.1.irow tp_u2.2.1 tp_b.2.2.2
  obtain ⟨lt, s1, _⟩ := h1.1.mrow tp_u2.2.2 tp_m.2.2
  exact ⟨h1, FX0, 0, 0, _, lb, lt, le0_V le0_all.1, le0_V le0_all.2, ke0_V ke0_all.1, ke0_V ke0_all.2, r1, s1, fun k hk => absurd hk (Nat.not_lt_zero k), le0_V le0_flt.1, le0_V le0_flt.2⟩
/-! the texts of both sides, read -/
noncomputable def bL (lt : List Int32) : Nat → Int32 := fun k => (gNth lt k).getD 0 &&& 255
noncomputable def RDl (lt : List Int32) (z : Int32) (law : Bool) : PLn := rdB (bL lt) z.toInt.toNat law ((prS (bL lt) 996).1 1)
section R6
variable {z y w : Int32} {M M' : Mem} {lb lt : List Int32} {v : Option Value}
theorem LC.zi (h : LC z M) : zI M 1 1 = z := by
  obtain ⟨vs, h1, h2⟩ := h
  unfold zI fV
  rw [h1]
  dsimp only
  rw [h2]
theorem LR.zi (h : LR z M) : zI M 633 2 = z := by
  obtain ⟨vs, h1, h2⟩ := h
  unfold zI fV
  rw [h1]
  dsimp only
  rw [h2]
theorem FCq.zi (h : FCq z M) : zI M 0 15 = z := by
  obtain ⟨vs, h1, h2⟩ := h
  unfold zI fV
  rw [h1]
  dsimp only
  rw [h2]
theorem FRq.zi (h : FRq z M) : zI M 633 26 = z := by
  obtain ⟨vs, h1, h2⟩ := h
  unfold zI fV
  rw [h1]
  dsimp only
  rw [h2]
theorem FCq.of (hS : SH M) (h : zI M 0 15 = z) : FCq z M := by
  obtain ⟨vs, h1, h2⟩ := hS.fi qa_0 qi_0_15
  rw [h] at h2
  exact ⟨vs, h1, h2⟩
theorem FRq.of (hS : SH M) (h : zI M 633 26 = z) : FRq z M := by
  obtain ⟨vs, h1, h2⟩ := hS.fi qa_633 qi_61_26
  rw [h] at h2
  exact ⟨vs, h1, h2⟩
theorem BR.bl (h : BR lt M) : bR M = bL lt := by
  funext k
  unfold bR bL rN zrw
  have h : gNth M 634 = some (.inl (0, .inl lt)) := h
  rw [h]
theorem BC.bl {n : Nat} (h : BC lb M) (hN : BBp n lb lt) : ∀ k, k < n → bC M k = bL lt k := by
  intro k hk
  obtain ⟨y, h1, h2⟩ := hN k hk
  unfold bC bL rN zrw
  have h : gNth M 2 = some (.inl (1, .inl lb)) := h
  rw [h]
  dsimp only
  rw [h1, h2]
  rfl
theorem law6C (hV : INV M) (hX : FX M) (hC : LC z M) (hP : BC lb M) (hN : BBp z.toInt.toNat lb lt) (H : Ev none 999 85 0 [some (.ref 0), none, none] [] M v M' 0 0) : ∃ r, v = some (.int r) ∧ r.toInt = ansB (RDl lt z true) ∧ FCq (fltB (RDl lt z true)) M' := by
  have hr := hC.rng hV.1
  obtain ⟨⟨x, h1, h2⟩, h3, _, _, h4, _⟩ := law_ok (e := 996) (n := z.toInt.toNat) (B := bL lt) ⟨hV.1.sh, hX⟩ (by rw [hC.zi]; omega) (by omega) (hP.bl hN) H
  exact ⟨x, h1, h2, FCq.of h3.1 h4⟩
theorem law6R (hV : INV M) (hX : FX M) (hz : 0 ≤ z.toInt ∧ z.toInt ≤ 440) (hR : LR z M) (hQ : BR lt M) (H : Ev none 999 183 0 [some (.ref 633), none] [] M v M' 0 0) : ∃ r, v = some (.int r) ∧ r.toInt = ansB (RDl lt z true) ∧ FRq (fltB (RDl lt z true)) M' := by
  obtain ⟨⟨x, h1, h2⟩, h3, _, h4, _⟩ := rlaw_ok (kk := 996) (n := z.toInt.toNat) (by omega) (by omega) ⟨hV.1.sh, hX⟩ (by rw [hR.zi]; omega) H
  rw [hQ.bl] at h2 h4
  exact ⟨x, h1, h2, FRq.of h3.1 h4⟩
noncomputable def hbA (lt : List Int32) (z x : Int32) : Int := if 0 ≤ x.toInt ∧ x.toInt ≤ 5 then ansB (RDl lt z false) else -1000
noncomputable def hbF (lt : List Int32) (z x y : Int32) : Int32 := if 0 ≤ x.toInt ∧ x.toInt ≤ 5 then fltB (RDl lt z false) else y
theorem hab6C {x : Int32} (hV : INV M) (hX : FX M) (hC : LC z M) (hP : BC lb M) (hN : BBp z.toInt.toNat lb lt) (hF : FCq y M) (H : Ev none 999 86 0 [some (.ref 0), some (.int x), none, none] [] M v M' 0 0) : ∃ r, v = some (.int r) ∧ r.toInt = hbA lt z x ∧ FCq (hbF lt z x y) M' := by
  have hr := hC.rng hV.1
  have hS : SQ M := ⟨hV.1.sh, hX⟩
  unfold hbA hbF
  by_cases hx : 0 ≤ x.toInt ∧ x.toInt ≤ 5
  · rw [if_pos hx, if_pos hx]
    obtain ⟨⟨x, h1, h2⟩, h3, _, _, _, _, h4, _⟩ := hab_ok (e := 996) (n := z.toInt.toNat) (B := bL lt) hS hx (by rw [hC.zi]; omega) (by omega) (hP.bl hN) H
    exact ⟨x, h1, h2, FCq.of h3.1 h4⟩
  · rw [if_neg hx, if_neg hx]
    obtain ⟨rfl, rfl⟩ := hab_out hS hx H
    exact ⟨_, rfl, rfl, FCq.of hS.kf.1 (by rw [fI_wF_ne (by decide)]; exact hF.zi)⟩
theorem hab6R {x : Int32} (hV : INV M) (hX : FX M) (hz : 0 ≤ z.toInt ∧ z.toInt ≤ 440) (hR : LR z M) (hQ : BR lt M) (hG : FRq y M) (H : Ev none 999 184 0 [some (.ref 633), some (.int x)] [] M v M' 0 0) : ∃ r, v = some (.int r) ∧ r.toInt = hbA lt z x ∧ FRq (hbF lt z x y) M' := by
  have hS : SQ M := ⟨hV.1.sh, hX⟩
  unfold hbA hbF
  by_cases hx : 0 ≤ x.toInt ∧ x.toInt ≤ 5
  · rw [if_pos hx, if_pos hx]
    obtain ⟨⟨x, h1, h2⟩, h3, _, h4, _⟩ := rhab_ok (kk := 996) (n := z.toInt.toNat) (t := x.toInt.toNat) (by omega) (by omega) (by omega) (by omega) hS (by rw [hR.zi]; omega) H
    rw [hQ.bl] at h2 h4
    exact ⟨x, h1, h2, FRq.of h3.1 h4⟩
  · rw [if_neg hx, if_neg hx]
    obtain ⟨rfl, rfl⟩ := rhab_out hS hx H
    obtain ⟨t1, t2, _⟩ := tkn hS
    exact ⟨_, rfl, rfl, FRq.of t1.1 (by rw [t2.fi (by decide)]; exact hG.zi)⟩
theorem flt6C (hV : INV M) (hX : FX M) (hF : FCq y M) (H : Ev none 999 88 0 [some (.ref 0)] [] M v M' 0 0) : v = some (.int y) := by
  obtain ⟨h1, _⟩ := flt_0 ⟨hV.1.sh, hX⟩ H
  rw [h1, hF.zi]
theorem flt6R (hV : INV M) (hX : FX M) (hG : FRq y M) (H : Ev none 999 185 0 [some (.ref 633)] [] M v M' 0 0) : v = some (.int y) := by
  obtain ⟨h1, _⟩ := rflt_ok ⟨hV.1.sh, hX⟩ H
  rw [h1, hG.zi]
end R6
/-! A WHOLE ROW WRITTEN -/
noncomputable def wL (M : Mem) (a : Nat) (l : List Int32) : Mem := match gNth M a with
  | some (.inl (kd, .inl _)) => gPut M a (.inl (kd, .inl l))
  | _ => M
noncomputable def wA (M : Mem) (a : Nat) (x : Int32) : Mem := wL M a (gRep (zrw M a).length x)
noncomputable def wC (M : Mem) (a b : Nat) : Mem := wL M b (zrw M a)
section WLL
variable {M : Mem} {a b g g2 k i kd n : Nat} {l : List Int32} {x : Int32}
theorem fV_wL : fV (wL M a l) b k = fV M b k := by
  unfold wL
  split
  · rename_i hM
    exact fV_put (fun c vs q => by cases q) (fun c vs q => by rw [hM] at q; cases q)
  · rfl
theorem fI_wL : zI (wL M a l) b k = zI M b k := by unfold zI; rw [fV_wL]
theorem fR_wL : fR (wL M a l) b k = fR M b k := by unfold fR; rw [fV_wL]
theorem fL_wL : fL (wL M a l) b k = fL M b k := by unfold fL; rw [fV_wL]
theorem roL_wL : roL (wL M a l) b = roL M b := by
  unfold wL
  split
  · rename_i hM
    unfold roL
    rw [nth_put]
    by_cases hb : b = a ∧ a < M.length
    · rw [if_pos hb, hb.1, hM]
    · rw [if_neg hb]
  · rfl
theorem rwL_wL_ne (h : b ≠ a) : zrw (wL M a l) b = zrw M b := by
  unfold wL
  split
  · unfold zrw
    rw [nth_put, if_neg (fun q => h q.1)]
  · rfl
theorem rwL_wL_eq (hS : SH M) (ha : gNth sT a = some g) (hB : wB g kd n = true) : zrw (wL M a l) a = l := by
  obtain ⟨h1, _⟩ := hS.row ha hB
  unfold wL
  rw [h1]
  dsimp only
  unfold zrw
  rw [nth_put, if_pos ⟨rfl, gNth_lt _ _ _ h1⟩]
theorem SH.kl (hS : SH M) (hl : l.length = (zrw M a).length) : SH (wL M a l) := by
  unfold wL
  split
  · rename_i kd l0 hM
    have hz : zrw M a = l0 := by
      unfold zrw
      rw [hM]
    rw [hz] at hl
    refine hS.put (fun g t h1 h2 => ?_)
    obtain ⟨e, e1, e2⟩ := hS.2 a g t h1 h2
    cases hM.symm.trans e1
    rcases t with ⟨ci, fs⟩ | ⟨q, n, u⟩
    · obtain ⟨vs, h3, _⟩ := e2
      cases h3
    · rcases u with sg | g2
      · match q, e2 with
        | 0, e2 => obtain ⟨l2, h3, h4⟩ := e2; cases h3; exact ⟨_, rfl, hl.trans h4⟩
        | 1, e2 => obtain ⟨l2, h3, h4⟩ := e2; cases h3; exact ⟨_, rfl, hl.trans h4⟩
        | 2, e2 => obtain ⟨l2, h3, h4⟩ := e2; cases h3
        | q + 3, e2 => obtain ⟨l2, h3, h4⟩ := e2; cases h3; exact ⟨_, rfl, hl.trans h4⟩
      · match q, e2 with
        | 0, e2 => obtain ⟨l2, h3, h4⟩ := e2; cases h3
        | 1, e2 => obtain ⟨l2, h3, h4⟩ := e2; cases h3
        | 2, e2 => obtain ⟨l2, h3, h4⟩ := e2; cases h3
        | q + 3, e2 => obtain ⟨l2, h3, h4⟩ := e2; cases h3
  · exact hS
theorem SQ.kl (h : SQ M) (hl : l.length = (zrw M a).length) : SQ (wL M a l) := ⟨h.1.kl hl, h.2.mv (fun b i r q => by rw [fV_wL]; exact q)⟩
theorem SQ.ka (h : SQ M) : SQ (wA M a x) := h.kl (rep_len _ _)
theorem SQ.kc (h : SQ M) (ha : gNth sT a = some g) (hA : wB g 1 n = true) (hb : gNth sT b = some g2) (hB : wB g2 1 n = true) : SQ (wC M a b) := h.kl ((h.1.row ha hA).2.trans (h.1.row hb hB).2.symm)
theorem fI_wA : zI (wA M a x) b k = zI M b k := fI_wL
theorem fR_wA : fR (wA M a x) b k = fR M b k := fR_wL
theorem fL_wA : fL (wA M a x) b k = fL M b k := fL_wL
theorem fI_wC {c : Nat} : zI (wC M a c) b k = zI M b k := fI_wL
theorem fR_wC {c : Nat} : fR (wC M a c) b k = fR M b k := fR_wL
theorem fL_wC {c : Nat} : fL (wC M a c) b k = fL M b k := fL_wL
theorem rN_wA_ne (h : b ≠ a) : rN (wA M a x) b i = rN M b i := by unfold rN wA; rw [rwL_wL_ne h]
theorem rN_wA_eq (hS : SH M) (ha : gNth sT a = some g) (hB : wB g kd n = true) (hi : i < n) : rN (wA M a x) a i = x := by
  unfold rN wA
  rw [rwL_wL_eq hS ha hB, rep_nth, if_pos (by rw [(hS.row ha hB).2]; exact hi)]
  rfl
theorem rN_wC_ne {c : Nat} (h : b ≠ c) : rN (wC M a c) b i = rN M b i := by unfold rN wC; rw [rwL_wL_ne h]
theorem rN_wC_eq (hS : SH M) (ha : gNth sT a = some g) (hB : wB g kd n = true) : rN (wC M b a) a i = rN M b i := by
  unfold rN wC
  rw [rwL_wL_eq hS ha hB]
end WLL
section FIL
variable {d me pc o np kf mx ix a b g g2 n c s : Nat} {y : MethodName} {cc : ByteArray} {ret : Option FieldType} {tab : List (Nat × Nat × Instr)} {ls : Lo} {st : List Value} {M M' : Mem} {v : Option Value} {x k : Int32}
theorem Ev.fil (hrow : gNth mRs me = some (o, y, cc, mx, ret, np, kf, tab)) (hl : gLook tab pc = some (7, .invokestatic ix)) (hq : ∀ st M, gCal (.invokestatic ix) o st M = (match gNat 1004 st M with | some q => cond (Nat.beq 0 0 && gRoom q.1) (some (.inl q)) none | none => none)) (hS : SH M) (ha : gNth sT a = some g) (hB : wB g 1 n = true) (h : Ev none d me pc ls (.int x :: .ref a :: st) M v M' c s) : Ev none d me (pc + 3) ls st (wA M a x) v M' c s := by
  obtain ⟨st1, M1, e, h⟩ := Ev.cal hrow hl (fun q e => by
    rw [hq] at e
    split at e
    · obtain ⟨_, e⟩ := cond_inv e
      cases e
    · cases e) h
  rw [hq] at e
  obtain ⟨h1, h2⟩ := hS.row ha hB
  have e : (match (match gNth M a with
      | some (.inl (1, .inl l)) => cond (Nat.ble (gLn l) 60000) (some (st, gPut M a (.inl (1, .inl (gRep (gLn l) x))))) none
      | _ => none) with | some q => cond (Nat.beq 0 0 && gRoom q.1) (some (Sum.inl (β := Nat × Lo × List Value) q)) none | none => none) = some (.inl (st1, M1)) := e
  rw [h1] at e
  have e : (match (cond (Nat.ble (gLn (zrw M a)) 60000) (some (st, gPut M a (.inl (1, .inl (gRep (gLn (zrw M a)) x))))) none) with | some q => cond (Nat.beq 0 0 && gRoom q.1) (some (Sum.inl (β := Nat × Lo × List Value) q)) none | none => none) = some (.inl (st1, M1)) := e
  cases hb : Nat.ble (gLn (zrw M a)) 60000 with
  | false => rw [hb] at e; cases e
  | true =>
    rw [hb] at e
    obtain ⟨_, e⟩ := cond_inv e
    cases e
    have hw : wA M a x = gPut M a (.inl (1, .inl (gRep (gLn (zrw M a)) x))) := by
      unfold wA wL
      rw [h1, gln_len]
    rw [hw]
    exact h
theorem Ev.cpy (hrow : gNth mRs me = some (o, y, cc, mx, ret, np, kf, tab)) (hl : gLook tab pc = some (7, .invokestatic ix)) (hq : ∀ st M, gCal (.invokestatic ix) o st M = (match gNat 1005 st M with | some q => cond (Nat.beq 0 0 && gRoom q.1) (some (.inl q)) none | none => none)) (hS : SH M) (ha : gNth sT a = some g) (hA : wB g 1 n = true) (hb : gNth sT b = some g2) (hB : wB g2 1 n = true) (hk : k.toNatClampNeg = n) (h : Ev none d me pc ls (.int k :: .int 0 :: .ref b :: .int 0 :: .ref a :: st) M v M' c s) : Ev none d me (pc + 3) ls st (wC M a b) v M' c s := by
  obtain ⟨st1, M1, e, h⟩ := Ev.cal hrow hl (fun q e => by
    rw [hq] at e
    split at e
    · obtain ⟨_, e⟩ := cond_inv e
      cases e
    · cases e) h
  rw [hq] at e
  obtain ⟨h1, h2⟩ := hS.row ha hA
  obtain ⟨h3, h4⟩ := hS.row hb hB
  have e : (match (match gNth M a, gNth M b with
      | some (.inl (1, .inl f)), some (.inl (1, .inl g)) => cond (!decide ((0 : Int32) < 0) && !decide ((0 : Int32) < 0) && !decide (k < 0) && Nat.ble ((0 : Int32).toNatClampNeg + k.toNatClampNeg) (gLn f) && Nat.ble ((0 : Int32).toNatClampNeg + k.toNatClampNeg) (gLn g)) (some (st, gPut M b (.inl (1, .inl (g.take (0 : Int32).toNatClampNeg ++ ((f.drop (0 : Int32).toNatClampNeg).take k.toNatClampNeg ++ g.drop ((0 : Int32).toNatClampNeg + k.toNatClampNeg))))))) none
      | _, _ => none) with | some q => cond (Nat.beq 0 0 && gRoom q.1) (some (Sum.inl (β := Nat × Lo × List Value) q)) none | none => none) = some (.inl (st1, M1)) := e
  rw [h1, h3] at e
  have e : (match (cond (!decide ((0 : Int32) < 0) && !decide ((0 : Int32) < 0) && !decide (k < 0) && Nat.ble ((0 : Int32).toNatClampNeg + k.toNatClampNeg) (gLn (zrw M a)) && Nat.ble ((0 : Int32).toNatClampNeg + k.toNatClampNeg) (gLn (zrw M b))) (some (st, gPut M b (.inl (1, .inl ((zrw M b).take (0 : Int32).toNatClampNeg ++ (((zrw M a).drop (0 : Int32).toNatClampNeg).take k.toNatClampNeg ++ (zrw M b).drop ((0 : Int32).toNatClampNeg + k.toNatClampNeg))))))) none) with | some q => cond (Nat.beq 0 0 && gRoom q.1) (some (Sum.inl (β := Nat × Lo × List Value) q)) none | none => none) = some (.inl (st1, M1)) := e
  split at e
  · rename_i q e1
    obtain ⟨_, e1⟩ := cond_inv e1
    obtain ⟨_, e⟩ := cond_inv e
    cases e
    cases e1
    have e0 : (0 : Int32).toNatClampNeg = 0 := rfl
    have hw : wC M a b = gPut M b (.inl (1, .inl ((zrw M b).take (0 : Int32).toNatClampNeg ++ (((zrw M a).drop (0 : Int32).toNatClampNeg).take k.toNatClampNeg ++ (zrw M b).drop ((0 : Int32).toNatClampNeg + k.toNatClampNeg))))) := by
      rw [e0, hk, List.take_zero, List.drop_zero, List.nil_append, List.take_of_length_le (by omega), List.drop_of_length_le (by omega), List.append_nil]
      unfold wC wL
      rw [h3]
    rw [hw]
    exact h
  · cases e
end FIL
/-! FRAMES by places -/
def FZ (F : Nat → Nat → Prop) (W O : Nat → Prop) (M M' : Mem) : Prop := (∀ a k, ¬ F a k → fV M' a k = fV M a k) ∧ (∀ b, ¬ W b → zrw M' b = zrw M b) ∧ ∀ b, ¬ O b → roL M' b = roL M b
section FPP
variable {F G : Nat → Nat → Prop} {W V O U : Nat → Prop} {M M1 M2 : Mem} {a b k j i r : Nat} {x : Int32} {z : Int64} {l : List Int32}
theorem FZ.refl (M : Mem) : FZ F W O M M := ⟨fun _ _ _ => rfl, fun _ _ => rfl, fun _ _ => rfl⟩
theorem FZ.trans (h1 : FZ F W O M M1) (h2 : FZ F W O M1 M2) : FZ F W O M M2 := ⟨fun a k h => (h2.1 a k h).trans (h1.1 a k h), fun b h => (h2.2.1 b h).trans (h1.2.1 b h), fun b h => (h2.2.2 b h).trans (h1.2.2 b h)⟩
theorem FZ.more (h : FZ F W O M M1) (hF : ∀ a k, F a k → G a k) (hW : ∀ a, W a → V a) (hO : ∀ a, O a → U a) : FZ G V U M M1 := ⟨fun a k q => h.1 a k (fun r => q (hF _ _ r)), fun b q => h.2.1 b (fun r => q (hW _ r)), fun b q => h.2.2 b (fun r => q (hO _ r))⟩
theorem FZ.fi (h : FZ F W O M M1) (hn : ¬ F a k) : zI M1 a k = zI M a k := by unfold zI; rw [h.1 a k hn]
theorem FZ.fr (h : FZ F W O M M1) (hn : ¬ F a k) : fR M1 a k = fR M a k := by unfold fR; rw [h.1 a k hn]
theorem FZ.fl (h : FZ F W O M M1) (hn : ¬ F a k) : fL M1 a k = fL M a k := by unfold fL; rw [h.1 a k hn]
theorem FZ.rn (h : FZ F W O M M1) (hn : ¬ W b) : rN M1 b j = rN M b j := by unfold rN; rw [h.2.1 b hn]
theorem FZ.on (h : FZ F W O M M1) (hn : ¬ O b) : oN M1 b j = oN M b j := by unfold oN; rw [h.2.2 b hn]
theorem FZ.wI (h : W a) : FZ F W O M (wI M a j x) := ⟨fun _ _ _ => fV_wI, fun b hb => rwL_wI_ne (fun q => hb (q ▸ h)), fun _ _ => roL_wI⟩
theorem FZ.wF (h : F a k) : FZ F W O M (wF M a k x) := ⟨fun b i hb => fV_wF_ne (fun q => hb (by rw [q.1, q.2]; exact h)), fun _ _ => rwL_wF, fun _ _ => roL_wF⟩
theorem FZ.wR (h : F a k) : FZ F W O M (wR M a k r) := ⟨fun b i hb => fV_wR_ne (fun q => hb (by rw [q.1, q.2]; exact h)), fun _ _ => rwL_wR, fun _ _ => roL_wR⟩
theorem FZ.wO (h : O a) : FZ F W O M (wO M a j r) := ⟨fun _ _ _ => fV_wO, fun _ _ => rwL_wO, fun b hb => roL_wO_ne (fun q => hb (q ▸ h))⟩
theorem FZ.wL (h : W a) : FZ F W O M (wL M a l) := ⟨fun _ _ _ => fV_wL, fun b hb => rwL_wL_ne (fun q => hb (q ▸ h)), fun _ _ => roL_wL⟩
theorem FZ.wA (h : W a) : FZ F W O M (wA M a x) := FZ.wL h
theorem FZ.wC (h : W b) : FZ F W O M (wC M a b) := FZ.wL h
theorem FA.fp {F : List (Nat × Nat)} {W : List Nat} (h : FA F W M M1) : FZ (fun a k => (a, k) ∈ F) (fun a => a ∈ W) (fun _ => False) M M1 := ⟨fun a k q => h.1 a k q, fun b q => h.2.1 b q, fun b _ => h.2.2 b⟩
end FPP
/-! CONDITIONS, evaluated: what the parser writes is well formed, and never deep -/
/-- what is asked of a CELL -/
def atC (c : Cdq) : Prop := 0 ≤ c.1.toInt ∧ (c.1.toInt ≤ 7 ∨ (8 ≤ c.1.toInt ∧ c.1.toInt ≤ 11 ∧ (c.2.1 = 60 ∨ c.2.1 = 61 ∨ c.2.1 = 62) ∧ 0 ≤ c.2.2.toInt ∧ c.2.2.toInt ≤ 999))
theorem atC.no {c : Cdq} (h : atC c) : c.1 ≠ 20 ∧ c.1 ≠ 21 ∧ c.1 ≠ 22 := by
  have e0 : (20 : Int32).toInt = 20 := rfl
  have e1 : (21 : Int32).toInt = 21 := rfl
  have e2 : (22 : Int32).toInt = 22 := rfl
  obtain ⟨h0, h⟩ := h
  refine ⟨fun q => ?_, fun q => ?_, fun q => ?_⟩ <;> rw [q] at h0 h <;> rcases h with h | ⟨_, h, _⟩ <;> omega
/-- steps well formed, d values lying on the pile, 32 at most; one is left -/
def okC : List Cdq → Nat → Prop
  | [], d => d = 1
  | c :: r, d => if c.1 = 20 then 1 ≤ d ∧ okC r d else if c.1 = 21 ∨ c.1 = 22 then 2 ≤ d ∧ okC r (d - 1) else atC c ∧ d < 32 ∧ okC r (d + 1)
/-- one value more, no more than m deep -/
def GC (cs : List Cdq) (m : Nat) : Prop := ∀ (d : Nat) (r : List Cdq), d + m ≤ 32 → okC r (d + 1) → okC (cs ++ r) d
theorem GC.atom (c : Cdq) (h : atC c) : GC [c] 1 := by
  intro d r hd hr
  show (if c.1 = 20 then _ else _)
  rw [if_neg h.no.1, if_neg (fun q => q.elim h.no.2.1 h.no.2.2)]
  exact ⟨h, by omega, hr⟩
theorem GC.nott (cs : List Cdq) (m : Nat) (h : GC cs m) : GC (cs ++ [(20, 0, 0)]) m := by
  intro d r hd hr
  rw [List.append_assoc]
  refine h d _ hd ?_
  show (if (20 : Int32) = 20 then _ else _)
  rw [if_pos rfl]
  exact ⟨by omega, hr⟩
theorem GC.bin (as bs : List Cdq) (m k : Nat) (c : Int32) (h1 : GC as m) (h2 : GC bs k) (hc : c = 21 ∨ c = 22) : GC (as ++ (bs ++ [(c, 0, 0)])) (max m (k + 1)) := by
  intro d r hd hr
  rw [List.append_assoc, List.append_assoc]
  refine h1 d _ (by omega) (h2 (d + 1) _ (by omega) ?_)
  have h20 : ¬ c = 20 := by rcases hc with rfl | rfl <;> decide
  show (if c = 20 then _ else _)
  rw [if_neg h20, if_pos hc]
  exact ⟨by omega, hr⟩
theorem GC.ok {cs : List Cdq} {m : Nat} (h : GC cs m) (hm : m ≤ 32) : okC cs 0 := by
  have := h 0 [] (by omega) rfl
  rw [List.append_nil] at this
  exact this
/-- what a COND comes to, its steps one by one; the pile's top is the head -/
def evC (tr : Cdq → Bool) : List Cdq → List Bool → List Bool
  | [], st => st
  | c :: r, st => evC tr r (if c.1 = 20 then (match st with
      | x :: q => (!x) :: q
      | [] => []) else if c.1 = 21 then (match st with
      | y :: x :: q => (x && y) :: q
      | _ => []) else if c.1 = 22 then (match st with
      | y :: x :: q => (x || y) :: q
      | _ => []) else tr c :: st)
section WFC
variable {B : Nat → Int32}
def bO (dep : Nat) : Nat := 1 + 2 * (11 - dep)
def TKn (ts : List Tok) : Prop := ∀ t ∈ ts, t.1 = 3 → 0 ≤ t.2.2.2.toInt ∧ t.2.2.2.toInt ≤ 999
theorem TKn.tl {ts : List Tok} (h : TKn ts) : TKn ts.tail := fun t ht => h t (List.mem_of_mem_tail ht)
theorem TKn.hd {ts : List Tok} (h : TKn ts) (h3 : (hdT ts).1 = 3) : 0 ≤ (hdT ts).2.2.2.toInt ∧ (hdT ts).2.2.2.toInt ≤ 999 := by
  cases ts with
  | nil => exact absurd h3 (show ¬ (0 : Int32) = 3 by decide)
  | cons t r => exact h t List.mem_cons_self h3
def WO (b : Nat → Nat) (O : Nat → Sg → PR) : Prop := ∀ dep s s2, TKn s.1 → O dep s = .inl s2 → TKn s2.1 ∧ ∃ cs m, s2.2.2 = s.2.2 ++ cs ∧ GC cs m ∧ m ≤ b dep
theorem mr_wf {w : List Int32} {c : Int32} {O : Nat → Sg → PR} {b : Nat → Nat} {dep : Nat} (hc : c = 21 ∨ c = 22) (hO : WO b O) : ∀ (j : Nat) (s s2 : Sg) (X cs : List Cdq) (m : Nat), TKn s.1 → s.2.2 = X ++ cs → GC cs m → m ≤ b dep + 1 → mrB B w c O dep j s = .inl s2 → TKn s2.1 ∧ ∃ cs' m', s2.2.2 = X ++ cs' ∧ GC cs' m' ∧ m' ≤ b dep + 1 := by
  intro j
  induction j with
  | zero =>
    intro s s2 X cs m ht h1 h2 h3 h
    cases h
    exact ⟨ht, cs, m, h1, h2, h3⟩
  | succ j ih =>
    intro s s2 X cs m ht h1 h2 h3 h
    unfold mrB at h
    by_cases hw : wdS B (hdT s.1) = w
    · rw [if_pos hw] at h
      cases ho : O dep (s.1.tail, s.2.1, s.2.2) with
      | inr f => rw [ho] at h; cases h
      | inl s3 =>
        rw [ho] at h
        obtain ⟨ht3, ds, k, e1, e2, e3⟩ := hO dep _ _ ht.tl ho
        refine ih (s3.1, s3.2.1, s3.2.2 ++ [(c, 0, 0)]) s2 X (cs ++ (ds ++ [(c, 0, 0)])) (max m (k + 1)) ht3 ?_ (GC.bin cs ds m k c h2 e2 hc) (by omega) h
        show s3.2.2 ++ [(c, 0, 0)] = X ++ (cs ++ (ds ++ [(c, 0, 0)]))
        rw [e1]
        show (s.2.2 ++ ds) ++ [(c, 0, 0)] = _
        rw [h1]
        simp only [List.append_assoc]
    · rw [if_neg hw] at h
      cases h
      exact ⟨ht, cs, m, h1, h2, h3⟩
theorem all_wf {O : Nat → Sg → PR} {b : Nat → Nat} (hO : WO b O) : WO (fun d => b d + 1) (allB B O) := by
  intro dep s s2 ht h
  unfold allB at h
  cases ho : O dep s with
  | inr f => rw [ho] at h; cases h
  | inl s3 =>
    rw [ho] at h
    obtain ⟨ht3, cs, m, e1, e2, e3⟩ := hO dep _ _ ht ho
    exact mr_wf (Or.inl rfl) hO 40 s3 s2 s.2.2 cs m ht3 e1 e2 (by omega) h
theorem con_wf {A : Nat → Sg → PR} {b : Nat → Nat} (hA : WO b A) : WO (fun d => b d + 1) (conB B A) := by
  intro dep s s2 ht h
  unfold conB at h
  cases ho : A dep s with
  | inr f => rw [ho] at h; cases h
  | inl s3 =>
    rw [ho] at h
    obtain ⟨ht3, cs, m, e1, e2, e3⟩ := hA dep _ _ ht ho
    exact mr_wf (Or.inr rfl) hA 40 s3 s2 s.2.2 cs m ht3 e1 e2 (by omega) h
theorem ix13 {w : List Int32} (h : ¬ ixF w oneW 0 < 0) : 0 ≤ (ixF w oneW 0).toInt ∧ (ixF w oneW 0).toInt ≤ 12 := by
  have z0 : (0 : Int32).toInt = 0 := rfl
  have hl : (oneW.length : Int) = 13 := rfl
  rcases ixF_bd (w := w) oneW 0 (by decide) (by decide) with q | ⟨q1, q2, _⟩
  · rw [q] at h
    exact absurd (by decide) h
  · omega
theorem one_wf {C O : Nat → Sg → PR} (hC : WO (fun d => bO d + 2) C) (hO : WO bO O) : WO bO (oneB B C O) := by
  intro dep s s2 ht h
  have e12 : (12 : Int32).toInt = 12 := rfl
  have e8 : (8 : Int32).toInt = 8 := rfl
  unfold oneB at h
  by_cases h1 : ixF (wdS B (hdT s.1)) oneW 0 < 0 ∧ (hdT s.1).1 ≠ 40
  · rw [if_pos h1] at h
    cases h
  · rw [if_neg h1] at h
    by_cases h2 : 40 ≤ s.2.1 ∨ 10 < dep
    · rw [if_pos h2] at h
      cases h
    · rw [if_neg h2] at h
      have hd : dep ≤ 10 := by omega
      by_cases h3 : ixF (wdS B (hdT s.1)) oneW 0 < 0
      · rw [if_pos h3] at h
        cases hc : C (dep + 1) (s.1.tail, s.2.1 + 1, s.2.2) with
        | inr f => rw [hc] at h; cases h
        | inl s3 =>
          rw [hc] at h
          obtain ⟨ht3, cs, m, e1, e2, e3⟩ := hC _ _ _ ht.tl hc
          have h : (if (hdT s3.1).1 ≠ 41 then (.inr (1, (hdT s3.1).2.1) : PR) else .inl (s3.1.tail, s3.2.1, s3.2.2)) = .inl s2 := h
          by_cases h4 : (hdT s3.1).1 ≠ 41
          · rw [if_pos h4] at h
            cases h
          · rw [if_neg h4] at h
            cases h
            exact ⟨ht3.tl, cs, m, e1, e2, by have e3 : m ≤ bO (dep + 1) + 2 := e3; unfold bO at e3 ⊢; omega⟩
      · rw [if_neg h3] at h
        obtain ⟨i1, i2⟩ := ix13 h3
        by_cases h4 : ixF (wdS B (hdT s.1)) oneW 0 = 12
        · rw [if_pos h4] at h
          cases hc : O (dep + 1) (s.1.tail, s.2.1 + 1, s.2.2) with
          | inr f => rw [hc] at h; cases h
          | inl s3 =>
            rw [hc] at h
            cases h
            obtain ⟨ht3, cs, m, e1, e2, e3⟩ := hO _ _ _ ht.tl hc
            refine ⟨ht3, cs ++ [(20, 0, 0)], m, ?_, GC.nott cs m e2, by unfold bO at e3 ⊢; omega⟩
            show s3.2.2 ++ [(20, 0, 0)] = _
            rw [e1, List.append_assoc]
        · rw [if_neg h4] at h
          have i3 : (ixF (wdS B (hdT s.1)) oneW 0).toInt ≤ 11 := by
            have : (ixF (wdS B (hdT s.1)) oneW 0).toInt ≠ 12 := fun q => h4 (Int32.toInt_inj.mp (q.trans e12.symm))
            omega
          have b1 : 1 ≤ bO dep := by unfold bO; omega
          by_cases h5 : 8 ≤ ixF (wdS B (hdT s.1)) oneW 0
          · rw [if_pos h5] at h
            rw [Int32.le_iff_toInt_le] at h5
            unfold cmpS at h
            by_cases g1 : (hdT s.1.tail).1 ≠ 60 ∧ (hdT s.1.tail).1 ≠ 61 ∧ (hdT s.1.tail).1 ≠ 62
            · rw [if_pos g1] at h
              cases h
            · rw [if_neg g1] at h
              by_cases g2 : (hdT s.1.tail.tail).1 ≠ 3
              · rw [if_pos g2] at h
                cases h
              · rw [if_neg g2] at h
                cases h
                have g3 := ht.tl.tl.hd (Decidable.not_not.mp g2)
                refine ⟨ht.tl.tl.tl, _, 1, rfl, GC.atom _ ⟨i1, Or.inr ⟨(by show (8 : Int) ≤ (ixF (wdS B (hdT s.1)) oneW 0).toInt; omega), i3, ?_, g3⟩⟩, b1⟩
                show (hdT s.1.tail).1 = 60 ∨ (hdT s.1.tail).1 = 61 ∨ (hdT s.1.tail).1 = 62
                by_cases q1 : (hdT s.1.tail).1 = 60
                · exact Or.inl q1
                · by_cases q2 : (hdT s.1.tail).1 = 61
                  · exact Or.inr (Or.inl q2)
                  · by_cases q3 : (hdT s.1.tail).1 = 62
                    · exact Or.inr (Or.inr q3)
                    · exact absurd ⟨q1, q2, q3⟩ g1
          · rw [if_neg h5] at h
            rw [Int32.le_iff_toInt_le] at h5
            cases h
            exact ⟨ht.tl, _, 1, rfl, GC.atom _ ⟨i1, Or.inl (by show (ixF (wdS B (hdT s.1)) oneW 0).toInt ≤ (7 : Int); omega)⟩, b1⟩
theorem pr_wf : ∀ d : Nat, WO (fun d => bO d + 2) (prS B d).1 ∧ WO (fun d => bO d + 1) (prS B d).2.1 ∧ WO bO (prS B d).2.2 := by
  intro d
  induction d with
  | zero => exact ⟨fun _ _ _ _ h => (by cases h), fun _ _ _ _ h => (by cases h), fun _ _ _ _ h => (by cases h)⟩
  | succ d ih =>
    exact ⟨con_wf ih.2.1, all_wf ih.2.2, one_wf ih.1 ih.2.2⟩
end WFC
/-! LINES of a text that was read: each has its steps, well formed -/
section LWF
variable {B : Nat → Int32}
/-- a line's numbers -/
def nuOK (x m nu : Int32) : Prop := 0 ≤ nu.toInt ∧ nu.toInt ≤ 999 ∧ (x = 5 → nu.toInt ≤ 99 ∧ 0 ≤ m.toInt ∧ m.toInt ≤ 6) ∧ (x = 2 → 1 ≤ nu.toInt) ∧ (x = 7 → nu.toInt ≤ 9)
def LSt (s : Sg) (ls : List Lnq) (x : Int32) (q : Sg × List Lnq) : Prop := TKn q.1.1 ∧ ∃ m nu cs, nuOK x m nu ∧ q.2 = ls ++ [(x, m, nu, s.2.2.length, (s.2.2 ++ cs).length)] ∧ q.1.2.2 = s.2.2 ++ cs ∧ (cs = [] ∨ ∃ k, k ≤ 23 ∧ GC cs k)
def CW (C : Sg → PR) : Prop := ∀ s s2, TKn s.1 → C s = .inl s2 → TKn s2.1 ∧ ∃ cs k, s2.2.2 = s.2.2 ++ cs ∧ GC cs k ∧ k ≤ 23
theorem pr_cw (d : Nat) : CW ((prS B d).1 1) := fun s s2 ht h => (pr_wf (B := B) d).1 1 s s2 ht h
theorem end_st {s s2 : Sg} {ls : List Lnq} {x m nu : Int32} {q : Sg × List Lnq} {cs : List Cdq} (hn : nuOK x m nu) (ht : TKn s2.1) (h1 : s2.2.2 = s.2.2 ++ cs) (h2 : cs = [] ∨ ∃ k, k ≤ 23 ∧ GC cs k) (h : endB s2 ls x m nu s.2.2.length = .inl q) : LSt s ls x q := by
  unfold endB at h
  split at h
  · cases h
  · cases h
    exact ⟨ht.tl, m, nu, cs, hn, by rw [h1], h1, h2⟩
theorem cnd_st {C : Sg → PR} (hC : CW C) {s : Sg} {ls : List Lnq} {x m nu : Int32} {q : Sg × List Lnq} (hn : nuOK x m nu) (ht : TKn s.1) (h : cndB B C s ls x m nu s.2.2.length = .inl q) : LSt s ls x q := by
  unfold cndB at h
  split at h
  · cases hc : C s with
    | inr f => rw [hc] at h; cases h
    | inl s2 =>
      rw [hc] at h
      obtain ⟨ht2, cs, k, e1, e2, e3⟩ := hC _ _ ht hc
      exact end_st hn ht2 e1 (Or.inr ⟨k, e3, e2⟩) h
  · split at h
    · cases hc : C (s.1.tail, s.2.1, s.2.2) with
      | inr f => rw [hc] at h; cases h
      | inl s2 =>
        rw [hc] at h
        obtain ⟨ht2, cs, k, e1, e2, e3⟩ := hC _ _ ht.tl hc
        exact end_st (s := s) hn ht2 e1 (Or.inr ⟨k, e3, e2⟩) h
    · exact end_st (cs := []) hn ht (List.append_nil _).symm (Or.inl rfl) h
theorem num_st {C : Sg → PR} (hC : CW C) {s : Sg} {ls : List Lnq} {x m : Int32} {q : Sg × List Lnq} (hm : x = 5 → 0 ≤ m.toInt ∧ m.toInt ≤ 6) (ht : TKn s.1) (h : numB B C s ls x m = .inl q) : LSt s ls x q := by
  unfold numB at h
  by_cases h3 : (hdT s.1).1 ≠ 3
  · rw [if_pos h3] at h
    cases h
  · rw [if_neg h3] at h
    have hd := ht.hd (Decidable.not_not.mp h3)
    split at h
    · cases h
    · rename_i hr
      refine cnd_st (s := (s.1.tail, s.2.1, s.2.2)) hC ?_ ht.tl h
      have e1 : (99 : Int32).toInt = 99 := rfl
      have e2 : (9 : Int32).toInt = 9 := rfl
      have e3 : (1 : Int32).toInt = 1 := rfl
      have r1 : ¬ mostS x < (hdT s.1).2.2.2 := fun q => hr (Or.inl q)
      rw [Int32.lt_iff_toInt_lt] at r1
      refine ⟨hd.1, hd.2, fun h5 => ⟨?_, hm h5⟩, fun h2 => ?_, fun h7 => ?_⟩
      · subst h5
        have r1 : ¬ (99 : Int32).toInt < _ := r1
        omega
      · have r2 : ¬ (hdT s.1).2.2.2 < 1 := fun q => hr (Or.inr ⟨h2, q⟩)
        rw [Int32.lt_iff_toInt_lt] at r2
        omega
      · subst h7
        have r1 : ¬ (9 : Int32).toInt < _ := r1
        omega
theorem bod_st {C : Sg → PR} (hC : CW C) {s : Sg} {ls : List Lnq} {x : Int32} {q : Sg × List Lnq} (ht : TKn s.1) (h : bodB B C s ls x = .inl q) : LSt s ls x q := by
  unfold bodB at h
  by_cases h1 : x = 6
  · rw [if_pos h1] at h
    rw [h1]
    exact cnd_st hC ⟨by decide, by decide, fun q => absurd q (by decide), fun q => absurd q (by decide), fun q => absurd q (by decide)⟩ ht h
  · rw [if_neg h1] at h
    by_cases h2 : x = 5
    · rw [if_pos h2] at h
      rw [h2]
      split at h
      · cases h
      · rename_i hm
        refine num_st (s := (s.1.tail, s.2.1, s.2.2)) hC (fun _ => ?_) ht.tl h
        have z0 : (0 : Int32).toInt = 0 := rfl
        have hl : (meaW.length : Int) = 7 := rfl
        rcases ixF_bd (w := wdS B (hdT s.1)) meaW 0 (by decide) (by decide) with q | ⟨q1, q2, _⟩
        · rw [q] at hm
          exact absurd (by decide) hm
        · omega
    · rw [if_neg h2] at h
      exact num_st hC (fun q => absurd q h2) ht h
theorem ln_st {law : Bool} {C : Sg → PR} (hC : CW C) {s : Sg} {ls : List Lnq} {q : Sg × List Lnq} (ht : TKn s.1) (h : lnB B law C s ls = .inl q) : LSt s ls (kdS B law (hdT s.1)) q := by
  unfold lnB at h
  split at h
  · cases h
  · split at h
    · cases h
    · exact bod_st (s := (s.1.tail, s.2.1, s.2.2)) hC ht.tl h
/-- a text well formed -/
def LW (q : Sg × List Lnq) : Prop := ∀ l ∈ q.2, nuOK l.1 l.2.1 l.2.2.1 ∧ l.2.2.2.1 ≤ l.2.2.2.2 ∧ l.2.2.2.2 ≤ q.1.2.2.length ∧ (l.2.2.2.1 = l.2.2.2.2 ∨ ∃ k, k ≤ 23 ∧ GC ((q.1.2.2.drop l.2.2.2.1).take (l.2.2.2.2 - l.2.2.2.1)) k)
theorem LW.add {s : Sg} {ls : List Lnq} {x : Int32} {q : Sg × List Lnq} (h : LW (s, ls)) (hq : LSt s ls x q) : LW q := by
  obtain ⟨_, m, nu, cs, e0, e1, e2, e3⟩ := hq
  intro l hl
  rw [e1] at hl
  rw [e2]
  rcases List.mem_append.mp hl with hl | hl
  · obtain ⟨a0, a1, a2, a3⟩ := h l hl
    have a2 : l.2.2.2.2 ≤ s.2.2.length := a2
    refine ⟨a0, a1, by rw [List.length_append]; omega, ?_⟩
    rcases a3 with a3 | ⟨k, k1, k2⟩
    · exact Or.inl a3
    · refine Or.inr ⟨k, k1, ?_⟩
      have k2 : GC ((s.2.2.drop l.2.2.2.1).take (l.2.2.2.2 - l.2.2.2.1)) k := k2
      rw [List.drop_append_of_le_length (by omega), List.take_append_of_le_length (by rw [List.length_drop]; omega)]
      exact k2
  · rw [List.mem_singleton] at hl
    subst hl
    refine ⟨e0, by rw [List.length_append]; exact Nat.le_add_right _ _, Nat.le_refl _, ?_⟩
    rcases e3 with rfl | ⟨k, k1, k2⟩
    · exact Or.inl (by rw [List.append_nil])
    · refine Or.inr ⟨k, k1, ?_⟩
      show GC (((s.2.2 ++ cs).drop s.2.2.length).take ((s.2.2 ++ cs).length - s.2.2.length)) k
      rw [List.drop_left, List.length_append, Nat.add_sub_cancel_left, List.take_length]
      exact k2
theorem tx_wf {law : Bool} {C : Sg → PR} {big : Bool} (hC : CW C) : ∀ (j : Nat) (s : Sg) (ls : List Lnq) (q : Sg × List Lnq), TKn s.1 → LW (s, ls) → txB B law C big j s ls = .inl q → LW q := by
  intro j
  induction j with
  | zero =>
    intro s ls q _ _ h
    cases h
  | succ j ih =>
    intro s ls q ht hw h
    unfold txB at h
    split at h
    · cases big with
      | true => cases h
      | false => cases h; exact hw
    · cases hr : lnB B law C s ls with
      | inr f => rw [hr] at h; cases h
      | inl q2 =>
        rw [hr] at h
        have hl := ln_st hC ht hr
        exact ih q2.1 q2.2 q hl.1 (hw.add hl) h
theorem tl_nu {n : Nat} (hn : n ≤ 440) : ∀ m p, n - p ≤ m → p ≤ n → TKn (tlS B n p) := by
  intro m
  induction m with
  | zero =>
    intro p h1 h2
    have hm := mn4_le (n := n)
    rw [tlS_end h2 (by omega)]
    intro t ht
    rw [List.mem_singleton.mp ht]
    exact fun h => absurd h (show ¬ (0 : Int32) = 3 by decide)
  | succ m ih =>
    intro p h1 h2
    have hm := mn4_le (n := n)
    by_cases h : mn4 n ≤ p
    · rw [tlS_end h2 h]
      intro t ht
      rw [List.mem_singleton.mp ht]
      exact fun h => absurd h (show ¬ (0 : Int32) = 3 by decide)
    · by_cases hb : B p = 32 ∨ B p = 10
      · rw [tlS_bl h hb]
        exact ih (p + 1) (by omega) (by omega)
      · have hnu : 0 ≤ (tokS B n p).2.2.2.toInt ∧ (tokS B n p).2.2.2.toInt ≤ 999 := by
          unfold tokS
          split
          · exact ⟨Int.le_refl 0, (by decide : (0 : Int32).toInt ≤ 999)⟩
          · have := rlS_le (B := B) (n - p) p
            have h := cfS_nv (B := B) (rlS B (n - p) p) p (0, 0, 0) 0 (fun j hj => rlS_al _ _ _ hj) ⟨by decide, by decide, by decide, by decide, by decide, by decide, by decide⟩ (by omega)
            exact ⟨h.2.2.1, h.2.2.2.1⟩
        by_cases h1 : (tokS B n p).1 = 1
        · rw [tlS_no h hb h1]
          intro t ht
          rw [List.mem_singleton.mp ht]
          exact fun _ => hnu
        · rw [tlS_tok h hb h1]
          have h3 := tokS_lt (B := B) (n := n) (p := p)
          have h4 := tokS_le (B := B) (n := n) (p := p) (by omega)
          intro t ht
          rcases List.mem_cons.mp ht with rfl | ht
          · exact fun _ => hnu
          · exact ih _ (by omega) h4 t ht
theorem rd_wf {n d : Nat} {law : Bool} {q : Sg × List Lnq} (hn : n ≤ 440) (h : rdB B n law ((prS B d).1 1) = .inl q) : LW q := tx_wf (pr_cw d) 17 _ [] q (tl_nu hn n 0 (by omega) (by omega)) (fun l hl => by cases hl) h
end LWF
/-! THE WALKING, in itself: THE PARK as the reference's row holds it -/
abbrev PK : Type := Nat → Int32
abbrev TQ : Type := Sg × List Lnq
noncomputable def uPk (P : PK) (i : Nat) (x : Int32) : PK := fun j => if j = i then x else P j
noncomputable def cX (f : Nat) (c : Int32) : Nat := 522 + 7 * c.toInt.toNat + f
noncomputable def cE (P : PK) (f : Nat) (c : Int32) : Int32 := P (cX f c)
noncomputable def bdQ (q : TQ) : Int32 := tvS q.2 2 40
noncomputable def mdQ (q : TQ) : Int32 := tvS q.2 3 50
noncomputable def dyQ (q : TQ) : Int32 := tvS q.2 4 10
noncomputable def siQ (q : TQ) : Int32 := tvS q.2 7 3
noncomputable def cmpV (v s n : Int32) : Bool := if s = 60 then decide (v < n) else if s = 61 then decide (v = n) else decide (n < v)
/-- what a step asks of a CELL -/
noncomputable def trP (g : TQ) (P : PK) (c : Int32) (k : Cdq) : Bool :=
  if k.1 = 0 then decide (cE P 0 c = 0) else if k.1 = 1 then decide (cE P 0 c = 1) else if k.1 = 2 then decide (cE P 0 c = 2) else if k.1 = 3 then decide (cE P 0 c = 4) else if k.1 = 4 then decide (cE P 0 c = 5) else if k.1 = 5 then decide (cE P 1 c = 1)
  else if k.1 = 6 then decide (bdQ g ≤ cE P 3 c ∧ mdQ g ≤ cE P 4 c) else if k.1 = 7 then decide (bdQ g ≤ cE P 3 c)
  else cmpV (if k.1 = 8 then cE P 3 c else if k.1 = 9 then cE P 4 c else if k.1 = 10 then cE P 2 c else cE P 5 c) k.2.1 k.2.2
noncomputable def segC (q : TQ) (l : Lnq) : List Cdq := (q.1.2.2.drop l.2.2.2.1).take (l.2.2.2.2 - l.2.2.2.1)
noncomputable def hldP (g : TQ) (P : PK) (q : TQ) (l : Lnq) (c : Int32) : Bool := if l.2.2.2.1 = l.2.2.2.2 then true else (evC (trP g P c) (segC q l) []).headD true
/-- the NUMBER of the first line of a kind that holds -/
noncomputable def fstL (g : TQ) (P : PK) (k c d : Int32) : List Lnq → Int32
  | [] => d
  | l :: r => if l.1 = k ∧ hldP g P g l c = true then l.2.2.1 else fstL g P k c d r
noncomputable def nevL (g : TQ) (P : PK) (q : TQ) (c : Int32) : List Lnq → Bool
  | [] => false
  | l :: r => if l.1 = 6 ∧ hldP g P q l c = true then true else nevL g P q c r
noncomputable def absI (x : Int32) : Int32 := if x < 0 then -x else x
noncomputable def acrP (P : PK) (a b : Int32) : Int32 := absI ((a - a / P 0 * P 0) - (b - b / P 0 * P 0))
noncomputable def aloP (P : PK) (a b : Int32) : Int32 := absI (a / P 0 - b / P 0)
noncomputable def dstP (P : PK) (c goal : Int32) : Int32 := if aloP P c goal < acrP P c goal then 10 * acrP P c goal + 4 * aloP P c goal else 10 * aloP P c goal + 4 * acrP P c goal
noncomputable def besP (P : PK) (c d : Int32) : Int32 := besI (P 0) (P 1) c d
def grnP (P : PK) (c : Int32) : Prop := cE P 0 c = 0 ∨ cE P 0 c = 2
def opnP (P : PK) (c : Int32) : Prop := cE P 0 c ≠ 3 ∧ cE P 0 c ≠ 6
noncomputable def grnB (P : PK) (c : Int32) : Bool := decide (cE P 0 c = 0) || decide (cE P 0 c = 2)
noncomputable def opnB (P : PK) (c : Int32) : Bool := !decide (cE P 0 c = 3) && !decide (cE P 0 c = 6)
noncomputable def wrnB (g : TQ) (P : PK) (c : Int32) : Bool := decide (bdQ g ≤ cE P 3 c)
noncomputable def seeP (g : TQ) (P : PK) (d : Int32) : Nat → Int32 → Int32 → Int32
  | 0, _, n => n
  | k + 1, v, n => if v < 0 ∨ opnB P v = false then n else seeP g P d k (besP P v d) (n + (if wrnB g P v = true then 1 else 0))
/-- how many of the first k WALKERS are on a CELL -/
noncomputable def crdP (P : PK) (c : Int32) : Nat → Int32
  | 0 => 0
  | k + 1 => crdP P c k + (if P (158 + 6 * k) = c then 1 else 0)
/-- a walker: here, goal, way of the last step, where from; alone -/
abbrev WC : Type := Int32 × Int32 × Int32 × Int32 × Bool
noncomputable def meaQ (g : TQ) (P : PK) (q : TQ) (w : WC) (c d m : Int32) : Int32 :=
  if m = 0 then (if grnB P c = true ∧ ¬ bdQ g ≤ cE P 3 c then (bdQ g - cE P 3 c) / 10 else 0)
  else if m = 1 then cE P 4 c / 10
  else if m = 2 then absI (cE P 2 c - cE P 2 w.1)
  else if m = 3 then (if w.2.2.2.2 = true then 0 else crdP P c (P 157).toInt.toNat)
  else if m = 4 then (if 0 ≤ w.2.2.1 ∧ ¬ w.2.2.1 = d then 1 else 0)
  else if m = 5 then (if c = w.2.2.2.1 then 1 else 0)
  else seeP g P d (siQ q).toInt.toNat c 0
noncomputable def weiL (g : TQ) (P : PK) (q : TQ) (w : WC) (c d : Int32) : List Lnq → Int32 → Int32
  | [], v => v
  | l :: r, v => weiL g P q w c d r (if l.1 = 5 ∧ hldP g P q l c = true then (v + (if l.2.1 = 6 then -(l.2.2.1 * meaQ g P q w c d l.2.1) else l.2.2.1 * meaQ g P q w c d l.2.1)) else v)
noncomputable def weiP (g : TQ) (P : PK) (q : TQ) (w : WC) (c d : Int32) : Int32 := weiL g P q w c d q.2 (dstP P c w.2.1)
/-- the way to the goal, if it is beside: k ways left, d the next -/
noncomputable def toP (P : PK) (here goal : Int32) : Nat → Int32 → Int32
  | 0, _ => -1
  | k + 1, d => if besP P here d = goal then d else toP P here goal k (d + 1)
noncomputable def badB (g : TQ) (P : PK) (q : TQ) (c : Int32) : Bool := decide (c < 0) || (!opnB P c || nevL g P q c q.2)
noncomputable def bstP (g : TQ) (P : PK) (q : TQ) (w : WC) : Nat → Int32 → Int32 → Int32 → Int32
  | 0, _, b, _ => b
  | k + 1, d, b, le => if badB g P q (besP P w.1 d) = true ∨ (0 ≤ b ∧ le ≤ weiP g P q w (besP P w.1 d) d) then bstP g P q w k (d + 1) b le else bstP g P q w k (d + 1) d (weiP g P q w (besP P w.1 d) d)
noncomputable def choP (g : TQ) (P : PK) (q : TQ) (w : WC) : Int32 := if toP P w.1 w.2.1 8 0 < 0 then bstP g P q w 8 0 (-1) 0 else toP P w.1 w.2.1 8 0
/-- a step on a CELL; the second: on which CELLS steps came, the latest first -/
abbrev PS : Type := PK × List Int32
noncomputable def weaP (g : TQ) (P : PK) (c : Int32) : PK := if grnB P c = true then uPk P (cX 3 c) (if 999 < cE P 3 c + fstL g P 0 c 5 g.2 then 999 else cE P 3 c + fstL g P 0 c 5 g.2) else P
noncomputable def trdP (g : TQ) (P : PK) (c : Int32) : PK := uPk (uPk (weaP g P c) (cX 5 c) (cE (weaP g P c) 5 c + 1)) (cX 6 c) (cE (uPk (weaP g P c) (cX 5 c) (cE (weaP g P c) 5 c + 1)) 6 c + 1)
noncomputable def wxP (P : PK) (k : Nat) : Nat := 13 + 6 * (P (158 + 6 * k + 1)).toInt.toNat
noncomputable def golP (P : PK) (k : Nat) : Int32 := P (3 + (P (wxP P k + 1)).toInt.toNat)
noncomputable def wcP (P : PK) (k : Nat) : WC := (P (158 + 6 * k), golP P k, P (158 + 6 * k + 3), P (158 + 6 * k + 4), false)
noncomputable def hbP (P : PK) (k : Nat) : Nat := 1 + (P (wxP P k + 2)).toInt.toNat
/-- the texts: the LAW, and behind it the HABITS -/
abbrev TS : Type := Nat → TQ
noncomputable def dirP (T : TS) (P : PK) (k : Nat) : Int32 := choP (T 0) P (T (hbP P k)) (wcP P k)
noncomputable def movP (P : PK) (k : Nat) (d : Int32) : PK := uPk (uPk (uPk P (158 + 6 * k + 3) d) (158 + 6 * k + 4) (P (158 + 6 * k))) (158 + 6 * k) (besP P (P (158 + 6 * k)) d)
/-- the k-th WALKER's step; then whether it stays one -/
noncomputable def ageP (P : PK) (k : Nat) : PK := uPk P (158 + 6 * k + 2) (P (158 + 6 * k + 2) + 1)
noncomputable def stpP (T : TS) (p : PS) (k : Nat) : PS := if dirP T p.1 k < 0 then (ageP p.1 k, p.2) else (trdP (T 0) (movP (ageP p.1 k) k (dirP T p.1 k)) (besP p.1 (p.1 (158 + 6 * k)) (dirP T p.1 k)), besP p.1 (p.1 (158 + 6 * k)) (dirP T p.1 k) :: p.2)
noncomputable def goeP (T : TS) (p : PS) (k : Nat) : PS × Bool :=
  if (stpP T p k).1 (158 + 6 * k) = golP p.1 k then ((uPk (stpP T p k).1 519 ((stpP T p k).1 519 + 1), (stpP T p k).2), false)
  else if (stpP T p k).1 (158 + 6 * k + 2) < 200 then (stpP T p k, true)
  else ((uPk (stpP T p k).1 520 ((stpP T p k).1 520 + 1), (stpP T p k).2), false)
noncomputable def leaP (P : PK) (k : Nat) : PK := fun j =>
  if j = 157 then P 157 - 1
  else if 158 + 6 * k ≤ j ∧ j < 158 + 6 * (P 157 - 1).toInt.toNat then P (j + 6)
  else if 158 + 6 * (P 157 - 1).toInt.toNat ≤ j ∧ j < 158 + 6 * (P 157 - 1).toInt.toNat + 6 then 0 else P j
noncomputable def wlkP (T : TS) : Nat → Nat → PS → PS
  | 0, _, p => p
  | n + 1, k, p => if (goeP T p k).2 = true then wlkP T n (k + 1) (goeP T p k).1 else wlkP T n k (leaP (goeP T p k).1.1 k, (goeP T p k).1.2)
noncomputable def remI (x y : Int32) : Int32 := x - x / y * y
noncomputable def dueB (P : PK) (k : Nat) : Bool := !decide (P (13 + 6 * k + 5) = 0) && (!decide (P 518 < P (13 + 6 * k + 4)) && decide (remI (P 518 - P (13 + 6 * k + 4)) (P (13 + 6 * k + 3)) = 0))
noncomputable def newP (P : PK) (k : Nat) : PK :=
  uPk (uPk (uPk (uPk (uPk (uPk P (158 + 6 * (P 157).toInt.toNat) (P (3 + (P (13 + 6 * k)).toInt.toNat))) (158 + 6 * (P 157).toInt.toNat + 1) (nI k)) (158 + 6 * (P 157).toInt.toNat + 2) 0) (158 + 6 * (P 157).toInt.toNat + 3) (-1)) (158 + 6 * (P 157).toInt.toNat + 4) (-1)) 157 (P 157 + 1)
noncomputable def begP : Nat → Nat → PK → PK
  | 0, _, P => P
  | n + 1, k, P => if dueB P k = true then (if P 157 = 60 then begP n (k + 1) (uPk P 521 (P 521 + 1)) else begP n (k + 1) (newP P k)) else begP n (k + 1) P
noncomputable def bg0P (P : PK) : PK := begP (P 12).toInt.toNat 0 P
noncomputable def tckP (T : TS) (p : PS) : PS := (fun r : PS => ((uPk r.1 518 (r.1 518 + 1), r.2) : PS)) (wlkP T (bg0P p.1 157).toInt.toNat 0 (bg0P p.1, p.2))
noncomputable def tksP (T : TS) : Nat → PS → PS
  | 0, p => p
  | n + 1, p => tksP T n (tckP T p)
/-- a WEEK ends -/
noncomputable def clsP (P : PK) : Nat := (P 0).toInt.toNat * (P 1).toInt.toNat
noncomputable def max0 (x : Int32) : Int32 := if x < 0 then 0 else x
noncomputable def wk1P (g : TQ) (P : PK) (c : Int32) : PK := uPk (uPk P (cX 3 c) (max0 (cE P 3 c - fstL g P 1 c 10 g.2))) (cX 4 c) (max0 (cE P 4 c - dyQ g))
noncomputable def wkaP (g : TQ) : Nat → Int32 → PK → PK
  | 0, _, P => P
  | n + 1, c, P => wkaP g n (c + 1) (wk1P g P c)
noncomputable def zerP (f : Nat) : Nat → Int32 → PK → PK
  | 0, _, P => P
  | n + 1, c, P => zerP f n (c + 1) (uPk P (cX f c) 0)
noncomputable def wekP (g : TQ) (P : PK) : PK := zerP 5 (clsP P) 0 (wkaP g (clsP P) 0 P)
noncomputable def netP (g : TQ) (P : PK) : Nat → Int32 → Int32 → Int32
  | 0, _, n => n
  | k + 1, c, n => netP g P k (c + 1) (n + (if wrnB g P c = true then 1 else 0))
noncomputable def nwP (g : TQ) (P : PK) : Int32 := netP g P (clsP P) 0 0
noncomputable def wksP (T : TS) (t : Nat) (P : PK) : PK := wekP (T 0) (tksP T t (P, [])).1
