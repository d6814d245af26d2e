/-! WHAT STANDS, through the class's inner calls -/
section CTM
theorem gRep_l (n : Nat) (x : Int32) : (gRep n x).length = n := by
  induction n with
  | zero => rfl
  | succ n ih =>
    show (x :: gRep n x).length = _
    rw [List.length_cons, ih]
set_option maxRecDepth 200000 in
theorem tm_f : fiB 22 7 8 0 1 = true ∧ fiB 22 7 9 (-2147483648) 2147483647 = true ∧ fiB 22 7 10 0 1 = true ∧ fdB 22 7 7 8 = true ∧ fiB 8 1 0 4 16 = true ∧ fiB 8 1 1 4 16 = true := by refine ⟨?_, ?_, ?_, ?_, ?_, ?_⟩ <;> decide +kernel
set_option maxRecDepth 200000 in
theorem tm_37 : (match gNth sG 37 with
    | some (.inr (q, m, .inl [(0, m2, 1, [(x, y)])])) => Nat.beq q 1 && (Nat.beq m 1536 && (!Nat.beq q 2 && (Nat.beq m2 1536 && (decide (x ≤ -2147483648) && decide (2147483647 ≤ y)))))
    | _ => false) = true := by decide +kernel
set_option maxRecDepth 200000 in
theorem mx_1 : (gNth mRs 1).map (fun q => q.2.2.2.1) = some 5 := by decide +kernel
variable {a b g ci k g2 kd n d : Nat} {lo hi : Int} {x : Int32} {md : Md} {c : CN} {M M1 M' : Mem} {v : Option Value} {ws : List Value} {e L : Nat} {T : TS} {P : PK} {PI : Nat → PK}
theorem Ev.det2 {sc : Sta} {d me pc : Nat} {ls : Lo} {st : List Value} {M M1 M2 : Mem} {v1 v2 : Option Value} {c1 s1 c2 s2 : Nat} (h1 : Ev sc d me pc ls st M v1 M1 c1 s1) (h2 : Ev sc d me pc ls st M v2 M2 c2 s2) : v1 = v2 ∧ M1 = M2 := by
  obtain ⟨n1, h1⟩ := h1
  obtain ⟨n2, h2⟩ := h2
  have e1 := go_mono h1 n2
  have e2 := go_mono h2 n1
  rw [Nat.add_comm n2 n1] at e2
  have e3 := Option.some.inj (e1.symm.trans e2)
  exact ⟨congrArg (fun q => q.1) e3, congrArg (fun q => q.2.1) e3⟩
theorem inv_d (hc : cnOK sT sG FL0 c) (hB : invC c = true) (hm : (gNth mRs c.1).map (fun q => q.2.2.2.1) = some k) (hd : c.2.1 ≤ d) (ha : Two (taOK sT) c.2.2.1 ws) (hI : INV M) (H : Ev none d c.1 0 (gPad k (gArgs ws)) [] M v M' 0 0) : INV M' ∧ Frm sT c.2.2.2.2.2.1 M M' ∧ ∃ s ∈ c.2.2.2.2.2.2, csOK sT FL0 ws v M' s := by
  obtain ⟨v2, M2, h1, h2, h3, h4⟩ := inv_f hc hB hm hd ha hI
  obtain ⟨e1, e2⟩ := Ev.det2 H h1
  rw [e1, e2]
  exact ⟨h2, h3, h4⟩
theorem INV.frmT (h : INV M) (hT : TM sT sG M') (hF : Frm sT md M M') (hB : [24, 28, 32, 34].all (fun x => md.all (fun q => !mdIn (dp0 x) q.1 q.2)) = true) : INV M' := ⟨hT, fun x hx => by
  refine dp0_frm 0 x [] md M M' hF (fun q hq hm => ?_) (h.2 x hx)
  have h2 := List.all_eq_true.mp (List.all_eq_true.mp hB x (by simp only [List.mem_cons, List.not_mem_nil, or_false]; exact hx)) q hq
  rw [mdIn_iff.mpr hm] at h2
  cases h2⟩
theorem TM.wFi (hT : TM sT sG M) (ha : gNth sT a = some g) (hB : fiB g ci k lo hi = true) (h0 : lo ≤ x.toInt) (h1 : x.toInt ≤ hi) : TM sT sG (wF M a k x) ∧ Frm sT [(ci, k)] M (wF M a k x) := by
  obtain ⟨vs, y, g1, g2, _, _, _, h⟩ := hT.fnum ha hB
  have e : wF M a k x = gPut M a (.inr (ci, gPut vs k (.int x))) := by
    unfold wF
    rw [g1]
    dsimp only
    rw [g2]
  rw [e]
  exact ⟨h x h0 h1, Frm.fld g1 (by simp)⟩
theorem TM.wRr (hT : TM sT sG M) (ha : gNth sT a = some g) (hB : fdB g ci k g2 = true) (hb : gNth sT b = some g2) : TM sT sG (wR M a k b) ∧ Frm sT [(ci, k)] M (wR M a k b) := by
  unfold fdB at hB
  split at hB
  rotate_left
  · cases hB
  rename_i c fs e
  obtain ⟨h1, h2⟩ := and_t hB
  cases Nat.eq_of_beq_eq_true h1
  split at h2
  rotate_left
  · cases h2
  rename_i n e2
  cases Nat.eq_of_beq_eq_true h2
  obtain ⟨vs, m1, m2, m3⟩ := hT.obj ha e
  have eq : wR M a k b = gPut M a (.inr (ci, gPut vs k (.ref b))) := by
    unfold wR
    rw [m1]
  rw [eq]
  refine ⟨hT.oput ha e m1 e2 ?_, Frm.fld m1 (by simp)⟩
  show (∃ a, Value.ref b = .ref a ∧ gNth sT a = some (2 * g2 / 2)) ∨ _
  exact Or.inl ⟨b, rfl, by rw [show 2 * g2 / 2 = g2 by omega]; exact hb⟩
theorem TM.wAx (hT : TM sT sG M) (hS : SH M) (ha : gNth sT a = some g) (hW : wB g 1 n = true) (h : (match gNth sG g with
    | some (.inr (q, m, .inl [(0, m2, 1, [(x, y)])])) => Nat.beq q 1 && (Nat.beq m n && (!Nat.beq q 2 && (Nat.beq m2 n && (decide (x ≤ -2147483648) && decide (2147483647 ≤ y)))))
    | _ => false) = true) : TM sT sG (wA M a x) ∧ Frm sT [(1000 + g, 0)] M (wA M a x) := by
  obtain ⟨r1, r2⟩ := hS.row ha hW
  have e : wA M a x = gPut M a (.inl (1, .inl (gRep (zrw M a).length x))) := by
    unfold wA wL
    rw [r1]
  rw [e]
  refine ⟨hT.putrow (n := n) (lo := -2147483648) (hi := 2147483647) ha h (by rw [gRep_l, r2]) (fun _ x _ => i32_any x), Frm.row r1 ha (by simp)⟩
theorem LND.zi (hT : TM sT sG M) (hL : gNth sT L = some 8) : (4 ≤ (zI M L 0).toInt ∧ (zI M L 0).toInt ≤ 16) ∧ 4 ≤ (zI M L 1).toInt ∧ (zI M L 1).toInt ≤ 16 := by
  obtain ⟨vs, y, g1, g2, _, h0, h1, _⟩ := hT.fnum hL tm_f.2.2.2.2.1
  obtain ⟨vs2, y2, g3, g4, _, h2, h3, _⟩ := hT.fnum hL tm_f.2.2.2.2.2
  have e0 : zI M L 0 = y := by
    unfold zI fV
    rw [g1]
    dsimp only
    rw [g2]
  have e1 : zI M L 1 = y2 := by
    unfold zI fV
    rw [g3]
    dsimp only
    rw [g4]
  rw [e0, e1]
  exact ⟨⟨h0, h1⟩, h2, h3⟩
/-- enter keeps what stands -/
theorem enter_inv (hI : INV M) (hX : FX M) (hL : gNth sT L = some 8) (he : 4 ≤ e) (H : Ev none e 54 0 [some (.ref 104), some (.ref L)] [] M v M' 0 0) : INV M' := by
  have hS : SQ M := ⟨hI.1.sh, hX⟩
  obtain ⟨e1, v1, M1, he1, H1, H⟩ := ent_0 hS hL H
  have S0 : SQ (wR M 104 7 L) := hS.kr_22_7 hL
  obtain ⟨w1, w2⟩ := hI.1.wRr qa_104 tm_f.2.2.2.1 hL
  have I0 : INV (wR M 104 7 L) := hI.frmT w1 w2 (by decide +kernel)
  obtain ⟨q1, q2⟩ := LND.zi hI.1 hL
  obtain ⟨I1, F1, s, hs, hcs⟩ := inv_d (c := kX0_shape) (k := 5) (ws := [.ref 105, .int (zI M L 0), .int (zI M L 1)]) kX0_shape_ok (by decide +kernel) mx_1 (by show 2 ≤ e1; omega) (Two.mk rfl (Two.mk ⟨_, rfl, q1⟩ (Two.mk ⟨_, rfl, q2⟩ trivial))) I0 H1
  have hv : v1 = none := by
    have hs : s ∈ [(none, [], [], [], [])] := hs
    rw [List.mem_singleton] at hs
    subst hs
    cases v1 with
    | none => rfl
    | some w => exact hcs.1.elim
  rw [hv] at H
  have S1 : SQ M1 := ⟨I1.1.sh, S0.2.frm S0.1 F1 (by decide +kernel)⟩
  obtain ⟨_, eM⟩ := ent_26 S1 hL H
  obtain ⟨t1, f1⟩ := I1.1.wFi (x := 0) qa_104 tm_f.1 (by decide) (by decide)
  obtain ⟨t2, f2⟩ := t1.wFi (x := -1) qa_104 tm_f.2.1 (by decide) (by decide)
  obtain ⟨t3, f3⟩ := t2.wFi (x := 0) qa_104 tm_f.2.2.1 (by decide) (by decide)
  obtain ⟨t4, f4⟩ := t3.wAx (x := -1) t3.sh qa_128 qw_37 tm_37
  have eM2 : M' = wA (wF (wF (wF M1 104 8 0) 104 9 (-1)) 104 10 0) 128 (-1) := eM
  rw [eM2]
  have F : Frm sT [(7, 8), (7, 9), (7, 10), (1037, 0)] M1 (wA (wF (wF (wF M1 104 8 0) 104 9 (-1)) 104 10 0) 128 (-1)) := (((f1.more (by simp)).trans (f2.more (by simp))).trans (f3.more (by simp))).trans (f4.more (by simp))
  exact I1.frmT t4 F (by decide +kernel)
end CTM
