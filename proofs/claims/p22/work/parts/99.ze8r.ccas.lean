/-! THE CLASS'S calls that keep the state: rests, paved, wait, pieces, least, longer -/
set_option maxRecDepth 200000 in
theorem mx_all : (gNth mRs 15).map (fun q => q.2.2.2.1) = some 3 ∧ (gNth mRs 16).map (fun q => q.2.2.2.1) = some 4 ∧ (gNth mRs 17).map (fun q => q.2.2.2.1) = some 5 ∧ (gNth mRs 18).map (fun q => q.2.2.2.1) = some 4 ∧ (gNth mRs 19).map (fun q => q.2.2.2.1) = some 7 ∧ (gNth mRs 21).map (fun q => q.2.2.2.1) = some 7 ∧ (gNth mRs 133).map (fun q => q.2.2.2.1) = some 1 ∧ (gNth mRs 134).map (fun q => q.2.2.2.1) = some 2 := by refine ⟨?_, ?_, ?_, ?_, ?_, ?_, ?_, ?_⟩ <;> decide +kernel
set_option maxRecDepth 200000 in
theorem cls_small : (sG.all (fun t => match t with
  | .inl (ci, _) => Nat.blt ci 12
  | .inr _ => true)) = true := by decide +kernel
set_option maxRecDepth 200000 in
theorem gr_net : ((List.range 664).all (fun a => match gNth sT a with
  | some g => !([42, 43, 44, 47, 48, 49, 50, 51, 52, 53, 54, 55].any (fun c => Nat.beq c g)) || Nat.ble 193 a && Nat.blt a 243
  | none => false)) = true := by decide +kernel
set_option maxRecDepth 200000 in
theorem gr_snow : ((List.range 664).all (fun a => match gNth sT a with
  | some g => (match gNth sG g with
    | some (.inl (ci, _)) => !(Nat.beq ci 4) || Nat.beq a 229
    | _ => true)
  | none => false)) = true := by decide +kernel
def netF (a _k : Nat) : Prop := a = 229 ∨ 664 ≤ a
def netW (a : Nat) : Prop := (193 ≤ a ∧ a < 243) ∨ 664 ≤ a
def netM (md : Md) : Bool := md.all (fun q => [4, 1042, 1043, 1044, 1047, 1048, 1049, 1050, 1051, 1052, 1053, 1054, 1055].any (fun c => Nat.beq c q.1))
section CCAS
variable {e B L a0 k0 : Nat} {wsv : List Value} {T T' : TS} {P P' P0 Q : PK} {PI : Nat → PK} {md : Md} {M M0 M1 M' : Mem} {v : Option Value} {c k d x a b t y ws w : Int32} {n i j tt : Nat} {ss : List Int32} {F : Nat → Nat → Prop} {W O : Nat → Prop}
theorem net_g (ha : a0 < 664) : ∃ g, gNth sT a0 = some g ∧ (g ∈ [42, 43, 44, 47, 48, 49, 50, 51, 52, 53, 54, 55] → 193 ≤ a0 ∧ a0 < 243) := by
  have q := List.all_eq_true.mp gr_net a0 (List.mem_range.mpr ha)
  cases hT : gNth sT a0 with
  | none => rw [hT] at q; cases q
  | some g =>
    rw [hT] at q
    refine ⟨g, rfl, fun hg => ?_⟩
    have q : (!([42, 43, 44, 47, 48, 49, 50, 51, 52, 53, 54, 55].any (fun c => Nat.beq c g)) || Nat.ble 193 a0 && Nat.blt a0 243) = true := q
    have h1 : [42, 43, 44, 47, 48, 49, 50, 51, 52, 53, 54, 55].any (fun c => Nat.beq c g) = true := List.any_eq_true.mpr ⟨g, hg, Nat.beq_refl g⟩
    rw [h1] at q
    have q : (Nat.ble 193 a0 && Nat.blt a0 243) = true := q
    obtain ⟨q1, q2⟩ := and_t q
    exact ⟨Nat.le_of_ble_eq_true q1, Nat.le_of_ble_eq_true q2⟩
theorem net_md (hm : netM md = true) {q : Nat × Nat} (hq : q ∈ md) : q.1 ∈ [4, 1042, 1043, 1044, 1047, 1048, 1049, 1050, 1051, 1052, 1053, 1054, 1055] := any_beq (List.all_eq_true.mp hm q hq)
theorem net_mF (hm : netM md = true) (h : mF md a0 k0) : netF a0 k0 := by
  unfold netF
  rcases Nat.lt_or_ge a0 664 with ha | ha
  · obtain ⟨g, h1, _⟩ := net_g ha
    rcases h with h | ⟨g2, ci, fs, h2, h3, h4⟩
    · rw [h1] at h; cases h
    · have hmem : (.inl (ci, fs) : CT) ∈ sG := by
        rw [nth_eq] at h3
        exact List.mem_of_getElem? h3
      have q : Nat.blt ci 12 = true := List.all_eq_true.mp cls_small _ hmem
      have q : ci < 12 := Nat.le_of_ble_eq_true q
      have r : ci ∈ [4, 1042, 1043, 1044, 1047, 1048, 1049, 1050, 1051, 1052, 1053, 1054, 1055] := net_md hm h4
      simp only [List.mem_cons, List.not_mem_nil, or_false] at r
      have r4 : ci = 4 := by omega
      subst r4
      have s := List.all_eq_true.mp gr_snow a0 (List.mem_range.mpr ha)
      rw [h2] at s
      dsimp only at s
      rw [h3] at s
      have s : (!(Nat.beq 4 4) || Nat.beq a0 229) = true := s
      have s : Nat.beq a0 229 = true := s
      exact Or.inl (Nat.eq_of_beq_eq_true s)
  · exact Or.inr ha
theorem net_mW (hm : netM md = true) (h : mW md a0) : netW a0 := by
  unfold netW
  rcases Nat.lt_or_ge a0 664 with ha | ha
  · obtain ⟨g, h1, h5⟩ := net_g ha
    rcases h with h | ⟨g2, h2, h4⟩
    · rw [h1] at h; cases h
    · rw [h1] at h2
      cases h2
      have r : 1000 + g ∈ [4, 1042, 1043, 1044, 1047, 1048, 1049, 1050, 1051, 1052, 1053, 1054, 1055] := net_md hm h4
      simp only [List.mem_cons, List.not_mem_nil, or_false] at r
      exact Or.inl (h5 (by simp only [List.mem_cons, List.not_mem_nil, or_false]; omega))
  · exact Or.inr ha
/-- rows of the net alone change -/
theorem net_fz (hS : SH M) (hF : Frm sT md M M') (hm : netM md = true) : FZ netF netW netW M M' := (frm_fz hS hF).more (fun _ _ q => net_mF hm q) (fun _ q => net_mW hm q) (fun _ q => net_mW hm q)
theorem STA.nt (h : STA L T P M) (hD : okD P) (hS : SQ M') (hF : FZ netF netW netW M M') : STA L T P M' := by
  have hl := ld_cases h.ld
  obtain ⟨a1, a2, a3, a4, a5, a6, a7⟩ := h
  have fw : ∀ a, a < 193 ∨ (243 ≤ a ∧ a < 664) → ¬ netW a := fun a ha q => by unfold netW at q; omega
  have ff : ∀ a k, a < 193 ∨ (243 ≤ a ∧ a < 664) → ¬ netF a k := fun a k ha q => by unfold netF at q; omega
  have ok : okF L netF netW netW := ⟨⟨ff _ _ (by decide), ff _ _ (by decide)⟩, fun t ht => by
    have := tx_cases ht
    exact ⟨fun k => ff _ _ (by omega), fun k k1 k8 => fw _ (by omega)⟩, ⟨fw _ (by decide), fw _ (by decide)⟩, fw _ (by decide), fw _ (by decide), fw _ (by decide)⟩
  have cr : ∀ c, inC P c → rI M' (L + 8) c = crdP P c (P 157).toInt.toNat := fun c hc => (hF.rn (fw _ (by omega))).trans (a1.2.2.2.2.2.2.2 c hc)
  have lc : LCel L P M' := fun k f hk hf => (hF.rn (fw _ (by omega))).trans (a1.1.2.2.2.2.2.2 k f hk hf)
  exact ⟨a1.mv hS hF ok lc rfl rfl a1.2.2.1 cr, a2.mv rfl rfl (fun _ _ => rfl) (fun b j hb => hF.rn (fw _ (by unfold lkW at hb; omega))), a3.mv hF (ff _ _ (by omega)) (ff _ _ (by omega)) (ff _ _ (by omega)) (ff _ _ (by omega)) (fun k f _ => ff _ _ (by omega)) (fw _ (by omega)) (fun _ _ => rfl) hD.2.1.2.1 hD.2.2.2.1, ⟨(hF.fi (ff _ _ (by omega))).trans a4.1, (hF.fi (ff _ _ (by omega))).trans a4.2.1, (hF.fi (ff _ _ (by omega))).trans a4.2.2.1, (hF.fi (ff _ _ (by omega))).trans a4.2.2.2⟩, fun k hk => (hF.on (fw _ (by omega))).trans (a5 k hk), a6.on (fun j => hF.on (fw _ (by omega))), (hF.fi (ff _ _ (by decide))).trans a7⟩
theorem LST.nt (h : LST L P M) (hL : gNth sT L = some 8) (hk : WKs L M) (k60 : (P 157).toInt ≤ 60) (hF : FZ netF netW netW M M') : LST L P M' := by
  have hl := ld_cases hL
  refine ⟨(hF.fi (by unfold netF; omega)).trans h.1, fun k hkk => ?_⟩
  have bq := hk.2 k (by omega)
  rw [hF.on (by unfold netW; omega)]
  exact (h.2 k hkk).eq (fun f _ => hF.fi (by unfold netF; omega)) (fun j _ => rfl)
theorem CST.nt (h : CST T P PI M) (hS : SQ M') (hF : FZ netF netW netW M M') : CST T P PI M' := by
  have fw : ∀ a, a < 193 ∨ (243 ≤ a ∧ a < 664) → ¬ netW a := fun a ha q => by unfold netW at q; omega
  have ff : ∀ a k, a < 193 ∨ (243 ≤ a ∧ a < 664) → ¬ netF a k := fun a k ha q => by unfold netF at q; omega
  refine h.scr hS hF ⟨ff _ _ (by decide), ff _ _ (by decide), ff _ _ (by decide)⟩ (fun L hL _ => ⟨fun a k q1 q2 => ?_, fun a q1 q2 => ?_⟩) (fun t ht => ⟨fun k => ?_, fun k k1 k8 => ?_⟩) ⟨fw _ (by decide), fw _ (by decide), fw _ (by decide)⟩ (fun L hL _ => ?_) (fun L hL => ⟨fun k hk => ?_, ?_⟩) (h.2.2.2.2.1.fz hF (ff _ _ (by decide)) (ff _ _ (by decide)) (fun a h1 h2 => fw _ (by omega))) (fw _ (by decide))
  · have := ld_cases hL
    exact ff _ _ (by omega)
  · have := ld_cases hL
    exact fw _ (by omega)
  · have := tx_cases ht
    exact ff _ _ (by omega)
  · have := tx_cases ht
    exact fw _ (by omega)
  · have := ld_cases hL
    exact fw _ (by omega)
  · have := ld_cases hL
    exact (hF.on (fw _ (by omega))).trans ((h.2.2.2.2.2.1 L hL).1 k hk)
  · have := ld_cases hL
    exact (h.2.2.2.2.2.1 L hL).2.on (fun j => hF.on (fw _ (by omega)))
theorem TRI.nt (h : TRI T P0 PI B w ss P M) (hS : SQ M') (hF : FZ netF netW netW M M') : TRI T P0 PI B w ss P M' := by
  obtain ⟨hC, hX, hl, hD, hK, hE, hf⟩ := h
  exact ⟨hC.nt hS hF, hX.nt hD hS hF, hl.nt hX.ld hX.2.2.2.2.2.1 hK.2.1 hF, hD, hK, hE, ⟨(hF.fi (by unfold netF; decide)).trans hf.1, (hF.fi (by unfold netF; decide)).trans hf.2⟩⟩
/-- a call of the net's that changes its rows alone -/
theorem net_call {cn : CN} {mx : Nat} {wsv : List Value} (hc : cnOK sT sG FL0 cn) (hB : (invC cn && (fxM cn.2.2.2.2.2.1 && netM cn.2.2.2.2.2.1)) = true) (hm : (gNth mRs cn.1).map (fun q => q.2.2.2.1) = some mx) (hd : cn.2.1 ≤ e) (ha : Two (taOK sT) cn.2.2.1 wsv) (hI : INV M) (hX : FX M) (H : Ev none e cn.1 0 (gPad mx (gArgs wsv)) [] M v M' 0 0) : INV M' ∧ SQ M' ∧ FZ netF netW netW M M' ∧ ∃ s ∈ cn.2.2.2.2.2.2, csOK sT FL0 wsv v M' s := by
  obtain ⟨b1, hB⟩ := and_t hB
  obtain ⟨b2, b3⟩ := and_t hB
  obtain ⟨q1, q2, q3⟩ := inv_d hc b1 hm hd ha hI H
  exact ⟨q1, ⟨q1.1.sh, hX.frm hI.1.sh q2 b2⟩, net_fz hI.1.sh q2 b3, q3⟩
theorem ret_n {cs : List CS} (h : (cs.all (fun s => match s.1 with | none => true | some _ => false)) = true) (hs : ∃ s ∈ cs, csOK sT FL0 wsv v M' s) : v = none := by
  obtain ⟨s, hs, hcs, _⟩ := hs
  have q := List.all_eq_true.mp h s hs
  cases hv : s.1 with
  | some t => rw [hv] at q; cases q
  | none =>
    rw [hv] at hcs
    cases v with
    | none => rfl
    | some w => exact hcs.elim
theorem ret_i {cs : List CS} (h : (cs.all (fun s => match s.1 with | some (.inl _) => true | _ => false)) = true) (hs : ∃ s ∈ cs, csOK sT FL0 wsv v M' s) : ∃ r, v = some (.int r) := by
  obtain ⟨s, hs, hcs, _⟩ := hs
  have q := List.all_eq_true.mp h s hs
  cases hv : s.1 with
  | none => rw [hv] at q; cases q
  | some t =>
    rw [hv] at hcs q
    cases v with
    | none => exact hcs.elim
    | some w =>
      rcases t with ⟨lo, hi⟩ | n
      · obtain ⟨x, rfl, _⟩ := hcs
        exact ⟨x, rfl⟩
      · cases q
theorem keepC (hI : INV M) (hX : FX M) (he : 1 ≤ e) (H : Ev none e 15 0 [some (.ref 192), some (.int x), none] [] M v M' 0 0) : v = none ∧ INV M' ∧ SQ M' ∧ FZ netF netW netW M M' := by
  obtain ⟨q1, q2, q3, q4⟩ := net_call (cn := kX2_keep) (mx := 3) (wsv := [.ref 192, .int x]) kX2_keep_ok (by decide +kernel) mx_all.1 he (Two.mk rfl (Two.mk ⟨x, rfl, i32_any x⟩ trivial)) hI hX H
  exact ⟨ret_n (by decide) q4, q1, q2, q3⟩
theorem aloneC (hI : INV M) (hX : FX M) (he : 1 ≤ e) (hx : 0 ≤ x.toInt ∧ x.toInt ≤ 20) (hy : 0 ≤ y.toInt ∧ y.toInt ≤ 20) (H : Ev none e 17 0 [some (.ref 192), some (.int x), some (.int y), none, none] [] M v M' 0 0) : (∃ r, v = some (.int r)) ∧ INV M' ∧ SQ M' ∧ FZ netF netW netW M M' := by
  obtain ⟨q1, q2, q3, q4⟩ := net_call (cn := kX2_alone) (mx := 5) (wsv := [.ref 192, .int x, .int y]) kX2_alone_ok (by decide +kernel) mx_all.2.2.1 he (Two.mk rfl (Two.mk ⟨x, rfl, hx⟩ (Two.mk ⟨y, rfl, hy⟩ trivial))) hI hX H
  obtain ⟨r, hr⟩ := ret_i (by decide) q4
  exact ⟨⟨r, hr⟩, q1, q2, q3⟩
theorem sizeC (hI : INV M) (hX : FX M) (he : 1 ≤ e) (hx : 0 ≤ x.toInt ∧ x.toInt ≤ 20) (H : Ev none e 16 0 [some (.ref 192), some (.int x), none, none] [] M v M' 0 0) : (∃ r, v = some (.int r)) ∧ INV M' ∧ SQ M' ∧ FZ netF netW netW M M' := by
  obtain ⟨q1, q2, q3, q4⟩ := net_call (cn := kX2_size) (mx := 4) (wsv := [.ref 192, .int x]) kX2_size_ok (by decide +kernel) mx_all.2.1 he (Two.mk rfl (Two.mk ⟨x, rfl, hx⟩ trivial)) hI hX H
  obtain ⟨r, hr⟩ := ret_i (by decide) q4
  exact ⟨⟨r, hr⟩, q1, q2, q3⟩
theorem opcI (hI : INV M) (he : 4 ≤ e) (H : Ev none e 133 0 [some (.ref 0)] [] M v M' 0 0) : INV M' := (inv_d (c := kX10_openCase) (k := 1) (ws := [.ref 0]) kX10_openCase_ok (by decide +kernel) mx_all.2.2.2.2.2.2.1 he (Two.mk rfl trivial) hI H).1
theorem onkI (hI : INV M) (he : 7 ≤ e) (H : Ev none e 134 0 [some (.ref 0), some (.int t)] [] M v M' 0 0) : INV M' := (inv_d (c := kX10_oneWeek) (k := 2) (ws := [.ref 0, .int t]) kX10_oneWeek_ok (by decide +kernel) mx_all.2.2.2.2.2.2.2 he (Two.mk rfl (Two.mk ⟨t, rfl, i32_any t⟩ trivial)) hI H).1
theorem rsc_l (ht : t.toInt = (tt : Int)) (t200 : tt ≤ 200) (he : 8 ≤ e) : ∀ (r : Nat) (nz : Int32) (B : Nat) (P : PK) (M : Mem), TRI T P0 PI B (-1) [] P M → INV M → nz.toInt + (r : Int) = w.toInt + 1 → 1 ≤ nz.toInt → w.toInt ≤ 40 → B + 60 * tt * r ≤ 100000000 → Ev none e 99 38 [some (.ref 0), some (.int w), some (.int t), some (.int nz)] [] M v M' 0 0 → CST T P0 PI M' := by
  intro r
  induction r with
  | zero =>
    intro nz B P M h hI hw h1 w40 hB H
    rcases rsc_38 h.2.1.sq H with ⟨_, _, r2⟩ | ⟨a1, _⟩
    · rw [r2]; exact h.1
    · exact absurd (Int32.lt_iff_toInt_lt.mpr (by omega)) a1
  | succ r ih =>
    intro nz B P M h hI hw h1 w40 hB H
    rcases rsc_38 h.2.1.sq H with ⟨_, _, r2⟩ | ⟨_, e1, v1, M1, he1, H1, H⟩
    · rw [r2]; exact h.1
    · have hm : 60 * tt * (r + 1) = 60 * tt * r + 60 * tt := by rw [Nat.mul_add, Nat.mul_one]
      have I1 := onkI hI (by omega) H1
      obtain ⟨rv, q1, _⟩ := onk_ok h (n := tt) (by omega) ht H1
      rw [rv] at H
      obtain ⟨e2, v2, M2, he2, H2, H⟩ := rsc_48 q1.2.1.sq H
      obtain ⟨rv2, I2, S2, F2⟩ := keepC I1 q1.2.1.sq.2 (by omega) H2
      rw [rv2] at H
      have q2 := q1.nt S2 F2
      obtain ⟨e3, v3, M3, he3, H3, H⟩ := rsc_58 q2.2.1.sq H
      obtain ⟨⟨p, rv3⟩, I3, S3, F3⟩ := aloneC I2 S2.2 (by omega) (by decide) (by decide) H3
      rw [rv3] at H
      have q3 := q2.nt S3 F3
      obtain ⟨e4, v4, M4, he4, H4, H⟩ := rsc_67 q3.2.1.sq H
      obtain ⟨⟨p4, rv4⟩, I4, S4, F4⟩ := aloneC I3 S3.2 (by omega) (by decide) (by decide) H4
      rw [rv4] at H
      have q4 := q3.nt S4 F4
      rcases rsc_76 q4.2.1.sq H with ⟨_, _, r2⟩ | ⟨_, H⟩
      · rw [r2]; exact q4.1
      · exact ih (nz + 1) (B + 60 * tt) _ M4 q4 I4 (by rw [i32_p1 (by omega)]; omega) (by rw [i32_p1 (by omega)]; omega) w40 (by omega) H
theorem restsS_ok (h : CST T P PI M) (hI : INV M) (he : 9 ≤ e) (H : Ev none e 99 0 [some (.ref 0), some (.int w), some (.int t), none] [] M v M' 0 0) : CST T P PI M' := by
  rcases rsc_0 h.sq H with ⟨_, _, r2⟩ | ⟨_, _, _, r2⟩ | ⟨a1, a2, e1, v1, M1, he1, H1, H⟩
  · rw [r2]; exact h
  · rw [r2]; exact h
  · rw [g126_R, Classical.not_not] at a1 a2
    have w1 : 1 ≤ w.toInt := a1.1
    have w40 : w.toInt ≤ 40 := a1.2
    have t1 : 1 ≤ t.toInt := a2.1
    have t200 : t.toInt ≤ 200 := a2.2
    obtain ⟨rv, q1, _⟩ := opcT_ok h H1
    rw [rv] at H
    have I1 := opcI hI (by omega) H1
    obtain ⟨e2, v2, M2, he2, H2, H⟩ := rsc_28 q1.2.1.sq H
    obtain ⟨rv2, I2, S2, F2⟩ := keepC I1 q1.2.1.sq.2 (by omega) H2
    rw [rv2] at H
    have q2 := q1.nt S2 F2
    have hb := h.ok.bud
    have hm : 60 * t.toInt.toNat * w.toInt.toNat ≤ 60 * 200 * 40 := Nat.mul_le_mul (Nat.mul_le_mul_left _ (by omega)) (by omega)
    exact rsc_l (tt := t.toInt.toNat) (by omega) (by omega) (by omega) w.toInt.toNat 1 _ _ M2 q2 I2 (by have z1 : (1 : Int32).toInt = 1 := rfl; omega) (by decide) w40 (by omega) (rsc_36 q2.2.1.sq H)
theorem kwk_l (ht : t.toInt = (tt : Int)) (t200 : tt ≤ 200) (he : 8 ≤ e) : ∀ (r : Nat) (nz : Int32) (B : Nat) (P : PK) (M : Mem), TRI T P0 PI B (-1) [] P M → INV M → nz.toInt + (r : Int) = w.toInt + 1 → 1 ≤ nz.toInt → w.toInt ≤ 20 → B + 60 * tt * r ≤ 100000000 → Ev none e 107 6 [some (.ref 0), some (.int w), some (.int t), some (.int nz)] [] M v M' 0 0 → v = none ∧ CST T P0 PI M' ∧ INV M' := by
  intro r
  induction r with
  | zero =>
    intro nz B P M h hI hw h1 w40 hB H
    rcases kwk_6 h.2.1.sq H with ⟨_, r1, r2⟩ | ⟨a1, _⟩
    · rw [r2]; exact ⟨r1, h.1, hI⟩
    · exact absurd (Int32.lt_iff_toInt_lt.mpr (by omega)) a1
  | succ r ih =>
    intro nz B P M h hI hw h1 w40 hB H
    rcases kwk_6 h.2.1.sq H with ⟨_, r1, r2⟩ | ⟨_, e1, v1, M1, he1, H1, H⟩
    · rw [r2]; exact ⟨r1, h.1, hI⟩
    · have hm : 60 * tt * (r + 1) = 60 * tt * r + 60 * tt := by rw [Nat.mul_add, Nat.mul_one]
      have I1 := onkI hI (by omega) H1
      obtain ⟨rv, q1, _⟩ := onk_ok h (n := tt) (by omega) ht H1
      rw [rv] at H
      obtain ⟨e2, v2, M2, he2, H2, H⟩ := kwk_16 q1.2.1.sq H
      obtain ⟨rv2, I2, S2, F2⟩ := keepC I1 q1.2.1.sq.2 (by omega) H2
      rw [rv2] at H
      have q2 := q1.nt S2 F2
      exact ih (nz + 1) (B + 60 * tt) _ M2 q2 I2 (by rw [i32_p1 (by omega)]; omega) (by rw [i32_p1 (by omega)]; omega) w40 (by omega) (kwk_24 q2.2.1.sq H)
theorem kwkS_ok (h : CST T P PI M) (hI : INV M) (he : 9 ≤ e) (w1 : 1 ≤ w.toInt ∧ w.toInt ≤ 20) (t1 : 1 ≤ t.toInt ∧ t.toInt ≤ 200) (H : Ev none e 107 0 [some (.ref 0), some (.int w), some (.int t), none] [] M v M' 0 0) : v = none ∧ CST T P PI M' ∧ INV M' := by
  obtain ⟨e1, v1, M1, he1, H1, H⟩ := kwk_0 h.sq H
  obtain ⟨rv, q1, _⟩ := opcT_ok h H1
  rw [rv] at H
  have I1 := opcI hI (by omega) H1
  have hb := h.ok.bud
  have hm : 60 * t.toInt.toNat * w.toInt.toNat ≤ 60 * 200 * 20 := Nat.mul_le_mul (Nat.mul_le_mul_left _ (by omega)) (by omega)
  exact kwk_l (tt := t.toInt.toNat) (by omega) (by omega) (by omega) w.toInt.toNat 1 _ _ M1 q1 I1 (by have z1 : (1 : Int32).toInt = 1 := rfl; omega) (by decide) w1.2 (by omega) (kwk_4 q1.2.1.sq H)
theorem g106_R : G_106 M ws t = 0 ↔ ¬ (inX ws 1 20 ∧ inX t 1 200) := by
  unfold G_106
  by_cases h1 : G_126 M ws 1 20 = 0
  · rw [if_pos h1]
    rw [g126_R] at h1
    exact ⟨fun _ q => h1 q.1, fun _ => rfl⟩
  · rw [if_neg h1]
    rw [g126_R, Classical.not_not] at h1
    by_cases h2 : G_126 M t 1 200 = 0
    · rw [if_pos h2]
      rw [g126_R] at h2
      exact ⟨fun _ q => h2 q.2, fun _ => rfl⟩
    · rw [if_neg h2]
      rw [g126_R, Classical.not_not] at h2
      exact ⟨fun q => absurd q (by decide), fun q => absurd ⟨h1, h2⟩ q⟩
theorem pavedS_ok (h : CST T P PI M) (hI : INV M) (he : 10 ≤ e) (H : Ev none e 104 0 [some (.ref 0), some (.int w), some (.int ws), some (.int t), some (.int x)] [] M v M' 0 0) : CST T P PI M' := by
  rcases pvd_0 h.sq H with ⟨_, _, r2⟩ | ⟨_, _, _, r2⟩ | ⟨_, _, _, _, r2⟩ | ⟨a1, a2, a3, e1, v1, M1, he1, H1, H⟩
  · rw [r2]; exact h
  · rw [r2]; exact h
  · rw [r2]; exact h
  · rw [g106_R, Classical.not_not] at a1
    rw [g126_R, Classical.not_not] at a2
    have w1 : 1 ≤ ws.toInt := a1.1.1
    have w20 : ws.toInt ≤ 20 := a1.1.2
    have b1 : 1 ≤ w.toInt := a2.1
    have b2 : w.toInt ≤ ws.toInt := a2.2
    obtain ⟨rv, q1, I1⟩ := kwkS_ok h hI (by omega) ⟨w1, w20⟩ a1.2 H1
    rw [rv] at H
    rcases pvd_36 q1.sq H with ⟨_, e2, v2, M2, he2, H2, H⟩ | ⟨_, _, e2, v2, M2, he2, H2, H⟩ | ⟨_, _, e2, v2, M2, he2, H2, H⟩
    · obtain ⟨⟨p, rv2⟩, I2, S2, F2⟩ := sizeC I1 q1.sq.2 (by omega) ⟨by omega, by omega⟩ H2
      rw [rv2] at H
      obtain ⟨_, r2⟩ := pvd_72 S2 H
      rw [r2]
      exact q1.nt S2 F2
    · obtain ⟨⟨p, rv2⟩, I2, S2, F2⟩ := aloneC I1 q1.sq.2 (by omega) ⟨by omega, by omega⟩ ⟨by omega, by omega⟩ H2
      rw [rv2] at H
      obtain ⟨_, r2⟩ := pvd_82 S2 H
      rw [r2]
      exact q1.nt S2 F2
    · obtain ⟨⟨p, rv2⟩, I2, S2, F2⟩ := aloneC I1 q1.sq.2 (by omega) ⟨by omega, by omega⟩ ⟨by omega, by omega⟩ H2
      rw [rv2] at H
      obtain ⟨_, r2⟩ := pvd_92 S2 H
      rw [r2]
      exact q1.nt S2 F2
theorem wai_l (hws : ws.toInt ≤ 20) (he : 2 ≤ e) : ∀ (r : Nat) (wz be le : Int32) (c6 : Option Value) (M : Mem), CST T P PI M → INV M → wz.toInt + (r : Int) = ws.toInt + 1 → 1 ≤ wz.toInt → Ev none e 105 27 [some (.ref 0), some (.int ws), some (.int t), some (.int be), some (.int le), some (.int wz), c6] [] M v M' 0 0 → CST T P PI M' := by
  intro r
  induction r with
  | zero =>
    intro wz be le c6 M h hI hw h1 H
    rcases wai_27 h.sq H with ⟨_, _, r2⟩ | ⟨a1, _⟩
    · rw [r2]; exact h
    · exact absurd (Int32.lt_iff_toInt_lt.mpr (by omega)) a1
  | succ r ih =>
    intro wz be le c6 M h hI hw h1 H
    rcases wai_27 h.sq H with ⟨_, _, r2⟩ | ⟨_, e2, v2, M2, he2, H2, H⟩
    · rw [r2]; exact h
    · obtain ⟨⟨p, rv2⟩, I2, S2, F2⟩ := aloneC hI h.sq.2 (by omega) ⟨by omega, by omega⟩ ⟨by omega, by omega⟩ H2
      rw [rv2] at H
      have c2 := h.nt S2 F2
      obtain ⟨e3, v3, M3, he3, H3, H⟩ := wai_43 S2 H
      obtain ⟨⟨p3, rv3⟩, I3, S3, F3⟩ := aloneC I2 S2.2 (by omega) ⟨by omega, by omega⟩ ⟨by omega, by omega⟩ H3
      rw [rv3] at H
      have c3 := c2.nt S3 F3
      rcases wai_53 S3 H with ⟨_, H⟩ | ⟨_, H⟩
      · exact ih (wz + 1) _ _ _ M3 c3 I3 (by rw [i32_p1 (by omega)]; omega) (by rw [i32_p1 (by omega)]; omega) H
      · exact ih (wz + 1) _ _ _ M3 c3 I3 (by rw [i32_p1 (by omega)]; omega) (by rw [i32_p1 (by omega)]; omega) H
theorem waitS_ok (h : CST T P PI M) (hI : INV M) (he : 10 ≤ e) (H : Ev none e 105 0 [some (.ref 0), some (.int ws), some (.int t), none, none, none, none] [] M v M' 0 0) : CST T P PI M' := by
  rcases wai_0 h.sq H with ⟨_, _, r2⟩ | ⟨a1, e1, v1, M1, he1, H1, H⟩
  · rw [r2]; exact h
  · rw [g106_R, Classical.not_not] at a1
    have w1 : 1 ≤ ws.toInt := a1.1.1
    have w20 : ws.toInt ≤ 20 := a1.1.2
    obtain ⟨rv, q1, I1⟩ := kwkS_ok h hI (by omega) ⟨w1, w20⟩ a1.2 H1
    rw [rv] at H
    exact wai_l w20 (by omega) ws.toInt.toNat 1 1 276 none M1 q1 I1 (by have z1 : (1 : Int32).toInt = 1 := rfl; omega) (by decide) (wai_17 q1.sq H)
/-! pieces, least, longer -/
theorem CST.ent (h : CST T P PI M) (hI : INV M) (he : 4 ≤ e) (H : Ev none e 54 0 [some (.ref 104), some (.ref 8)] [] M v M' 0 0) : v = none ∧ CST T P PI M' ∧ STA 8 T P M' ∧ INV M' ∧ FZ enF enW noO M M' := by
  obtain ⟨rv1, b2, b3, b4, b5, b6⟩ := centr_ok h H
  refine ⟨rv1, h.wlk b4 (fun a k q => ?_) (fun a q => ?_) (fun a q => q.elim) b5 b2 b3 h.ok, b2, enter_inv hI h.sq.2 lnd_8 he H, b4⟩
  · unfold enF shgF at q
    omega
  · unfold enW shgW at q
    omega
theorem piecesS_ok (h : CST T P PI M) (hI : INV M) (he : 5 ≤ e) (H : Ev none e 98 0 [some (.ref 0)] [] M v M' 0 0) : CST T P PI M' := by
  obtain ⟨e1, v1, M1, he1, H1, H⟩ := pcs_0 h.sq h.ld H
  obtain ⟨rv1, c1, _, I1, _⟩ := h.ent hI (by omega) H1
  rw [rv1] at H
  obtain ⟨e2, v2, M2, he2, H2, H⟩ := pcs_11 c1.sq H
  obtain ⟨I2, S2, F2, q4⟩ := net_call (cn := kX2_parts) (mx := 4) (wsv := [.ref 192]) kX2_parts_ok (by decide +kernel) mx_all.2.2.2.1 (by show 3 ≤ e2; omega) (Two.mk rfl trivial) I1 c1.sq.2 H2
  obtain ⟨r, hr⟩ := ret_i (by decide) q4
  rw [hr] at H
  obtain ⟨_, r2⟩ := pcs_18 S2 H
  rw [r2]
  exact c1.nt S2 F2
theorem longerS_ok (h : CST T P PI M) (hI : INV M) (he : 6 ≤ e) (H : Ev none e 102 0 [some (.ref 0), some (.int a), some (.int b)] [] M v M' 0 0) : CST T P PI M' := by
  obtain ⟨e1, v1, M1, he1, H1, H⟩ := lon_0 h.sq H
  obtain ⟨rm, rv⟩ := twd_ok h H1
  rw [rm] at H
  rcases rv with ⟨ia, ib, nab, rv⟩ | ⟨_, rv⟩
  · rw [rv] at H
    rcases lon_6 h.sq h.ld H with ⟨q, _⟩ | ⟨_, e2, v2, M2, he2, H2, H⟩
    · exact absurd q (by decide)
    · obtain ⟨rv2, c2, _, I2, _⟩ := h.ent hI (by omega) H2
      rw [rv2] at H
      obtain ⟨_, _, e3, v3, M3, he3, H3, H⟩ := lon_23 c2.sq c2.ld H
      have dr : ∀ z : Int32, inD P z → 0 ≤ (rI M2 (8 + 9) z).toInt ∧ (rI M2 (8 + 9) z).toInt ≤ 255 := fun z hz => by
        have hz0 := hz.1
        have hz1 := hz.2
        have e : rI M2 (8 + 9) z = P (3 + z.toInt.toNat) := (rI_n (p := z.toInt.toNat) (by omega)).trans (c2.lan.1.2.2.1.2 z.toInt.toNat (by omega))
        have hc := (c2.ok.1.2.1.2.2 z.toInt.toNat (by omega)).lt c2.ok.1.1
        rw [e]
        omega
      obtain ⟨I4, S4, F4, q4⟩ := net_call (cn := kX2_hundredths) (mx := 7) (wsv := [.ref 192, .int (rI M2 (8 + 9) a), .int (rI M2 (8 + 9) b)]) kX2_hundredths_ok (by decide +kernel) mx_all.2.2.2.2.1 (by show 4 ≤ e3; omega) (Two.mk rfl (Two.mk ⟨_, rfl, dr a ia⟩ (Two.mk ⟨_, rfl, dr b ib⟩ trivial))) I2 c2.sq.2 H3
      obtain ⟨r, hr⟩ := ret_i (by decide) q4
      rw [hr] at H
      obtain ⟨_, r2⟩ := lon_48 S4 H
      rw [r2]
      exact c2.nt S4 F4
  · rw [rv] at H
    rcases lon_6 h.sq h.ld H with ⟨_, _, r2⟩ | ⟨a1, _⟩
    · rw [r2]; exact h
    · exact absurd rfl a1
end CCAS
