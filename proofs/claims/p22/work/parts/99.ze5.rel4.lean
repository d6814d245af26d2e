/-! BOTH SIDES BESIDE EACH OTHER, with the bytes of the tapes -/
def SV4 (M : Mem) : Prop := INV M ∧ ∃ z l lb lt, LC z M ∧ LR z M ∧ KC l M ∧ KR l M ∧ BC lb M ∧ BR lt M ∧ BBp z.toInt.toNat lb lt
noncomputable def byB (c : CN) : Bool := !mdIn c.2.2.2.2.2.1 1002 0 && !mdIn c.2.2.2.2.2.1 1062 0
theorem rel_c4 {cn : CN} {k : Nat} {z w : Int32} {M : Mem} {ws : List Value} {l lb lt : List Int32} (zz : Bool) (hok : cnOK sT sG FL0 cn) (hB : ((invC cn && relC zz cn) && byB cn) = true) (hm : (gNth mRs cn.1).map (fun q => q.2.2.2.1) = some k) (hd : cn.2.1 ≤ 999) (ha : Two (taOK sT) cn.2.2.1 ws) (hV : INV M) (hC : LC z M) (hR : LR w M) (hK : KC l M) (hL : KR l M) (hP : BC lb M) (hQ : BR lt M) : ∃ v M', Ev none 999 cn.1 0 (gPad k (gArgs ws)) [] M v M' 0 0 ∧ (∃ s ∈ cn.2.2.2.2.2.2, csOK sT FL0 ws v M' s) ∧ INV M' ∧ LC (bif zz then 0 else z) M' ∧ LR w M' ∧ KC l M' ∧ KR l M' ∧ BC lb M' ∧ BR lt M' := by
  obtain ⟨hB, hb⟩ := and_t hB
  obtain ⟨hB, hr⟩ := and_t hB
  obtain ⟨r1, r2⟩ := and_t hr
  obtain ⟨r2, r3⟩ := and_t r2
  obtain ⟨r3, r4⟩ := and_t r3
  obtain ⟨b1, b2⟩ := and_t hb
  obtain ⟨v, M', h1, h2, h3, h4⟩ := inv_f hok hB hm hd ha hV
  refine ⟨v, M', h1, h4, h2, ?_, hR.frm h3 (md_no r2), hK.frm h3 (md_no r3), hL.frm h3 (md_no r4), hP.frm h3 (md_no b1), hQ.frm h3 (md_no b2)⟩
  cases zz with
  | true => exact zeB_V r1 h4
  | false => exact hC.frm h3 (md_no r1)
theorem rel_r4 {cn : CN} {k : Nat} {z w : Int32} {M : Mem} {ws : List Value} {l lb lt : List Int32} (zz : Bool) (hok : cnOK sT sG FL0 cn) (hB : ((invC cn && relR zz cn) && byB cn) = true) (hm : (gNth mRs cn.1).map (fun q => q.2.2.2.1) = some k) (hd : cn.2.1 ≤ 999) (ha : Two (taOK sT) cn.2.2.1 ws) (hV : INV M) (hC : LC z M) (hR : LR w M) (hK : KC l M) (hL : KR l M) (hP : BC lb M) (hQ : BR lt M) : ∃ v M', Ev none 999 cn.1 0 (gPad k (gArgs ws)) [] M v M' 0 0 ∧ (∃ s ∈ cn.2.2.2.2.2.2, csOK sT FL0 ws v M' s) ∧ INV M' ∧ LC z M' ∧ LR (bif zz then 0 else w) M' ∧ KC l M' ∧ KR l M' ∧ BC lb M' ∧ BR lt M' := by
  obtain ⟨hB, hb⟩ := and_t hB
  obtain ⟨hB, hr⟩ := and_t hB
  obtain ⟨r1, r2⟩ := and_t hr
  obtain ⟨r2, r3⟩ := and_t r2
  obtain ⟨r3, r4⟩ := and_t r3
  obtain ⟨b1, b2⟩ := and_t hb
  obtain ⟨v, M', h1, h2, h3, h4⟩ := inv_f hok hB hm hd ha hV
  refine ⟨v, M', h1, h4, h2, hC.frm h3 (md_no r2), ?_, hK.frm h3 (md_no r3), hL.frm h3 (md_no r4), hP.frm h3 (md_no b1), hQ.frm h3 (md_no b2)⟩
  cases zz with
  | true => exact zeB_V r1 h4
  | false => exact hR.frm h3 (md_no r1)
theorem SV4.sv {M : Mem} (h : SV4 M) : SV M := by
  obtain ⟨h1, z, l, lb, lt, a1, a2, a3, a4, _⟩ := h
  exact ⟨h1, z, l, a1, a2, a3, a4⟩
theorem SV4.app {M : Mem} (h : SV4 M) (e : AE) : SV4 (M ++ [e]) := by
  obtain ⟨h1, z, lk, lb, lt, ⟨vs, a1, a2⟩, ⟨vr, b1, b2⟩, k1, k2, p1, p2, hn⟩ := h
  exact ⟨h1.app e, z, lk, lb, lt, ⟨vs, nth_app a1, a2⟩, ⟨vr, nth_app b1, b2⟩, nth_app k1, nth_app k2, nth_app p1, nth_app p2, hn⟩
theorem SV4.out {M : Mem} (h : SV4 M) : ∃ l : List Int64, gNth M 663 = some (.inl (2, .inr (.inl l))) ∧ l.length = 1 ∧ ∀ z : Int64, SV4 (gPut M 663 (.inl (2, .inr (.inl (gPut l 0 z))))) := by
  obtain ⟨h1, z, lk, lb, lt, ⟨vs, a1, a2⟩, ⟨vr, b1, b2⟩, k1, k2, p1, p2, hn⟩ := h
  obtain ⟨l, l1, l2, l3⟩ := h1.out
  have g : ∀ (y : Int64) (a : Nat) (x : AE), a ≠ 663 → gNth M a = some x → gNth (gPut M 663 (.inl (2, .inr (.inl (gPut l 0 y))))) a = some x := fun y a x ha hx => by
    rw [nth_put, if_neg (fun q => ha q.1)]
    exact hx
  exact ⟨l, l1, l2, fun y => ⟨l3 y, z, lk, lb, lt, ⟨vs, g y 1 _ (by decide) a1, a2⟩, ⟨vr, g y 633 _ (by decide) b1, b2⟩, g y 340 _ (by decide) k1, g y 638 _ (by decide) k2, g y 2 _ (by decide) p1, g y 634 _ (by decide) p2, hn⟩⟩
theorem BC.len {l : List Int32} {M : Mem} (hT : TM sT sG M) (h : BC l M) : l.length = 440 := by
  obtain ⟨l', r1, r2, _⟩ := hT.irow tp_u2.2.1 tp_b.2.2.2
  cases h.symm.trans r1
  exact r2
theorem BR.len {l : List Int32} {M : Mem} (hT : TM sT sG M) (h : BR l M) : l.length = 440 := by
  obtain ⟨l', r1, r2, _⟩ := hT.mrow tp_u2.2.2 tp_m.2.2
  cases h.symm.trans r1
  exact r2
theorem BBp.end {z x : Int32} {lb lt : List Int32} (h : BBp z.toInt.toNat lb lt) : BBp (endZ z x).toInt.toNat lb lt := by
  refine h.less ?_
  unfold endZ
  split
  · exact Nat.le_refl _
  · split
    · rename_i h1 h2
      have := Int32.le_iff_toInt_le.mp h2
      omega
    · exact Nat.le_refl _
theorem SV40 : SV4 mem0 := by
  obtain ⟨h1, z, l, a1, a2, a3, a4⟩ := SV0
  obtain ⟨lb, r1, _⟩ := h1.1.irow tp_u2.2.1 tp_b.2.2.2
  obtain ⟨lt, s1, _⟩ := h1.1.mrow tp_u2.2.2 tp_m.2.2
  obtain ⟨_, _, _, b1, b2, b3, b4⟩ := SV0
  exact ⟨h1, 0, _, lb, lt, le0_V le0_all.1, le0_V le0_all.2, ke0_V ke0_all.1, ke0_V ke0_all.2, r1, s1, fun k hk => absurd hk (Nat.not_lt_zero k)⟩
