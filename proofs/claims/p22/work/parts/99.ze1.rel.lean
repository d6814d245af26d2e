/-! BOTH SIDES BESIDE EACH OTHER: what a pair of calls keeps -/
def SV (M : Mem) : Prop := INV M ∧ ∃ z l, LC z M ∧ LR z M ∧ KC l M ∧ KR l M
noncomputable def zeB (a ci f : Nat) (c : CN) : Bool := c.2.2.2.2.2.2.all (fun s => match s.2.2.1 with
  | [(.inl b, cj, g, .inl (lo, hi))] => Nat.beq b a && (Nat.beq cj ci && (Nat.beq g f && (decide (lo = 0) && decide (hi = 0))))
  | _ => false)
theorem zeB_V {a ci f : Nat} {c : CN} {ws : List Value} {v : Option Value} {M : Mem} (h : zeB a ci f c = true) (hs : ∃ s ∈ c.2.2.2.2.2.2, csOK sT FL0 ws v M s) : ∃ vs, gNth M a = some (.inr (ci, vs)) ∧ gNth vs f = some (.int 0) := by
  obtain ⟨s, hs, _, _, hv, h1, _⟩ := hs
  have h2 := List.all_eq_true.mp h s hs
  split at h2
  rotate_left
  · cases h2
  rename_i b cj g lo hi e
  obtain ⟨h3, h2⟩ := and_t h2
  obtain ⟨h4, h2⟩ := and_t h2
  obtain ⟨h5, h2⟩ := and_t h2
  obtain ⟨h6, h7⟩ := and_t h2
  cases Nat.eq_of_beq_eq_true h3
  cases Nat.eq_of_beq_eq_true h4
  cases Nat.eq_of_beq_eq_true h5
  cases of_decide_eq_true h6
  cases of_decide_eq_true h7
  rw [e] at h1
  cases hv with
  | nil => exact h1.elim
  | cons w hv =>
    obtain ⟨⟨a', vs, k1, k2, k3, x, rfl, x1, x2⟩, _⟩ := h1
    have k1 : a' = a := k1
    subst k1
    have x3 : x = 0 := Int32.toInt_inj.mp (by
      have x1 : (0 : Int) ≤ x.toInt := x1
      have x2 : x.toInt ≤ (0 : Int) := x2
      have o : (0 : Int32).toInt = 0 := rfl
      omega)
    subst x3
    exact ⟨vs, k2, k3⟩
noncomputable def relC (zz : Bool) (c : CN) : Bool := (bif zz then zeB 1 5 1 c else !mdIn c.2.2.2.2.2.1 5 1) && (!mdIn c.2.2.2.2.2.1 11 2 && (!mdIn c.2.2.2.2.2.1 1057 0 && !mdIn c.2.2.2.2.2.1 1066 0))
noncomputable def relR (zz : Bool) (c : CN) : Bool := (bif zz then zeB 633 11 2 c else !mdIn c.2.2.2.2.2.1 11 2) && (!mdIn c.2.2.2.2.2.1 5 1 && (!mdIn c.2.2.2.2.2.1 1057 0 && !mdIn c.2.2.2.2.2.1 1066 0))
theorem md_no {md : Md} {c k : Nat} (h : (!mdIn md c k) = true) : (c, k) ∉ md := fun q => by
  rw [mdIn_iff.mpr q] at h
  cases h
theorem inv_f {c : CN} {k d : Nat} {M : Mem} {ws : List Value} (hc : cnOK sT sG FL0 c) (hB : invC c = true) (hm : (gNth mRs c.1).map (fun q => q.2.2.2.1) = some k) (hd : c.2.1 ≤ d) (ha : Two (taOK sT) c.2.2.1 ws) (hI : INV M) : ∃ v M', Ev none d c.1 0 (gPad k (gArgs ws)) [] M v M' 0 0 ∧ INV M' ∧ Frm sT c.2.2.2.2.2.1 M M' ∧ ∃ s ∈ c.2.2.2.2.2.2, csOK sT FL0 ws v M' s := by
  obtain ⟨b1, b2⟩ := and_t hB
  obtain ⟨b2, b3⟩ := and_t b2
  obtain ⟨hT, hf4⟩ := hI
  cases hq : gNth mRs c.1 with
  | none => rw [hq] at hm; cases hm
  | some q =>
    rw [hq] at hm
    have hm : q.2.2.2.1 = k := Option.some.inj hm
    have h3 : c.2.2.2.1 = [] := List.isEmpty_iff.mp b1
    obtain ⟨v, M', e1, e2, e3, s, e4, e5, _⟩ := hc d M ws q hd hq ha ⟨[], by rw [h3]; trivial, fun f hf => by
      obtain ⟨g1, g2⟩ := and_t (List.all_eq_true.mp b2 f hf)
      obtain ⟨fx, ps⟩ := f
      have g1 : ps = [] := List.isEmpty_iff.mp g1
      subst g1
      exact ⟨[], trivial, hf4 fx (fb4_V g2)⟩⟩ hT
    rw [hm] at e1
    have b4 := fun x hx => List.all_eq_true.mp b3 x hx
    refine ⟨v, M', e1, ⟨e2, fun x hx => ?_⟩, e3, s, e4, e5⟩
    have h9 := hf4 x hx
    rcases hx with rfl | rfl | rfl | rfl
    · exact inv_fl (b4 24 (by decide)) e3 e4 e5 h9
    · exact inv_fl (b4 28 (by decide)) e3 e4 e5 h9
    · exact inv_fl (b4 32 (by decide)) e3 e4 e5 h9
    · exact inv_fl (b4 34 (by decide)) e3 e4 e5 h9
theorem rel_c {cn : CN} {k : Nat} {z w : Int32} {M : Mem} {ws : List Value} {l : List Int32} (zz : Bool) (hok : cnOK sT sG FL0 cn) (hB : (invC cn && relC zz cn) = true) (hm : (gNth mRs cn.1).map (fun q => q.2.2.2.1) = some k) (hd : cn.2.1 ≤ 999) (ha : Two (taOK sT) cn.2.2.1 ws) (hV : INV M) (hC : LC z M) (hR : LR w M) (hK : KC l M) (hL : KR l M) : ∃ v M', Ev none 999 cn.1 0 (gPad k (gArgs ws)) [] M v M' 0 0 ∧ (∃ s ∈ cn.2.2.2.2.2.2, csOK sT FL0 ws v M' s) ∧ INV M' ∧ LC (bif zz then 0 else z) M' ∧ LR w M' ∧ KC l M' ∧ KR l M' := by
  obtain ⟨hB, hr⟩ := and_t hB
  obtain ⟨r1, r2⟩ := and_t hr
  obtain ⟨r2, r3⟩ := and_t r2
  obtain ⟨r3, r4⟩ := and_t r3
  obtain ⟨v, M', h1, h2, h3, h4⟩ := inv_f hok hB hm hd ha hV
  refine ⟨v, M', h1, h4, h2, ?_, hR.frm h3 (md_no r2), hK.frm h3 (md_no r3), hL.frm h3 (md_no r4)⟩
  cases zz with
  | true => exact zeB_V r1 h4
  | false => exact hC.frm h3 (md_no r1)
theorem rel_r {cn : CN} {k : Nat} {z w : Int32} {M : Mem} {ws : List Value} {l : List Int32} (zz : Bool) (hok : cnOK sT sG FL0 cn) (hB : (invC cn && relR zz cn) = true) (hm : (gNth mRs cn.1).map (fun q => q.2.2.2.1) = some k) (hd : cn.2.1 ≤ 999) (ha : Two (taOK sT) cn.2.2.1 ws) (hV : INV M) (hC : LC z M) (hR : LR w M) (hK : KC l M) (hL : KR l M) : ∃ v M', Ev none 999 cn.1 0 (gPad k (gArgs ws)) [] M v M' 0 0 ∧ (∃ s ∈ cn.2.2.2.2.2.2, csOK sT FL0 ws v M' s) ∧ INV M' ∧ LC z M' ∧ LR (bif zz then 0 else w) M' ∧ KC l M' ∧ KR l M' := by
  obtain ⟨hB, hr⟩ := and_t hB
  obtain ⟨r1, r2⟩ := and_t hr
  obtain ⟨r2, r3⟩ := and_t r2
  obtain ⟨r3, r4⟩ := and_t r3
  obtain ⟨v, M', h1, h2, h3, h4⟩ := inv_f hok hB hm hd ha hV
  refine ⟨v, M', h1, h4, h2, hC.frm h3 (md_no r2), ?_, hK.frm h3 (md_no r3), hL.frm h3 (md_no r4)⟩
  cases zz with
  | true => exact zeB_V r1 h4
  | false => exact hR.frm h3 (md_no r1)
theorem SV.app {M : Mem} (h : SV M) (e : AE) : SV (M ++ [e]) := by
  obtain ⟨h1, z, lk, ⟨vs, a1, a2⟩, ⟨vr, b1, b2⟩, k1, k2⟩ := h
  exact ⟨h1.app e, z, lk, ⟨vs, nth_app a1, a2⟩, ⟨vr, nth_app b1, b2⟩, nth_app k1, nth_app k2⟩
theorem SV.out {M : Mem} (h : SV M) : ∃ l : List Int64, gNth M 663 = some (.inl (2, .inr (.inl l))) ∧ l.length = 1 ∧ ∀ z : Int64, SV (gPut M 663 (.inl (2, .inr (.inl (gPut l 0 z))))) := by
  obtain ⟨h1, z, lk, ⟨vs, a1, a2⟩, ⟨vr, b1, b2⟩, k1, k2⟩ := h
  obtain ⟨l, l1, l2, l3⟩ := h1.out
  refine ⟨l, l1, l2, fun y => ⟨l3 y, z, lk, ⟨vs, ?_, a2⟩, ⟨vr, ?_, b2⟩, ?_, ?_⟩⟩
  · rw [nth_put, if_neg (fun q => absurd q.1 (by decide))]
    exact a1
  · rw [nth_put, if_neg (fun q => absurd q.1 (by decide))]
    exact b1
  · show gNth _ 340 = _
    rw [nth_put, if_neg (fun q => absurd q.1 (by decide))]
    exact k1
  · show gNth _ 638 = _
    rw [nth_put, if_neg (fun q => absurd q.1 (by decide))]
    exact k2
noncomputable def le0B (a ci f : Nat) : Bool := match gNth mem0 a with
  | some (.inr (c, vs)) => Nat.beq c ci && (match gNth vs f with
    | some (.int x) => decide (x = 0)
    | _ => false)
  | _ => false
theorem le0_V {a ci f : Nat} (h : le0B a ci f = true) : ∃ vs, gNth mem0 a = some (.inr (ci, vs)) ∧ gNth vs f = some (.int 0) := by
  unfold le0B at h
  split at h
  rotate_left
  · cases h
  rename_i c vs e
  obtain ⟨h1, h2⟩ := and_t h
  cases Nat.eq_of_beq_eq_true h1
  split at h2
  rotate_left
  · cases h2
  rename_i x e2
  cases of_decide_eq_true h2
  exact ⟨vs, e, e2⟩
set_option maxRecDepth 200000 in
theorem le0_all : le0B 1 5 1 = true ∧ le0B 633 11 2 = true := by refine ⟨?_, ?_⟩ <;> decide +kernel
noncomputable def ke0B (a : Nat) : Bool := match gNth mem0 a with
  | some (.inl (3, .inl l)) => match l with
    | [x, y, z] => decide (x = 0) && (decide (y = 0) && decide (z = 0))
    | _ => false
  | _ => false
theorem ke0_V {a : Nat} (h : ke0B a = true) : gNth mem0 a = some (.inl (3, .inl [0, 0, 0])) := by
  unfold ke0B at h
  split at h
  rotate_left
  · cases h
  rename_i l e
  split at h
  rotate_left
  · cases h
  rename_i x y z
  obtain ⟨h1, h2⟩ := and_t h
  obtain ⟨h2, h3⟩ := and_t h2
  cases of_decide_eq_true h1
  cases of_decide_eq_true h2
  cases of_decide_eq_true h3
  exact e
set_option maxRecDepth 200000 in
theorem ke0_all : ke0B 340 = true ∧ ke0B 638 = true := by refine ⟨?_, ?_⟩ <;> decide +kernel
theorem SV0 : SV mem0 := ⟨INV0, 0, _, le0_V le0_all.1, le0_V le0_all.2, ke0_V ke0_all.1, ke0_V ke0_all.2⟩
