/-! WHAT STANDS BETWEEN CALLS: the reference's side -/
def INVr (M : Mem) : Prop := TM sT sG M ∧ FL0 24 [] M ∧ FL0 28 [] M ∧ FL0 32 [] M
/-- a contract asks for no more, and keeps it -/
noncomputable def invB (c : CN) : Bool := c.2.2.2.1.isEmpty && (c.2.2.2.2.1.all (fun f => f.2.isEmpty && (Nat.beq f.1 24 || (Nat.beq f.1 28 || Nat.beq f.1 32))) && [24, 28, 32].all (fun x => c.2.2.2.2.2.1.all (fun q => !mdIn (dp0 x) q.1 q.2) || c.2.2.2.2.2.2.all (fun s => s.2.2.2.1.any (fun f => Nat.beq f.1 x && f.2.isEmpty))))
theorem inv_fl {c : CN} {x : Nat} {M M' : Mem} {ws : List Value} {v : Option Value} {s : CS} (h : (c.2.2.2.2.2.1.all (fun q => !mdIn (dp0 x) q.1 q.2) || c.2.2.2.2.2.2.all (fun s => s.2.2.2.1.any (fun f => Nat.beq f.1 x && f.2.isEmpty))) = true) (hF : Frm sT c.2.2.2.2.2.1 M M') (hs : s ∈ c.2.2.2.2.2.2) (hcs : csOK sT FL0 ws v M' s) (h0 : FL0 x [] M) : FL0 x [] M' := by
  rw [Bool.or_eq_true] at h
  rcases h with h | h
  · refine dp0_frm 0 x [] _ M M' hF (fun q hq hm => ?_) h0
    have h2 := List.all_eq_true.mp h q hq
    rw [mdIn_iff.mpr hm] at h2
    cases h2
  · have h2 := List.all_eq_true.mp h s hs
    obtain ⟨f, hf, h3⟩ := List.any_eq_true.mp h2
    obtain ⟨h4, h5⟩ := and_t h3
    obtain ⟨_, _, hv, _, h6, _⟩ := hcs
    obtain ⟨ys, h7, h8⟩ := h6 f hf
    obtain ⟨fx, ps⟩ := f
    cases Nat.eq_of_beq_eq_true h4
    have h5 : ps = [] := List.isEmpty_iff.mp h5
    subst h5
    cases ys with
    | nil => exact h8
    | cons _ _ => exact h7.elim
theorem inv_call {c : CN} {k d : Nat} {M : Mem} {ws : List Value} (hc : cnOK sT sG FL0 c) (hB : invB c = true) (hm : (gNth mRs c.1).map (fun q => q.2.2.2.1) = some k) (hd : c.2.1 ≤ d) (ha : Two (taOK sT) c.2.2.1 ws) (hI : INVr M) : ∃ v M', Ev none d c.1 0 (gPad k (gArgs ws)) [] M v M' 0 0 ∧ INVr M' ∧ Frm sT c.2.2.2.2.2.1 M M' ∧ ∃ s ∈ c.2.2.2.2.2.2, csOK sT FL0 ws v M' s := by
  obtain ⟨b1, b2⟩ := and_t hB
  obtain ⟨b2, b3⟩ := and_t b2
  obtain ⟨hT, f24, f28, f32⟩ := hI
  cases hq : gNth mRs c.1 with
  | none => rw [hq] at hm; cases hm
  | some q =>
    rw [hq] at hm
    have hm : q.2.2.2.1 = k := Option.some.inj hm
    have h3 : c.2.2.2.1 = [] := List.isEmpty_iff.mp b1
    obtain ⟨v, M', e1, e2, e3, s, e4, e5, _⟩ := hc d M ws q hd hq ha ⟨[], by rw [h3]; trivial, fun f hf => by
      obtain ⟨g1, g2⟩ := and_t (List.all_eq_true.mp b2 f hf)
      obtain ⟨fx, ps⟩ := f
      have g1 : ps = [] := List.isEmpty_iff.mp g1
      subst g1
      refine ⟨[], trivial, ?_⟩
      have g2 : (Nat.beq fx 24 || (Nat.beq fx 28 || Nat.beq fx 32)) = true := g2
      rw [Bool.or_eq_true, Bool.or_eq_true] at g2
      rcases g2 with g | g | g
      · cases Nat.eq_of_beq_eq_true g; exact f24
      · cases Nat.eq_of_beq_eq_true g; exact f28
      · cases Nat.eq_of_beq_eq_true g; exact f32⟩ hT
    rw [hm] at e1
    have b4 := fun x hx => List.all_eq_true.mp b3 x hx
    exact ⟨v, M', e1, ⟨e2, inv_fl (b4 24 (by decide)) e3 e4 e5 f24, inv_fl (b4 28 (by decide)) e3 e4 e5 f28, inv_fl (b4 32 (by decide)) e3 e4 e5 f32⟩, e3, s, e4, e5⟩
set_option maxRecDepth 100000 in
theorem inv_all : ([kX11_feed, kX11_end, kX11_park, kX11_door, kX11_law, kX11_habit, kX11_fault, kX11_wish, kX11_drop, kX11_run, kX11_week, kX11_rain, kX11_snow, kX11_lay, kX11_walker, kX11_cell, kX11_net, kX11_pieces, kX11_rests, kX11_least, kX11_longer, kX11_turns, kX11_paved, kX11_wait, kX11_fences, kX11_fenceAt, kX11_lasts, kX11_way, kX11_wayAt, kX11_read_, kX11_reads, kX11_fits, kX11_image, kX11_restore, kX11_count].all invB) = true := by decide +kernel
