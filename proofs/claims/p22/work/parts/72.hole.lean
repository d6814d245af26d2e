/-! BY HAND: the contract of the reference's holds -/
def kX11_holds : CN := (187, 4, [.inr 1900, .inl (.ofNat 0, .ofNat 127), .inl (.ofNat 0, .ofNat 255)], [], [(22, [([(2, .ofNat 1)], .ofNat 0)])], [(1077, 0)], [(some (.inl (.ofNat 0, .ofNat 1)), [], [], [], [])])
set_option maxRecDepth 100000 in
theorem mR_187 : (gNth mRs 187).map (fun q => q.2.2.2.1) = some 8 := by decide +kernel
section HOL4
variable {M : Mem} {vs : List Value} {x c f tt : Int32} {e : Nat} {v : Option Value} {M' : Mem} {lf lt : List Int32}
theorem hol_0 (hM : gNth M 633 = some (.inr (11, vs))) (h13 : gNth vs 13 = some (.ref 643)) (h14 : gNth vs 14 = some (.ref 644)) (hf : gNth M 643 = some (.inl (1, .inl lf))) (ht : gNth M 644 = some (.inl (1, .inl lt))) (hff : gAt lf x = some f) (htt : gAt lt x = some tt) (hz : Ev none (e + 4) 187 (if f = tt then 20 else 22) [some (.ref 633), some (.int x), some (.int c), some (.int (x / 16)), none, none, none, none] [] M v M' 0 0) : Ev none (e + 4) 187 0 [some (.ref 633), some (.int x), some (.int c), none, none, none, none, none] [] M v M' 0 0 := by
  refine Ev.step (pc' := 6) (ls' := [some (.ref 633), some (.int x), some (.int c), some (.int (x / 16)), none, none, none, none]) (st' := [.ref 633]) (M1 := M) 5 (fun n => rfl) ?_
  refine Ev.step 1 (gs_3 rfl rfl (gf_56 hM h13)) ?_
  refine Ev.step (pc' := 10) (ls' := [some (.ref 633), some (.int x), some (.int c), some (.int (x / 16)), none, none, none, none]) (st' := [.int x, .ref 643]) (M1 := M) 1 (fun n => rfl) ?_
  refine Ev.step 1 (gs_3 rfl rfl (ia_g hf hff)) ?_
  refine Ev.step (pc' := 12) (ls' := [some (.ref 633), some (.int x), some (.int c), some (.int (x / 16)), none, none, none, none]) (st' := [.ref 633, .int f]) (M1 := M) 1 (fun n => rfl) ?_
  refine Ev.step 1 (gs_3 rfl rfl (gf_59 hM h14)) ?_
  refine Ev.step (pc' := 16) (ls' := [some (.ref 633), some (.int x), some (.int c), some (.int (x / 16)), none, none, none, none]) (st' := [.int x, .ref 644, .int f]) (M1 := M) 1 (fun n => rfl) ?_
  refine Ev.step 1 (gs_3 rfl rfl (ia_g ht htt)) ?_
  exact Ev.step (pc' := if f = tt then 20 else 22) (ls' := [some (.ref 633), some (.int x), some (.int c), some (.int (x / 16)), none, none, none, none]) (st' := []) (M1 := M) 1 (fun n => rfl) hz
theorem hol_20 : Ev none (e + 4) 187 20 [some (.ref 633), some (.int x), some (.int c), some (.int (x / 16)), none, none, none, none] [] M (some (.int 1)) M 0 0 := by
  refine Ev.step (pc' := 21) (ls' := [some (.ref 633), some (.int x), some (.int c), some (.int (x / 16)), none, none, none, none]) (st' := [.int 1]) (M1 := M) 1 (fun n => rfl) ?_
  exact Ev.ret (fun n => rfl)
theorem hol_22 (hM : gNth M 633 = some (.inr (11, vs))) (h13 : gNth vs 13 = some (.ref 643)) (hf : gNth M 643 = some (.inl (1, .inl lf))) (hff : gAt lf x = some f) (hz : Ev none (e + 4) 187 39 [some (.ref 633), some (.int x), some (.int c), some (.int (x / 16)), some (.int 0), some (.int (200 * (x / 16) + f)), none, none] [] M v M' 0 0) : Ev none (e + 4) 187 22 [some (.ref 633), some (.int x), some (.int c), some (.int (x / 16)), none, none, none, none] [] M v M' 0 0 := by
  refine Ev.step (pc' := 31) (ls' := [some (.ref 633), some (.int x), some (.int c), some (.int (x / 16)), some (.int 0), none, none, none]) (st' := [.ref 633, .int (200 * (x / 16))]) (M1 := M) 6 (fun n => rfl) ?_
  refine Ev.step 1 (gs_3 rfl rfl (gf_56 hM h13)) ?_
  refine Ev.step (pc' := 35) (ls' := [some (.ref 633), some (.int x), some (.int c), some (.int (x / 16)), some (.int 0), none, none, none]) (st' := [.int x, .ref 643, .int (200 * (x / 16))]) (M1 := M) 1 (fun n => rfl) ?_
  refine Ev.step 1 (gs_3 rfl rfl (ia_g hf hff)) ?_
  exact Ev.step (pc' := 39) (ls' := [some (.ref 633), some (.int x), some (.int c), some (.int (x / 16)), some (.int 0), some (.int (200 * (x / 16) + f)), none, none]) (st' := []) (M1 := M) 2 (fun n => rfl) hz
end HOL4
theorem kX11_holds_ok : cnOK sT sG FL0 kX11_holds := by
  intro d M ws q hd hq ha hp hT
  have hm := mR_187
  have hq' : gNth mRs 187 = some q := hq
  rw [hq'] at hm
  have hm : q.2.2.2.1 = 8 := Option.some.inj hm
  obtain ⟨e, rfl⟩ : ∃ e, d = e + 4 := ⟨d - 4, by have : 4 ≤ d := hd; omega⟩
  rcases ws with _ | ⟨a, _ | ⟨b, _ | ⟨b2, _ | ⟨b3, r⟩⟩⟩⟩
  · exact ha.elim
  · exact ha.2.elim
  · exact ha.2.2.elim
  · obtain ⟨k1, ⟨x, rfl, x1, x2⟩, ⟨c, rfl, c1, c2⟩, _⟩ := ha
    have k1 : a = .ref 633 := k1
    subst k1
    have x1 : 0 ≤ x.toInt := x1
    have x2 : x.toInt ≤ 127 := x2
    obtain ⟨hv, hv0, hfl⟩ := hp
    have hv0 : hv = [] := by
      cases hv with
      | nil => rfl
      | cons _ _ => exact hv0.elim
    subst hv0
    obtain ⟨ys, hy, hF⟩ := hfl _ (List.mem_cons_self ..)
    rcases ys with _ | ⟨y, _ | ⟨y2, ys⟩⟩
    · exact hy.elim
    rotate_left
    · exact hy.2.elim
    obtain ⟨⟨z, hz1, hz2⟩, _⟩ := hy
    have hz1 : some (1 * x.toInt + 0) = some z := hz1
    have hz2 : y = z + 0 := hz2
    have hyx : y = x.toInt := by
      have := Option.some.inj hz1
      omega
    subst hyx
    have hF : FL0 22 [x.toInt] M := hF
    have hL : lnP [x.toInt] M := fl0_22 hF
    obtain ⟨x', f, tt, lf, lt, ls, w1, w2, w3, w4, w5, w6, w7⟩ := hL
    cases Int32.toInt_inj.mp (List.cons.inj w1).1
    obtain ⟨vs, tr, sg, nm, hM, h13, h14, h15, h16, h17, h33, htr, tl, tx, hsg, sl, hnm, nl⟩ := hT.hol
    obtain ⟨lf2, r1, r2, r3⟩ := hT.mrow sT_643 rw_71
    obtain ⟨lt2, s1, s2, s3⟩ := hT.mrow sT_644 rw_72
    rw [w2] at r1
    cases r1
    rw [w3] at s1
    cases s1
    have f2 := r3 _ _ (at_ok w5).2
    have t2 := s3 _ _ (at_ok w6).2
    rw [hm]
    by_cases h0 : f = tt
    · refine ⟨some (.int 1), M, ?_, hT, Frm.refl M, _, List.mem_cons_self .., ⟨⟨1, rfl, by decide, by decide⟩, fun q hq => (by cases hq), [], trivial, fun q hq => (by cases hq), fun q hq => (by cases hq)⟩, fun h => absurd (show (187 : Nat) = 205 from h) (by decide)⟩
      refine hol_0 hM h13 h14 w2 w3 w5 w6 ?_
      rw [if_pos h0]
      exact hol_20
    · obtain ⟨m, k, g1, g2, g3⟩ := w7.resolve_left h0
      have o16 : (16 : Int32).toInt = 16 := rfl
      have o200 : (200 : Int32).toInt = 200 := rfl
      obtain ⟨t, et⟩ : ∃ t, t = x / 16 := ⟨_, rfl⟩
      have d1 : t.toInt = x.toInt / 16 := by
        rw [et, i32_div (by rw [o16]; decide), o16]
        exact Int.tdiv_eq_ediv_of_nonneg x1
      rw [← et] at g2
      have d2 : (200 * t).toInt = 200 * t.toInt := by
        rw [i32_mul (by rw [o200]; omega) (by rw [o200]; omega), o200]
      have d3 : (200 * t + tt).toInt = 200 * t.toInt + tt.toInt := by
        rw [i32_add (by omega) (by omega), d2]
      have d4 : (200 * t + f).toInt = 200 * t.toInt + f.toInt := by
        rw [i32_add (by omega) (by omega), d2]
      obtain ⟨r, M', q1, q2, q3, q4, q5⟩ := hol_loop (e := e) (x := x) (c := c) (t := t) ⟨c1, c2⟩ w6 (by omega) m k M 0 (200 * t + f) none none hT w3 w4 (by omega) (by omega) (by decide) (by decide) g3
      refine ⟨some (.int r), M', ?_, q2, q3, _, List.mem_cons_self .., ⟨⟨r, rfl, q4, q5⟩, fun q hq => (by cases hq), [], trivial, fun q hq => (by cases hq), fun q hq => (by cases hq)⟩, fun h => absurd (show (187 : Nat) = 205 from h) (by decide)⟩
      refine hol_0 hM h13 h14 w2 w3 w5 w6 ?_
      rw [if_neg h0]
      rw [et] at q1
      exact hol_22 hM h13 w2 w5 q1
  · exact ha.2.2.2.elim
