/-! BY HAND: park of the reference -/
theorem pk_74 {e : Nat} {M : Mem} {M' : Mem} {v : Option Value} {h i w : Int32}  (hz : Ev none e 155 (if 2314 ≤ i then 94 else 81) [some (.ref 633), some (.int w), some (.int h), some (.int i)] [] M v M' 0 0) : Ev none e 155 74 [some (.ref 633), some (.int w), some (.int h), some (.int i)] [] M v M' 0 0 := by
  refine Ev.step (pc' := (if 2314 ≤ i then 94 else 81)) (ls' := [some (.ref 633), some (.int w), some (.int h), some (.int i)]) (st' := []) (M1 := M) 3 (fun n => rfl) ?_
  exact hz
theorem pk_81 {e : Nat} {M : Mem} {M' : Mem} {v : Option Value} {vs : List Value} {h i w y1 : Int32} {l635 : List Int32} (hM : gNth M 633 = some (.inr (11, vs))) (v5 : gNth vs 5 = some (.ref 635)) (r635 : gNth M 635 = some (.inl (1, .inl l635))) (g1 : gAt l635 i = some y1) (hz : Ev none e 155 74 [some (.ref 633), some (.int w), some (.int h), some (.int (i + 1))] [] (gPut M 635 (.inl (1, .inl (gPut l635 i.toNatClampNeg 0)))) v M' 0 0) : Ev none e 155 81 [some (.ref 633), some (.int w), some (.int h), some (.int i)] [] M v M' 0 0 := by
  refine Ev.step (pc' := 82) (ls' := [some (.ref 633), some (.int w), some (.int h), some (.int i)]) (st' := [.ref 633]) (M1 := M) 1 (fun n => rfl) ?_
  refine Ev.step 1 (gs_3 rfl rfl (gf_g rfl hM v5)) ?_
  refine Ev.step (pc' := 87) (ls' := [some (.ref 633), some (.int w), some (.int h), some (.int i)]) (st' := [.int 0, .int i, .ref 635]) (M1 := M) 2 (fun n => rfl) ?_
  refine Ev.step 1 (gs_4 rfl rfl (is_g r635 g1)) ?_
  refine Ev.step (pc' := 74) (ls' := [some (.ref 633), some (.int w), some (.int h), some (.int (i + 1))]) (st' := []) (M1 := (gPut M 635 (.inl (1, .inl (gPut l635 i.toNatClampNeg 0))))) 2 (fun n => rfl) ?_
  exact hz
theorem pk_94 {e : Nat} {M : Mem} {M' : Mem} {v : Option Value} {vs : List Value} {h i w y1 : Int32} {l635 : List Int32} (hM : gNth M 633 = some (.inr (11, vs))) (v5 : gNth vs 5 = some (.ref 635)) (r635 : gNth M 635 = some (.inl (1, .inl l635))) (g1 : gAt l635 0 = some y1) (hz : Ev none e 155 101 [some (.ref 633), some (.int w), some (.int h), some (.int i)] [] (gPut M 635 (.inl (1, .inl (gPut l635 (0 : Int32).toNatClampNeg w)))) v M' 0 0) : Ev none e 155 94 [some (.ref 633), some (.int w), some (.int h), some (.int i)] [] M v M' 0 0 := by
  refine Ev.step (pc' := 95) (ls' := [some (.ref 633), some (.int w), some (.int h), some (.int i)]) (st' := [.ref 633]) (M1 := M) 1 (fun n => rfl) ?_
  refine Ev.step 1 (gs_3 rfl rfl (gf_g rfl hM v5)) ?_
  refine Ev.step (pc' := 100) (ls' := [some (.ref 633), some (.int w), some (.int h), some (.int i)]) (st' := [.int w, .int 0, .ref 635]) (M1 := M) 2 (fun n => rfl) ?_
  refine Ev.step 1 (gs_4 rfl rfl (is_g r635 g1)) ?_
  exact hz
theorem pk_101 {e : Nat} {M : Mem} {M' : Mem} {v : Option Value} {vs : List Value} {h i w y1 : Int32} {l635 : List Int32} (hM : gNth M 633 = some (.inr (11, vs))) (v5 : gNth vs 5 = some (.ref 635)) (r635 : gNth M 635 = some (.inl (1, .inl l635))) (g1 : gAt l635 1 = some y1) (hz : Ev none e 155 110 [some (.ref 633), some (.int w), some (.int h), some (.int 0)] [] (gPut M 635 (.inl (1, .inl (gPut l635 (1 : Int32).toNatClampNeg h)))) v M' 0 0) : Ev none e 155 101 [some (.ref 633), some (.int w), some (.int h), some (.int i)] [] M v M' 0 0 := by
  refine Ev.step (pc' := 102) (ls' := [some (.ref 633), some (.int w), some (.int h), some (.int i)]) (st' := [.ref 633]) (M1 := M) 1 (fun n => rfl) ?_
  refine Ev.step 1 (gs_3 rfl rfl (gf_g rfl hM v5)) ?_
  refine Ev.step (pc' := 107) (ls' := [some (.ref 633), some (.int w), some (.int h), some (.int i)]) (st' := [.int h, .int 1, .ref 635]) (M1 := M) 2 (fun n => rfl) ?_
  refine Ev.step 1 (gs_4 rfl rfl (is_g r635 g1)) ?_
  refine Ev.step (pc' := 110) (ls' := [some (.ref 633), some (.int w), some (.int h), some (.int 0)]) (st' := []) (M1 := (gPut M 635 (.inl (1, .inl (gPut l635 (1 : Int32).toNatClampNeg h))))) 2 (fun n => rfl) ?_
  exact hz
theorem pt_put {α : Type} (M : List α) (a : Nat) (x y : α) : gPut (gPut M a x) a y = gPut M a y := by
  refine nthx (fun i => ?_)
  rw [nth_put, nth_put, nth_put, put_len]
  by_cases h : i = a ∧ a < M.length
  · rw [if_pos h, if_pos h]
  · rw [if_neg h, if_neg h, if_neg h]
/-- the first n places are 0 -/
def ZrP (n : Nat) (l : List Int32) : Prop := l.length = 2314 ∧ ∀ i, i < n → gNth l i = some 0
set_option maxRecDepth 100000 in
theorem sS_0 : ((List.range 2312).all (fun j => match sgAt sS (2 + j) with
  | some p => decide (p.1 ≤ 0) && decide (0 ≤ p.2)
  | none => false)) = true := by decide +kernel
set_option maxRecDepth 100000 in
theorem sS_wh : sgAt sS 0 = some (4, 16) ∧ sgAt sS 1 = some (4, 16) := ⟨rfl, rfl⟩
/-- an empty park -/
theorem empty_s {l : List Int32} (hl : ZrP 2314 l) {w h : Int32} (w1 : 4 ≤ w.toInt) (w2 : w.toInt ≤ 16) (h1 : 4 ≤ h.toInt) (h2 : h.toInt ≤ 16) : goodS (gPut (gPut l 0 w) 1 h) := by
  have get : ∀ i y, gNth (gPut (gPut l 0 w) 1 h) i = some y → (i = 0 ∧ y = w) ∨ (i = 1 ∧ y = h) ∨ (2 ≤ i ∧ i < 2314 ∧ y = 0) := by
    intro i y hy
    have hi := gNth_lt _ _ _ hy
    rw [put_len, put_len, hl.1] at hi
    rw [nth_put, nth_put, put_len] at hy
    by_cases c1 : i = 1
    · rw [if_pos ⟨c1, by have := hl.1; omega⟩] at hy
      exact Or.inr (Or.inl ⟨c1, (Option.some.inj hy).symm⟩)
    · rw [if_neg (fun q => c1 q.1)] at hy
      by_cases c0 : i = 0
      · rw [if_pos ⟨c0, by have := hl.1; omega⟩] at hy
        exact Or.inl ⟨c0, (Option.some.inj hy).symm⟩
      · rw [if_neg (fun q => c0 q.1), hl.2 i hi] at hy
        exact Or.inr (Or.inr ⟨by omega, hi, (Option.some.inj hy).symm⟩)
  refine ⟨by rw [put_len, put_len]; exact hl.1, fun i y hy => ?_, fun p p1 p2 p3 y hy hy1 => ?_, fun a b n ha hb hn => ?_⟩
  · rcases get i y hy with ⟨rfl, rfl⟩ | ⟨rfl, rfl⟩ | ⟨i2, i3, rfl⟩
    · exact ⟨_, sS_wh.1, w1, w2⟩
    · exact ⟨_, sS_wh.2, h1, h2⟩
    · have h4 := List.all_eq_true.mp sS_0 (i - 2) (List.mem_range.mpr (by omega))
      rw [show 2 + (i - 2) = i by omega] at h4
      cases hp : sgAt sS i with
      | none => rw [hp] at h4; cases h4
      | some p =>
        rw [hp] at h4
        obtain ⟨h5, h6⟩ := and_t h4
        exact ⟨p, rfl, of_decide_eq_true h5, of_decide_eq_true h6⟩
  · rcases get _ _ hy with ⟨q, _⟩ | ⟨q, _⟩ | ⟨_, _, rfl⟩
    · omega
    · omega
    · exact absurd hy1 (by decide)
  · rcases get _ _ hn with ⟨q, _⟩ | ⟨q, _⟩ | ⟨_, _, rfl⟩
    · omega
    · omega
    · refine ⟨by decide, fun i j hi => ?_⟩
      have : (0 : Int32).toInt = 0 := rfl
      omega
/-- s laid anew -/
theorem TM.s_new {M : Mem} (hT : TM sT sG M) {l : List Int32} (hg : goodS l) : TM sT sG (gPut M 635 (.inl (1, .inl l))) := by
  refine hT.put (fun g2 t w1 w2 => ?_)
  rw [sT_635] at w1
  cases w1
  rw [sS_eq] at w2
  cases w2
  exact ct_mk (by decide) hg.1 (fun j x hj => hg.2.1 j x hj)
theorem prk_loop {e : Nat} {w h : Int32} {Q : Option Value → Mem → Prop} {Mb : Mem} (hT : TM sT sG Mb) (w1 : 4 ≤ w.toInt) (w2 : w.toInt ≤ 16) (h1 : 4 ≤ h.toInt) (h2 : h.toInt ≤ 16) (hQ : ∀ l, goodS l → RF Q [] e 155 110 [some (.ref 633), some (.int w), some (.int h), some (.int 0)] [] (gPut Mb 635 (.inl (1, .inl l)))) : ∀ (j inn : Nat) (i : Int32) (l : List Int32), ZrP inn l → i.toInt = (inn : Int) → inn + j = 2314 → RF Q [] e 155 74 [some (.ref 633), some (.int w), some (.int h), some (.int i)] [] (gPut Mb 635 (.inl (1, .inl l))) := by
  intro j
  have o : (2314 : Int32).toInt = 2314 := rfl
  obtain ⟨vs, lb, hM, h5, hs, sl⟩ := hT.s_all
  have hlt := gNth_lt _ _ _ hs
  have a1 : ∀ x : AE, gNth (gPut Mb 635 x) 633 = some (.inr (11, vs)) := fun x => by rw [nth_put, if_neg (fun q => absurd q.1 (by decide))]; exact hM
  have a2 : ∀ x : AE, gNth (gPut Mb 635 x) 635 = some x := fun x => by rw [nth_put, if_pos ⟨rfl, hlt⟩]
  induction j with
  | zero =>
    intro inn i l hz hi hj
    have h9 : inn = 2314 := by omega
    subst h9
    refine RF.pre (fun v M' hz => pk_74 hz) ?_
    rw [if_pos (by rw [Int32.le_iff_toInt_le, o]; omega)]
    obtain ⟨y, y1, y2⟩ := at_c (l := l) (j := 0) (kn := 0) rfl (by have := hz.1; omega)
    obtain ⟨z, z1, z2⟩ := at_c (l := gPut l 0 w) (j := 1) (kn := 1) rfl (by rw [put_len]; have := hz.1; omega)
    refine RF.pre (fun v M' hz => pk_94 (a1 _) h5 (a2 _) y1 hz) ?_
    rw [cl_n (j := 0) (kn := 0) rfl, pt_put]
    refine RF.pre (fun v M' hz => pk_101 (a1 _) h5 (a2 _) z1 hz) ?_
    rw [cl_n (j := 1) (kn := 1) rfl, pt_put]
    exact hQ _ (empty_s hz w1 w2 h1 h2)
  | succ j ih =>
    intro inn i l hz hi hj
    refine RF.pre (fun v M' hz => pk_74 hz) ?_
    rw [if_neg (by rw [Int32.le_iff_toInt_le, o]; omega)]
    obtain ⟨y, y1, y2⟩ := at_c (l := l) hi (by have := hz.1; omega)
    refine RF.pre (fun v M' hz => pk_81 (a1 _) h5 (a2 _) y1 hz) ?_
    rw [cl_n hi, pt_put]
    have e1 : (i + 1).toInt = i.toInt + 1 := i32_p1 (by omega)
    refine ih (inn + 1) (i + 1) _ ⟨by rw [put_len]; exact hz.1, fun k hk => ?_⟩ (by omega) (by omega)
    rw [nth_put]
    by_cases hki : k = inn
    · rw [if_pos ⟨hki, by have := hz.1; omega⟩]
    · rw [if_neg (fun q => hki q.1)]
      exact hz.2 k (by omega)
theorem kX11_park_ok : cnOK sT sG FL0 kX11_park := by
  refine ccX_V sU_ok dp0_ok ct0_ok kX11_park_D_ok kX11_park_chk (fun d M ws hD rB x hx cl M' hc => ?_)
  cases List.mem_singleton.mp hx
  obtain ⟨ρ, π, i0, i1, i2, hF⟩ := hc
  rcases cl with _ | ⟨c0, _ | ⟨c1, _ | ⟨c2, _ | ⟨c3, _ | ⟨c4, cl⟩⟩⟩⟩⟩
  · exact i1.elim
  · exact i1.2.elim
  · exact i1.2.2.elim
  · exact i1.2.2.2.elim
  rotate_left
  · exact i1.2.2.2.2.elim
  obtain ⟨⟨x0, rfl, a0, r0, rfl⟩, ⟨x1, rfl, w, rfl, lw⟩, ⟨x2, rfl, h, rfl, lh⟩, ⟨x3, rfl, i, rfl, li⟩, _⟩ := i1
  cases r0
  have hg := i2.2.2.1
  obtain ⟨w1, w2⟩ := liI_V hg (a := 4) (b := 16) rfl lw
  obtain ⟨h1, h2⟩ := liI_V hg (a := 4) (b := 16) rfl lh
  obtain ⟨z1, z2⟩ := liI_V hg (a := 0) (b := 0) rfl li
  have hi : i = 0 := Int32.toInt_inj.mp (show i.toInt = 0 by omega)
  subst hi
  have hT := i2.2.2.2.2.2
  obtain ⟨b0, rb0, ci, vs, v4, hM, v4e, p, rfl, lp⟩ := i2.1 ((.inl 633), .inl 4, .inl ([(3, .ofNat 1)], .ofNat 0)) (List.mem_cons_self ..)
  cases rb0
  obtain ⟨b1, rb1, ci1, vs1, v2, hM1, v2e, ln, rfl, lln⟩ := i2.1 ((.inl 633), .inl 2, .inl ([(4, .ofNat 1)], .ofNat 0)) (List.mem_cons_of_mem _ (List.mem_cons_self ..))
  cases rb1
  cases hM.symm.trans hM1
  obtain ⟨b2, rb2, ci2, vs2, v3, hM2, v3e, sz, rfl, lsz⟩ := i2.1 ((.inl 633), .inl 3, .inl ([(5, .ofNat 1)], .ofNat 0)) (List.mem_cons_of_mem _ (List.mem_cons_of_mem _ (List.mem_cons_self ..)))
  cases rb2
  cases hM.symm.trans hM2
  obtain ⟨p1, p2⟩ := liI_V hg (a := 0) (b := 0) rfl lp
  obtain ⟨n1, n2⟩ := liI_V hg (a := 0) (b := 0) rfl lln
  obtain ⟨s1, s2⟩ := liI_V hg (a := 16) (b := 256) rfl lsz
  obtain ⟨vs9, lb, hM9, h5, hs, sl⟩ := hT.s_all
  have hput : ∀ l : List Int32, M' = gPut M' 635 (.inl (1, .inl lb)) := fun _ => by
    refine nthx (fun k => ?_)
    rw [nth_put]
    by_cases hk : k = 635 ∧ 635 < M'.length
    · rw [if_pos hk, hk.1]
      exact hs
    · rw [if_neg hk]
  rw [hput []]
  refine prk_loop hT w1 w2 h1 h2 (fun l hl => ?_) 2314 0 0 lb ⟨sl, fun k hk => absurd hk (Nat.not_lt_zero _)⟩ rfl rfl
  have hM3 : gNth (gPut M' 635 (.inl (1, .inl l))) 633 = some (.inr (ci, vs)) := by
    rw [nth_put, if_neg (fun q => absurd q.1 (by decide))]
    exact hM
  refine rB _ (List.mem_singleton.mpr rfl) _ _ ⟨[0, sz.toInt, ln.toInt, p.toInt], [], ?_, ?_, ⟨fun e he => ?_, fun f hf => ?_, ⟨rfl, fun k q hq => ?_⟩, ⟨rfl, fun s g h => by cases h⟩, fun L hL => (by cases hL), hT.s_new hl⟩, hF.trans (Frm.row hs sT_635 (by decide))⟩
  · rcases ws with _ | ⟨q0, _ | ⟨q1, _ | ⟨q2, _ | ⟨q3, ws⟩⟩⟩⟩
    · exact i0.elim
    · exact i0.2.elim
    · exact i0.2.2.elim
    · exact i0
    · exact i0.2.2.2.elim
  · exact ⟨⟨_, rfl, 633, rfl, rfl⟩, (fun x hx => by cases hx; rfl), (fun x hx => by cases hx; rfl), ⟨_, rfl, 0, rfl, rfl⟩, trivial⟩
  · rcases List.mem_cons.mp he with rfl | he
    · exact ⟨633, rfl, ci, vs, _, hM3, v3e, sz, rfl, liS_V rfl⟩
    rcases List.mem_cons.mp he with rfl | he
    · exact ⟨633, rfl, ci, vs, _, hM3, v2e, ln, rfl, liS_V rfl⟩
    rcases List.mem_cons.mp he with rfl | he
    · exact ⟨633, rfl, ci, vs, _, hM3, v4e, p, rfl, liS_V rfl⟩
    · cases he
  · cases List.mem_singleton.mp hf
    exact ⟨[], trivial, (show FL0 28 [] _ from ⟨1, l, by rw [nth_put, if_pos ⟨rfl, gNth_lt _ _ _ hs⟩], hl.2.2⟩)⟩
  · rcases k with _ | _ | _ | _ | k
    · cases hq; exact ⟨0, rfl, by decide, by decide⟩
    · cases hq; exact ⟨_, rfl, s1, s2⟩
    · cases hq; exact ⟨_, rfl, n1, n2⟩
    · cases hq; exact ⟨_, rfl, p1, p2⟩
    · cases hq
