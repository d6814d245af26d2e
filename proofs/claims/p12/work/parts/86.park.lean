/-! BY HAND: park of the reference -/
theorem pk_74 {e : Nat} {M : Mem} {M' : Mem} {v : Option Value} {h i w : Int32}  (hz : Ev none e 155 (if 2314 ≤ i then 94 else 81) [some (.ref 633), some (.int w), some (.int h), some (.int i)] [] M v M' 0 0) : Ev none e 155 74 [some (.ref 633), some (.int w), some (.int h), some (.int i)] [] M v M' 0 0 := by
  refine Ev.step (pc' := (if 2314 ≤ i then 94 else 81)) (ls' := [some (.ref 633), some (.int w), some (.int h), some (.int i)]) (st' := []) (M1 := M) 3 (fun n => rfl) ?_
  exact hz
theorem pk_81 {e : Nat} {M : Mem} {M' : Mem} {v : Option Value} {vs : List Value} {h i w y1 : Int32} {l635 : List Int32} (hM : gNth M 633 = some (.inr (11, vs))) (v5 : gNth vs 5 = some (.ref 635)) (r635 : gNth M 635 = some (.inl (1, .inl l635))) (g1 : gAt l635 i = some y1) (hz : Ev none e 155 74 [some (.ref 633), some (.int w), some (.int h), some (.int (i + 1))] [] (gPut M 635 (.inl (1, .inl (gPut l635 i.toNatClampNeg 0)))) v M' 0 0) : Ev none e 155 81 [some (.ref 633), some (.int w), some (.int h), some (.int i)] [] M v M' 0 0 := by
  refine Ev.step (pc' := 82) (ls' := [some (.ref 633), some (.int w), some (.int h), some (.int i)]) (st' := [.ref 633]) (M1 := M) 1 (fun n => rfl) ?_
  refine Ev.step 1 (gs_3 rfl rfl (gf_g rfl hM v5)) ?_
  refine Ev.step (pc' := 87) (ls' := [some (.ref 633), some (.int w), some (.int h), some (.int i)]) (st' := [.int 0, .int i, .ref 635]) (M1 := M) 2 (fun n => rfl) ?_
  refine Ev.step 1 (gs_4 rfl rfl (is_g r635 g1)) ?_
  refine Ev.step (pc' := 74) (ls' := [some (.ref 633), some (.int w), some (.int h), some (.int (i + 1))]) (st' := []) (M1 := (gPut M 635 (.inl (1, .inl (gPut l635 i.toNatClampNeg 0))))) 2 (fun n => rfl) ?_
  exact hz
theorem pk_94 {e : Nat} {M : Mem} {M' : Mem} {v : Option Value} {vs : List Value} {h i w y1 : Int32} {l635 : List Int32} (hM : gNth M 633 = some (.inr (11, vs))) (v5 : gNth vs 5 = some (.ref 635)) (r635 : gNth M 635 = some (.inl (1, .inl l635))) (g1 : gAt l635 0 = some y1) (hz : Ev none e 155 101 [some (.ref 633), some (.int w), some (.int h), some (.int i)] [] (gPut M 635 (.inl (1, .inl (gPut l635 (0 : Int32).toNatClampNeg w)))) v M' 0 0) : Ev none e 155 94 [some (.ref 633), some (.int w), some (.int h), some (.int i)] [] M v M' 0 0 := by
  refine Ev.step (pc' := 95) (ls' := [some (.ref 633), some (.int w), some (.int h), some (.int i)]) (st' := [.ref 633]) (M1 := M) 1 (fun n => rfl) ?_
  refine Ev.step 1 (gs_3 rfl rfl (gf_g rfl hM v5)) ?_
  refine Ev.step (pc' := 100) (ls' := [some (.ref 633), some (.int w), some (.int h), some (.int i)]) (st' := [.int w, .int 0, .ref 635]) (M1 := M) 2 (fun n => rfl) ?_
  refine Ev.step 1 (gs_4 rfl rfl (is_g r635 g1)) ?_
  exact hz
theorem pk_101 {e : Nat} {M : Mem} {M' : Mem} {v : Option Value} {vs : List Value} {h i w y1 : Int32} {l635 : List Int32} (hM : gNth M 633 = some (.inr (11, vs))) (v5 : gNth vs 5 = some (.ref 635)) (r635 : gNth M 635 = some (.inl (1, .inl l635))) (g1 : gAt l635 1 = some y1) (hz : Ev none e 155 110 [some (.ref 633), some (.int w), some (.int h), some (.int 0)] [] (gPut M 635 (.inl (1, .inl (gPut l635 (1 : Int32).toNatClampNeg h)))) v M' 0 0) : Ev none e 155 101 [some (.ref 633), some (.int w), some (.int h), some (.int i)] [] M v M' 0 0 := by
  refine Ev.step (pc' := 102) (ls' := [some (.ref 633), some (.int w), some (.int h), some (.int i)]) (st' := [.ref 633]) (M1 := M) 1 (fun n => rfl) ?_
  refine Ev.step 1 (gs_3 rfl rfl (gf_g rfl hM v5)) ?_
  refine Ev.step (pc' := 107) (ls' := [some (.ref 633), some (.int w), some (.int h), some (.int i)]) (st' := [.int h, .int 1, .ref 635]) (M1 := M) 2 (fun n => rfl) ?_
  refine Ev.step 1 (gs_4 rfl rfl (is_g r635 g1)) ?_
  refine Ev.step (pc' := 110) (ls' := [some (.ref 633), some (.int w), some (.int h), some (.int 0)]) (st' := []) (M1 := (gPut M 635 (.inl (1, .inl (gPut l635 (1 : Int32).toNatClampNeg h))))) 2 (fun n => rfl) ?_
  exact hz
theorem pt_put {α : Type} (M : List α) (a : Nat) (x y : α) : gPut (gPut M a x) a y = gPut M a y := by
  refine nthx (fun i => ?_)
  rw [nth_put, nth_put, nth_put, put_len]
  by_cases h : i = a ∧ a < M.length
  · rw [if_pos h, if_pos h]
  · rw [if_neg h, if_neg h, if_neg h]
/-- the first n places are 0 -/
def ZrP (n : Nat) (l : List Int32) : Prop := l.length = 2314 ∧ ∀ i, i < n → gNth l i = some 0
set_option maxRecDepth 100000 in
theorem sS_0 : ((List.range 2312).all (fun j => match sgAt sS (2 + j) with
  | some p => decide (p.1 ≤ 0) && decide (0 ≤ p.2)
  | none => false)) = true := by decide +kernel
set_option maxRecDepth 100000 in
theorem sS_wh : sgAt sS 0 = some (4, 16) ∧ sgAt sS 1 = some (4, 16) := ⟨rfl, rfl⟩
/-- an empty park -/
theorem empty_s {l : List Int32} (hl : ZrP 2314 l) {w h : Int32} (w1 : 4 ≤ w.toInt) (w2 : w.toInt ≤ 16) (h1 : 4 ≤ h.toInt) (h2 : h.toInt ≤ 16) : goodS (gPut (gPut l 0 w) 1 h) := by
  have get : ∀ i y, gNth (gPut (gPut l 0 w) 1 h) i = some y → (i = 0 ∧ y = w) ∨ (i = 1 ∧ y = h) ∨ (2 ≤ i ∧ i < 2314 ∧ y = 0) := by
    intro i y hy
    have hi := gNth_lt _ _ _ hy
    rw [put_len, put_len, hl.1] at hi
    rw [nth_put, nth_put, put_len] at hy
    by_cases c1 : i = 1
    · rw [if_pos ⟨c1, by have := hl.1; omega⟩] at hy
      exact Or.inr (Or.inl ⟨c1, (Option.some.inj hy).symm⟩)
    · rw [if_neg (fun q => c1 q.1)] at hy
      by_cases c0 : i = 0
      · rw [if_pos ⟨c0, by have := hl.1; omega⟩] at hy
        exact Or.inl ⟨c0, (Option.some.inj hy).symm⟩
      · rw [if_neg (fun q => c0 q.1), hl.2 i hi] at hy
        exact Or.inr (Or.inr ⟨by omega, hi, (Option.some.inj hy).symm⟩)
  refine ⟨by rw [put_len, put_len]; exact hl.1, fun i y hy => ?_, fun p p1 p2 p3 y hy hy1 => ?_, fun a b n ha hb hn => ?_⟩
  · rcases get i y hy with ⟨rfl, rfl⟩ | ⟨rfl, rfl⟩ | ⟨i2, i3, rfl⟩
    · exact ⟨_, sS_wh.1, w1, w2⟩
    · exact ⟨_, sS_wh.2, h1, h2⟩
    · have h4 := List.all_eq_true.mp sS_0 (i - 2) (List.mem_range.mpr (by omega))
      rw [show 2 + (i - 2) = i by omega] at h4
      cases hp : sgAt sS i with
      | none => rw [hp] at h4; cases h4
      | some p =>
        rw [hp] at h4
        obtain ⟨h5, h6⟩ := and_t h4
        exact ⟨p, rfl, of_decide_eq_true h5, of_decide_eq_true h6⟩
  · rcases get _ _ hy with ⟨q, _⟩ | ⟨q, _⟩ | ⟨_, _, rfl⟩
    · omega
    · omega
    · exact absurd hy1 (by decide)
  · rcases get _ _ hn with ⟨q, _⟩ | ⟨q, _⟩ | ⟨_, _, rfl⟩
    · omega
    · omega
    · refine ⟨by decide, fun i j hi => ?_⟩
      have : (0 : Int32).toInt = 0 := rfl
      omega
/-- s laid anew -/
theorem TM.s_new {M : Mem} (hT : TM sT sG M) {l : List Int32} (hg : goodS l) : TM sT sG (gPut M 635 (.inl (1, .inl l))) := by
  refine hT.put (fun g2 t w1 w2 => ?_)
  rw [sT_635] at w1
  cases w1
  rw [sS_eq] at w2
  cases w2
  exact ct_mk (by decide) hg.1 (fun j x hj => hg.2.1 j x hj)
theorem prk_loop {e : Nat} {w h : Int32} {Q : Option Value → Mem → Prop} {Mb : Mem} (hT : TM sT sG Mb) (w1 : 4 ≤ w.toInt) (w2 : w.toInt ≤ 16) (h1 : 4 ≤ h.toInt) (h2 : h.toInt ≤ 16) (hQ : ∀ l, goodS l → RF Q [] e 155 110 [some (.ref 633), some (.int w), some (.int h), some (.int 0)] [] (gPut Mb 635 (.inl (1, .inl l)))) : ∀ (j inn : Nat) (i : Int32) (l : List Int32), ZrP inn l → i.toInt = (inn : Int) → inn + j = 2314 → RF Q [] e 155 74 [some (.ref 633), some (.int w), some (.int h), some (.int i)] [] (gPut Mb 635 (.inl (1, .inl l))) := by
  intro j
  have o : (2314 : Int32).toInt = 2314 := rfl
  obtain ⟨vs, lb, hM, h5, hs, sl⟩ := hT.s_all
  have hlt := gNth_lt _ _ _ hs
  have a1 : ∀ x : AE, gNth (gPut Mb 635 x) 633 = some (.inr (11, vs)) := fun x => by rw [nth_put, if_neg (fun q => absurd q.1 (by decide))]; exact hM
  have a2 : ∀ x : AE, gNth (gPut Mb 635 x) 635 = some x := fun x => by rw [nth_put, if_pos ⟨rfl, hlt⟩]
  induction j with
  | zero =>
    intro inn i l hz hi hj
    have h9 : inn = 2314 := by omega
    subst h9
    refine RF.pre (fun v M' hz => pk_74 hz) ?_
    rw [if_pos (by rw [Int32.le_iff_toInt_le, o]; omega)]
    obtain ⟨y, y1, y2⟩ := at_c (l := l) (j := 0) (kn := 0) rfl (by have := hz.1; omega)
    obtain ⟨z, z1, z2⟩ := at_c (l := gPut l 0 w) (j := 1) (kn := 1) rfl (by rw [put_len]; have := hz.1; omega)
    refine RF.pre (fun v M' hz => pk_94 (a1 _) h5 (a2 _) y1 hz) ?_
    rw [cl_n (j := 0) (kn := 0) rfl, pt_put]
    refine RF.pre (fun v M' hz => pk_101 (a1 _) h5 (a2 _) z1 hz) ?_
    rw [cl_n (j := 1) (kn := 1) rfl, pt_put]
    exact hQ _ (empty_s hz w1 w2 h1 h2)
  | succ j ih =>
    intro inn i l hz hi hj
    refine RF.pre (fun v M' hz => pk_74 hz) ?_
    rw [if_neg (by rw [Int32.le_iff_toInt_le, o]; omega)]
    obtain ⟨y, y1, y2⟩ := at_c (l := l) hi (by have := hz.1; omega)
    refine RF.pre (fun v M' hz => pk_81 (a1 _) h5 (a2 _) y1 hz) ?_
    rw [cl_n hi, pt_put]
    have e1 : (i + 1).toInt = i.toInt + 1 := i32_p1 (by omega)
    refine ih (inn + 1) (i + 1) _ ⟨by rw [put_len]; exact hz.1, fun k hk => ?_⟩ (by omega) (by omega)
    rw [nth_put]
    by_cases hki : k = inn
    · rw [if_pos ⟨hki, by have := hz.1; omega⟩]
    · rw [if_neg (fun q => hki q.1)]
      exact hz.2 k (by omega)
theorem kX11_park_ok : cnOK sT sG FL0 kX11_park := by
  refine ccX_V sU_ok dp0_ok ct0_ok kX11_park_D_ok kX11_park_chk (fun d M ws hD rB x hx cl M' hc => ?_)
  cases List.mem_singleton.mp hx
  obtain ⟨ρ, π, i0, i1, i2, hF⟩ := hc
  rcases cl with _ | ⟨c0, _ | ⟨c1, _ | ⟨c2, _ | ⟨c3, _ | ⟨c4, cl⟩⟩⟩⟩⟩
  · exact i1.elim
  · exact i1.2.elim
  · exact i1.2.2.elim
  · exact i1.2.2.2.elim
  rotate_left
  · exact i1.2.2.2.2.elim
  obtain ⟨⟨x0, rfl, a0, r0, rfl⟩, ⟨x1, rfl, w, rfl, lw⟩, ⟨x2, rfl, h, rfl, lh⟩, ⟨x3, rfl, i, rfl, li⟩, _⟩ := i1
  cases r0
  have hg := i2.2.2.1
  obtain ⟨w1, w2⟩ := liI_V hg (a := 4) (b := 16) rfl lw
  obtain ⟨h1, h2⟩ := liI_V hg (a := 4) (b := 16) rfl lh
  obtain ⟨z1, z2⟩ := liI_V hg (a := 0) (b := 0) rfl li
  have hi : i = 0 := Int32.toInt_inj.mp (show i.toInt = 0 by omega)
  subst hi
  have hT := i2.2.2.2.2.2
  obtain ⟨b0, rb0, ci, vs, v4, hM, v4e, p, rfl, lp⟩ := i2.1 ((.inl 633), .inl 4, .inl ([(3, .ofNat 1)], .ofNat 0)) (List.mem_cons_self ..)
  cases rb0
  obtain ⟨b1, rb1, ci1, vs1, v2, hM1, v2e, ln, rfl, lln⟩ := i2.1 ((.inl 633), .inl 2, .inl ([(4, .ofNat 1)], .ofNat 0)) (List.mem_cons_of_mem _ (List.mem_cons_self ..))
  cases rb1
  cases hM.symm.trans hM1
  obtain ⟨b2, rb2, ci2, vs2, v3, hM2, v3e, sz, rfl, lsz⟩ := i2.1 ((.inl 633), .inl 3, .inl ([(5, .ofNat 1)], .ofNat 0)) (List.mem_cons_of_mem _ (List.mem_cons_of_mem _ (List.mem_cons_self ..)))
  cases rb2
  cases hM.symm.trans hM2
  obtain ⟨p1, p2⟩ := liI_V hg (a := 0) (b := 0) rfl lp
  obtain ⟨n1, n2⟩ := liI_V hg (a := 0) (b := 0) rfl lln
  obtain ⟨s1, s2⟩ := liI_V hg (a := 16) (b := 256) rfl lsz
  obtain ⟨vs9, lb, hM9, h5, hs, sl⟩ := hT.s_all
  have hput : ∀ l : List Int32, M' = gPut M' 635 (.inl (1, .inl lb)) := fun _ => by
    refine nthx (fun k => ?_)
    rw [nth_put]
    by_cases hk : k = 635 ∧ 635 < M'.length
    · rw [if_pos hk, hk.1]
      exact hs
    · rw [if_neg hk]
  rw [hput []]
  refine prk_loop hT w1 w2 h1 h2 (fun l hl => ?_) 2314 0 0 lb ⟨sl, fun k hk => absurd hk (Nat.not_lt_zero _)⟩ rfl rfl
  have hM3 : gNth (gPut M' 635 (.inl (1, .inl l))) 633 = some (.inr (ci, vs)) := by
    rw [nth_put, if_neg (fun q => absurd q.1 (by decide))]
    exact hM
  refine rB _ (List.mem_singleton.mpr rfl) _ _ ⟨[0, sz.toInt, ln.toInt, p.toInt], [], ?_, ?_, ⟨fun e he => ?_, fun f hf => ?_, ⟨rfl, fun k q hq => ?_⟩, ⟨rfl, fun s g h => by cases h⟩, fun L hL => (by cases hL), hT.s_new hl⟩, hF.trans (Frm.row hs sT_635 (by decide))⟩
  · rcases ws with _ | ⟨q0, _ | ⟨q1, _ | ⟨q2, _ | ⟨q3, ws⟩⟩⟩⟩
    · exact i0.elim
    · exact i0.2.elim
    · exact i0.2.2.elim
    · exact i0
    · exact i0.2.2.2.elim
  · exact ⟨⟨_, rfl, 633, rfl, rfl⟩, (fun x hx => by cases hx; rfl), (fun x hx => by cases hx; rfl), ⟨_, rfl, 0, rfl, rfl⟩, trivial⟩
  · rcases List.mem_cons.mp he with rfl | he
    · exact ⟨633, rfl, ci, vs, _, hM3, v3e, sz, rfl, liS_V rfl⟩
    rcases List.mem_cons.mp he with rfl | he
    · exact ⟨633, rfl, ci, vs, _, hM3, v2e, ln, rfl, liS_V rfl⟩
    rcases List.mem_cons.mp he with rfl | he
    · exact ⟨633, rfl, ci, vs, _, hM3, v4e, p, rfl, liS_V rfl⟩
    · cases he
  · cases List.mem_singleton.mp hf
    exact ⟨[], trivial, (show FL0 28 [] _ from ⟨1, l, by rw [nth_put, if_pos ⟨rfl, gNth_lt _ _ _ hs⟩], hl.2.2⟩)⟩
  · rcases k with _ | _ | _ | _ | k
    · cases hq; exact ⟨0, rfl, by decide, by decide⟩
    · cases hq; exact ⟨_, rfl, s1, s2⟩
    · cases hq; exact ⟨_, rfl, n1, n2⟩
    · cases hq; exact ⟨_, rfl, p1, p2⟩
    · cases hq
/-! BY HAND: reading texts, the reference: write -/
theorem wr_0 {e : Nat} {M : Mem} {M' : Mem} {v : Option Value} {vs : List Value} {a b f19 n y1 : Int32} {l645 : List Int32} (hM : gNth M 633 = some (.inr (11, vs))) (v15 : gNth vs 15 = some (.ref 645)) (v19 : gNth vs 19 = some (.int f19)) (r645 : gNth M 645 = some (.inl (1, .inl l645))) (g1 : gAt l645 (1400 + f19) = some y1) (hz : Ev none e 174 14 [some (.ref 633), some (.int a), some (.int b), some (.int n)] [] (gPut M 645 (.inl (1, .inl (gPut l645 (1400 + f19).toNatClampNeg a)))) v M' 0 0) : Ev none e 174 0 [some (.ref 633), some (.int a), some (.int b), some (.int n)] [] M v M' 0 0 := by
  refine Ev.step (pc' := 1) (ls' := [some (.ref 633), some (.int a), some (.int b), some (.int n)]) (st' := [.ref 633]) (M1 := M) 1 (fun n => rfl) ?_
  refine Ev.step 1 (gs_3 rfl rfl (gf_g rfl hM v15)) ?_
  refine Ev.step (pc' := 8) (ls' := [some (.ref 633), some (.int a), some (.int b), some (.int n)]) (st' := [.ref 633, .int 1400, .ref 645]) (M1 := M) 2 (fun n => rfl) ?_
  refine Ev.step 1 (gs_3 rfl rfl (gf_g rfl hM v19)) ?_
  refine Ev.step (pc' := 13) (ls' := [some (.ref 633), some (.int a), some (.int b), some (.int n)]) (st' := [.int a, .int (1400 + f19), .ref 645]) (M1 := M) 2 (fun n => rfl) ?_
  refine Ev.step 1 (gs_4 rfl rfl (is_g r645 g1)) ?_
  exact hz
theorem wr_14 {e : Nat} {M : Mem} {M' : Mem} {v : Option Value} {vs : List Value} {a b f19 n y1 : Int32} {l646 : List Int32} (hM : gNth M 633 = some (.inr (11, vs))) (v16 : gNth vs 16 = some (.ref 646)) (v19 : gNth vs 19 = some (.int f19)) (r646 : gNth M 646 = some (.inl (1, .inl l646))) (g1 : gAt l646 (1400 + f19) = some y1) (hz : Ev none e 174 28 [some (.ref 633), some (.int a), some (.int b), some (.int n)] [] (gPut M 646 (.inl (1, .inl (gPut l646 (1400 + f19).toNatClampNeg b)))) v M' 0 0) : Ev none e 174 14 [some (.ref 633), some (.int a), some (.int b), some (.int n)] [] M v M' 0 0 := by
  refine Ev.step (pc' := 15) (ls' := [some (.ref 633), some (.int a), some (.int b), some (.int n)]) (st' := [.ref 633]) (M1 := M) 1 (fun n => rfl) ?_
  refine Ev.step 1 (gs_3 rfl rfl (gf_g rfl hM v16)) ?_
  refine Ev.step (pc' := 22) (ls' := [some (.ref 633), some (.int a), some (.int b), some (.int n)]) (st' := [.ref 633, .int 1400, .ref 646]) (M1 := M) 2 (fun n => rfl) ?_
  refine Ev.step 1 (gs_3 rfl rfl (gf_g rfl hM v19)) ?_
  refine Ev.step (pc' := 27) (ls' := [some (.ref 633), some (.int a), some (.int b), some (.int n)]) (st' := [.int b, .int (1400 + f19), .ref 646]) (M1 := M) 2 (fun n => rfl) ?_
  refine Ev.step 1 (gs_4 rfl rfl (is_g r646 g1)) ?_
  exact hz
theorem wr_28 {e : Nat} {M : Mem} {M' : Mem} {v : Option Value} {vs : List Value} {a b f19 n y1 : Int32} {l647 : List Int32} (hM : gNth M 633 = some (.inr (11, vs))) (v17 : gNth vs 17 = some (.ref 647)) (v19 : gNth vs 19 = some (.int f19)) (r647 : gNth M 647 = some (.inl (1, .inl l647))) (g1 : gAt l647 (1400 + f19) = some y1) (hz : Ev none e 174 42 [some (.ref 633), some (.int a), some (.int b), some (.int n)] [] (gPut M 647 (.inl (1, .inl (gPut l647 (1400 + f19).toNatClampNeg n)))) v M' 0 0) : Ev none e 174 28 [some (.ref 633), some (.int a), some (.int b), some (.int n)] [] M v M' 0 0 := by
  refine Ev.step (pc' := 29) (ls' := [some (.ref 633), some (.int a), some (.int b), some (.int n)]) (st' := [.ref 633]) (M1 := M) 1 (fun n => rfl) ?_
  refine Ev.step 1 (gs_3 rfl rfl (gf_g rfl hM v17)) ?_
  refine Ev.step (pc' := 36) (ls' := [some (.ref 633), some (.int a), some (.int b), some (.int n)]) (st' := [.ref 633, .int 1400, .ref 647]) (M1 := M) 2 (fun n => rfl) ?_
  refine Ev.step 1 (gs_3 rfl rfl (gf_g rfl hM v19)) ?_
  refine Ev.step (pc' := 41) (ls' := [some (.ref 633), some (.int a), some (.int b), some (.int n)]) (st' := [.int n, .int (1400 + f19), .ref 647]) (M1 := M) 2 (fun n => rfl) ?_
  refine Ev.step 1 (gs_4 rfl rfl (is_g r647 g1)) ?_
  exact hz
theorem wr_42 {e : Nat} {M : Mem} {vs : List Value} {a b f19 n : Int32} (hM : gNth M 633 = some (.inr (11, vs))) (v19 : gNth vs 19 = some (.int f19)) (hlen : vs.length = 63) : Ev none e 174 42 [some (.ref 633), some (.int a), some (.int b), some (.int n)] [] M none (gPut M 633 (.inr (11, gPut vs 19 (.int (f19 + 1))))) 0 0 := by
  refine Ev.step (pc' := 44) (ls' := [some (.ref 633), some (.int a), some (.int b), some (.int n)]) (st' := [.ref 633, .ref 633]) (M1 := M) 2 (fun n => rfl) ?_
  refine Ev.step 1 (gs_3 rfl rfl (gf_g rfl hM v19)) ?_
  refine Ev.step (pc' := 49) (ls' := [some (.ref 633), some (.int a), some (.int b), some (.int n)]) (st' := [.int (f19 + 1), .ref 633]) (M1 := M) 2 (fun n => rfl) ?_
  refine Ev.step 1 (gs_4 rfl rfl (pf_i rfl hM (by rw [hlen]; decide) rfl rfl)) ?_
  exact Ev.ret (fun n => rfl)
theorem dn_0 {e : Nat} {M : Mem} {M' : Mem} {v : Option Value} {vs : List Value} {f20 q : Int32} (hM : gNth M 633 = some (.inr (11, vs))) (v20 : gNth vs 20 = some (.int f20)) (hz : Ev none (e + 1) 175 (if f20 ≤ 0 then 69 else 7) [some (.ref 633), some (.int q)] [] M v M' 0 0) : Ev none (e + 1) 175 0 [some (.ref 633), some (.int q)] [] M v M' 0 0 := by
  refine Ev.step (pc' := 1) (ls' := [some (.ref 633), some (.int q)]) (st' := [.ref 633]) (M1 := M) 1 (fun n => rfl) ?_
  refine Ev.step 1 (gs_3 rfl rfl (gf_g rfl hM v20)) ?_
  refine Ev.step (pc' := (if f20 ≤ 0 then 69 else 7)) (ls' := [some (.ref 633), some (.int q)]) (st' := []) (M1 := M) 1 (fun n => rfl) ?_
  exact hz
theorem dn_7 {e : Nat} {M : Mem} {M' : Mem} {v : Option Value} {vs : List Value} {f20 q y1 : Int32} {l648 : List Int32} (hM : gNth M 633 = some (.inr (11, vs))) (v18 : gNth vs 18 = some (.ref 648)) (v20 : gNth vs 20 = some (.int f20)) (r648 : gNth M 648 = some (.inl (1, .inl l648))) (g1 : gAt l648 (f20 - 1) = some y1) (hz : Ev none (e + 1) 175 (if y1 = 23 then 69 else 23) [some (.ref 633), some (.int q)] [] M v M' 0 0) : Ev none (e + 1) 175 7 [some (.ref 633), some (.int q)] [] M v M' 0 0 := by
  refine Ev.step (pc' := 8) (ls' := [some (.ref 633), some (.int q)]) (st' := [.ref 633]) (M1 := M) 1 (fun n => rfl) ?_
  refine Ev.step 1 (gs_3 rfl rfl (gf_g rfl hM v18)) ?_
  refine Ev.step (pc' := 12) (ls' := [some (.ref 633), some (.int q)]) (st' := [.ref 633, .ref 648]) (M1 := M) 1 (fun n => rfl) ?_
  refine Ev.step 1 (gs_3 rfl rfl (gf_g rfl hM v20)) ?_
  refine Ev.step (pc' := 17) (ls' := [some (.ref 633), some (.int q)]) (st' := [.int (f20 - 1), .ref 648]) (M1 := M) 2 (fun n => rfl) ?_
  refine Ev.step 1 (gs_3 rfl rfl (ia_g r648 g1)) ?_
  refine Ev.step (pc' := (if y1 = 23 then 69 else 23)) (ls' := [some (.ref 633), some (.int q)]) (st' := []) (M1 := M) 2 (fun n => rfl) ?_
  exact hz
theorem dn_23 {e : Nat} {M : Mem} {M' : Mem} {v : Option Value} {vs : List Value} {f20 q y1 : Int32} {l648 : List Int32} (hM : gNth M 633 = some (.inr (11, vs))) (v18 : gNth vs 18 = some (.ref 648)) (v20 : gNth vs 20 = some (.int f20)) (r648 : gNth M 648 = some (.inl (1, .inl l648))) (g1 : gAt l648 (f20 - 1) = some y1) (hz : Ev none (e + 1) 175 34 [some (.ref 633), some (.int q)] [.int y1] M v M' 0 0) : Ev none (e + 1) 175 23 [some (.ref 633), some (.int q)] [] M v M' 0 0 := by
  refine Ev.step (pc' := 24) (ls' := [some (.ref 633), some (.int q)]) (st' := [.ref 633]) (M1 := M) 1 (fun n => rfl) ?_
  refine Ev.step 1 (gs_3 rfl rfl (gf_g rfl hM v18)) ?_
  refine Ev.step (pc' := 28) (ls' := [some (.ref 633), some (.int q)]) (st' := [.ref 633, .ref 648]) (M1 := M) 1 (fun n => rfl) ?_
  refine Ev.step 1 (gs_3 rfl rfl (gf_g rfl hM v20)) ?_
  refine Ev.step (pc' := 33) (ls' := [some (.ref 633), some (.int q)]) (st' := [.int (f20 - 1), .ref 648]) (M1 := M) 2 (fun n => rfl) ?_
  refine Ev.step 1 (gs_3 rfl rfl (ia_g r648 g1)) ?_
  exact hz
theorem dn_37 {e : Nat} {M : Mem} {M' : Mem} {v : Option Value} {q z : Int32}  (hz : Ev none (e + 1) 175 (if z < q then 69 else 41) [some (.ref 633), some (.int q)] [] M v M' 0 0) : Ev none (e + 1) 175 37 [some (.ref 633), some (.int q)] [.int z] M v M' 0 0 := by
  refine Ev.step (pc' := (if z < q then 69 else 41)) (ls' := [some (.ref 633), some (.int q)]) (st' := []) (M1 := M) 2 (fun n => rfl) ?_
  exact hz
theorem dn_41 {e : Nat} {M : Mem} {M' : Mem} {v : Option Value} {vs : List Value} {f20 q : Int32} (hM : gNth M 633 = some (.inr (11, vs))) (v20 : gNth vs 20 = some (.int f20)) (hlen : vs.length = 63) (hz : Ev none (e + 1) 175 51 [some (.ref 633), some (.int q)] [] (gPut M 633 (.inr (11, gPut vs 20 (.int (f20 - 1))))) v M' 0 0) : Ev none (e + 1) 175 41 [some (.ref 633), some (.int q)] [] M v M' 0 0 := by
  refine Ev.step (pc' := 43) (ls' := [some (.ref 633), some (.int q)]) (st' := [.ref 633, .ref 633]) (M1 := M) 2 (fun n => rfl) ?_
  refine Ev.step 1 (gs_3 rfl rfl (gf_g rfl hM v20)) ?_
  refine Ev.step (pc' := 48) (ls' := [some (.ref 633), some (.int q)]) (st' := [.int (f20 - 1), .ref 633]) (M1 := M) 2 (fun n => rfl) ?_
  refine Ev.step 1 (gs_4 rfl rfl (pf_i rfl hM (by rw [hlen]; decide) rfl rfl)) ?_
  exact hz
theorem dn_51 {e : Nat} {M : Mem} {M' : Mem} {v : Option Value} {vs : List Value} {f20 q y1 : Int32} {l648 : List Int32} (hM : gNth M 633 = some (.inr (11, vs))) (v18 : gNth vs 18 = some (.ref 648)) (v20 : gNth vs 20 = some (.int f20)) (r648 : gNth M 648 = some (.inl (1, .inl l648))) (g1 : gAt l648 f20 = some y1) (hz : Ev none (e + 1) 175 63 [some (.ref 633), some (.int q)] [.int 0, .int 0, .int y1, .ref 633] M v M' 0 0) : Ev none (e + 1) 175 51 [some (.ref 633), some (.int q)] [] M v M' 0 0 := by
  refine Ev.step (pc' := 53) (ls' := [some (.ref 633), some (.int q)]) (st' := [.ref 633, .ref 633]) (M1 := M) 2 (fun n => rfl) ?_
  refine Ev.step 1 (gs_3 rfl rfl (gf_g rfl hM v18)) ?_
  refine Ev.step (pc' := 57) (ls' := [some (.ref 633), some (.int q)]) (st' := [.ref 633, .ref 648, .ref 633]) (M1 := M) 1 (fun n => rfl) ?_
  refine Ev.step 1 (gs_3 rfl rfl (gf_g rfl hM v20)) ?_
  refine Ev.step 1 (gs_3 rfl rfl (ia_g r648 g1)) ?_
  refine Ev.step (pc' := 63) (ls' := [some (.ref 633), some (.int q)]) (st' := [.int 0, .int 0, .int y1, .ref 633]) (M1 := M) 2 (fun n => rfl) ?_
  exact hz
theorem dn_66 {e : Nat} {M : Mem} {M' : Mem} {v : Option Value} {q : Int32}  (hz : Ev none (e + 1) 175 0 [some (.ref 633), some (.int q)] [] M v M' 0 0) : Ev none (e + 1) 175 66 [some (.ref 633), some (.int q)] [] M v M' 0 0 := by
  refine Ev.step (pc' := 0) (ls' := [some (.ref 633), some (.int q)]) (st' := []) (M1 := M) 1 (fun n => rfl) ?_
  exact hz
theorem dn_69 {e : Nat} {M : Mem} {q : Int32}  : Ev none (e + 1) 175 69 [some (.ref 633), some (.int q)] [] M none M 0 0 := by
  exact Ev.ret (fun n => rfl)
theorem bi_0 {e : Nat} {M : Mem} {M' : Mem} {v : Option Value} {w : Int32}  (hz : Ev none e 176 (if w = 20 then 6 else 10) [some (.int w)] [] M v M' 0 0) : Ev none e 176 0 [some (.int w)] [] M v M' 0 0 := by
  refine Ev.step (pc' := (if w = 20 then 6 else 10)) (ls' := [some (.int w)]) (st' := []) (M1 := M) 3 (fun n => rfl) ?_
  exact hz
theorem bi_6 {e : Nat} {M : Mem} {w : Int32}  : Ev none e 176 6 [some (.int w)] [] M (some (.int 3)) M 0 0 := by
  refine Ev.step (pc' := 21) (ls' := [some (.int w)]) (st' := [.int 3]) (M1 := M) 2 (fun n => rfl) ?_
  exact Ev.ret (fun n => rfl)
theorem bi_10 {e : Nat} {M : Mem} {M' : Mem} {v : Option Value} {w : Int32}  (hz : Ev none e 176 (if w = 21 then 16 else 20) [some (.int w)] [] M v M' 0 0) : Ev none e 176 10 [some (.int w)] [] M v M' 0 0 := by
  refine Ev.step (pc' := (if w = 21 then 16 else 20)) (ls' := [some (.int w)]) (st' := []) (M1 := M) 3 (fun n => rfl) ?_
  exact hz
theorem bi_16 {e : Nat} {M : Mem} {w : Int32}  : Ev none e 176 16 [some (.int w)] [] M (some (.int 2)) M 0 0 := by
  refine Ev.step (pc' := 21) (ls' := [some (.int w)]) (st' := [.int 2]) (M1 := M) 2 (fun n => rfl) ?_
  exact Ev.ret (fun n => rfl)
theorem bi_20 {e : Nat} {M : Mem} {w : Int32}  : Ev none e 176 20 [some (.int w)] [] M (some (.int 1)) M 0 0 := by
  refine Ev.step (pc' := 21) (ls' := [some (.int w)]) (st' := [.int 1]) (M1 := M) 1 (fun n => rfl) ?_
  exact Ev.ret (fun n => rfl)
theorem cal_wr {M : Mem} {vs : List Value} {a0 a1 a2 : Int32} {rest : List Value} (hM : gNth M 633 = some (.inr (11, vs))) (hr : gRoom rest = true) : gCal (.invokevirtual 294) 11 (.int a2 :: .int a1 :: .int a0 :: .ref 633 :: rest) M = some (.inr (174, [some (.ref 633), some (.int a0), some (.int a1), some (.int a2)], rest)) := by
  show @cond (Option ((List Value × Mem) ⊕ (Nat × Lo × List Value))) (true && gRecv M (.ref 633) 11 && gRoom rest && true) (some (.inr (174, [some (.ref 633), some (.int a0), some (.int a1), some (.int a2)], rest))) none = _
  rw [recv_ok hM, hr]
  rfl
set_option maxRecDepth 100000 in
theorem rwT : (rwB 73 1 1600 (-2147483648) 2147483647 && rwB 74 1 1600 (-2147483648) 2147483647 && rwB 75 1 1600 (-2147483648) 2147483647 && rwB 76 1 100 (-2147483648) 2147483647) = true := by decide +kernel
set_option maxRecDepth 100000 in
theorem mfT : (mfB 15 73 && mfB 16 74 && mfB 17 75 && mfB 18 76) = true := by decide +kernel
set_option maxRecDepth 100000 in
theorem sUT : gNth sU 73 = some (some 645) ∧ gNth sU 74 = some (some 646) ∧ gNth sU 75 = some (some 647) ∧ gNth sU 76 = some (some 648) := by refine ⟨?_, ?_, ?_, ?_⟩ <;> decide +kernel
set_option maxRecDepth 100000 in
theorem sT_648 : gNth sT 648 = some 76 := by decide +kernel
set_option maxRecDepth 100000 in
theorem fBT : (fldB 19 0 200 && fldB 20 0 100 && fldB 21 0 40) = true := by decide +kernel
/-- the counters and rows of a text that is read -/
def Cst (M : Mem) (S P O : Int32) (ls lp : List Int32) : Prop := ∃ vs, gNth M 633 = some (.inr (11, vs)) ∧ gNth vs 19 = some (.int S) ∧ gNth vs 20 = some (.int P) ∧ gNth vs 21 = some (.int O) ∧ gNth M 645 = some (.inl (1, .inl ls)) ∧ gNth M 648 = some (.inl (1, .inl lp))
theorem TM.cst {M : Mem} (hT : TM sT sG M) : ∃ S P O ls lp, Cst M S P O ls lp ∧ ls.length = 1600 ∧ lp.length = 100 ∧ 0 ≤ S.toInt ∧ S.toInt ≤ 200 ∧ 0 ≤ P.toInt ∧ P.toInt ≤ 100 ∧ 0 ≤ O.toInt ∧ O.toInt ≤ 40 := by
  obtain ⟨h, b3⟩ := and_t fBT
  obtain ⟨b1, b2⟩ := and_t h
  obtain ⟨h, r4⟩ := and_t rwT
  obtain ⟨h, r3⟩ := and_t h
  obtain ⟨r1, r2⟩ := and_t h
  obtain ⟨vs, S, hM, _, s1, s2, s3, _⟩ := hT.fint b1
  obtain ⟨vs2, P, hM2, _, p1, p2, p3, _⟩ := hT.fint b2
  cases hM.symm.trans hM2
  obtain ⟨vs3, O, hM3, _, o1, o2, o3, _⟩ := hT.fint b3
  cases hM.symm.trans hM3
  obtain ⟨ls, l1, l2, _⟩ := hT.mrow sT_645 r1
  obtain ⟨lp, q1, q2, _⟩ := hT.mrow sT_648 r4
  exact ⟨S, P, O, ls, lp, ⟨vs, hM, s1, p1, o1, l1, q1⟩, l2, q2, s2, s3, p2, p3, o2, o3⟩
theorem Cst.det {M : Mem} {S P O S2 P2 O2 : Int32} {ls lp ls2 lp2 : List Int32} (h : Cst M S P O ls lp) (h2 : Cst M S2 P2 O2 ls2 lp2) : S = S2 ∧ P = P2 ∧ O = O2 ∧ ls = ls2 ∧ lp = lp2 := by
  obtain ⟨vs, a1, a2, a3, a4, a5, a6⟩ := h
  obtain ⟨vs2, b1, b2, b3, b4, b5, b6⟩ := h2
  cases a1.symm.trans b1
  cases a2.symm.trans b2
  cases a3.symm.trans b3
  cases a4.symm.trans b4
  cases a5.symm.trans b5
  cases a6.symm.trans b6
  exact ⟨rfl, rfl, rfl, rfl, rfl⟩
/-- what a call that does not write them leaves -/
theorem Cst.frm {M M' : Mem} {md : Md} {S P O : Int32} {ls lp : List Int32} (h : Cst M S P O ls lp) (hF : Frm sT md M M') (hm : (!(mdIn md 11 19 || mdIn md 11 20 || mdIn md 11 21 || mdIn md 1073 0 || mdIn md 1076 0)) = true) : Cst M' S P O ls lp := by
  obtain ⟨vs, a1, a2, a3, a4, a5, a6⟩ := h
  obtain ⟨vs', e1, _, e2⟩ := hF.2.1 _ _ _ a1
  have hn : ∀ c k, mdIn md c k = true → (mdIn md 11 19 || mdIn md 11 20 || mdIn md 11 21 || mdIn md 1073 0 || mdIn md 1076 0) = false := fun c k _ => by
    cases hb : (mdIn md 11 19 || mdIn md 11 20 || mdIn md 11 21 || mdIn md 1073 0 || mdIn md 1076 0) with
    | false => rfl
    | true => rw [hb] at hm; cases hm
  have no : ∀ c k, (mdIn md c k = true → (mdIn md 11 19 || mdIn md 11 20 || mdIn md 11 21 || mdIn md 1073 0 || mdIn md 1076 0) = true) → (c, k) ∉ md := fun c k h hc => by
    have h1 := mdIn_iff.mpr hc
    have h2 := h h1
    rw [hn c k h1] at h2
    cases h2
  exact ⟨vs', e1, by rw [e2 19 (no 11 19 (fun h => by rw [h]; rfl))]; exact a2, by rw [e2 20 (no 11 20 (fun h => by rw [h]; simp))]; exact a3, by rw [e2 21 (no 11 21 (fun h => by rw [h]; simp))]; exact a4, row_frm hF sT_645 (no 1073 0 (fun h => by rw [h]; simp)) a5, row_frm hF sT_648 (no 1076 0 (fun h => by rw [h]; simp)) a6⟩
/-- a field of the Model that is an int is written -/
theorem put_fld {M : Mem} {vs : List Value} (hM : gNth M 633 = some (.inr (11, vs))) (hl : vs.length = 63) (k : Nat) (hk : k < 63) (y : Int32) : gNth (gPut M 633 (.inr (11, gPut vs k (.int y)))) 633 = some (.inr (11, gPut vs k (.int y))) ∧ gNth (gPut vs k (.int y)) k = some (.int y) ∧ ∀ j, j ≠ k → gNth (gPut vs k (.int y)) j = gNth vs j := by
  refine ⟨by rw [nth_put, if_pos ⟨rfl, gNth_lt _ _ _ hM⟩], by rw [nth_put, if_pos ⟨rfl, by omega⟩], fun j hj => by rw [nth_put, if_neg (fun q => hj q.1)]⟩
/-- rows of the reference other than its object -/
theorem ne_633 {M : Mem} {x : AE} {a : Nat} (h : a ≠ 633) : gNth (gPut M 633 x) a = gNth M a := by
  rw [nth_put, if_neg (fun q => h q.1)]
theorem fset {M : Mem} (hT : TM sT sG M) {k : Nat} {lo hi : Int} (hB : fldB k lo hi = true) {vs : List Value} (hM : gNth M 633 = some (.inr (11, vs))) {y : Int32} (h1 : lo ≤ y.toInt) (h2 : y.toInt ≤ hi) : TM sT sG (gPut M 633 (.inr (11, gPut vs k (.int y)))) ∧ vs.length = 63 := by
  obtain ⟨vs2, z, q1, q2, _, _, _, q3⟩ := hT.fint hB
  cases hM.symm.trans q1
  exact ⟨q3 y h1 h2, q2⟩
theorem Cst.S {M : Mem} (hT : TM sT sG M) {S P O : Int32} {ls lp : List Int32} {vs : List Value} (h : Cst M S P O ls lp) (hM : gNth M 633 = some (.inr (11, vs))) {y : Int32} (h1 : 0 ≤ y.toInt) (h2 : y.toInt ≤ 200) : TM sT sG (gPut M 633 (.inr (11, gPut vs 19 (.int y)))) ∧ Cst (gPut M 633 (.inr (11, gPut vs 19 (.int y)))) y P O ls lp := by
  obtain ⟨vs2, a1, a2, a3, a4, a5, a6⟩ := h
  cases hM.symm.trans a1
  obtain ⟨q1, q2⟩ := fset hT (and_t (and_t fBT).1).1 hM h1 h2
  obtain ⟨u1, u2, u3⟩ := put_fld hM q2 19 (by decide) y
  exact ⟨q1, _, u1, u2, by rw [u3 20 (by decide)]; exact a3, by rw [u3 21 (by decide)]; exact a4, by rw [ne_633 (by decide)]; exact a5, by rw [ne_633 (by decide)]; exact a6⟩
theorem Cst.P {M : Mem} (hT : TM sT sG M) {S P O : Int32} {ls lp : List Int32} {vs : List Value} (h : Cst M S P O ls lp) (hM : gNth M 633 = some (.inr (11, vs))) {y : Int32} (h1 : 0 ≤ y.toInt) (h2 : y.toInt ≤ 100) : TM sT sG (gPut M 633 (.inr (11, gPut vs 20 (.int y)))) ∧ Cst (gPut M 633 (.inr (11, gPut vs 20 (.int y)))) S y O ls lp := by
  obtain ⟨vs2, a1, a2, a3, a4, a5, a6⟩ := h
  cases hM.symm.trans a1
  obtain ⟨q1, q2⟩ := fset hT (and_t (and_t fBT).1).2 hM h1 h2
  obtain ⟨u1, u2, u3⟩ := put_fld hM q2 20 (by decide) y
  exact ⟨q1, _, u1, by rw [u3 19 (by decide)]; exact a2, u2, by rw [u3 21 (by decide)]; exact a4, by rw [ne_633 (by decide)]; exact a5, by rw [ne_633 (by decide)]; exact a6⟩
theorem Cst.O {M : Mem} (hT : TM sT sG M) {S P O : Int32} {ls lp : List Int32} {vs : List Value} (h : Cst M S P O ls lp) (hM : gNth M 633 = some (.inr (11, vs))) {y : Int32} (h1 : 0 ≤ y.toInt) (h2 : y.toInt ≤ 40) : TM sT sG (gPut M 633 (.inr (11, gPut vs 21 (.int y)))) ∧ Cst (gPut M 633 (.inr (11, gPut vs 21 (.int y)))) S P y ls lp := by
  obtain ⟨vs2, a1, a2, a3, a4, a5, a6⟩ := h
  cases hM.symm.trans a1
  obtain ⟨q1, q2⟩ := fset hT (and_t fBT).2 hM h1 h2
  obtain ⟨u1, u2, u3⟩ := put_fld hM q2 21 (by decide) y
  exact ⟨q1, _, u1, by rw [u3 19 (by decide)]; exact a2, by rw [u3 20 (by decide)]; exact a3, u2, by rw [ne_633 (by decide)]; exact a5, by rw [ne_633 (by decide)]; exact a6⟩
set_option maxRecDepth 100000 in
/-- a row of any numbers is written -/
theorem any_put {M : Mem} (hT : TM sT sG M) {a g n : Nat} {l : List Int32} (ha : gNth sT a = some g) (hl : gNth M a = some (.inl (1, .inl l))) (hn : l.length = n) (h : (match gNth sG g with
    | some (.inr (q, m, .inl [(0, m2, 1, [(x, y)])])) => Nat.beq q 1 && (Nat.beq m n && (!Nat.beq q 2 && (Nat.beq m2 n && (decide (x ≤ -2147483648) && decide (2147483647 ≤ y)))))
    | _ => false) = true) (i : Nat) (y : Int32) : TM sT sG (gPut M a (.inl (1, .inl (gPut l i y)))) := hT.putrow (n := n) (lo := -2147483648) (hi := 2147483647) ha h (by rw [put_len]; exact hn) (fun _ x _ => i32_any x)
theorem i32_1400 {S : Int32} (h0 : 0 ≤ S.toInt) (h1 : S.toInt ≤ 200) : (1400 + S).toInt = ((1400 + S.toInt.toNat : Nat) : Int) := by
  have o : (1400 : Int32).toInt = 1400 := rfl
  rw [i32_add (by rw [o]; omega) (by rw [o]; omega), o]
  omega
/-- write(a, b, n) -/
theorem ev_write {M : Mem} {e : Nat} {a b n S P O : Int32} {ls lp : List Int32} (hT : TM sT sG M) (h : Cst M S P O ls lp) (hS : S.toInt ≤ 199) : ∃ M', Ev none e 174 0 [some (.ref 633), some (.int a), some (.int b), some (.int n)] [] M none M' 0 0 ∧ TM sT sG M' ∧ Frm sT [(11, 19), (1073, 0), (1074, 0), (1075, 0)] M M' ∧ Cst M' (S + 1) P O (gPut ls (1400 + S.toInt.toNat) a) lp := by
  obtain ⟨S', P', O', ls', lp', c1, ll, pl, s0, s1, _⟩ := hT.cst
  obtain ⟨rfl, rfl, rfl, rfl, rfl⟩ := h.det c1
  obtain ⟨vs, hM, v19, v20, v21, r645, r648⟩ := h
  obtain ⟨vs9, hM9, hv⟩ := hT.mfld
  cases hM.symm.trans hM9
  obtain ⟨q, m4⟩ := and_t mfT
  obtain ⟨q, m3⟩ := and_t q
  obtain ⟨m1, m2⟩ := and_t q
  obtain ⟨u1, u2, u3, u4⟩ := sUT
  have h15 := hv _ _ _ m1 u1
  have h16 := hv _ _ _ m2 u2
  have h17 := hv _ _ _ m3 u3
  obtain ⟨q, r4⟩ := and_t rwT
  obtain ⟨q, r3⟩ := and_t q
  obtain ⟨r1, r2⟩ := and_t q
  obtain ⟨l6, b1, b2, _⟩ := hT.mrow sT_646 r2
  obtain ⟨l7, d1, d2, _⟩ := hT.mrow sT_647 r3
  have ei := i32_1400 s0 s1
  obtain ⟨y, y1, y2⟩ := at_c (l := ls) ei (by omega)
  obtain ⟨z, z1, z2⟩ := at_c (l := l6) ei (by omega)
  obtain ⟨x, x1, x2⟩ := at_c (l := l7) ei (by omega)
  have eS : (S + 1).toInt = S.toInt + 1 := i32_p1 (by omega)
  obtain ⟨k, ek⟩ : ∃ k, k = 1400 + S.toInt.toNat := ⟨_, rfl⟩
  obtain ⟨M1, e1⟩ : ∃ M1, M1 = gPut M 645 (.inl (1, .inl (gPut ls k a))) := ⟨_, rfl⟩
  have T1 : TM sT sG M1 := by rw [e1]; exact any_put hT sT_645 r645 ll (by decide +kernel) _ _
  have F1 : Frm sT [(11, 19), (1073, 0), (1074, 0), (1075, 0)] M M1 := by rw [e1]; exact Frm.row r645 sT_645 (by decide)
  have n1 : ∀ c, c ≠ 645 → gNth M1 c = gNth M c := fun c hc => by rw [e1, nth_put, if_neg (fun q => hc q.1)]
  obtain ⟨M2, e2⟩ : ∃ M2, M2 = gPut M1 646 (.inl (1, .inl (gPut l6 k b))) := ⟨_, rfl⟩
  have b1' : gNth M1 646 = some (.inl (1, .inl l6)) := by rw [n1 646 (by decide)]; exact b1
  have T2 : TM sT sG M2 := by rw [e2]; exact any_put T1 sT_646 b1' b2 (by decide +kernel) _ _
  have F2 : Frm sT [(11, 19), (1073, 0), (1074, 0), (1075, 0)] M1 M2 := by rw [e2]; exact Frm.row b1' sT_646 (by decide)
  have n2 : ∀ c, c ≠ 646 → gNth M2 c = gNth M1 c := fun c hc => by rw [e2, nth_put, if_neg (fun q => hc q.1)]
  obtain ⟨M3, e3⟩ : ∃ M3, M3 = gPut M2 647 (.inl (1, .inl (gPut l7 k n))) := ⟨_, rfl⟩
  have d1' : gNth M2 647 = some (.inl (1, .inl l7)) := by rw [n2 647 (by decide), n1 647 (by decide)]; exact d1
  have T3 : TM sT sG M3 := by rw [e3]; exact any_put T2 sT_647 d1' d2 (by decide +kernel) _ _
  have F3 : Frm sT [(11, 19), (1073, 0), (1074, 0), (1075, 0)] M2 M3 := by rw [e3]; exact Frm.row d1' sT_647 (by decide)
  have n3 : ∀ c, c ≠ 647 → gNth M3 c = gNth M2 c := fun c hc => by rw [e3, nth_put, if_neg (fun q => hc q.1)]
  have hM1 : gNth M1 633 = some (.inr (11, vs)) := by rw [n1 633 (by decide)]; exact hM
  have hM2 : gNth M2 633 = some (.inr (11, vs)) := by rw [n2 633 (by decide)]; exact hM1
  have hM3 : gNth M3 633 = some (.inr (11, vs)) := by rw [n3 633 (by decide)]; exact hM2
  have c3 : Cst M3 S P O (gPut ls k a) lp := ⟨vs, hM3, v19, v20, v21, by rw [n3 645 (by decide), n2 645 (by decide), e1, nth_put, if_pos ⟨rfl, gNth_lt _ _ _ r645⟩], by rw [n3 648 (by decide), n2 648 (by decide), n1 648 (by decide)]; exact r648⟩
  obtain ⟨T4, c4⟩ := c3.S T3 hM3 (y := S + 1) (by omega) (by omega)
  obtain ⟨_, hlen⟩ := fset T3 (and_t (and_t fBT).1).1 hM3 (y := S + 1) (by omega) (by omega)
  refine ⟨_, wr_0 hM h15 v19 r645 y1 ?_, T4, ((F1.trans F2).trans F3).trans (Frm.fld hM3 (by decide)), by rw [← ek]; exact c4⟩
  rw [cl_n ei, ← ek, ← e1]
  refine wr_14 hM1 h16 v19 b1' z1 ?_
  rw [cl_n ei, ← ek, ← e2]
  refine wr_28 hM2 h17 v19 d1' x1 ?_
  rw [cl_n ei, ← ek, ← e3]
  exact wr_42 hM3 v19 hlen
/-! BY HAND: reading texts, the reference: writeDown -/
/-- m steps from place k on take the pile of answers from n to n2 -/
def runS : Nat → List Int32 → Nat → Int → Int → Prop
  | 0, _, _, n, n2 => n = n2
  | m + 1, l, k, n, n2 => ∃ w, gNth l k = some w ∧ ((w = 20 ∧ 1 ≤ n ∧ runS m l (k + 1) n n2) ∨ (w ≠ 20 ∧ (w = 21 ∨ w = 22) ∧ 2 ≤ n ∧ runS m l (k + 1) (n - 1) n2) ∨ (w ≠ 20 ∧ w ≠ 21 ∧ w ≠ 22 ∧ n < 60 ∧ runS m l (k + 1) (n + 1) n2))
theorem runS.ok {l : List Int32} : ∀ {m k : Nat} {n n2 : Int}, runS m l k n n2 → okS m l k n := by
  intro m
  induction m with
  | zero => intro k n n2 _; trivial
  | succ m ih =>
    intro k n n2 h
    obtain ⟨w, h1, h2⟩ := h
    refine ⟨w, h1, ?_⟩
    rcases h2 with ⟨a, b, c⟩ | ⟨a, b, c, d⟩ | ⟨a, b, c, d, e⟩
    · exact Or.inl ⟨a, b, ih c⟩
    · exact Or.inr (Or.inl ⟨a, b, c, ih d⟩)
    · exact Or.inr (Or.inr ⟨a, b, c, d, ih e⟩)
theorem runS.put {l : List Int32} {x : Nat} {v : Int32} : ∀ {m k : Nat} {n n2 : Int}, runS m l k n n2 → (k + m ≤ x) → runS m (gPut l x v) k n n2 := by
  intro m
  induction m with
  | zero => intro k n n2 h _; exact h
  | succ m ih =>
    intro k n n2 h hx
    obtain ⟨w, h1, h2⟩ := h
    refine ⟨w, by rw [nth_put, if_neg (by omega)]; exact h1, ?_⟩
    rcases h2 with ⟨a, b, c⟩ | ⟨a, b, c, d⟩ | ⟨a, b, c, d, e⟩
    · exact Or.inl ⟨a, b, ih c (by omega)⟩
    · exact Or.inr (Or.inl ⟨a, b, c, ih d (by omega)⟩)
    · exact Or.inr (Or.inr ⟨a, b, c, d, ih e (by omega)⟩)
theorem runS.snoc {l : List Int32} : ∀ {m k : Nat} {n n2 n3 : Int}, runS m l k n n2 → runS 1 l (k + m) n2 n3 → runS (m + 1) l k n n3 := by
  intro m
  induction m with
  | zero =>
    intro k n n2 n3 h h2
    have h : n = n2 := h
    rw [h]
    exact h2
  | succ m ih =>
    intro k n n2 n3 h h3
    obtain ⟨w, h1, h2⟩ := h
    refine ⟨w, h1, ?_⟩
    rw [show k + (m + 1) = k + 1 + m by omega] at h3
    rcases h2 with ⟨a, b, c⟩ | ⟨a, b, c, d⟩ | ⟨a, b, c, d, e⟩
    · exact Or.inl ⟨a, b, ih c h3⟩
    · exact Or.inr (Or.inl ⟨a, b, c, ih d h3⟩)
    · exact Or.inr (Or.inr ⟨a, b, c, d, ih e h3⟩)
def entP (lp : List Int32) (p : Nat) : Prop := ∀ i, i < p → ∃ w : Int32, gNth lp i = some w ∧ (w = 20 ∨ w = 21 ∨ w = 22 ∨ w = 23)
noncomputable def binN (lp : List Int32) : Nat → Nat
  | 0 => 0
  | p + 1 => binN lp p + (if gNth lp p = some 21 ∨ gNth lp p = some 22 then 1 else 0)
def hasO (lp : List Int32) (p : Nat) : Prop := ∃ k, k < p ∧ gNth lp k = some 23
/-- what stands while a line's steps, from m on, are read; b: an answer is ready -/
def JJ (ls0 : List Int32) (m b : Nat) (M : Mem) (s p o : Nat) (ls lp : List Int32) : Prop := TM sT sG M ∧ (∃ S P O : Int32, Cst M S P O ls lp ∧ S.toInt = (s : Int) ∧ P.toInt = (p : Int) ∧ O.toInt = (o : Int)) ∧ s + p + b ≤ 2 * o ∧ m ≤ s ∧ (∃ dd : Nat, runS (s - m) ls (1400 + m) 0 (dd : Int) ∧ dd = b + binN lp p ∧ dd ≤ o) ∧ entP lp p ∧ ∀ i, i < 1400 + m → gNth ls i = gNth ls0 i
theorem JJ.num {ls0 ls lp : List Int32} {m b s p o : Nat} {M : Mem} (h : JJ ls0 m b M s p o ls lp) : o ≤ 40 ∧ s ≤ 80 ∧ p ≤ 80 ∧ ls.length = 1600 ∧ lp.length = 100 := by
  obtain ⟨hT, ⟨S, P, O, hc, h1, h2, h3⟩, h4, _⟩ := h
  obtain ⟨S2, P2, O2, ls2, lp2, c, q1, q2, _, _, _, _, _, q3⟩ := hT.cst
  obtain ⟨rfl, rfl, rfl, rfl, rfl⟩ := hc.det c
  exact ⟨by omega, by omega, by omega, q1, q2⟩
theorem JJ.frm {ls0 ls lp : List Int32} {m b s p o : Nat} {M M' : Mem} {md : Md} (h : JJ ls0 m b M s p o ls lp) (hT : TM sT sG M') (hF : Frm sT md M M') (hm : (!(mdIn md 11 19 || mdIn md 11 20 || mdIn md 11 21 || mdIn md 1073 0 || mdIn md 1076 0)) = true) : JJ ls0 m b M' s p o ls lp := by
  obtain ⟨_, ⟨S, P, O, hc, h1, h2, h3⟩, h4⟩ := h
  exact ⟨hT, ⟨S, P, O, hc.frm hF hm, h1, h2, h3⟩, h4⟩
/-- an answer's step is written -/
theorem JJ.atom {ls0 ls lp : List Int32} {m s p o : Nat} {M M' : Mem} {w S P O : Int32} (h : JJ ls0 m 0 M s p o ls lp) (w0 : w ≠ 20) (w1 : w ≠ 21) (w2 : w ≠ 22) (ho : ∃ dd : Nat, runS (s - m) ls (1400 + m) 0 (dd : Int) ∧ dd = binN lp p ∧ dd + 1 ≤ o) (hs : s + p + 2 ≤ 2 * o) (hT : TM sT sG M') (hc : Cst M' S P O (gPut ls (1400 + s) w) lp) (e1 : S.toInt = (s : Int) + 1) (e2 : P.toInt = (p : Int)) (e3 : O.toInt = (o : Int)) : JJ ls0 m 1 M' (s + 1) p o (gPut ls (1400 + s) w) lp := by
  obtain ⟨hn1, hn2, hn3, ll, pl⟩ := h.num
  obtain ⟨_, _, _, h5, _, h7, h8⟩ := h
  obtain ⟨dd, r1, r2, r3⟩ := ho
  refine ⟨hT, ⟨S, P, O, hc, by omega, e2, e3⟩, by omega, by omega, ⟨dd + 1, ?_, by omega, r3⟩, h7, fun i hi => by rw [nth_put, if_neg (by omega)]; exact h8 i hi⟩
  rw [show s + 1 - m = (s - m) + 1 by omega]
  refine (r1.put (by omega)).snoc ⟨w, by rw [nth_put, if_pos ⟨by omega, by omega⟩], Or.inr (Or.inr ⟨w0, w1, w2, by omega, ?_⟩)⟩
  show (dd : Int) + 1 = ((dd + 1 : Nat) : Int)
  omega
/-- the top of the pile is written -/
theorem JJ.pop {ls0 ls lp : List Int32} {m s p o : Nat} {M M' : Mem} {w S P O : Int32} (h : JJ ls0 m 1 M s (p + 1) o ls lp) (hw : gNth lp p = some w) (w3 : w ≠ 23) (hT : TM sT sG M') (hc : Cst M' S P O (gPut ls (1400 + s) w) lp) (e1 : S.toInt = (s : Int) + 1) (e2 : P.toInt = (p : Int)) (e3 : O.toInt = (o : Int)) : JJ ls0 m 1 M' (s + 1) p o (gPut ls (1400 + s) w) lp := by
  obtain ⟨hn1, hn2, hn3, ll, pl⟩ := h.num
  obtain ⟨_, _, h4, h5, ⟨dd, r1, r2, r3⟩, h7, h8⟩ := h
  obtain ⟨w', q1, q2⟩ := h7 p (by omega)
  cases hw.symm.trans q1
  have hb : binN lp (p + 1) = binN lp p + (if gNth lp p = some 21 ∨ gNth lp p = some 22 then 1 else 0) := rfl
  have h7' : entP lp p := fun i hi => h7 i (by omega)
  have h8' : ∀ i, i < 1400 + m → gNth (gPut ls (1400 + s) w) i = gNth ls0 i := fun i hi => by rw [nth_put, if_neg (by omega)]; exact h8 i hi
  rcases q2 with rfl | hq
  · rw [if_neg (by rw [hw]; decide)] at hb
    refine ⟨hT, ⟨S, P, O, hc, by omega, e2, e3⟩, by omega, by omega, ⟨dd, ?_, by omega, r3⟩, h7', h8'⟩
    rw [show s + 1 - m = (s - m) + 1 by omega]
    exact (r1.put (by omega)).snoc ⟨20, by rw [nth_put, if_pos ⟨by omega, by omega⟩], Or.inl ⟨rfl, by omega, rfl⟩⟩
  · have hw2 : w = 21 ∨ w = 22 := by
      rcases hq with h | h | h
      · exact Or.inl h
      · exact Or.inr h
      · exact absurd h w3
    have hw20 : w ≠ 20 := by rcases hw2 with rfl | rfl <;> decide
    rw [if_pos (by rw [hw]; rcases hw2 with rfl | rfl; exact Or.inl rfl; exact Or.inr rfl)] at hb
    refine ⟨hT, ⟨S, P, O, hc, by omega, e2, e3⟩, by omega, by omega, ⟨dd - 1, ?_, by omega, by omega⟩, h7', h8'⟩
    rw [show s + 1 - m = (s - m) + 1 by omega]
    refine (r1.put (by omega)).snoc ⟨w, by rw [nth_put, if_pos ⟨by omega, by omega⟩], Or.inr (Or.inl ⟨hw20, hw2, by omega, ?_⟩)⟩
    show (dd : Int) - 1 = ((dd - 1 : Nat) : Int)
    omega
theorem ev_binds {M : Mem} {e : Nat} {w : Int32} : Ev none e 176 0 [some (.int w)] [] M (some (.int (if w = 20 then 3 else if w = 21 then 2 else 1))) M 0 0 := by
  refine bi_0 ?_
  by_cases h : w = 20
  · rw [if_pos h, if_pos h]
    exact bi_6
  · rw [if_neg h, if_neg h]
    refine bi_10 ?_
    by_cases h2 : w = 21
    · rw [if_pos h2, if_pos h2]
      exact bi_16
    · rw [if_neg h2, if_neg h2]
      exact bi_20
def mdW : Md := [(11, 20), (11, 19), (1073, 0), (1074, 0), (1075, 0)]
theorem ev_writeDown {ls0 lp : List Int32} {m o e : Nat} {q : Int32} : ∀ (p s : Nat) (M : Mem) (ls : List Int32), JJ ls0 m 1 M s p o ls lp → ∃ M' s' p' ls', Ev none (e + 1) 175 0 [some (.ref 633), some (.int q)] [] M none M' 0 0 ∧ JJ ls0 m 1 M' s' p' o ls' lp ∧ Frm sT mdW M M' ∧ p' ≤ p ∧ (hasO lp p → hasO lp p') ∧ (q.toInt ≤ 1 → ∀ k, p' = k + 1 → gNth lp k = some 23) := by
  intro p
  induction p with
  | zero =>
    intro s M ls h
    obtain ⟨hT, ⟨S, P, O, hc, h1, h2, h3⟩, _⟩ := id h
    obtain ⟨vs, hM, v19, v20, _⟩ := hc
    refine ⟨M, s, 0, ls, dn_0 hM v20 ?_, h, Frm.refl M, Nat.le_refl _, fun h => h, fun _ k hk => by omega⟩
    rw [if_pos (by rw [Int32.le_iff_toInt_le]; show P.toInt ≤ 0; omega)]
    exact dn_69
  | succ p ih =>
    intro s M ls h
    obtain ⟨hn1, hn2, hn3, ll, pl⟩ := h.num
    obtain ⟨hT, ⟨S, P, O, hc, h1, h2, h3⟩, _, _, _, hent, _⟩ := id h
    obtain ⟨vs, hM, v19, v20, v21, r645, r648⟩ := id hc
    obtain ⟨vs9, hM9, hv⟩ := hT.mfld
    cases hM.symm.trans hM9
    have h18 := hv _ _ _ (and_t mfT).2 sUT.2.2.2
    have eP : (P - 1).toInt = ((p : Nat) : Int) := by rw [i32_m1 (by omega)]; omega
    obtain ⟨w, y1, y2⟩ := at_c (l := lp) eP (by omega)
    have hn0 : ¬ P ≤ 0 := by rw [Int32.le_iff_toInt_le]; show ¬ P.toInt ≤ 0; omega
    have stop_ : Ev none (e + 1) 175 0 [some (.ref 633), some (.int q)] [] M none M 0 0 → (q.toInt ≤ 1 → gNth lp p = some 23) → ∃ M' s' p' ls', Ev none (e + 1) 175 0 [some (.ref 633), some (.int q)] [] M none M' 0 0 ∧ JJ ls0 m 1 M' s' p' o ls' lp ∧ Frm sT mdW M M' ∧ p' ≤ p + 1 ∧ (hasO lp (p + 1) → hasO lp p') ∧ (q.toInt ≤ 1 → ∀ k, p' = k + 1 → gNth lp k = some 23) := fun hev hno => ⟨M, s, p + 1, ls, hev, h, Frm.refl M, Nat.le_refl _, fun h => h, fun a k hk => by
      have hk : k = p := by omega
      subst hk
      exact hno a⟩
    by_cases hw : w = 23
    · exact stop_ (dn_0 hM v20 (by rw [if_neg hn0]; exact dn_7 hM h18 v20 r648 y1 (by rw [if_pos hw]; exact dn_69))) (fun _ => by rw [y2, hw])
    obtain ⟨z, ez⟩ : ∃ z : Int32, z = if w = 20 then 3 else if w = 21 then 2 else 1 := ⟨_, rfl⟩
    have bz := ev_binds (M := M) (e := e) (w := w)
    rw [← ez] at bz
    have z1 : 1 ≤ z.toInt := by
      rw [ez]
      split
      · decide
      · split <;> decide
    by_cases hzq : z < q
    · refine stop_ (dn_0 hM v20 (by rw [if_neg hn0]; exact dn_7 hM h18 v20 r648 y1 (by rw [if_neg hw]; exact dn_23 hM h18 v20 r648 y1 (Ev.call0 (fun n => rfl) bz (dn_37 (by rw [if_pos hzq]; exact dn_69)))))) (fun hq => ?_)
      rw [Int32.lt_iff_toInt_lt] at hzq
      omega
    obtain ⟨T1, c1⟩ := hc.P hT hM (y := P - 1) (by omega) (by omega)
    obtain ⟨_, hlen⟩ := fset hT (and_t (and_t fBT).1).2 hM (y := P - 1) (by omega) (by omega)
    obtain ⟨M1, e1⟩ : ∃ M1, M1 = gPut M 633 (.inr (11, gPut vs 20 (.int (P - 1)))) := ⟨_, rfl⟩
    rw [← e1] at T1 c1
    have F1 : Frm sT mdW M M1 := by rw [e1]; exact Frm.fld hM (by decide)
    obtain ⟨vs1, hM1, v19b, v20b, v21b, r645b, r648b⟩ := id c1
    obtain ⟨vs9, hM9, hv⟩ := T1.mfld
    cases hM1.symm.trans hM9
    have h18b := hv _ _ _ (and_t mfT).2 sUT.2.2.2
    obtain ⟨M2, w1, T2, F2, c2⟩ := ev_write (e := e) (a := w) (b := 0) (n := 0) T1 c1 (by omega)
    have es : S.toInt.toNat = s := by omega
    rw [es] at c2
    have h2' := h.pop y2 hw T2 c2 (by rw [i32_p1 (by omega)]; omega) (by omega) h3
    obtain ⟨M3, s', p', ls', q1, q2, q3, q4, q5, q6⟩ := ih (s + 1) M2 _ h2'
    have hO : hasO lp (p + 1) → hasO lp p := fun ⟨k, k1, k2⟩ => ⟨k, by
      by_cases hk : k = p
      · subst hk
        rw [y2] at k2
        exact absurd (Option.some.inj k2) hw
      · omega, k2⟩
    refine ⟨M3, s', p', ls', dn_0 hM v20 ?_, q2, (F1.trans (F2.more (by decide))).trans q3, by omega, fun h => q5 (hO h), q6⟩
    rw [if_neg hn0]
    refine dn_7 hM h18 v20 r648 y1 ?_
    rw [if_neg hw]
    refine dn_23 hM h18 v20 r648 y1 (Ev.call0 (fun n => rfl) bz (dn_37 ?_))
    rw [if_neg hzq]
    refine dn_41 hM v20 hlen ?_
    rw [← e1]
    exact dn_51 hM1 h18b v20b r648b y1 (Ev.call0 (fun n => gs_7 rfl rfl (cal_wr hM1 rfl)) w1 (dn_66 q1))
/-! BY HAND: reading texts, the reference: what it calls -/
def kX11_isWord : CN := (164, 0, [.inr 1900, .inr 5], [], [], [], [(some (.inl (.ofNat 0, .ofNat 1)), [], [], [], [])])
def kX11_isWord_t : List (Nat × TP) := []
set_option maxRecDepth 100000 in
theorem kX11_isWord_ok : cnOK sT sG FL0 kX11_isWord := ccM_V (Δ := []) (n := 24) (N := 0) (cuts := kX11_isWord_t) sU_ok dp0_ok ct0_ok (nil_ok) (by decide +kernel)
def kX11_isSign : CN := (165, 0, [.inr 1900, .inl (.negSucc 2147483647, .ofNat 2147483647)], [], [], [], [(some (.inl (.ofNat 0, .ofNat 1)), [], [], [], [])])
def kX11_isSign_t : List (Nat × TP) := []
set_option maxRecDepth 100000 in
theorem kX11_isSign_ok : cnOK sT sG FL0 kX11_isSign := ccM_V (Δ := []) (n := 23) (N := 0) (cuts := kX11_isSign_t) sU_ok dp0_ok ct0_ok (nil_ok) (by decide +kernel)
theorem on_0 {e : Nat} {M : Mem} {M' : Mem} {v : Option Value} {x1 x2 x3 : Option Value}  (hz : Ev none (e + 2) 180 4 [some (.ref 633), x1, x2, x3] [.long 7237492, .ref 633] M v M' 0 0) : Ev none (e + 2) 180 0 [some (.ref 633), x1, x2, x3] [] M v M' 0 0 := by
  refine Ev.step (pc' := 4) (ls' := [some (.ref 633), x1, x2, x3]) (st' := [.long 7237492, .ref 633]) (M1 := M) 2 (fun n => rfl) ?_
  exact hz
theorem on_7 {e : Nat} {M : Mem} {M' : Mem} {v : Option Value} {z : Int32} {x1 x2 x3 : Option Value}  (hz : Ev none (e + 2) 180 9 [some (.ref 633), some (.int z), x2, x3] [.ref 633] M v M' 0 0) : Ev none (e + 2) 180 7 [some (.ref 633), x1, x2, x3] [.int z] M v M' 0 0 := by
  refine Ev.step (pc' := 9) (ls' := [some (.ref 633), some (.int z), x2, x3]) (st' := [.ref 633]) (M1 := M) 2 (fun n => rfl) ?_
  exact hz
theorem on_12 {e : Nat} {M : Mem} {M' : Mem} {v : Option Value} {a z : Int32} {x2 x3 : Option Value}  (hz : Ev none (e + 2) 180 (if z = 0 then 17 else 36) [some (.ref 633), some (.int z), some (.int a), x3] [] M v M' 0 0) : Ev none (e + 2) 180 12 [some (.ref 633), some (.int z), x2, x3] [.int a] M v M' 0 0 := by
  refine Ev.step (pc' := (if z = 0 then 17 else 36)) (ls' := [some (.ref 633), some (.int z), some (.int a), x3]) (st' := []) (M1 := M) 3 (fun n => rfl) ?_
  exact hz
theorem on_17 {e : Nat} {M : Mem} {M' : Mem} {v : Option Value} {a z : Int32} {x3 : Option Value}  (hz : Ev none (e + 2) 180 (if 0 ≤ a then 36 else 21) [some (.ref 633), some (.int z), some (.int a), x3] [] M v M' 0 0) : Ev none (e + 2) 180 17 [some (.ref 633), some (.int z), some (.int a), x3] [] M v M' 0 0 := by
  refine Ev.step (pc' := (if 0 ≤ a then 36 else 21)) (ls' := [some (.ref 633), some (.int z), some (.int a), x3]) (st' := []) (M1 := M) 2 (fun n => rfl) ?_
  exact hz
theorem on_21 {e : Nat} {M : Mem} {M' : Mem} {v : Option Value} {a z : Int32} {x3 : Option Value}  (hz : Ev none (e + 2) 180 24 [some (.ref 633), some (.int z), some (.int a), x3] [.int 40, .ref 633] M v M' 0 0) : Ev none (e + 2) 180 21 [some (.ref 633), some (.int z), some (.int a), x3] [] M v M' 0 0 := by
  refine Ev.step (pc' := 24) (ls' := [some (.ref 633), some (.int z), some (.int a), x3]) (st' := [.int 40, .ref 633]) (M1 := M) 2 (fun n => rfl) ?_
  exact hz
theorem on_27 {e : Nat} {M : Mem} {M' : Mem} {v : Option Value} {a y z : Int32} {x3 : Option Value}  (hz : Ev none (e + 2) 180 (if y = 0 then 30 else 36) [some (.ref 633), some (.int z), some (.int a), x3] [] M v M' 0 0) : Ev none (e + 2) 180 27 [some (.ref 633), some (.int z), some (.int a), x3] [.int y] M v M' 0 0 := by
  refine Ev.step (pc' := (if y = 0 then 30 else 36)) (ls' := [some (.ref 633), some (.int z), some (.int a), x3]) (st' := []) (M1 := M) 1 (fun n => rfl) ?_
  exact hz
theorem on_30 {e : Nat} {M : Mem} {M' : Mem} {v : Option Value} {a z : Int32} {x3 : Option Value}  (hz : Ev none (e + 2) 180 32 [some (.ref 633), some (.int z), some (.int a), x3] [.int 1, .ref 633] M v M' 0 0) : Ev none (e + 2) 180 30 [some (.ref 633), some (.int z), some (.int a), x3] [] M v M' 0 0 := by
  refine Ev.step (pc' := 32) (ls' := [some (.ref 633), some (.int z), some (.int a), x3]) (st' := [.int 1, .ref 633]) (M1 := M) 2 (fun n => rfl) ?_
  exact hz
theorem on_35 {e : Nat} {M : Mem} {a z : Int32} {x3 : Option Value}  : Ev none (e + 2) 180 35 [some (.ref 633), some (.int z), some (.int a), x3] [.int 0] M (some (.int 0)) M 0 0 := by
  exact Ev.ret (fun n => rfl)
theorem on_36 {e : Nat} {M : Mem} {M' : Mem} {v : Option Value} {vs : List Value} {a f21 z : Int32} {x3 : Option Value} (hM : gNth M 633 = some (.inr (11, vs))) (v21 : gNth vs 21 = some (.int f21)) (hz : Ev none (e + 2) 180 (if f21 = 40 then 54 else 45) [some (.ref 633), some (.int z), some (.int a), x3] [] M v M' 0 0) : Ev none (e + 2) 180 36 [some (.ref 633), some (.int z), some (.int a), x3] [] M v M' 0 0 := by
  refine Ev.step (pc' := 37) (ls' := [some (.ref 633), some (.int z), some (.int a), x3]) (st' := [.ref 633]) (M1 := M) 1 (fun n => rfl) ?_
  refine Ev.step 1 (gs_3 rfl rfl (gf_g rfl hM v21)) ?_
  refine Ev.step (pc' := (if f21 = 40 then 54 else 45)) (ls' := [some (.ref 633), some (.int z), some (.int a), x3]) (st' := []) (M1 := M) 2 (fun n => rfl) ?_
  exact hz
theorem on_45 {e : Nat} {M : Mem} {M' : Mem} {v : Option Value} {a z : Int32} {x3 : Option Value}  (hz : Ev none (e + 2) 180 46 [some (.ref 633), some (.int z), some (.int a), x3] [.ref 633] M v M' 0 0) : Ev none (e + 2) 180 45 [some (.ref 633), some (.int z), some (.int a), x3] [] M v M' 0 0 := by
  refine Ev.step (pc' := 46) (ls' := [some (.ref 633), some (.int z), some (.int a), x3]) (st' := [.ref 633]) (M1 := M) 1 (fun n => rfl) ?_
  exact hz
theorem on_49 {e : Nat} {M : Mem} {M' : Mem} {v : Option Value} {a y z : Int32} {x3 : Option Value}  (hz : Ev none (e + 2) 180 (if y = 10 then 54 else 60) [some (.ref 633), some (.int z), some (.int a), x3] [] M v M' 0 0) : Ev none (e + 2) 180 49 [some (.ref 633), some (.int z), some (.int a), x3] [.int y] M v M' 0 0 := by
  refine Ev.step (pc' := (if y = 10 then 54 else 60)) (ls' := [some (.ref 633), some (.int z), some (.int a), x3]) (st' := []) (M1 := M) 2 (fun n => rfl) ?_
  exact hz
theorem on_54 {e : Nat} {M : Mem} {M' : Mem} {v : Option Value} {a z : Int32} {x3 : Option Value}  (hz : Ev none (e + 2) 180 56 [some (.ref 633), some (.int z), some (.int a), x3] [.int 4, .ref 633] M v M' 0 0) : Ev none (e + 2) 180 54 [some (.ref 633), some (.int z), some (.int a), x3] [] M v M' 0 0 := by
  refine Ev.step (pc' := 56) (ls' := [some (.ref 633), some (.int z), some (.int a), x3]) (st' := [.int 4, .ref 633]) (M1 := M) 2 (fun n => rfl) ?_
  exact hz
theorem on_59 {e : Nat} {M : Mem} {a z : Int32} {x3 : Option Value}  : Ev none (e + 2) 180 59 [some (.ref 633), some (.int z), some (.int a), x3] [.int 0] M (some (.int 0)) M 0 0 := by
  exact Ev.ret (fun n => rfl)
theorem on_60 {e : Nat} {M : Mem} {M' : Mem} {v : Option Value} {vs : List Value} {a f21 z : Int32} {x3 : Option Value} (hM : gNth M 633 = some (.inr (11, vs))) (v21 : gNth vs 21 = some (.int f21)) (hlen : vs.length = 63) (hz : Ev none (e + 2) 180 70 [some (.ref 633), some (.int z), some (.int a), x3] [] (gPut M 633 (.inr (11, gPut vs 21 (.int (f21 + 1))))) v M' 0 0) : Ev none (e + 2) 180 60 [some (.ref 633), some (.int z), some (.int a), x3] [] M v M' 0 0 := by
  refine Ev.step (pc' := 62) (ls' := [some (.ref 633), some (.int z), some (.int a), x3]) (st' := [.ref 633, .ref 633]) (M1 := M) 2 (fun n => rfl) ?_
  refine Ev.step 1 (gs_3 rfl rfl (gf_g rfl hM v21)) ?_
  refine Ev.step (pc' := 67) (ls' := [some (.ref 633), some (.int z), some (.int a), x3]) (st' := [.int (f21 + 1), .ref 633]) (M1 := M) 2 (fun n => rfl) ?_
  refine Ev.step 1 (gs_4 rfl rfl (pf_i rfl hM (by rw [hlen]; decide) rfl rfl)) ?_
  exact hz
theorem on_70 {e : Nat} {M : Mem} {M' : Mem} {v : Option Value} {a z : Int32} {x3 : Option Value}  (hz : Ev none (e + 2) 180 71 [some (.ref 633), some (.int z), some (.int a), x3] [.ref 633] M v M' 0 0) : Ev none (e + 2) 180 70 [some (.ref 633), some (.int z), some (.int a), x3] [] M v M' 0 0 := by
  refine Ev.step (pc' := 71) (ls' := [some (.ref 633), some (.int z), some (.int a), x3]) (st' := [.ref 633]) (M1 := M) 1 (fun n => rfl) ?_
  exact hz
theorem on_74 {e : Nat} {M : Mem} {M' : Mem} {v : Option Value} {a z : Int32} {x3 : Option Value}  (hz : Ev none (e + 2) 180 (if 0 ≤ a then 111 else 78) [some (.ref 633), some (.int z), some (.int a), x3] [] M v M' 0 0) : Ev none (e + 2) 180 74 [some (.ref 633), some (.int z), some (.int a), x3] [] M v M' 0 0 := by
  refine Ev.step (pc' := (if 0 ≤ a then 111 else 78)) (ls' := [some (.ref 633), some (.int z), some (.int a), x3]) (st' := []) (M1 := M) 2 (fun n => rfl) ?_
  exact hz
theorem on_78 {e : Nat} {M : Mem} {M' : Mem} {v : Option Value} {vs : List Value} {a f20 z : Int32} {x3 : Option Value} (hM : gNth M 633 = some (.inr (11, vs))) (v18 : gNth vs 18 = some (.ref 648)) (v20 : gNth vs 20 = some (.int f20)) (hz : Ev none (e + 2) 180 (if z = 0 then 95 else 90) [some (.ref 633), some (.int z), some (.int a), x3] [.int f20, .ref 648] M v M' 0 0) : Ev none (e + 2) 180 78 [some (.ref 633), some (.int z), some (.int a), x3] [] M v M' 0 0 := by
  refine Ev.step (pc' := 79) (ls' := [some (.ref 633), some (.int z), some (.int a), x3]) (st' := [.ref 633]) (M1 := M) 1 (fun n => rfl) ?_
  refine Ev.step 1 (gs_3 rfl rfl (gf_g rfl hM v18)) ?_
  refine Ev.step (pc' := 83) (ls' := [some (.ref 633), some (.int z), some (.int a), x3]) (st' := [.ref 633, .ref 648]) (M1 := M) 1 (fun n => rfl) ?_
  refine Ev.step 1 (gs_3 rfl rfl (gf_g rfl hM v20)) ?_
  refine Ev.step (pc' := (if z = 0 then 95 else 90)) (ls' := [some (.ref 633), some (.int z), some (.int a), x3]) (st' := [.int f20, .ref 648]) (M1 := M) 2 (fun n => rfl) ?_
  exact hz
theorem on_90 {e : Nat} {M : Mem} {M' : Mem} {v : Option Value} {a p y1 z : Int32} {l648 : List Int32} {x3 : Option Value} (r648 : gNth M 648 = some (.inl (1, .inl l648))) (g1 : gAt l648 p = some y1) (hz : Ev none (e + 2) 180 98 [some (.ref 633), some (.int z), some (.int a), x3] [] (gPut M 648 (.inl (1, .inl (gPut l648 p.toNatClampNeg 20)))) v M' 0 0) : Ev none (e + 2) 180 90 [some (.ref 633), some (.int z), some (.int a), x3] [.int p, .ref 648] M v M' 0 0 := by
  refine Ev.step (pc' := 97) (ls' := [some (.ref 633), some (.int z), some (.int a), x3]) (st' := [.int 20, .int p, .ref 648]) (M1 := M) 2 (fun n => rfl) ?_
  refine Ev.step 1 (gs_4 rfl rfl (is_g r648 g1)) ?_
  exact hz
theorem on_95 {e : Nat} {M : Mem} {M' : Mem} {v : Option Value} {a p y1 z : Int32} {l648 : List Int32} {x3 : Option Value} (r648 : gNth M 648 = some (.inl (1, .inl l648))) (g1 : gAt l648 p = some y1) (hz : Ev none (e + 2) 180 98 [some (.ref 633), some (.int z), some (.int a), x3] [] (gPut M 648 (.inl (1, .inl (gPut l648 p.toNatClampNeg 23)))) v M' 0 0) : Ev none (e + 2) 180 95 [some (.ref 633), some (.int z), some (.int a), x3] [.int p, .ref 648] M v M' 0 0 := by
  refine Ev.step (pc' := 97) (ls' := [some (.ref 633), some (.int z), some (.int a), x3]) (st' := [.int 23, .int p, .ref 648]) (M1 := M) 1 (fun n => rfl) ?_
  refine Ev.step 1 (gs_4 rfl rfl (is_g r648 g1)) ?_
  exact hz
theorem on_98 {e : Nat} {M : Mem} {M' : Mem} {v : Option Value} {vs : List Value} {a f20 z : Int32} {x3 : Option Value} (hM : gNth M 633 = some (.inr (11, vs))) (v20 : gNth vs 20 = some (.int f20)) (hlen : vs.length = 63) (hz : Ev none (e + 2) 180 0 [some (.ref 633), some (.int z), some (.int a), x3] [] (gPut M 633 (.inr (11, gPut vs 20 (.int (f20 + 1))))) v M' 0 0) : Ev none (e + 2) 180 98 [some (.ref 633), some (.int z), some (.int a), x3] [] M v M' 0 0 := by
  refine Ev.step (pc' := 100) (ls' := [some (.ref 633), some (.int z), some (.int a), x3]) (st' := [.ref 633, .ref 633]) (M1 := M) 2 (fun n => rfl) ?_
  refine Ev.step 1 (gs_3 rfl rfl (gf_g rfl hM v20)) ?_
  refine Ev.step (pc' := 105) (ls' := [some (.ref 633), some (.int z), some (.int a), x3]) (st' := [.int (f20 + 1), .ref 633]) (M1 := M) 2 (fun n => rfl) ?_
  refine Ev.step 1 (gs_4 rfl rfl (pf_i rfl hM (by rw [hlen]; decide) rfl rfl)) ?_
  refine Ev.step (pc' := 0) (ls' := [some (.ref 633), some (.int z), some (.int a), x3]) (st' := []) (M1 := (gPut M 633 (.inr (11, gPut vs 20 (.int (f20 + 1)))))) 1 (fun n => rfl) ?_
  exact hz
theorem on_111 {e : Nat} {M : Mem} {M' : Mem} {v : Option Value} {a z : Int32} {x3 : Option Value}  (hz : Ev none (e + 2) 180 (if 8 ≤ a then 127 else 117) [some (.ref 633), some (.int z), some (.int a), x3] [] M v M' 0 0) : Ev none (e + 2) 180 111 [some (.ref 633), some (.int z), some (.int a), x3] [] M v M' 0 0 := by
  refine Ev.step (pc' := (if 8 ≤ a then 127 else 117)) (ls' := [some (.ref 633), some (.int z), some (.int a), x3]) (st' := []) (M1 := M) 3 (fun n => rfl) ?_
  exact hz
theorem on_117 {e : Nat} {M : Mem} {M' : Mem} {v : Option Value} {a z : Int32} {x3 : Option Value}  (hz : Ev none (e + 2) 180 121 [some (.ref 633), some (.int z), some (.int a), x3] [.int 0, .int 0, .int a, .ref 633] M v M' 0 0) : Ev none (e + 2) 180 117 [some (.ref 633), some (.int z), some (.int a), x3] [] M v M' 0 0 := by
  refine Ev.step (pc' := 121) (ls' := [some (.ref 633), some (.int z), some (.int a), x3]) (st' := [.int 0, .int 0, .int a, .ref 633]) (M1 := M) 4 (fun n => rfl) ?_
  exact hz
theorem on_124 {e : Nat} {M : Mem} {M' : Mem} {v : Option Value} {a z : Int32} {x3 : Option Value}  (hz : Ev none (e + 2) 180 197 [some (.ref 633), some (.int z), some (.int a), x3] [] M v M' 0 0) : Ev none (e + 2) 180 124 [some (.ref 633), some (.int z), some (.int a), x3] [] M v M' 0 0 := by
  refine Ev.step (pc' := 197) (ls' := [some (.ref 633), some (.int z), some (.int a), x3]) (st' := []) (M1 := M) 1 (fun n => rfl) ?_
  exact hz
theorem on_127 {e : Nat} {M : Mem} {M' : Mem} {v : Option Value} {a z : Int32} {x3 : Option Value}  (hz : Ev none (e + 2) 180 130 [some (.ref 633), some (.int z), some (.int a), x3] [.int 60, .ref 633] M v M' 0 0) : Ev none (e + 2) 180 127 [some (.ref 633), some (.int z), some (.int a), x3] [] M v M' 0 0 := by
  refine Ev.step (pc' := 130) (ls' := [some (.ref 633), some (.int z), some (.int a), x3]) (st' := [.int 60, .ref 633]) (M1 := M) 2 (fun n => rfl) ?_
  exact hz
theorem on_133 {e : Nat} {M : Mem} {M' : Mem} {v : Option Value} {a y z : Int32} {x3 : Option Value}  (hz : Ev none (e + 2) 180 (if y = 0 then 136 else 160) [some (.ref 633), some (.int z), some (.int a), x3] [] M v M' 0 0) : Ev none (e + 2) 180 133 [some (.ref 633), some (.int z), some (.int a), x3] [.int y] M v M' 0 0 := by
  refine Ev.step (pc' := (if y = 0 then 136 else 160)) (ls' := [some (.ref 633), some (.int z), some (.int a), x3]) (st' := []) (M1 := M) 1 (fun n => rfl) ?_
  exact hz
theorem on_136 {e : Nat} {M : Mem} {M' : Mem} {v : Option Value} {a z : Int32} {x3 : Option Value}  (hz : Ev none (e + 2) 180 139 [some (.ref 633), some (.int z), some (.int a), x3] [.int 61, .ref 633] M v M' 0 0) : Ev none (e + 2) 180 136 [some (.ref 633), some (.int z), some (.int a), x3] [] M v M' 0 0 := by
  refine Ev.step (pc' := 139) (ls' := [some (.ref 633), some (.int z), some (.int a), x3]) (st' := [.int 61, .ref 633]) (M1 := M) 2 (fun n => rfl) ?_
  exact hz
theorem on_142 {e : Nat} {M : Mem} {M' : Mem} {v : Option Value} {a y z : Int32} {x3 : Option Value}  (hz : Ev none (e + 2) 180 (if y = 0 then 145 else 160) [some (.ref 633), some (.int z), some (.int a), x3] [] M v M' 0 0) : Ev none (e + 2) 180 142 [some (.ref 633), some (.int z), some (.int a), x3] [.int y] M v M' 0 0 := by
  refine Ev.step (pc' := (if y = 0 then 145 else 160)) (ls' := [some (.ref 633), some (.int z), some (.int a), x3]) (st' := []) (M1 := M) 1 (fun n => rfl) ?_
  exact hz
theorem on_145 {e : Nat} {M : Mem} {M' : Mem} {v : Option Value} {a z : Int32} {x3 : Option Value}  (hz : Ev none (e + 2) 180 148 [some (.ref 633), some (.int z), some (.int a), x3] [.int 62, .ref 633] M v M' 0 0) : Ev none (e + 2) 180 145 [some (.ref 633), some (.int z), some (.int a), x3] [] M v M' 0 0 := by
  refine Ev.step (pc' := 148) (ls' := [some (.ref 633), some (.int z), some (.int a), x3]) (st' := [.int 62, .ref 633]) (M1 := M) 2 (fun n => rfl) ?_
  exact hz
theorem on_151 {e : Nat} {M : Mem} {M' : Mem} {v : Option Value} {a y z : Int32} {x3 : Option Value}  (hz : Ev none (e + 2) 180 (if y = 0 then 154 else 160) [some (.ref 633), some (.int z), some (.int a), x3] [] M v M' 0 0) : Ev none (e + 2) 180 151 [some (.ref 633), some (.int z), some (.int a), x3] [.int y] M v M' 0 0 := by
  refine Ev.step (pc' := (if y = 0 then 154 else 160)) (ls' := [some (.ref 633), some (.int z), some (.int a), x3]) (st' := []) (M1 := M) 1 (fun n => rfl) ?_
  exact hz
theorem on_154 {e : Nat} {M : Mem} {M' : Mem} {v : Option Value} {a z : Int32} {x3 : Option Value}  (hz : Ev none (e + 2) 180 156 [some (.ref 633), some (.int z), some (.int a), x3] [.int 1, .ref 633] M v M' 0 0) : Ev none (e + 2) 180 154 [some (.ref 633), some (.int z), some (.int a), x3] [] M v M' 0 0 := by
  refine Ev.step (pc' := 156) (ls' := [some (.ref 633), some (.int z), some (.int a), x3]) (st' := [.int 1, .ref 633]) (M1 := M) 2 (fun n => rfl) ?_
  exact hz
theorem on_159 {e : Nat} {M : Mem} {a z : Int32} {x3 : Option Value}  : Ev none (e + 2) 180 159 [some (.ref 633), some (.int z), some (.int a), x3] [.int 0] M (some (.int 0)) M 0 0 := by
  exact Ev.ret (fun n => rfl)
theorem on_160 {e : Nat} {M : Mem} {M' : Mem} {v : Option Value} {vs : List Value} {a f25 z : Int32} {x3 : Option Value} (hM : gNth M 633 = some (.inr (11, vs))) (v25 : gNth vs 25 = some (.int f25)) (hz : Ev none (e + 2) 180 166 [some (.ref 633), some (.int z), some (.int a), some (.int f25)] [.ref 633] M v M' 0 0) : Ev none (e + 2) 180 160 [some (.ref 633), some (.int z), some (.int a), x3] [] M v M' 0 0 := by
  refine Ev.step (pc' := 161) (ls' := [some (.ref 633), some (.int z), some (.int a), x3]) (st' := [.ref 633]) (M1 := M) 1 (fun n => rfl) ?_
  refine Ev.step 1 (gs_3 rfl rfl (gf_g rfl hM v25)) ?_
  refine Ev.step (pc' := 166) (ls' := [some (.ref 633), some (.int z), some (.int a), some (.int f25)]) (st' := [.ref 633]) (M1 := M) 2 (fun n => rfl) ?_
  exact hz
theorem on_169 {e : Nat} {M : Mem} {M' : Mem} {v : Option Value} {vs : List Value} {a f22 sg z : Int32} (hM : gNth M 633 = some (.inr (11, vs))) (v22 : gNth vs 22 = some (.int f22)) (hz : Ev none (e + 2) 180 (if f22 = 2 then 183 else 177) [some (.ref 633), some (.int z), some (.int a), some (.int sg)] [] M v M' 0 0) : Ev none (e + 2) 180 169 [some (.ref 633), some (.int z), some (.int a), some (.int sg)] [] M v M' 0 0 := by
  refine Ev.step (pc' := 170) (ls' := [some (.ref 633), some (.int z), some (.int a), some (.int sg)]) (st' := [.ref 633]) (M1 := M) 1 (fun n => rfl) ?_
  refine Ev.step 1 (gs_3 rfl rfl (gf_g rfl hM v22)) ?_
  refine Ev.step (pc' := (if f22 = 2 then 183 else 177)) (ls' := [some (.ref 633), some (.int z), some (.int a), some (.int sg)]) (st' := []) (M1 := M) 2 (fun n => rfl) ?_
  exact hz
theorem on_177 {e : Nat} {M : Mem} {M' : Mem} {v : Option Value} {a sg z : Int32}  (hz : Ev none (e + 2) 180 179 [some (.ref 633), some (.int z), some (.int a), some (.int sg)] [.int 1, .ref 633] M v M' 0 0) : Ev none (e + 2) 180 177 [some (.ref 633), some (.int z), some (.int a), some (.int sg)] [] M v M' 0 0 := by
  refine Ev.step (pc' := 179) (ls' := [some (.ref 633), some (.int z), some (.int a), some (.int sg)]) (st' := [.int 1, .ref 633]) (M1 := M) 2 (fun n => rfl) ?_
  exact hz
theorem on_182 {e : Nat} {M : Mem} {a sg z : Int32}  : Ev none (e + 2) 180 182 [some (.ref 633), some (.int z), some (.int a), some (.int sg)] [.int 0] M (some (.int 0)) M 0 0 := by
  exact Ev.ret (fun n => rfl)
theorem on_183 {e : Nat} {M : Mem} {M' : Mem} {v : Option Value} {vs : List Value} {a f25 sg z : Int32} (hM : gNth M 633 = some (.inr (11, vs))) (v25 : gNth vs 25 = some (.int f25)) (hz : Ev none (e + 2) 180 190 [some (.ref 633), some (.int z), some (.int a), some (.int sg)] [.int f25, .int sg, .int a, .ref 633] M v M' 0 0) : Ev none (e + 2) 180 183 [some (.ref 633), some (.int z), some (.int a), some (.int sg)] [] M v M' 0 0 := by
  refine Ev.step (pc' := 187) (ls' := [some (.ref 633), some (.int z), some (.int a), some (.int sg)]) (st' := [.ref 633, .int sg, .int a, .ref 633]) (M1 := M) 4 (fun n => rfl) ?_
  refine Ev.step 1 (gs_3 rfl rfl (gf_g rfl hM v25)) ?_
  exact hz
theorem on_193 {e : Nat} {M : Mem} {M' : Mem} {v : Option Value} {a sg z : Int32}  (hz : Ev none (e + 2) 180 194 [some (.ref 633), some (.int z), some (.int a), some (.int sg)] [.ref 633] M v M' 0 0) : Ev none (e + 2) 180 193 [some (.ref 633), some (.int z), some (.int a), some (.int sg)] [] M v M' 0 0 := by
  refine Ev.step (pc' := 194) (ls' := [some (.ref 633), some (.int z), some (.int a), some (.int sg)]) (st' := [.ref 633]) (M1 := M) 1 (fun n => rfl) ?_
  exact hz
theorem on_197 {e : Nat} {M : Mem} {M' : Mem} {v : Option Value} {a z : Int32} {x3 : Option Value}  (hz : Ev none (e + 2) 180 199 [some (.ref 633), some (.int z), some (.int a), x3] [.int 3, .ref 633] M v M' 0 0) : Ev none (e + 2) 180 197 [some (.ref 633), some (.int z), some (.int a), x3] [] M v M' 0 0 := by
  refine Ev.step (pc' := 199) (ls' := [some (.ref 633), some (.int z), some (.int a), x3]) (st' := [.int 3, .ref 633]) (M1 := M) 2 (fun n => rfl) ?_
  exact hz
theorem on_202 {e : Nat} {M : Mem} {a z : Int32} {x3 : Option Value}  : Ev none (e + 2) 180 202 [some (.ref 633), some (.int z), some (.int a), x3] [] M (some (.int 1)) M 0 0 := by
  refine Ev.step (pc' := 203) (ls' := [some (.ref 633), some (.int z), some (.int a), x3]) (st' := [.int 1]) (M1 := M) 1 (fun n => rfl) ?_
  exact Ev.ret (fun n => rfl)
theorem cal_at {M : Mem} {vs : List Value} {rest : List Value} (hM : gNth M 633 = some (.inr (11, vs))) (hr : gRoom rest = true) : gCal (.invokevirtual 312) 11 (.ref 633 :: rest) M = some (.inr (173, [some (.ref 633)], rest)) := by
  show @cond (Option ((List Value × Mem) ⊕ (Nat × Lo × List Value))) (true && gRecv M (.ref 633) 11 && gRoom rest && true) (some (.inr (173, [some (.ref 633)], rest))) none = _
  rw [recv_ok hM, hr]
  rfl
theorem cal_ss {M : Mem} {vs : List Value} {a0 : Int32} {rest : List Value} (hM : gNth M 633 = some (.inr (11, vs))) (hr : gRoom rest = true) : gCal (.invokevirtual 195) 11 (.int a0 :: .ref 633 :: rest) M = some (.inr (165, [some (.ref 633), some (.int a0)], rest)) := by
  show @cond (Option ((List Value × Mem) ⊕ (Nat × Lo × List Value))) (true && gRecv M (.ref 633) 11 && gRoom rest && true) (some (.inr (165, [some (.ref 633), some (.int a0)], rest))) none = _
  rw [recv_ok hM, hr]
  rfl
theorem cal_bd {M : Mem} {vs : List Value} {a0 : Int32} {rest : List Value} (hM : gNth M 633 = some (.inr (11, vs))) (hr : gRoom rest = true) : gCal (.invokevirtual 198) 11 (.int a0 :: .ref 633 :: rest) M = some (.inr (163, [some (.ref 633), some (.int a0)], rest)) := by
  show @cond (Option ((List Value × Mem) ⊕ (Nat × Lo × List Value))) (true && gRecv M (.ref 633) 11 && gRoom rest && true) (some (.inr (163, [some (.ref 633), some (.int a0)], rest))) none = _
  rw [recv_ok hM, hr]
  rfl
theorem cal_op {M : Mem} {vs : List Value} {rest : List Value} (hM : gNth M 633 = some (.inr (11, vs))) (hr : gRoom rest = true) : gCal (.invokevirtual 318) 11 (.ref 633 :: rest) M = some (.inr (177, [some (.ref 633), none, none], rest)) := by
  show @cond (Option ((List Value × Mem) ⊕ (Nat × Lo × List Value))) (true && gRecv M (.ref 633) 11 && gRoom rest && true) (some (.inr (177, [some (.ref 633), none, none], rest))) none = _
  rw [recv_ok hM, hr]
  rfl
theorem cal_nx {M : Mem} {vs : List Value} {rest : List Value} (hM : gNth M 633 = some (.inr (11, vs))) (hr : gRoom rest = true) : gCal (.invokevirtual 201) 11 (.ref 633 :: rest) M = some (.inr (162, [some (.ref 633), none, none, none], rest)) := by
  show @cond (Option ((List Value × Mem) ⊕ (Nat × Lo × List Value))) (true && gRecv M (.ref 633) 11 && gRoom rest && true) (some (.inr (162, [some (.ref 633), none, none, none], rest))) none = _
  rw [recv_ok hM, hr]
  rfl
theorem cal_wd {M : Mem} {vs : List Value} {a0 : Int32} {rest : List Value} (hM : gNth M 633 = some (.inr (11, vs))) (hr : gRoom rest = true) : gCal (.invokevirtual 303) 11 (.int a0 :: .ref 633 :: rest) M = some (.inr (175, [some (.ref 633), some (.int a0)], rest)) := by
  show @cond (Option ((List Value × Mem) ⊕ (Nat × Lo × List Value))) (true && gRecv M (.ref 633) 11 && gRoom rest && true) (some (.inr (175, [some (.ref 633), some (.int a0)], rest))) none = _
  rw [recv_ok hM, hr]
  rfl
theorem cal_ww {M : Mem} {vs : List Value} {a0 : Int64} {rest : List Value} (hM : gNth M 633 = some (.inr (11, vs))) (hr : gRoom rest = true) : gCal (.invokevirtual 248) 11 (.long a0 :: .ref 633 :: rest) M = some (.inr (164, [some (.ref 633), some (.long a0), none], rest)) := by
  show @cond (Option ((List Value × Mem) ⊕ (Nat × Lo × List Value))) (true && gRecv M (.ref 633) 11 && gRoom rest && true) (some (.inr (164, [some (.ref 633), some (.long a0), none], rest))) none = _
  rw [recv_ok hM, hr]
  rfl
/-- a contract used by hand -/
theorem use_cn {c : CN} {k d : Nat} {M : Mem} {ws : List Value} (hc : cnOK sT sG FL0 c) (hm : (gNth mRs c.1).map (fun q => q.2.2.2.1) = some k) (h3 : c.2.2.2.1 = []) (h4 : c.2.2.2.2.1 = []) (hd : c.2.1 ≤ d) (ha : Two (taOK sT) c.2.2.1 ws) (hT : TM sT sG M) : ∃ v M', Ev none d c.1 0 (gPad k (gArgs ws)) [] M v M' 0 0 ∧ TM sT sG M' ∧ Frm sT c.2.2.2.2.2.1 M M' ∧ ∃ s ∈ c.2.2.2.2.2.2, rsOK sT s.1 v := by
  cases hq : gNth mRs c.1 with
  | none => rw [hq] at hm; cases hm
  | some q =>
    rw [hq] at hm
    have hm : q.2.2.2.1 = k := Option.some.inj hm
    obtain ⟨v, M', e1, e2, e3, s, e4, e5, _⟩ := hc d M ws q hd hq ha ⟨[], by rw [h3]; trivial, by rw [h4]; exact fun f hf => by cases hf⟩ hT
    rw [hm] at e1
    exact ⟨v, M', e1, e2, e3, s, e4, e5.1⟩
set_option maxRecDepth 100000 in
theorem mRt : (gNth mRs 162).map (fun q => q.2.2.2.1) = some 4 ∧ (gNth mRs 163).map (fun q => q.2.2.2.1) = some 2 ∧ (gNth mRs 164).map (fun q => q.2.2.2.1) = some 3 ∧ (gNth mRs 165).map (fun q => q.2.2.2.1) = some 2 ∧ (gNth mRs 173).map (fun q => q.2.2.2.1) = some 1 ∧ (gNth mRs 177).map (fun q => q.2.2.2.1) = some 3 := by refine ⟨?_, ?_, ?_, ?_, ?_, ?_⟩ <;> decide +kernel
def mdN : Md := [(11, 4), (11, 22), (11, 23), (11, 24), (11, 25), (11, 31)]
def mdB : Md := [(11, 26), (11, 27)]
section USE
variable {M : Mem} {e : Nat}
theorem un_next (hT : TM sT sG M) : ∃ M', Ev none (e + 1) 162 0 [some (.ref 633), none, none, none] [] M none M' 0 0 ∧ TM sT sG M' ∧ Frm sT mdN M M' := by
  obtain ⟨v, M', h1, h2, h3, s, hs, h4⟩ := use_cn (d := e + 1) (ws := [.ref 633]) kX11_next_ok mRt.1 rfl rfl (Nat.le_add_left 1 e) (Two.mk rfl trivial) hT
  cases List.mem_singleton.mp hs
  cases v with
  | some _ => exact h4.elim
  | none => exact ⟨M', h1, h2, h3⟩
theorem un_bad {k : Int32} (hT : TM sT sG M) : ∃ M', Ev none e 163 0 [some (.ref 633), some (.int k)] [] M (some (.int 0)) M' 0 0 ∧ TM sT sG M' ∧ Frm sT mdB M M' := by
  obtain ⟨v, M', h1, h2, h3, s, hs, h4⟩ := use_cn (d := e) (ws := [.ref 633, .int k]) kX11_bad_ok mRt.2.1 rfl rfl (Nat.zero_le e) (Two.mk rfl (Two.mk ⟨k, rfl, i32_any k⟩ trivial)) hT
  cases List.mem_singleton.mp hs
  cases v with
  | none => exact h4.elim
  | some w =>
    obtain ⟨x, rfl, x1, x2⟩ := h4
    have hx : x = 0 := Int32.toInt_inj.mp (show x.toInt = 0 from Int.le_antisymm x2 x1)
    subst hx
    exact ⟨M', h1, h2, h3⟩
theorem un_word {k : Int64} (hT : TM sT sG M) : ∃ z : Int32, Ev none e 164 0 [some (.ref 633), some (.long k), none] [] M (some (.int z)) M 0 0 := by
  obtain ⟨v, M', h1, h2, h3, s, hs, h4⟩ := use_cn (d := e) (ws := [.ref 633, .long k]) kX11_isWord_ok mRt.2.2.1 rfl rfl (Nat.zero_le e) (Two.mk rfl (Two.mk ⟨k, rfl⟩ trivial)) hT
  cases List.mem_singleton.mp hs
  cases pure_ok h3
  cases v with
  | none => exact h4.elim
  | some w =>
    obtain ⟨x, rfl, x1, x2⟩ := h4
    exact ⟨x, h1⟩
theorem un_sign {k : Int32} (hT : TM sT sG M) : ∃ z : Int32, Ev none e 165 0 [some (.ref 633), some (.int k)] [] M (some (.int z)) M 0 0 := by
  obtain ⟨v, M', h1, h2, h3, s, hs, h4⟩ := use_cn (d := e) (ws := [.ref 633, .int k]) kX11_isSign_ok mRt.2.2.2.1 rfl rfl (Nat.zero_le e) (Two.mk rfl (Two.mk ⟨k, rfl, i32_any k⟩ trivial)) hT
  cases List.mem_singleton.mp hs
  cases pure_ok h3
  cases v with
  | none => exact h4.elim
  | some w =>
    obtain ⟨x, rfl, x1, x2⟩ := h4
    exact ⟨x, h1⟩
theorem un_atom (hT : TM sT sG M) : ∃ z : Int32, Ev none e 173 0 [some (.ref 633)] [] M (some (.int z)) M 0 0 ∧ z.toInt ≤ 11 := by
  obtain ⟨v, M', h1, h2, h3, s, hs, h4⟩ := use_cn (d := e) (ws := [.ref 633]) kX11_atom_ok mRt.2.2.2.2.1 rfl rfl (Nat.zero_le e) (Two.mk rfl trivial) hT
  cases List.mem_singleton.mp hs
  cases pure_ok h3
  cases v with
  | none => exact h4.elim
  | some w =>
    obtain ⟨x, rfl, x1, x2⟩ := h4
    exact ⟨x, h1, x2⟩
theorem un_open (hT : TM sT sG M) : ∃ z : Int32, Ev none e 177 0 [some (.ref 633), none, none] [] M (some (.int z)) M 0 0 := by
  obtain ⟨v, M', h1, h2, h3, s, hs, h4⟩ := use_cn (d := e) (ws := [.ref 633]) kX11_open_ok mRt.2.2.2.2.2 rfl rfl (Nat.zero_le e) (Two.mk rfl trivial) hT
  cases List.mem_singleton.mp hs
  cases pure_ok h3
  cases v with
  | none => exact h4.elim
  | some w =>
    obtain ⟨x, rfl, x1, x2⟩ := h4
    exact ⟨x, h1⟩
end USE
/-- all that reading a line may write -/
def mdT : Md := [(11, 4), (11, 19), (11, 20), (11, 21), (11, 22), (11, 23), (11, 24), (11, 25), (11, 26), (11, 27), (11, 31), (1073, 0), (1074, 0), (1075, 0), (1076, 0)]
/-- the steps of the other texts are as they were -/
def bel (ls0 : List Int32) (M : Mem) : Prop := ∃ ls, gNth M 645 = some (.inl (1, .inl ls)) ∧ ∀ i, i < 1400 → gNth ls i = gNth ls0 i
theorem JJ.bel {ls0 ls lp : List Int32} {m b s p o : Nat} {M : Mem} (h : JJ ls0 m b M s p o ls lp) : bel ls0 M := by
  obtain ⟨_, ⟨S, P, O, ⟨vs, _, _, _, _, h1, _⟩, _⟩, _, _, _, _, h2⟩ := h
  exact ⟨ls, h1, fun i hi => h2 i (by omega)⟩
theorem bel.frm {ls0 : List Int32} {md : Md} {M M' : Mem} (h : bel ls0 M) (hF : Frm sT md M M') (hm : (1073, 0) ∉ md) : bel ls0 M' := by
  obtain ⟨ls, h1, h2⟩ := h
  exact ⟨ls, row_frm hF sT_645 hm h1, h2⟩
theorem binN_put {lp : List Int32} {x : Nat} {v : Int32} : ∀ {p : Nat}, p ≤ x → binN (gPut lp x v) p = binN lp p := by
  intro p
  induction p with
  | zero => intro _; rfl
  | succ p ih =>
    intro h
    show binN (gPut lp x v) p + _ = binN lp p + _
    have hq : gNth (gPut lp x v) p = gNth lp p := by rw [nth_put, if_neg (by omega)]
    rw [ih (by omega), hq]
/-- something is laid on the pile -/
theorem JJ.push {ls0 ls lp : List Int32} {m b c s p o : Nat} {M M' : Mem} {w S P O : Int32} (h : JJ ls0 m b M s p o ls lp) (hw : (w = 20 ∧ c = b) ∨ (w = 23 ∧ c = b) ∨ ((w = 21 ∨ w = 22) ∧ b = c + 1)) (hsp : s + (p + 1) + c ≤ 2 * o) (hT : TM sT sG M') (hc : Cst M' S P O ls (gPut lp p w)) (e1 : S.toInt = (s : Int)) (e2 : P.toInt = (p : Int) + 1) (e3 : O.toInt = (o : Int)) : JJ ls0 m c M' s (p + 1) o ls (gPut lp p w) := by
  obtain ⟨hn1, hn2, hn3, ll, pl⟩ := h.num
  obtain ⟨_, _, _, h5, ⟨dd, r1, r2, r3⟩, h7, h8⟩ := h
  have hp : gNth (gPut lp p w) p = some w := by rw [nth_put, if_pos ⟨rfl, by omega⟩]
  have hb : binN (gPut lp p w) (p + 1) = binN (gPut lp p w) p + (if gNth (gPut lp p w) p = some 21 ∨ gNth (gPut lp p w) p = some 22 then 1 else 0) := rfl
  rw [binN_put (Nat.le_refl p), hp] at hb
  refine ⟨hT, ⟨S, P, O, hc, e1, by omega, e3⟩, hsp, h5, ⟨dd, r1, ?_, r3⟩, fun i hi => ?_, h8⟩
  · rcases hw with ⟨rfl, rfl⟩ | ⟨rfl, rfl⟩ | ⟨hw, hbc⟩
    · rw [if_neg (by decide)] at hb
      omega
    · rw [if_neg (by decide)] at hb
      omega
    · rw [if_pos (by rcases hw with rfl | rfl; exact Or.inl rfl; exact Or.inr rfl)] at hb
      omega
  · by_cases hi2 : i = p
    · subst hi2
      refine ⟨w, hp, ?_⟩
      rcases hw with ⟨h, _⟩ | ⟨h, _⟩ | ⟨h | h, _⟩
      · exact Or.inl h
      · exact Or.inr (Or.inr (Or.inr h))
      · exact Or.inr (Or.inl h)
      · exact Or.inr (Or.inr (Or.inl h))
    · obtain ⟨y, y1, y2⟩ := h7 i (by omega)
      exact ⟨y, by rw [nth_put, if_neg (fun q => hi2 q.1)]; exact y1, y2⟩
/-! BY HAND: reading texts, the reference: one -/
set_option maxRecDepth 100000 in
theorem fB_25 : fldB 25 (-2147483648) 2147483647 = true := by decide +kernel
set_option maxRecDepth 100000 in
theorem fB_22 : fldB 22 (-2147483648) 2147483647 = true := by decide +kernel
section ONE
variable {ls0 : List Int32} {m e : Nat}
/-- how one ends -/
def OnQ (ls0 : List Int32) (m o : Nat) (M : Mem) (v : Option Value) (M' : Mem) : Prop := ∃ r : Int32, v = some (.int r) ∧ TM sT sG M' ∧ Frm sT mdT M M' ∧ ((r = 0 ∧ bel ls0 M') ∨ (r = 1 ∧ ∃ s' p' o' ls' lp', JJ ls0 m 1 M' s' p' o' ls' lp' ∧ o < o'))
theorem on_bad {M0 M : Mem} {me pc : Nat} {lo : Lo} {st : List Value} {o d : Nat} (hT : TM sT sG M) (hF : Frm sT mdT M0 M) (hb : bel ls0 M) (k : Int32) (h : ∀ M', Ev none e 163 0 [some (.ref 633), some (.int k)] [] M (some (.int 0)) M' 0 0 → Ev none d me pc lo st M (some (.int 0)) M' 0 0) : RF (OnQ ls0 m o M0) [] d me pc lo st M := by
  obtain ⟨M', h1, h2, h3⟩ := un_bad (e := e) (k := k) hT
  exact ⟨some (.int 0), M', h M' h1, 0, rfl, h2, hF.trans (h3.more (by decide)), Or.inl ⟨rfl, hb.frm h3 (by decide)⟩⟩
theorem on_last {M0 M : Mem} {z a : Int32} {x3 : Option Value} {s p o o0 : Nat} {ls lp : List Int32} (h : JJ ls0 m 1 M s p o ls lp) (hF : Frm sT mdT M0 M) (ho : o0 < o) : RF (OnQ ls0 m o0 M0) [] (e + 2) 180 197 [some (.ref 633), some (.int z), some (.int a), x3] [] M := by
  obtain ⟨_, ⟨S, P, O, ⟨vs, hM, _⟩, _⟩, _⟩ := id h
  obtain ⟨M', s', p', ls', q1, q2, q3, q4, q5, q6⟩ := ev_writeDown (e := e) (q := 3) p s M ls h
  exact ⟨some (.int 1), M', on_197 (Ev.call0 (fun n => gs_7 rfl rfl (cal_wd hM rfl)) q1 on_202), 1, rfl, q2.1, hF.trans (q3.more (by decide)), Or.inr ⟨rfl, s', p', o, ls', lp, q2, ho⟩⟩
theorem ev_one1 {M0 : Mem} {o0 : Nat} : ∀ (k s p o : Nat) (M : Mem) (ls lp : List Int32) (x1 x2 x3 : Option Value), JJ ls0 m 0 M s p o ls lp → Frm sT mdT M0 M → 40 ≤ o + k → o0 ≤ o → RF (OnQ ls0 m o0 M0) [] (e + 2) 180 0 [some (.ref 633), x1, x2, x3] [] M := by
  intro k
  have head : ∀ (s p o : Nat) (M : Mem) (ls lp : List Int32) (x1 x2 x3 : Option Value), JJ ls0 m 0 M s p o ls lp → Frm sT mdT M0 M → (∀ z a : Int32, a.toInt ≤ 11 → o ≤ 39 → RF (OnQ ls0 m o0 M0) [] (e + 2) 180 60 [some (.ref 633), some (.int z), some (.int a), x3] [] M) → RF (OnQ ls0 m o0 M0) [] (e + 2) 180 0 [some (.ref 633), x1, x2, x3] [] M := by
    intro s p o M ls lp x1 x2 x3 h hF hc
    obtain ⟨n1, n2, n3, ll, pl⟩ := h.num
    obtain ⟨hT, ⟨S, P, O, ⟨vs, hM, v19, v20, v21, _⟩, h1, h2, h3⟩, _⟩ := id h
    obtain ⟨z, w1⟩ := un_word (e := e + 1) (k := 7237492) hT
    obtain ⟨a, a1, a11⟩ := un_atom (e := e + 1) hT
    refine RF.pre (fun v M' hz => on_0 (Ev.call0 (fun n => gs_7 rfl rfl (cal_ww hM rfl)) w1 (on_7 (Ev.call0 (fun n => gs_7 rfl rfl (cal_at hM rfl)) a1 (on_12 hz))))) ?_
    have g36 : RF (OnQ ls0 m o0 M0) [] (e + 2) 180 36 [some (.ref 633), some (.int z), some (.int a), x3] [] M := by
      refine RF.pre (fun v M' hz => on_36 hM v21 hz) ?_
      by_cases h40 : O = 40
      · rw [if_pos h40]
        exact on_bad (e := e + 1) h.1 hF h.bel 4 (fun M' hb => on_54 (Ev.call0 (fun n => gs_7 rfl rfl (cal_bd hM rfl)) hb on_59))
      rw [if_neg h40]
      have o39 : o ≤ 39 := by
        rcases Nat.lt_or_ge o 40 with h9 | h9
        · omega
        · exact absurd (Int32.toInt_inj.mp (show O.toInt = (40 : Int32).toInt from by show O.toInt = 40; omega)) h40
      obtain ⟨y, y1⟩ := un_open (e := e + 1) hT
      refine RF.pre (fun v M' hz => on_45 (Ev.call0 (fun n => gs_7 rfl rfl (cal_op hM rfl)) y1 (on_49 hz))) ?_
      by_cases h10 : y = 10
      · rw [if_pos h10]
        exact on_bad (e := e + 1) h.1 hF h.bel 4 (fun M' hb => on_54 (Ev.call0 (fun n => gs_7 rfl rfl (cal_bd hM rfl)) hb on_59))
      rw [if_neg h10]
      exact hc z a a11 o39
    by_cases hz : z = 0
    · rw [if_pos hz]
      refine RF.pre (fun v M' hz => on_17 hz) ?_
      by_cases ha : 0 ≤ a
      · rw [if_pos ha]; exact g36
      rw [if_neg ha]
      obtain ⟨y, y1⟩ := un_sign (e := e + 1) (k := 40) hT
      refine RF.pre (fun v M' hz => on_21 (Ev.call0 (fun n => gs_7 rfl rfl (cal_ss hM rfl)) y1 (on_27 hz))) ?_
      by_cases hy : y = 0
      · rw [if_pos hy]
        exact on_bad (e := e + 1) h.1 hF h.bel 1 (fun M' hb => on_30 (Ev.call0 (fun n => gs_7 rfl rfl (cal_bd hM rfl)) hb on_35))
      · rw [if_neg hy]; exact g36
    · rw [if_neg hz]; exact g36
  induction k with
  | zero =>
    intro s p o M ls lp x1 x2 x3 h hF hk ho
    exact head s p o M ls lp x1 x2 x3 h hF (fun z a _ h9 => absurd hk (by omega))
  | succ k ih =>
    intro s p o M ls lp x1 x2 x3 h hF hk ho
    refine head s p o M ls lp x1 x2 x3 h hF (fun z a a11 o39 => ?_)
    obtain ⟨n1, n2, n3, ll, pl⟩ := h.num
    obtain ⟨hT, ⟨S, P, O, hc, h1, h2, h3⟩, h4, h5, ⟨dd, r1, r2, r3⟩, h7, h8⟩ := id h
    obtain ⟨vs, hM, v19, v20, v21, r645, r648⟩ := id hc
    have eO : (O + 1).toInt = O.toInt + 1 := i32_p1 (by omega)
    obtain ⟨T1, c1⟩ := hc.O hT hM (y := O + 1) (by omega) (by omega)
    obtain ⟨_, hlen⟩ := fset hT (and_t fBT).2 hM (y := O + 1) (by omega) (by omega)
    obtain ⟨M1, e1⟩ : ∃ M1, M1 = gPut M 633 (.inr (11, gPut vs 21 (.int (O + 1)))) := ⟨_, rfl⟩
    rw [← e1] at T1 c1
    have F1 : Frm sT mdT M M1 := by rw [e1]; exact Frm.fld hM (by decide)
    refine RF.pre (fun v M' hz => on_60 hM v21 hlen (by rw [← e1]; exact hz)) ?_
    have J1 : JJ ls0 m 0 M1 s p (o + 1) ls lp := ⟨T1, ⟨S, P, O + 1, c1, h1, h2, by omega⟩, by omega, h5, ⟨dd, r1, r2, by omega⟩, h7, h8⟩
    obtain ⟨vs1, hM1, _⟩ := id c1
    obtain ⟨M2, x1', T2, F2⟩ := un_next (e := e) T1
    have J2 := J1.frm T2 F2 (by decide)
    have c2 := c1.frm F2 (by decide)
    obtain ⟨vs2, hM2, v19b, v20b, v21b, r645b, r648b⟩ := id c2
    have F02 : Frm sT mdT M0 M2 := (hF.trans F1).trans (F2.more (by decide))
    refine RF.pre (fun v M' hz => on_70 (Ev.call0 (fun n => gs_7 rfl rfl (cal_nx hM1 rfl)) x1' (on_74 hz))) ?_
    by_cases ha : 0 ≤ a
    · rw [if_pos ha]
      have a0 : 0 ≤ a.toInt := Int32.le_iff_toInt_le.mp ha
      refine RF.pre (fun v M' hz => on_111 hz) ?_
      have na : a ≠ 20 ∧ a ≠ 21 ∧ a ≠ 22 := by
        refine ⟨?_, ?_, ?_⟩ <;> intro h <;> rw [h] at a11 <;> exact absurd a11 (by decide)
      by_cases h8a : 8 ≤ a
      · rw [if_pos h8a]
        obtain ⟨y, y1⟩ := un_sign (e := e + 1) (k := 60) T2
        have g160 : RF (OnQ ls0 m o0 M0) [] (e + 2) 180 160 [some (.ref 633), some (.int z), some (.int a), x3] [] M2 := by
          obtain ⟨vs9, sg, hM9, _, g25, _⟩ := T2.fint fB_25
          cases hM2.symm.trans hM9
          obtain ⟨M3, x3', T3, F3⟩ := un_next (e := e) T2
          have J3 := J2.frm T3 F3 (by decide)
          have c3 := c2.frm F3 (by decide)
          obtain ⟨vs3, hM3, _⟩ := id c3
          have F03 := F02.trans (F3.more (by decide) : Frm sT mdT M2 M3)
          refine RF.pre (fun v M' hz => on_160 hM2 g25 (Ev.call0 (fun n => gs_7 rfl rfl (cal_nx hM2 rfl)) x3' hz)) ?_
          obtain ⟨vs9, tk, hM9, _, g22, _⟩ := T3.fint fB_22
          cases hM3.symm.trans hM9
          refine RF.pre (fun v M' hz => on_169 hM3 g22 hz) ?_
          by_cases htk : tk = 2
          · rw [if_pos htk]
            obtain ⟨vs9, nb, hM9, _, g25b, _⟩ := T3.fint fB_25
            cases hM3.symm.trans hM9
            obtain ⟨M4, w4, T4, F4, c4⟩ := ev_write (e := e + 1) (a := a) (b := sg) (n := nb) T3 c3 (by omega)
            have es : S.toInt.toNat = s := by omega
            rw [es] at c4
            have J4 := J3.atom na.1 na.2.1 na.2.2 ⟨dd, r1, by omega, by omega⟩ (by omega) T4 c4 (by rw [i32_p1 (by omega)]; omega) h2 (by omega)
            obtain ⟨vs4, hM4, _⟩ := id c4
            obtain ⟨M5, x5, T5, F5⟩ := un_next (e := e) T4
            have J5 := J4.frm T5 F5 (by decide)
            refine RF.pre (fun v M' hz => on_183 hM3 g25b (Ev.call0 (fun n => gs_7 rfl rfl (cal_wr hM3 rfl)) w4 (on_193 (Ev.call0 (fun n => gs_7 rfl rfl (cal_nx hM4 rfl)) x5 hz)))) ?_
            exact on_last J5 ((F03.trans (F4.more (by decide) : Frm sT mdT M3 M4)).trans (F5.more (by decide))) (by omega)
          · rw [if_neg htk]
            exact on_bad (e := e + 1) T3 F03 J3.bel 1 (fun M' hb => on_177 (Ev.call0 (fun n => gs_7 rfl rfl (cal_bd hM3 rfl)) hb on_182))
        refine RF.pre (fun v M' hz => on_127 (Ev.call0 (fun n => gs_7 rfl rfl (cal_ss hM2 rfl)) y1 (on_133 hz))) ?_
        by_cases hy : y = 0
        · rw [if_pos hy]
          obtain ⟨y2, y3⟩ := un_sign (e := e + 1) (k := 61) T2
          refine RF.pre (fun v M' hz => on_136 (Ev.call0 (fun n => gs_7 rfl rfl (cal_ss hM2 rfl)) y3 (on_142 hz))) ?_
          by_cases hy2 : y2 = 0
          · rw [if_pos hy2]
            obtain ⟨y4, y5⟩ := un_sign (e := e + 1) (k := 62) T2
            refine RF.pre (fun v M' hz => on_145 (Ev.call0 (fun n => gs_7 rfl rfl (cal_ss hM2 rfl)) y5 (on_151 hz))) ?_
            by_cases hy4 : y4 = 0
            · rw [if_pos hy4]
              exact on_bad (e := e + 1) T2 F02 J2.bel 1 (fun M' hb => on_154 (Ev.call0 (fun n => gs_7 rfl rfl (cal_bd hM2 rfl)) hb on_159))
            · rw [if_neg hy4]; exact g160
          · rw [if_neg hy2]; exact g160
        · rw [if_neg hy]; exact g160
      · rw [if_neg h8a]
        obtain ⟨M4, w4, T4, F4, c4⟩ := ev_write (e := e + 1) (a := a) (b := 0) (n := 0) T2 c2 (by omega)
        have es : S.toInt.toNat = s := by omega
        rw [es] at c4
        have J4 := J2.atom na.1 na.2.1 na.2.2 ⟨dd, r1, by omega, by omega⟩ (by omega) T4 c4 (by rw [i32_p1 (by omega)]; omega) h2 (by omega)
        refine RF.pre (fun v M' hz => on_117 (Ev.call0 (fun n => gs_7 rfl rfl (cal_wr hM2 rfl)) w4 (on_124 hz))) ?_
        exact on_last J4 (F02.trans (F4.more (by decide))) (by omega)
    · rw [if_neg ha]
      obtain ⟨vs9, hM9, hv⟩ := T2.mfld
      cases hM2.symm.trans hM9
      have h18 := hv _ _ _ (and_t mfT).2 sUT.2.2.2
      obtain ⟨yp, yp1, yp2⟩ := at_c (l := lp) (j := P) (kn := p) h2 (by omega)
      have eP : (P + 1).toInt = P.toInt + 1 := i32_p1 (by omega)
      have fin : ∀ w : Int32, w = 20 ∨ w = 23 → RF (OnQ ls0 m o0 M0) [] (e + 2) 180 98 [some (.ref 633), some (.int z), some (.int a), x3] [] (gPut M2 648 (.inl (1, .inl (gPut lp p w)))) := by
        intro w hw
        have T3 := any_put T2 sT_648 r648b pl (by decide +kernel) p w
        obtain ⟨M3, e3⟩ : ∃ M3, M3 = gPut M2 648 (.inl (1, .inl (gPut lp p w))) := ⟨_, rfl⟩
        rw [← e3] at T3 ⊢
        have F3 : Frm sT mdT M2 M3 := by rw [e3]; exact Frm.row r648b sT_648 (by decide)
        have n3 : ∀ c, c ≠ 648 → gNth M3 c = gNth M2 c := fun c hc => by rw [e3, nth_put, if_neg (fun q => hc q.1)]
        have hM3 : gNth M3 633 = some (.inr (11, vs2)) := by rw [n3 633 (by decide)]; exact hM2
        have c3 : Cst M3 S P (O + 1) ls (gPut lp p w) := ⟨vs2, hM3, v19b, v20b, v21b, by rw [n3 645 (by decide)]; exact r645b, by rw [e3, nth_put, if_pos ⟨rfl, gNth_lt _ _ _ r648b⟩]⟩
        obtain ⟨T4, c4⟩ := c3.P T3 hM3 (y := P + 1) (by omega) (by omega)
        obtain ⟨_, hlen3⟩ := fset T3 (and_t (and_t fBT).1).2 hM3 (y := P + 1) (by omega) (by omega)
        refine RF.pre (fun v M' hz => on_98 hM3 v20b hlen3 hz) ?_
        have J4 := J2.push (c := 0) (w := w) (by rcases hw with h | h; exact Or.inl ⟨h, rfl⟩; exact Or.inr (Or.inl ⟨h, rfl⟩)) (by omega) T4 c4 h1 (by omega) (by omega)
        exact ih s (p + 1) (o + 1) _ ls _ _ _ _ J4 ((F02.trans F3).trans (Frm.fld hM3 (by decide))) (by omega) (by omega)
      refine RF.pre (fun v M' hz => on_78 hM2 h18 v20b hz) ?_
      by_cases hz : z = 0
      · rw [if_pos hz]
        refine RF.pre (fun v M' hz => on_95 r648b yp1 hz) ?_
        rw [cl_n h2]
        exact fin 23 (Or.inr rfl)
      · rw [if_neg hz]
        refine RF.pre (fun v M' hz => on_90 r648b yp1 hz) ?_
        rw [cl_n h2]
        exact fin 20 (Or.inl rfl)
end ONE
/-! BY HAND: reading texts, the reference: cond -/
theorem io_0 {e : Nat} {M : Mem} {M' : Mem} {v : Option Value} {x1 : Option Value}  (hz : Ev none e 178 2 [some (.ref 633), some (.int 0)] [] M v M' 0 0) : Ev none e 178 0 [some (.ref 633), x1] [] M v M' 0 0 := by
  refine Ev.step (pc' := 2) (ls' := [some (.ref 633), some (.int 0)]) (st' := []) (M1 := M) 2 (fun n => rfl) ?_
  exact hz
theorem io_2 {e : Nat} {M : Mem} {M' : Mem} {v : Option Value} {vs : List Value} {f20 k : Int32} (hM : gNth M 633 = some (.inr (11, vs))) (v20 : gNth vs 20 = some (.int f20)) (hz : Ev none e 178 (if f20 ≤ k then 29 else 10) [some (.ref 633), some (.int k)] [] M v M' 0 0) : Ev none e 178 2 [some (.ref 633), some (.int k)] [] M v M' 0 0 := by
  refine Ev.step (pc' := 4) (ls' := [some (.ref 633), some (.int k)]) (st' := [.ref 633, .int k]) (M1 := M) 2 (fun n => rfl) ?_
  refine Ev.step 1 (gs_3 rfl rfl (gf_g rfl hM v20)) ?_
  refine Ev.step (pc' := (if f20 ≤ k then 29 else 10)) (ls' := [some (.ref 633), some (.int k)]) (st' := []) (M1 := M) 1 (fun n => rfl) ?_
  exact hz
theorem io_10 {e : Nat} {M : Mem} {M' : Mem} {v : Option Value} {vs : List Value} {k y1 : Int32} {l648 : List Int32} (hM : gNth M 633 = some (.inr (11, vs))) (v18 : gNth vs 18 = some (.ref 648)) (r648 : gNth M 648 = some (.inl (1, .inl l648))) (g1 : gAt l648 k = some y1) (hz : Ev none e 178 (if y1 = 23 then 21 else 23) [some (.ref 633), some (.int k)] [] M v M' 0 0) : Ev none e 178 10 [some (.ref 633), some (.int k)] [] M v M' 0 0 := by
  refine Ev.step (pc' := 11) (ls' := [some (.ref 633), some (.int k)]) (st' := [.ref 633]) (M1 := M) 1 (fun n => rfl) ?_
  refine Ev.step 1 (gs_3 rfl rfl (gf_g rfl hM v18)) ?_
  refine Ev.step (pc' := 15) (ls' := [some (.ref 633), some (.int k)]) (st' := [.int k, .ref 648]) (M1 := M) 1 (fun n => rfl) ?_
  refine Ev.step 1 (gs_3 rfl rfl (ia_g r648 g1)) ?_
  refine Ev.step (pc' := (if y1 = 23 then 21 else 23)) (ls' := [some (.ref 633), some (.int k)]) (st' := []) (M1 := M) 2 (fun n => rfl) ?_
  exact hz
theorem io_21 {e : Nat} {M : Mem} {k : Int32}  : Ev none e 178 21 [some (.ref 633), some (.int k)] [] M (some (.int 1)) M 0 0 := by
  refine Ev.step (pc' := 22) (ls' := [some (.ref 633), some (.int k)]) (st' := [.int 1]) (M1 := M) 1 (fun n => rfl) ?_
  exact Ev.ret (fun n => rfl)
theorem io_23 {e : Nat} {M : Mem} {M' : Mem} {v : Option Value} {k : Int32}  (hz : Ev none e 178 2 [some (.ref 633), some (.int (k + 1))] [] M v M' 0 0) : Ev none e 178 23 [some (.ref 633), some (.int k)] [] M v M' 0 0 := by
  refine Ev.step (pc' := 2) (ls' := [some (.ref 633), some (.int (k + 1))]) (st' := []) (M1 := M) 2 (fun n => rfl) ?_
  exact hz
theorem io_29 {e : Nat} {M : Mem} {k : Int32}  : Ev none e 178 29 [some (.ref 633), some (.int k)] [] M (some (.int 0)) M 0 0 := by
  refine Ev.step (pc' := 30) (ls' := [some (.ref 633), some (.int k)]) (st' := [.int 0]) (M1 := M) 1 (fun n => rfl) ?_
  exact Ev.ret (fun n => rfl)
theorem co_0 {e : Nat} {M : Mem} {M' : Mem} {v : Option Value} {vs : List Value} {x1 : Option Value} (hM : gNth M 633 = some (.inr (11, vs))) (hlen : vs.length = 63) (hz : Ev none (e + 3) 179 5 [some (.ref 633), x1] [] (gPut M 633 (.inr (11, gPut vs 20 (.int 0)))) v M' 0 0) : Ev none (e + 3) 179 0 [some (.ref 633), x1] [] M v M' 0 0 := by
  refine Ev.step (pc' := 2) (ls' := [some (.ref 633), x1]) (st' := [.int 0, .ref 633]) (M1 := M) 2 (fun n => rfl) ?_
  refine Ev.step 1 (gs_4 rfl rfl (pf_i rfl hM (by rw [hlen]; decide) rfl rfl)) ?_
  exact hz
theorem co_5 {e : Nat} {M : Mem} {M' : Mem} {v : Option Value} {x1 : Option Value}  (hz : Ev none (e + 3) 179 6 [some (.ref 633), x1] [.ref 633] M v M' 0 0) : Ev none (e + 3) 179 5 [some (.ref 633), x1] [] M v M' 0 0 := by
  refine Ev.step (pc' := 6) (ls' := [some (.ref 633), x1]) (st' := [.ref 633]) (M1 := M) 1 (fun n => rfl) ?_
  exact hz
theorem co_9 {e : Nat} {M : Mem} {M' : Mem} {v : Option Value} {y : Int32} {x1 : Option Value}  (hz : Ev none (e + 3) 179 (if y = 0 then 12 else 14) [some (.ref 633), x1] [] M v M' 0 0) : Ev none (e + 3) 179 9 [some (.ref 633), x1] [.int y] M v M' 0 0 := by
  refine Ev.step (pc' := (if y = 0 then 12 else 14)) (ls' := [some (.ref 633), x1]) (st' := []) (M1 := M) 1 (fun n => rfl) ?_
  exact hz
theorem co_12 {e : Nat} {M : Mem} {x1 : Option Value}  : Ev none (e + 3) 179 12 [some (.ref 633), x1] [] M (some (.int 0)) M 0 0 := by
  refine Ev.step (pc' := 13) (ls' := [some (.ref 633), x1]) (st' := [.int 0]) (M1 := M) 1 (fun n => rfl) ?_
  exact Ev.ret (fun n => rfl)
theorem co_14 {e : Nat} {M : Mem} {M' : Mem} {v : Option Value} {x1 : Option Value}  (hz : Ev none (e + 3) 179 17 [some (.ref 633), x1] [.int 41, .ref 633] M v M' 0 0) : Ev none (e + 3) 179 14 [some (.ref 633), x1] [] M v M' 0 0 := by
  refine Ev.step (pc' := 17) (ls' := [some (.ref 633), x1]) (st' := [.int 41, .ref 633]) (M1 := M) 2 (fun n => rfl) ?_
  exact hz
theorem co_20 {e : Nat} {M : Mem} {M' : Mem} {v : Option Value} {y : Int32} {x1 : Option Value}  (hz : Ev none (e + 3) 179 (if y = 0 then 57 else 23) [some (.ref 633), x1] [] M v M' 0 0) : Ev none (e + 3) 179 20 [some (.ref 633), x1] [.int y] M v M' 0 0 := by
  refine Ev.step (pc' := (if y = 0 then 57 else 23)) (ls' := [some (.ref 633), x1]) (st' := []) (M1 := M) 1 (fun n => rfl) ?_
  exact hz
theorem co_23 {e : Nat} {M : Mem} {M' : Mem} {v : Option Value} {x1 : Option Value}  (hz : Ev none (e + 3) 179 24 [some (.ref 633), x1] [.ref 633] M v M' 0 0) : Ev none (e + 3) 179 23 [some (.ref 633), x1] [] M v M' 0 0 := by
  refine Ev.step (pc' := 24) (ls' := [some (.ref 633), x1]) (st' := [.ref 633]) (M1 := M) 1 (fun n => rfl) ?_
  exact hz
theorem co_27 {e : Nat} {M : Mem} {M' : Mem} {v : Option Value} {y : Int32} {x1 : Option Value}  (hz : Ev none (e + 3) 179 (if y = 0 then 57 else 30) [some (.ref 633), x1] [] M v M' 0 0) : Ev none (e + 3) 179 27 [some (.ref 633), x1] [.int y] M v M' 0 0 := by
  refine Ev.step (pc' := (if y = 0 then 57 else 30)) (ls' := [some (.ref 633), x1]) (st' := []) (M1 := M) 1 (fun n => rfl) ?_
  exact hz
theorem co_30 {e : Nat} {M : Mem} {M' : Mem} {v : Option Value} {x1 : Option Value}  (hz : Ev none (e + 3) 179 32 [some (.ref 633), x1] [.int 1, .ref 633] M v M' 0 0) : Ev none (e + 3) 179 30 [some (.ref 633), x1] [] M v M' 0 0 := by
  refine Ev.step (pc' := 32) (ls' := [some (.ref 633), x1]) (st' := [.int 1, .ref 633]) (M1 := M) 2 (fun n => rfl) ?_
  exact hz
theorem co_35 {e : Nat} {M : Mem} {M' : Mem} {v : Option Value} {vs : List Value} {f20 : Int32} {x1 : Option Value} (hM : gNth M 633 = some (.inr (11, vs))) (v20 : gNth vs 20 = some (.int f20)) (hlen : vs.length = 63) (hz : Ev none (e + 3) 179 45 [some (.ref 633), x1] [] (gPut M 633 (.inr (11, gPut vs 20 (.int (f20 - 1))))) v M' 0 0) : Ev none (e + 3) 179 35 [some (.ref 633), x1] [] M v M' 0 0 := by
  refine Ev.step (pc' := 37) (ls' := [some (.ref 633), x1]) (st' := [.ref 633, .ref 633]) (M1 := M) 2 (fun n => rfl) ?_
  refine Ev.step 1 (gs_3 rfl rfl (gf_g rfl hM v20)) ?_
  refine Ev.step (pc' := 42) (ls' := [some (.ref 633), x1]) (st' := [.int (f20 - 1), .ref 633]) (M1 := M) 2 (fun n => rfl) ?_
  refine Ev.step 1 (gs_4 rfl rfl (pf_i rfl hM (by rw [hlen]; decide) rfl rfl)) ?_
  exact hz
theorem co_45 {e : Nat} {M : Mem} {M' : Mem} {v : Option Value} {x1 : Option Value}  (hz : Ev none (e + 3) 179 47 [some (.ref 633), x1] [.int 3, .ref 633] M v M' 0 0) : Ev none (e + 3) 179 45 [some (.ref 633), x1] [] M v M' 0 0 := by
  refine Ev.step (pc' := 47) (ls' := [some (.ref 633), x1]) (st' := [.int 3, .ref 633]) (M1 := M) 2 (fun n => rfl) ?_
  exact hz
theorem co_50 {e : Nat} {M : Mem} {M' : Mem} {v : Option Value} {x1 : Option Value}  (hz : Ev none (e + 3) 179 51 [some (.ref 633), x1] [.ref 633] M v M' 0 0) : Ev none (e + 3) 179 50 [some (.ref 633), x1] [] M v M' 0 0 := by
  refine Ev.step (pc' := 51) (ls' := [some (.ref 633), x1]) (st' := [.ref 633]) (M1 := M) 1 (fun n => rfl) ?_
  exact hz
theorem co_54 {e : Nat} {M : Mem} {M' : Mem} {v : Option Value} {x1 : Option Value}  (hz : Ev none (e + 3) 179 14 [some (.ref 633), x1] [] M v M' 0 0) : Ev none (e + 3) 179 54 [some (.ref 633), x1] [] M v M' 0 0 := by
  refine Ev.step (pc' := 14) (ls' := [some (.ref 633), x1]) (st' := []) (M1 := M) 1 (fun n => rfl) ?_
  exact hz
theorem co_57 {e : Nat} {M : Mem} {M' : Mem} {v : Option Value} {x1 : Option Value}  (hz : Ev none (e + 3) 179 61 [some (.ref 633), x1] [.long 6385252, .ref 633] M v M' 0 0) : Ev none (e + 3) 179 57 [some (.ref 633), x1] [] M v M' 0 0 := by
  refine Ev.step (pc' := 61) (ls' := [some (.ref 633), x1]) (st' := [.long 6385252, .ref 633]) (M1 := M) 2 (fun n => rfl) ?_
  exact hz
theorem co_64 {e : Nat} {M : Mem} {M' : Mem} {v : Option Value} {z : Int32} {x1 : Option Value}  (hz : Ev none (e + 3) 179 (if z = 0 then 69 else 99) [some (.ref 633), some (.int z)] [] M v M' 0 0) : Ev none (e + 3) 179 64 [some (.ref 633), x1] [.int z] M v M' 0 0 := by
  refine Ev.step (pc' := (if z = 0 then 69 else 99)) (ls' := [some (.ref 633), some (.int z)]) (st' := []) (M1 := M) 3 (fun n => rfl) ?_
  exact hz
theorem co_69 {e : Nat} {M : Mem} {M' : Mem} {v : Option Value} {z : Int32}  (hz : Ev none (e + 3) 179 73 [some (.ref 633), some (.int z)] [.long 28530, .ref 633] M v M' 0 0) : Ev none (e + 3) 179 69 [some (.ref 633), some (.int z)] [] M v M' 0 0 := by
  refine Ev.step (pc' := 73) (ls' := [some (.ref 633), some (.int z)]) (st' := [.long 28530, .ref 633]) (M1 := M) 2 (fun n => rfl) ?_
  exact hz
theorem co_76 {e : Nat} {M : Mem} {M' : Mem} {v : Option Value} {y z : Int32}  (hz : Ev none (e + 3) 179 (if y = 0 then 79 else 99) [some (.ref 633), some (.int z)] [] M v M' 0 0) : Ev none (e + 3) 179 76 [some (.ref 633), some (.int z)] [.int y] M v M' 0 0 := by
  refine Ev.step (pc' := (if y = 0 then 79 else 99)) (ls' := [some (.ref 633), some (.int z)]) (st' := []) (M1 := M) 1 (fun n => rfl) ?_
  exact hz
theorem co_79 {e : Nat} {M : Mem} {M' : Mem} {v : Option Value} {z : Int32}  (hz : Ev none (e + 3) 179 80 [some (.ref 633), some (.int z)] [.ref 633] M v M' 0 0) : Ev none (e + 3) 179 79 [some (.ref 633), some (.int z)] [] M v M' 0 0 := by
  refine Ev.step (pc' := 80) (ls' := [some (.ref 633), some (.int z)]) (st' := [.ref 633]) (M1 := M) 1 (fun n => rfl) ?_
  exact hz
theorem co_83 {e : Nat} {M : Mem} {M' : Mem} {v : Option Value} {y z : Int32}  (hz : Ev none (e + 3) 179 (if y = 0 then 92 else 86) [some (.ref 633), some (.int z)] [] M v M' 0 0) : Ev none (e + 3) 179 83 [some (.ref 633), some (.int z)] [.int y] M v M' 0 0 := by
  refine Ev.step (pc' := (if y = 0 then 92 else 86)) (ls' := [some (.ref 633), some (.int z)]) (st' := []) (M1 := M) 1 (fun n => rfl) ?_
  exact hz
theorem co_86 {e : Nat} {M : Mem} {M' : Mem} {v : Option Value} {z : Int32}  (hz : Ev none (e + 3) 179 88 [some (.ref 633), some (.int z)] [.int 1, .ref 633] M v M' 0 0) : Ev none (e + 3) 179 86 [some (.ref 633), some (.int z)] [] M v M' 0 0 := by
  refine Ev.step (pc' := 88) (ls' := [some (.ref 633), some (.int z)]) (st' := [.int 1, .ref 633]) (M1 := M) 2 (fun n => rfl) ?_
  exact hz
theorem co_91 {e : Nat} {M : Mem} {z : Int32}  : Ev none (e + 3) 179 91 [some (.ref 633), some (.int z)] [.int 0] M (some (.int 0)) M 0 0 := by
  exact Ev.ret (fun n => rfl)
theorem co_92 {e : Nat} {M : Mem} {M' : Mem} {v : Option Value} {z : Int32}  (hz : Ev none (e + 3) 179 94 [some (.ref 633), some (.int z)] [.int 1, .ref 633] M v M' 0 0) : Ev none (e + 3) 179 92 [some (.ref 633), some (.int z)] [] M v M' 0 0 := by
  refine Ev.step (pc' := 94) (ls' := [some (.ref 633), some (.int z)]) (st' := [.int 1, .ref 633]) (M1 := M) 2 (fun n => rfl) ?_
  exact hz
theorem co_97 {e : Nat} {M : Mem} {z : Int32}  : Ev none (e + 3) 179 97 [some (.ref 633), some (.int z)] [] M (some (.int 1)) M 0 0 := by
  refine Ev.step (pc' := 98) (ls' := [some (.ref 633), some (.int z)]) (st' := [.int 1]) (M1 := M) 1 (fun n => rfl) ?_
  exact Ev.ret (fun n => rfl)
theorem co_99 {e : Nat} {M : Mem} {M' : Mem} {v : Option Value} {z : Int32}  (hz : Ev none (e + 3) 179 (if z = 0 then 108 else 104) [some (.ref 633), some (.int z)] [.ref 633] M v M' 0 0) : Ev none (e + 3) 179 99 [some (.ref 633), some (.int z)] [] M v M' 0 0 := by
  refine Ev.step (pc' := (if z = 0 then 108 else 104)) (ls' := [some (.ref 633), some (.int z)]) (st' := [.ref 633]) (M1 := M) 3 (fun n => rfl) ?_
  exact hz
theorem co_104 {e : Nat} {M : Mem} {M' : Mem} {v : Option Value} {z : Int32}  (hz : Ev none (e + 3) 179 109 [some (.ref 633), some (.int z)] [.int 2, .ref 633] M v M' 0 0) : Ev none (e + 3) 179 104 [some (.ref 633), some (.int z)] [.ref 633] M v M' 0 0 := by
  refine Ev.step (pc' := 109) (ls' := [some (.ref 633), some (.int z)]) (st' := [.int 2, .ref 633]) (M1 := M) 2 (fun n => rfl) ?_
  exact hz
theorem co_108 {e : Nat} {M : Mem} {M' : Mem} {v : Option Value} {z : Int32}  (hz : Ev none (e + 3) 179 109 [some (.ref 633), some (.int z)] [.int 1, .ref 633] M v M' 0 0) : Ev none (e + 3) 179 108 [some (.ref 633), some (.int z)] [.ref 633] M v M' 0 0 := by
  refine Ev.step (pc' := 109) (ls' := [some (.ref 633), some (.int z)]) (st' := [.int 1, .ref 633]) (M1 := M) 1 (fun n => rfl) ?_
  exact hz
theorem co_112 {e : Nat} {M : Mem} {M' : Mem} {v : Option Value} {vs : List Value} {f20 z : Int32} (hM : gNth M 633 = some (.inr (11, vs))) (v18 : gNth vs 18 = some (.ref 648)) (v20 : gNth vs 20 = some (.int f20)) (hz : Ev none (e + 3) 179 (if z = 0 then 129 else 124) [some (.ref 633), some (.int z)] [.int f20, .ref 648] M v M' 0 0) : Ev none (e + 3) 179 112 [some (.ref 633), some (.int z)] [] M v M' 0 0 := by
  refine Ev.step (pc' := 113) (ls' := [some (.ref 633), some (.int z)]) (st' := [.ref 633]) (M1 := M) 1 (fun n => rfl) ?_
  refine Ev.step 1 (gs_3 rfl rfl (gf_g rfl hM v18)) ?_
  refine Ev.step (pc' := 117) (ls' := [some (.ref 633), some (.int z)]) (st' := [.ref 633, .ref 648]) (M1 := M) 1 (fun n => rfl) ?_
  refine Ev.step 1 (gs_3 rfl rfl (gf_g rfl hM v20)) ?_
  refine Ev.step (pc' := (if z = 0 then 129 else 124)) (ls' := [some (.ref 633), some (.int z)]) (st' := [.int f20, .ref 648]) (M1 := M) 2 (fun n => rfl) ?_
  exact hz
theorem co_124 {e : Nat} {M : Mem} {M' : Mem} {v : Option Value} {p y1 z : Int32} {l648 : List Int32} (r648 : gNth M 648 = some (.inl (1, .inl l648))) (g1 : gAt l648 p = some y1) (hz : Ev none (e + 3) 179 132 [some (.ref 633), some (.int z)] [] (gPut M 648 (.inl (1, .inl (gPut l648 p.toNatClampNeg 21)))) v M' 0 0) : Ev none (e + 3) 179 124 [some (.ref 633), some (.int z)] [.int p, .ref 648] M v M' 0 0 := by
  refine Ev.step (pc' := 131) (ls' := [some (.ref 633), some (.int z)]) (st' := [.int 21, .int p, .ref 648]) (M1 := M) 2 (fun n => rfl) ?_
  refine Ev.step 1 (gs_4 rfl rfl (is_g r648 g1)) ?_
  exact hz
theorem co_129 {e : Nat} {M : Mem} {M' : Mem} {v : Option Value} {p y1 z : Int32} {l648 : List Int32} (r648 : gNth M 648 = some (.inl (1, .inl l648))) (g1 : gAt l648 p = some y1) (hz : Ev none (e + 3) 179 132 [some (.ref 633), some (.int z)] [] (gPut M 648 (.inl (1, .inl (gPut l648 p.toNatClampNeg 22)))) v M' 0 0) : Ev none (e + 3) 179 129 [some (.ref 633), some (.int z)] [.int p, .ref 648] M v M' 0 0 := by
  refine Ev.step (pc' := 131) (ls' := [some (.ref 633), some (.int z)]) (st' := [.int 22, .int p, .ref 648]) (M1 := M) 1 (fun n => rfl) ?_
  refine Ev.step 1 (gs_4 rfl rfl (is_g r648 g1)) ?_
  exact hz
theorem co_132 {e : Nat} {M : Mem} {M' : Mem} {v : Option Value} {vs : List Value} {f20 z : Int32} (hM : gNth M 633 = some (.inr (11, vs))) (v20 : gNth vs 20 = some (.int f20)) (hlen : vs.length = 63) (hz : Ev none (e + 3) 179 142 [some (.ref 633), some (.int z)] [] (gPut M 633 (.inr (11, gPut vs 20 (.int (f20 + 1))))) v M' 0 0) : Ev none (e + 3) 179 132 [some (.ref 633), some (.int z)] [] M v M' 0 0 := by
  refine Ev.step (pc' := 134) (ls' := [some (.ref 633), some (.int z)]) (st' := [.ref 633, .ref 633]) (M1 := M) 2 (fun n => rfl) ?_
  refine Ev.step 1 (gs_3 rfl rfl (gf_g rfl hM v20)) ?_
  refine Ev.step (pc' := 139) (ls' := [some (.ref 633), some (.int z)]) (st' := [.int (f20 + 1), .ref 633]) (M1 := M) 2 (fun n => rfl) ?_
  refine Ev.step 1 (gs_4 rfl rfl (pf_i rfl hM (by rw [hlen]; decide) rfl rfl)) ?_
  exact hz
theorem co_142 {e : Nat} {M : Mem} {M' : Mem} {v : Option Value} {z : Int32}  (hz : Ev none (e + 3) 179 143 [some (.ref 633), some (.int z)] [.ref 633] M v M' 0 0) : Ev none (e + 3) 179 142 [some (.ref 633), some (.int z)] [] M v M' 0 0 := by
  refine Ev.step (pc' := 143) (ls' := [some (.ref 633), some (.int z)]) (st' := [.ref 633]) (M1 := M) 1 (fun n => rfl) ?_
  exact hz
theorem co_146 {e : Nat} {M : Mem} {M' : Mem} {v : Option Value} {z : Int32}  (hz : Ev none (e + 3) 179 5 [some (.ref 633), some (.int z)] [] M v M' 0 0) : Ev none (e + 3) 179 146 [some (.ref 633), some (.int z)] [] M v M' 0 0 := by
  refine Ev.step (pc' := 5) (ls' := [some (.ref 633), some (.int z)]) (st' := []) (M1 := M) 1 (fun n => rfl) ?_
  exact hz
theorem cal_on {M : Mem} {vs : List Value} {rest : List Value} (hM : gNth M 633 = some (.inr (11, vs))) (hr : gRoom rest = true) : gCal (.invokevirtual 297) 11 (.ref 633 :: rest) M = some (.inr (180, [some (.ref 633), none, none, none], rest)) := by
  show @cond (Option ((List Value × Mem) ⊕ (Nat × Lo × List Value))) (true && gRecv M (.ref 633) 11 && gRoom rest && true) (some (.inr (180, [some (.ref 633), none, none, none], rest))) none = _
  rw [recv_ok hM, hr]
  rfl
theorem cal_io {M : Mem} {vs : List Value} {rest : List Value} (hM : gNth M 633 = some (.inr (11, vs))) (hr : gRoom rest = true) : gCal (.invokevirtual 300) 11 (.ref 633 :: rest) M = some (.inr (178, [some (.ref 633), none], rest)) := by
  show @cond (Option ((List Value × Mem) ⊕ (Nat × Lo × List Value))) (true && gRecv M (.ref 633) 11 && gRoom rest && true) (some (.inr (178, [some (.ref 633), none], rest))) none = _
  rw [recv_ok hM, hr]
  rfl
theorem ev_isOpen {M : Mem} {e p : Nat} {S P O : Int32} {ls lp : List Int32} (hT : TM sT sG M) (hc : Cst M S P O ls lp) (hp : P.toInt = (p : Int)) : ∃ r : Int32, Ev none e 178 0 [some (.ref 633), none] [] M (some (.int r)) M 0 0 ∧ (r = 0 → ¬ hasO lp p) ∧ (r ≠ 0 → hasO lp p) := by
  obtain ⟨S2, P2, O2, ls2, lp2, c2, _, pl, _, _, _, p100, _⟩ := hT.cst
  obtain ⟨rfl, rfl, rfl, rfl, rfl⟩ := hc.det c2
  obtain ⟨vs, hM, v19, v20, v21, r645, r648⟩ := hc
  obtain ⟨vs9, hM9, hv⟩ := hT.mfld
  cases hM.symm.trans hM9
  have h18 := hv _ _ _ (and_t mfT).2 sUT.2.2.2
  have main : ∀ (j kn : Nat) (k : Int32), k.toInt = (kn : Int) → p = kn + j → (∀ i, i < kn → gNth lp i ≠ some 23) → ∃ r : Int32, Ev none e 178 2 [some (.ref 633), some (.int k)] [] M (some (.int r)) M 0 0 ∧ (r = 0 → ¬ hasO lp p) ∧ (r ≠ 0 → hasO lp p) := by
    intro j
    induction j with
    | zero =>
      intro kn k hk hj hno
      refine ⟨0, io_2 hM v20 ?_, fun _ ⟨i, i1, i2⟩ => hno i (by omega) i2, fun h => absurd rfl h⟩
      rw [if_pos (by rw [Int32.le_iff_toInt_le]; omega)]
      exact io_29
    | succ j ih =>
      intro kn k hk hj hno
      obtain ⟨y, y1, y2⟩ := at_c (l := lp) hk (by omega)
      have hlt : ¬ P ≤ k := by rw [Int32.le_iff_toInt_le]; omega
      by_cases hy : y = 23
      · refine ⟨1, io_2 hM v20 ?_, fun h => absurd h (by decide), fun _ => ⟨kn, by omega, by rw [y2, hy]⟩⟩
        rw [if_neg hlt]
        refine io_10 hM h18 r648 y1 ?_
        rw [if_pos hy]
        exact io_21
      · have e1 : (k + 1).toInt = k.toInt + 1 := i32_p1 (by omega)
        obtain ⟨r, q1, q2⟩ := ih (kn + 1) (k + 1) (by omega) (by omega) (fun i hi => by
          by_cases h : i = kn
          · subst h
            rw [y2]
            exact fun h => hy (Option.some.inj h)
          · exact hno i (by omega))
        refine ⟨r, io_2 hM v20 ?_, q2⟩
        rw [if_neg hlt]
        refine io_10 hM h18 r648 y1 ?_
        rw [if_neg hy]
        exact io_23 q1
  obtain ⟨r, q1, q2⟩ := main p 0 0 rfl (by omega) (fun i hi => by omega)
  exact ⟨r, io_0 q1, q2⟩
/-- the bracket on the pile's top goes -/
theorem JJ.drop {ls0 ls lp : List Int32} {m s p o : Nat} {M M' : Mem} {S P O : Int32} (h : JJ ls0 m 1 M s (p + 1) o ls lp) (hw : gNth lp p = some 23) (hT : TM sT sG M') (hc : Cst M' S P O ls lp) (e1 : S.toInt = (s : Int)) (e2 : P.toInt = (p : Int)) (e3 : O.toInt = (o : Int)) : JJ ls0 m 1 M' s p o ls lp := by
  obtain ⟨_, _, h4, h5, ⟨dd, r1, r2, r3⟩, h7, h8⟩ := h
  have hb : binN lp (p + 1) = binN lp p + (if gNth lp p = some 21 ∨ gNth lp p = some 22 then 1 else 0) := rfl
  rw [if_neg (by rw [hw]; decide)] at hb
  exact ⟨hT, ⟨S, P, O, hc, e1, e2, e3⟩, by omega, h5, ⟨dd, r1, by omega, r3⟩, fun i hi => h7 i (by omega), h8⟩
section COND
variable {ls0 : List Int32} {m e : Nat} {M0 : Mem}
/-- how cond ends -/
def CdQ (ls0 : List Int32) (m : Nat) (M : Mem) (v : Option Value) (M' : Mem) : Prop := ∃ r : Int32, v = some (.int r) ∧ TM sT sG M' ∧ Frm sT mdT M M' ∧ ((r = 0 ∧ bel ls0 M') ∨ (r = 1 ∧ ∃ s' o' ls' lp', JJ ls0 m 1 M' s' 0 o' ls' lp'))
theorem co_bad {M : Mem} {pc : Nat} {lo : Lo} {st : List Value} (hT : TM sT sG M) (hF : Frm sT mdT M0 M) (hb : bel ls0 M) (k : Int32) (h : ∀ M', Ev none (e + 2) 163 0 [some (.ref 633), some (.int k)] [] M (some (.int 0)) M' 0 0 → Ev none (e + 3) 179 pc lo st M (some (.int 0)) M' 0 0) : RF (CdQ ls0 m M0) [] (e + 3) 179 pc lo st M := by
  obtain ⟨M', h1, h2, h3⟩ := un_bad (e := e + 2) (k := k) hT
  exact ⟨some (.int 0), M', h M' h1, 0, rfl, h2, hF.trans (h3.more (by decide)), Or.inl ⟨rfl, hb.frm h3 (by decide)⟩⟩
/-- brackets are closed -/
theorem co_close {o0 : Nat} {x1 : Option Value} (hE : ∀ (s p o : Nat) (M : Mem) (ls lp : List Int32), JJ ls0 m 1 M s p o ls lp → Frm sT mdT M0 M → o0 ≤ o → RF (CdQ ls0 m M0) [] (e + 3) 179 57 [some (.ref 633), x1] [] M) : ∀ (k s p o : Nat) (M : Mem) (ls lp : List Int32), JJ ls0 m 1 M s p o ls lp → Frm sT mdT M0 M → o0 ≤ o → p ≤ k → RF (CdQ ls0 m M0) [] (e + 3) 179 14 [some (.ref 633), x1] [] M := by
  intro k
  induction k with
  | zero =>
    intro s p o M ls lp h hF ho hp
    have hp0 : p = 0 := by omega
    subst hp0
    obtain ⟨hT, ⟨S, P, O, hc, h1, h2, h3⟩, _⟩ := id h
    obtain ⟨vs, hM, _⟩ := id hc
    obtain ⟨y, y1⟩ := un_sign (e := e + 2) (k := 41) hT
    refine RF.pre (fun v M' hz => co_14 (Ev.call0 (fun n => gs_7 rfl rfl (cal_ss hM rfl)) y1 (co_20 hz))) ?_
    by_cases hy : y = 0
    · rw [if_pos hy]
      exact hE _ _ _ _ _ _ h hF ho
    rw [if_neg hy]
    obtain ⟨r, r1, r2, r3⟩ := ev_isOpen (e := e + 2) hT hc h2
    refine RF.pre (fun v M' hz => co_23 (Ev.call0 (fun n => gs_7 rfl rfl (cal_io hM rfl)) r1 (co_27 hz))) ?_
    by_cases hr : r = 0
    · rw [if_pos hr]
      exact hE _ _ _ _ _ _ h hF ho
    · obtain ⟨i, i1, _⟩ := r3 hr
      omega
  | succ k ih =>
    intro s p o M ls lp h hF ho hp
    obtain ⟨hT, ⟨S, P, O, hc, h1, h2, h3⟩, _⟩ := id h
    obtain ⟨vs, hM, _⟩ := id hc
    obtain ⟨y, y1⟩ := un_sign (e := e + 2) (k := 41) hT
    refine RF.pre (fun v M' hz => co_14 (Ev.call0 (fun n => gs_7 rfl rfl (cal_ss hM rfl)) y1 (co_20 hz))) ?_
    by_cases hy : y = 0
    · rw [if_pos hy]
      exact hE _ _ _ _ _ _ h hF ho
    rw [if_neg hy]
    obtain ⟨r, r1, r2, r3⟩ := ev_isOpen (e := e + 2) hT hc h2
    refine RF.pre (fun v M' hz => co_23 (Ev.call0 (fun n => gs_7 rfl rfl (cal_io hM rfl)) r1 (co_27 hz))) ?_
    by_cases hr : r = 0
    · rw [if_pos hr]
      exact hE _ _ _ _ _ _ h hF ho
    rw [if_neg hr]
    obtain ⟨M1, s1, p1, ls1, q1, q2, q3, q4, q5, q6⟩ := ev_writeDown (e := e + 1) (q := 1) p s M ls h
    obtain ⟨i, i1, i2⟩ := q5 (r3 hr)
    obtain ⟨p2, rfl⟩ : ∃ p2, p1 = p2 + 1 := ⟨p1 - 1, by omega⟩
    have htop := q6 (by decide) p2 rfl
    obtain ⟨T1, ⟨S1, P1, O1, c1, g1, g2, g3⟩, _⟩ := id q2
    obtain ⟨vs1, hM1, w19, w20, w21, _⟩ := id c1
    obtain ⟨n1, n2, n3, _, _⟩ := q2.num
    have eP : (P1 - 1).toInt = ((p2 : Nat) : Int) := by rw [i32_m1 (by omega)]; omega
    obtain ⟨T2, c2⟩ := c1.P T1 hM1 (y := P1 - 1) (by omega) (by omega)
    obtain ⟨_, hlen⟩ := fset T1 (and_t (and_t fBT).1).2 hM1 (y := P1 - 1) (by omega) (by omega)
    obtain ⟨M2, e2⟩ : ∃ M2, M2 = gPut M1 633 (.inr (11, gPut vs1 20 (.int (P1 - 1)))) := ⟨_, rfl⟩
    rw [← e2] at T2 c2
    have F2 : Frm sT mdT M1 M2 := by rw [e2]; exact Frm.fld hM1 (by decide)
    have J2 := q2.drop htop T2 c2 g1 eP g3
    obtain ⟨vs2, hM2, _⟩ := id c2
    obtain ⟨M3, s3, p3, ls3, u1, u2, u3, u4, u5, u6⟩ := ev_writeDown (e := e + 1) (q := 3) p2 s1 M2 ls1 J2
    obtain ⟨T3, ⟨S3, P3, O3, ⟨vs3, hM3, _⟩, _⟩, _⟩ := id u2
    obtain ⟨M4, x4, T4, F4⟩ := un_next (e := e + 1) T3
    have J4 := u2.frm T4 F4 (by decide)
    refine RF.pre (fun v M' hz => co_30 (Ev.call0 (fun n => gs_7 rfl rfl (cal_wd hM rfl)) q1 (co_35 hM1 w20 hlen (by rw [← e2]; exact co_45 (Ev.call0 (fun n => gs_7 rfl rfl (cal_wd hM2 rfl)) u1 (co_50 (Ev.call0 (fun n => gs_7 rfl rfl (cal_nx hM3 rfl)) x4 (co_54 hz)))))))) ?_
    exact ih s3 p3 o M4 ls3 lp J4 ((((hF.trans (q3.more (by decide))).trans F2).trans (u3.more (by decide))).trans (F4.more (by decide))) ho (by omega)
theorem co_loop : ∀ (k s p o : Nat) (M : Mem) (ls lp : List Int32) (x1 : Option Value), JJ ls0 m 0 M s p o ls lp → Frm sT mdT M0 M → 41 ≤ o + k → RF (CdQ ls0 m M0) [] (e + 3) 179 5 [some (.ref 633), x1] [] M := by
  intro k
  induction k with
  | zero =>
    intro s p o M ls lp x1 h hF hk
    have := h.num.1
    omega
  | succ k ih =>
    intro s p o M ls lp x1 h hF hk
    obtain ⟨hT, ⟨S, P, O, hc, h1, h2, h3⟩, _⟩ := id h
    obtain ⟨vs, hM, _⟩ := id hc
    obtain ⟨v, M1, q1, r, rfl, T1, F1, hr⟩ := ev_one1 (e := e) (M0 := M) (o0 := o) 40 s p o M ls lp none none none h (Frm.refl M) (by omega) (Nat.le_refl o)
    refine RF.pre (fun v M' hz => co_5 (Ev.call0 (fun n => gs_7 rfl rfl (cal_on hM rfl)) q1 (co_9 hz))) ?_
    rcases hr with ⟨rfl, hb⟩ | ⟨rfl, s1, p1, o1, ls1, lp1, J1, ho⟩
    · rw [if_pos rfl]
      exact ⟨some (.int 0), M1, co_12, 0, rfl, T1, hF.trans F1, Or.inl ⟨rfl, hb⟩⟩
    rw [if_neg (by decide)]
    refine co_close (o0 := o + 1) (fun s p o2 M ls lp h hF ho2 => ?_) 80 s1 p1 o1 M1 ls1 lp1 J1 (hF.trans F1) ho J1.num.2.2.1
    obtain ⟨hT, ⟨S, P, O, hc, h1, h2, h3⟩, hcnt, _⟩ := id h
    obtain ⟨n1, n2, n3, ll, pl⟩ := h.num
    obtain ⟨vs, hM, v19, v20, v21, r645, r648⟩ := id hc
    obtain ⟨z, z1⟩ := un_word (e := e + 2) (k := 6385252) hT
    refine RF.pre (fun v M' hz => co_57 (Ev.call0 (fun n => gs_7 rfl rfl (cal_ww hM rfl)) z1 (co_64 hz))) ?_
    have g99 : RF (CdQ ls0 m M0) [] (e + 3) 179 99 [some (.ref 633), some (.int z)] [] M := by
      have wd : ∀ q : Int32, (∀ v M1 M', Ev none (e + 2) 175 0 [some (.ref 633), some (.int q)] [] M none M1 0 0 → Ev none (e + 3) 179 112 [some (.ref 633), some (.int z)] [] M1 v M' 0 0 → Ev none (e + 3) 179 99 [some (.ref 633), some (.int z)] [] M v M' 0 0) → RF (CdQ ls0 m M0) [] (e + 3) 179 99 [some (.ref 633), some (.int z)] [] M := by
        intro q hq
        obtain ⟨M1, s1, p1, ls1, q1, J1, F1, hp1, _, _⟩ := ev_writeDown (e := e + 1) (q := q) p s M ls h
        refine RF.pre (fun v M' hz => hq v M1 M' q1 hz) ?_
        obtain ⟨T1, ⟨S1, P1, O1, c1, g1, g2, g3⟩, hcnt1, _⟩ := id J1
        obtain ⟨vs1, hM1, w19, w20, w21, b645, b648⟩ := id c1
        obtain ⟨m1, m2, m3, ml, mp⟩ := J1.num
        obtain ⟨vs9, hM9, hv⟩ := T1.mfld
        cases hM1.symm.trans hM9
        have h18 := hv _ _ _ (and_t mfT).2 sUT.2.2.2
        obtain ⟨yp, yp1, yp2⟩ := at_c (l := lp) (j := P1) (kn := p1) g2 (by omega)
        have eP : (P1 + 1).toInt = P1.toInt + 1 := i32_p1 (by omega)
        have fin : ∀ w : Int32, w = 21 ∨ w = 22 → RF (CdQ ls0 m M0) [] (e + 3) 179 132 [some (.ref 633), some (.int z)] [] (gPut M1 648 (.inl (1, .inl (gPut lp p1 w)))) := by
          intro w hw
          have T3 := any_put T1 sT_648 b648 mp (by decide +kernel) p1 w
          obtain ⟨M3, e3⟩ : ∃ M3, M3 = gPut M1 648 (.inl (1, .inl (gPut lp p1 w))) := ⟨_, rfl⟩
          rw [← e3] at T3 ⊢
          have F3 : Frm sT mdT M1 M3 := by rw [e3]; exact Frm.row b648 sT_648 (by decide)
          have n3 : ∀ c, c ≠ 648 → gNth M3 c = gNth M1 c := fun c hc => by rw [e3, nth_put, if_neg (fun q => hc q.1)]
          have hM3 : gNth M3 633 = some (.inr (11, vs1)) := by rw [n3 633 (by decide)]; exact hM1
          have c3 : Cst M3 S1 P1 O1 ls1 (gPut lp p1 w) := ⟨vs1, hM3, w19, w20, w21, by rw [n3 645 (by decide)]; exact b645, by rw [e3, nth_put, if_pos ⟨rfl, gNth_lt _ _ _ b648⟩]⟩
          obtain ⟨T4, c4⟩ := c3.P T3 hM3 (y := P1 + 1) (by omega) (by omega)
          obtain ⟨_, hlen3⟩ := fset T3 (and_t (and_t fBT).1).2 hM3 (y := P1 + 1) (by omega) (by omega)
          obtain ⟨M4, e4⟩ : ∃ M4, M4 = gPut M3 633 (.inr (11, gPut vs1 20 (.int (P1 + 1)))) := ⟨_, rfl⟩
          rw [← e4] at T4 c4
          have F4 : Frm sT mdT M3 M4 := by rw [e4]; exact Frm.fld hM3 (by decide)
          have J4 := J1.push (c := 0) (w := w) (Or.inr (Or.inr ⟨hw, rfl⟩)) (by omega) T4 c4 g1 (by omega) g3
          obtain ⟨vs4, hM4, _⟩ := id c4
          obtain ⟨M5, x5, T5, F5⟩ := un_next (e := e + 1) T4
          have J5 := J4.frm T5 F5 (by decide)
          refine RF.pre (fun v M' hz => co_132 hM3 w20 hlen3 (by rw [← e4]; exact co_142 (Ev.call0 (fun n => gs_7 rfl rfl (cal_nx hM4 rfl)) x5 (co_146 hz)))) ?_
          exact ih s1 (p1 + 1) o2 M5 ls1 _ _ J5 ((((hF.trans (F1.more (by decide))).trans F3).trans F4).trans (F5.more (by decide))) (by omega)
        refine RF.pre (fun v M' hz => co_112 hM1 h18 w20 hz) ?_
        by_cases hz : z = 0
        · rw [if_pos hz]
          refine RF.pre (fun v M' hz => co_129 b648 yp1 hz) ?_
          rw [cl_n g2]
          exact fin 22 (Or.inr rfl)
        · rw [if_neg hz]
          refine RF.pre (fun v M' hz => co_124 b648 yp1 hz) ?_
          rw [cl_n g2]
          exact fin 21 (Or.inl rfl)
      by_cases hz : z = 0
      · exact wd 1 (fun v M1 M' h1 h2 => co_99 (by rw [if_pos hz]; exact co_108 (Ev.call0 (fun n => gs_7 rfl rfl (cal_wd hM rfl)) h1 h2)))
      · exact wd 2 (fun v M1 M' h1 h2 => co_99 (by rw [if_neg hz]; exact co_104 (Ev.call0 (fun n => gs_7 rfl rfl (cal_wd hM rfl)) h1 h2)))
    by_cases hz : z = 0
    · rw [if_pos hz]
      obtain ⟨y, y1⟩ := un_word (e := e + 2) (k := 28530) hT
      refine RF.pre (fun v M' hz => co_69 (Ev.call0 (fun n => gs_7 rfl rfl (cal_ww hM rfl)) y1 (co_76 hz))) ?_
      by_cases hy : y = 0
      · rw [if_pos hy]
        obtain ⟨r, r1, r2, r3⟩ := ev_isOpen (e := e + 2) hT hc h2
        refine RF.pre (fun v M' hz => co_79 (Ev.call0 (fun n => gs_7 rfl rfl (cal_io hM rfl)) r1 (co_83 hz))) ?_
        by_cases hr : r = 0
        · rw [if_pos hr]
          obtain ⟨M1, s1, p1, ls1, q1, J1, F1, hp1, _, q6⟩ := ev_writeDown (e := e + 1) (q := 1) p s M ls h
          have hp0 : p1 = 0 := by
            rcases Nat.eq_zero_or_pos p1 with h0 | h0
            · exact h0
            · exact absurd ⟨p1 - 1, by omega, q6 (by decide) (p1 - 1) (by omega)⟩ (r2 hr)
          subst hp0
          exact ⟨some (.int 1), M1, co_92 (Ev.call0 (fun n => gs_7 rfl rfl (cal_wd hM rfl)) q1 co_97), 1, rfl, J1.1, hF.trans (F1.more (by decide)), Or.inr ⟨rfl, s1, o2, ls1, lp, J1⟩⟩
        · rw [if_neg hr]
          exact co_bad hT hF h.bel 1 (fun M' hb => co_86 (Ev.call0 (fun n => gs_7 rfl rfl (cal_bd hM rfl)) hb co_91))
      · rw [if_neg hy]; exact g99
    · rw [if_neg hz]; exact g99
end COND
/-- cond() -/
theorem ev_cond {M : Mem} {e s o : Nat} {S P O : Int32} {ls lp : List Int32} {x1 : Option Value} (hT : TM sT sG M) (hc : Cst M S P O ls lp) (h1 : S.toInt = (s : Int)) (h3 : O.toInt = (o : Int)) (hs : s ≤ 2 * o) : ∃ r M', Ev none (e + 3) 179 0 [some (.ref 633), x1] [] M (some (.int r)) M' 0 0 ∧ TM sT sG M' ∧ Frm sT mdT M M' ∧ ((r = 0 ∧ bel ls M') ∨ (r = 1 ∧ ∃ s' o' ls' lp', JJ ls s 1 M' s' 0 o' ls' lp')) := by
  obtain ⟨S2, P2, O2, ls2, lp2, c2, ll, pl, _, _, _, _, _, o40⟩ := hT.cst
  obtain ⟨rfl, rfl, rfl, rfl, rfl⟩ := hc.det c2
  obtain ⟨vs, hM, v19, v20, v21, r645, r648⟩ := id hc
  obtain ⟨T1, c1⟩ := hc.P hT hM (y := 0) (by decide) (by decide)
  obtain ⟨_, hlen⟩ := fset hT (and_t (and_t fBT).1).2 hM (y := 0) (by decide) (by decide)
  obtain ⟨M1, e1⟩ : ∃ M1, M1 = gPut M 633 (.inr (11, gPut vs 20 (.int 0))) := ⟨_, rfl⟩
  rw [← e1] at T1 c1
  have F1 : Frm sT mdT M M1 := by rw [e1]; exact Frm.fld hM (by decide)
  have J1 : JJ ls s 0 M1 s 0 o ls lp := ⟨T1, ⟨S, 0, O, c1, h1, rfl, h3⟩, by omega, Nat.le_refl s, ⟨0, by rw [Nat.sub_self]; rfl, rfl, Nat.zero_le o⟩, fun i hi => by omega, fun i _ => rfl⟩
  obtain ⟨v, M', q1, r, rfl, q2, q3, q4⟩ := co_loop (e := e) (M0 := M) 41 s 0 o M1 ls lp x1 J1 F1 (by omega)
  exact ⟨r, M', co_0 hM hlen (by rw [← e1]; exact q1), q2, q3, q4⟩
