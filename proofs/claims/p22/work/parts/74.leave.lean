/-! BY HAND: the reference's leave(k) -/
section G74
variable {M : Mem} {vs : List Value} {l : List Int32}
theorem gf_g {ix k : Nat} {st : List Value} {ini : Bool} {v : Value} {ty : Nat} (ho : gOwn fRs 11 ix = some (11, k, ty)) (hM : gNth M 633 = some (.inr (11, vs))) (hv : gNth vs k = some v) : gGet (.getfield ix) none 11 ini (.ref 633 :: st) M = some (v :: st, M) := by
  show (match gOwn fRs 11 ix, gNth M 633 with
    | some (ci, k, _), some (.inr (c, fs)) => match Nat.beq c ci, gNth fs k with
      | true, some v => some (v :: st, M)
      | _, _ => none
    | _, _ => none) = _
  rw [ho, hM]
  show (match Nat.beq 11 11, gNth vs k with
    | true, some v => some (v :: st, M)
    | _, _ => none) = _
  rw [hv]
theorem is_g {a : Nat} {st : List Value} {ini : Bool} {j x z : Int32} (hs : gNth M a = some (.inl (1, .inl l))) (h0 : gAt l j = some x) : gGet .iastore none 11 ini (.int z :: .int j :: .ref a :: st) M = some (st, gPut M a (.inl (1, .inl (gPut l j.toNatClampNeg z)))) := by
  show (match gNth M a with
    | some (.inl (1, .inl l)) => match gAt l j with
      | some _ => some (st, gPut M a (.inl (1, .inl (gPut l j.toNatClampNeg z))))
      | none => none
    | _ => none) = _
  rw [hs]
  show (match gAt l j with
      | some _ => some (st, gPut M a (.inl (1, .inl (gPut l j.toNatClampNeg z))))
      | none => none) = _
  rw [h0]
end G74
theorem lv_0 {e : Nat} {M : Mem} {M' : Mem} {v : Option Value} {vs : List Value} {k y1 : Int32} {l635 : List Int32} (hM : gNth M 633 = some (.inr (11, vs))) (v5 : gNth vs 5 = some (.ref 635)) (r635 : gNth M 635 = some (.inl (1, .inl l635))) (g1 : gAt l635 157 = some y1) (hz : Ev none e 205 21 [some (.ref 633), some (.int k), some (.int (158 + (6 * k)))] [] (gPut M 635 (.inl (1, .inl (gPut l635 (157 : Int32).toNatClampNeg (y1 - 1))))) v M' 0 0) : Ev none e 205 0 [some (.ref 633), some (.int k), none] [] M v M' 0 0 := by
  refine Ev.step (pc' := 1) (ls' := [some (.ref 633), some (.int k), none]) (st' := [.ref 633]) (M1 := M) 1 (fun n => rfl) ?_
  refine Ev.step 1 (gs_3 rfl rfl (gf_g rfl hM v5)) ?_
  refine Ev.step (pc' := 8) (ls' := [some (.ref 633), some (.int k), none]) (st' := [.int 157, .ref 635, .int 157, .ref 635]) (M1 := M) 2 (fun n => rfl) ?_
  refine Ev.step 1 (gs_3 rfl rfl (ia_g r635 g1)) ?_
  refine Ev.step (pc' := 11) (ls' := [some (.ref 633), some (.int k), none]) (st' := [.int (y1 - 1), .int 157, .ref 635]) (M1 := M) 2 (fun n => rfl) ?_
  refine Ev.step 1 (gs_4 rfl rfl (is_g r635 g1)) ?_
  refine Ev.step (pc' := 21) (ls' := [some (.ref 633), some (.int k), some (.int (158 + (6 * k)))]) (st' := []) (M1 := (gPut M 635 (.inl (1, .inl (gPut l635 (157 : Int32).toNatClampNeg (y1 - 1)))))) 6 (fun n => rfl) ?_
  exact hz
theorem lv_21 {e : Nat} {M : Mem} {M' : Mem} {v : Option Value} {vs : List Value} {i k y1 : Int32} {l635 : List Int32} (hM : gNth M 633 = some (.inr (11, vs))) (v5 : gNth vs 5 = some (.ref 635)) (r635 : gNth M 635 = some (.inl (1, .inl l635))) (g1 : gAt l635 157 = some y1) (hz : Ev none e 205 (if (158 + (6 * y1)) ≤ i then 61 else 40) [some (.ref 633), some (.int k), some (.int i)] [] M v M' 0 0) : Ev none e 205 21 [some (.ref 633), some (.int k), some (.int i)] [] M v M' 0 0 := by
  refine Ev.step (pc' := 28) (ls' := [some (.ref 633), some (.int k), some (.int i)]) (st' := [.ref 633, .int 6, .int 158, .int i]) (M1 := M) 4 (fun n => rfl) ?_
  refine Ev.step 1 (gs_3 rfl rfl (gf_g rfl hM v5)) ?_
  refine Ev.step (pc' := 34) (ls' := [some (.ref 633), some (.int k), some (.int i)]) (st' := [.int 157, .ref 635, .int 6, .int 158, .int i]) (M1 := M) 1 (fun n => rfl) ?_
  refine Ev.step 1 (gs_3 rfl rfl (ia_g r635 g1)) ?_
  refine Ev.step (pc' := (if (158 + (6 * y1)) ≤ i then 61 else 40)) (ls' := [some (.ref 633), some (.int k), some (.int i)]) (st' := []) (M1 := M) 3 (fun n => rfl) ?_
  exact hz
theorem lv_40 {e : Nat} {M : Mem} {M' : Mem} {v : Option Value} {vs : List Value} {i k y1 y2 : Int32} {l635 : List Int32} (hM : gNth M 633 = some (.inr (11, vs))) (v5 : gNth vs 5 = some (.ref 635)) (r635 : gNth M 635 = some (.inl (1, .inl l635))) (g1 : gAt l635 (i + 6) = some y1) (g2 : gAt l635 i = some y2) (hz : Ev none e 205 21 [some (.ref 633), some (.int k), some (.int (i + 1))] [] (gPut M 635 (.inl (1, .inl (gPut l635 i.toNatClampNeg y1)))) v M' 0 0) : Ev none e 205 40 [some (.ref 633), some (.int k), some (.int i)] [] M v M' 0 0 := by
  refine Ev.step (pc' := 41) (ls' := [some (.ref 633), some (.int k), some (.int i)]) (st' := [.ref 633]) (M1 := M) 1 (fun n => rfl) ?_
  refine Ev.step 1 (gs_3 rfl rfl (gf_g rfl hM v5)) ?_
  refine Ev.step (pc' := 46) (ls' := [some (.ref 633), some (.int k), some (.int i)]) (st' := [.ref 633, .int i, .ref 635]) (M1 := M) 2 (fun n => rfl) ?_
  refine Ev.step 1 (gs_3 rfl rfl (gf_g rfl hM v5)) ?_
  refine Ev.step (pc' := 53) (ls' := [some (.ref 633), some (.int k), some (.int i)]) (st' := [.int (i + 6), .ref 635, .int i, .ref 635]) (M1 := M) 3 (fun n => rfl) ?_
  refine Ev.step 1 (gs_3 rfl rfl (ia_g r635 g1)) ?_
  refine Ev.step 1 (gs_4 rfl rfl (is_g r635 g2)) ?_
  refine Ev.step (pc' := 21) (ls' := [some (.ref 633), some (.int k), some (.int (i + 1))]) (st' := []) (M1 := (gPut M 635 (.inl (1, .inl (gPut l635 i.toNatClampNeg y1))))) 2 (fun n => rfl) ?_
  exact hz
theorem lv_61 {e : Nat} {M : Mem} {M' : Mem} {v : Option Value} {vs : List Value} {i k y1 : Int32} {l635 : List Int32} (hM : gNth M 633 = some (.inr (11, vs))) (v5 : gNth vs 5 = some (.ref 635)) (r635 : gNth M 635 = some (.inl (1, .inl l635))) (g1 : gAt l635 157 = some y1) (hz : Ev none e 205 77 [some (.ref 633), some (.int k), some (.int (158 + (6 * y1)))] [] M v M' 0 0) : Ev none e 205 61 [some (.ref 633), some (.int k), some (.int i)] [] M v M' 0 0 := by
  refine Ev.step (pc' := 67) (ls' := [some (.ref 633), some (.int k), some (.int i)]) (st' := [.ref 633, .int 6, .int 158]) (M1 := M) 3 (fun n => rfl) ?_
  refine Ev.step 1 (gs_3 rfl rfl (gf_g rfl hM v5)) ?_
  refine Ev.step (pc' := 73) (ls' := [some (.ref 633), some (.int k), some (.int i)]) (st' := [.int 157, .ref 635, .int 6, .int 158]) (M1 := M) 1 (fun n => rfl) ?_
  refine Ev.step 1 (gs_3 rfl rfl (ia_g r635 g1)) ?_
  refine Ev.step (pc' := 77) (ls' := [some (.ref 633), some (.int k), some (.int (158 + (6 * y1)))]) (st' := []) (M1 := M) 3 (fun n => rfl) ?_
  exact hz
theorem lv_77 {e : Nat} {M : Mem} {M' : Mem} {v : Option Value} {vs : List Value} {i k y1 : Int32} {l635 : List Int32} (hM : gNth M 633 = some (.inr (11, vs))) (v5 : gNth vs 5 = some (.ref 635)) (r635 : gNth M 635 = some (.inl (1, .inl l635))) (g1 : gAt l635 157 = some y1) (hz : Ev none e 205 (if ((158 + (6 * y1)) + 6) ≤ i then 112 else 99) [some (.ref 633), some (.int k), some (.int i)] [] M v M' 0 0) : Ev none e 205 77 [some (.ref 633), some (.int k), some (.int i)] [] M v M' 0 0 := by
  refine Ev.step (pc' := 84) (ls' := [some (.ref 633), some (.int k), some (.int i)]) (st' := [.ref 633, .int 6, .int 158, .int i]) (M1 := M) 4 (fun n => rfl) ?_
  refine Ev.step 1 (gs_3 rfl rfl (gf_g rfl hM v5)) ?_
  refine Ev.step (pc' := 90) (ls' := [some (.ref 633), some (.int k), some (.int i)]) (st' := [.int 157, .ref 635, .int 6, .int 158, .int i]) (M1 := M) 1 (fun n => rfl) ?_
  refine Ev.step 1 (gs_3 rfl rfl (ia_g r635 g1)) ?_
  refine Ev.step (pc' := (if ((158 + (6 * y1)) + 6) ≤ i then 112 else 99)) (ls' := [some (.ref 633), some (.int k), some (.int i)]) (st' := []) (M1 := M) 5 (fun n => rfl) ?_
  exact hz
theorem lv_99 {e : Nat} {M : Mem} {M' : Mem} {v : Option Value} {vs : List Value} {i k y1 : Int32} {l635 : List Int32} (hM : gNth M 633 = some (.inr (11, vs))) (v5 : gNth vs 5 = some (.ref 635)) (r635 : gNth M 635 = some (.inl (1, .inl l635))) (g1 : gAt l635 i = some y1) (hz : Ev none e 205 77 [some (.ref 633), some (.int k), some (.int (i + 1))] [] (gPut M 635 (.inl (1, .inl (gPut l635 i.toNatClampNeg 0)))) v M' 0 0) : Ev none e 205 99 [some (.ref 633), some (.int k), some (.int i)] [] M v M' 0 0 := by
  refine Ev.step (pc' := 100) (ls' := [some (.ref 633), some (.int k), some (.int i)]) (st' := [.ref 633]) (M1 := M) 1 (fun n => rfl) ?_
  refine Ev.step 1 (gs_3 rfl rfl (gf_g rfl hM v5)) ?_
  refine Ev.step (pc' := 105) (ls' := [some (.ref 633), some (.int k), some (.int i)]) (st' := [.int 0, .int i, .ref 635]) (M1 := M) 2 (fun n => rfl) ?_
  refine Ev.step 1 (gs_4 rfl rfl (is_g r635 g1)) ?_
  refine Ev.step (pc' := 77) (ls' := [some (.ref 633), some (.int k), some (.int (i + 1))]) (st' := []) (M1 := (gPut M 635 (.inl (1, .inl (gPut l635 i.toNatClampNeg 0))))) 2 (fun n => rfl) ?_
  exact hz
theorem lv_112 {e : Nat} {M : Mem} {i k : Int32}  : Ev none e 205 112 [some (.ref 633), some (.int k), some (.int i)] [] M none M 0 0 := by
  exact Ev.ret (fun n => rfl)
set_option maxRecDepth 100000 in
theorem rw_63 : rwB 63 1 2314 (-2147483648) 2147483647 = true := by decide +kernel
set_option maxRecDepth 100000 in
theorem mf_63 : mfB 5 63 = true := by decide +kernel
noncomputable def sB (i : Nat) (lo hi : Int) : Bool := match gNth sG 63 with
  | some (.inr (1, 2314, .inl sg)) => (match sgAt sg i with
    | some p => decide (p.1 = lo) && decide (p.2 = hi)
    | _ => false)
  | _ => false
theorem sB_inv {i : Nat} {lo hi : Int} (h : sB i lo hi = true) : ∃ sg p, gNth sG 63 = some (.inr (1, 2314, .inl sg)) ∧ sgAt sg i = some p ∧ p.1 = lo ∧ p.2 = hi := by
  unfold sB at h
  split at h
  · rename_i sg e
    cases e2 : sgAt sg i with
    | none => rw [e2] at h; cases h
    | some p =>
      rw [e2] at h
      obtain ⟨h1, h2⟩ := and_t h
      exact ⟨sg, p, e, e2, of_decide_eq_true h1, of_decide_eq_true h2⟩
  · cases h
/-- the range of a place of s -/
theorem TM.s_in {M : Mem} (hT : TM sT sG M) {l : List Int32} (hM : gNth M 635 = some (.inl (1, .inl l))) {i : Nat} {lo hi : Int} {y : Int32} (hB : sB i lo hi = true) (hy : gNth l i = some y) : lo ≤ y.toInt ∧ y.toInt ≤ hi := by
  obtain ⟨sg, p, e, e4, rfl, rfl⟩ := sB_inv hB
  obtain ⟨e1, e2, e3⟩ := hT.at sT_635 e
  rw [hM] at e2
  cases e2
  obtain ⟨l', e5, l1, l2⟩ := ct_int (by decide) e3
  cases e5
  obtain ⟨q, q1, q2, q3⟩ := l2 _ _ hy
  rw [e4] at q1
  cases q1
  exact ⟨q2, q3⟩
theorem TM.s_1 {M : Mem} (hT : TM sT sG M) {l : List Int32} (hM : gNth M 635 = some (.inl (1, .inl l))) {i : Nat} {lo hi : Int} {y : Int32} (hB : sB i lo hi = true) (h1 : lo ≤ y.toInt) (h2 : y.toInt ≤ hi) : TM sT sG (gPut M 635 (.inl (1, .inl (gPut l i y)))) := by
  obtain ⟨sg, p, e, e4, rfl, rfl⟩ := sB_inv hB
  obtain ⟨e1, e2, e3⟩ := hT.at sT_635 e
  rw [hM] at e2
  cases e2
  obtain ⟨l', e5, l1, l2⟩ := ct_int (by decide) e3
  cases e5
  refine hT.put (fun g2 t w1 w2 => ?_)
  rw [sT_635] at w1
  cases w1
  rw [e] at w2
  cases w2
  refine ct_mk (by decide) (by rw [put_len]; exact l1) (fun j x hj => ?_)
  rw [nth_put] at hj
  split at hj
  · rename_i hc
    cases hj
    obtain ⟨rfl, _⟩ := hc
    exact ⟨p, e4, h1, h2⟩
  · exact l2 j x hj
theorem TM.s_all {M : Mem} (hT : TM sT sG M) : ∃ vs l, gNth M 633 = some (.inr (11, vs)) ∧ gNth vs 5 = some (.ref 635) ∧ gNth M 635 = some (.inl (1, .inl l)) ∧ l.length = 2314 := by
  obtain ⟨vs, hM, hv⟩ := hT.mfld
  obtain ⟨l, h1, h2, _⟩ := hT.mrow sT_635 rw_63
  exact ⟨vs, l, hM, hv _ _ _ mf_63 sU_63, h1, h2⟩
/-- a place of a row -/
theorem at_c {α : Type} {l : List α} {j : Int32} {kn : Nat} (h : j.toInt = (kn : Int)) (hl : kn < l.length) : ∃ y, gAt l j = some y ∧ gNth l kn = some y := by
  refine ⟨l[kn], ?_, ?_⟩
  · rw [at_nn h, nth_eq, List.getElem?_eq_getElem hl]
  · rw [nth_eq, List.getElem?_eq_getElem hl]
theorem cl_n {j : Int32} {kn : Nat} (h : j.toInt = (kn : Int)) : j.toNatClampNeg = kn := by
  obtain ⟨_, h2⟩ := clp_of (x := j) (a := 0) (b := j.toInt) ⟨by omega, Int.le_refl _⟩ (Int.le_refl _)
  omega
/-- what stands of s while someone leaves -/
def LvS (w : Int32) (M0 M : Mem) : Prop := TM sT sG M ∧ Frm sT [(1063, 0)] M0 M ∧ ∃ l, gNth M 635 = some (.inl (1, .inl l)) ∧ gNth l 157 = some w ∧ evS l ∧ dsS l
theorem LvS.put {w : Int32} {M0 M : Mem} {l : List Int32} (h : LvS w M0 M) (hM : gNth M 635 = some (.inl (1, .inl l))) {i : Nat} {y : Int32} (h1 : 158 ≤ i) (h2 : (i < 512 ∧ gNth l (i + 6) = some y) ∨ (i < 518 ∧ y = 0)) : LvS w M0 (gPut M 635 (.inl (1, .inl (gPut l i y)))) := by
  obtain ⟨hT, hF, l2, e1, e2, e3, e4⟩ := h
  cases e1.symm.trans hM
  refine ⟨hT.s_put hM h1 h2, hF.trans (Frm.row hM sT_635 (List.mem_singleton.mpr rfl)), _, by rw [nth_put, if_pos ⟨rfl, gNth_lt _ _ _ hM⟩], ?_, e3.put (Or.inr (Or.inl (by omega))), e4.put (by omega)⟩
  rw [nth_put, if_neg (fun q => absurd q.1 (by omega))]
  exact e2
theorem i32_e (w : Int32) (h0 : 0 ≤ w.toInt) (h1 : w.toInt ≤ 60) : (158 + 6 * w).toInt = 158 + 6 * w.toInt ∧ (158 + 6 * w + 6).toInt = 164 + 6 * w.toInt := by
  have o6 : (6 : Int32).toInt = 6 := rfl
  have o158 : (158 : Int32).toInt = 158 := rfl
  have d1 : (6 * w).toInt = 6 * w.toInt := by
    rw [i32_mul (by rw [o6]; omega) (by rw [o6]; omega), o6]
  have d2 : (158 + 6 * w).toInt = 158 + 6 * w.toInt := by
    rw [i32_add (by rw [o158]; omega) (by rw [o158]; omega), d1, o158]
  refine ⟨d2, ?_⟩
  rw [i32_add (by rw [d2, o6]; omega) (by rw [d2, o6]; omega), d2, o6]
  omega
theorem lv_loop2 {w k : Int32} {M0 : Mem} {e : Nat} (w0 : 0 ≤ w.toInt) (w1 : w.toInt ≤ 59) : ∀ (n inn : Nat) (M : Mem) (i : Int32), LvS w M0 M → i.toInt = (inn : Int) → 158 ≤ inn → (inn : Int) + n = 164 + 6 * w.toInt → ∃ MF, Ev none e 205 77 [some (.ref 633), some (.int k), some (.int i)] [] M none MF 0 0 ∧ LvS w M0 MF := by
  intro n
  obtain ⟨E1, E2⟩ := i32_e w w0 (by omega)
  induction n with
  | zero =>
    intro inn M i hL hi h1 hn
    obtain ⟨vs, l, hM, h5, hs, sl⟩ := hL.1.s_all
    obtain ⟨_, _, l2, e1, e2, e3⟩ := id hL
    cases e1.symm.trans hs
    have g157 : gAt l 157 = some w := by rw [at_nn (kn := 157) rfl]; exact e2
    refine ⟨M, lv_77 hM h5 hs g157 ?_, hL⟩
    rw [if_pos (by rw [Int32.le_iff_toInt_le, E2]; omega)]
    exact lv_112
  | succ n ih =>
    intro inn M i hL hi h1 hn
    obtain ⟨vs, l, hM, h5, hs, sl⟩ := hL.1.s_all
    obtain ⟨_, _, l2, e1, e2, e3⟩ := id hL
    cases e1.symm.trans hs
    have g157 : gAt l 157 = some w := by rw [at_nn (kn := 157) rfl]; exact e2
    obtain ⟨y, y1, y2⟩ := at_c (l := l) hi (by omega)
    have hp := hL.put hs (i := inn) (y := 0) h1 (Or.inr ⟨by omega, rfl⟩)
    have e4 : (i + 1).toInt = i.toInt + 1 := i32_p1 (by omega)
    obtain ⟨MF, q1, q2⟩ := ih (inn + 1) _ (i + 1) hp (by omega) (by omega) (by omega)
    refine ⟨MF, lv_77 hM h5 hs g157 ?_, q2⟩
    rw [if_neg (by rw [Int32.le_iff_toInt_le, E2]; omega)]
    refine lv_99 hM h5 hs y1 ?_
    rw [cl_n hi]
    exact q1
theorem lv_loop1 {w k : Int32} {M0 : Mem} {e : Nat} (w0 : 0 ≤ w.toInt) (w1 : w.toInt ≤ 59) : ∀ (n inn : Nat) (M : Mem) (i : Int32), LvS w M0 M → i.toInt = (inn : Int) → 158 ≤ inn → 158 + 6 * w.toInt ≤ (inn : Int) + n → ∃ MF, Ev none e 205 21 [some (.ref 633), some (.int k), some (.int i)] [] M none MF 0 0 ∧ LvS w M0 MF := by
  intro n
  obtain ⟨E1, E2⟩ := i32_e w w0 (by omega)
  have fin : ∀ (M : Mem) (i : Int32), LvS w M0 M → (158 + 6 * w ≤ i) → ∃ MF, Ev none e 205 21 [some (.ref 633), some (.int k), some (.int i)] [] M none MF 0 0 ∧ LvS w M0 MF := by
    intro M i hL hle
    obtain ⟨vs, l, hM, h5, hs, sl⟩ := hL.1.s_all
    obtain ⟨_, _, l2, e1, e2, e3⟩ := id hL
    cases e1.symm.trans hs
    have g157 : gAt l 157 = some w := by rw [at_nn (kn := 157) rfl]; exact e2
    obtain ⟨MF, q1, q2⟩ := lv_loop2 (w := w) (k := k) (M0 := M0) (e := e) w0 w1 6 (158 + 6 * w.toInt).toNat M (158 + 6 * w) hL (by omega) (by omega) (by omega)
    refine ⟨MF, lv_21 hM h5 hs g157 ?_, q2⟩
    rw [if_pos hle]
    exact lv_61 hM h5 hs g157 q1
  induction n with
  | zero =>
    intro inn M i hL hi h1 hn
    exact fin M i hL (by rw [Int32.le_iff_toInt_le, E1]; omega)
  | succ n ih =>
    intro inn M i hL hi h1 hn
    by_cases hle : 158 + 6 * w ≤ i
    · exact fin M i hL hle
    have hlt : i.toInt < 158 + 6 * w.toInt := by
      rw [Int32.le_iff_toInt_le, E1] at hle
      omega
    obtain ⟨vs, l, hM, h5, hs, sl⟩ := hL.1.s_all
    obtain ⟨_, _, l2, e1, e2, e3⟩ := id hL
    cases e1.symm.trans hs
    have g157 : gAt l 157 = some w := by rw [at_nn (kn := 157) rfl]; exact e2
    obtain ⟨y, y1, y2⟩ := at_c (l := l) hi (by omega)
    have o6 : (6 : Int32).toInt = 6 := rfl
    have e6 : (i + 6).toInt = ((inn + 6 : Nat) : Int) := by
      rw [i32_add (by rw [o6]; omega) (by rw [o6]; omega), o6]
      omega
    obtain ⟨z, z1, z2⟩ := at_c (l := l) e6 (by omega)
    have hp := hL.put hs (i := inn) (y := z) h1 (Or.inl ⟨by omega, z2⟩)
    have e4 : (i + 1).toInt = i.toInt + 1 := i32_p1 (by omega)
    obtain ⟨MF, q1, q2⟩ := ih (inn + 1) _ (i + 1) hp (by omega) (by omega) (by omega)
    refine ⟨MF, lv_21 hM h5 hs g157 ?_, q2⟩
    rw [if_neg hle]
    refine lv_40 hM h5 hs z1 y1 ?_
    rw [cl_n hi]
    exact q1
def kX11_leave : CN := (205, 0, [.inr 1900, .inl (.ofNat 0, .ofNat 59)], [], [(26, []), (28, [])], [(1063, 0)], [(none, [], [], [(28, [])], [])])
set_option maxRecDepth 100000 in
theorem mR_205 : (gNth mRs 205).map (fun q => q.2.2.2.1) = some 3 := by decide +kernel
set_option maxRecDepth 100000 in
theorem sB_157 : sB 157 0 60 = true := by decide +kernel
theorem kX11_leave_ok : cnOK sT sG FL0 kX11_leave := by
  intro d M ws q hd hq ha hp hT
  have hm := mR_205
  have hq' : gNth mRs 205 = some q := hq
  rw [hq'] at hm
  have hm : q.2.2.2.1 = 3 := Option.some.inj hm
  rcases ws with _ | ⟨a, _ | ⟨b, _ | ⟨b2, r⟩⟩⟩
  · exact ha.elim
  · exact ha.2.elim
  · obtain ⟨k1, ⟨k, rfl, c1, c2⟩, _⟩ := ha
    have k1 : a = .ref 633 := k1
    subst k1
    have c1 : 0 ≤ k.toInt := c1
    have c2 : k.toInt ≤ 59 := c2
    obtain ⟨hv, hv0, hfl⟩ := hp
    obtain ⟨y26, z26, h26⟩ := hfl (26, []) (List.mem_cons_self ..)
    obtain ⟨y28, z28, h28⟩ := hfl (28, []) (List.mem_cons_of_mem _ (List.mem_cons_self ..))
    obtain ⟨t, l, W, q1, q2, q3⟩ := fl0_26 h26
    obtain ⟨t2, l2, p1, p2, p3⟩ := fl0_28 h28
    obtain ⟨vs, l3, hM, h5, hs, sl⟩ := hT.s_all
    have el : l3 = l := by cases hs.symm.trans q1; rfl
    have el2 : l2 = l := by cases p1.symm.trans q1; rfl
    subst el
    subst el2
    obtain ⟨w1, w2⟩ := hT.s_in hs sB_157 q2
    have g157 : gAt l2 157 = some W := by rw [at_nn (kn := 157) rfl]; exact q2
    obtain ⟨w, ew⟩ : ∃ w, w = W - 1 := ⟨_, rfl⟩
    have dw : w.toInt = W.toInt - 1 := by rw [ew]; exact i32_m1 (by omega)
    have hlt := gNth_lt _ _ _ hs
    have hL : LvS w M (gPut M 635 (.inl (1, .inl (gPut l2 157 w)))) := by
      refine ⟨hT.s_1 hs sB_157 (by omega) (by omega), Frm.row hs sT_635 (List.mem_singleton.mpr rfl), _, by rw [nth_put, if_pos ⟨rfl, hlt⟩], ?_, p2.put (Or.inr (Or.inl (by omega))), p3.put (by omega)⟩
      rw [nth_put, if_pos ⟨rfl, by omega⟩]
    obtain ⟨E1, E2⟩ := i32_e k c1 (by omega)
    obtain ⟨MF, r1, r2, r3, l4, r4, r5, r6⟩ := lv_loop1 (w := w) (k := k) (M0 := M) (e := d) (by omega) (by omega) 518 (158 + 6 * k.toInt).toNat _ (158 + 6 * k) hL (by omega) (by omega) (by omega)
    rw [hm]
    refine ⟨none, MF, lv_0 hM h5 hs g157 (by rw [← ew, cl_n (kn := 157) rfl]; exact r1), r2, r3, _, List.mem_cons_self .., ⟨trivial, fun q hq => (by cases hq), [], trivial, fun f hf => ?_, fun q hq => (by cases hq)⟩, fun _ t5 l5 x5 s1 s2 => ?_⟩
    · cases List.mem_singleton.mp hf
      exact ⟨[], trivial, (show FL0 28 [] MF from ⟨1, l4, r4, r6⟩)⟩
    · cases hs.symm.trans s1
      cases q2.symm.trans s2
      exact ⟨l4, w, r4, r5, dw⟩
  · exact ha.2.2.elim
/-! BY HAND: octet, of, isGreen, price -/
theorem ba0_g {M : Mem} {l : List Int32} {a : Nat} {st : List Value} {ini : Bool} {j x : Int32} (hs : gNth M a = some (.inl (0, .inl l))) (h0 : gAt l j = some x) : gGet .baload none 11 ini (.int j :: .ref a :: st) M = some (.int x :: st, M) := by
  show (match gNth M a with
    | some (.inl (0, .inl l)) => match gAt l j with
      | some x => some (Value.int x :: st, M)
      | none => none
    | some (.inl (3, .inl l)) => match gAt l j with
      | some x => some (Value.int x :: st, M)
      | none => none
    | _ => none) = _
  rw [hs]
  show (match gAt l j with
      | some x => some (Value.int x :: st, M)
      | none => none) = _
  rw [h0]
theorem cal_gr {M : Mem} {vs : List Value} {a0 : Int32} {rest : List Value} (hM : gNth M 633 = some (.inr (11, vs))) (hr : gRoom rest = true) : gCal (.invokevirtual 356) 11 (.int a0 :: .ref 633 :: rest) M = some (.inr (149, [some (.ref 633), some (.int a0)], rest)) := by
  show @cond (Option ((List Value × Mem) ⊕ (Nat × Lo × List Value))) (true && gRecv M (.ref 633) 11 && gRoom rest && true) (some (.inr (149, [some (.ref 633), some (.int a0)], rest))) none = _
  rw [recv_ok hM, hr]
  rfl
theorem oc_0 {e : Nat} {M : Mem} {vs : List Value} {k y1 : Int32} {l634 : List Int32} (hM : gNth M 633 = some (.inr (11, vs))) (v1 : gNth vs 1 = some (.ref 634)) (r634 : gNth M 634 = some (.inl (0, .inl l634))) (g1 : gAt l634 k = some y1) : Ev none e 142 0 [some (.ref 633), some (.int k)] [] M (some (.int (y1 &&& 255))) M 0 0 := by
  refine Ev.step (pc' := 1) (ls' := [some (.ref 633), some (.int k)]) (st' := [.ref 633]) (M1 := M) 1 (fun n => rfl) ?_
  refine Ev.step 1 (gs_3 rfl rfl (gf_g rfl hM v1)) ?_
  refine Ev.step (pc' := 5) (ls' := [some (.ref 633), some (.int k)]) (st' := [.int k, .ref 634]) (M1 := M) 1 (fun n => rfl) ?_
  refine Ev.step 1 (gs_3 rfl rfl (ba0_g r634 g1)) ?_
  refine Ev.step (pc' := 10) (ls' := [some (.ref 633), some (.int k)]) (st' := [.int (y1 &&& 255)]) (M1 := M) 2 (fun n => rfl) ?_
  exact Ev.ret (fun n => rfl)
theorem pr_0 {e : Nat} {M : Mem} {M' : Mem} {v : Option Value} {c : Int32}  (hz : Ev none (e + 1) 224 2 [some (.ref 633), some (.int c)] [.int c, .ref 633] M v M' 0 0) : Ev none (e + 1) 224 0 [some (.ref 633), some (.int c)] [] M v M' 0 0 := by
  refine Ev.step (pc' := 2) (ls' := [some (.ref 633), some (.int c)]) (st' := [.int c, .ref 633]) (M1 := M) 2 (fun n => rfl) ?_
  exact hz
theorem pr_5 {e : Nat} {M : Mem} {M' : Mem} {v : Option Value} {c z : Int32}  (hz : Ev none e 224 (if z = 0 then 13 else 8) [some (.ref 633), some (.int c)] [] M v M' 0 0) : Ev none e 224 5 [some (.ref 633), some (.int c)] [.int z] M v M' 0 0 := by
  refine Ev.step (pc' := (if z = 0 then 13 else 8)) (ls' := [some (.ref 633), some (.int c)]) (st' := []) (M1 := M) 1 (fun n => rfl) ?_
  exact hz
theorem pr_8 {e : Nat} {M : Mem} {c : Int32}  : Ev none e 224 8 [some (.ref 633), some (.int c)] [] M (some (.int 21)) M 0 0 := by
  refine Ev.step (pc' := 14) (ls' := [some (.ref 633), some (.int c)]) (st' := [.int 21]) (M1 := M) 2 (fun n => rfl) ?_
  exact Ev.ret (fun n => rfl)
theorem pr_13 {e : Nat} {M : Mem} {c : Int32}  : Ev none e 224 13 [some (.ref 633), some (.int c)] [] M (some (.int 1)) M 0 0 := by
  refine Ev.step (pc' := 14) (ls' := [some (.ref 633), some (.int c)]) (st' := [.int 1]) (M1 := M) 1 (fun n => rfl) ?_
  exact Ev.ret (fun n => rfl)
theorem ig_0 {e : Nat} {M : Mem} {M' : Mem} {v : Option Value} {c : Int32}  (hz : Ev none (e + 1) 149 3 [some (.ref 633), some (.int c)] [.int 0, .int c, .ref 633] M v M' 0 0) : Ev none (e + 1) 149 0 [some (.ref 633), some (.int c)] [] M v M' 0 0 := by
  refine Ev.step (pc' := 3) (ls' := [some (.ref 633), some (.int c)]) (st' := [.int 0, .int c, .ref 633]) (M1 := M) 3 (fun n => rfl) ?_
  exact hz
theorem ig_6 {e : Nat} {M : Mem} {M' : Mem} {v : Option Value} {c z : Int32}  (hz : Ev none e 149 (if z = 0 then 19 else 9) [some (.ref 633), some (.int c)] [] M v M' 0 0) : Ev none e 149 6 [some (.ref 633), some (.int c)] [.int z] M v M' 0 0 := by
  refine Ev.step (pc' := (if z = 0 then 19 else 9)) (ls' := [some (.ref 633), some (.int c)]) (st' := []) (M1 := M) 1 (fun n => rfl) ?_
  exact hz
theorem ig_9 {e : Nat} {M : Mem} {M' : Mem} {v : Option Value} {c : Int32}  (hz : Ev none (e + 1) 149 12 [some (.ref 633), some (.int c)] [.int 0, .int c, .ref 633] M v M' 0 0) : Ev none (e + 1) 149 9 [some (.ref 633), some (.int c)] [] M v M' 0 0 := by
  refine Ev.step (pc' := 12) (ls' := [some (.ref 633), some (.int c)]) (st' := [.int 0, .int c, .ref 633]) (M1 := M) 3 (fun n => rfl) ?_
  exact hz
theorem ig_15 {e : Nat} {M : Mem} {M' : Mem} {v : Option Value} {c z : Int32}  (hz : Ev none e 149 (if z = 2 then 19 else 23) [some (.ref 633), some (.int c)] [] M v M' 0 0) : Ev none e 149 15 [some (.ref 633), some (.int c)] [.int z] M v M' 0 0 := by
  refine Ev.step (pc' := (if z = 2 then 19 else 23)) (ls' := [some (.ref 633), some (.int c)]) (st' := []) (M1 := M) 2 (fun n => rfl) ?_
  exact hz
theorem ig_19 {e : Nat} {M : Mem} {c : Int32}  : Ev none e 149 19 [some (.ref 633), some (.int c)] [] M (some (.int 1)) M 0 0 := by
  refine Ev.step (pc' := 24) (ls' := [some (.ref 633), some (.int c)]) (st' := [.int 1]) (M1 := M) 2 (fun n => rfl) ?_
  exact Ev.ret (fun n => rfl)
theorem ig_23 {e : Nat} {M : Mem} {c : Int32}  : Ev none e 149 23 [some (.ref 633), some (.int c)] [] M (some (.int 0)) M 0 0 := by
  refine Ev.step (pc' := 24) (ls' := [some (.ref 633), some (.int c)]) (st' := [.int 0]) (M1 := M) 1 (fun n => rfl) ?_
  exact Ev.ret (fun n => rfl)
theorem of_0 {e : Nat} {M : Mem} {vs : List Value} {c k y1 : Int32} {l635 : List Int32} (hM : gNth M 633 = some (.inr (11, vs))) (v5 : gNth vs 5 = some (.ref 635)) (r635 : gNth M 635 = some (.inl (1, .inl l635))) (g1 : gAt l635 ((522 + (7 * c)) + k) = some y1) : Ev none e 146 0 [some (.ref 633), some (.int c), some (.int k)] [] M (some (.int y1)) M 0 0 := by
  refine Ev.step (pc' := 1) (ls' := [some (.ref 633), some (.int c), some (.int k)]) (st' := [.ref 633]) (M1 := M) 1 (fun n => rfl) ?_
  refine Ev.step 1 (gs_3 rfl rfl (gf_g rfl hM v5)) ?_
  refine Ev.step (pc' := 14) (ls' := [some (.ref 633), some (.int c), some (.int k)]) (st' := [.int ((522 + (7 * c)) + k), .ref 635]) (M1 := M) 7 (fun n => rfl) ?_
  refine Ev.step 1 (gs_3 rfl rfl (ia_g r635 g1)) ?_
  exact Ev.ret (fun n => rfl)
set_option maxRecDepth 100000 in
theorem rw_62 : rwB 62 0 440 (-128) 127 = true := by decide +kernel
set_option maxRecDepth 100000 in
theorem mf_62 : mfB 1 62 = true := by decide +kernel
set_option maxRecDepth 100000 in
theorem sU_62 : gNth sU 62 = some (some 634) := by decide +kernel
set_option maxRecDepth 100000 in
theorem sT_634 : gNth sT 634 = some 62 := by decide +kernel
theorem and_255 (x : Int32) : 0 ≤ (x &&& 255).toInt ∧ (x &&& 255).toInt ≤ 255 := by
  obtain ⟨m, hm, e2⟩ := and_le x (n := 255) (by decide)
  have e3 : nI 255 = 255 := rfl
  rw [e3] at e2
  rw [e2, nI_toInt (by omega)]
  omega
theorem cn_D {M : Mem} {id : Nat} (h : (Nat.beq id 205) = false) {M2 : Mem} : dlOK id M M2 := fun e => by
  rw [e] at h
  cases h
def kX11_octet : CN := (142, 0, [.inr 1900, .inl (.ofNat 0, .ofNat 439)], [], [], [], [(some (.inl (.ofNat 0, .ofNat 255)), [], [], [(62, [([(2, .ofNat 1)], .ofNat 0), ([(0, .ofNat 1)], .ofNat 0)])], [])])
set_option maxRecDepth 100000 in
theorem mR_142 : (gNth mRs 142).map (fun q => q.2.2.2.1) = some 2 := by decide +kernel
theorem kX11_octet_ok : cnOK sT sG FL0 kX11_octet := by
  intro d M ws q hd hq ha _ hT
  have hm := mR_142
  have hq' : gNth mRs 142 = some q := hq
  rw [hq'] at hm
  have hm : q.2.2.2.1 = 2 := Option.some.inj hm
  rcases ws with _ | ⟨a, _ | ⟨b, _ | ⟨b2, r⟩⟩⟩
  · exact ha.elim
  · exact ha.2.elim
  · obtain ⟨k1, ⟨k, rfl, c1, c2⟩, _⟩ := ha
    have k1 : a = .ref 633 := k1
    subst k1
    have c1 : 0 ≤ k.toInt := c1
    have c2 : k.toInt ≤ 439 := c2
    obtain ⟨vs, hM, hv⟩ := hT.mfld
    obtain ⟨l, h1, h2, _⟩ := hT.mrow sT_634 rw_62
    obtain ⟨kn, hkn⟩ : ∃ kn : Nat, k.toInt = (kn : Int) := ⟨k.toInt.toNat, by omega⟩
    obtain ⟨y, y1, y2⟩ := at_c (l := l) hkn (by omega)
    obtain ⟨r1, r2⟩ := and_255 y
    rw [hm]
    refine ⟨some (.int (y &&& 255)), M, oc_0 hM (hv _ _ _ mf_62 sU_62) h1 y1, hT, Frm.refl M, _, List.mem_cons_self .., ⟨⟨_, rfl, r1, r2⟩, fun q hq => (by cases hq), [], trivial, fun f hf => ?_, fun q hq => (by cases hq)⟩, cn_D rfl⟩
    cases List.mem_singleton.mp hf
    exact ⟨[(kn : Int), (y &&& 255).toInt], Two.mk ⟨1 * k.toInt + 0, rfl, by show (kn : Int) = 1 * k.toInt + 0 + 0; omega⟩ (Two.mk ⟨1 * (y &&& 255).toInt + 0, rfl, by show (y &&& 255).toInt = 1 * (y &&& 255).toInt + 0 + 0; omega⟩ trivial), (show FL0 62 _ M from ⟨0, l, y, kn, rfl, h1, y2⟩)⟩
  · exact ha.2.2.elim
/-- of, isGreen, price as values -/
theorem ev_of {M : Mem} {e : Nat} {vs : List Value} {l : List Int32} {c k y : Int32} (hM : gNth M 633 = some (.inr (11, vs))) (h5 : gNth vs 5 = some (.ref 635)) (hs : gNth M 635 = some (.inl (1, .inl l))) (hy : gAt l (522 + 7 * c + k) = some y) : Ev none e 146 0 [some (.ref 633), some (.int c), some (.int k)] [] M (some (.int y)) M 0 0 := of_0 hM h5 hs hy
theorem ev_green {M : Mem} {e : Nat} {vs : List Value} {l : List Int32} {c y : Int32} (hM : gNth M 633 = some (.inr (11, vs))) (h5 : gNth vs 5 = some (.ref 635)) (hs : gNth M 635 = some (.inl (1, .inl l))) (hy : gAt l (522 + 7 * c + 0) = some y) : Ev none (e + 1) 149 0 [some (.ref 633), some (.int c)] [] M (some (.int (if y = 0 then 1 else if y = 2 then 1 else 0))) M 0 0 := by
  refine ig_0 (Ev.call0 (fun n => gs_7 rfl rfl (cal_of hM rfl)) (ev_of hM h5 hs hy) (ig_6 ?_))
  by_cases h0 : y = 0
  · rw [if_pos h0, if_pos h0]
    exact ig_19
  · rw [if_neg h0, if_neg h0]
    refine ig_9 (Ev.call0 (fun n => gs_7 rfl rfl (cal_of hM rfl)) (ev_of hM h5 hs hy) (ig_15 ?_))
    by_cases h2 : y = 2
    · rw [if_pos h2, if_pos h2]
      exact ig_19
    · rw [if_neg h2, if_neg h2]
      exact ig_23
theorem ev_price {M : Mem} {e : Nat} {vs : List Value} {l : List Int32} {c y : Int32} (hM : gNth M 633 = some (.inr (11, vs))) (h5 : gNth vs 5 = some (.ref 635)) (hs : gNth M 635 = some (.inl (1, .inl l))) (hy : gAt l (522 + 7 * c + 0) = some y) : Ev none (e + 2) 224 0 [some (.ref 633), some (.int c)] [] M (some (.int (prI y))) M 0 0 := by
  refine pr_0 (e := e + 1) (Ev.call0 (fun n => gs_7 rfl rfl (cal_gr hM rfl)) (ev_green hM h5 hs hy) (pr_5 ?_))
  unfold prI
  by_cases h0 : y = 0
  · rw [if_pos h0, if_pos h0]
    exact pr_8
  · rw [if_neg h0, if_neg h0]
    by_cases h2 : y = 2
    · rw [if_pos h2, if_pos h2]
      exact pr_8
    · rw [if_neg h2, if_neg h2]
      exact pr_13
/-- a place of a cell in s -/
theorem i32_cell {c k : Int32} (h0 : 0 ≤ c.toInt) (h1 : c.toInt ≤ 255) (k0 : 0 ≤ k.toInt) (k1 : k.toInt ≤ 6) : (522 + 7 * c + k).toInt = 522 + 7 * c.toInt + k.toInt := by
  have o7 : (7 : Int32).toInt = 7 := rfl
  have o522 : (522 : Int32).toInt = 522 := rfl
  have d1 : (7 * c).toInt = 7 * c.toInt := by
    rw [i32_mul (by rw [o7]; omega) (by rw [o7]; omega), o7]
  have d2 : (522 + 7 * c).toInt = 522 + 7 * c.toInt := by
    rw [i32_add (by rw [o522]; omega) (by rw [o522]; omega), d1, o522]
  rw [i32_add (by rw [d2]; omega) (by rw [d2]; omega), d2]
theorem prI_in (y : Int32) : 1 ≤ (prI y).toInt ∧ (prI y).toInt ≤ 21 := by
  unfold prI
  split
  · decide
  · split <;> decide
def kX11_price : CN := (224, 2, [.inr 1900, .inl (.ofNat 0, .ofNat 255)], [], [], [], [(some (.inl (.ofNat 1, .ofNat 21)), [], [], [(66, [([(2, .ofNat 1)], .ofNat 0), ([(0, .ofNat 1)], .ofNat 0)])], [])])
set_option maxRecDepth 100000 in
theorem mR_224 : (gNth mRs 224).map (fun q => q.2.2.2.1) = some 2 := by decide +kernel
theorem kX11_price_ok : cnOK sT sG FL0 kX11_price := by
  intro d M ws q hd hq ha _ hT
  have hm := mR_224
  have hq' : gNth mRs 224 = some q := hq
  rw [hq'] at hm
  have hm : q.2.2.2.1 = 2 := Option.some.inj hm
  obtain ⟨e, rfl⟩ : ∃ e, d = e + 2 := ⟨d - 2, by have : 2 ≤ d := hd; omega⟩
  rcases ws with _ | ⟨a, _ | ⟨b, _ | ⟨b2, r⟩⟩⟩
  · exact ha.elim
  · exact ha.2.elim
  · obtain ⟨k1, ⟨c, rfl, c1, c2⟩, _⟩ := ha
    have k1 : a = .ref 633 := k1
    subst k1
    have c1 : 0 ≤ c.toInt := c1
    have c2 : c.toInt ≤ 255 := c2
    obtain ⟨vs, l, hM, h5, hs, sl⟩ := hT.s_all
    have e0 : (0 : Int32).toInt = 0 := rfl
    have ec := i32_cell (c := c) (k := 0) c1 c2 (by decide) (by decide)
    obtain ⟨kn, hkn⟩ : ∃ kn : Nat, (522 + 7 * c + 0 : Int32).toInt = (kn : Int) := ⟨(522 + 7 * c.toInt).toNat, by omega⟩
    obtain ⟨y, y1, y2⟩ := at_c (l := l) hkn (by omega)
    obtain ⟨r1, r2⟩ := prI_in y
    rw [hm]
    refine ⟨some (.int (prI y)), M, ev_price hM h5 hs y1, hT, Frm.refl M, _, List.mem_cons_self .., ⟨⟨_, rfl, r1, r2⟩, fun q hq => (by cases hq), [], trivial, fun f hf => ?_, fun q hq => (by cases hq)⟩, cn_D rfl⟩
    cases List.mem_singleton.mp hf
    exact ⟨[c.toInt, (prI y).toInt], Two.mk ⟨1 * c.toInt + 0, rfl, by show c.toInt = 1 * c.toInt + 0 + 0; omega⟩ (Two.mk ⟨1 * (prI y).toInt + 0, rfl, by show (prI y).toInt = 1 * (prI y).toInt + 0 + 0; omega⟩ trivial), (show FL0 66 _ M from ⟨1, l, y, c, rfl, hs, y1⟩)⟩
  · exact ha.2.2.elim
