/-! BY HAND: the reference's leave(k) -/
section G74
variable {M : Mem} {vs : List Value} {l : List Int32}
theorem gf_g {ix k : Nat} {st : List Value} {ini : Bool} {v : Value} {ty : Nat} (ho : gOwn fRs 11 ix = some (11, k, ty)) (hM : gNth M 633 = some (.inr (11, vs))) (hv : gNth vs k = some v) : gGet (.getfield ix) none 11 ini (.ref 633 :: st) M = some (v :: st, M) := by
  show (match gOwn fRs 11 ix, gNth M 633 with
    | some (ci, k, _), some (.inr (c, fs)) => match Nat.beq c ci, gNth fs k with
      | true, some v => some (v :: st, M)
      | _, _ => none
    | _, _ => none) = _
  rw [ho, hM]
  show (match Nat.beq 11 11, gNth vs k with
    | true, some v => some (v :: st, M)
    | _, _ => none) = _
  rw [hv]
theorem is_g {a : Nat} {st : List Value} {ini : Bool} {j x z : Int32} (hs : gNth M a = some (.inl (1, .inl l))) (h0 : gAt l j = some x) : gGet .iastore none 11 ini (.int z :: .int j :: .ref a :: st) M = some (st, gPut M a (.inl (1, .inl (gPut l j.toNatClampNeg z)))) := by
  show (match gNth M a with
    | some (.inl (1, .inl l)) => match gAt l j with
      | some _ => some (st, gPut M a (.inl (1, .inl (gPut l j.toNatClampNeg z))))
      | none => none
    | _ => none) = _
  rw [hs]
  show (match gAt l j with
      | some _ => some (st, gPut M a (.inl (1, .inl (gPut l j.toNatClampNeg z))))
      | none => none) = _
  rw [h0]
end G74
theorem lv_0 {e : Nat} {M : Mem} {M' : Mem} {v : Option Value} {vs : List Value} {k y1 : Int32} {l635 : List Int32} (hM : gNth M 633 = some (.inr (11, vs))) (v5 : gNth vs 5 = some (.ref 635)) (r635 : gNth M 635 = some (.inl (1, .inl l635))) (g1 : gAt l635 157 = some y1) (hz : Ev none e 205 21 [some (.ref 633), some (.int k), some (.int (158 + (6 * k)))] [] (gPut M 635 (.inl (1, .inl (gPut l635 (157 : Int32).toNatClampNeg (y1 - 1))))) v M' 0 0) : Ev none e 205 0 [some (.ref 633), some (.int k), none] [] M v M' 0 0 := by
  refine Ev.step (pc' := 1) (ls' := [some (.ref 633), some (.int k), none]) (st' := [.ref 633]) (M1 := M) 1 (fun n => rfl) ?_
  refine Ev.step 1 (gs_3 rfl rfl (gf_g rfl hM v5)) ?_
  refine Ev.step (pc' := 8) (ls' := [some (.ref 633), some (.int k), none]) (st' := [.int 157, .ref 635, .int 157, .ref 635]) (M1 := M) 2 (fun n => rfl) ?_
  refine Ev.step 1 (gs_3 rfl rfl (ia_g r635 g1)) ?_
  refine Ev.step (pc' := 11) (ls' := [some (.ref 633), some (.int k), none]) (st' := [.int (y1 - 1), .int 157, .ref 635]) (M1 := M) 2 (fun n => rfl) ?_
  refine Ev.step 1 (gs_4 rfl rfl (is_g r635 g1)) ?_
  refine Ev.step (pc' := 21) (ls' := [some (.ref 633), some (.int k), some (.int (158 + (6 * k)))]) (st' := []) (M1 := (gPut M 635 (.inl (1, .inl (gPut l635 (157 : Int32).toNatClampNeg (y1 - 1)))))) 6 (fun n => rfl) ?_
  exact hz
theorem lv_21 {e : Nat} {M : Mem} {M' : Mem} {v : Option Value} {vs : List Value} {i k y1 : Int32} {l635 : List Int32} (hM : gNth M 633 = some (.inr (11, vs))) (v5 : gNth vs 5 = some (.ref 635)) (r635 : gNth M 635 = some (.inl (1, .inl l635))) (g1 : gAt l635 157 = some y1) (hz : Ev none e 205 (if (158 + (6 * y1)) ≤ i then 61 else 40) [some (.ref 633), some (.int k), some (.int i)] [] M v M' 0 0) : Ev none e 205 21 [some (.ref 633), some (.int k), some (.int i)] [] M v M' 0 0 := by
  refine Ev.step (pc' := 28) (ls' := [some (.ref 633), some (.int k), some (.int i)]) (st' := [.ref 633, .int 6, .int 158, .int i]) (M1 := M) 4 (fun n => rfl) ?_
  refine Ev.step 1 (gs_3 rfl rfl (gf_g rfl hM v5)) ?_
  refine Ev.step (pc' := 34) (ls' := [some (.ref 633), some (.int k), some (.int i)]) (st' := [.int 157, .ref 635, .int 6, .int 158, .int i]) (M1 := M) 1 (fun n => rfl) ?_
  refine Ev.step 1 (gs_3 rfl rfl (ia_g r635 g1)) ?_
  refine Ev.step (pc' := (if (158 + (6 * y1)) ≤ i then 61 else 40)) (ls' := [some (.ref 633), some (.int k), some (.int i)]) (st' := []) (M1 := M) 3 (fun n => rfl) ?_
  exact hz
theorem lv_40 {e : Nat} {M : Mem} {M' : Mem} {v : Option Value} {vs : List Value} {i k y1 y2 : Int32} {l635 : List Int32} (hM : gNth M 633 = some (.inr (11, vs))) (v5 : gNth vs 5 = some (.ref 635)) (r635 : gNth M 635 = some (.inl (1, .inl l635))) (g1 : gAt l635 (i + 6) = some y1) (g2 : gAt l635 i = some y2) (hz : Ev none e 205 21 [some (.ref 633), some (.int k), some (.int (i + 1))] [] (gPut M 635 (.inl (1, .inl (gPut l635 i.toNatClampNeg y1)))) v M' 0 0) : Ev none e 205 40 [some (.ref 633), some (.int k), some (.int i)] [] M v M' 0 0 := by
  refine Ev.step (pc' := 41) (ls' := [some (.ref 633), some (.int k), some (.int i)]) (st' := [.ref 633]) (M1 := M) 1 (fun n => rfl) ?_
  refine Ev.step 1 (gs_3 rfl rfl (gf_g rfl hM v5)) ?_
  refine Ev.step (pc' := 46) (ls' := [some (.ref 633), some (.int k), some (.int i)]) (st' := [.ref 633, .int i, .ref 635]) (M1 := M) 2 (fun n => rfl) ?_
  refine Ev.step 1 (gs_3 rfl rfl (gf_g rfl hM v5)) ?_
  refine Ev.step (pc' := 53) (ls' := [some (.ref 633), some (.int k), some (.int i)]) (st' := [.int (i + 6), .ref 635, .int i, .ref 635]) (M1 := M) 3 (fun n => rfl) ?_
  refine Ev.step 1 (gs_3 rfl rfl (ia_g r635 g1)) ?_
  refine Ev.step 1 (gs_4 rfl rfl (is_g r635 g2)) ?_
  refine Ev.step (pc' := 21) (ls' := [some (.ref 633), some (.int k), some (.int (i + 1))]) (st' := []) (M1 := (gPut M 635 (.inl (1, .inl (gPut l635 i.toNatClampNeg y1))))) 2 (fun n => rfl) ?_
  exact hz
theorem lv_61 {e : Nat} {M : Mem} {M' : Mem} {v : Option Value} {vs : List Value} {i k y1 : Int32} {l635 : List Int32} (hM : gNth M 633 = some (.inr (11, vs))) (v5 : gNth vs 5 = some (.ref 635)) (r635 : gNth M 635 = some (.inl (1, .inl l635))) (g1 : gAt l635 157 = some y1) (hz : Ev none e 205 77 [some (.ref 633), some (.int k), some (.int (158 + (6 * y1)))] [] M v M' 0 0) : Ev none e 205 61 [some (.ref 633), some (.int k), some (.int i)] [] M v M' 0 0 := by
  refine Ev.step (pc' := 67) (ls' := [some (.ref 633), some (.int k), some (.int i)]) (st' := [.ref 633, .int 6, .int 158]) (M1 := M) 3 (fun n => rfl) ?_
  refine Ev.step 1 (gs_3 rfl rfl (gf_g rfl hM v5)) ?_
  refine Ev.step (pc' := 73) (ls' := [some (.ref 633), some (.int k), some (.int i)]) (st' := [.int 157, .ref 635, .int 6, .int 158]) (M1 := M) 1 (fun n => rfl) ?_
  refine Ev.step 1 (gs_3 rfl rfl (ia_g r635 g1)) ?_
  refine Ev.step (pc' := 77) (ls' := [some (.ref 633), some (.int k), some (.int (158 + (6 * y1)))]) (st' := []) (M1 := M) 3 (fun n => rfl) ?_
  exact hz
theorem lv_77 {e : Nat} {M : Mem} {M' : Mem} {v : Option Value} {vs : List Value} {i k y1 : Int32} {l635 : List Int32} (hM : gNth M 633 = some (.inr (11, vs))) (v5 : gNth vs 5 = some (.ref 635)) (r635 : gNth M 635 = some (.inl (1, .inl l635))) (g1 : gAt l635 157 = some y1) (hz : Ev none e 205 (if ((158 + (6 * y1)) + 6) ≤ i then 112 else 99) [some (.ref 633), some (.int k), some (.int i)] [] M v M' 0 0) : Ev none e 205 77 [some (.ref 633), some (.int k), some (.int i)] [] M v M' 0 0 := by
  refine Ev.step (pc' := 84) (ls' := [some (.ref 633), some (.int k), some (.int i)]) (st' := [.ref 633, .int 6, .int 158, .int i]) (M1 := M) 4 (fun n => rfl) ?_
  refine Ev.step 1 (gs_3 rfl rfl (gf_g rfl hM v5)) ?_
  refine Ev.step (pc' := 90) (ls' := [some (.ref 633), some (.int k), some (.int i)]) (st' := [.int 157, .ref 635, .int 6, .int 158, .int i]) (M1 := M) 1 (fun n => rfl) ?_
  refine Ev.step 1 (gs_3 rfl rfl (ia_g r635 g1)) ?_
  refine Ev.step (pc' := (if ((158 + (6 * y1)) + 6) ≤ i then 112 else 99)) (ls' := [some (.ref 633), some (.int k), some (.int i)]) (st' := []) (M1 := M) 5 (fun n => rfl) ?_
  exact hz
theorem lv_99 {e : Nat} {M : Mem} {M' : Mem} {v : Option Value} {vs : List Value} {i k y1 : Int32} {l635 : List Int32} (hM : gNth M 633 = some (.inr (11, vs))) (v5 : gNth vs 5 = some (.ref 635)) (r635 : gNth M 635 = some (.inl (1, .inl l635))) (g1 : gAt l635 i = some y1) (hz : Ev none e 205 77 [some (.ref 633), some (.int k), some (.int (i + 1))] [] (gPut M 635 (.inl (1, .inl (gPut l635 i.toNatClampNeg 0)))) v M' 0 0) : Ev none e 205 99 [some (.ref 633), some (.int k), some (.int i)] [] M v M' 0 0 := by
  refine Ev.step (pc' := 100) (ls' := [some (.ref 633), some (.int k), some (.int i)]) (st' := [.ref 633]) (M1 := M) 1 (fun n => rfl) ?_
  refine Ev.step 1 (gs_3 rfl rfl (gf_g rfl hM v5)) ?_
  refine Ev.step (pc' := 105) (ls' := [some (.ref 633), some (.int k), some (.int i)]) (st' := [.int 0, .int i, .ref 635]) (M1 := M) 2 (fun n => rfl) ?_
  refine Ev.step 1 (gs_4 rfl rfl (is_g r635 g1)) ?_
  refine Ev.step (pc' := 77) (ls' := [some (.ref 633), some (.int k), some (.int (i + 1))]) (st' := []) (M1 := (gPut M 635 (.inl (1, .inl (gPut l635 i.toNatClampNeg 0))))) 2 (fun n => rfl) ?_
  exact hz
theorem lv_112 {e : Nat} {M : Mem} {i k : Int32}  : Ev none e 205 112 [some (.ref 633), some (.int k), some (.int i)] [] M none M 0 0 := by
  exact Ev.ret (fun n => rfl)
set_option maxRecDepth 100000 in
theorem rw_63 : rwB 63 1 2314 (-2147483648) 2147483647 = true := by decide +kernel
set_option maxRecDepth 100000 in
theorem mf_63 : mfB 5 63 = true := by decide +kernel
noncomputable def sB (i : Nat) (lo hi : Int) : Bool := match gNth sG 63 with
  | some (.inr (1, 2314, .inl sg)) => (match sgAt sg i with
    | some p => decide (p.1 = lo) && decide (p.2 = hi)
    | _ => false)
  | _ => false
theorem sB_inv {i : Nat} {lo hi : Int} (h : sB i lo hi = true) : ∃ sg p, gNth sG 63 = some (.inr (1, 2314, .inl sg)) ∧ sgAt sg i = some p ∧ p.1 = lo ∧ p.2 = hi := by
  unfold sB at h
  split at h
  · rename_i sg e
    cases e2 : sgAt sg i with
    | none => rw [e2] at h; cases h
    | some p =>
      rw [e2] at h
      obtain ⟨h1, h2⟩ := and_t h
      exact ⟨sg, p, e, e2, of_decide_eq_true h1, of_decide_eq_true h2⟩
  · cases h
/-- the range of a place of s -/
theorem TM.s_in {M : Mem} (hT : TM sT sG M) {l : List Int32} (hM : gNth M 635 = some (.inl (1, .inl l))) {i : Nat} {lo hi : Int} {y : Int32} (hB : sB i lo hi = true) (hy : gNth l i = some y) : lo ≤ y.toInt ∧ y.toInt ≤ hi := by
  obtain ⟨sg, p, e, e4, rfl, rfl⟩ := sB_inv hB
  obtain ⟨e1, e2, e3⟩ := hT.at sT_635 e
  rw [hM] at e2
  cases e2
  obtain ⟨l', e5, l1, l2⟩ := ct_int (by decide) e3
  cases e5
  obtain ⟨q, q1, q2, q3⟩ := l2 _ _ hy
  rw [e4] at q1
  cases q1
  exact ⟨q2, q3⟩
theorem TM.s_1 {M : Mem} (hT : TM sT sG M) {l : List Int32} (hM : gNth M 635 = some (.inl (1, .inl l))) {i : Nat} {lo hi : Int} {y : Int32} (hB : sB i lo hi = true) (h1 : lo ≤ y.toInt) (h2 : y.toInt ≤ hi) : TM sT sG (gPut M 635 (.inl (1, .inl (gPut l i y)))) := by
  obtain ⟨sg, p, e, e4, rfl, rfl⟩ := sB_inv hB
  obtain ⟨e1, e2, e3⟩ := hT.at sT_635 e
  rw [hM] at e2
  cases e2
  obtain ⟨l', e5, l1, l2⟩ := ct_int (by decide) e3
  cases e5
  refine hT.put (fun g2 t w1 w2 => ?_)
  rw [sT_635] at w1
  cases w1
  rw [e] at w2
  cases w2
  refine ct_mk (by decide) (by rw [put_len]; exact l1) (fun j x hj => ?_)
  rw [nth_put] at hj
  split at hj
  · rename_i hc
    cases hj
    obtain ⟨rfl, _⟩ := hc
    exact ⟨p, e4, h1, h2⟩
  · exact l2 j x hj
theorem TM.s_all {M : Mem} (hT : TM sT sG M) : ∃ vs l, gNth M 633 = some (.inr (11, vs)) ∧ gNth vs 5 = some (.ref 635) ∧ gNth M 635 = some (.inl (1, .inl l)) ∧ l.length = 2314 := by
  obtain ⟨vs, hM, hv⟩ := hT.mfld
  obtain ⟨l, h1, h2, _⟩ := hT.mrow sT_635 rw_63
  exact ⟨vs, l, hM, hv _ _ _ mf_63 sU_63, h1, h2⟩
/-- a place of a row -/
theorem at_c {α : Type} {l : List α} {j : Int32} {kn : Nat} (h : j.toInt = (kn : Int)) (hl : kn < l.length) : ∃ y, gAt l j = some y ∧ gNth l kn = some y := by
  refine ⟨l[kn], ?_, ?_⟩
  · rw [at_nn h, nth_eq, List.getElem?_eq_getElem hl]
  · rw [nth_eq, List.getElem?_eq_getElem hl]
theorem cl_n {j : Int32} {kn : Nat} (h : j.toInt = (kn : Int)) : j.toNatClampNeg = kn := by
  obtain ⟨_, h2⟩ := clp_of (x := j) (a := 0) (b := j.toInt) ⟨by omega, Int.le_refl _⟩ (Int.le_refl _)
  omega
/-- what stands of s while someone leaves -/
def LvS (w : Int32) (M0 M : Mem) : Prop := TM sT sG M ∧ Frm sT [(1063, 0)] M0 M ∧ ∃ l, gNth M 635 = some (.inl (1, .inl l)) ∧ gNth l 157 = some w ∧ evS l ∧ dsS l
theorem LvS.put {w : Int32} {M0 M : Mem} {l : List Int32} (h : LvS w M0 M) (hM : gNth M 635 = some (.inl (1, .inl l))) {i : Nat} {y : Int32} (h1 : 158 ≤ i) (h2 : (i < 512 ∧ gNth l (i + 6) = some y) ∨ (i < 518 ∧ y = 0)) : LvS w M0 (gPut M 635 (.inl (1, .inl (gPut l i y)))) := by
  obtain ⟨hT, hF, l2, e1, e2, e3, e4⟩ := h
  cases e1.symm.trans hM
  refine ⟨hT.s_put hM h1 h2, hF.trans (Frm.row hM sT_635 (List.mem_singleton.mpr rfl)), _, by rw [nth_put, if_pos ⟨rfl, gNth_lt _ _ _ hM⟩], ?_, e3.put (Or.inr (Or.inl (by omega))), e4.put (by omega)⟩
  rw [nth_put, if_neg (fun q => absurd q.1 (by omega))]
  exact e2
theorem i32_e (w : Int32) (h0 : 0 ≤ w.toInt) (h1 : w.toInt ≤ 60) : (158 + 6 * w).toInt = 158 + 6 * w.toInt ∧ (158 + 6 * w + 6).toInt = 164 + 6 * w.toInt := by
  have o6 : (6 : Int32).toInt = 6 := rfl
  have o158 : (158 : Int32).toInt = 158 := rfl
  have d1 : (6 * w).toInt = 6 * w.toInt := by
    rw [i32_mul (by rw [o6]; omega) (by rw [o6]; omega), o6]
  have d2 : (158 + 6 * w).toInt = 158 + 6 * w.toInt := by
    rw [i32_add (by rw [o158]; omega) (by rw [o158]; omega), d1, o158]
  refine ⟨d2, ?_⟩
  rw [i32_add (by rw [d2, o6]; omega) (by rw [d2, o6]; omega), d2, o6]
  omega
theorem lv_loop2 {w k : Int32} {M0 : Mem} {e : Nat} (w0 : 0 ≤ w.toInt) (w1 : w.toInt ≤ 59) : ∀ (n inn : Nat) (M : Mem) (i : Int32), LvS w M0 M → i.toInt = (inn : Int) → 158 ≤ inn → (inn : Int) + n = 164 + 6 * w.toInt → ∃ MF, Ev none e 205 77 [some (.ref 633), some (.int k), some (.int i)] [] M none MF 0 0 ∧ LvS w M0 MF := by
  intro n
  obtain ⟨E1, E2⟩ := i32_e w w0 (by omega)
  induction n with
  | zero =>
    intro inn M i hL hi h1 hn
    obtain ⟨vs, l, hM, h5, hs, sl⟩ := hL.1.s_all
    obtain ⟨_, _, l2, e1, e2, e3⟩ := id hL
    cases e1.symm.trans hs
    have g157 : gAt l 157 = some w := by rw [at_nn (kn := 157) rfl]; exact e2
    refine ⟨M, lv_77 hM h5 hs g157 ?_, hL⟩
    rw [if_pos (by rw [Int32.le_iff_toInt_le, E2]; omega)]
    exact lv_112
  | succ n ih =>
    intro inn M i hL hi h1 hn
    obtain ⟨vs, l, hM, h5, hs, sl⟩ := hL.1.s_all
    obtain ⟨_, _, l2, e1, e2, e3⟩ := id hL
    cases e1.symm.trans hs
    have g157 : gAt l 157 = some w := by rw [at_nn (kn := 157) rfl]; exact e2
    obtain ⟨y, y1, y2⟩ := at_c (l := l) hi (by omega)
    have hp := hL.put hs (i := inn) (y := 0) h1 (Or.inr ⟨by omega, rfl⟩)
    have e4 : (i + 1).toInt = i.toInt + 1 := i32_p1 (by omega)
    obtain ⟨MF, q1, q2⟩ := ih (inn + 1) _ (i + 1) hp (by omega) (by omega) (by omega)
    refine ⟨MF, lv_77 hM h5 hs g157 ?_, q2⟩
    rw [if_neg (by rw [Int32.le_iff_toInt_le, E2]; omega)]
    refine lv_99 hM h5 hs y1 ?_
    rw [cl_n hi]
    exact q1
theorem lv_loop1 {w k : Int32} {M0 : Mem} {e : Nat} (w0 : 0 ≤ w.toInt) (w1 : w.toInt ≤ 59) : ∀ (n inn : Nat) (M : Mem) (i : Int32), LvS w M0 M → i.toInt = (inn : Int) → 158 ≤ inn → 158 + 6 * w.toInt ≤ (inn : Int) + n → ∃ MF, Ev none e 205 21 [some (.ref 633), some (.int k), some (.int i)] [] M none MF 0 0 ∧ LvS w M0 MF := by
  intro n
  obtain ⟨E1, E2⟩ := i32_e w w0 (by omega)
  have fin : ∀ (M : Mem) (i : Int32), LvS w M0 M → (158 + 6 * w ≤ i) → ∃ MF, Ev none e 205 21 [some (.ref 633), some (.int k), some (.int i)] [] M none MF 0 0 ∧ LvS w M0 MF := by
    intro M i hL hle
    obtain ⟨vs, l, hM, h5, hs, sl⟩ := hL.1.s_all
    obtain ⟨_, _, l2, e1, e2, e3⟩ := id hL
    cases e1.symm.trans hs
    have g157 : gAt l 157 = some w := by rw [at_nn (kn := 157) rfl]; exact e2
    obtain ⟨MF, q1, q2⟩ := lv_loop2 (w := w) (k := k) (M0 := M0) (e := e) w0 w1 6 (158 + 6 * w.toInt).toNat M (158 + 6 * w) hL (by omega) (by omega) (by omega)
    refine ⟨MF, lv_21 hM h5 hs g157 ?_, q2⟩
    rw [if_pos hle]
    exact lv_61 hM h5 hs g157 q1
  induction n with
  | zero =>
    intro inn M i hL hi h1 hn
    exact fin M i hL (by rw [Int32.le_iff_toInt_le, E1]; omega)
  | succ n ih =>
    intro inn M i hL hi h1 hn
    by_cases hle : 158 + 6 * w ≤ i
    · exact fin M i hL hle
    have hlt : i.toInt < 158 + 6 * w.toInt := by
      rw [Int32.le_iff_toInt_le, E1] at hle
      omega
    obtain ⟨vs, l, hM, h5, hs, sl⟩ := hL.1.s_all
    obtain ⟨_, _, l2, e1, e2, e3⟩ := id hL
    cases e1.symm.trans hs
    have g157 : gAt l 157 = some w := by rw [at_nn (kn := 157) rfl]; exact e2
    obtain ⟨y, y1, y2⟩ := at_c (l := l) hi (by omega)
    have o6 : (6 : Int32).toInt = 6 := rfl
    have e6 : (i + 6).toInt = ((inn + 6 : Nat) : Int) := by
      rw [i32_add (by rw [o6]; omega) (by rw [o6]; omega), o6]
      omega
    obtain ⟨z, z1, z2⟩ := at_c (l := l) e6 (by omega)
    have hp := hL.put hs (i := inn) (y := z) h1 (Or.inl ⟨by omega, z2⟩)
    have e4 : (i + 1).toInt = i.toInt + 1 := i32_p1 (by omega)
    obtain ⟨MF, q1, q2⟩ := ih (inn + 1) _ (i + 1) hp (by omega) (by omega) (by omega)
    refine ⟨MF, lv_21 hM h5 hs g157 ?_, q2⟩
    rw [if_neg hle]
    refine lv_40 hM h5 hs z1 y1 ?_
    rw [cl_n hi]
    exact q1
def kX11_leave : CN := (205, 0, [.inr 1900, .inl (.ofNat 0, .ofNat 59)], [], [(26, []), (28, [])], [(1063, 0)], [(none, [], [], [(28, [])], [])])
set_option maxRecDepth 100000 in
theorem mR_205 : (gNth mRs 205).map (fun q => q.2.2.2.1) = some 3 := by decide +kernel
set_option maxRecDepth 100000 in
theorem sB_157 : sB 157 0 60 = true := by decide +kernel
theorem kX11_leave_ok : cnOK sT sG FL0 kX11_leave := by
  intro d M ws q hd hq ha hp hT
  have hm := mR_205
  have hq' : gNth mRs 205 = some q := hq
  rw [hq'] at hm
  have hm : q.2.2.2.1 = 3 := Option.some.inj hm
  rcases ws with _ | ⟨a, _ | ⟨b, _ | ⟨b2, r⟩⟩⟩
  · exact ha.elim
  · exact ha.2.elim
  · obtain ⟨k1, ⟨k, rfl, c1, c2⟩, _⟩ := ha
    have k1 : a = .ref 633 := k1
    subst k1
    have c1 : 0 ≤ k.toInt := c1
    have c2 : k.toInt ≤ 59 := c2
    obtain ⟨hv, hv0, hfl⟩ := hp
    obtain ⟨y26, z26, h26⟩ := hfl (26, []) (List.mem_cons_self ..)
    obtain ⟨y28, z28, h28⟩ := hfl (28, []) (List.mem_cons_of_mem _ (List.mem_cons_self ..))
    obtain ⟨t, l, W, q1, q2, q3⟩ := fl0_26 h26
    obtain ⟨t2, l2, p1, p2, p3⟩ := fl0_28 h28
    obtain ⟨vs, l3, hM, h5, hs, sl⟩ := hT.s_all
    have el : l3 = l := by cases hs.symm.trans q1; rfl
    have el2 : l2 = l := by cases p1.symm.trans q1; rfl
    subst el
    subst el2
    obtain ⟨w1, w2⟩ := hT.s_in hs sB_157 q2
    have g157 : gAt l2 157 = some W := by rw [at_nn (kn := 157) rfl]; exact q2
    obtain ⟨w, ew⟩ : ∃ w, w = W - 1 := ⟨_, rfl⟩
    have dw : w.toInt = W.toInt - 1 := by rw [ew]; exact i32_m1 (by omega)
    have hlt := gNth_lt _ _ _ hs
    have hL : LvS w M (gPut M 635 (.inl (1, .inl (gPut l2 157 w)))) := by
      refine ⟨hT.s_1 hs sB_157 (by omega) (by omega), Frm.row hs sT_635 (List.mem_singleton.mpr rfl), _, by rw [nth_put, if_pos ⟨rfl, hlt⟩], ?_, p2.put (Or.inr (Or.inl (by omega))), p3.put (by omega)⟩
      rw [nth_put, if_pos ⟨rfl, by omega⟩]
    obtain ⟨E1, E2⟩ := i32_e k c1 (by omega)
    obtain ⟨MF, r1, r2, r3, l4, r4, r5, r6⟩ := lv_loop1 (w := w) (k := k) (M0 := M) (e := d) (by omega) (by omega) 518 (158 + 6 * k.toInt).toNat _ (158 + 6 * k) hL (by omega) (by omega) (by omega)
    rw [hm]
    refine ⟨none, MF, lv_0 hM h5 hs g157 (by rw [← ew, cl_n (kn := 157) rfl]; exact r1), r2, r3, _, List.mem_cons_self .., ⟨trivial, fun q hq => (by cases hq), [], trivial, fun f hf => ?_, fun q hq => (by cases hq)⟩, fun _ t5 l5 x5 s1 s2 => ?_⟩
    · cases List.mem_singleton.mp hf
      exact ⟨[], trivial, (show FL0 28 [] MF from ⟨1, l4, r4, r6⟩)⟩
    · cases hs.symm.trans s1
      cases q2.symm.trans s2
      exact ⟨l4, w, r4, r5, dw⟩
  · exact ha.2.2.elim
