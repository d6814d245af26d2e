/-! WHAT BOTH SIDES HOLD ALIKE: the tapes, the kept images -/
section BZ
variable {M : Mem} {l : List Int32} {a o : Nat} {st : List Value} {ini : Bool} {j x z : Int32}
theorem b0_c (hs : gNth M a = some (.inl (0, .inl l))) (h0 : gAt l j = some x) : gGet .baload none o ini (.int j :: .ref a :: st) M = some (.int x :: st, M) := by
  show (match gNth M a with
    | some (.inl (0, .inl l)) => match gAt l j with
      | some x => some (Value.int x :: st, M)
      | none => none
    | some (.inl (3, .inl l)) => match gAt l j with
      | some x => some (Value.int x :: st, M)
      | none => none
    | _ => none) = _
  rw [hs]
  show (match gAt l j with
      | some x => some (Value.int x :: st, M)
      | none => none) = _
  rw [h0]
theorem bz_c (hs : gNth M a = some (.inl (3, .inl l))) (h0 : gAt l j = some x) : gGet .baload none o ini (.int j :: .ref a :: st) M = some (.int x :: st, M) := by
  show (match gNth M a with
    | some (.inl (0, .inl l)) => match gAt l j with
      | some x => some (Value.int x :: st, M)
      | none => none
    | some (.inl (3, .inl l)) => match gAt l j with
      | some x => some (Value.int x :: st, M)
      | none => none
    | _ => none) = _
  rw [hs]
  show (match gAt l j with
      | some x => some (Value.int x :: st, M)
      | none => none) = _
  rw [h0]
theorem bs0_c (hs : gNth M a = some (.inl (0, .inl l))) (h0 : gAt l j = some x) : gGet .bastore none o ini (.int z :: .int j :: .ref a :: st) M = some (st, gPut M a (.inl (0, .inl (gPut l j.toNatClampNeg (vp_nar .byte z))))) := by
  show (match gNth M a with
    | some (.inl (0, .inl l)) => match gAt l j with
      | some _ => some (st, gPut M a (.inl (0, .inl (gPut l j.toNatClampNeg (vp_nar .byte z)))))
      | none => none
    | some (.inl (3, .inl l)) => match gAt l j with
      | some _ => some (st, gPut M a (.inl (3, .inl (gPut l j.toNatClampNeg (vp_nar .boolean z)))))
      | none => none
    | _ => none) = _
  rw [hs]
  show (match gAt l j with
      | some _ => some (st, gPut M a (.inl (0, .inl (gPut l j.toNatClampNeg (vp_nar .byte z)))))
      | none => none) = _
  rw [h0]
theorem bsz_c (hs : gNth M a = some (.inl (3, .inl l))) (h0 : gAt l j = some x) : gGet .bastore none o ini (.int z :: .int j :: .ref a :: st) M = some (st, gPut M a (.inl (3, .inl (gPut l j.toNatClampNeg (vp_nar .boolean z))))) := by
  show (match gNth M a with
    | some (.inl (0, .inl l)) => match gAt l j with
      | some _ => some (st, gPut M a (.inl (0, .inl (gPut l j.toNatClampNeg (vp_nar .byte z)))))
      | none => none
    | some (.inl (3, .inl l)) => match gAt l j with
      | some _ => some (st, gPut M a (.inl (3, .inl (gPut l j.toNatClampNeg (vp_nar .boolean z)))))
      | none => none
    | _ => none) = _
  rw [hs]
  show (match gAt l j with
      | some _ => some (st, gPut M a (.inl (3, .inl (gPut l j.toNatClampNeg (vp_nar .boolean z)))))
      | none => none) = _
  rw [h0]
end BZ
theorem ec_0 {e : Nat} {M : Mem} {M' : Mem} {v : Option Value} {x : Int32} {p : Nat}  (hz : Ev none e 81 (if x < 0 then 15 else 4) [some (.ref p), some (.int x)] [] M v M' 0 0) : Ev none e 81 0 [some (.ref p), some (.int x)] [] M v M' 0 0 := by
  refine Ev.step (pc' := (if x < 0 then 15 else 4)) (ls' := [some (.ref p), some (.int x)]) (st' := []) (M1 := M) 2 (fun n => rfl) ?_
  exact hz
theorem ec_4 {e : Nat} {M : Mem} {M' : Mem} {v : Option Value} {va2 vp : List Value} {x y4 : Int32} {a2 p : Nat} (hp : gNth M p = some (.inr (10, vp))) (f1 : gNth vp 0 = some (.ref a2)) (ha2 : gNth M a2 = some (.inr (5, va2))) (f3 : gNth va2 1 = some (.int y4)) (hz : Ev none e 81 (if x ≤ y4 then 17 else 15) [some (.ref p), some (.int x)] [] M v M' 0 0) : Ev none e 81 4 [some (.ref p), some (.int x)] [] M v M' 0 0 := by
  refine Ev.step (pc' := 6) (ls' := [some (.ref p), some (.int x)]) (st' := [.ref p, .int x]) (M1 := M) 2 (fun n => rfl) ?_
  refine Ev.step 1 (gs_3 rfl rfl (gf_c rfl hp f1)) ?_
  refine Ev.step 1 (gs_3 rfl rfl (gf_c rfl ha2 f3)) ?_
  refine Ev.step (pc' := (if x ≤ y4 then 17 else 15)) (ls' := [some (.ref p), some (.int x)]) (st' := []) (M1 := M) 1 (fun n => rfl) ?_
  exact hz
theorem ec_15 {e : Nat} {M : Mem} {x : Int32} {p : Nat}  : Ev none e 81 15 [some (.ref p), some (.int x)] [] M (some (.int 0)) M 0 0 := by
  refine Ev.step (pc' := 16) (ls' := [some (.ref p), some (.int x)]) (st' := [.int 0]) (M1 := M) 1 (fun n => rfl) ?_
  exact Ev.ret (fun n => rfl)
theorem ec_17 {e : Nat} {M : Mem} {va2 vp : List Value} {x : Int32} {a2 p : Nat} (hp : gNth M p = some (.inr (10, vp))) (f1 : gNth vp 0 = some (.ref a2)) (ha2 : gNth M a2 = some (.inr (5, va2))) (hla2 : 1 < va2.length) : Ev none e 81 17 [some (.ref p), some (.int x)] [] M (some (.int 1)) (gPut M a2 (.inr (5, gPut va2 1 (.int x)))) 0 0 := by
  refine Ev.step (pc' := 18) (ls' := [some (.ref p), some (.int x)]) (st' := [.ref p]) (M1 := M) 1 (fun n => rfl) ?_
  refine Ev.step 1 (gs_3 rfl rfl (gf_c rfl hp f1)) ?_
  refine Ev.step (pc' := 22) (ls' := [some (.ref p), some (.int x)]) (st' := [.int x, .ref a2]) (M1 := M) 1 (fun n => rfl) ?_
  refine Ev.step 1 (gs_4 rfl rfl (pf_c rfl ha2 hla2 rfl rfl)) ?_
  refine Ev.step (pc' := 26) (ls' := [some (.ref p), some (.int x)]) (st' := [.int 1]) (M1 := (gPut M a2 (.inr (5, gPut va2 1 (.int x))))) 1 (fun n => rfl) ?_
  exact Ev.ret (fun n => rfl)
theorem ff_0 {e : Nat} {M : Mem} {M' : Mem} {v : Option Value} {va2 vp : List Value} {x1 x2 x3 x4 x5 y4 : Int32} {a2 p : Nat} (hp : gNth M p = some (.inr (10, vp))) (f1 : gNth vp 0 = some (.ref a2)) (ha2 : gNth M a2 = some (.inr (5, va2))) (f3 : gNth va2 1 = some (.int y4)) (hz : Ev none e 80 (if (y4 + 20) ≤ 440 then 18 else 16) [some (.ref p), some (.int x1), some (.int x2), some (.int x3), some (.int x4), some (.int x5)] [] M v M' 0 0) : Ev none e 80 0 [some (.ref p), some (.int x1), some (.int x2), some (.int x3), some (.int x4), some (.int x5)] [] M v M' 0 0 := by
  refine Ev.step (pc' := 1) (ls' := [some (.ref p), some (.int x1), some (.int x2), some (.int x3), some (.int x4), some (.int x5)]) (st' := [.ref p]) (M1 := M) 1 (fun n => rfl) ?_
  refine Ev.step 1 (gs_3 rfl rfl (gf_c rfl hp f1)) ?_
  refine Ev.step 1 (gs_3 rfl rfl (gf_c rfl ha2 f3)) ?_
  refine Ev.step (pc' := (if (y4 + 20) ≤ 440 then 18 else 16)) (ls' := [some (.ref p), some (.int x1), some (.int x2), some (.int x3), some (.int x4), some (.int x5)]) (st' := []) (M1 := M) 4 (fun n => rfl) ?_
  exact hz
theorem ff_16 {e : Nat} {M : Mem} {x1 x2 x3 x4 x5 : Int32} {p : Nat}  : Ev none e 80 16 [some (.ref p), some (.int x1), some (.int x2), some (.int x3), some (.int x4), some (.int x5)] [] M (some (.int (-1))) M 0 0 := by
  refine Ev.step (pc' := 17) (ls' := [some (.ref p), some (.int x1), some (.int x2), some (.int x3), some (.int x4), some (.int x5)]) (st' := [.int (-1)]) (M1 := M) 1 (fun n => rfl) ?_
  exact Ev.ret (fun n => rfl)
theorem ff_18 {e : Nat} {M : Mem} {M' : Mem} {v : Option Value} {vp : List Value} {x1 x2 x3 x4 x5 : Int32} {a2 p : Nat} (hp : gNth M p = some (.inr (10, vp))) (f1 : gNth vp 0 = some (.ref a2)) (hz : Ev none e 80 23 [some (.ref p), some (.int x1), some (.int x2), some (.int x3), some (.int x4), some (.int x5)] [.int x1, .ref a2] M v M' 0 0) : Ev none e 80 18 [some (.ref p), some (.int x1), some (.int x2), some (.int x3), some (.int x4), some (.int x5)] [] M v M' 0 0 := by
  refine Ev.step (pc' := 19) (ls' := [some (.ref p), some (.int x1), some (.int x2), some (.int x3), some (.int x4), some (.int x5)]) (st' := [.ref p]) (M1 := M) 1 (fun n => rfl) ?_
  refine Ev.step 1 (gs_3 rfl rfl (gf_c rfl hp f1)) ?_
  refine Ev.step (pc' := 23) (ls' := [some (.ref p), some (.int x1), some (.int x2), some (.int x3), some (.int x4), some (.int x5)]) (st' := [.int x1, .ref a2]) (M1 := M) 1 (fun n => rfl) ?_
  exact hz
theorem ff_26 {e : Nat} {M : Mem} {M' : Mem} {v : Option Value} {vp : List Value} {x1 x2 x3 x4 x5 : Int32} {a2 p : Nat} (hp : gNth M p = some (.inr (10, vp))) (f1 : gNth vp 0 = some (.ref a2)) (hz : Ev none e 80 31 [some (.ref p), some (.int x1), some (.int x2), some (.int x3), some (.int x4), some (.int x5)] [.int x2, .ref a2] M v M' 0 0) : Ev none e 80 26 [some (.ref p), some (.int x1), some (.int x2), some (.int x3), some (.int x4), some (.int x5)] [] M v M' 0 0 := by
  refine Ev.step (pc' := 27) (ls' := [some (.ref p), some (.int x1), some (.int x2), some (.int x3), some (.int x4), some (.int x5)]) (st' := [.ref p]) (M1 := M) 1 (fun n => rfl) ?_
  refine Ev.step 1 (gs_3 rfl rfl (gf_c rfl hp f1)) ?_
  refine Ev.step (pc' := 31) (ls' := [some (.ref p), some (.int x1), some (.int x2), some (.int x3), some (.int x4), some (.int x5)]) (st' := [.int x2, .ref a2]) (M1 := M) 1 (fun n => rfl) ?_
  exact hz
theorem ff_34 {e : Nat} {M : Mem} {M' : Mem} {v : Option Value} {vp : List Value} {x1 x2 x3 x4 x5 : Int32} {a2 p : Nat} (hp : gNth M p = some (.inr (10, vp))) (f1 : gNth vp 0 = some (.ref a2)) (hz : Ev none e 80 39 [some (.ref p), some (.int x1), some (.int x2), some (.int x3), some (.int x4), some (.int x5)] [.int x3, .ref a2] M v M' 0 0) : Ev none e 80 34 [some (.ref p), some (.int x1), some (.int x2), some (.int x3), some (.int x4), some (.int x5)] [] M v M' 0 0 := by
  refine Ev.step (pc' := 35) (ls' := [some (.ref p), some (.int x1), some (.int x2), some (.int x3), some (.int x4), some (.int x5)]) (st' := [.ref p]) (M1 := M) 1 (fun n => rfl) ?_
  refine Ev.step 1 (gs_3 rfl rfl (gf_c rfl hp f1)) ?_
  refine Ev.step (pc' := 39) (ls' := [some (.ref p), some (.int x1), some (.int x2), some (.int x3), some (.int x4), some (.int x5)]) (st' := [.int x3, .ref a2]) (M1 := M) 1 (fun n => rfl) ?_
  exact hz
theorem ff_42 {e : Nat} {M : Mem} {M' : Mem} {v : Option Value} {vp : List Value} {x1 x2 x3 x4 x5 : Int32} {a2 p : Nat} (hp : gNth M p = some (.inr (10, vp))) (f1 : gNth vp 0 = some (.ref a2)) (hz : Ev none e 80 48 [some (.ref p), some (.int x1), some (.int x2), some (.int x3), some (.int x4), some (.int x5)] [.int x4, .ref a2] M v M' 0 0) : Ev none e 80 42 [some (.ref p), some (.int x1), some (.int x2), some (.int x3), some (.int x4), some (.int x5)] [] M v M' 0 0 := by
  refine Ev.step (pc' := 43) (ls' := [some (.ref p), some (.int x1), some (.int x2), some (.int x3), some (.int x4), some (.int x5)]) (st' := [.ref p]) (M1 := M) 1 (fun n => rfl) ?_
  refine Ev.step 1 (gs_3 rfl rfl (gf_c rfl hp f1)) ?_
  refine Ev.step (pc' := 48) (ls' := [some (.ref p), some (.int x1), some (.int x2), some (.int x3), some (.int x4), some (.int x5)]) (st' := [.int x4, .ref a2]) (M1 := M) 1 (fun n => rfl) ?_
  exact hz
theorem ff_51 {e : Nat} {M : Mem} {M' : Mem} {v : Option Value} {vp : List Value} {x1 x2 x3 x4 x5 : Int32} {a2 p : Nat} (hp : gNth M p = some (.inr (10, vp))) (f1 : gNth vp 0 = some (.ref a2)) (hz : Ev none e 80 57 [some (.ref p), some (.int x1), some (.int x2), some (.int x3), some (.int x4), some (.int x5)] [.int x5, .ref a2] M v M' 0 0) : Ev none e 80 51 [some (.ref p), some (.int x1), some (.int x2), some (.int x3), some (.int x4), some (.int x5)] [] M v M' 0 0 := by
  refine Ev.step (pc' := 52) (ls' := [some (.ref p), some (.int x1), some (.int x2), some (.int x3), some (.int x4), some (.int x5)]) (st' := [.ref p]) (M1 := M) 1 (fun n => rfl) ?_
  refine Ev.step 1 (gs_3 rfl rfl (gf_c rfl hp f1)) ?_
  refine Ev.step (pc' := 57) (ls' := [some (.ref p), some (.int x1), some (.int x2), some (.int x3), some (.int x4), some (.int x5)]) (st' := [.int x5, .ref a2]) (M1 := M) 1 (fun n => rfl) ?_
  exact hz
theorem ff_60 {e : Nat} {M : Mem} {va2 vp : List Value} {x1 x2 x3 x4 x5 y4 : Int32} {a2 p : Nat} (hp : gNth M p = some (.inr (10, vp))) (f1 : gNth vp 0 = some (.ref a2)) (ha2 : gNth M a2 = some (.inr (5, va2))) (f3 : gNth va2 1 = some (.int y4)) : Ev none e 80 60 [some (.ref p), some (.int x1), some (.int x2), some (.int x3), some (.int x4), some (.int x5)] [] M (some (.int y4)) M 0 0 := by
  refine Ev.step (pc' := 61) (ls' := [some (.ref p), some (.int x1), some (.int x2), some (.int x3), some (.int x4), some (.int x5)]) (st' := [.ref p]) (M1 := M) 1 (fun n => rfl) ?_
  refine Ev.step 1 (gs_3 rfl rfl (gf_c rfl hp f1)) ?_
  refine Ev.step 1 (gs_3 rfl rfl (gf_c rfl ha2 f3)) ?_
  exact Ev.ret (fun n => rfl)
theorem pt_0 {e : Nat} {M : Mem} {M' : Mem} {v : Option Value} {vt : List Value} {x y2 : Int32} {t : Nat} (ht : gNth M t = some (.inr (5, vt))) (f1 : gNth vt 1 = some (.int y2)) (hz : Ev none e 49 (if y2 ≤ 436 then 11 else 10) [some (.ref t), some (.int x)] [] M v M' 0 0) : Ev none e 49 0 [some (.ref t), some (.int x)] [] M v M' 0 0 := by
  refine Ev.step (pc' := 1) (ls' := [some (.ref t), some (.int x)]) (st' := [.ref t]) (M1 := M) 1 (fun n => rfl) ?_
  refine Ev.step 1 (gs_3 rfl rfl (gf_c rfl ht f1)) ?_
  refine Ev.step (pc' := (if y2 ≤ 436 then 11 else 10)) (ls' := [some (.ref t), some (.int x)]) (st' := []) (M1 := M) 2 (fun n => rfl) ?_
  exact hz
theorem pt_11 {e : Nat} {M : Mem} {M' : Mem} {v : Option Value} {vt : List Value} {x y4 y6 : Int32} {a2 t : Nat} {la2 : List Int32} (ht : gNth M t = some (.inr (5, vt))) (f1 : gNth vt 0 = some (.ref a2)) (f3 : gNth vt 1 = some (.int y4)) (ra2 : gNth M a2 = some (.inl (1, .inl la2))) (g5 : gAt la2 y4 = some y6) (hz : Ev none e 49 24 [some (.ref t), some (.int x)] [] (gPut M a2 (.inl (1, .inl (gPut la2 y4.toNatClampNeg ((x.toUInt32 >>> ((24 : Int32).toUInt32 &&& Int32.toUInt32 31)).toInt32))))) v M' 0 0) : Ev none e 49 11 [some (.ref t), some (.int x)] [] M v M' 0 0 := by
  refine Ev.step (pc' := 12) (ls' := [some (.ref t), some (.int x)]) (st' := [.ref t]) (M1 := M) 1 (fun n => rfl) ?_
  refine Ev.step 1 (gs_3 rfl rfl (gf_c rfl ht f1)) ?_
  refine Ev.step (pc' := 16) (ls' := [some (.ref t), some (.int x)]) (st' := [.ref t, .ref a2]) (M1 := M) 1 (fun n => rfl) ?_
  refine Ev.step 1 (gs_3 rfl rfl (gf_c rfl ht f3)) ?_
  refine Ev.step (pc' := 23) (ls' := [some (.ref t), some (.int x)]) (st' := [.int ((x.toUInt32 >>> ((24 : Int32).toUInt32 &&& Int32.toUInt32 31)).toInt32), .int y4, .ref a2]) (M1 := M) 3 (fun n => rfl) ?_
  refine Ev.step 1 (gs_4 rfl rfl (is_c ra2 g5)) ?_
  exact hz
theorem pt_24 {e : Nat} {M : Mem} {M' : Mem} {v : Option Value} {vt : List Value} {x y4 y6 : Int32} {a2 t : Nat} {la2 : List Int32} (ht : gNth M t = some (.inr (5, vt))) (f1 : gNth vt 0 = some (.ref a2)) (f3 : gNth vt 1 = some (.int y4)) (ra2 : gNth M a2 = some (.inl (1, .inl la2))) (g5 : gAt la2 (y4 + 1) = some y6) (hz : Ev none e 49 43 [some (.ref t), some (.int x)] [] (gPut M a2 (.inl (1, .inl (gPut la2 (y4 + 1).toNatClampNeg (((x.toUInt32 >>> ((16 : Int32).toUInt32 &&& Int32.toUInt32 31)).toInt32) &&& 255))))) v M' 0 0) : Ev none e 49 24 [some (.ref t), some (.int x)] [] M v M' 0 0 := by
  refine Ev.step (pc' := 25) (ls' := [some (.ref t), some (.int x)]) (st' := [.ref t]) (M1 := M) 1 (fun n => rfl) ?_
  refine Ev.step 1 (gs_3 rfl rfl (gf_c rfl ht f1)) ?_
  refine Ev.step (pc' := 29) (ls' := [some (.ref t), some (.int x)]) (st' := [.ref t, .ref a2]) (M1 := M) 1 (fun n => rfl) ?_
  refine Ev.step 1 (gs_3 rfl rfl (gf_c rfl ht f3)) ?_
  refine Ev.step (pc' := 42) (ls' := [some (.ref t), some (.int x)]) (st' := [.int (((x.toUInt32 >>> ((16 : Int32).toUInt32 &&& Int32.toUInt32 31)).toInt32) &&& 255), .int (y4 + 1), .ref a2]) (M1 := M) 7 (fun n => rfl) ?_
  refine Ev.step 1 (gs_4 rfl rfl (is_c ra2 g5)) ?_
  exact hz
theorem pt_43 {e : Nat} {M : Mem} {M' : Mem} {v : Option Value} {vt : List Value} {x y4 y6 : Int32} {a2 t : Nat} {la2 : List Int32} (ht : gNth M t = some (.inr (5, vt))) (f1 : gNth vt 0 = some (.ref a2)) (f3 : gNth vt 1 = some (.int y4)) (ra2 : gNth M a2 = some (.inl (1, .inl la2))) (g5 : gAt la2 (y4 + 2) = some y6) (hz : Ev none e 49 62 [some (.ref t), some (.int x)] [] (gPut M a2 (.inl (1, .inl (gPut la2 (y4 + 2).toNatClampNeg (((x.toUInt32 >>> ((8 : Int32).toUInt32 &&& Int32.toUInt32 31)).toInt32) &&& 255))))) v M' 0 0) : Ev none e 49 43 [some (.ref t), some (.int x)] [] M v M' 0 0 := by
  refine Ev.step (pc' := 44) (ls' := [some (.ref t), some (.int x)]) (st' := [.ref t]) (M1 := M) 1 (fun n => rfl) ?_
  refine Ev.step 1 (gs_3 rfl rfl (gf_c rfl ht f1)) ?_
  refine Ev.step (pc' := 48) (ls' := [some (.ref t), some (.int x)]) (st' := [.ref t, .ref a2]) (M1 := M) 1 (fun n => rfl) ?_
  refine Ev.step 1 (gs_3 rfl rfl (gf_c rfl ht f3)) ?_
  refine Ev.step (pc' := 61) (ls' := [some (.ref t), some (.int x)]) (st' := [.int (((x.toUInt32 >>> ((8 : Int32).toUInt32 &&& Int32.toUInt32 31)).toInt32) &&& 255), .int (y4 + 2), .ref a2]) (M1 := M) 7 (fun n => rfl) ?_
  refine Ev.step 1 (gs_4 rfl rfl (is_c ra2 g5)) ?_
  exact hz
theorem pt_62 {e : Nat} {M : Mem} {M' : Mem} {v : Option Value} {vt : List Value} {x y4 y6 : Int32} {a2 t : Nat} {la2 : List Int32} (ht : gNth M t = some (.inr (5, vt))) (f1 : gNth vt 0 = some (.ref a2)) (f3 : gNth vt 1 = some (.int y4)) (ra2 : gNth M a2 = some (.inl (1, .inl la2))) (g5 : gAt la2 (y4 + 3) = some y6) (hz : Ev none e 49 78 [some (.ref t), some (.int x)] [] (gPut M a2 (.inl (1, .inl (gPut la2 (y4 + 3).toNatClampNeg (x &&& 255))))) v M' 0 0) : Ev none e 49 62 [some (.ref t), some (.int x)] [] M v M' 0 0 := by
  refine Ev.step (pc' := 63) (ls' := [some (.ref t), some (.int x)]) (st' := [.ref t]) (M1 := M) 1 (fun n => rfl) ?_
  refine Ev.step 1 (gs_3 rfl rfl (gf_c rfl ht f1)) ?_
  refine Ev.step (pc' := 67) (ls' := [some (.ref t), some (.int x)]) (st' := [.ref t, .ref a2]) (M1 := M) 1 (fun n => rfl) ?_
  refine Ev.step 1 (gs_3 rfl rfl (gf_c rfl ht f3)) ?_
  refine Ev.step (pc' := 77) (ls' := [some (.ref t), some (.int x)]) (st' := [.int (x &&& 255), .int (y4 + 3), .ref a2]) (M1 := M) 5 (fun n => rfl) ?_
  refine Ev.step 1 (gs_4 rfl rfl (is_c ra2 g5)) ?_
  exact hz
theorem pt_78 {e : Nat} {M : Mem} {vt : List Value} {x y2 : Int32} {t : Nat} (ht : gNth M t = some (.inr (5, vt))) (f1 : gNth vt 1 = some (.int y2)) (hlt : 1 < vt.length) : Ev none e 49 78 [some (.ref t), some (.int x)] [] M none (gPut M t (.inr (5, gPut vt 1 (.int (y2 + 4))))) 0 0 := by
  refine Ev.step (pc' := 80) (ls' := [some (.ref t), some (.int x)]) (st' := [.ref t, .ref t]) (M1 := M) 2 (fun n => rfl) ?_
  refine Ev.step 1 (gs_3 rfl rfl (gf_c rfl ht f1)) ?_
  refine Ev.step (pc' := 85) (ls' := [some (.ref t), some (.int x)]) (st' := [.int (y2 + 4), .ref t]) (M1 := M) 2 (fun n => rfl) ?_
  refine Ev.step 1 (gs_4 rfl rfl (pf_c rfl ht hlt rfl rfl)) ?_
  exact Ev.ret (fun n => rfl)
theorem pt_10 {e : Nat} {M : Mem} {x : Int32} {t : Nat}  : Ev none e 49 10 [some (.ref t), some (.int x)] [] M none M 0 0 := by
  exact Ev.ret (fun n => rfl)
theorem mc_0 {e : Nat} {M : Mem} {M' : Mem} {v : Option Value} {x : Int32} {p : Nat}  (hz : Ev none e 123 3 [some (.ref p), some (.int x)] [.int 2, .int 0, .int x] M v M' 0 0) : Ev none e 123 0 [some (.ref p), some (.int x)] [] M v M' 0 0 := by
  refine Ev.step (pc' := 3) (ls' := [some (.ref p), some (.int x)]) (st' := [.int 2, .int 0, .int x]) (M1 := M) 3 (fun n => rfl) ?_
  exact hz
theorem mc_6 {e : Nat} {M : Mem} {M' : Mem} {v : Option Value} {x y : Int32} {p : Nat}  (hz : Ev none e 123 (if y = 0 then 9 else 11) [some (.ref p), some (.int x)] [] M v M' 0 0) : Ev none e 123 6 [some (.ref p), some (.int x)] [.int y] M v M' 0 0 := by
  refine Ev.step (pc' := (if y = 0 then 9 else 11)) (ls' := [some (.ref p), some (.int x)]) (st' := []) (M1 := M) 1 (fun n => rfl) ?_
  exact hz
theorem mc_9 {e : Nat} {M : Mem} {x : Int32} {p : Nat}  : Ev none e 123 9 [some (.ref p), some (.int x)] [] M (some (.int 0)) M 0 0 := by
  refine Ev.step (pc' := 10) (ls' := [some (.ref p), some (.int x)]) (st' := [.int 0]) (M1 := M) 1 (fun n => rfl) ?_
  exact Ev.ret (fun n => rfl)
theorem mc_11 {e : Nat} {M : Mem} {M' : Mem} {v : Option Value} {vp : List Value} {x : Int32} {a2 a4 a6 p : Nat} {la2 : List (Option Nat)} (hp : gNth M p = some (.inr (10, vp))) (f1 : gNth vp 7 = some (.ref a2)) (ra2 : gNth M a2 = some (.inl (4, .inr (.inr la2)))) (g3 : gAt la2 x = some (some a4)) (f5 : gNth vp 2 = some (.ref a6)) (hz : Ev none e 123 21 [some (.ref p), some (.int x)] [.ref a6, .ref a4] M v M' 0 0) : Ev none e 123 11 [some (.ref p), some (.int x)] [] M v M' 0 0 := by
  refine Ev.step (pc' := 12) (ls' := [some (.ref p), some (.int x)]) (st' := [.ref p]) (M1 := M) 1 (fun n => rfl) ?_
  refine Ev.step 1 (gs_3 rfl rfl (gf_c rfl hp f1)) ?_
  refine Ev.step (pc' := 16) (ls' := [some (.ref p), some (.int x)]) (st' := [.int x, .ref a2]) (M1 := M) 1 (fun n => rfl) ?_
  refine Ev.step 1 (gs_3 rfl rfl (aa_c ra2 g3 rfl)) ?_
  refine Ev.step (pc' := 18) (ls' := [some (.ref p), some (.int x)]) (st' := [.ref p, .ref a4]) (M1 := M) 1 (fun n => rfl) ?_
  refine Ev.step 1 (gs_3 rfl rfl (gf_c rfl hp f5)) ?_
  exact hz
theorem mc_24 {e : Nat} {M : Mem} {vp : List Value} {x y4 : Int32} {a2 p : Nat} {la2 : List Int32} (hp : gNth M p = some (.inr (10, vp))) (f1 : gNth vp 8 = some (.ref a2)) (ra2 : gNth M a2 = some (.inl (3, .inl la2))) (g3 : gAt la2 x = some y4) : Ev none e 123 24 [some (.ref p), some (.int x)] [] M (some (.int 1)) (gPut M a2 (.inl (3, .inl (gPut la2 x.toNatClampNeg (vp_nar .boolean 1))))) 0 0 := by
  refine Ev.step (pc' := 25) (ls' := [some (.ref p), some (.int x)]) (st' := [.ref p]) (M1 := M) 1 (fun n => rfl) ?_
  refine Ev.step 1 (gs_3 rfl rfl (gf_c rfl hp f1)) ?_
  refine Ev.step (pc' := 30) (ls' := [some (.ref p), some (.int x)]) (st' := [.int 1, .int x, .ref a2]) (M1 := M) 2 (fun n => rfl) ?_
  refine Ev.step 1 (gs_4 rfl rfl (bsz_c ra2 g3)) ?_
  refine Ev.step (pc' := 32) (ls' := [some (.ref p), some (.int x)]) (st' := [.int 1]) (M1 := (gPut M a2 (.inl (3, .inl (gPut la2 x.toNatClampNeg (vp_nar .boolean 1)))))) 1 (fun n => rfl) ?_
  exact Ev.ret (fun n => rfl)
theorem rc_0 {e : Nat} {M : Mem} {M' : Mem} {v : Option Value} {x : Int32} {p : Nat}  (hz : Ev none e 124 3 [some (.ref p), some (.int x)] [.int 2, .int 0, .int x] M v M' 0 0) : Ev none e 124 0 [some (.ref p), some (.int x)] [] M v M' 0 0 := by
  refine Ev.step (pc' := 3) (ls' := [some (.ref p), some (.int x)]) (st' := [.int 2, .int 0, .int x]) (M1 := M) 3 (fun n => rfl) ?_
  exact hz
theorem rc_6 {e : Nat} {M : Mem} {M' : Mem} {v : Option Value} {x y : Int32} {p : Nat}  (hz : Ev none e 124 (if y = 0 then 18 else 9) [some (.ref p), some (.int x)] [] M v M' 0 0) : Ev none e 124 6 [some (.ref p), some (.int x)] [.int y] M v M' 0 0 := by
  refine Ev.step (pc' := (if y = 0 then 18 else 9)) (ls' := [some (.ref p), some (.int x)]) (st' := []) (M1 := M) 1 (fun n => rfl) ?_
  exact hz
theorem rc_9 {e : Nat} {M : Mem} {M' : Mem} {v : Option Value} {vp : List Value} {x y4 : Int32} {a2 p : Nat} {la2 : List Int32} (hp : gNth M p = some (.inr (10, vp))) (f1 : gNth vp 8 = some (.ref a2)) (ra2 : gNth M a2 = some (.inl (3, .inl la2))) (g3 : gAt la2 x = some y4) (hz : Ev none e 124 (if y4 = 0 then 18 else 20) [some (.ref p), some (.int x)] [] M v M' 0 0) : Ev none e 124 9 [some (.ref p), some (.int x)] [] M v M' 0 0 := by
  refine Ev.step (pc' := 10) (ls' := [some (.ref p), some (.int x)]) (st' := [.ref p]) (M1 := M) 1 (fun n => rfl) ?_
  refine Ev.step 1 (gs_3 rfl rfl (gf_c rfl hp f1)) ?_
  refine Ev.step (pc' := 14) (ls' := [some (.ref p), some (.int x)]) (st' := [.int x, .ref a2]) (M1 := M) 1 (fun n => rfl) ?_
  refine Ev.step 1 (gs_3 rfl rfl (bz_c ra2 g3)) ?_
  refine Ev.step (pc' := (if y4 = 0 then 18 else 20)) (ls' := [some (.ref p), some (.int x)]) (st' := []) (M1 := M) 1 (fun n => rfl) ?_
  exact hz
theorem rc_18 {e : Nat} {M : Mem} {x : Int32} {p : Nat}  : Ev none e 124 18 [some (.ref p), some (.int x)] [] M (some (.int 0)) M 0 0 := by
  refine Ev.step (pc' := 19) (ls' := [some (.ref p), some (.int x)]) (st' := [.int 0]) (M1 := M) 1 (fun n => rfl) ?_
  exact Ev.ret (fun n => rfl)
theorem rc_20 {e : Nat} {M : Mem} {M' : Mem} {v : Option Value} {vp : List Value} {x : Int32} {a2 a4 a6 p : Nat} {la4 : List (Option Nat)} (hp : gNth M p = some (.inr (10, vp))) (f1 : gNth vp 2 = some (.ref a2)) (f3 : gNth vp 7 = some (.ref a4)) (ra4 : gNth M a4 = some (.inl (4, .inr (.inr la4)))) (g5 : gAt la4 x = some (some a6)) (hz : Ev none e 124 30 [some (.ref p), some (.int x)] [.ref a6, .ref a2] M v M' 0 0) : Ev none e 124 20 [some (.ref p), some (.int x)] [] M v M' 0 0 := by
  refine Ev.step (pc' := 21) (ls' := [some (.ref p), some (.int x)]) (st' := [.ref p]) (M1 := M) 1 (fun n => rfl) ?_
  refine Ev.step 1 (gs_3 rfl rfl (gf_c rfl hp f1)) ?_
  refine Ev.step (pc' := 25) (ls' := [some (.ref p), some (.int x)]) (st' := [.ref p, .ref a2]) (M1 := M) 1 (fun n => rfl) ?_
  refine Ev.step 1 (gs_3 rfl rfl (gf_c rfl hp f3)) ?_
  refine Ev.step (pc' := 29) (ls' := [some (.ref p), some (.int x)]) (st' := [.int x, .ref a4, .ref a2]) (M1 := M) 1 (fun n => rfl) ?_
  refine Ev.step 1 (gs_3 rfl rfl (aa_c ra4 g5 rfl)) ?_
  exact hz
theorem rc_33 {e : Nat} {M : Mem} {x : Int32} {p : Nat}  : Ev none e 124 33 [some (.ref p), some (.int x)] [] M (some (.int 1)) M 0 0 := by
  refine Ev.step (pc' := 34) (ls' := [some (.ref p), some (.int x)]) (st' := [.int 1]) (M1 := M) 1 (fun n => rfl) ?_
  exact Ev.ret (fun n => rfl)
theorem em_0 {e : Nat} {M : Mem} {M' : Mem} {v : Option Value} {vm : List Value} {x : Int32} {m : Nat} (hm : gNth M m = some (.inr (11, vm))) (hlm : 0 < vm.length) (hz : Ev none e 138 (if x < 0 then 17 else 9) [some (.ref m), some (.int x)] [] (gPut M m (.inr (11, gPut vm 0 (.int 0)))) v M' 0 0) : Ev none e 138 0 [some (.ref m), some (.int x)] [] M v M' 0 0 := by
  refine Ev.step (pc' := 2) (ls' := [some (.ref m), some (.int x)]) (st' := [.int 0, .ref m]) (M1 := M) 2 (fun n => rfl) ?_
  refine Ev.step 1 (gs_4 rfl rfl (pf_c rfl hm hlm rfl rfl)) ?_
  refine Ev.step (pc' := (if x < 0 then 17 else 9)) (ls' := [some (.ref m), some (.int x)]) (st' := []) (M1 := (gPut M m (.inr (11, gPut vm 0 (.int 0))))) 2 (fun n => rfl) ?_
  exact hz
theorem em_5 {e : Nat} {M : Mem} {M' : Mem} {v : Option Value} {x : Int32} {m : Nat}  (hz : Ev none e 138 (if x < 0 then 17 else 9) [some (.ref m), some (.int x)] [] M v M' 0 0) : Ev none e 138 5 [some (.ref m), some (.int x)] [] M v M' 0 0 := by
  refine Ev.step (pc' := (if x < 0 then 17 else 9)) (ls' := [some (.ref m), some (.int x)]) (st' := []) (M1 := M) 2 (fun n => rfl) ?_
  exact hz
theorem em_9 {e : Nat} {M : Mem} {M' : Mem} {v : Option Value} {vm : List Value} {x y2 : Int32} {m : Nat} (hm : gNth M m = some (.inr (11, vm))) (f1 : gNth vm 2 = some (.int y2)) (hz : Ev none e 138 (if x ≤ y2 then 19 else 17) [some (.ref m), some (.int x)] [] M v M' 0 0) : Ev none e 138 9 [some (.ref m), some (.int x)] [] M v M' 0 0 := by
  refine Ev.step (pc' := 11) (ls' := [some (.ref m), some (.int x)]) (st' := [.ref m, .int x]) (M1 := M) 2 (fun n => rfl) ?_
  refine Ev.step 1 (gs_3 rfl rfl (gf_c rfl hm f1)) ?_
  refine Ev.step (pc' := (if x ≤ y2 then 19 else 17)) (ls' := [some (.ref m), some (.int x)]) (st' := []) (M1 := M) 1 (fun n => rfl) ?_
  exact hz
theorem em_17 {e : Nat} {M : Mem} {x : Int32} {m : Nat}  : Ev none e 138 17 [some (.ref m), some (.int x)] [] M (some (.int 0)) M 0 0 := by
  refine Ev.step (pc' := 18) (ls' := [some (.ref m), some (.int x)]) (st' := [.int 0]) (M1 := M) 1 (fun n => rfl) ?_
  exact Ev.ret (fun n => rfl)
theorem em_19 {e : Nat} {M : Mem} {vm : List Value} {x : Int32} {m : Nat} (hm : gNth M m = some (.inr (11, vm))) (hlm : 2 < vm.length) : Ev none e 138 19 [some (.ref m), some (.int x)] [] M (some (.int 1)) (gPut M m (.inr (11, gPut vm 2 (.int x)))) 0 0 := by
  refine Ev.step (pc' := 21) (ls' := [some (.ref m), some (.int x)]) (st' := [.int x, .ref m]) (M1 := M) 2 (fun n => rfl) ?_
  refine Ev.step 1 (gs_4 rfl rfl (pf_c rfl hm hlm rfl rfl)) ?_
  refine Ev.step (pc' := 25) (ls' := [some (.ref m), some (.int x)]) (st' := [.int 1]) (M1 := (gPut M m (.inr (11, gPut vm 2 (.int x))))) 1 (fun n => rfl) ?_
  exact Ev.ret (fun n => rfl)
theorem fm_0 {e : Nat} {M : Mem} {M' : Mem} {v : Option Value} {vm : List Value} {x1 x2 x3 x4 x5 : Int32} {m : Nat} (hm : gNth M m = some (.inr (11, vm))) (hlm : 0 < vm.length) (hz : Ev none e 136 5 [some (.ref m), some (.int x1), some (.int x2), some (.int x3), some (.int x4), some (.int x5)] [] (gPut M m (.inr (11, gPut vm 0 (.int 0)))) v M' 0 0) : Ev none e 136 0 [some (.ref m), some (.int x1), some (.int x2), some (.int x3), some (.int x4), some (.int x5)] [] M v M' 0 0 := by
  refine Ev.step (pc' := 2) (ls' := [some (.ref m), some (.int x1), some (.int x2), some (.int x3), some (.int x4), some (.int x5)]) (st' := [.int 0, .ref m]) (M1 := M) 2 (fun n => rfl) ?_
  refine Ev.step 1 (gs_4 rfl rfl (pf_c rfl hm hlm rfl rfl)) ?_
  exact hz
theorem fm_5 {e : Nat} {M : Mem} {M' : Mem} {v : Option Value} {vm : List Value} {x1 x2 x3 x4 x5 y2 : Int32} {m : Nat} (hm : gNth M m = some (.inr (11, vm))) (f1 : gNth vm 2 = some (.int y2)) (hz : Ev none e 136 (if (y2 + 20) ≤ 440 then 20 else 18) [some (.ref m), some (.int x1), some (.int x2), some (.int x3), some (.int x4), some (.int x5)] [] M v M' 0 0) : Ev none e 136 5 [some (.ref m), some (.int x1), some (.int x2), some (.int x3), some (.int x4), some (.int x5)] [] M v M' 0 0 := by
  refine Ev.step (pc' := 6) (ls' := [some (.ref m), some (.int x1), some (.int x2), some (.int x3), some (.int x4), some (.int x5)]) (st' := [.ref m]) (M1 := M) 1 (fun n => rfl) ?_
  refine Ev.step 1 (gs_3 rfl rfl (gf_c rfl hm f1)) ?_
  refine Ev.step (pc' := (if (y2 + 20) ≤ 440 then 20 else 18)) (ls' := [some (.ref m), some (.int x1), some (.int x2), some (.int x3), some (.int x4), some (.int x5)]) (st' := []) (M1 := M) 4 (fun n => rfl) ?_
  exact hz
theorem fm_18 {e : Nat} {M : Mem} {x1 x2 x3 x4 x5 : Int32} {m : Nat}  : Ev none e 136 18 [some (.ref m), some (.int x1), some (.int x2), some (.int x3), some (.int x4), some (.int x5)] [] M (some (.int (-1))) M 0 0 := by
  refine Ev.step (pc' := 19) (ls' := [some (.ref m), some (.int x1), some (.int x2), some (.int x3), some (.int x4), some (.int x5)]) (st' := [.int (-1)]) (M1 := M) 1 (fun n => rfl) ?_
  exact Ev.ret (fun n => rfl)
theorem fm_20 {e : Nat} {M : Mem} {M' : Mem} {v : Option Value} {x1 x2 x3 x4 x5 : Int32} {m : Nat}  (hz : Ev none e 136 22 [some (.ref m), some (.int x1), some (.int x2), some (.int x3), some (.int x4), some (.int x5)] [.int x1, .ref m] M v M' 0 0) : Ev none e 136 20 [some (.ref m), some (.int x1), some (.int x2), some (.int x3), some (.int x4), some (.int x5)] [] M v M' 0 0 := by
  refine Ev.step (pc' := 22) (ls' := [some (.ref m), some (.int x1), some (.int x2), some (.int x3), some (.int x4), some (.int x5)]) (st' := [.int x1, .ref m]) (M1 := M) 2 (fun n => rfl) ?_
  exact hz
theorem fm_25 {e : Nat} {M : Mem} {M' : Mem} {v : Option Value} {x1 x2 x3 x4 x5 : Int32} {m : Nat}  (hz : Ev none e 136 27 [some (.ref m), some (.int x1), some (.int x2), some (.int x3), some (.int x4), some (.int x5)] [.int x2, .ref m] M v M' 0 0) : Ev none e 136 25 [some (.ref m), some (.int x1), some (.int x2), some (.int x3), some (.int x4), some (.int x5)] [] M v M' 0 0 := by
  refine Ev.step (pc' := 27) (ls' := [some (.ref m), some (.int x1), some (.int x2), some (.int x3), some (.int x4), some (.int x5)]) (st' := [.int x2, .ref m]) (M1 := M) 2 (fun n => rfl) ?_
  exact hz
theorem fm_30 {e : Nat} {M : Mem} {M' : Mem} {v : Option Value} {x1 x2 x3 x4 x5 : Int32} {m : Nat}  (hz : Ev none e 136 32 [some (.ref m), some (.int x1), some (.int x2), some (.int x3), some (.int x4), some (.int x5)] [.int x3, .ref m] M v M' 0 0) : Ev none e 136 30 [some (.ref m), some (.int x1), some (.int x2), some (.int x3), some (.int x4), some (.int x5)] [] M v M' 0 0 := by
  refine Ev.step (pc' := 32) (ls' := [some (.ref m), some (.int x1), some (.int x2), some (.int x3), some (.int x4), some (.int x5)]) (st' := [.int x3, .ref m]) (M1 := M) 2 (fun n => rfl) ?_
  exact hz
theorem fm_35 {e : Nat} {M : Mem} {M' : Mem} {v : Option Value} {x1 x2 x3 x4 x5 : Int32} {m : Nat}  (hz : Ev none e 136 38 [some (.ref m), some (.int x1), some (.int x2), some (.int x3), some (.int x4), some (.int x5)] [.int x4, .ref m] M v M' 0 0) : Ev none e 136 35 [some (.ref m), some (.int x1), some (.int x2), some (.int x3), some (.int x4), some (.int x5)] [] M v M' 0 0 := by
  refine Ev.step (pc' := 38) (ls' := [some (.ref m), some (.int x1), some (.int x2), some (.int x3), some (.int x4), some (.int x5)]) (st' := [.int x4, .ref m]) (M1 := M) 2 (fun n => rfl) ?_
  exact hz
theorem fm_41 {e : Nat} {M : Mem} {M' : Mem} {v : Option Value} {x1 x2 x3 x4 x5 : Int32} {m : Nat}  (hz : Ev none e 136 44 [some (.ref m), some (.int x1), some (.int x2), some (.int x3), some (.int x4), some (.int x5)] [.int x5, .ref m] M v M' 0 0) : Ev none e 136 41 [some (.ref m), some (.int x1), some (.int x2), some (.int x3), some (.int x4), some (.int x5)] [] M v M' 0 0 := by
  refine Ev.step (pc' := 44) (ls' := [some (.ref m), some (.int x1), some (.int x2), some (.int x3), some (.int x4), some (.int x5)]) (st' := [.int x5, .ref m]) (M1 := M) 2 (fun n => rfl) ?_
  exact hz
theorem fm_47 {e : Nat} {M : Mem} {vm : List Value} {x1 x2 x3 x4 x5 y2 : Int32} {m : Nat} (hm : gNth M m = some (.inr (11, vm))) (f1 : gNth vm 2 = some (.int y2)) : Ev none e 136 47 [some (.ref m), some (.int x1), some (.int x2), some (.int x3), some (.int x4), some (.int x5)] [] M (some (.int y2)) M 0 0 := by
  refine Ev.step (pc' := 48) (ls' := [some (.ref m), some (.int x1), some (.int x2), some (.int x3), some (.int x4), some (.int x5)]) (st' := [.ref m]) (M1 := M) 1 (fun n => rfl) ?_
  refine Ev.step 1 (gs_3 rfl rfl (gf_c rfl hm f1)) ?_
  exact Ev.ret (fun n => rfl)
theorem fo_0 {e : Nat} {M : Mem} {M' : Mem} {v : Option Value} {x : Int32} {m : Nat} {w2 : Option Value}  (hz : Ev none e 137 3 [some (.ref m), some (.int x), some (.int 24)] [] M v M' 0 0) : Ev none e 137 0 [some (.ref m), some (.int x), w2] [] M v M' 0 0 := by
  refine Ev.step (pc' := 3) (ls' := [some (.ref m), some (.int x), some (.int 24)]) (st' := []) (M1 := M) 2 (fun n => rfl) ?_
  exact hz
theorem fo_3 {e : Nat} {M : Mem} {M' : Mem} {v : Option Value} {k x : Int32} {m : Nat}  (hz : Ev none e 137 (if k < 0 then 36 else 7) [some (.ref m), some (.int x), some (.int k)] [] M v M' 0 0) : Ev none e 137 3 [some (.ref m), some (.int x), some (.int k)] [] M v M' 0 0 := by
  refine Ev.step (pc' := (if k < 0 then 36 else 7)) (ls' := [some (.ref m), some (.int x), some (.int k)]) (st' := []) (M1 := M) 2 (fun n => rfl) ?_
  exact hz
theorem fo_7 {e : Nat} {M : Mem} {M' : Mem} {v : Option Value} {vm : List Value} {k x y4 y6 : Int32} {a2 m : Nat} {la2 : List Int32} (hm : gNth M m = some (.inr (11, vm))) (f1 : gNth vm 1 = some (.ref a2)) (f3 : gNth vm 2 = some (.int y4)) (ra2 : gNth M a2 = some (.inl (0, .inl la2))) (g5 : gAt la2 y4 = some y6) (hz : Ev none e 137 20 [some (.ref m), some (.int x), some (.int k)] [] (gPut M a2 (.inl (0, .inl (gPut la2 y4.toNatClampNeg (vp_nar .byte ((x >>> (k &&& 31)).toInt8.toInt32)))))) v M' 0 0) : Ev none e 137 7 [some (.ref m), some (.int x), some (.int k)] [] M v M' 0 0 := by
  refine Ev.step (pc' := 8) (ls' := [some (.ref m), some (.int x), some (.int k)]) (st' := [.ref m]) (M1 := M) 1 (fun n => rfl) ?_
  refine Ev.step 1 (gs_3 rfl rfl (gf_c rfl hm f1)) ?_
  refine Ev.step (pc' := 12) (ls' := [some (.ref m), some (.int x), some (.int k)]) (st' := [.ref m, .ref a2]) (M1 := M) 1 (fun n => rfl) ?_
  refine Ev.step 1 (gs_3 rfl rfl (gf_c rfl hm f3)) ?_
  refine Ev.step (pc' := 19) (ls' := [some (.ref m), some (.int x), some (.int k)]) (st' := [.int ((x >>> (k &&& 31)).toInt8.toInt32), .int y4, .ref a2]) (M1 := M) 4 (fun n => rfl) ?_
  refine Ev.step 1 (gs_4 rfl rfl (bs0_c ra2 g5)) ?_
  exact hz
theorem fo_20 {e : Nat} {M : Mem} {M' : Mem} {v : Option Value} {vm : List Value} {k x y2 : Int32} {m : Nat} (hm : gNth M m = some (.inr (11, vm))) (f1 : gNth vm 2 = some (.int y2)) (hlm : 2 < vm.length) (hz : Ev none e 137 3 [some (.ref m), some (.int x), some (.int (k + Int32.ofInt (-8)))] [] (gPut M m (.inr (11, gPut vm 2 (.int (y2 + 1))))) v M' 0 0) : Ev none e 137 20 [some (.ref m), some (.int x), some (.int k)] [] M v M' 0 0 := by
  refine Ev.step (pc' := 22) (ls' := [some (.ref m), some (.int x), some (.int k)]) (st' := [.ref m, .ref m]) (M1 := M) 2 (fun n => rfl) ?_
  refine Ev.step 1 (gs_3 rfl rfl (gf_c rfl hm f1)) ?_
  refine Ev.step (pc' := 27) (ls' := [some (.ref m), some (.int x), some (.int k)]) (st' := [.int (y2 + 1), .ref m]) (M1 := M) 2 (fun n => rfl) ?_
  refine Ev.step 1 (gs_4 rfl rfl (pf_c rfl hm hlm rfl rfl)) ?_
  refine Ev.step (pc' := 33) (ls' := [some (.ref m), some (.int x), some (.int (k + Int32.ofInt (-8)))]) (st' := []) (M1 := (gPut M m (.inr (11, gPut vm 2 (.int (y2 + 1)))))) 1 (gs_1 (i := .iinc 2 (-8)) rfl rfl rfl) ?_
  refine Ev.step (pc' := 3) (ls' := [some (.ref m), some (.int x), some (.int (k + Int32.ofInt (-8)))]) (st' := []) (M1 := (gPut M m (.inr (11, gPut vm 2 (.int (y2 + 1)))))) 1 (fun n => rfl) ?_
  exact hz
theorem fo_36 {e : Nat} {M : Mem} {k x : Int32} {m : Nat}  : Ev none e 137 36 [some (.ref m), some (.int x), some (.int k)] [] M none M 0 0 := by
  exact Ev.ret (fun n => rfl)
set_option maxRecDepth 100000 in
theorem tp_1 : gNth sT 1 = some 1 := by decide +kernel
set_option maxRecDepth 100000 in
theorem tp_633 : gNth sT 633 = some 61 := by decide +kernel
set_option maxRecDepth 100000 in
theorem tp_b : fdB 0 10 0 1 = true ∧ fdB 1 5 0 2 = true ∧ fiB 1 5 1 0 440 = true ∧ irB 2 440 0 255 = true := by refine ⟨?_, ?_, ?_, ?_⟩ <;> decide +kernel
set_option maxRecDepth 100000 in
theorem tp_m : fiB 61 11 2 0 440 = true ∧ fdB 61 11 1 62 = true ∧ rwB 62 0 440 (-128) 127 = true := by refine ⟨?_, ?_, ?_⟩ <;> decide +kernel
set_option maxRecDepth 100000 in
theorem tp_u : (gNth sU 1) = some (some 1) ∧ gNth sU 62 = some (some 634) ∧ gNth sU 57 = some (some 340) := by refine ⟨?_, ?_, ?_⟩ <;> decide +kernel
set_option maxRecDepth 100000 in
theorem tp_k : fdB 0 10 8 57 = true ∧ rwB 57 3 3 0 1 = true := by refine ⟨?_, ?_⟩ <;> decide +kernel
/-- the tape's length: of the class, of the reference -/
def LC (z : Int32) (M : Mem) : Prop := ∃ vs, gNth M 1 = some (.inr (5, vs)) ∧ gNth vs 1 = some (.int z)
def LR (z : Int32) (M : Mem) : Prop := ∃ vs, gNth M 633 = some (.inr (11, vs)) ∧ gNth vs 2 = some (.int z)
/-- which images are kept -/
def KC (l : List Int32) (M : Mem) : Prop := gNth M 340 = some (.inl (3, .inl l))
def KR (l : List Int32) (M : Mem) : Prop := gNth M 638 = some (.inl (3, .inl l))
theorem LC.frm {z : Int32} {md : Md} {M M' : Mem} (h : LC z M) (hF : Frm sT md M M') (hm : (5, 1) ∉ md) : LC z M' := by
  obtain ⟨vs, h1, h2⟩ := h
  obtain ⟨vs', h3, _, h4⟩ := hF.2.1 1 5 vs h1
  exact ⟨vs', h3, (h4 1 hm).trans h2⟩
theorem LR.frm {z : Int32} {md : Md} {M M' : Mem} (h : LR z M) (hF : Frm sT md M M') (hm : (11, 2) ∉ md) : LR z M' := by
  obtain ⟨vs, h1, h2⟩ := h
  obtain ⟨vs', h3, _, h4⟩ := hF.2.1 633 11 vs h1
  exact ⟨vs', h3, (h4 2 hm).trans h2⟩
set_option maxRecDepth 100000 in
theorem sT_340 : gNth sT 340 = some 57 ∧ gNth sT 638 = some 66 := by refine ⟨?_, ?_⟩ <;> decide +kernel
theorem KC.frm {l : List Int32} {md : Md} {M M' : Mem} (h : KC l M) (hF : Frm sT md M M') (hm : (1057, 0) ∉ md) : KC l M' := by
  obtain ⟨x', h1, h2⟩ := hF.2.2 340 3 (.inl l) h
  rw [h2 (fun g hg => by rw [sT_340.1] at hg; cases hg; exact hm)] at h1
  exact h1
theorem KR.frm {l : List Int32} {md : Md} {M M' : Mem} (h : KR l M) (hF : Frm sT md M M') (hm : (1066, 0) ∉ md) : KR l M' := by
  obtain ⟨x', h1, h2⟩ := hF.2.2 638 3 (.inl l) h
  rw [h2 (fun g hg => by rw [sT_340.2] at hg; cases hg; exact hm)] at h1
  exact h1
theorem INV.mv {md : Md} {M M' : Mem} (hV : INV M) (hT : TM sT sG M') (hF : Frm sT md M M') (h1 : ∀ q ∈ md, q ∉ dp0 24) (h2 : ∀ q ∈ md, q ∉ dp0 28) (h3 : ∀ q ∈ md, q ∉ dp0 32) (h4 : ∀ q ∈ md, q ∉ dp0 34) : INV M' := by
  refine ⟨hT, fun x hx => ?_⟩
  have h9 := hV.2 x hx
  rcases hx with rfl | rfl | rfl | rfl
  · exact dp0_frm 0 24 _ _ _ _ hF h1 h9
  · exact dp0_frm 0 28 _ _ _ _ hF h2 h9
  · exact dp0_frm 0 32 _ _ _ _ hF h3 h9
  · exact dp0_frm 0 34 _ _ _ _ hF h4 h9
/-- the class's tape -/
theorem INV.tape {M : Mem} (hT : TM sT sG M) : ∃ vp, gNth M 0 = some (.inr (10, vp)) ∧ gNth vp 0 = some (.ref 1) := by
  obtain ⟨vp, b, h1, h2, h3⟩ := hT.fref sT_00 tp_b.1
  have h4 := sU_ok b 1 1 h3 tp_u.1
  subst h4
  exact ⟨vp, h1, h2⟩
theorem LC.rng {z : Int32} {M : Mem} (hT : TM sT sG M) (h : LC z M) : 0 ≤ z.toInt ∧ z.toInt ≤ 440 := by
  obtain ⟨vs, h1, h2⟩ := h
  obtain ⟨vs', y, g1, g2, _, g3, g4, _⟩ := hT.fnum tp_1 tp_b.2.2.1
  cases h1.symm.trans g1
  cases h2.symm.trans g2
  exact ⟨g3, g4⟩
theorem LC.set {z w : Int32} {M : Mem} (hT : TM sT sG M) {vs : List Value} (h1 : gNth M 1 = some (.inr (5, vs))) (w0 : 0 ≤ w.toInt) (w1 : w.toInt ≤ 440) : TM sT sG (gPut M 1 (.inr (5, gPut vs 1 (.int w)))) ∧ Frm sT [(5, 1)] M (gPut M 1 (.inr (5, gPut vs 1 (.int w)))) ∧ LC w (gPut M 1 (.inr (5, gPut vs 1 (.int w)))) ∧ 1 < vs.length := by
  obtain ⟨vs', y, g1, g2, g5, _, _, g4⟩ := hT.fnum tp_1 tp_b.2.2.1
  cases h1.symm.trans g1
  refine ⟨g4 w w0 w1, Frm.fld h1 (List.mem_singleton.mpr rfl), ⟨gPut vs 1 (.int w), ?_, ?_⟩, g5⟩
  · rw [nth_put, if_pos ⟨rfl, gNth_lt _ _ _ h1⟩]
  · rw [nth_put, if_pos ⟨rfl, g5⟩]
theorem LR.rng {z : Int32} {M : Mem} (hT : TM sT sG M) (h : LR z M) : 0 ≤ z.toInt ∧ z.toInt ≤ 440 := by
  obtain ⟨vs, h1, h2⟩ := h
  obtain ⟨vs', y, g1, g2, _, g3, g4, _⟩ := hT.fnum tp_633 tp_m.1
  cases h1.symm.trans g1
  cases h2.symm.trans g2
  exact ⟨g3, g4⟩
theorem LR.set {w : Int32} {M : Mem} (hT : TM sT sG M) {vs : List Value} (h1 : gNth M 633 = some (.inr (11, vs))) (w0 : 0 ≤ w.toInt) (w1 : w.toInt ≤ 440) : TM sT sG (gPut M 633 (.inr (11, gPut vs 2 (.int w)))) ∧ Frm sT [(11, 2)] M (gPut M 633 (.inr (11, gPut vs 2 (.int w)))) ∧ LR w (gPut M 633 (.inr (11, gPut vs 2 (.int w)))) ∧ 2 < vs.length := by
  obtain ⟨vs', y, g1, g2, g5, _, _, g4⟩ := hT.fnum tp_633 tp_m.1
  cases h1.symm.trans g1
  refine ⟨g4 w w0 w1, Frm.fld h1 (List.mem_singleton.mpr rfl), ⟨gPut vs 2 (.int w), ?_, ?_⟩, g5⟩
  · rw [nth_put, if_pos ⟨rfl, gNth_lt _ _ _ h1⟩]
  · rw [nth_put, if_pos ⟨rfl, g5⟩]
/-- thrown = 0, the reference's first step -/
theorem LR.thr {z : Int32} {M : Mem} (hT : TM sT sG M) (h : LR z M) : ∃ vs, gNth M 633 = some (.inr (11, vs)) ∧ 0 < vs.length ∧ TM sT sG (gPut M 633 (.inr (11, gPut vs 0 (.int 0)))) ∧ Frm sT [(11, 0)] M (gPut M 633 (.inr (11, gPut vs 0 (.int 0)))) ∧ gNth (gPut M 633 (.inr (11, gPut vs 0 (.int 0)))) 633 = some (.inr (11, gPut vs 0 (.int 0))) ∧ gNth (gPut vs 0 (.int 0)) 2 = some (.int z) := by
  obtain ⟨vs, h1, h2⟩ := h
  obtain ⟨vs', g1, g2, g3⟩ := hT.thr
  cases h1.symm.trans g1
  refine ⟨vs, h1, by omega, g3, Frm.fld h1 (List.mem_singleton.mpr rfl), by rw [nth_put, if_pos ⟨rfl, gNth_lt _ _ _ h1⟩], by rw [nth_put, if_neg (fun q => absurd q.1 (by decide))]; exact h2⟩
def endA (z x : Int32) : Int32 := if x < 0 then 0 else if x ≤ z then 1 else 0
def endZ (z x : Int32) : Int32 := if x < 0 then z else if x ≤ z then x else z
theorem ev_endC {e : Nat} {M : Mem} {z x : Int32} (hV : INV M) (hz : LC z M) : ∃ M', Ev none (e + 1) 81 0 [some (.ref 0), some (.int x)] [] M (some (.int (endA z x))) M' 0 0 ∧ INV M' ∧ Frm sT [(5, 1)] M M' ∧ LC (endZ z x) M' := by
  obtain ⟨vp, p1, p2⟩ := INV.tape hV.1
  obtain ⟨z0, z1⟩ := hz.rng hV.1
  obtain ⟨vs, h1, h2⟩ := hz
  unfold endA endZ
  by_cases hx : x < 0
  · rw [if_pos hx, if_pos hx]
    exact ⟨M, ec_0 (by rw [if_pos hx]; exact ec_15), hV, Frm.refl _, ⟨vs, h1, h2⟩⟩
  · rw [if_neg hx, if_neg hx]
    by_cases hy : x ≤ z
    · rw [if_pos hy, if_pos hy]
      have x0 : 0 ≤ x.toInt := by rw [Int32.lt_iff_toInt_lt] at hx; exact Int.not_lt.mp hx
      have x1 : x.toInt ≤ z.toInt := Int32.le_iff_toInt_le.mp hy
      obtain ⟨t1, t2, t3, t4⟩ := LC.set (z := z) (w := x) hV.1 h1 x0 (by omega)
      exact ⟨_, ec_0 (by rw [if_neg hx]; exact ec_4 p1 p2 h1 h2 (by rw [if_pos hy]; exact ec_17 p1 p2 h1 t4)), hV.mv t1 t2 (by decide) (by decide) (by decide) (by decide), t2, t3⟩
    · rw [if_neg hy, if_neg hy]
      exact ⟨M, ec_0 (by rw [if_neg hx]; exact ec_4 p1 p2 h1 h2 (by rw [if_neg hy]; exact ec_15)), hV, Frm.refl _, ⟨vs, h1, h2⟩⟩
theorem ev_endR {e : Nat} {M : Mem} {z x : Int32} (hV : INV M) (hz : LR z M) : ∃ M', Ev none (e + 1) 138 0 [some (.ref 633), some (.int x)] [] M (some (.int (endA z x))) M' 0 0 ∧ INV M' ∧ Frm sT [(11, 0), (11, 2)] M M' ∧ LR (endZ z x) M' := by
  obtain ⟨z0, z1⟩ := hz.rng hV.1
  obtain ⟨vs, h1, h0, t1, t2, t3, t4⟩ := hz.thr hV.1
  have hV1 := hV.mv t1 t2 (by decide) (by decide) (by decide) (by decide)
  have t5 : Frm sT [(11, 0), (11, 2)] M _ := t2.more (fun q hq => by cases List.mem_singleton.mp hq; exact List.mem_cons_self)
  unfold endA endZ
  by_cases hx : x < 0
  · rw [if_pos hx, if_pos hx]
    exact ⟨_, em_0 h1 h0 (by rw [if_pos hx]; exact em_17), hV1, t5, ⟨_, t3, t4⟩⟩
  · rw [if_neg hx, if_neg hx]
    by_cases hy : x ≤ z
    · rw [if_pos hy, if_pos hy]
      have x0 : 0 ≤ x.toInt := by rw [Int32.lt_iff_toInt_lt] at hx; exact Int.not_lt.mp hx
      have x1 : x.toInt ≤ z.toInt := Int32.le_iff_toInt_le.mp hy
      obtain ⟨u1, u2, u3, u4⟩ := LR.set (w := x) t1 t3 x0 (by omega)
      exact ⟨_, em_0 h1 h0 (by rw [if_neg hx]; exact em_9 t3 t4 (by rw [if_pos hy]; exact em_19 t3 u4)), hV1.mv u1 u2 (by decide) (by decide) (by decide) (by decide), t5.trans (u2.more (fun q hq => by cases List.mem_singleton.mp hq; exact List.mem_cons_of_mem _ List.mem_cons_self)), u3⟩
    · rw [if_neg hy, if_neg hy]
      exact ⟨_, em_0 h1 h0 (by rw [if_neg hx]; exact em_9 t3 t4 (by rw [if_neg hy]; exact em_17)), hV1, t5, ⟨_, t3, t4⟩⟩
theorem ush_b (x : Int32) : 0 ≤ ((x.toUInt32 >>> ((24 : Int32).toUInt32 &&& Int32.toUInt32 31)).toInt32).toInt ∧ ((x.toUInt32 >>> ((24 : Int32).toUInt32 &&& Int32.toUInt32 31)).toInt32).toInt ≤ 255 := by
  obtain ⟨z, h1, h2, h3⟩ := opI_V (i := .iushr) (x := x) (y := 24) (ix := ivF) (iy := (24, 24)) (p := (0, 255)) (full_in x) ⟨by decide, by decide⟩ (by rfl) []
  have h4 : (x.toUInt32 >>> ((24 : Int32).toUInt32 &&& Int32.toUInt32 31)).toInt32 = z := by
    have h5 := Option.some.inj h1
    injection h5 with h6 _
    injection h6
  rw [h4]
  exact ⟨h2, h3⟩
theorem a255_b (x : Int32) : 0 ≤ (x &&& 255).toInt ∧ (x &&& 255).toInt ≤ 255 := by
  obtain ⟨m, h1, h2⟩ := and_le x (n := 255) (by decide)
  have h3 : x &&& 255 = nI m := h2
  rw [h3, nI_toInt (by omega)]
  omega
/-- the class's tape and its row -/
theorem tp_st {vs : List Value} {b : Nat} {l : List Int32} {M : Mem} (hT : TM sT sG M) (h1 : gNth M 1 = some (.inr (5, vs))) (h2 : gNth M b = some (.inl (1, .inl l))) (hl : l.length = 440) (sb : gNth sT b = some 2) (n : Nat) {w : Int32} (hw : 0 ≤ w.toInt ∧ w.toInt ≤ 255) : TM sT sG (gPut M b (.inl (1, .inl (gPut l n w)))) ∧ Frm sT [(5, 1), (1002, 0)] M (gPut M b (.inl (1, .inl (gPut l n w)))) ∧ gNth (gPut M b (.inl (1, .inl (gPut l n w)))) 1 = some (.inr (5, vs)) ∧ gNth (gPut M b (.inl (1, .inl (gPut l n w)))) b = some (.inl (1, .inl (gPut l n w))) ∧ (gPut l n w).length = 440 := by
  obtain ⟨l', r1, r2, _, r4⟩ := hT.irow sb tp_b.2.2.2
  cases h2.symm.trans r1
  refine ⟨r4 n w hw.1 hw.2, Frm.row h2 sb (by decide), ?_, by rw [nth_put, if_pos ⟨rfl, gNth_lt _ _ _ h2⟩], by rw [put_len]; exact hl⟩
  rw [nth_put, if_neg]
  · exact h1
  · intro q
    have q1 : 1 = b := q.1
    subst q1
    rw [h1] at h2
    cases h2
theorem ev_put {e : Nat} {M : Mem} {z x : Int32} (hT : TM sT sG M) (hz : LC z M) (z0 : 0 ≤ z.toInt) (z1 : z.toInt ≤ 436) : ∃ M', Ev none e 49 0 [some (.ref 1), some (.int x)] [] M none M' 0 0 ∧ TM sT sG M' ∧ Frm sT [(5, 1), (1002, 0)] M M' ∧ LC (z + 4) M' := by
  obtain ⟨vs, h1, h2⟩ := hz
  obtain ⟨vs', b, q1, q2, sb⟩ := hT.fref tp_1 tp_b.2.1
  cases h1.symm.trans q1
  obtain ⟨l, r1, r2, _⟩ := hT.irow sb tp_b.2.2.2
  obtain ⟨n, hn⟩ : ∃ n : Nat, z.toInt = (n : Int) := ⟨z.toInt.toNat, by omega⟩
  have o1 : (1 : Int32).toInt = 1 := rfl
  have o2 : (2 : Int32).toInt = 2 := rfl
  have o3 : (3 : Int32).toInt = 3 := rfl
  have o4 : (4 : Int32).toInt = 4 := rfl
  have e1 : (z + 1).toInt = ((n + 1 : Nat) : Int) := by rw [i32_add (by omega) (by omega)]; omega
  have e2 : (z + 2).toInt = ((n + 2 : Nat) : Int) := by rw [i32_add (by omega) (by omega)]; omega
  have e3 : (z + 3).toInt = ((n + 3 : Nat) : Int) := by rw [i32_add (by omega) (by omega)]; omega
  have e4 : (z + 4).toInt = z.toInt + 4 := by rw [i32_add (by omega) (by omega)]; omega
  obtain ⟨y0, a0, _⟩ := at_c (l := l) hn (by omega)
  obtain ⟨t1, f1, g1, i1, n1⟩ := tp_st hT h1 r1 r2 sb z.toNatClampNeg (ush_b x)
  obtain ⟨y1, a1, _⟩ := at_c (l := gPut l z.toNatClampNeg ((x.toUInt32 >>> ((24 : Int32).toUInt32 &&& Int32.toUInt32 31)).toInt32)) e1 (by omega)
  obtain ⟨t2, f2, g2, i2, n2⟩ := tp_st t1 g1 i1 n1 sb (z + 1).toNatClampNeg (a255_b ((x.toUInt32 >>> ((16 : Int32).toUInt32 &&& Int32.toUInt32 31)).toInt32))
  obtain ⟨y2, a2, _⟩ := at_c (l := gPut (gPut l z.toNatClampNeg ((x.toUInt32 >>> ((24 : Int32).toUInt32 &&& Int32.toUInt32 31)).toInt32)) (z + 1).toNatClampNeg ((x.toUInt32 >>> ((16 : Int32).toUInt32 &&& Int32.toUInt32 31)).toInt32 &&& 255)) e2 (by omega)
  obtain ⟨t3, f3, g3, i3, n3⟩ := tp_st t2 g2 i2 n2 sb (z + 2).toNatClampNeg (a255_b ((x.toUInt32 >>> ((8 : Int32).toUInt32 &&& Int32.toUInt32 31)).toInt32))
  obtain ⟨y3, a3, _⟩ := at_c (l := gPut (gPut (gPut l z.toNatClampNeg ((x.toUInt32 >>> ((24 : Int32).toUInt32 &&& Int32.toUInt32 31)).toInt32)) (z + 1).toNatClampNeg ((x.toUInt32 >>> ((16 : Int32).toUInt32 &&& Int32.toUInt32 31)).toInt32 &&& 255)) (z + 2).toNatClampNeg ((x.toUInt32 >>> ((8 : Int32).toUInt32 &&& Int32.toUInt32 31)).toInt32 &&& 255)) e3 (by omega)
  obtain ⟨t4, f4, g4, i4, n4⟩ := tp_st t3 g3 i3 n3 sb (z + 3).toNatClampNeg (a255_b x)
  obtain ⟨u1, u2, u3, u4⟩ := LC.set (z := z) (w := z + 4) t4 g4 (by omega) (by omega)
  have f5 : Frm sT [(5, 1), (1002, 0)] _ _ := u2.more (md' := [(5, 1), (1002, 0)]) (fun q hq => by cases List.mem_singleton.mp hq; exact List.mem_cons_self)
  have hle : z ≤ 436 := Int32.le_iff_toInt_le.mpr z1
  exact ⟨_, pt_0 h1 h2 (by rw [if_pos hle]; exact pt_11 h1 q2 h2 r1 a0 (pt_24 g1 q2 h2 i1 a1 (pt_43 g2 q2 h2 i2 a2 (pt_62 g3 q2 h2 i3 a3 (pt_78 g4 h2 u4))))), u1, (((f1.trans f2).trans f3).trans f4).trans f5, u3⟩
theorem cal_pu {M : Mem} {vs : List Value} {x : Int32} {rest : List Value} (hM : gNth M 1 = some (.inr (5, vs))) (hr : gRoom rest = true) : gCal (.invokevirtual 91) 10 (.int x :: .ref 1 :: rest) M = some (.inr (49, [some (.ref 1), some (.int x)], rest)) := by
  show @cond (Option ((List Value × Mem) ⊕ (Nat × Lo × List Value))) (true && gRecv M (.ref 1) 5 && gRoom rest && true) (some (.inr (49, [some (.ref 1), some (.int x)], rest))) none = _
  rw [recv_c hM, hr]
  rfl
def feedA (z : Int32) : Int32 := if z + 20 ≤ 440 then z + 20 else -1
def feedZ (z : Int32) : Int32 := if z + 20 ≤ 440 then z + 20 else z
theorem feed_5 {z : Int32} (z0 : 0 ≤ z.toInt) (h : z.toInt ≤ 420) : z + 4 + 4 + 4 + 4 + 4 = z + 20 := by
  have o4 : (4 : Int32).toInt = 4 := rfl
  have o20 : (20 : Int32).toInt = 20 := rfl
  have e1 : (z + 4).toInt = z.toInt + 4 := by rw [i32_add (by omega) (by omega)]; omega
  have e2 : (z + 4 + 4).toInt = z.toInt + 8 := by rw [i32_add (by omega) (by omega)]; omega
  have e3 : (z + 4 + 4 + 4).toInt = z.toInt + 12 := by rw [i32_add (by omega) (by omega)]; omega
  have e4 : (z + 4 + 4 + 4 + 4).toInt = z.toInt + 16 := by rw [i32_add (by omega) (by omega)]; omega
  exact Int32.toInt_inj.mp (by rw [i32_add (by omega) (by omega), i32_add (x := z) (by omega) (by omega)]; omega)
theorem ev_feedC {e : Nat} {M : Mem} {z x1 x2 x3 x4 x5 : Int32} (hV : INV M) (hz : LC z M) : ∃ M', Ev none (e + 1) 80 0 [some (.ref 0), some (.int x1), some (.int x2), some (.int x3), some (.int x4), some (.int x5)] [] M (some (.int (feedA z))) M' 0 0 ∧ INV M' ∧ Frm sT [(5, 1), (1002, 0)] M M' ∧ LC (feedZ z) M' := by
  obtain ⟨vp, p1, p2⟩ := INV.tape hV.1
  obtain ⟨z0, z1⟩ := hz.rng hV.1
  have o20 : (20 : Int32).toInt = 20 := rfl
  have o44 : (440 : Int32).toInt = 440 := rfl
  have e20 : (z + 20).toInt = z.toInt + 20 := by rw [i32_add (by omega) (by omega)]; omega
  unfold feedA feedZ
  by_cases hy : z + 20 ≤ 440
  rotate_left
  · rw [if_neg hy, if_neg hy]
    obtain ⟨vs, h1, h2⟩ := id hz
    exact ⟨M, ff_0 p1 p2 h1 h2 (by rw [if_neg hy]; exact ff_16), hV, Frm.refl _, hz⟩
  rw [if_pos hy, if_pos hy]
  have hz2 : z.toInt ≤ 420 := by have := Int32.le_iff_toInt_le.mp hy; omega
  have o4 : (4 : Int32).toInt = 4 := rfl
  have e1 : (z + 4).toInt = z.toInt + 4 := by rw [i32_add (by omega) (by omega)]; omega
  have e2 : (z + 4 + 4).toInt = z.toInt + 8 := by rw [i32_add (by omega) (by omega)]; omega
  have e3 : (z + 4 + 4 + 4).toInt = z.toInt + 12 := by rw [i32_add (by omega) (by omega)]; omega
  have e4 : (z + 4 + 4 + 4 + 4).toInt = z.toInt + 16 := by rw [i32_add (by omega) (by omega)]; omega
  obtain ⟨M1, a1, T1, F1, L1⟩ := ev_put (e := e) (x := x1) hV.1 hz z0 (by omega)
  obtain ⟨M2, a2, T2, F2, L2⟩ := ev_put (e := e) (x := x2) T1 L1 (by omega) (by omega)
  obtain ⟨M3, a3, T3, F3, L3⟩ := ev_put (e := e) (x := x3) T2 L2 (by omega) (by omega)
  obtain ⟨M4, a4, T4, F4, L4⟩ := ev_put (e := e) (x := x4) T3 L3 (by omega) (by omega)
  obtain ⟨M5, a5, T5, F5, L5⟩ := ev_put (e := e) (x := x5) T4 L4 (by omega) (by omega)
  have F9 := (((F1.trans F2).trans F3).trans F4).trans F5
  rw [feed_5 z0 hz2] at L5
  obtain ⟨v0, c0, d0⟩ := id hz
  obtain ⟨v1, c1, d1⟩ := L1
  obtain ⟨v2, c2, d2⟩ := L2
  obtain ⟨v3, c3, d3⟩ := L3
  obtain ⟨v4, c4, d4⟩ := L4
  obtain ⟨v5, c5, d5⟩ := id L5
  obtain ⟨w1, i1, j1⟩ := INV.tape T1
  obtain ⟨w2, i2, j2⟩ := INV.tape T2
  obtain ⟨w3, i3, j3⟩ := INV.tape T3
  obtain ⟨w4, i4, j4⟩ := INV.tape T4
  obtain ⟨w5, i5, j5⟩ := INV.tape T5
  refine ⟨M5, ff_0 p1 p2 c0 d0 ?_, hV.mv T5 F9 (by decide) (by decide) (by decide) (by decide), F9, L5⟩
  rw [if_pos hy]
  refine ff_18 p1 p2 (Ev.call0 (fun n => gs_7 rfl rfl (cal_pu c0 rfl)) a1 ?_)
  refine ff_26 i1 j1 (Ev.call0 (fun n => gs_7 rfl rfl (cal_pu c1 rfl)) a2 ?_)
  refine ff_34 i2 j2 (Ev.call0 (fun n => gs_7 rfl rfl (cal_pu c2 rfl)) a3 ?_)
  refine ff_42 i3 j3 (Ev.call0 (fun n => gs_7 rfl rfl (cal_pu c3 rfl)) a4 ?_)
  refine ff_51 i4 j4 (Ev.call0 (fun n => gs_7 rfl rfl (cal_pu c4 rfl)) a5 ?_)
  exact ff_60 i5 j5 c5 d5
/-- one byte of the reference's tape -/
theorem fo_it {e : Nat} {M : Mem} {z x k : Int32} (hT : TM sT sG M) (hz : LR z M) (z0 : 0 ≤ z.toInt) (z1 : z.toInt ≤ 439) (hk : ¬ k < 0) : ∃ M1, (∀ v M', Ev none e 137 3 [some (.ref 633), some (.int x), some (.int (k + Int32.ofInt (-8)))] [] M1 v M' 0 0 → Ev none e 137 3 [some (.ref 633), some (.int x), some (.int k)] [] M v M' 0 0) ∧ TM sT sG M1 ∧ Frm sT [(11, 2), (1062, 0)] M M1 ∧ LR (z + 1) M1 := by
  obtain ⟨vs, h1, h2⟩ := hz
  obtain ⟨vs', b, q1, q2, sb⟩ := hT.fref tp_633 tp_m.2.1
  cases h1.symm.trans q1
  obtain ⟨l, r1, r2, r3⟩ := hT.mrow sb tp_m.2.2
  obtain ⟨n, hn⟩ : ∃ n : Nat, z.toInt = (n : Int) := ⟨z.toInt.toNat, by omega⟩
  obtain ⟨y0, a0, _⟩ := at_c (l := l) hn (by omega)
  have o1 : (1 : Int32).toInt = 1 := rfl
  have e1 : (z + 1).toInt = z.toInt + 1 := by rw [i32_add (by omega) (by omega)]; omega
  have hb : b ≠ 633 := fun q => by
    subst q
    rw [h1] at r1
    cases r1
  have t1 : TM sT sG (gPut M b (.inl (0, .inl (gPut l z.toNatClampNeg (vp_nar .byte ((x >>> (k &&& 31)).toInt8.toInt32)))))) := hT.putrow (n := 440) (lo := -128) (hi := 127) sb (by decide +kernel) (by rw [put_len]; exact r2) (fun j w hj => by
    rw [nth_put] at hj
    split at hj
    · cases hj; exact nar_b _
    · exact r3 j w hj)
  have f1 : Frm sT [(11, 2), (1062, 0)] M _ := Frm.row (y := .inl (gPut l z.toNatClampNeg (vp_nar .byte ((x >>> (k &&& 31)).toInt8.toInt32)))) r1 sb (by decide)
  have g1 : gNth (gPut M b (.inl (0, .inl (gPut l z.toNatClampNeg (vp_nar .byte ((x >>> (k &&& 31)).toInt8.toInt32)))))) 633 = some (.inr (11, vs)) := by
    rw [nth_put, if_neg (fun q => hb q.1.symm)]
    exact h1
  obtain ⟨u1, u2, u3, u4⟩ := LR.set (w := z + 1) t1 g1 (by omega) (by omega)
  exact ⟨_, fun v M' h => fo_3 (by rw [if_neg hk]; exact fo_7 h1 q2 h2 r1 a0 (fo_20 g1 h2 u4 h)), u1, f1.trans (u2.more (fun q hq => by cases List.mem_singleton.mp hq; exact List.mem_cons_self)), u3⟩
theorem ev_four {e : Nat} {M : Mem} {z x : Int32} {w2 : Option Value} (hT : TM sT sG M) (hz : LR z M) (z0 : 0 ≤ z.toInt) (z1 : z.toInt ≤ 436) : ∃ M', Ev none e 137 0 [some (.ref 633), some (.int x), w2] [] M none M' 0 0 ∧ TM sT sG M' ∧ Frm sT [(11, 2), (1062, 0)] M M' ∧ LR (z + 1 + 1 + 1 + 1) M' := by
  have o1 : (1 : Int32).toInt = 1 := rfl
  have e1 : (z + 1).toInt = z.toInt + 1 := by rw [i32_add (by omega) (by omega)]; omega
  have e2 : (z + 1 + 1).toInt = z.toInt + 2 := by rw [i32_add (by omega) (by omega)]; omega
  have e3 : (z + 1 + 1 + 1).toInt = z.toInt + 3 := by rw [i32_add (by omega) (by omega)]; omega
  obtain ⟨M1, a1, T1, F1, L1⟩ := fo_it (e := e) (x := x) (k := 24) hT hz z0 (by omega) (by decide)
  obtain ⟨M2, a2, T2, F2, L2⟩ := fo_it (e := e) (x := x) (k := 24 + Int32.ofInt (-8)) T1 L1 (by omega) (by omega) (by decide)
  obtain ⟨M3, a3, T3, F3, L3⟩ := fo_it (e := e) (x := x) (k := 24 + Int32.ofInt (-8) + Int32.ofInt (-8)) T2 L2 (by omega) (by omega) (by decide)
  obtain ⟨M4, a4, T4, F4, L4⟩ := fo_it (e := e) (x := x) (k := 24 + Int32.ofInt (-8) + Int32.ofInt (-8) + Int32.ofInt (-8)) T3 L3 (by omega) (by omega) (by decide)
  exact ⟨M4, fo_0 (a1 _ _ (a2 _ _ (a3 _ _ (a4 _ _ (fo_3 (by rw [if_pos (by decide)]; exact fo_36)))))), T4, ((F1.trans F2).trans F3).trans F4, L4⟩
theorem four_4 {z : Int32} (z0 : 0 ≤ z.toInt) (h : z.toInt ≤ 436) : z + 1 + 1 + 1 + 1 = z + 4 := by
  have o1 : (1 : Int32).toInt = 1 := rfl
  have o4 : (4 : Int32).toInt = 4 := rfl
  have e1 : (z + 1).toInt = z.toInt + 1 := by rw [i32_add (by omega) (by omega)]; omega
  have e2 : (z + 1 + 1).toInt = z.toInt + 2 := by rw [i32_add (by omega) (by omega)]; omega
  have e3 : (z + 1 + 1 + 1).toInt = z.toInt + 3 := by rw [i32_add (by omega) (by omega)]; omega
  exact Int32.toInt_inj.mp (by rw [i32_add (by omega) (by omega), i32_add (x := z) (by omega) (by omega)]; omega)
theorem cal_fo {M : Mem} {vs : List Value} {x : Int32} {rest : List Value} (hM : gNth M 633 = some (.inr (11, vs))) (hr : gRoom rest = true) : gCal (.invokevirtual 10) 11 (.int x :: .ref 633 :: rest) M = some (.inr (137, [some (.ref 633), some (.int x), none], rest)) := by
  show @cond (Option ((List Value × Mem) ⊕ (Nat × Lo × List Value))) (true && gRecv M (.ref 633) 11 && gRoom rest && true) (some (.inr (137, [some (.ref 633), some (.int x), none], rest))) none = _
  rw [recv_c hM, hr]
  rfl
theorem ev_feedR {e : Nat} {M : Mem} {z x1 x2 x3 x4 x5 : Int32} (hV : INV M) (hz : LR z M) : ∃ M', Ev none (e + 1) 136 0 [some (.ref 633), some (.int x1), some (.int x2), some (.int x3), some (.int x4), some (.int x5)] [] M (some (.int (feedA z))) M' 0 0 ∧ INV M' ∧ Frm sT [(11, 0), (11, 2), (1062, 0)] M M' ∧ LR (feedZ z) M' := by
  obtain ⟨z0, z1⟩ := hz.rng hV.1
  obtain ⟨vs, h1, h0, T0, F0, c0, d0⟩ := hz.thr hV.1
  have F0' : Frm sT [(11, 0), (11, 2), (1062, 0)] M _ := F0.more (fun q hq => by cases List.mem_singleton.mp hq; exact List.mem_cons_self)
  have o20 : (20 : Int32).toInt = 20 := rfl
  have o44 : (440 : Int32).toInt = 440 := rfl
  have e20 : (z + 20).toInt = z.toInt + 20 := by rw [i32_add (by omega) (by omega)]; omega
  unfold feedA feedZ
  by_cases hy : z + 20 ≤ 440
  rotate_left
  · rw [if_neg hy, if_neg hy]
    exact ⟨_, fm_0 h1 h0 (fm_5 c0 d0 (by rw [if_neg hy]; exact fm_18)), hV.mv T0 F0 (by decide) (by decide) (by decide) (by decide), F0', ⟨_, c0, d0⟩⟩
  rw [if_pos hy, if_pos hy]
  have hz2 : z.toInt ≤ 420 := by have := Int32.le_iff_toInt_le.mp hy; omega
  have o4 : (4 : Int32).toInt = 4 := rfl
  have e1 : (z + 4).toInt = z.toInt + 4 := by rw [i32_add (by omega) (by omega)]; omega
  have e2 : (z + 4 + 4).toInt = z.toInt + 8 := by rw [i32_add (by omega) (by omega)]; omega
  have e3 : (z + 4 + 4 + 4).toInt = z.toInt + 12 := by rw [i32_add (by omega) (by omega)]; omega
  have e4 : (z + 4 + 4 + 4 + 4).toInt = z.toInt + 16 := by rw [i32_add (by omega) (by omega)]; omega
  obtain ⟨M1, a1, T1, F1, L1⟩ := ev_four (e := e) (x := x1) (w2 := none) T0 ⟨_, c0, d0⟩ z0 (by omega)
  rw [four_4 z0 (by omega)] at L1
  obtain ⟨M2, a2, T2, F2, L2⟩ := ev_four (e := e) (x := x2) (w2 := none) T1 L1 (by omega) (by omega)
  rw [four_4 (by omega) (by omega)] at L2
  obtain ⟨M3, a3, T3, F3, L3⟩ := ev_four (e := e) (x := x3) (w2 := none) T2 L2 (by omega) (by omega)
  rw [four_4 (by omega) (by omega)] at L3
  obtain ⟨M4, a4, T4, F4, L4⟩ := ev_four (e := e) (x := x4) (w2 := none) T3 L3 (by omega) (by omega)
  rw [four_4 (by omega) (by omega)] at L4
  obtain ⟨M5, a5, T5, F5, L5⟩ := ev_four (e := e) (x := x5) (w2 := none) T4 L4 (by omega) (by omega)
  rw [four_4 (by omega) (by omega), feed_5 z0 hz2] at L5
  have F9 : Frm sT [(11, 0), (11, 2), (1062, 0)] M M5 := F0'.trans (((((F1.trans F2).trans F3).trans F4).trans F5).more (fun q hq => List.mem_cons_of_mem _ hq))
  obtain ⟨v1, c1, d1⟩ := L1
  obtain ⟨v2, c2, d2⟩ := L2
  obtain ⟨v3, c3, d3⟩ := L3
  obtain ⟨v4, c4, d4⟩ := L4
  obtain ⟨v5, c5, d5⟩ := id L5
  refine ⟨M5, fm_0 h1 h0 (fm_5 c0 d0 ?_), hV.mv T5 F9 (by decide) (by decide) (by decide) (by decide), F9, L5⟩
  rw [if_pos hy]
  refine fm_20 (Ev.call0 (fun n => gs_7 rfl rfl (cal_fo c0 rfl)) a1 ?_)
  refine fm_25 (Ev.call0 (fun n => gs_7 rfl rfl (cal_fo c1 rfl)) a2 ?_)
  refine fm_30 (Ev.call0 (fun n => gs_7 rfl rfl (cal_fo c2 rfl)) a3 ?_)
  refine fm_35 (Ev.call0 (fun n => gs_7 rfl rfl (cal_fo c3 rfl)) a4 ?_)
  refine fm_41 (Ev.call0 (fun n => gs_7 rfl rfl (cal_fo c4 rfl)) a5 ?_)
  exact fm_47 c5 d5
