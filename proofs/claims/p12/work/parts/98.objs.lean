/-! BY HAND, for any object: reading and writing fields and rows (the class's side) -/
section OBJ
variable {M : Mem} {vs us : List Value} {a b ci cj o : Nat} {ini : Bool} {st : List Value}
theorem gf_c {ix k ty : Nat} {v : Value} (ho : gOwn fRs o ix = some (ci, k, ty)) (hM : gNth M a = some (.inr (ci, vs))) (hv : gNth vs k = some v) : gGet (.getfield ix) none o ini (.ref a :: st) M = some (v :: st, M) := by
  show (match gOwn fRs o ix, gNth M a with
    | some (ci, k, _), some (.inr (c, fs)) => match Nat.beq c ci, gNth fs k with
      | true, some v => some (v :: st, M)
      | _, _ => none
    | _, _ => none) = _
  rw [ho, hM]
  show (match Nat.beq ci ci, gNth vs k with
    | true, some v => some (v :: st, M)
    | _, _ => none) = _
  rw [hv, show Nat.beq ci ci = true from Nat.beq_refl ci]
theorem pf_c {ix k ty : Nat} {y : Int32} (ho : gOwn fRs o ix = some (ci, k, ty)) (hM : gNth M a = some (.inr (ci, vs))) (hl : k < vs.length) (hf : gFin ci k = false) (ht : fits (gTy ci k) (.int y) = true) : gGet (.putfield ix) none o ini (.int y :: .ref a :: st) M = some (st, gPut M a (.inr (ci, gPut vs k (.int y)))) := by
  show (match gOwn fRs o ix, gNth M a with
    | some (ci, k, _), some (.inr (c, fs)) => match Nat.beq c ci && Nat.blt k fs.length && (!gFin ci k || (ini && Nat.beq o ci)) && fits (gTy ci k) (.int y) with
      | true => some (st, gPut M a (.inr (c, gPut fs k (.int y))))
      | _ => none
    | _, _ => none) = _
  rw [ho, hM]
  show (match Nat.beq ci ci && Nat.blt k vs.length && (!gFin ci k || (ini && Nat.beq o ci)) && fits (gTy ci k) (.int y) with
      | true => some (st, gPut M a (.inr (ci, gPut vs k (.int y))))
      | _ => none) = _
  rw [hf, ht, show Nat.blt k vs.length = true from Nat.ble_eq_true_of_le hl, show Nat.beq ci ci = true from Nat.beq_refl ci]
  rfl
theorem ia_c {l : List Int32} {j x : Int32} (hs : gNth M a = some (.inl (1, .inl l))) (h0 : gAt l j = some x) : gGet .iaload none o ini (.int j :: .ref a :: st) M = some (.int x :: st, M) := by
  show (match gNth M a with
    | some (.inl (1, .inl l)) => match gAt l j with
      | some x => some (Value.int x :: st, M)
      | none => none
    | _ => none) = _
  rw [hs]
  show (match gAt l j with
      | some x => some (Value.int x :: st, M)
      | none => none) = _
  rw [h0]
theorem is_c {l : List Int32} {j x z : Int32} (hs : gNth M a = some (.inl (1, .inl l))) (h0 : gAt l j = some x) : gGet .iastore none o ini (.int z :: .int j :: .ref a :: st) M = some (st, gPut M a (.inl (1, .inl (gPut l j.toNatClampNeg z)))) := by
  show (match gNth M a with
    | some (.inl (1, .inl l)) => match gAt l j with
      | some _ => some (st, gPut M a (.inl (1, .inl (gPut l j.toNatClampNeg z))))
      | none => none
    | _ => none) = _
  rw [hs]
  show (match gAt l j with
      | some _ => some (st, gPut M a (.inl (1, .inl (gPut l j.toNatClampNeg z))))
      | none => none) = _
  rw [h0]
theorem aa_c {t : Nat} {l : List (Option Nat)} {j : Int32} (hs : gNth M a = some (.inl (t, .inr (.inr l)))) (h0 : gAt l j = some (some b)) (ht : (Nat.ble 4 t && Nat.ble t 8) = true) : gGet .aaload none o ini (.int j :: .ref a :: st) M = some (.ref b :: st, M) := by
  show (match gNth M a with
    | some (.inl (t, .inr (.inr l))) => match gAt l j with
      | some x => cond (Nat.ble 4 t && Nat.ble t 8) (some (va_rf x :: st, M)) none
      | none => none
    | _ => none) = _
  rw [hs]
  show (match gAt l j with
      | some x => cond (Nat.ble 4 t && Nat.ble t 8) (some (va_rf x :: st, M)) none
      | none => none) = _
  rw [h0, ht]
  rfl
theorem as_c {t : Nat} {l : List (Option Nat)} {x : Option Nat} {j : Int32} (hs : gNth M a = some (.inl (t, .inr (.inr l)))) (hb : gNth M b = some (.inr (cj, us))) (h0 : gAt l j = some x) (ht : gEl t = cj) : gGet .aastore none o ini (.ref b :: .int j :: .ref a :: st) M = some (st, gPut M a (.inl (t, .inr (.inr (gPut l j.toNatClampNeg (some b)))))) := by
  show (match gNth M a, gNth M b with
    | some (.inl (t, .inr (.inr l))), some (.inr (c, _)) => match gAt l j with
      | some _ => cond (Nat.beq (gEl t) c) (some (st, gPut M a (.inl (t, .inr (.inr (gPut l j.toNatClampNeg (some b))))))) none
      | none => none
    | _, _ => none) = _
  rw [hs, hb]
  show (match gAt l j with
      | some _ => cond (Nat.beq (gEl t) cj) (some (st, gPut M a (.inl (t, .inr (.inr (gPut l j.toNatClampNeg (some b))))))) none
      | none => none) = _
  rw [h0, ht, show Nat.beq cj cj = true from Nat.beq_refl cj]
  rfl
theorem recv_c (hM : gNth M a = some (.inr (ci, vs))) : gRecv M (.ref a) ci = true := by
  show (match gNth M a with
    | some (.inr (c, _)) => Nat.beq c ci
    | _ => false) = true
  rw [hM]
  exact Nat.beq_refl ci
/-- an object of a group: its fields -/
theorem TM.obj {g : Nat} {fs : List FT} (hT : TM sT sG M) (ha : gNth sT a = some g) (hg : gNth sG g = some (.inl (ci, fs))) : ∃ vs, gNth M a = some (.inr (ci, vs)) ∧ vs.length = fs.length ∧ ∀ k ft, gNth fs k = some ft → ∃ v, gNth vs k = some v ∧ ftOK sT ft v := by
  obtain ⟨e, e1, vs, rfl, e2, e3⟩ := hT.at ha hg
  exact ⟨vs, e1, e2, e3⟩
/-- a field of it is written -/
theorem TM.oput {g k : Nat} {fs : List FT} {ft : FT} {v : Value} (hT : TM sT sG M) (ha : gNth sT a = some g) (hg : gNth sG g = some (.inl (ci, fs))) (hM : gNth M a = some (.inr (ci, vs))) (hk : gNth fs k = some ft) (hv : ftOK sT ft v) : TM sT sG (gPut M a (.inr (ci, gPut vs k v))) := by
  obtain ⟨vs2, e1, e2, e3⟩ := hT.obj ha hg
  cases e1.symm.trans hM
  refine hT.put (fun g2 t q1 q2 => ?_)
  rw [ha] at q1
  cases q1
  rw [hg] at q2
  cases q2
  refine ⟨_, rfl, by rw [put_len]; exact e2, fun j fj hj => ?_⟩
  rw [nth_put]
  by_cases hjk : j = k ∧ k < vs.length
  · rw [if_pos hjk]
    rw [hjk.1] at hj
    cases hk.symm.trans hj
    exact ⟨v, rfl, hv⟩
  · rw [if_neg hjk]
    exact e3 j fj hj
end OBJ
/-! BY HAND, the class: sweep (its pieces) -/
theorem sw_0 {e : Nat} {M : Mem} {M' : Mem} {v : Option Value} {w : Nat} {x1 x2 x3 : Option Value}  (hz : Ev none e 61 4 [some (.ref w), some (.int 0), some (.int 0), x3] [] M v M' 0 0) : Ev none e 61 0 [some (.ref w), x1, x2, x3] [] M v M' 0 0 := by
  refine Ev.step (pc' := 4) (ls' := [some (.ref w), some (.int 0), some (.int 0), x3]) (st' := []) (M1 := M) 4 (fun n => rfl) ?_
  exact hz
theorem sw_4 {e : Nat} {M : Mem} {M' : Mem} {v : Option Value} {va2 vw : List Value} {i s y4 : Int32} {a2 w : Nat} {x3 : Option Value} (hw : gNth M w = some (.inr (7, vw))) (f1 : gNth vw 7 = some (.ref a2)) (ha2 : gNth M a2 = some (.inr (1, va2))) (f3 : gNth va2 15 = some (.int y4)) (hz : Ev none e 61 (if y4 ≤ i then 70 else 15) [some (.ref w), some (.int s), some (.int i), x3] [] M v M' 0 0) : Ev none e 61 4 [some (.ref w), some (.int s), some (.int i), x3] [] M v M' 0 0 := by
  refine Ev.step (pc' := 6) (ls' := [some (.ref w), some (.int s), some (.int i), x3]) (st' := [.ref w, .int i]) (M1 := M) 2 (fun n => rfl) ?_
  refine Ev.step 1 (gs_3 rfl rfl (gf_c rfl hw f1)) ?_
  refine Ev.step 1 (gs_3 rfl rfl (gf_c rfl ha2 f3)) ?_
  refine Ev.step (pc' := (if y4 ≤ i then 70 else 15)) (ls' := [some (.ref w), some (.int s), some (.int i), x3]) (st' := []) (M1 := M) 1 (fun n => rfl) ?_
  exact hz
theorem sw_15 {e : Nat} {M : Mem} {M' : Mem} {v : Option Value} {va2 va6 vw : List Value} {i s y8 : Int32} {a2 a4 a6 w : Nat} {la4 : List (Option Nat)} {x3 : Option Value} (hw : gNth M w = some (.inr (7, vw))) (f1 : gNth vw 7 = some (.ref a2)) (ha2 : gNth M a2 = some (.inr (1, va2))) (f3 : gNth va2 14 = some (.ref a4)) (ra4 : gNth M a4 = some (.inl (6, .inr (.inr la4)))) (g5 : gAt la4 i = some (some a6)) (ha6 : gNth M a6 = some (.inr (8, va6))) (f7 : gNth va6 0 = some (.int y8)) (hz : Ev none e 61 (if y8 = (-1) then 64 else 33) [some (.ref w), some (.int s), some (.int i), some (.ref a6)] [] M v M' 0 0) : Ev none e 61 15 [some (.ref w), some (.int s), some (.int i), x3] [] M v M' 0 0 := by
  refine Ev.step (pc' := 16) (ls' := [some (.ref w), some (.int s), some (.int i), x3]) (st' := [.ref w]) (M1 := M) 1 (fun n => rfl) ?_
  refine Ev.step 1 (gs_3 rfl rfl (gf_c rfl hw f1)) ?_
  refine Ev.step 1 (gs_3 rfl rfl (gf_c rfl ha2 f3)) ?_
  refine Ev.step (pc' := 23) (ls' := [some (.ref w), some (.int s), some (.int i), x3]) (st' := [.int i, .ref a4]) (M1 := M) 1 (fun n => rfl) ?_
  refine Ev.step 1 (gs_3 rfl rfl (aa_c ra4 g5 rfl)) ?_
  refine Ev.step (pc' := 26) (ls' := [some (.ref w), some (.int s), some (.int i), some (.ref a6)]) (st' := [.ref a6]) (M1 := M) 2 (fun n => rfl) ?_
  refine Ev.step 1 (gs_3 rfl rfl (gf_c rfl ha6 f7)) ?_
  refine Ev.step (pc' := (if y8 = (-1) then 64 else 33)) (ls' := [some (.ref w), some (.int s), some (.int i), some (.ref a6)]) (st' := []) (M1 := M) 2 (fun n => rfl) ?_
  exact hz
theorem sw_33 {e : Nat} {M : Mem} {M' : Mem} {v : Option Value} {va2 va6 vw : List Value} {i s : Int32} {a2 a4 a6 a8 o w : Nat} {la4 : List (Option Nat)} (hw : gNth M w = some (.inr (7, vw))) (f1 : gNth vw 7 = some (.ref a2)) (ha2 : gNth M a2 = some (.inr (1, va2))) (f3 : gNth va2 14 = some (.ref a4)) (ra4 : gNth M a4 = some (.inl (6, .inr (.inr la4)))) (g5 : gAt la4 s = some (some a6)) (ha6 : gNth M a6 = some (.inr (8, va6))) (g7 : gAt la4 i = some (some a8)) (hz : Ev none e 61 51 [some (.ref w), some (.int s), some (.int i), some (.ref o)] [] (gPut M a4 (.inl (6, .inr (.inr (gPut la4 i.toNatClampNeg (some a6)))))) v M' 0 0) : Ev none e 61 33 [some (.ref w), some (.int s), some (.int i), some (.ref o)] [] M v M' 0 0 := by
  refine Ev.step (pc' := 34) (ls' := [some (.ref w), some (.int s), some (.int i), some (.ref o)]) (st' := [.ref w]) (M1 := M) 1 (fun n => rfl) ?_
  refine Ev.step 1 (gs_3 rfl rfl (gf_c rfl hw f1)) ?_
  refine Ev.step 1 (gs_3 rfl rfl (gf_c rfl ha2 f3)) ?_
  refine Ev.step (pc' := 42) (ls' := [some (.ref w), some (.int s), some (.int i), some (.ref o)]) (st' := [.ref w, .int i, .ref a4]) (M1 := M) 2 (fun n => rfl) ?_
  refine Ev.step 1 (gs_3 rfl rfl (gf_c rfl hw f1)) ?_
  refine Ev.step 1 (gs_3 rfl rfl (gf_c rfl ha2 f3)) ?_
  refine Ev.step (pc' := 49) (ls' := [some (.ref w), some (.int s), some (.int i), some (.ref o)]) (st' := [.int s, .ref a4, .int i, .ref a4]) (M1 := M) 1 (fun n => rfl) ?_
  refine Ev.step 1 (gs_3 rfl rfl (aa_c ra4 g5 rfl)) ?_
  refine Ev.step 1 (gs_4 rfl rfl (as_c ra4 ha6 g7 rfl)) ?_
  exact hz
theorem sw_51 {e : Nat} {M : Mem} {M' : Mem} {v : Option Value} {va2 vo vw : List Value} {i s : Int32} {a2 a4 a6 o w : Nat} {la4 : List (Option Nat)} (hw : gNth M w = some (.inr (7, vw))) (f1 : gNth vw 7 = some (.ref a2)) (ha2 : gNth M a2 = some (.inr (1, va2))) (f3 : gNth va2 14 = some (.ref a4)) (ra4 : gNth M a4 = some (.inl (6, .inr (.inr la4)))) (ho : gNth M o = some (.inr (8, vo))) (g5 : gAt la4 s = some (some a6)) (hz : Ev none e 61 4 [some (.ref w), some (.int (s + 1)), some (.int (i + 1)), some (.ref o)] [] (gPut M a4 (.inl (6, .inr (.inr (gPut la4 s.toNatClampNeg (some o)))))) v M' 0 0) : Ev none e 61 51 [some (.ref w), some (.int s), some (.int i), some (.ref o)] [] M v M' 0 0 := by
  refine Ev.step (pc' := 52) (ls' := [some (.ref w), some (.int s), some (.int i), some (.ref o)]) (st' := [.ref w]) (M1 := M) 1 (fun n => rfl) ?_
  refine Ev.step 1 (gs_3 rfl rfl (gf_c rfl hw f1)) ?_
  refine Ev.step 1 (gs_3 rfl rfl (gf_c rfl ha2 f3)) ?_
  refine Ev.step (pc' := 60) (ls' := [some (.ref w), some (.int s), some (.int i), some (.ref o)]) (st' := [.ref o, .int s, .ref a4]) (M1 := M) 2 (fun n => rfl) ?_
  refine Ev.step 1 (gs_4 rfl rfl (as_c ra4 ho g5 rfl)) ?_
  refine Ev.step (pc' := 4) (ls' := [some (.ref w), some (.int (s + 1)), some (.int (i + 1)), some (.ref o)]) (st' := []) (M1 := (gPut M a4 (.inl (6, .inr (.inr (gPut la4 s.toNatClampNeg (some o))))))) 3 (fun n => rfl) ?_
  exact hz
theorem sw_64 {e : Nat} {M : Mem} {M' : Mem} {v : Option Value} {i s : Int32} {o w : Nat}  (hz : Ev none e 61 4 [some (.ref w), some (.int s), some (.int (i + 1)), some (.ref o)] [] M v M' 0 0) : Ev none e 61 64 [some (.ref w), some (.int s), some (.int i), some (.ref o)] [] M v M' 0 0 := by
  refine Ev.step (pc' := 4) (ls' := [some (.ref w), some (.int s), some (.int (i + 1)), some (.ref o)]) (st' := []) (M1 := M) 2 (fun n => rfl) ?_
  exact hz
theorem sw_70 {e : Nat} {M : Mem} {va2 vw : List Value} {i s : Int32} {a2 w : Nat} {x3 : Option Value} (hw : gNth M w = some (.inr (7, vw))) (f1 : gNth vw 7 = some (.ref a2)) (ha2 : gNth M a2 = some (.inr (1, va2))) (hla2 : 15 < va2.length) : Ev none e 61 70 [some (.ref w), some (.int s), some (.int i), x3] [] M none (gPut M a2 (.inr (1, gPut va2 15 (.int s)))) 0 0 := by
  refine Ev.step (pc' := 71) (ls' := [some (.ref w), some (.int s), some (.int i), x3]) (st' := [.ref w]) (M1 := M) 1 (fun n => rfl) ?_
  refine Ev.step 1 (gs_3 rfl rfl (gf_c rfl hw f1)) ?_
  refine Ev.step (pc' := 75) (ls' := [some (.ref w), some (.int s), some (.int i), x3]) (st' := [.int s, .ref a2]) (M1 := M) 1 (fun n => rfl) ?_
  refine Ev.step 1 (gs_4 rfl rfl (pf_c rfl ha2 hla2 rfl rfl)) ?_
  exact Ev.ret (fun n => rfl)
/-! BY HAND, the class: leaveIfDone, Walker.begin (their pieces) -/
theorem ld_0 {e : Nat} {M : Mem} {M' : Mem} {v : Option Value} {vo : List Value} {gl y2 : Int32} {o w : Nat} {x3 : Option Value} (ho : gNth M o = some (.inr (8, vo))) (f1 : gNth vo 0 = some (.int y2)) (hz : Ev none e 60 (if y2 = gl then 8 else 12) [some (.ref w), some (.ref o), some (.int gl), x3] [] M v M' 0 0) : Ev none e 60 0 [some (.ref w), some (.ref o), some (.int gl), x3] [] M v M' 0 0 := by
  refine Ev.step (pc' := 1) (ls' := [some (.ref w), some (.ref o), some (.int gl), x3]) (st' := [.ref o]) (M1 := M) 1 (fun n => rfl) ?_
  refine Ev.step 1 (gs_3 rfl rfl (gf_c rfl ho f1)) ?_
  refine Ev.step (pc' := (if y2 = gl then 8 else 12)) (ls' := [some (.ref w), some (.ref o), some (.int gl), x3]) (st' := []) (M1 := M) 2 (fun n => rfl) ?_
  exact hz
theorem ld_8 {e : Nat} {M : Mem} {M' : Mem} {v : Option Value} {gl : Int32} {o w : Nat} {x3 : Option Value}  (hz : Ev none e 60 (if 1 = 0 then 18 else 29) [some (.ref w), some (.ref o), some (.int gl), some (.int 1)] [] M v M' 0 0) : Ev none e 60 8 [some (.ref w), some (.ref o), some (.int gl), x3] [] M v M' 0 0 := by
  refine Ev.step (pc' := (if 1 = 0 then 18 else 29)) (ls' := [some (.ref w), some (.ref o), some (.int gl), some (.int 1)]) (st' := []) (M1 := M) 5 (fun n => rfl) ?_
  exact hz
theorem ld_12 {e : Nat} {M : Mem} {M' : Mem} {v : Option Value} {gl : Int32} {o w : Nat} {x3 : Option Value}  (hz : Ev none e 60 (if 0 = 0 then 18 else 29) [some (.ref w), some (.ref o), some (.int gl), some (.int 0)] [] M v M' 0 0) : Ev none e 60 12 [some (.ref w), some (.ref o), some (.int gl), x3] [] M v M' 0 0 := by
  refine Ev.step (pc' := (if 0 = 0 then 18 else 29)) (ls' := [some (.ref w), some (.ref o), some (.int gl), some (.int 0)]) (st' := []) (M1 := M) 4 (fun n => rfl) ?_
  exact hz
theorem ld_18 {e : Nat} {M : Mem} {M' : Mem} {v : Option Value} {vo : List Value} {ar gl y2 : Int32} {o w : Nat} (ho : gNth M o = some (.inr (8, vo))) (f1 : gNth vo 2 = some (.int y2)) (hz : Ev none e 60 (if 200 ≤ y2 then 29 else 28) [some (.ref w), some (.ref o), some (.int gl), some (.int ar)] [] M v M' 0 0) : Ev none e 60 18 [some (.ref w), some (.ref o), some (.int gl), some (.int ar)] [] M v M' 0 0 := by
  refine Ev.step (pc' := 19) (ls' := [some (.ref w), some (.ref o), some (.int gl), some (.int ar)]) (st' := [.ref o]) (M1 := M) 1 (fun n => rfl) ?_
  refine Ev.step 1 (gs_3 rfl rfl (gf_c rfl ho f1)) ?_
  refine Ev.step (pc' := (if 200 ≤ y2 then 29 else 28)) (ls' := [some (.ref w), some (.ref o), some (.int gl), some (.int ar)]) (st' := []) (M1 := M) 2 (fun n => rfl) ?_
  exact hz
theorem ld_28 {e : Nat} {M : Mem} {ar gl : Int32} {o w : Nat}  : Ev none e 60 28 [some (.ref w), some (.ref o), some (.int gl), some (.int ar)] [] M none M 0 0 := by
  exact Ev.ret (fun n => rfl)
theorem ld_29 {e : Nat} {M : Mem} {M' : Mem} {v : Option Value} {va2 vw : List Value} {ar gl y4 : Int32} {a2 o w : Nat} (hw : gNth M w = some (.inr (7, vw))) (f1 : gNth vw 7 = some (.ref a2)) (ha2 : gNth M a2 = some (.inr (1, va2))) (f3 : gNth va2 17 = some (.int y4)) (hz : Ev none e 60 (if ar = 0 then 45 else 41) [some (.ref w), some (.ref o), some (.int gl), some (.int ar)] [.int y4, .ref a2] M v M' 0 0) : Ev none e 60 29 [some (.ref w), some (.ref o), some (.int gl), some (.int ar)] [] M v M' 0 0 := by
  refine Ev.step (pc' := 30) (ls' := [some (.ref w), some (.ref o), some (.int gl), some (.int ar)]) (st' := [.ref w]) (M1 := M) 1 (fun n => rfl) ?_
  refine Ev.step 1 (gs_3 rfl rfl (gf_c rfl hw f1)) ?_
  refine Ev.step (pc' := 34) (ls' := [some (.ref w), some (.ref o), some (.int gl), some (.int ar)]) (st' := [.ref a2, .ref a2]) (M1 := M) 1 (fun n => rfl) ?_
  refine Ev.step 1 (gs_3 rfl rfl (gf_c rfl ha2 f3)) ?_
  refine Ev.step (pc' := (if ar = 0 then 45 else 41)) (ls' := [some (.ref w), some (.ref o), some (.int gl), some (.int ar)]) (st' := [.int y4, .ref a2]) (M1 := M) 2 (fun n => rfl) ?_
  exact hz
theorem ld_41 {e : Nat} {M : Mem} {M' : Mem} {v : Option Value} {vld : List Value} {ar gl u : Int32} {ld o w : Nat} (hld : gNth M ld = some (.inr (1, vld))) (hlld : 17 < vld.length) (hz : Ev none e 60 50 [some (.ref w), some (.ref o), some (.int gl), some (.int ar)] [] (gPut M ld (.inr (1, gPut vld 17 (.int (u + 1))))) v M' 0 0) : Ev none e 60 41 [some (.ref w), some (.ref o), some (.int gl), some (.int ar)] [.int u, .ref ld] M v M' 0 0 := by
  refine Ev.step (pc' := 47) (ls' := [some (.ref w), some (.ref o), some (.int gl), some (.int ar)]) (st' := [.int (u + 1), .ref ld]) (M1 := M) 3 (fun n => rfl) ?_
  refine Ev.step 1 (gs_4 rfl rfl (pf_c rfl hld hlld rfl rfl)) ?_
  exact hz
theorem ld_45 {e : Nat} {M : Mem} {M' : Mem} {v : Option Value} {vld : List Value} {ar gl u : Int32} {ld o w : Nat} (hld : gNth M ld = some (.inr (1, vld))) (hlld : 17 < vld.length) (hz : Ev none e 60 50 [some (.ref w), some (.ref o), some (.int gl), some (.int ar)] [] (gPut M ld (.inr (1, gPut vld 17 (.int (u + 0))))) v M' 0 0) : Ev none e 60 45 [some (.ref w), some (.ref o), some (.int gl), some (.int ar)] [.int u, .ref ld] M v M' 0 0 := by
  refine Ev.step (pc' := 47) (ls' := [some (.ref w), some (.ref o), some (.int gl), some (.int ar)]) (st' := [.int (u + 0), .ref ld]) (M1 := M) 2 (fun n => rfl) ?_
  refine Ev.step 1 (gs_4 rfl rfl (pf_c rfl hld hlld rfl rfl)) ?_
  exact hz
theorem ld_50 {e : Nat} {M : Mem} {M' : Mem} {v : Option Value} {va2 vw : List Value} {ar gl y4 : Int32} {a2 o w : Nat} (hw : gNth M w = some (.inr (7, vw))) (f1 : gNth vw 7 = some (.ref a2)) (ha2 : gNth M a2 = some (.inr (1, va2))) (f3 : gNth va2 18 = some (.int y4)) (hz : Ev none e 60 (if ar = 0 then 66 else 62) [some (.ref w), some (.ref o), some (.int gl), some (.int ar)] [.int y4, .ref a2] M v M' 0 0) : Ev none e 60 50 [some (.ref w), some (.ref o), some (.int gl), some (.int ar)] [] M v M' 0 0 := by
  refine Ev.step (pc' := 51) (ls' := [some (.ref w), some (.ref o), some (.int gl), some (.int ar)]) (st' := [.ref w]) (M1 := M) 1 (fun n => rfl) ?_
  refine Ev.step 1 (gs_3 rfl rfl (gf_c rfl hw f1)) ?_
  refine Ev.step (pc' := 55) (ls' := [some (.ref w), some (.ref o), some (.int gl), some (.int ar)]) (st' := [.ref a2, .ref a2]) (M1 := M) 1 (fun n => rfl) ?_
  refine Ev.step 1 (gs_3 rfl rfl (gf_c rfl ha2 f3)) ?_
  refine Ev.step (pc' := (if ar = 0 then 66 else 62)) (ls' := [some (.ref w), some (.ref o), some (.int gl), some (.int ar)]) (st' := [.int y4, .ref a2]) (M1 := M) 2 (fun n => rfl) ?_
  exact hz
theorem ld_62 {e : Nat} {M : Mem} {M' : Mem} {v : Option Value} {vld : List Value} {ar gl u : Int32} {ld o w : Nat} (hld : gNth M ld = some (.inr (1, vld))) (hlld : 18 < vld.length) (hz : Ev none e 60 71 [some (.ref w), some (.ref o), some (.int gl), some (.int ar)] [] (gPut M ld (.inr (1, gPut vld 18 (.int (u + 0))))) v M' 0 0) : Ev none e 60 62 [some (.ref w), some (.ref o), some (.int gl), some (.int ar)] [.int u, .ref ld] M v M' 0 0 := by
  refine Ev.step (pc' := 68) (ls' := [some (.ref w), some (.ref o), some (.int gl), some (.int ar)]) (st' := [.int (u + 0), .ref ld]) (M1 := M) 3 (fun n => rfl) ?_
  refine Ev.step 1 (gs_4 rfl rfl (pf_c rfl hld hlld rfl rfl)) ?_
  exact hz
theorem ld_66 {e : Nat} {M : Mem} {M' : Mem} {v : Option Value} {vld : List Value} {ar gl u : Int32} {ld o w : Nat} (hld : gNth M ld = some (.inr (1, vld))) (hlld : 18 < vld.length) (hz : Ev none e 60 71 [some (.ref w), some (.ref o), some (.int gl), some (.int ar)] [] (gPut M ld (.inr (1, gPut vld 18 (.int (u + 1))))) v M' 0 0) : Ev none e 60 66 [some (.ref w), some (.ref o), some (.int gl), some (.int ar)] [.int u, .ref ld] M v M' 0 0 := by
  refine Ev.step (pc' := 68) (ls' := [some (.ref w), some (.ref o), some (.int gl), some (.int ar)]) (st' := [.int (u + 1), .ref ld]) (M1 := M) 2 (fun n => rfl) ?_
  refine Ev.step 1 (gs_4 rfl rfl (pf_c rfl hld hlld rfl rfl)) ?_
  exact hz
theorem ld_71 {e : Nat} {M : Mem} {M' : Mem} {v : Option Value} {va2 vo vw : List Value} {ar gl y6 y8 : Int32} {a2 a4 o w : Nat} {la4 : List Int32} (hw : gNth M w = some (.inr (7, vw))) (f1 : gNth vw 7 = some (.ref a2)) (ha2 : gNth M a2 = some (.inr (1, va2))) (f3 : gNth va2 9 = some (.ref a4)) (ho : gNth M o = some (.inr (8, vo))) (f5 : gNth vo 0 = some (.int y6)) (ra4 : gNth M a4 = some (.inl (1, .inl la4))) (g7 : gAt la4 y6 = some y8) (hz : Ev none e 60 87 [some (.ref w), some (.ref o), some (.int gl), some (.int ar)] [] (gPut M a4 (.inl (1, .inl (gPut la4 y6.toNatClampNeg (y8 - 1))))) v M' 0 0) : Ev none e 60 71 [some (.ref w), some (.ref o), some (.int gl), some (.int ar)] [] M v M' 0 0 := by
  refine Ev.step (pc' := 72) (ls' := [some (.ref w), some (.ref o), some (.int gl), some (.int ar)]) (st' := [.ref w]) (M1 := M) 1 (fun n => rfl) ?_
  refine Ev.step 1 (gs_3 rfl rfl (gf_c rfl hw f1)) ?_
  refine Ev.step 1 (gs_3 rfl rfl (gf_c rfl ha2 f3)) ?_
  refine Ev.step (pc' := 79) (ls' := [some (.ref w), some (.ref o), some (.int gl), some (.int ar)]) (st' := [.ref o, .ref a4]) (M1 := M) 1 (fun n => rfl) ?_
  refine Ev.step 1 (gs_3 rfl rfl (gf_c rfl ho f5)) ?_
  refine Ev.step (pc' := 83) (ls' := [some (.ref w), some (.ref o), some (.int gl), some (.int ar)]) (st' := [.int y6, .ref a4, .int y6, .ref a4]) (M1 := M) 1 (fun n => rfl) ?_
  refine Ev.step 1 (gs_3 rfl rfl (ia_c ra4 g7)) ?_
  refine Ev.step (pc' := 86) (ls' := [some (.ref w), some (.ref o), some (.int gl), some (.int ar)]) (st' := [.int (y8 - 1), .int y6, .ref a4]) (M1 := M) 2 (fun n => rfl) ?_
  refine Ev.step 1 (gs_4 rfl rfl (is_c ra4 g7)) ?_
  exact hz
theorem ld_87 {e : Nat} {M : Mem} {vo : List Value} {ar gl : Int32} {o w : Nat} (ho : gNth M o = some (.inr (8, vo))) (hlo : 0 < vo.length) : Ev none e 60 87 [some (.ref w), some (.ref o), some (.int gl), some (.int ar)] [] M none (gPut M o (.inr (8, gPut vo 0 (.int (-1))))) 0 0 := by
  refine Ev.step (pc' := 89) (ls' := [some (.ref w), some (.ref o), some (.int gl), some (.int ar)]) (st' := [.int (-1), .ref o]) (M1 := M) 2 (fun n => rfl) ?_
  refine Ev.step 1 (gs_4 rfl rfl (pf_c rfl ho hlo rfl rfl)) ?_
  exact Ev.ret (fun n => rfl)
theorem wb_0 {e : Nat} {M : Mem} {M' : Mem} {v : Option Value} {vo : List Value} {c k : Int32} {o : Nat} (ho : gNth M o = some (.inr (8, vo))) (hlo : 0 < vo.length) (hz : Ev none e 73 5 [some (.ref o), some (.int c), some (.int k)] [] (gPut M o (.inr (8, gPut vo 0 (.int c)))) v M' 0 0) : Ev none e 73 0 [some (.ref o), some (.int c), some (.int k)] [] M v M' 0 0 := by
  refine Ev.step (pc' := 2) (ls' := [some (.ref o), some (.int c), some (.int k)]) (st' := [.int c, .ref o]) (M1 := M) 2 (fun n => rfl) ?_
  refine Ev.step 1 (gs_4 rfl rfl (pf_c rfl ho hlo rfl rfl)) ?_
  exact hz
theorem wb_5 {e : Nat} {M : Mem} {M' : Mem} {v : Option Value} {vo : List Value} {c k : Int32} {o : Nat} (ho : gNth M o = some (.inr (8, vo))) (hlo : 1 < vo.length) (hz : Ev none e 73 10 [some (.ref o), some (.int c), some (.int k)] [] (gPut M o (.inr (8, gPut vo 1 (.int k)))) v M' 0 0) : Ev none e 73 5 [some (.ref o), some (.int c), some (.int k)] [] M v M' 0 0 := by
  refine Ev.step (pc' := 7) (ls' := [some (.ref o), some (.int c), some (.int k)]) (st' := [.int k, .ref o]) (M1 := M) 2 (fun n => rfl) ?_
  refine Ev.step 1 (gs_4 rfl rfl (pf_c rfl ho hlo rfl rfl)) ?_
  exact hz
theorem wb_10 {e : Nat} {M : Mem} {M' : Mem} {v : Option Value} {vo : List Value} {c k : Int32} {o : Nat} (ho : gNth M o = some (.inr (8, vo))) (hlo : 2 < vo.length) (hz : Ev none e 73 15 [some (.ref o), some (.int c), some (.int k)] [] (gPut M o (.inr (8, gPut vo 2 (.int 0)))) v M' 0 0) : Ev none e 73 10 [some (.ref o), some (.int c), some (.int k)] [] M v M' 0 0 := by
  refine Ev.step (pc' := 12) (ls' := [some (.ref o), some (.int c), some (.int k)]) (st' := [.int 0, .ref o]) (M1 := M) 2 (fun n => rfl) ?_
  refine Ev.step 1 (gs_4 rfl rfl (pf_c rfl ho hlo rfl rfl)) ?_
  exact hz
theorem wb_15 {e : Nat} {M : Mem} {M' : Mem} {v : Option Value} {vo : List Value} {c k : Int32} {o : Nat} (ho : gNth M o = some (.inr (8, vo))) (hlo : 3 < vo.length) (hz : Ev none e 73 20 [some (.ref o), some (.int c), some (.int k)] [] (gPut M o (.inr (8, gPut vo 3 (.int (-1))))) v M' 0 0) : Ev none e 73 15 [some (.ref o), some (.int c), some (.int k)] [] M v M' 0 0 := by
  refine Ev.step (pc' := 17) (ls' := [some (.ref o), some (.int c), some (.int k)]) (st' := [.int (-1), .ref o]) (M1 := M) 2 (fun n => rfl) ?_
  refine Ev.step 1 (gs_4 rfl rfl (pf_c rfl ho hlo rfl rfl)) ?_
  exact hz
theorem wb_20 {e : Nat} {M : Mem} {vo : List Value} {c k : Int32} {o : Nat} (ho : gNth M o = some (.inr (8, vo))) (hlo : 4 < vo.length) : Ev none e 73 20 [some (.ref o), some (.int c), some (.int k)] [] M none (gPut M o (.inr (8, gPut vo 4 (.int (-1))))) 0 0 := by
  refine Ev.step (pc' := 22) (ls' := [some (.ref o), some (.int c), some (.int k)]) (st' := [.int (-1), .ref o]) (M1 := M) 2 (fun n => rfl) ?_
  refine Ev.step 1 (gs_4 rfl rfl (pf_c rfl ho hlo rfl rfl)) ?_
  exact Ev.ret (fun n => rfl)
/-! BY HAND, the class: sweep -/
/-- two places of a row change places -/
noncomputable def swp (l : List (Option Nat)) (i s : Nat) (a b : Nat) : List (Option Nat) := gPut (gPut l i (some a)) s (some b)
theorem swp_at {l : List (Option Nat)} {i s a b k : Nat} (hi : gNth l i = some (some b)) (hs : gNth l s = some (some a)) : gNth (swp l i s a b) k = if k = s then some (some b) else if k = i then some (some a) else gNth l k := by
  have h1 := gNth_lt _ _ _ hi
  have h2 := gNth_lt _ _ _ hs
  unfold swp
  rw [nth_put, nth_put, put_len]
  by_cases c1 : k = s
  · rw [if_pos ⟨c1, h2⟩, if_pos c1]
  · rw [if_neg (fun q => c1 q.1), if_neg c1]
    by_cases c2 : k = i
    · rw [if_pos ⟨c2, h1⟩, if_pos c2]
    · rw [if_neg (fun q => c2 q.1), if_neg c2]
theorem swp_unl {l : List (Option Nat)} {i s a b : Nat} (h : unl l) (hi : gNth l i = some (some b)) (hs : gNth l s = some (some a)) : unl (swp l i s a b) := by
  have src : ∀ k c, gNth (swp l i s a b) k = some (some c) → gNth l (if k = s then i else if k = i then s else k) = some (some c) := by
    intro k c hk
    rw [swp_at hi hs] at hk
    by_cases c1 : k = s
    · rw [if_pos c1] at hk ⊢
      rw [hi]; exact hk
    · rw [if_neg c1] at hk ⊢
      by_cases c2 : k = i
      · rw [if_pos c2] at hk ⊢
        rw [hs]; exact hk
      · rw [if_neg c2] at hk ⊢
        exact hk
  intro j k c hj hk
  have e := h _ _ c (src j c hj) (src k c hk)
  by_cases j1 : j = s
  · rw [if_pos j1] at e
    by_cases k1 : k = s
    · omega
    · rw [if_neg k1] at e
      by_cases k2 : k = i
      · rw [if_pos k2] at e; omega
      · rw [if_neg k2] at e; omega
  · rw [if_neg j1] at e
    by_cases j2 : j = i
    · rw [if_pos j2] at e
      by_cases k1 : k = s
      · rw [if_pos k1] at e; omega
      · rw [if_neg k1] at e
        by_cases k2 : k = i
        · omega
        · rw [if_neg k2] at e; omega
    · rw [if_neg j2] at e
      by_cases k1 : k = s
      · rw [if_pos k1] at e; omega
      · rw [if_neg k1] at e
        by_cases k2 : k = i
        · rw [if_pos k2] at e; omega
        · rw [if_neg k2] at e; exact e
theorem swp_mem {l : List (Option Nat)} {i s a b c : Nat} (hi : gNth l i = some (some b)) (hs : gNth l s = some (some a)) : (∃ k, gNth (swp l i s a b) k = some (some c)) ↔ ∃ k, gNth l k = some (some c) := by
  constructor
  · rintro ⟨k, hk⟩
    rw [swp_at hi hs] at hk
    by_cases c1 : k = s
    · rw [if_pos c1] at hk
      exact ⟨i, by rw [hi]; exact hk⟩
    · rw [if_neg c1] at hk
      by_cases c2 : k = i
      · rw [if_pos c2] at hk
        exact ⟨s, by rw [hs]; exact hk⟩
      · rw [if_neg c2] at hk
        exact ⟨k, hk⟩
  · rintro ⟨k, hk⟩
    by_cases c1 : k = s
    · refine ⟨i, ?_⟩
      rw [swp_at hi hs]
      subst c1
      by_cases c2 : i = k
      · rw [if_pos c2, ← hk, ← c2, hi]
      · rw [if_neg c2, if_pos rfl, ← hk, hs]
    · by_cases c2 : k = i
      · refine ⟨s, ?_⟩
        rw [swp_at hi hs, if_pos rfl, ← hk, c2, hi]
      · exact ⟨k, by rw [swp_at hi hs, if_neg c1, if_neg c2]; exact hk⟩
/-! WHAT THE LAYOUT TELLS of any object's field, of any row of references -/
noncomputable def fdB (g ci k g2 : Nat) : Bool := match gNth sG g with
  | some (.inl (c, fs)) => Nat.beq c ci && (match gNth fs k with
    | some (.inr n) => Nat.beq n (2 * g2 + 1)
    | _ => false)
  | _ => false
noncomputable def fiB (g ci k : Nat) (lo hi : Int) : Bool := match gNth sG g with
  | some (.inl (c, fs)) => Nat.beq c ci && (match gNth fs k with
    | some (.inl (a, b)) => decide (a = lo) && decide (b = hi)
    | _ => false)
  | _ => false
noncomputable def rrB (g kd n g2 : Nat) : Bool := match gNth sG g with
  | some (.inr (q, m, .inr h)) => !Nat.beq q 2 && (Nat.beq q kd && (Nat.beq m n && Nat.beq h g2))
  | _ => false
theorem TM.fref {M : Mem} {a g ci k g2 : Nat} (hT : TM sT sG M) (ha : gNth sT a = some g) (hB : fdB g ci k g2 = true) : ∃ vs b, gNth M a = some (.inr (ci, vs)) ∧ gNth vs k = some (.ref b) ∧ gNth sT b = some g2 := by
  unfold fdB at hB
  split at hB
  rotate_left
  · cases hB
  rename_i c fs e
  obtain ⟨b1, b2⟩ := and_t hB
  cases Nat.eq_of_beq_eq_true b1
  obtain ⟨vs, e1, _, e3⟩ := hT.obj ha e
  split at b2
  rotate_left
  · cases b2
  rename_i n e2
  cases Nat.eq_of_beq_eq_true b2
  obtain ⟨v, v1, v2⟩ := e3 k _ e2
  rcases v2 with ⟨b, rfl, hb⟩ | ⟨hk, _⟩
  · have hb : gNth sT b = some (2 * g2 / 2) := hb
    rw [Nat.mul_div_cancel_left _ (by decide : 0 < 2)] at hb
    exact ⟨vs, b, e1, v1, hb⟩
  · have hk : 2 * g2 % 2 = 1 := hk
    omega
theorem TM.fnum {M : Mem} {a g ci k : Nat} {lo hi : Int} (hT : TM sT sG M) (ha : gNth sT a = some g) (hB : fiB g ci k lo hi = true) : ∃ vs y, gNth M a = some (.inr (ci, vs)) ∧ gNth vs k = some (.int y) ∧ k < vs.length ∧ lo ≤ y.toInt ∧ y.toInt ≤ hi ∧ ∀ z : Int32, lo ≤ z.toInt → z.toInt ≤ hi → TM sT sG (gPut M a (.inr (ci, gPut vs k (.int z)))) := by
  unfold fiB at hB
  split at hB
  rotate_left
  · cases hB
  rename_i c fs e
  obtain ⟨b1, b2⟩ := and_t hB
  cases Nat.eq_of_beq_eq_true b1
  obtain ⟨vs, e1, _, e3⟩ := hT.obj ha e
  split at b2
  rotate_left
  · cases b2
  rename_i x y e2
  obtain ⟨b3, b4⟩ := and_t b2
  cases of_decide_eq_true b3
  cases of_decide_eq_true b4
  obtain ⟨v, v1, z, rfl, z1, z2⟩ := e3 k _ e2
  exact ⟨vs, z, e1, v1, gNth_lt _ _ _ v1, z1, z2, fun z z1 z2 => hT.oput ha e e1 e2 ⟨z, rfl, z1, z2⟩⟩
theorem TM.rref {M : Mem} {a g kd n g2 : Nat} (hT : TM sT sG M) (ha : gNth sT a = some g) (hB : rrB g kd n g2 = true) : ∃ l, gNth M a = some (.inl (kd, .inr (.inr l))) ∧ l.length = n ∧ (∀ j x, gNth l j = some x → ∃ b, x = some b ∧ gNth sT b = some g2) ∧ ∀ i b, gNth sT b = some g2 → TM sT sG (gPut M a (.inl (kd, .inr (.inr (gPut l i (some b)))))) := by
  unfold rrB at hB
  split at hB
  rotate_left
  · cases hB
  rename_i q m h e
  obtain ⟨b0, hB⟩ := and_t hB
  obtain ⟨b1, hB⟩ := and_t hB
  obtain ⟨b2, b3⟩ := and_t hB
  cases Nat.eq_of_beq_eq_true b1
  cases Nat.eq_of_beq_eq_true b2
  cases Nat.eq_of_beq_eq_true b3
  have hq : kd ≠ 2 := by
    rintro rfl
    cases b0
  obtain ⟨ee, e1, e2⟩ := hT.at ha e
  obtain ⟨l, rfl, l1, l2⟩ := ct_ref hq e2
  refine ⟨l, e1, l1, l2, fun i b hb => hT.put (fun g3 t q1 q2 => ?_)⟩
  rw [ha] at q1
  cases q1
  rw [e] at q2
  cases q2
  refine ct_mkr hq (by rw [put_len]; exact l1) (fun j x hj => ?_)
  rw [nth_put] at hj
  split at hj
  · cases hj
    exact ⟨b, rfl, hb⟩
  · exact l2 j x hj
/-! BY HAND, the class: sweep, put together -/
set_option maxRecDepth 100000 in
theorem sT_104 : gNth sT 104 = some 22 := by decide +kernel
set_option maxRecDepth 100000 in
theorem lyW : (fdB 22 7 7 8 && fdB 8 1 14 19 && fiB 8 1 15 0 60 && rrB 19 6 60 21 && fiB 21 8 0 (-1) 255) = true := by decide +kernel
theorem cge_put {M : Mem} {r t b : Nat} {x y : AC} (hr : gNth M r = some (.inl (t, x))) (h : cge M b) : cge (gPut M r (.inl (t, y))) b := by
  obtain ⟨us, z, h1, h2⟩ := h
  refine ⟨us, z, ?_, h2⟩
  rw [nth_put, if_neg (fun q => by rw [← q.1, h1] at hr; cases hr)]
  exact h1
theorem obj_put {M : Mem} {r t b c : Nat} {x y : AC} {us : List Value} (hr : gNth M r = some (.inl (t, x))) (h1 : gNth M b = some (.inr (c, us))) : gNth (gPut M r (.inl (t, y))) b = some (.inr (c, us)) := by
  rw [nth_put, if_neg (fun q => by rw [← q.1, h1] at hr; cases hr)]
  exact h1
section SWP
variable {M0 : Mem} {e ld r nn : Nat} {vw vl : List Value} {l0 : List (Option Nat)} {n : Int32}
theorem sw_loop (hld : gNth sT ld = some 8) (hr : gNth sT r = some 19) (f7 : gNth vw 7 = some (.ref ld)) (f14 : gNth vl 14 = some (.ref r)) (f15 : gNth vl 15 = some (.int n)) (hn : n.toInt = (nn : Int)) (n60 : nn ≤ 60) : ∀ (j inn sn : Nat) (i s : Int32) (M : Mem) (l : List (Option Nat)) (x3 : Option Value), TM sT sG M → Frm sT [(1, 15), (1019, 0)] M0 M → gNth M 104 = some (.inr (7, vw)) → gNth M ld = some (.inr (1, vl)) → gNth M r = some (.inl (6, .inr (.inr l))) → unl l → (∀ b, (∃ k, gNth l k = some (some b)) ↔ ∃ k, gNth l0 k = some (some b)) → sn ≤ inn → i.toInt = (inn : Int) → s.toInt = (sn : Int) → nn = inn + j → (∀ k, k < sn → ∃ b, gNth l k = some (some b) ∧ cge M b) → ∃ MF lF sF, ∃ zF : Int32, Ev none e 61 4 [some (.ref 104), some (.int s), some (.int i), x3] [] M none MF 0 0 ∧ TM sT sG MF ∧ Frm sT [(1, 15), (1019, 0)] M0 MF ∧ gNth MF r = some (.inl (6, .inr (.inr lF))) ∧ unl lF ∧ (∀ b, (∃ k, gNth lF k = some (some b)) ↔ ∃ k, gNth l0 k = some (some b)) ∧ gNth MF ld = some (.inr (1, gPut vl 15 (.int zF))) ∧ zF.toInt = ((sF : Nat) : Int) ∧ sF ≤ nn ∧ (∀ k, k < sF → ∃ b, gNth lF k = some (some b) ∧ cge MF b) ∧ ∀ a, a ≠ ld → a ≠ r → gNth MF a = gNth M a := by
  intro j
  obtain ⟨q, y5⟩ := and_t lyW
  obtain ⟨q, y4⟩ := and_t q
  obtain ⟨q, y3⟩ := and_t q
  induction j with
  | zero =>
    intro inn sn i s M l x3 hT hF hw hl hrow hu hm hsi hi hs hj hk
    obtain ⟨vl2, n2, g1, g2, g3, _, _, g4⟩ := hT.fnum hld y3
    cases hl.symm.trans g1
    refine ⟨_, l, sn, s, sw_4 hw f7 hl f15 (by rw [if_pos (by rw [Int32.le_iff_toInt_le]; omega)]; exact sw_70 hw f7 hl g3), g4 s (by omega) (by omega), hF.trans (Frm.fld hl (by decide)), ?_, hu, hm, by rw [nth_put, if_pos ⟨rfl, gNth_lt _ _ _ hl⟩], hs, by omega, fun k hks => ?_, fun a h1 h2 => by rw [nth_put, if_neg (fun q => h1 q.1)]⟩
    · rw [nth_put, if_neg (fun q => by rw [← q.1, hrow] at hl; cases hl)]
      exact hrow
    · obtain ⟨b, b1, us, z, c1, c2⟩ := hk k hks
      refine ⟨b, b1, us, z, ?_, c2⟩
      rw [nth_put, if_neg (fun q => by rw [← q.1, c1] at hl; cases hl)]
      exact c1
  | succ j ih =>
    intro inn sn i s M l x3 hT hF hw hl hrow hu hm hsi hi hs hj hk
    obtain ⟨l2, r1, r2, r3, r4⟩ := hT.rref hr y4
    cases hrow.symm.trans r1
    obtain ⟨xo, o1, o2⟩ := at_c (l := l) hi (by omega)
    obtain ⟨o, rfl, ho⟩ := r3 _ _ o2
    obtain ⟨vo, z, p1, p2, _, z1, z2, _⟩ := hT.fnum ho y5
    have ei : (i + 1).toInt = i.toInt + 1 := i32_p1 (by omega)
    have hlt : ¬ n ≤ i := by rw [Int32.le_iff_toInt_le]; omega
    by_cases hz : z = -1
    · obtain ⟨MF, lF, sF, zF, q1, q2⟩ := ih (inn + 1) sn (i + 1) s M l (some (.ref o)) hT hF hw hl hrow hu hm (by omega) (by omega) hs (by omega) hk
      exact ⟨MF, lF, sF, zF, sw_4 hw f7 hl f15 (by rw [if_neg hlt]; exact sw_15 hw f7 hl f14 hrow o1 p1 p2 (by rw [if_pos hz]; exact sw_64 q1)), q2⟩
    · have zge : 0 ≤ z.toInt := by
        rcases Int.lt_or_le z.toInt 0 with h | h
        · exact absurd (Int32.toInt_inj.mp (show z.toInt = (-1 : Int32).toInt from by show z.toInt = -1; omega)) hz
        · exact h
      obtain ⟨xa, a1, a2⟩ := at_c (l := l) hs (by omega)
      obtain ⟨a, rfl, ha⟩ := r3 _ _ a2
      obtain ⟨va, za, pa, _⟩ := hT.fnum ha y5
      have es : (s + 1).toInt = s.toInt + 1 := i32_p1 (by omega)
      obtain ⟨M1, e1⟩ : ∃ M1, M1 = gPut M r (.inl (6, .inr (.inr (gPut l inn (some a))))) := ⟨_, rfl⟩
      have T1 : TM sT sG M1 := by rw [e1]; exact r4 inn a ha
      have F1 : Frm sT [(1, 15), (1019, 0)] M M1 := by rw [e1]; exact Frm.row hrow hr (by decide)
      have hw1 : gNth M1 104 = some (.inr (7, vw)) := by rw [e1]; exact obj_put hrow hw
      have hl1 : gNth M1 ld = some (.inr (1, vl)) := by rw [e1]; exact obj_put hrow hl
      have ho1 : gNth M1 o = some (.inr (8, vo)) := by rw [e1]; exact obj_put hrow p1
      have hrow1 : gNth M1 r = some (.inl (6, .inr (.inr (gPut l inn (some a))))) := by rw [e1, nth_put, if_pos ⟨rfl, gNth_lt _ _ _ hrow⟩]
      obtain ⟨l3, s1, s2, s3, s4⟩ := T1.rref hr y4
      cases hrow1.symm.trans s1
      obtain ⟨xb, c1, c2⟩ := at_c (l := gPut l inn (some a)) hs (by rw [put_len]; omega)
      obtain ⟨b, rfl, _⟩ := s3 _ _ c2
      obtain ⟨M2, e2⟩ : ∃ M2, M2 = gPut M1 r (.inl (6, .inr (.inr (swp l inn sn a o)))) := ⟨_, rfl⟩
      have T2 : TM sT sG M2 := by rw [e2]; exact s4 sn o ho
      have F2 : Frm sT [(1, 15), (1019, 0)] M1 M2 := by rw [e2]; exact Frm.row hrow1 hr (by decide)
      obtain ⟨MF, lF, sF, zF, q1, q2⟩ := ih (inn + 1) (sn + 1) (i + 1) (s + 1) M2 (swp l inn sn a o) (some (.ref o)) T2 ((hF.trans F1).trans F2) (by rw [e2]; exact obj_put hrow1 hw1) (by rw [e2]; exact obj_put hrow1 hl1) (by rw [e2, nth_put, if_pos ⟨rfl, gNth_lt _ _ _ hrow1⟩]) (swp_unl hu o2 a2) (fun b => (swp_mem o2 a2).trans (hm b)) (by omega) (by omega) (by omega) (by omega) (fun k hks => by
        by_cases hk2 : k = sn
        · refine ⟨o, by rw [swp_at o2 a2, if_pos hk2], ?_⟩
          rw [e2]
          refine cge_put hrow1 ?_
          rw [e1]
          exact cge_put hrow ⟨vo, z, p1, p2, zge⟩
        · obtain ⟨b, b1, b2⟩ := hk k (by omega)
          refine ⟨b, by rw [swp_at o2 a2, if_neg hk2, if_neg (by omega)]; exact b1, ?_⟩
          rw [e2]
          refine cge_put hrow1 ?_
          rw [e1]
          exact cge_put hrow b2)
      obtain ⟨q3, q4, q5, q6, q7, q8, q9, q10, q11, q12⟩ := q2
      refine ⟨MF, lF, sF, zF, sw_4 hw f7 hl f15 ?_, q3, q4, q5, q6, q7, q8, q9, q10, q11, fun a h1 h2 => by rw [q12 a h1 h2, e2, nth_put, if_neg (fun q => h2 q.1), e1, nth_put, if_neg (fun q => h2 q.1)]⟩
      rw [if_neg hlt]
      refine sw_15 hw f7 hl f14 hrow o1 p1 p2 ?_
      rw [if_neg hz]
      refine sw_33 hw f7 hl f14 hrow a1 pa o1 ?_
      rw [cl_n hi, ← e1]
      refine sw_51 hw1 f7 hl1 f14 hrow1 ho1 c1 ?_
      rw [cl_n hs]
      have e3 : gPut M1 r (.inl (6, .inr (.inr (gPut (gPut l inn (some a)) sn (some o))))) = M2 := by rw [e2]; rfl
      rw [e3]
      exact q1
end SWP
/-! BY HAND, the class: the pieces of go, begin, step -/
theorem st_0 {e : Nat} {M : Mem} {M' : Mem} {v : Option Value} {vo : List Value} {c d y2 : Int32} {o : Nat} (ho : gNth M o = some (.inr (8, vo))) (f1 : gNth vo 0 = some (.int y2)) (hlo : 3 < vo.length) (hz : Ev none e 74 8 [some (.ref o), some (.int c), some (.int d)] [] (gPut M o (.inr (8, gPut vo 3 (.int y2)))) v M' 0 0) : Ev none e 74 0 [some (.ref o), some (.int c), some (.int d)] [] M v M' 0 0 := by
  refine Ev.step (pc' := 2) (ls' := [some (.ref o), some (.int c), some (.int d)]) (st' := [.ref o, .ref o]) (M1 := M) 2 (fun n => rfl) ?_
  refine Ev.step 1 (gs_3 rfl rfl (gf_c rfl ho f1)) ?_
  refine Ev.step 1 (gs_4 rfl rfl (pf_c rfl ho hlo rfl rfl)) ?_
  exact hz
theorem st_8 {e : Nat} {M : Mem} {M' : Mem} {v : Option Value} {vo : List Value} {c d : Int32} {o : Nat} (ho : gNth M o = some (.inr (8, vo))) (hlo : 0 < vo.length) (hz : Ev none e 74 13 [some (.ref o), some (.int c), some (.int d)] [] (gPut M o (.inr (8, gPut vo 0 (.int c)))) v M' 0 0) : Ev none e 74 8 [some (.ref o), some (.int c), some (.int d)] [] M v M' 0 0 := by
  refine Ev.step (pc' := 10) (ls' := [some (.ref o), some (.int c), some (.int d)]) (st' := [.int c, .ref o]) (M1 := M) 2 (fun n => rfl) ?_
  refine Ev.step 1 (gs_4 rfl rfl (pf_c rfl ho hlo rfl rfl)) ?_
  exact hz
theorem st_13 {e : Nat} {M : Mem} {vo : List Value} {c d : Int32} {o : Nat} (ho : gNth M o = some (.inr (8, vo))) (hlo : 4 < vo.length) : Ev none e 74 13 [some (.ref o), some (.int c), some (.int d)] [] M none (gPut M o (.inr (8, gPut vo 4 (.int d)))) 0 0 := by
  refine Ev.step (pc' := 15) (ls' := [some (.ref o), some (.int c), some (.int d)]) (st' := [.int d, .ref o]) (M1 := M) 2 (fun n => rfl) ?_
  refine Ev.step 1 (gs_4 rfl rfl (pf_c rfl ho hlo rfl rfl)) ?_
  exact Ev.ret (fun n => rfl)
theorem bg_0 {e : Nat} {M : Mem} {M' : Mem} {v : Option Value} {w : Nat} {x1 x2 x3 : Option Value}  (hz : Ev none e 59 2 [some (.ref w), some (.int 0), x2, x3] [] M v M' 0 0) : Ev none e 59 0 [some (.ref w), x1, x2, x3] [] M v M' 0 0 := by
  refine Ev.step (pc' := 2) (ls' := [some (.ref w), some (.int 0), x2, x3]) (st' := []) (M1 := M) 2 (fun n => rfl) ?_
  exact hz
theorem bg_2 {e : Nat} {M : Mem} {M' : Mem} {v : Option Value} {va2 vw : List Value} {k y4 : Int32} {a2 w : Nat} {x2 x3 : Option Value} (hw : gNth M w = some (.inr (7, vw))) (f1 : gNth vw 7 = some (.ref a2)) (ha2 : gNth M a2 = some (.inr (1, va2))) (f3 : gNth va2 13 = some (.int y4)) (hz : Ev none e 59 (if y4 ≤ k then 133 else 13) [some (.ref w), some (.int k), x2, x3] [] M v M' 0 0) : Ev none e 59 2 [some (.ref w), some (.int k), x2, x3] [] M v M' 0 0 := by
  refine Ev.step (pc' := 4) (ls' := [some (.ref w), some (.int k), x2, x3]) (st' := [.ref w, .int k]) (M1 := M) 2 (fun n => rfl) ?_
  refine Ev.step 1 (gs_3 rfl rfl (gf_c rfl hw f1)) ?_
  refine Ev.step 1 (gs_3 rfl rfl (gf_c rfl ha2 f3)) ?_
  refine Ev.step (pc' := (if y4 ≤ k then 133 else 13)) (ls' := [some (.ref w), some (.int k), x2, x3]) (st' := []) (M1 := M) 1 (fun n => rfl) ?_
  exact hz
theorem bg_13 {e : Nat} {M : Mem} {M' : Mem} {v : Option Value} {va2 vw : List Value} {k y8 : Int32} {a2 a4 a6 w : Nat} {la4 : List (Option Nat)} {x2 x3 : Option Value} (hw : gNth M w = some (.inr (7, vw))) (f1 : gNth vw 7 = some (.ref a2)) (ha2 : gNth M a2 = some (.inr (1, va2))) (f3 : gNth va2 12 = some (.ref a4)) (ra4 : gNth M a4 = some (.inl (7, .inr (.inr la4)))) (g5 : gAt la4 k = some (some a6)) (f7 : gNth va2 16 = some (.int y8)) (hz : Ev none e 59 31 [some (.ref w), some (.int k), some (.ref a6), x3] [.int y8, .ref a6] M v M' 0 0) : Ev none e 59 13 [some (.ref w), some (.int k), x2, x3] [] M v M' 0 0 := by
  refine Ev.step (pc' := 14) (ls' := [some (.ref w), some (.int k), x2, x3]) (st' := [.ref w]) (M1 := M) 1 (fun n => rfl) ?_
  refine Ev.step 1 (gs_3 rfl rfl (gf_c rfl hw f1)) ?_
  refine Ev.step 1 (gs_3 rfl rfl (gf_c rfl ha2 f3)) ?_
  refine Ev.step (pc' := 21) (ls' := [some (.ref w), some (.int k), x2, x3]) (st' := [.int k, .ref a4]) (M1 := M) 1 (fun n => rfl) ?_
  refine Ev.step 1 (gs_3 rfl rfl (aa_c ra4 g5 rfl)) ?_
  refine Ev.step (pc' := 25) (ls' := [some (.ref w), some (.int k), some (.ref a6), x3]) (st' := [.ref w, .ref a6]) (M1 := M) 3 (fun n => rfl) ?_
  refine Ev.step 1 (gs_3 rfl rfl (gf_c rfl hw f1)) ?_
  refine Ev.step 1 (gs_3 rfl rfl (gf_c rfl ha2 f7)) ?_
  exact hz
theorem bg_34 {e : Nat} {M : Mem} {M' : Mem} {v : Option Value} {k z : Int32} {w ws : Nat} {x3 : Option Value}  (hz : Ev none e 59 (if z = 0 then 37 else 40) [some (.ref w), some (.int k), some (.ref ws), x3] [] M v M' 0 0) : Ev none e 59 34 [some (.ref w), some (.int k), some (.ref ws), x3] [.int z] M v M' 0 0 := by
  refine Ev.step (pc' := (if z = 0 then 37 else 40)) (ls' := [some (.ref w), some (.int k), some (.ref ws), x3]) (st' := []) (M1 := M) 1 (fun n => rfl) ?_
  exact hz
theorem bg_37 {e : Nat} {M : Mem} {M' : Mem} {v : Option Value} {k : Int32} {w ws : Nat} {x3 : Option Value}  (hz : Ev none e 59 2 [some (.ref w), some (.int (k + 1)), some (.ref ws), x3] [] M v M' 0 0) : Ev none e 59 37 [some (.ref w), some (.int k), some (.ref ws), x3] [] M v M' 0 0 := by
  refine Ev.step (pc' := 2) (ls' := [some (.ref w), some (.int (k + 1)), some (.ref ws), x3]) (st' := []) (M1 := M) 3 (fun n => rfl) ?_
  exact hz
theorem bg_40 {e : Nat} {M : Mem} {M' : Mem} {v : Option Value} {va2 vw : List Value} {k y4 : Int32} {a2 w ws : Nat} {x3 : Option Value} (hw : gNth M w = some (.inr (7, vw))) (f1 : gNth vw 7 = some (.ref a2)) (ha2 : gNth M a2 = some (.inr (1, va2))) (f3 : gNth va2 15 = some (.int y4)) (hz : Ev none e 59 (if y4 < 60 then 68 else 52) [some (.ref w), some (.int k), some (.ref ws), x3] [] M v M' 0 0) : Ev none e 59 40 [some (.ref w), some (.int k), some (.ref ws), x3] [] M v M' 0 0 := by
  refine Ev.step (pc' := 41) (ls' := [some (.ref w), some (.int k), some (.ref ws), x3]) (st' := [.ref w]) (M1 := M) 1 (fun n => rfl) ?_
  refine Ev.step 1 (gs_3 rfl rfl (gf_c rfl hw f1)) ?_
  refine Ev.step 1 (gs_3 rfl rfl (gf_c rfl ha2 f3)) ?_
  refine Ev.step (pc' := (if y4 < 60 then 68 else 52)) (ls' := [some (.ref w), some (.int k), some (.ref ws), x3]) (st' := []) (M1 := M) 2 (fun n => rfl) ?_
  exact hz
theorem bg_52 {e : Nat} {M : Mem} {M' : Mem} {v : Option Value} {va2 vw : List Value} {k y4 : Int32} {a2 w ws : Nat} {x3 : Option Value} (hw : gNth M w = some (.inr (7, vw))) (f1 : gNth vw 7 = some (.ref a2)) (ha2 : gNth M a2 = some (.inr (1, va2))) (f3 : gNth va2 19 = some (.int y4)) (hla2 : 19 < va2.length) (hz : Ev none e 59 2 [some (.ref w), some (.int (k + 1)), some (.ref ws), x3] [] (gPut M a2 (.inr (1, gPut va2 19 (.int (y4 + 1))))) v M' 0 0) : Ev none e 59 52 [some (.ref w), some (.int k), some (.ref ws), x3] [] M v M' 0 0 := by
  refine Ev.step (pc' := 53) (ls' := [some (.ref w), some (.int k), some (.ref ws), x3]) (st' := [.ref w]) (M1 := M) 1 (fun n => rfl) ?_
  refine Ev.step 1 (gs_3 rfl rfl (gf_c rfl hw f1)) ?_
  refine Ev.step (pc' := 57) (ls' := [some (.ref w), some (.int k), some (.ref ws), x3]) (st' := [.ref a2, .ref a2]) (M1 := M) 1 (fun n => rfl) ?_
  refine Ev.step 1 (gs_3 rfl rfl (gf_c rfl ha2 f3)) ?_
  refine Ev.step (pc' := 62) (ls' := [some (.ref w), some (.int k), some (.ref ws), x3]) (st' := [.int (y4 + 1), .ref a2]) (M1 := M) 2 (fun n => rfl) ?_
  refine Ev.step 1 (gs_4 rfl rfl (pf_c rfl ha2 hla2 rfl rfl)) ?_
  refine Ev.step (pc' := 2) (ls' := [some (.ref w), some (.int (k + 1)), some (.ref ws), x3]) (st' := []) (M1 := (gPut M a2 (.inr (1, gPut va2 19 (.int (y4 + 1)))))) 3 (fun n => rfl) ?_
  exact hz
theorem bg_68 {e : Nat} {M : Mem} {M' : Mem} {v : Option Value} {va2 vw vws : List Value} {k y12 y6 y8 : Int32} {a10 a14 a2 a4 w ws : Nat} {la4 : List Int32} {la10 : List (Option Nat)} {x3 : Option Value} (hw : gNth M w = some (.inr (7, vw))) (f1 : gNth vw 7 = some (.ref a2)) (ha2 : gNth M a2 = some (.inr (1, va2))) (f3 : gNth va2 10 = some (.ref a4)) (hws : gNth M ws = some (.inr (9, vws))) (f5 : gNth vws 0 = some (.int y6)) (ra4 : gNth M a4 = some (.inl (1, .inl la4))) (g7 : gAt la4 y6 = some y8) (f9 : gNth va2 14 = some (.ref a10)) (f11 : gNth va2 15 = some (.int y12)) (ra10 : gNth M a10 = some (.inl (6, .inr (.inr la10)))) (g13 : gAt la10 y12 = some (some a14)) (hz : Ev none e 59 98 [some (.ref w), some (.int k), some (.ref ws), some (.int y8)] [.int k, .int y8, .ref a14] M v M' 0 0) : Ev none e 59 68 [some (.ref w), some (.int k), some (.ref ws), x3] [] M v M' 0 0 := by
  refine Ev.step (pc' := 69) (ls' := [some (.ref w), some (.int k), some (.ref ws), x3]) (st' := [.ref w]) (M1 := M) 1 (fun n => rfl) ?_
  refine Ev.step 1 (gs_3 rfl rfl (gf_c rfl hw f1)) ?_
  refine Ev.step 1 (gs_3 rfl rfl (gf_c rfl ha2 f3)) ?_
  refine Ev.step (pc' := 76) (ls' := [some (.ref w), some (.int k), some (.ref ws), x3]) (st' := [.ref ws, .ref a4]) (M1 := M) 1 (fun n => rfl) ?_
  refine Ev.step 1 (gs_3 rfl rfl (gf_c rfl hws f5)) ?_
  refine Ev.step 1 (gs_3 rfl rfl (ia_c ra4 g7)) ?_
  refine Ev.step (pc' := 82) (ls' := [some (.ref w), some (.int k), some (.ref ws), some (.int y8)]) (st' := [.ref w]) (M1 := M) 2 (fun n => rfl) ?_
  refine Ev.step 1 (gs_3 rfl rfl (gf_c rfl hw f1)) ?_
  refine Ev.step 1 (gs_3 rfl rfl (gf_c rfl ha2 f9)) ?_
  refine Ev.step (pc' := 89) (ls' := [some (.ref w), some (.int k), some (.ref ws), some (.int y8)]) (st' := [.ref w, .ref a10]) (M1 := M) 1 (fun n => rfl) ?_
  refine Ev.step 1 (gs_3 rfl rfl (gf_c rfl hw f1)) ?_
  refine Ev.step 1 (gs_3 rfl rfl (gf_c rfl ha2 f11)) ?_
  refine Ev.step 1 (gs_3 rfl rfl (aa_c ra10 g13 rfl)) ?_
  refine Ev.step (pc' := 98) (ls' := [some (.ref w), some (.int k), some (.ref ws), some (.int y8)]) (st' := [.int k, .int y8, .ref a14]) (M1 := M) 2 (fun n => rfl) ?_
  exact hz
theorem bg_101 {e : Nat} {M : Mem} {M' : Mem} {v : Option Value} {va2 vw : List Value} {ct k y4 : Int32} {a2 w ws : Nat} (hw : gNth M w = some (.inr (7, vw))) (f1 : gNth vw 7 = some (.ref a2)) (ha2 : gNth M a2 = some (.inr (1, va2))) (f3 : gNth va2 15 = some (.int y4)) (hla2 : 15 < va2.length) (hz : Ev none e 59 114 [some (.ref w), some (.int k), some (.ref ws), some (.int ct)] [] (gPut M a2 (.inr (1, gPut va2 15 (.int (y4 + 1))))) v M' 0 0) : Ev none e 59 101 [some (.ref w), some (.int k), some (.ref ws), some (.int ct)] [] M v M' 0 0 := by
  refine Ev.step (pc' := 102) (ls' := [some (.ref w), some (.int k), some (.ref ws), some (.int ct)]) (st' := [.ref w]) (M1 := M) 1 (fun n => rfl) ?_
  refine Ev.step 1 (gs_3 rfl rfl (gf_c rfl hw f1)) ?_
  refine Ev.step (pc' := 106) (ls' := [some (.ref w), some (.int k), some (.ref ws), some (.int ct)]) (st' := [.ref a2, .ref a2]) (M1 := M) 1 (fun n => rfl) ?_
  refine Ev.step 1 (gs_3 rfl rfl (gf_c rfl ha2 f3)) ?_
  refine Ev.step (pc' := 111) (ls' := [some (.ref w), some (.int k), some (.ref ws), some (.int ct)]) (st' := [.int (y4 + 1), .ref a2]) (M1 := M) 2 (fun n => rfl) ?_
  refine Ev.step 1 (gs_4 rfl rfl (pf_c rfl ha2 hla2 rfl rfl)) ?_
  exact hz
theorem bg_114 {e : Nat} {M : Mem} {M' : Mem} {v : Option Value} {va2 vw : List Value} {ct k y6 : Int32} {a2 a4 w ws : Nat} {la4 : List Int32} (hw : gNth M w = some (.inr (7, vw))) (f1 : gNth vw 7 = some (.ref a2)) (ha2 : gNth M a2 = some (.inr (1, va2))) (f3 : gNth va2 9 = some (.ref a4)) (ra4 : gNth M a4 = some (.inl (1, .inl la4))) (g5 : gAt la4 ct = some y6) (hz : Ev none e 59 2 [some (.ref w), some (.int (k + 1)), some (.ref ws), some (.int ct)] [] (gPut M a4 (.inl (1, .inl (gPut la4 ct.toNatClampNeg (y6 + 1))))) v M' 0 0) : Ev none e 59 114 [some (.ref w), some (.int k), some (.ref ws), some (.int ct)] [] M v M' 0 0 := by
  refine Ev.step (pc' := 115) (ls' := [some (.ref w), some (.int k), some (.ref ws), some (.int ct)]) (st' := [.ref w]) (M1 := M) 1 (fun n => rfl) ?_
  refine Ev.step 1 (gs_3 rfl rfl (gf_c rfl hw f1)) ?_
  refine Ev.step 1 (gs_3 rfl rfl (gf_c rfl ha2 f3)) ?_
  refine Ev.step (pc' := 123) (ls' := [some (.ref w), some (.int k), some (.ref ws), some (.int ct)]) (st' := [.int ct, .ref a4, .int ct, .ref a4]) (M1 := M) 2 (fun n => rfl) ?_
  refine Ev.step 1 (gs_3 rfl rfl (ia_c ra4 g5)) ?_
  refine Ev.step (pc' := 126) (ls' := [some (.ref w), some (.int k), some (.ref ws), some (.int ct)]) (st' := [.int (y6 + 1), .int ct, .ref a4]) (M1 := M) 2 (fun n => rfl) ?_
  refine Ev.step 1 (gs_4 rfl rfl (is_c ra4 g5)) ?_
  refine Ev.step (pc' := 2) (ls' := [some (.ref w), some (.int (k + 1)), some (.ref ws), some (.int ct)]) (st' := []) (M1 := (gPut M a4 (.inl (1, .inl (gPut la4 ct.toNatClampNeg (y6 + 1)))))) 2 (fun n => rfl) ?_
  exact hz
theorem bg_133 {e : Nat} {M : Mem} {k : Int32} {w : Nat} {x2 x3 : Option Value}  : Ev none e 59 133 [some (.ref w), some (.int k), x2, x3] [] M none M 0 0 := by
  exact Ev.ret (fun n => rfl)
theorem go_0 {e : Nat} {M : Mem} {M' : Mem} {v : Option Value} {va2 vw : List Value} {t y4 : Int32} {a2 w : Nat} {x2 x3 x4 x5 x6 x7 x8 : Option Value} (hw : gNth M w = some (.inr (7, vw))) (f1 : gNth vw 7 = some (.ref a2)) (ha2 : gNth M a2 = some (.inr (1, va2))) (f3 : gNth va2 17 = some (.int y4)) (hz : Ev none e 58 10 [some (.ref w), some (.int t), some (.int y4), some (.int 0), x4, x5, x6, x7, x8] [] M v M' 0 0) : Ev none e 58 0 [some (.ref w), some (.int t), x2, x3, x4, x5, x6, x7, x8] [] M v M' 0 0 := by
  refine Ev.step (pc' := 1) (ls' := [some (.ref w), some (.int t), x2, x3, x4, x5, x6, x7, x8]) (st' := [.ref w]) (M1 := M) 1 (fun n => rfl) ?_
  refine Ev.step 1 (gs_3 rfl rfl (gf_c rfl hw f1)) ?_
  refine Ev.step 1 (gs_3 rfl rfl (gf_c rfl ha2 f3)) ?_
  refine Ev.step (pc' := 10) (ls' := [some (.ref w), some (.int t), some (.int y4), some (.int 0), x4, x5, x6, x7, x8]) (st' := []) (M1 := M) 3 (fun n => rfl) ?_
  exact hz
theorem go_10 {e : Nat} {M : Mem} {M' : Mem} {v : Option Value} {bf n t : Int32} {w : Nat} {x4 x5 x6 x7 x8 : Option Value}  (hz : Ev none e 58 (if t ≤ n then 221 else 15) [some (.ref w), some (.int t), some (.int bf), some (.int n), x4, x5, x6, x7, x8] [] M v M' 0 0) : Ev none e 58 10 [some (.ref w), some (.int t), some (.int bf), some (.int n), x4, x5, x6, x7, x8] [] M v M' 0 0 := by
  refine Ev.step (pc' := (if t ≤ n then 221 else 15)) (ls' := [some (.ref w), some (.int t), some (.int bf), some (.int n), x4, x5, x6, x7, x8]) (st' := []) (M1 := M) 3 (fun n => rfl) ?_
  exact hz
theorem go_15 {e : Nat} {M : Mem} {M' : Mem} {v : Option Value} {vw : List Value} {bf n t y2 : Int32} {w : Nat} {x4 x5 x6 x7 x8 : Option Value} (hw : gNth M w = some (.inr (7, vw))) (f1 : gNth vw 10 = some (.int y2)) (hz : Ev none e 58 (if y2 = 0 then 22 else 221) [some (.ref w), some (.int t), some (.int bf), some (.int n), x4, x5, x6, x7, x8] [] M v M' 0 0) : Ev none e 58 15 [some (.ref w), some (.int t), some (.int bf), some (.int n), x4, x5, x6, x7, x8] [] M v M' 0 0 := by
  refine Ev.step (pc' := 16) (ls' := [some (.ref w), some (.int t), some (.int bf), some (.int n), x4, x5, x6, x7, x8]) (st' := [.ref w]) (M1 := M) 1 (fun n => rfl) ?_
  refine Ev.step 1 (gs_3 rfl rfl (gf_c rfl hw f1)) ?_
  refine Ev.step (pc' := (if y2 = 0 then 22 else 221)) (ls' := [some (.ref w), some (.int t), some (.int bf), some (.int n), x4, x5, x6, x7, x8]) (st' := []) (M1 := M) 1 (fun n => rfl) ?_
  exact hz
theorem go_22 {e : Nat} {M : Mem} {M' : Mem} {v : Option Value} {bf n t : Int32} {w : Nat} {x4 x5 x6 x7 x8 : Option Value}  (hz : Ev none e 58 23 [some (.ref w), some (.int t), some (.int bf), some (.int n), x4, x5, x6, x7, x8] [.ref w] M v M' 0 0) : Ev none e 58 22 [some (.ref w), some (.int t), some (.int bf), some (.int n), x4, x5, x6, x7, x8] [] M v M' 0 0 := by
  refine Ev.step (pc' := 23) (ls' := [some (.ref w), some (.int t), some (.int bf), some (.int n), x4, x5, x6, x7, x8]) (st' := [.ref w]) (M1 := M) 1 (fun n => rfl) ?_
  exact hz
theorem go_26 {e : Nat} {M : Mem} {M' : Mem} {v : Option Value} {bf n t : Int32} {w : Nat} {x4 x5 x6 x7 x8 : Option Value}  (hz : Ev none e 58 29 [some (.ref w), some (.int t), some (.int bf), some (.int n), some (.int 0), x5, x6, x7, x8] [] M v M' 0 0) : Ev none e 58 26 [some (.ref w), some (.int t), some (.int bf), some (.int n), x4, x5, x6, x7, x8] [] M v M' 0 0 := by
  refine Ev.step (pc' := 29) (ls' := [some (.ref w), some (.int t), some (.int bf), some (.int n), some (.int 0), x5, x6, x7, x8]) (st' := []) (M1 := M) 2 (fun n => rfl) ?_
  exact hz
theorem go_29 {e : Nat} {M : Mem} {M' : Mem} {v : Option Value} {va2 vw : List Value} {bf k n t y4 : Int32} {a2 w : Nat} {x5 x6 x7 x8 : Option Value} (hw : gNth M w = some (.inr (7, vw))) (f1 : gNth vw 7 = some (.ref a2)) (ha2 : gNth M a2 = some (.inr (1, va2))) (f3 : gNth va2 15 = some (.int y4)) (hz : Ev none e 58 (if y4 ≤ k then 198 else 41) [some (.ref w), some (.int t), some (.int bf), some (.int n), some (.int k), x5, x6, x7, x8] [] M v M' 0 0) : Ev none e 58 29 [some (.ref w), some (.int t), some (.int bf), some (.int n), some (.int k), x5, x6, x7, x8] [] M v M' 0 0 := by
  refine Ev.step (pc' := 32) (ls' := [some (.ref w), some (.int t), some (.int bf), some (.int n), some (.int k), x5, x6, x7, x8]) (st' := [.ref w, .int k]) (M1 := M) 2 (fun n => rfl) ?_
  refine Ev.step 1 (gs_3 rfl rfl (gf_c rfl hw f1)) ?_
  refine Ev.step 1 (gs_3 rfl rfl (gf_c rfl ha2 f3)) ?_
  refine Ev.step (pc' := (if y4 ≤ k then 198 else 41)) (ls' := [some (.ref w), some (.int t), some (.int bf), some (.int n), some (.int k), x5, x6, x7, x8]) (st' := []) (M1 := M) 1 (fun n => rfl) ?_
  exact hz
theorem go_41 {e : Nat} {M : Mem} {M' : Mem} {v : Option Value} {va12 va2 va6 vw : List Value} {bf k n t y10 y16 y18 y20 : Int32} {a12 a14 a2 a4 a6 a8 w : Nat} {la14 : List Int32} {la4 la8 : List (Option Nat)} {x5 x6 x7 x8 : Option Value} (hw : gNth M w = some (.inr (7, vw))) (f1 : gNth vw 7 = some (.ref a2)) (ha2 : gNth M a2 = some (.inr (1, va2))) (f3 : gNth va2 14 = some (.ref a4)) (ra4 : gNth M a4 = some (.inl (6, .inr (.inr la4)))) (g5 : gAt la4 k = some (some a6)) (f7 : gNth va2 12 = some (.ref a8)) (ha6 : gNth M a6 = some (.inr (8, va6))) (f9 : gNth va6 1 = some (.int y10)) (ra8 : gNth M a8 = some (.inl (7, .inr (.inr la8)))) (g11 : gAt la8 y10 = some (some a12)) (f13 : gNth va2 10 = some (.ref a14)) (ha12 : gNth M a12 = some (.inr (9, va12))) (f15 : gNth va12 1 = some (.int y16)) (ra14 : gNth M a14 = some (.inl (1, .inl la14))) (g17 : gAt la14 y16 = some y18) (f19 : gNth va12 2 = some (.int y20)) (hz : Ev none e 58 93 [some (.ref w), some (.int t), some (.int bf), some (.int n), some (.int k), some (.ref a6), some (.ref a12), some (.int y18), x8] [.int y20, .int y18, .ref a6, .ref w] M v M' 0 0) : Ev none e 58 41 [some (.ref w), some (.int t), some (.int bf), some (.int n), some (.int k), x5, x6, x7, x8] [] M v M' 0 0 := by
  refine Ev.step (pc' := 42) (ls' := [some (.ref w), some (.int t), some (.int bf), some (.int n), some (.int k), x5, x6, x7, x8]) (st' := [.ref w]) (M1 := M) 1 (fun n => rfl) ?_
  refine Ev.step 1 (gs_3 rfl rfl (gf_c rfl hw f1)) ?_
  refine Ev.step 1 (gs_3 rfl rfl (gf_c rfl ha2 f3)) ?_
  refine Ev.step (pc' := 50) (ls' := [some (.ref w), some (.int t), some (.int bf), some (.int n), some (.int k), x5, x6, x7, x8]) (st' := [.int k, .ref a4]) (M1 := M) 1 (fun n => rfl) ?_
  refine Ev.step 1 (gs_3 rfl rfl (aa_c ra4 g5 rfl)) ?_
  refine Ev.step (pc' := 54) (ls' := [some (.ref w), some (.int t), some (.int bf), some (.int n), some (.int k), some (.ref a6), x6, x7, x8]) (st' := [.ref w]) (M1 := M) 2 (fun n => rfl) ?_
  refine Ev.step 1 (gs_3 rfl rfl (gf_c rfl hw f1)) ?_
  refine Ev.step 1 (gs_3 rfl rfl (gf_c rfl ha2 f7)) ?_
  refine Ev.step (pc' := 62) (ls' := [some (.ref w), some (.int t), some (.int bf), some (.int n), some (.int k), some (.ref a6), x6, x7, x8]) (st' := [.ref a6, .ref a8]) (M1 := M) 1 (fun n => rfl) ?_
  refine Ev.step 1 (gs_3 rfl rfl (gf_c rfl ha6 f9)) ?_
  refine Ev.step 1 (gs_3 rfl rfl (aa_c ra8 g11 rfl)) ?_
  refine Ev.step (pc' := 69) (ls' := [some (.ref w), some (.int t), some (.int bf), some (.int n), some (.int k), some (.ref a6), some (.ref a12), x7, x8]) (st' := [.ref w]) (M1 := M) 2 (fun n => rfl) ?_
  refine Ev.step 1 (gs_3 rfl rfl (gf_c rfl hw f1)) ?_
  refine Ev.step 1 (gs_3 rfl rfl (gf_c rfl ha2 f13)) ?_
  refine Ev.step (pc' := 77) (ls' := [some (.ref w), some (.int t), some (.int bf), some (.int n), some (.int k), some (.ref a6), some (.ref a12), x7, x8]) (st' := [.ref a12, .ref a14]) (M1 := M) 1 (fun n => rfl) ?_
  refine Ev.step 1 (gs_3 rfl rfl (gf_c rfl ha12 f15)) ?_
  refine Ev.step 1 (gs_3 rfl rfl (ia_c ra14 g17)) ?_
  refine Ev.step (pc' := 90) (ls' := [some (.ref w), some (.int t), some (.int bf), some (.int n), some (.int k), some (.ref a6), some (.ref a12), some (.int y18), x8]) (st' := [.ref a12, .int y18, .ref a6, .ref w]) (M1 := M) 5 (fun n => rfl) ?_
  refine Ev.step 1 (gs_3 rfl rfl (gf_c rfl ha12 f19)) ?_
  exact hz
theorem go_96 {e : Nat} {M : Mem} {M' : Mem} {v : Option Value} {bf d gl k n t : Int32} {o w ws : Nat} {x8 : Option Value}  (hz : Ev none e 58 (if d = (-1) then 173 else 104) [some (.ref w), some (.int t), some (.int bf), some (.int n), some (.int k), some (.ref o), some (.ref ws), some (.int gl), some (.int d)] [] M v M' 0 0) : Ev none e 58 96 [some (.ref w), some (.int t), some (.int bf), some (.int n), some (.int k), some (.ref o), some (.ref ws), some (.int gl), x8] [.int d] M v M' 0 0 := by
  refine Ev.step (pc' := (if d = (-1) then 173 else 104)) (ls' := [some (.ref w), some (.int t), some (.int bf), some (.int n), some (.int k), some (.ref o), some (.ref ws), some (.int gl), some (.int d)]) (st' := []) (M1 := M) 4 (fun n => rfl) ?_
  exact hz
theorem go_104 {e : Nat} {M : Mem} {M' : Mem} {v : Option Value} {va2 vo vw : List Value} {bf d gl k n t y6 y8 : Int32} {a2 a4 o w ws : Nat} {la4 : List Int32} (hw : gNth M w = some (.inr (7, vw))) (f1 : gNth vw 7 = some (.ref a2)) (ha2 : gNth M a2 = some (.inr (1, va2))) (f3 : gNth va2 9 = some (.ref a4)) (ho : gNth M o = some (.inr (8, vo))) (f5 : gNth vo 0 = some (.int y6)) (ra4 : gNth M a4 = some (.inl (1, .inl la4))) (g7 : gAt la4 y6 = some y8) (hz : Ev none e 58 121 [some (.ref w), some (.int t), some (.int bf), some (.int n), some (.int k), some (.ref o), some (.ref ws), some (.int gl), some (.int d)] [] (gPut M a4 (.inl (1, .inl (gPut la4 y6.toNatClampNeg (y8 - 1))))) v M' 0 0) : Ev none e 58 104 [some (.ref w), some (.int t), some (.int bf), some (.int n), some (.int k), some (.ref o), some (.ref ws), some (.int gl), some (.int d)] [] M v M' 0 0 := by
  refine Ev.step (pc' := 105) (ls' := [some (.ref w), some (.int t), some (.int bf), some (.int n), some (.int k), some (.ref o), some (.ref ws), some (.int gl), some (.int d)]) (st' := [.ref w]) (M1 := M) 1 (fun n => rfl) ?_
  refine Ev.step 1 (gs_3 rfl rfl (gf_c rfl hw f1)) ?_
  refine Ev.step 1 (gs_3 rfl rfl (gf_c rfl ha2 f3)) ?_
  refine Ev.step (pc' := 113) (ls' := [some (.ref w), some (.int t), some (.int bf), some (.int n), some (.int k), some (.ref o), some (.ref ws), some (.int gl), some (.int d)]) (st' := [.ref o, .ref a4]) (M1 := M) 1 (fun n => rfl) ?_
  refine Ev.step 1 (gs_3 rfl rfl (gf_c rfl ho f5)) ?_
  refine Ev.step (pc' := 117) (ls' := [some (.ref w), some (.int t), some (.int bf), some (.int n), some (.int k), some (.ref o), some (.ref ws), some (.int gl), some (.int d)]) (st' := [.int y6, .ref a4, .int y6, .ref a4]) (M1 := M) 1 (fun n => rfl) ?_
  refine Ev.step 1 (gs_3 rfl rfl (ia_c ra4 g7)) ?_
  refine Ev.step (pc' := 120) (ls' := [some (.ref w), some (.int t), some (.int bf), some (.int n), some (.int k), some (.ref o), some (.ref ws), some (.int gl), some (.int d)]) (st' := [.int (y8 - 1), .int y6, .ref a4]) (M1 := M) 2 (fun n => rfl) ?_
  refine Ev.step 1 (gs_4 rfl rfl (is_c ra4 g7)) ?_
  exact hz
theorem go_121 {e : Nat} {M : Mem} {M' : Mem} {v : Option Value} {va2 vo vw : List Value} {bf d gl k n t y6 y8 : Int32} {a2 a4 o w ws : Nat} {la4 : List Int32} (hw : gNth M w = some (.inr (7, vw))) (f1 : gNth vw 0 = some (.ref a2)) (ha2 : gNth M a2 = some (.inr (0, va2))) (f3 : gNth va2 2 = some (.ref a4)) (ho : gNth M o = some (.inr (8, vo))) (f5 : gNth vo 0 = some (.int y6)) (ra4 : gNth M a4 = some (.inl (1, .inl la4))) (g7 : gAt la4 ((8 * y6) + d) = some y8) (hz : Ev none e 58 144 [some (.ref w), some (.int t), some (.int bf), some (.int n), some (.int k), some (.ref o), some (.ref ws), some (.int gl), some (.int d)] [.int d, .int y8, .ref o] M v M' 0 0) : Ev none e 58 121 [some (.ref w), some (.int t), some (.int bf), some (.int n), some (.int k), some (.ref o), some (.ref ws), some (.int gl), some (.int d)] [] M v M' 0 0 := by
  refine Ev.step (pc' := 124) (ls' := [some (.ref w), some (.int t), some (.int bf), some (.int n), some (.int k), some (.ref o), some (.ref ws), some (.int gl), some (.int d)]) (st' := [.ref w, .ref o]) (M1 := M) 2 (fun n => rfl) ?_
  refine Ev.step 1 (gs_3 rfl rfl (gf_c rfl hw f1)) ?_
  refine Ev.step 1 (gs_3 rfl rfl (gf_c rfl ha2 f3)) ?_
  refine Ev.step (pc' := 134) (ls' := [some (.ref w), some (.int t), some (.int bf), some (.int n), some (.int k), some (.ref o), some (.ref ws), some (.int gl), some (.int d)]) (st' := [.ref o, .int 8, .ref a4, .ref o]) (M1 := M) 2 (fun n => rfl) ?_
  refine Ev.step 1 (gs_3 rfl rfl (gf_c rfl ho f5)) ?_
  refine Ev.step (pc' := 141) (ls' := [some (.ref w), some (.int t), some (.int bf), some (.int n), some (.int k), some (.ref o), some (.ref ws), some (.int gl), some (.int d)]) (st' := [.int ((8 * y6) + d), .ref a4, .ref o]) (M1 := M) 3 (fun n => rfl) ?_
  refine Ev.step 1 (gs_3 rfl rfl (ia_c ra4 g7)) ?_
  refine Ev.step (pc' := 144) (ls' := [some (.ref w), some (.int t), some (.int bf), some (.int n), some (.int k), some (.ref o), some (.ref ws), some (.int gl), some (.int d)]) (st' := [.int d, .int y8, .ref o]) (M1 := M) 1 (fun n => rfl) ?_
  exact hz
theorem go_147 {e : Nat} {M : Mem} {M' : Mem} {v : Option Value} {va2 vo vw : List Value} {bf d gl k n t y6 y8 : Int32} {a2 a4 o w ws : Nat} {la4 : List Int32} (hw : gNth M w = some (.inr (7, vw))) (f1 : gNth vw 7 = some (.ref a2)) (ha2 : gNth M a2 = some (.inr (1, va2))) (f3 : gNth va2 9 = some (.ref a4)) (ho : gNth M o = some (.inr (8, vo))) (f5 : gNth vo 0 = some (.int y6)) (ra4 : gNth M a4 = some (.inl (1, .inl la4))) (g7 : gAt la4 y6 = some y8) (hz : Ev none e 58 164 [some (.ref w), some (.int t), some (.int bf), some (.int n), some (.int k), some (.ref o), some (.ref ws), some (.int gl), some (.int d)] [] (gPut M a4 (.inl (1, .inl (gPut la4 y6.toNatClampNeg (y8 + 1))))) v M' 0 0) : Ev none e 58 147 [some (.ref w), some (.int t), some (.int bf), some (.int n), some (.int k), some (.ref o), some (.ref ws), some (.int gl), some (.int d)] [] M v M' 0 0 := by
  refine Ev.step (pc' := 148) (ls' := [some (.ref w), some (.int t), some (.int bf), some (.int n), some (.int k), some (.ref o), some (.ref ws), some (.int gl), some (.int d)]) (st' := [.ref w]) (M1 := M) 1 (fun n => rfl) ?_
  refine Ev.step 1 (gs_3 rfl rfl (gf_c rfl hw f1)) ?_
  refine Ev.step 1 (gs_3 rfl rfl (gf_c rfl ha2 f3)) ?_
  refine Ev.step (pc' := 156) (ls' := [some (.ref w), some (.int t), some (.int bf), some (.int n), some (.int k), some (.ref o), some (.ref ws), some (.int gl), some (.int d)]) (st' := [.ref o, .ref a4]) (M1 := M) 1 (fun n => rfl) ?_
  refine Ev.step 1 (gs_3 rfl rfl (gf_c rfl ho f5)) ?_
  refine Ev.step (pc' := 160) (ls' := [some (.ref w), some (.int t), some (.int bf), some (.int n), some (.int k), some (.ref o), some (.ref ws), some (.int gl), some (.int d)]) (st' := [.int y6, .ref a4, .int y6, .ref a4]) (M1 := M) 1 (fun n => rfl) ?_
  refine Ev.step 1 (gs_3 rfl rfl (ia_c ra4 g7)) ?_
  refine Ev.step (pc' := 163) (ls' := [some (.ref w), some (.int t), some (.int bf), some (.int n), some (.int k), some (.ref o), some (.ref ws), some (.int gl), some (.int d)]) (st' := [.int (y8 + 1), .int y6, .ref a4]) (M1 := M) 2 (fun n => rfl) ?_
  refine Ev.step 1 (gs_4 rfl rfl (is_c ra4 g7)) ?_
  exact hz
theorem go_164 {e : Nat} {M : Mem} {M' : Mem} {v : Option Value} {vo : List Value} {bf d gl k n t y2 : Int32} {o w ws : Nat} (ho : gNth M o = some (.inr (8, vo))) (f1 : gNth vo 0 = some (.int y2)) (hz : Ev none e 58 170 [some (.ref w), some (.int t), some (.int bf), some (.int n), some (.int k), some (.ref o), some (.ref ws), some (.int gl), some (.int d)] [.int y2, .ref w] M v M' 0 0) : Ev none e 58 164 [some (.ref w), some (.int t), some (.int bf), some (.int n), some (.int k), some (.ref o), some (.ref ws), some (.int gl), some (.int d)] [] M v M' 0 0 := by
  refine Ev.step (pc' := 167) (ls' := [some (.ref w), some (.int t), some (.int bf), some (.int n), some (.int k), some (.ref o), some (.ref ws), some (.int gl), some (.int d)]) (st' := [.ref o, .ref w]) (M1 := M) 2 (fun n => rfl) ?_
  refine Ev.step 1 (gs_3 rfl rfl (gf_c rfl ho f1)) ?_
  exact hz
theorem go_173 {e : Nat} {M : Mem} {M' : Mem} {v : Option Value} {vo : List Value} {bf d gl k n t y2 : Int32} {o w ws : Nat} (ho : gNth M o = some (.inr (8, vo))) (f1 : gNth vo 2 = some (.int y2)) (hlo : 2 < vo.length) (hz : Ev none e 58 184 [some (.ref w), some (.int t), some (.int bf), some (.int n), some (.int k), some (.ref o), some (.ref ws), some (.int gl), some (.int d)] [] (gPut M o (.inr (8, gPut vo 2 (.int (y2 + 1))))) v M' 0 0) : Ev none e 58 173 [some (.ref w), some (.int t), some (.int bf), some (.int n), some (.int k), some (.ref o), some (.ref ws), some (.int gl), some (.int d)] [] M v M' 0 0 := by
  refine Ev.step (pc' := 176) (ls' := [some (.ref w), some (.int t), some (.int bf), some (.int n), some (.int k), some (.ref o), some (.ref ws), some (.int gl), some (.int d)]) (st' := [.ref o, .ref o]) (M1 := M) 2 (fun n => rfl) ?_
  refine Ev.step 1 (gs_3 rfl rfl (gf_c rfl ho f1)) ?_
  refine Ev.step (pc' := 181) (ls' := [some (.ref w), some (.int t), some (.int bf), some (.int n), some (.int k), some (.ref o), some (.ref ws), some (.int gl), some (.int d)]) (st' := [.int (y2 + 1), .ref o]) (M1 := M) 2 (fun n => rfl) ?_
  refine Ev.step 1 (gs_4 rfl rfl (pf_c rfl ho hlo rfl rfl)) ?_
  exact hz
theorem go_184 {e : Nat} {M : Mem} {M' : Mem} {v : Option Value} {bf d gl k n t : Int32} {o w ws : Nat}  (hz : Ev none e 58 189 [some (.ref w), some (.int t), some (.int bf), some (.int n), some (.int k), some (.ref o), some (.ref ws), some (.int gl), some (.int d)] [.int gl, .ref o, .ref w] M v M' 0 0) : Ev none e 58 184 [some (.ref w), some (.int t), some (.int bf), some (.int n), some (.int k), some (.ref o), some (.ref ws), some (.int gl), some (.int d)] [] M v M' 0 0 := by
  refine Ev.step (pc' := 189) (ls' := [some (.ref w), some (.int t), some (.int bf), some (.int n), some (.int k), some (.ref o), some (.ref ws), some (.int gl), some (.int d)]) (st' := [.int gl, .ref o, .ref w]) (M1 := M) 3 (fun n => rfl) ?_
  exact hz
theorem go_192 {e : Nat} {M : Mem} {M' : Mem} {v : Option Value} {bf d gl k n t : Int32} {o w ws : Nat}  (hz : Ev none e 58 29 [some (.ref w), some (.int t), some (.int bf), some (.int n), some (.int (k + 1)), some (.ref o), some (.ref ws), some (.int gl), some (.int d)] [] M v M' 0 0) : Ev none e 58 192 [some (.ref w), some (.int t), some (.int bf), some (.int n), some (.int k), some (.ref o), some (.ref ws), some (.int gl), some (.int d)] [] M v M' 0 0 := by
  refine Ev.step (pc' := 29) (ls' := [some (.ref w), some (.int t), some (.int bf), some (.int n), some (.int (k + 1)), some (.ref o), some (.ref ws), some (.int gl), some (.int d)]) (st' := []) (M1 := M) 2 (fun n => rfl) ?_
  exact hz
theorem go_198 {e : Nat} {M : Mem} {M' : Mem} {v : Option Value} {bf k n t : Int32} {w : Nat} {x5 x6 x7 x8 : Option Value}  (hz : Ev none e 58 199 [some (.ref w), some (.int t), some (.int bf), some (.int n), some (.int k), x5, x6, x7, x8] [.ref w] M v M' 0 0) : Ev none e 58 198 [some (.ref w), some (.int t), some (.int bf), some (.int n), some (.int k), x5, x6, x7, x8] [] M v M' 0 0 := by
  refine Ev.step (pc' := 199) (ls' := [some (.ref w), some (.int t), some (.int bf), some (.int n), some (.int k), x5, x6, x7, x8]) (st' := [.ref w]) (M1 := M) 1 (fun n => rfl) ?_
  exact hz
theorem go_202 {e : Nat} {M : Mem} {M' : Mem} {v : Option Value} {va2 vw : List Value} {bf n t y4 : Int32} {a2 w : Nat} {x4 x5 x6 x7 x8 : Option Value} (hw : gNth M w = some (.inr (7, vw))) (f1 : gNth vw 7 = some (.ref a2)) (ha2 : gNth M a2 = some (.inr (1, va2))) (f3 : gNth va2 16 = some (.int y4)) (hla2 : 16 < va2.length) (hz : Ev none e 58 10 [some (.ref w), some (.int t), some (.int bf), some (.int (n + 1)), x4, x5, x6, x7, x8] [] (gPut M a2 (.inr (1, gPut va2 16 (.int (y4 + 1))))) v M' 0 0) : Ev none e 58 202 [some (.ref w), some (.int t), some (.int bf), some (.int n), x4, x5, x6, x7, x8] [] M v M' 0 0 := by
  refine Ev.step (pc' := 203) (ls' := [some (.ref w), some (.int t), some (.int bf), some (.int n), x4, x5, x6, x7, x8]) (st' := [.ref w]) (M1 := M) 1 (fun n => rfl) ?_
  refine Ev.step 1 (gs_3 rfl rfl (gf_c rfl hw f1)) ?_
  refine Ev.step (pc' := 207) (ls' := [some (.ref w), some (.int t), some (.int bf), some (.int n), x4, x5, x6, x7, x8]) (st' := [.ref a2, .ref a2]) (M1 := M) 1 (fun n => rfl) ?_
  refine Ev.step 1 (gs_3 rfl rfl (gf_c rfl ha2 f3)) ?_
  refine Ev.step (pc' := 212) (ls' := [some (.ref w), some (.int t), some (.int bf), some (.int n), x4, x5, x6, x7, x8]) (st' := [.int (y4 + 1), .ref a2]) (M1 := M) 2 (fun n => rfl) ?_
  refine Ev.step 1 (gs_4 rfl rfl (pf_c rfl ha2 hla2 rfl rfl)) ?_
  refine Ev.step (pc' := 10) (ls' := [some (.ref w), some (.int t), some (.int bf), some (.int (n + 1)), x4, x5, x6, x7, x8]) (st' := []) (M1 := (gPut M a2 (.inr (1, gPut va2 16 (.int (y4 + 1)))))) 2 (fun n => rfl) ?_
  exact hz
theorem go_221 {e : Nat} {M : Mem} {va2 vw : List Value} {bf n t y4 : Int32} {a2 w : Nat} {x4 x5 x6 x7 x8 : Option Value} (hw : gNth M w = some (.inr (7, vw))) (f1 : gNth vw 7 = some (.ref a2)) (ha2 : gNth M a2 = some (.inr (1, va2))) (f3 : gNth va2 17 = some (.int y4)) : Ev none e 58 221 [some (.ref w), some (.int t), some (.int bf), some (.int n), x4, x5, x6, x7, x8] [] M (some (.int (y4 - bf))) M 0 0 := by
  refine Ev.step (pc' := 222) (ls' := [some (.ref w), some (.int t), some (.int bf), some (.int n), x4, x5, x6, x7, x8]) (st' := [.ref w]) (M1 := M) 1 (fun n => rfl) ?_
  refine Ev.step 1 (gs_3 rfl rfl (gf_c rfl hw f1)) ?_
  refine Ev.step 1 (gs_3 rfl rfl (gf_c rfl ha2 f3)) ?_
  refine Ev.step (pc' := 230) (ls' := [some (.ref w), some (.int t), some (.int bf), some (.int n), x4, x5, x6, x7, x8]) (st' := [.int (y4 - bf)]) (M1 := M) 2 (fun n => rfl) ?_
  exact Ev.ret (fun n => rfl)
/-! BY HAND, the class: what the walkers' steps keep -/
noncomputable def irB (g n : Nat) (lo hi : Int) : Bool := match gNth sG g with
  | some (.inr (q, m, .inl [(a, b, w, [(x, y)])])) => (Nat.beq q 1 && (Nat.beq m n && (Nat.beq a 0 && (Nat.beq b n && Nat.beq w 1)))) && (decide (x = lo) && decide (y = hi))
  | _ => false
theorem sg_one {n i : Nat} {p : Iv} (h : i < n) : sgAt [(0, n, 1, [p])] i = some p := by
  show cond (Nat.ble 0 i && Nat.blt i n) (gNth [p] ((i - 0) % 1)) _ = _
  have h1 : Nat.ble 0 i = true := Nat.ble_eq_true_of_le (Nat.zero_le _)
  have h2 : Nat.blt i n = true := Nat.ble_eq_true_of_le h
  rw [h1, h2, Nat.mod_one]
  rfl
theorem TM.irow {M : Mem} {a g n : Nat} {lo hi : Int} (hT : TM sT sG M) (ha : gNth sT a = some g) (hB : irB g n lo hi = true) : ∃ l, gNth M a = some (.inl (1, .inl l)) ∧ l.length = n ∧ (∀ j x, gNth l j = some x → lo ≤ x.toInt ∧ x.toInt ≤ hi) ∧ ∀ (i : Nat) (z : Int32), lo ≤ z.toInt → z.toInt ≤ hi → TM sT sG (gPut M a (.inl (1, .inl (gPut l i z)))) := by
  unfold irB at hB
  split at hB
  rotate_left
  · cases hB
  rename_i q m a0 b0 w x y e
  obtain ⟨b1, hB⟩ := and_t hB
  obtain ⟨x1, x2⟩ := and_t hB
  obtain ⟨b1, b2⟩ := and_t b1
  obtain ⟨b2, b3⟩ := and_t b2
  obtain ⟨b3, b4⟩ := and_t b3
  obtain ⟨b4, b5⟩ := and_t b4
  cases Nat.eq_of_beq_eq_true b1
  cases Nat.eq_of_beq_eq_true b2
  cases Nat.eq_of_beq_eq_true b3
  cases Nat.eq_of_beq_eq_true b4
  cases Nat.eq_of_beq_eq_true b5
  cases of_decide_eq_true x1
  cases of_decide_eq_true x2
  obtain ⟨ee, e1, e2⟩ := hT.at ha e
  obtain ⟨l, rfl, l1, l2⟩ := ct_int (by decide) e2
  refine ⟨l, e1, l1, fun j v hj => ?_, fun i z z1 z2 => hT.put (fun g3 t q1 q2 => ?_)⟩
  · obtain ⟨p, p1, p2⟩ := l2 j v hj
    have hlt := gNth_lt _ _ _ hj
    rw [l1] at hlt
    rw [sg_one hlt] at p1
    cases p1
    exact p2
  · rw [ha] at q1
    cases q1
    rw [e] at q2
    cases q2
    refine ct_mk (by decide) (by rw [put_len]; exact l1) (fun j v hj => ?_)
    have hlt := gNth_lt _ _ _ hj
    rw [put_len, l1] at hlt
    refine ⟨_, sg_one hlt, ?_⟩
    rw [nth_put] at hj
    split at hj
    · cases hj
      exact ⟨z1, z2⟩
    · obtain ⟨p, p1, p2⟩ := l2 j v hj
      rw [sg_one hlt] at p1
      cases p1
      exact p2
/-- the land that walks -/
def LD (ld : Nat) (M : Mem) : Prop := ∃ vw, gNth M 104 = some (.inr (7, vw)) ∧ gNth vw 7 = some (.ref ld)
theorem LD.frm {ld : Nat} {md : Md} {M M' : Mem} (hF : Frm sT md M M') (hm : (7, 7) ∉ md) (h : LD ld M) : LD ld M' := by
  obtain ⟨vw, e1, e2⟩ := h
  obtain ⟨vw', f1, _, f3⟩ := hF.2.1 _ _ _ e1
  exact ⟨vw', f1, (f3 7 hm).trans e2⟩
theorem LD.grp {ld : Nat} {M : Mem} (hT : TM sT sG M) (h : LD ld M) : gNth sT ld = some 8 := by
  obtain ⟨vw, e1, e2⟩ := h
  obtain ⟨q, y5⟩ := and_t lyW
  obtain ⟨q, y4⟩ := and_t q
  obtain ⟨q, y3⟩ := and_t q
  obtain ⟨y1, y2⟩ := and_t q
  obtain ⟨vs, b, f1, f2, f3⟩ := hT.fref sT_104 y1
  cases e1.symm.trans f1
  cases e2.symm.trans f2
  exact f3
theorem cge_frm {md : Md} {M M' : Mem} {b : Nat} (hF : Frm sT md M M') (hm : (8, 0) ∉ md) (h : cge M b) : cge M' b := by
  obtain ⟨us, x, g2, g3, g4⟩ := h
  obtain ⟨us', i1, i2, i3⟩ := hF.2.1 _ _ _ g2
  exact ⟨us', x, i1, (i3 0 hm).trans g3, g4⟩
/-- some steps: walkers of S may lose their cells, no others -/
def KP (S : Nat → Prop) (md : Md) (ld : Nat) (M M' : Mem) : Prop := TM sT sG M' ∧ Frm sT md M M' ∧ LD ld M' ∧ ∀ b, ¬ S b → cge M b → cge M' b
section KPS
variable {S : Nat → Prop} {md : Md} {ld : Nat} {M M1 M2 : Mem}
theorem KP.refl (hT : TM sT sG M) (hL : LD ld M) : KP S md ld M M := ⟨hT, Frm.refl _, hL, fun _ _ h => h⟩
theorem KP.trans (h : KP S md ld M M1) (h2 : KP S md ld M1 M2) : KP S md ld M M2 := ⟨h2.1, h.2.1.trans h2.2.1, h2.2.2.1, fun b hb hc => h2.2.2.2 b hb (h.2.2.2 b hb hc)⟩
theorem KP.call {cm : Md} (hT : TM sT sG M1) (hF : Frm sT cm M M1) (hs : mdSub cm md = true) (h8 : (8, 0) ∉ cm) (h7 : (7, 7) ∉ cm) (hL : LD ld M) : KP S md ld M M1 :=
  ⟨hT, hF.more (mdSub_mem hs), hL.frm hF h7, fun _ _ h => cge_frm hF h8 h⟩
theorem KP.fld {a g ci k : Nat} {lo hi : Int} {vs : List Value} (hT : TM sT sG M) (hL : LD ld M) (ha : gNth sT a = some g) (hB : fiB g ci k lo hi = true) (hM : gNth M a = some (.inr (ci, vs))) (hmd : (ci, k) ∈ md) {z : Int32} (z1 : lo ≤ z.toInt) (z2 : z.toInt ≤ hi) (h7 : ci ≠ 7) (h8 : ¬ (ci = 8 ∧ k = 0) ∨ S a ∨ 0 ≤ z.toInt) : KP S md ld M (gPut M a (.inr (ci, gPut vs k (.int z)))) := by
  obtain ⟨vs2, y, e1, e2, e3, _, _, e4⟩ := hT.fnum ha hB
  cases e1.symm.trans hM
  have hF : Frm sT [(ci, k)] M (gPut M a (.inr (ci, gPut vs k (.int z)))) := Frm.fld hM List.mem_cons_self
  refine ⟨e4 z z1 z2, Frm.fld hM hmd, hL.frm hF (fun q => h7 (by cases List.mem_singleton.mp q; rfl)), fun b hb hc => ?_⟩
  rcases h8 with h8 | h8 | h8
  · exact cge_frm hF (fun q => h8 (by cases List.mem_singleton.mp q; exact ⟨rfl, rfl⟩)) hc
  · obtain ⟨us, x, g2, g3, g4⟩ := hc
    exact ⟨us, x, by rw [nth_put, if_neg (fun q => hb (by rw [q.1]; exact h8))]; exact g2, g3, g4⟩
  · obtain ⟨us, x, g2, g3, g4⟩ := hc
    by_cases hba : b = a
    · subst hba
      cases g2.symm.trans hM
      refine ⟨gPut vs k (.int z), if k = 0 then z else x, by rw [nth_put, if_pos ⟨rfl, gNth_lt _ _ _ hM⟩], ?_, ?_⟩
      · by_cases hk : k = 0
        · subst hk
          rw [if_pos rfl, nth_put, if_pos ⟨rfl, e3⟩]
        · rw [if_neg hk, nth_put, if_neg (fun q => hk q.1.symm)]
          exact g3
      · by_cases hk : k = 0
        · rw [if_pos hk]; exact h8
        · rw [if_neg hk]; exact g4
    · exact ⟨us, x, by rw [nth_put, if_neg (fun q => hba q.1)]; exact g2, g3, g4⟩
theorem KP.row {a g n i : Nat} {lo hi : Int} {l : List Int32} (hT : TM sT sG M) (hL : LD ld M) (ha : gNth sT a = some g) (hB : irB g n lo hi = true) (hM : gNth M a = some (.inl (1, .inl l))) (hmd : (1000 + g, 0) ∈ md) {z : Int32} (z1 : lo ≤ z.toInt) (z2 : z.toInt ≤ hi) : KP S md ld M (gPut M a (.inl (1, .inl (gPut l i z)))) := by
  obtain ⟨l2, e1, e2, e3, e4⟩ := hT.irow ha hB
  cases e1.symm.trans hM
  have hF : Frm sT [(1000 + g, 0)] M (gPut M a (.inl (1, .inl (gPut l i z)))) := Frm.row hM ha List.mem_cons_self
  exact ⟨e4 i z z1 z2, Frm.row hM ha hmd, hL.frm hF (fun q => by have := (Prod.mk.inj (List.mem_singleton.mp q)).1; omega), fun b _ hc => cge_put hM hc⟩
end KPS
/-- all lands' walkers, but the first i of the land that walks -/
def WKi (a i : Nat) (M : Mem) : Prop := ∃ (vl : List Value) (l : List (Option Nat)) (n : Int32), gNth M a = some (.inr (1, vl)) ∧ gNth vl 14 = some (.ref (a + 11)) ∧ gNth vl 15 = some (.int n) ∧ gNth M (a + 11) = some (.inl (6, .inr (.inr l))) ∧ unl l ∧ (∀ k b, gNth l k = some (some b) → a + 36 ≤ b ∧ b < a + 96) ∧ ∀ k, i ≤ k → k < n.toInt.toNat → ∃ b, gNth l k = some (some b) ∧ cge M b
def PG (ld i : Nat) (M : Mem) : Prop := ∀ a, a ∈ [8, 243, 345, 441, 537] → WKi a (if a = ld then i else 0) M
theorem PG.of {ld : Nat} {M : Mem} (h : P34 M) : PG ld 0 M := by
  intro a ha
  obtain ⟨vl, l, n, e1, e2, e3, e4, e5, e6, e7⟩ := h a ha
  exact ⟨vl, l, n, e1, e2, e3, e4, e5, e6, fun k _ hk => e7 k hk⟩
set_option maxRecDepth 100000 in
theorem ld_grp : ((List.range 664).all (fun a => match gNth sT a with
  | some g => !Nat.beq g 8 || (Nat.beq a 8 || (Nat.beq a 243 || (Nat.beq a 345 || (Nat.beq a 441 || Nat.beq a 537))))
  | none => true)) = true := by decide +kernel
theorem ld_in {a : Nat} (h : gNth sT a = some 8) : a ∈ [8, 243, 345, 441, 537] := by
  have hl := gNth_lt _ _ _ h
  rw [sT_len] at hl
  have h1 := List.all_eq_true.mp ld_grp a (List.mem_range.mpr hl)
  rw [h] at h1
  have h2 : (!Nat.beq 8 8 || (Nat.beq a 8 || (Nat.beq a 243 || (Nat.beq a 345 || (Nat.beq a 441 || Nat.beq a 537))))) = true := h1
  simp only [Bool.or_eq_true] at h2
  rcases h2 with h2 | h2 | h2 | h2 | h2 | h2
  · cases h2
  · cases Nat.eq_of_beq_eq_true h2; decide
  · cases Nat.eq_of_beq_eq_true h2; decide
  · cases Nat.eq_of_beq_eq_true h2; decide
  · cases Nat.eq_of_beq_eq_true h2; decide
  · cases Nat.eq_of_beq_eq_true h2; decide
theorem WKi.frm {a i i' : Nat} {md : Md} {M M' : Mem} (ha : a ∈ [8, 243, 345, 441, 537]) (hF : Frm sT md M M') (m1 : (1, 14) ∉ md) (m2 : (1, 15) ∉ md) (m4 : (1019, 0) ∉ md) (hii : i ≤ i') (h : WKi a i M) (hc : ∀ l k b, gNth M (a + 11) = some (.inl (6, .inr (.inr l))) → unl l → (∀ k b, gNth l k = some (some b) → a + 36 ≤ b ∧ b < a + 96) → gNth l k = some (some b) → i' ≤ k → cge M b → cge M' b) : WKi a i' M' := by
  obtain ⟨vl, l, n, e1, e2, e3, e4, e5, e6, e7⟩ := h
  obtain ⟨vl', f1, f2, f3⟩ := hF.2.1 _ _ _ e1
  refine ⟨vl', l, n, f1, (f3 14 m1).trans e2, (f3 15 m2).trans e3, row_frm hF (ld_row ha) m4 e4, e5, e6, fun k hk hk2 => ?_⟩
  obtain ⟨b, g1, g2⟩ := e7 k (Nat.le_trans hii hk) hk2
  exact ⟨b, g1, hc l k b e4 e5 e6 g1 hk g2⟩
/-- the i-th walker has gone -/
theorem PG.step {ld i o : Nat} {md : Md} {M M' : Mem} {l : List (Option Nat)} (hld : ld ∈ [8, 243, 345, 441, 537]) (h : PG ld i M) (hK : KP (fun b => b = o) md ld M M') (m1 : (1, 14) ∉ md) (m2 : (1, 15) ∉ md) (m4 : (1019, 0) ∉ md) (hr : gNth M (ld + 11) = some (.inl (6, .inr (.inr l)))) (ho : gNth l i = some (some o)) : PG ld (i + 1) M' := by
  intro a ha
  have hW := h a ha
  obtain ⟨vl0, l0, n0, _, _, _, d4, d5, d6, _⟩ := h ld hld
  cases d4.symm.trans hr
  have hob := d6 i o ho
  by_cases hal : a = ld
  · subst hal
    rw [if_pos rfl] at hW ⊢
    refine WKi.frm ha hK.2.1 m1 m2 m4 (Nat.le_succ _) hW (fun l2 k b q1 q2 q3 q4 q5 q6 => hK.2.2.2 b (fun q => ?_) q6)
    cases q1.symm.trans hr
    have q : b = o := q
    subst q
    have := q2 k i b q4 ho
    omega
  · rw [if_neg hal] at hW ⊢
    refine WKi.frm ha hK.2.1 m1 m2 m4 (Nat.le_refl _) hW (fun l2 k b q1 q2 q3 q4 q5 q6 => hK.2.2.2 b (fun q => ?_) q6)
    have q : b = o := q
    subst q
    have := q3 k b q4
    have := ld_all ha
    have := ld_all hld
    omega
theorem P34.kp {ld : Nat} {md : Md} {M M' : Mem} (h : P34 M) (hK : KP (fun _ => False) md ld M M') (m1 : (1, 14) ∉ md) (m2 : (1, 15) ∉ md) (m4 : (1019, 0) ∉ md) : P34 M' := by
  intro a ha
  obtain ⟨vl, l, n, e1, e2, e3, e4, e5, e6, e7⟩ := h a ha
  obtain ⟨vl', l', n', f1, f2, f3, f4, f5, f6, f7⟩ := WKi.frm (i := 0) (i' := 0) ha hK.2.1 m1 m2 m4 (Nat.le_refl _) ⟨vl, l, n, e1, e2, e3, e4, e5, e6, fun k _ hk => e7 k hk⟩ (fun _ _ b _ _ _ _ _ q => hK.2.2.2 b (fun q => q) q)
  exact ⟨vl', l', n', f1, f2, f3, f4, f5, f6, fun k hk => f7 k (Nat.zero_le _) hk⟩
/-- one more walks -/
theorem P34.more {ld b nn : Nat} {M : Mem} {vl : List Value} {l : List (Option Nat)} {n : Int32} (hld : ld ∈ [8, 243, 345, 441, 537]) (h : P34 M) (hM : gNth M ld = some (.inr (1, vl))) (hn : gNth vl 15 = some (.int n)) (hnn : n.toInt = (nn : Int)) (h60 : nn < 60) (hr : gNth M (ld + 11) = some (.inl (6, .inr (.inr l)))) (hb : gNth l nn = some (some b)) (hc : cge M b) : P34 (gPut M ld (.inr (1, gPut vl 15 (.int (n + 1))))) := by
  intro a ha
  obtain ⟨vl2, l2, n2, e1, e2, e3, e4, e5, e6, e7⟩ := h a ha
  have hlt := gNth_lt _ _ _ hM
  have e1n : (n + 1).toInt = n.toInt + 1 := i32_p1 (by omega)
  have hrow : gNth (gPut M ld (.inr (1, gPut vl 15 (.int (n + 1))))) (a + 11) = some (.inl (6, .inr (.inr l2))) := by
    rw [nth_put, if_neg (fun q => by rw [q.1, hM] at e4; cases e4)]
    exact e4
  have hcg : ∀ c, cge M c → cge (gPut M ld (.inr (1, gPut vl 15 (.int (n + 1))))) c := by
    rintro c ⟨us, x, g2, g3, g4⟩
    exact ⟨us, x, by rw [nth_put, if_neg (fun q => by rw [q.1, hM] at g2; cases g2)]; exact g2, g3, g4⟩
  by_cases hal : a = ld
  · subst hal
    cases e1.symm.trans hM
    cases e3.symm.trans hn
    cases e4.symm.trans hr
    refine ⟨_, l, n + 1, by rw [nth_put, if_pos ⟨rfl, hlt⟩], by rw [nth_put, if_neg (by omega)]; exact e2, by rw [nth_put, if_pos ⟨rfl, gNth_lt _ _ _ e3⟩], hrow, e5, e6, fun k hk => ?_⟩
    by_cases hkn : k = nn
    · exact ⟨b, by rw [hkn]; exact hb, hcg b hc⟩
    · obtain ⟨b2, g1, g2⟩ := e7 k (by omega)
      exact ⟨b2, g1, hcg b2 g2⟩
  · refine ⟨vl2, l2, n2, by rw [nth_put, if_neg (fun q => hal q.1)]; exact e1, e2, e3, hrow, e5, e6, fun k hk => ?_⟩
    obtain ⟨b2, g1, g2⟩ := e7 k hk
    exact ⟨b2, g1, hcg b2 g2⟩
