/-! BY HAND, for any object: reading and writing fields and rows (the class's side) -/
section OBJ
variable {M : Mem} {vs us : List Value} {a b ci cj o : Nat} {ini : Bool} {st : List Value}
theorem gf_c {ix k ty : Nat} {v : Value} (ho : gOwn fRs o ix = some (ci, k, ty)) (hM : gNth M a = some (.inr (ci, vs))) (hv : gNth vs k = some v) : gGet (.getfield ix) none o ini (.ref a :: st) M = some (v :: st, M) := by
  show (match gOwn fRs o ix, gNth M a with
    | some (ci, k, _), some (.inr (c, fs)) => match Nat.beq c ci, gNth fs k with
      | true, some v => some (v :: st, M)
      | _, _ => none
    | _, _ => none) = _
  rw [ho, hM]
  show (match Nat.beq ci ci, gNth vs k with
    | true, some v => some (v :: st, M)
    | _, _ => none) = _
  rw [hv, show Nat.beq ci ci = true from Nat.beq_refl ci]
theorem pf_c {ix k ty : Nat} {y : Int32} (ho : gOwn fRs o ix = some (ci, k, ty)) (hM : gNth M a = some (.inr (ci, vs))) (hl : k < vs.length) (hf : gFin ci k = false) (ht : fits (gTy ci k) (.int y) = true) : gGet (.putfield ix) none o ini (.int y :: .ref a :: st) M = some (st, gPut M a (.inr (ci, gPut vs k (.int y)))) := by
  show (match gOwn fRs o ix, gNth M a with
    | some (ci, k, _), some (.inr (c, fs)) => match Nat.beq c ci && Nat.blt k fs.length && (!gFin ci k || (ini && Nat.beq o ci)) && fits (gTy ci k) (.int y) with
      | true => some (st, gPut M a (.inr (c, gPut fs k (.int y))))
      | _ => none
    | _, _ => none) = _
  rw [ho, hM]
  show (match Nat.beq ci ci && Nat.blt k vs.length && (!gFin ci k || (ini && Nat.beq o ci)) && fits (gTy ci k) (.int y) with
      | true => some (st, gPut M a (.inr (ci, gPut vs k (.int y))))
      | _ => none) = _
  rw [hf, ht, show Nat.blt k vs.length = true from Nat.ble_eq_true_of_le hl, show Nat.beq ci ci = true from Nat.beq_refl ci]
  rfl
theorem ia_c {l : List Int32} {j x : Int32} (hs : gNth M a = some (.inl (1, .inl l))) (h0 : gAt l j = some x) : gGet .iaload none o ini (.int j :: .ref a :: st) M = some (.int x :: st, M) := by
  show (match gNth M a with
    | some (.inl (1, .inl l)) => match gAt l j with
      | some x => some (Value.int x :: st, M)
      | none => none
    | _ => none) = _
  rw [hs]
  show (match gAt l j with
      | some x => some (Value.int x :: st, M)
      | none => none) = _
  rw [h0]
theorem is_c {l : List Int32} {j x z : Int32} (hs : gNth M a = some (.inl (1, .inl l))) (h0 : gAt l j = some x) : gGet .iastore none o ini (.int z :: .int j :: .ref a :: st) M = some (st, gPut M a (.inl (1, .inl (gPut l j.toNatClampNeg z)))) := by
  show (match gNth M a with
    | some (.inl (1, .inl l)) => match gAt l j with
      | some _ => some (st, gPut M a (.inl (1, .inl (gPut l j.toNatClampNeg z))))
      | none => none
    | _ => none) = _
  rw [hs]
  show (match gAt l j with
      | some _ => some (st, gPut M a (.inl (1, .inl (gPut l j.toNatClampNeg z))))
      | none => none) = _
  rw [h0]
theorem aa_c {t : Nat} {l : List (Option Nat)} {j : Int32} (hs : gNth M a = some (.inl (t, .inr (.inr l)))) (h0 : gAt l j = some (some b)) (ht : (Nat.ble 4 t && Nat.ble t 8) = true) : gGet .aaload none o ini (.int j :: .ref a :: st) M = some (.ref b :: st, M) := by
  show (match gNth M a with
    | some (.inl (t, .inr (.inr l))) => match gAt l j with
      | some x => cond (Nat.ble 4 t && Nat.ble t 8) (some (va_rf x :: st, M)) none
      | none => none
    | _ => none) = _
  rw [hs]
  show (match gAt l j with
      | some x => cond (Nat.ble 4 t && Nat.ble t 8) (some (va_rf x :: st, M)) none
      | none => none) = _
  rw [h0, ht]
  rfl
theorem as_c {t : Nat} {l : List (Option Nat)} {x : Option Nat} {j : Int32} (hs : gNth M a = some (.inl (t, .inr (.inr l)))) (hb : gNth M b = some (.inr (cj, us))) (h0 : gAt l j = some x) (ht : gEl t = cj) : gGet .aastore none o ini (.ref b :: .int j :: .ref a :: st) M = some (st, gPut M a (.inl (t, .inr (.inr (gPut l j.toNatClampNeg (some b)))))) := by
  show (match gNth M a, gNth M b with
    | some (.inl (t, .inr (.inr l))), some (.inr (c, _)) => match gAt l j with
      | some _ => cond (Nat.beq (gEl t) c) (some (st, gPut M a (.inl (t, .inr (.inr (gPut l j.toNatClampNeg (some b))))))) none
      | none => none
    | _, _ => none) = _
  rw [hs, hb]
  show (match gAt l j with
      | some _ => cond (Nat.beq (gEl t) cj) (some (st, gPut M a (.inl (t, .inr (.inr (gPut l j.toNatClampNeg (some b))))))) none
      | none => none) = _
  rw [h0, ht, show Nat.beq cj cj = true from Nat.beq_refl cj]
  rfl
theorem recv_c (hM : gNth M a = some (.inr (ci, vs))) : gRecv M (.ref a) ci = true := by
  show (match gNth M a with
    | some (.inr (c, _)) => Nat.beq c ci
    | _ => false) = true
  rw [hM]
  exact Nat.beq_refl ci
/-- an object of a group: its fields -/
theorem TM.obj {g : Nat} {fs : List FT} (hT : TM sT sG M) (ha : gNth sT a = some g) (hg : gNth sG g = some (.inl (ci, fs))) : ∃ vs, gNth M a = some (.inr (ci, vs)) ∧ vs.length = fs.length ∧ ∀ k ft, gNth fs k = some ft → ∃ v, gNth vs k = some v ∧ ftOK sT ft v := by
  obtain ⟨e, e1, vs, rfl, e2, e3⟩ := hT.at ha hg
  exact ⟨vs, e1, e2, e3⟩
/-- a field of it is written -/
theorem TM.oput {g k : Nat} {fs : List FT} {ft : FT} {v : Value} (hT : TM sT sG M) (ha : gNth sT a = some g) (hg : gNth sG g = some (.inl (ci, fs))) (hM : gNth M a = some (.inr (ci, vs))) (hk : gNth fs k = some ft) (hv : ftOK sT ft v) : TM sT sG (gPut M a (.inr (ci, gPut vs k v))) := by
  obtain ⟨vs2, e1, e2, e3⟩ := hT.obj ha hg
  cases e1.symm.trans hM
  refine hT.put (fun g2 t q1 q2 => ?_)
  rw [ha] at q1
  cases q1
  rw [hg] at q2
  cases q2
  refine ⟨_, rfl, by rw [put_len]; exact e2, fun j fj hj => ?_⟩
  rw [nth_put]
  by_cases hjk : j = k ∧ k < vs.length
  · rw [if_pos hjk]
    rw [hjk.1] at hj
    cases hk.symm.trans hj
    exact ⟨v, rfl, hv⟩
  · rw [if_neg hjk]
    exact e3 j fj hj
end OBJ
