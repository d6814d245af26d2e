/-! A WHOLE ROW WRITTEN -/
noncomputable def wL (M : Mem) (a : Nat) (l : List Int32) : Mem := match gNth M a with
  | some (.inl (kd, .inl _)) => gPut M a (.inl (kd, .inl l))
  | _ => M
noncomputable def wA (M : Mem) (a : Nat) (x : Int32) : Mem := wL M a (gRep (zrw M a).length x)
noncomputable def wC (M : Mem) (a b : Nat) : Mem := wL M b (zrw M a)
section WLL
variable {M : Mem} {a b g g2 k i kd n : Nat} {l : List Int32} {x : Int32}
theorem fV_wL : fV (wL M a l) b k = fV M b k := by
  unfold wL
  split
  · rename_i hM
    exact fV_put (fun c vs q => by cases q) (fun c vs q => by rw [hM] at q; cases q)
  · rfl
theorem fI_wL : zI (wL M a l) b k = zI M b k := by unfold zI; rw [fV_wL]
theorem fR_wL : fR (wL M a l) b k = fR M b k := by unfold fR; rw [fV_wL]
theorem fL_wL : fL (wL M a l) b k = fL M b k := by unfold fL; rw [fV_wL]
theorem roL_wL : roL (wL M a l) b = roL M b := by
  unfold wL
  split
  · rename_i hM
    unfold roL
    rw [nth_put]
    by_cases hb : b = a ∧ a < M.length
    · rw [if_pos hb, hb.1, hM]
    · rw [if_neg hb]
  · rfl
theorem rwL_wL_ne (h : b ≠ a) : zrw (wL M a l) b = zrw M b := by
  unfold wL
  split
  · unfold zrw
    rw [nth_put, if_neg (fun q => h q.1)]
  · rfl
theorem rwL_wL_eq (hS : SH M) (ha : gNth sT a = some g) (hB : wB g kd n = true) : zrw (wL M a l) a = l := by
  obtain ⟨h1, _⟩ := hS.row ha hB
  unfold wL
  rw [h1]
  dsimp only
  unfold zrw
  rw [nth_put, if_pos ⟨rfl, gNth_lt _ _ _ h1⟩]
theorem SH.kl (hS : SH M) (hl : l.length = (zrw M a).length) : SH (wL M a l) := by
  unfold wL
  split
  · rename_i kd l0 hM
    have hz : zrw M a = l0 := by
      unfold zrw
      rw [hM]
    rw [hz] at hl
    refine hS.put (fun g t h1 h2 => ?_)
    obtain ⟨e, e1, e2⟩ := hS.2 a g t h1 h2
    cases hM.symm.trans e1
    rcases t with ⟨ci, fs⟩ | ⟨q, n, u⟩
    · obtain ⟨vs, h3, _⟩ := e2
      cases h3
    · rcases u with sg | g2
      · match q, e2 with
        | 0, e2 => obtain ⟨l2, h3, h4⟩ := e2; cases h3; exact ⟨_, rfl, hl.trans h4⟩
        | 1, e2 => obtain ⟨l2, h3, h4⟩ := e2; cases h3; exact ⟨_, rfl, hl.trans h4⟩
        | 2, e2 => obtain ⟨l2, h3, h4⟩ := e2; cases h3
        | q + 3, e2 => obtain ⟨l2, h3, h4⟩ := e2; cases h3; exact ⟨_, rfl, hl.trans h4⟩
      · match q, e2 with
        | 0, e2 => obtain ⟨l2, h3, h4⟩ := e2; cases h3
        | 1, e2 => obtain ⟨l2, h3, h4⟩ := e2; cases h3
        | 2, e2 => obtain ⟨l2, h3, h4⟩ := e2; cases h3
        | q + 3, e2 => obtain ⟨l2, h3, h4⟩ := e2; cases h3
  · exact hS
theorem SQ.kl (h : SQ M) (hl : l.length = (zrw M a).length) : SQ (wL M a l) := ⟨h.1.kl hl, h.2.mv (fun b i r q => by rw [fV_wL]; exact q)⟩
theorem SQ.ka (h : SQ M) : SQ (wA M a x) := h.kl (rep_len _ _)
theorem SQ.kc (h : SQ M) (ha : gNth sT a = some g) (hA : wB g 1 n = true) (hb : gNth sT b = some g2) (hB : wB g2 1 n = true) : SQ (wC M a b) := h.kl ((h.1.row ha hA).2.trans (h.1.row hb hB).2.symm)
theorem fI_wA : zI (wA M a x) b k = zI M b k := fI_wL
theorem fR_wA : fR (wA M a x) b k = fR M b k := fR_wL
theorem fL_wA : fL (wA M a x) b k = fL M b k := fL_wL
theorem fI_wC {c : Nat} : zI (wC M a c) b k = zI M b k := fI_wL
theorem fR_wC {c : Nat} : fR (wC M a c) b k = fR M b k := fR_wL
theorem fL_wC {c : Nat} : fL (wC M a c) b k = fL M b k := fL_wL
theorem rN_wA_ne (h : b ≠ a) : rN (wA M a x) b i = rN M b i := by unfold rN wA; rw [rwL_wL_ne h]
theorem rN_wA_eq (hS : SH M) (ha : gNth sT a = some g) (hB : wB g kd n = true) (hi : i < n) : rN (wA M a x) a i = x := by
  unfold rN wA
  rw [rwL_wL_eq hS ha hB, rep_nth, if_pos (by rw [(hS.row ha hB).2]; exact hi)]
  rfl
theorem rN_wC_ne {c : Nat} (h : b ≠ c) : rN (wC M a c) b i = rN M b i := by unfold rN wC; rw [rwL_wL_ne h]
theorem rN_wC_eq (hS : SH M) (ha : gNth sT a = some g) (hB : wB g kd n = true) : rN (wC M b a) a i = rN M b i := by
  unfold rN wC
  rw [rwL_wL_eq hS ha hB]
end WLL
section FIL
variable {d me pc o np kf mx ix a b g g2 n c s : Nat} {y : MethodName} {cc : ByteArray} {ret : Option FieldType} {tab : List (Nat × Nat × Instr)} {ls : Lo} {st : List Value} {M M' : Mem} {v : Option Value} {x k : Int32}
theorem Ev.fil (hrow : gNth mRs me = some (o, y, cc, mx, ret, np, kf, tab)) (hl : gLook tab pc = some (7, .invokestatic ix)) (hq : ∀ st M, gCal (.invokestatic ix) o st M = (match gNat 1004 st M with | some q => cond (Nat.beq 0 0 && gRoom q.1) (some (.inl q)) none | none => none)) (hS : SH M) (ha : gNth sT a = some g) (hB : wB g 1 n = true) (h : Ev none d me pc ls (.int x :: .ref a :: st) M v M' c s) : Ev none d me (pc + 3) ls st (wA M a x) v M' c s := by
  obtain ⟨st1, M1, e, h⟩ := Ev.cal hrow hl (fun q e => by
    rw [hq] at e
    split at e
    · obtain ⟨_, e⟩ := cond_inv e
      cases e
    · cases e) h
  rw [hq] at e
  obtain ⟨h1, h2⟩ := hS.row ha hB
  have e : (match (match gNth M a with
      | some (.inl (1, .inl l)) => cond (Nat.ble (gLn l) 60000) (some (st, gPut M a (.inl (1, .inl (gRep (gLn l) x))))) none
      | _ => none) with | some q => cond (Nat.beq 0 0 && gRoom q.1) (some (Sum.inl (β := Nat × Lo × List Value) q)) none | none => none) = some (.inl (st1, M1)) := e
  rw [h1] at e
  have e : (match (cond (Nat.ble (gLn (zrw M a)) 60000) (some (st, gPut M a (.inl (1, .inl (gRep (gLn (zrw M a)) x))))) none) with | some q => cond (Nat.beq 0 0 && gRoom q.1) (some (Sum.inl (β := Nat × Lo × List Value) q)) none | none => none) = some (.inl (st1, M1)) := e
  cases hb : Nat.ble (gLn (zrw M a)) 60000 with
  | false => rw [hb] at e; cases e
  | true =>
    rw [hb] at e
    obtain ⟨_, e⟩ := cond_inv e
    cases e
    have hw : wA M a x = gPut M a (.inl (1, .inl (gRep (gLn (zrw M a)) x))) := by
      unfold wA wL
      rw [h1, gln_len]
    rw [hw]
    exact h
theorem Ev.cpy (hrow : gNth mRs me = some (o, y, cc, mx, ret, np, kf, tab)) (hl : gLook tab pc = some (7, .invokestatic ix)) (hq : ∀ st M, gCal (.invokestatic ix) o st M = (match gNat 1005 st M with | some q => cond (Nat.beq 0 0 && gRoom q.1) (some (.inl q)) none | none => none)) (hS : SH M) (ha : gNth sT a = some g) (hA : wB g 1 n = true) (hb : gNth sT b = some g2) (hB : wB g2 1 n = true) (hk : k.toNatClampNeg = n) (h : Ev none d me pc ls (.int k :: .int 0 :: .ref b :: .int 0 :: .ref a :: st) M v M' c s) : Ev none d me (pc + 3) ls st (wC M a b) v M' c s := by
  obtain ⟨st1, M1, e, h⟩ := Ev.cal hrow hl (fun q e => by
    rw [hq] at e
    split at e
    · obtain ⟨_, e⟩ := cond_inv e
      cases e
    · cases e) h
  rw [hq] at e
  obtain ⟨h1, h2⟩ := hS.row ha hA
  obtain ⟨h3, h4⟩ := hS.row hb hB
  have e : (match (match gNth M a, gNth M b with
      | some (.inl (1, .inl f)), some (.inl (1, .inl g)) => cond (!decide ((0 : Int32) < 0) && !decide ((0 : Int32) < 0) && !decide (k < 0) && Nat.ble ((0 : Int32).toNatClampNeg + k.toNatClampNeg) (gLn f) && Nat.ble ((0 : Int32).toNatClampNeg + k.toNatClampNeg) (gLn g)) (some (st, gPut M b (.inl (1, .inl (g.take (0 : Int32).toNatClampNeg ++ ((f.drop (0 : Int32).toNatClampNeg).take k.toNatClampNeg ++ g.drop ((0 : Int32).toNatClampNeg + k.toNatClampNeg))))))) none
      | _, _ => none) with | some q => cond (Nat.beq 0 0 && gRoom q.1) (some (Sum.inl (β := Nat × Lo × List Value) q)) none | none => none) = some (.inl (st1, M1)) := e
  rw [h1, h3] at e
  have e : (match (cond (!decide ((0 : Int32) < 0) && !decide ((0 : Int32) < 0) && !decide (k < 0) && Nat.ble ((0 : Int32).toNatClampNeg + k.toNatClampNeg) (gLn (zrw M a)) && Nat.ble ((0 : Int32).toNatClampNeg + k.toNatClampNeg) (gLn (zrw M b))) (some (st, gPut M b (.inl (1, .inl ((zrw M b).take (0 : Int32).toNatClampNeg ++ (((zrw M a).drop (0 : Int32).toNatClampNeg).take k.toNatClampNeg ++ (zrw M b).drop ((0 : Int32).toNatClampNeg + k.toNatClampNeg))))))) none) with | some q => cond (Nat.beq 0 0 && gRoom q.1) (some (Sum.inl (β := Nat × Lo × List Value) q)) none | none => none) = some (.inl (st1, M1)) := e
  split at e
  · rename_i q e1
    obtain ⟨_, e1⟩ := cond_inv e1
    obtain ⟨_, e⟩ := cond_inv e
    cases e
    cases e1
    have e0 : (0 : Int32).toNatClampNeg = 0 := rfl
    have hw : wC M a b = gPut M b (.inl (1, .inl ((zrw M b).take (0 : Int32).toNatClampNeg ++ (((zrw M a).drop (0 : Int32).toNatClampNeg).take k.toNatClampNeg ++ (zrw M b).drop ((0 : Int32).toNatClampNeg + k.toNatClampNeg))))) := by
      rw [e0, hk, List.take_zero, List.drop_zero, List.nil_append, List.take_of_length_le (by omega), List.drop_of_length_le (by omega), List.append_nil]
      unfold wC wL
      rw [h3]
    rw [hw]
    exact h
  · cases e
end FIL
/-! FRAMES by places -/
def FZ (F : Nat → Nat → Prop) (W O : Nat → Prop) (M M' : Mem) : Prop := (∀ a k, ¬ F a k → fV M' a k = fV M a k) ∧ (∀ b, ¬ W b → zrw M' b = zrw M b) ∧ ∀ b, ¬ O b → roL M' b = roL M b
section FPP
variable {F G : Nat → Nat → Prop} {W V O U : Nat → Prop} {M M1 M2 : Mem} {a b k j i r : Nat} {x : Int32} {z : Int64} {l : List Int32}
theorem FZ.refl (M : Mem) : FZ F W O M M := ⟨fun _ _ _ => rfl, fun _ _ => rfl, fun _ _ => rfl⟩
theorem FZ.trans (h1 : FZ F W O M M1) (h2 : FZ F W O M1 M2) : FZ F W O M M2 := ⟨fun a k h => (h2.1 a k h).trans (h1.1 a k h), fun b h => (h2.2.1 b h).trans (h1.2.1 b h), fun b h => (h2.2.2 b h).trans (h1.2.2 b h)⟩
theorem FZ.more (h : FZ F W O M M1) (hF : ∀ a k, F a k → G a k) (hW : ∀ a, W a → V a) (hO : ∀ a, O a → U a) : FZ G V U M M1 := ⟨fun a k q => h.1 a k (fun r => q (hF _ _ r)), fun b q => h.2.1 b (fun r => q (hW _ r)), fun b q => h.2.2 b (fun r => q (hO _ r))⟩
theorem FZ.fi (h : FZ F W O M M1) (hn : ¬ F a k) : zI M1 a k = zI M a k := by unfold zI; rw [h.1 a k hn]
theorem FZ.fr (h : FZ F W O M M1) (hn : ¬ F a k) : fR M1 a k = fR M a k := by unfold fR; rw [h.1 a k hn]
theorem FZ.fl (h : FZ F W O M M1) (hn : ¬ F a k) : fL M1 a k = fL M a k := by unfold fL; rw [h.1 a k hn]
theorem FZ.rn (h : FZ F W O M M1) (hn : ¬ W b) : rN M1 b j = rN M b j := by unfold rN; rw [h.2.1 b hn]
theorem FZ.on (h : FZ F W O M M1) (hn : ¬ O b) : oN M1 b j = oN M b j := by unfold oN; rw [h.2.2 b hn]
theorem FZ.wI (h : W a) : FZ F W O M (wI M a j x) := ⟨fun _ _ _ => fV_wI, fun b hb => rwL_wI_ne (fun q => hb (q ▸ h)), fun _ _ => roL_wI⟩
theorem FZ.wF (h : F a k) : FZ F W O M (wF M a k x) := ⟨fun b i hb => fV_wF_ne (fun q => hb (by rw [q.1, q.2]; exact h)), fun _ _ => rwL_wF, fun _ _ => roL_wF⟩
theorem FZ.wR (h : F a k) : FZ F W O M (wR M a k r) := ⟨fun b i hb => fV_wR_ne (fun q => hb (by rw [q.1, q.2]; exact h)), fun _ _ => rwL_wR, fun _ _ => roL_wR⟩
theorem FZ.wO (h : O a) : FZ F W O M (wO M a j r) := ⟨fun _ _ _ => fV_wO, fun _ _ => rwL_wO, fun b hb => roL_wO_ne (fun q => hb (q ▸ h))⟩
theorem FZ.wL (h : W a) : FZ F W O M (wL M a l) := ⟨fun _ _ _ => fV_wL, fun b hb => rwL_wL_ne (fun q => hb (q ▸ h)), fun _ _ => roL_wL⟩
theorem FZ.wA (h : W a) : FZ F W O M (wA M a x) := FZ.wL h
theorem FZ.wC (h : W b) : FZ F W O M (wC M a b) := FZ.wL h
theorem FA.fp {F : List (Nat × Nat)} {W : List Nat} (h : FA F W M M1) : FZ (fun a k => (a, k) ∈ F) (fun a => a ∈ W) (fun _ => False) M M1 := ⟨fun a k q => h.1 a k q, fun b q => h.2.1 b q, fun b _ => h.2.2 b⟩
end FPP
