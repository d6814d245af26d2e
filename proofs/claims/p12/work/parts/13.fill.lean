/-! Arrays.fill, walked by hand: one step of `go` -/
theorem d_fill_0 : decode cJ7_fill_53178 0 = .ok (.iconst 0, 1) := by decide +kernel
theorem d_fill_1 : decode cJ7_fill_53178 1 = .ok (.istore_n 2, 1) := by decide +kernel
theorem d_fill_2 : decode cJ7_fill_53178 2 = .ok (.aload_n 0, 1) := by decide +kernel
theorem d_fill_3 : decode cJ7_fill_53178 3 = .ok (.arraylength, 1) := by decide +kernel
theorem d_fill_4 : decode cJ7_fill_53178 4 = .ok (.istore_n 3, 1) := by decide +kernel
theorem d_fill_5 : decode cJ7_fill_53178 5 = .ok (.iload_n 2, 1) := by decide +kernel
theorem d_fill_6 : decode cJ7_fill_53178 6 = .ok (.iload_n 3, 1) := by decide +kernel
theorem d_fill_7 : decode cJ7_fill_53178 7 = .ok (.if_icmp .ge 13, 3) := by decide +kernel
theorem d_fill_10 : decode cJ7_fill_53178 10 = .ok (.aload_n 0, 1) := by decide +kernel
theorem d_fill_11 : decode cJ7_fill_53178 11 = .ok (.iload_n 2, 1) := by decide +kernel
theorem d_fill_12 : decode cJ7_fill_53178 12 = .ok (.iload_n 1, 1) := by decide +kernel
theorem d_fill_13 : decode cJ7_fill_53178 13 = .ok (.iastore, 1) := by decide +kernel
theorem d_fill_14 : decode cJ7_fill_53178 14 = .ok (.iinc 2 1, 3) := by decide +kernel
theorem d_fill_17 : decode cJ7_fill_53178 17 = .ok (.goto (-12), 3) := by decide +kernel
theorem d_fill_20 : decode cJ7_fill_53178 20 = .ok (.return_, 1) := by decide +kernel
/-- the first i elements are v -/
def fl (L : List Int32) (v : Int32) (i : Nat) : List Int32 := List.replicate i v ++ L.drop i
theorem fl_len {L : List Int32} {v : Int32} {i : Nat} (h : i ≤ L.length) : (fl L v i).length = L.length := by
  unfold fl
  rw [List.length_append, List.length_replicate, List.length_drop]
  omega
theorem fl_put {L : List Int32} {v : Int32} {i : Nat} (h : i < L.length) : gPut (fl L v i) i v = fl L v (i + 1) := by
  rw [put_eq]
  apply List.ext_getElem?
  intro j
  unfold fl
  rw [List.getElem?_set, List.length_append, List.length_replicate, List.length_drop]
  by_cases hj : i = j
  · subst hj
    rw [if_pos rfl, if_pos (by omega), List.getElem?_append_left (by rw [List.length_replicate]; omega), List.getElem?_replicate, if_pos (by omega)]
  · rw [if_neg hj]
    by_cases h1 : j < i
    · rw [List.getElem?_append_left (by rw [List.length_replicate]; omega), List.getElem?_append_left (by rw [List.length_replicate]; omega), List.getElem?_replicate, List.getElem?_replicate, if_pos h1, if_pos (by omega)]
    · rw [List.getElem?_append_right (by rw [List.length_replicate]; omega), List.getElem?_append_right (by rw [List.length_replicate]; omega), List.length_replicate, List.length_replicate, List.getElem?_drop, List.getElem?_drop]
      congr 1
      omega
theorem fl_all (L : List Int32) (v : Int32) : fl L v L.length = gRep (gLn L) v := by
  unfold fl
  rw [List.drop_length, List.append_nil, rep_eq, ln_eq]
theorem fl_0 (L : List Int32) (v : Int32) : fl L v 0 = L := rfl
theorem put_same {α : Type} (l : List α) (i : Nat) (v : α) (h : gNth l i = some v) : gPut l i v = l := by
  rw [nth_eq] at h
  rw [put_eq]
  apply List.ext_getElem?
  intro j
  rw [List.getElem?_set]
  by_cases hj : i = j
  · subst hj
    rw [if_pos rfl, if_pos (List.getElem?_eq_some_iff.mp h).1, h]
  · rw [if_neg hj]
theorem put_put {α : Type} (l : List α) (i : Nat) (v w : α) : gPut (gPut l i v) i w = gPut l i w := by
  rw [put_eq, put_eq, put_eq, List.set_set]
set_option maxHeartbeats 4000000 in
theorem fill_loop {p : Program} {l : Launch} {e : Env} {R : Room} {s : State} {m : MethodId} {args : Array Value} {below : List Frame} {meth : Method} {c : Code} {Q : State → Prop} {B : Nat} {sa : Nat → Nat} {cy : Nat → ClassId} {dC : Nat → ClassId} {dI : Nat → Nat → Nat} {SA : Sta} (hx : p.tables.exec = Jvm.exec) (hb : c.code = cJ7_fill_53178) (hI : Inv B sa cy dC dI SA s) {M : Mem} {a : Nat} {L : List Int32} {v : Int32} (ha : gNth M a = some (.inl (1, .inl L))) (hLz : L.length < 2 ^ 31) {cells slots : Nat}
    (kk : ∀ (H1 : Heap) (locs1 : List Loc) (ls1 : Array Slot), va_P (dC, dI) gCL (wd B sa cy (gPut M a (.inl (1, .inl (fl L v L.length))))) H1 → va_S (fun q => B ≤ q) s.heap H1 locs1 → W p l e R s m args below meth c H1 locs1 cells slots Q (F0 m 20 ls1 [])) :
    ∀ (n i : Nat), i ≤ L.length → L.length - i < n → ∀ (H : Heap) (locs : List Loc) (ls : Array Slot), va_P (dC, dI) gCL (wd B sa cy (gPut M a (.inl (1, .inl (fl L v i))))) H → va_S (fun q => B ≤ q) s.heap H locs → lv_has ls 4 [(0, .ref (B + a)), (1, .int v), (2, .int (nI i)), (3, .int (nI L.length))] → W p l e R s m args below meth c H locs cells slots Q (F0 m 5 ls []) := by
  intro n
  induction n with
  | zero => intro i h1 h2; omega
  | succ n ih =>
    intro i hi hn H locs ls hP hS hl
    refine lv_iload_n hx hb d_fill_5 rfl (lv_at hl 2 rfl) ?_
    refine lv_iload_n hx hb d_fill_6 rfl (lv_at hl 3 rfl) ?_
    refine lv_icmp_ge (tgt := 20) hx hb d_fill_7 (by decide) (fun q => ?_) (fun q => ?_)
    · have h9 : L.length ≤ i := (nI_leI hLz (by omega)).mp q
      obtain rfl : i = L.length := by omega
      exact kk H locs ls hP hS
    · have h9 : i < L.length := Nat.lt_of_not_le (fun z => q ((nI_leI hLz (by omega)).mpr z))
      have hga : gNth (gPut M a (.inl (1, .inl (fl L v i)))) a = some (.inl (1, .inl (fl L v i))) := by
        rw [nth_put, if_pos ⟨rfl, gNth_lt _ _ _ ha⟩]
      refine lv_aload_n hx hb d_fill_10 rfl (lv_at hl 0 rfl) ?_
      refine lv_iload_n hx hb d_fill_11 rfl (lv_at hl 2 rfl) ?_
      refine lv_iload_n hx hb d_fill_12 rfl (lv_at hl 1 rfl) ?_
      have hin : vp_in (nI i) (fl L v i).length := vp_in_nI (by rw [fl_len hi]; exact h9) (by rw [fl_len hi]; exact hLz)
      have hcl : (nI i).toNatClampNeg = i := nI_clamp (by omega)
      refine va_iast hx hb hI.1 hP (wd_D B sa cy _) hS a 1 (wd_get hga) (gTy2_at cy (by decide)) hin d_fill_13 (fun H1 locs1 hP1 _ hS1 => ?_)
      rw [hcl, up_i (fl L v i) i v (by rw [fl_len hi]; exact h9), ← put_len (fl L v i) i v, fl_put h9] at hP1
      have e9 := wd_set B sa cy (gPut M a (.inl (1, .inl (fl L v i)))) a (.inl (1, .inl (fl L v (i + 1))))
      rw [put_put] at e9
      have hP2 : va_P (dC, dI) gCL (wd B sa cy (gPut M a (.inl (1, .inl (fl L v (i + 1)))))) H1 := by rw [← e9]; exact hP1
      refine lv_iinc (v := nI (i + 1)) (lv' := [(2, .int (nI (i + 1))), (0, .ref (B + a)), (1, .int v), (3, .int (nI L.length))]) hx hb d_fill_14 hl (k := 2) rfl (nI_1 i) (by decide) rfl (fun ls hl => ?_)
      refine lv_goto (tgt := 5) hx hb d_fill_17 (by decide) ?_
      exact ih (i + 1) h9 (by omega) H1 locs1 ls hP2 hS1 (lv_sub hl [1, 2, 0, 3] rfl)
set_option maxHeartbeats 4000000 in
theorem fill_ok (l : Launch) (B : Nat) (sa : Nat → Nat) (cy : Nat → ClassId) (dC : Nat → ClassId) (dI : Nat → Nat → Nat) (SA : Sta) : MetFill l B sa cy dC dI SA := by
  intro M a L v ha hz0
  refine Met.ofW (cc := cJ7_fill_53178) (maxL := 4) (ret := none) (by decide +kernel) rfl ?_
  intro p e s m args below meth c s₁ B9 hml hv
  obtain ⟨rfl, hI, hsz, hP⟩ := hv
  have hx := B9.exec
  have hb := B9.bytes
  have hr := B9.returns
  have hlocks := B9.notSynchronized
  have hS : va_S (fun q => B ≤ q) s.heap s.heap [] := va_S.rf
  have hl := lv_entry ([.ref (B + a), .int v]) (n := 4) (Nat.le_of_ble_eq_true rfl)
  show W p l e _ s m _ below meth c s.heap [] 0 0 _ (entryFrame m ([.ref (B + a), .int v] : List Value).toArray 4)
  rw [lg_entry_eq]
  generalize (lg_sl ([.ref (B + a), .int v]) ++ List.replicate (4 - (lg_sl ([.ref (B + a), .int v])).length) Slot.unset).toArray = ls at hl ⊢
  have hl : lv_has ls 4 [(0, .ref (B + a)), (1, .int v)] := hl
  refine lv_iconst (v := 0) hx hb d_fill_0 (by decide) ?_
  refine lv_istore_n (lv' := [(2, .int 0), (0, .ref (B + a)), (1, .int v)]) hx hb d_fill_1 rfl hl (by decide) rfl (fun ls hl => ?_)
  refine lv_aload_n hx hb d_fill_2 rfl (lv_at hl 1 rfl) ?_
  refine va_alen (v := nI L.length) hx hb hI.1 hP a 1 (wd_get ha) (gTy2_at cy (by decide)) rfl d_fill_3 ?_
  refine lv_istore_n (lv' := [(3, .int (nI L.length)), (2, .int 0), (0, .ref (B + a)), (1, .int v)]) hx hb d_fill_4 rfl hl (by decide) rfl (fun ls hl => ?_)
  have hLz : L.length < 2 ^ 31 := by omega
  · refine fill_loop hx hb hI ha hLz (fun H1 locs1 ls1 hP1 hS1 => ?_) (L.length + 1) 0 (Nat.zero_le _) (by omega) s.heap [] ls (by rw [fl_0, put_same _ _ _ ha]; exact hP) hS (lv_sub hl [2, 3, 1, 0] rfl)
    rw [fl_all] at hP1
    refine W.sz (fun hz => ?_)
    have hH := world_size hI hP1 hS1 (cells := 0) (by rw [put_len]; exact hsz) hz
    exact W.vret hx hb hr (fun t ht hW => ⟨⟨(), rfl, trivial, by rw [ht]; exact hH, by rw [ht]; exact hP1⟩, hS1.F ht⟩) hS1.2.2 d_fill_20
