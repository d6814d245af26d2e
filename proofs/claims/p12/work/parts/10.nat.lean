/-! SOUNDNESS: what a call needs, and the steps that are calls of the library -/
/-- the world of a memory -/
def Bw (B : Nat) (sa : Nat → Nat) (cy : Nat → ClassId) (dC : Nat → ClassId) (dI : Nat → Nat → Nat) (M : Mem) (U : State) : Prop := U.heap.size = B + M.length ∧ va_P (dC, dI) gCL (wd B sa cy M) U.heap
def Pcw (B : Nat) (sa : Nat → Nat) (cy : Nat → ClassId) (dC : Nat → ClassId) (dI : Nat → Nat → Nat) (SA : Sta) (as : List Value) (M : Mem) : Array Value → State → Prop := va_Pc (as.map (rV B sa)) (fun U => Inv B sa cy dC dI SA U ∧ Bw B sa cy dC dI M U)
/-- the same, the arguments as they are -/
def Pcv (B : Nat) (sa : Nat → Nat) (cy : Nat → ClassId) (dC : Nat → ClassId) (dI : Nat → Nat → Nat) (SA : Sta) (vs : List Value) (M : Mem) : Array Value → State → Prop := va_Pc vs (fun U => Inv B sa cy dC dI SA U ∧ Bw B sa cy dC dI M U)
def Qcw (B : Nat) (sa : Nat → Nat) (cy : Nat → ClassId) (dC : Nat → ClassId) (dI : Nat → Nat → Nat) (v : Option Value) (M : Mem) : Array Value → State → Outcome → State → Prop := match v with
  | none => va_Qv (fun _ : Unit => True) (fun _ t => Bw B sa cy dC dI M t) (fun q => B ≤ q)
  | some (.int x) => va_Qi (fun (r : Int32) (_ : Unit) => r = x) (fun _ t => Bw B sa cy dC dI M t) (fun q => B ≤ q)
  | _ => fun _ _ _ _ => False
theorem goodW0 {w : Cond} (h : w ∈ W0) : GoodIn W0 (w :: W0) := by
  intro v hv
  have hm : v ∈ W0 := by
    rcases List.mem_cons.mp hv with h1 | h1
    · rw [h1]; exact h
    · exact h1
  exact ⟨hm, good_of_word (List.mem_filter.mp hm).2⟩
theorem wn_shape : WN.all (fun w => match w with
  | .fieldLinkNest _ _ _ _ _ _ => true
  | .methodLinkNest _ _ _ _ => true
  | _ => false) = true := by decide +kernel
theorem Inv.next {B : Nat} {sa : Nat → Nat} {cy : Nat → ClassId} {dC : Nat → ClassId} {dI : Nat → Nat → Nat} {SA : Sta} {s U : State} (h : Inv B sa cy dC dI SA s) (hW : s.WarmedH U.vm) (hz : s.heap.size ≤ U.heap.size) (hq : ∀ a : Nat, a < B → U.heap[a]? = s.heap[a]?) : Inv B sa cy dC dI SA U := by
  obtain ⟨h1, h2, h3, h4, h5, h6, h7, h8, h9, h10, h11⟩ := h
  refine ⟨va_K.moved hW.alike h1, fun w hw => ?_, fun j l9 hj => ?_, fun j h0 hj => ?_, Nat.le_trans h5 hz, fun t h4 h7 => va_AO.moved hW.alike (h6 t h4 h7), over_moved hW.alike h7, vk_S.moved hW.alike (vk_S.kept h8 (fun a _ hA => hq a (Nat.lt_of_not_le hA))), fun k hk => vk_R.same (u := s.setVm U.vm) rfl (vk_R.warm hW (h9 k hk)), va_Z.moved hW.alike (va_Z.kept h10 (fun a _ hA => hq a (Nat.lt_of_not_le hA))), va_Zq.moved hW.alike (va_Zq.kept h11 (fun a _ hA => hq a (Nat.lt_of_not_le hA)))⟩
  · have hs := List.all_eq_true.mp wn_shape w hw
    have hn := h2 w hw
    cases w <;> first | exact va_Nw.warmF hW hn | exact va_Nw.warmM hW hn | cases hs
  · obtain ⟨hX, hlt⟩ := h3 j l9 hj
    exact ⟨va_X.moved hW.alike (va_X.kept hX (hq _ hlt)), hlt⟩
  · exact va_Z.moved hW.alike (va_Z.kept (h4 j h0 hj) (fun a _ hA => hq a (Nat.lt_of_not_le hA)))
theorem Inv.blind {B : Nat} {sa : Nat → Nat} {cy : Nat → ClassId} {dC : Nat → ClassId} {dI : Nat → Nat → Nat} {SA : Sta} {U : State} (a : Array Value) (g : JFrame) (mk : MethodId) (h : Inv B sa cy dC dI SA U) : Inv B sa cy dC dI SA (U.calling g mk a) := by
  obtain ⟨h1, h2, h3, h4, h5, h6, h7, h8, h9, h10, h11⟩ := h
  refine ⟨va_K.moved (u := U) (U := U.calling g mk a) (Vm.Alike.refl U.vm) h1, fun w hw => ?_, fun j l9 hj => ⟨va_X.moved (u := U) (U := U.calling g mk a) (Vm.Alike.refl U.vm) (h3 j l9 hj).1, (h3 j l9 hj).2⟩, fun j h0 hj => va_Z.moved (u := U) (U := U.calling g mk a) (Vm.Alike.refl U.vm) (h4 j h0 hj), h5, fun t h4 h7 => va_AO.moved (u := U) (U := U.calling g mk a) (Vm.Alike.refl U.vm) (h6 t h4 h7), over_moved (u := U) (E := U.calling g mk a) (Vm.Alike.refl U.vm) h7, vk_S.moved (u := U) (U := U.calling g mk a) (Vm.Alike.refl U.vm) h8, fun k hk => vk_R.same (u := U) (U := U.calling g mk a) rfl (h9 k hk), va_Z.moved (u := U) (U := U.calling g mk a) (Vm.Alike.refl U.vm) h10, va_Zq.moved (u := U) (U := U.calling g mk a) (Vm.Alike.refl U.vm) h11⟩
  have hs := List.all_eq_true.mp wn_shape w hw
  have hn := h2 w hw
  cases w <;> first | exact va_Nw.same (u := U) (U := U.calling g mk a) rfl rfl hn | cases hs
theorem pc_blind {B : Nat} {sa : Nat → Nat} {cy : Nat → ClassId} {dC : Nat → ClassId} {dI : Nat → Nat → Nat} {SA : Sta} {as : List Value} {M : Mem} : FrameBlind (Pcw B sa cy dC dI SA as M) := fun a U g mk h => ⟨h.1, h.2.1.blind a g mk, h.2.2⟩
theorem pcv_blind {B : Nat} {sa : Nat → Nat} {cy : Nat → ClassId} {dC : Nat → ClassId} {dI : Nat → Nat → Nat} {SA : Sta} {vs : List Value} {M : Mem} : FrameBlind (Pcv B sa cy dC dI SA vs M) := fun a U g mk h => ⟨h.1, h.2.1.blind a g mk, h.2.2⟩
theorem tx_len {k : Nat} (h : k < 7) : gTl.getD k 0 = (gTx k).length ∧ gTxs.getD k [] = gTx k ∧ (gTx k).length < 100 := by
  match k, h with
  | 0, _ => exact ⟨rfl, rfl, by decide⟩
  | 1, _ => exact ⟨rfl, rfl, by decide⟩
  | 2, _ => exact ⟨rfl, rfl, by decide⟩
  | 3, _ => exact ⟨rfl, rfl, by decide⟩
  | 4, _ => exact ⟨rfl, rfl, by decide⟩
  | 5, _ => exact ⟨rfl, rfl, by decide⟩
  | 6, _ => exact ⟨rfl, rfl, by decide⟩
  | n + 7, h => omega
section SND
variable {p : Program} {l : Launch} {e : Env} {R : Room} {s : State} {m : MethodId} {args : Array Value} {below : List Frame} {meth : Method} {c : Code} {H : Heap} {locs : List Loc} {cells slots : Nat} {Q : State → Prop} {cc : ByteArray} {pc nL : Nat} {ls : Array Slot} {B : Nat} {sa : Nat → Nat} {cy : Nat → ClassId} {dC : Nat → ClassId} {dI : Nat → Nat → Nat} {SA : Sta}
theorem world_size {M : Mem} (hI : Inv B sa cy dC dI SA s) (hP : va_P (dC, dI) gCL (wd B sa cy M) H) (hS : va_S (fun q => B ≤ q) s.heap H locs) (hsz : s.heap.size + cells = B + M.length) (hz : H.size ≤ s.heap.size + cells) : H.size = B + M.length := by
  have h1 := hS.1
  rcases Nat.eq_zero_or_pos M.length with h0 | h0
  · have := hI.2.2.2.2.1
    omega
  · have hg : gNth M (M.length - 1) = some (M[M.length - 1]) := by rw [nth_eq, List.getElem?_eq_getElem (by omega)]
    have h2 : B + (M.length - 1) < H.size := (hP _ _ (wd_get hg)).lt
    omega
theorem pre_s {M : Mem} {as : List Value} (hI : Inv B sa cy dC dI SA s) (hP : va_P (dC, dI) gCL (wd B sa cy M) H) (hS : va_S (fun q => B ≤ q) s.heap H locs) (hH : H.size = B + M.length) : PreS s H (Pcw B sa cy dC dI SA as M) (as.map (rV B sa)) := by
  refine ⟨pc_blind, fun U hU hW => ⟨rfl, hI.next hW (by rw [hU]; exact hS.1) (fun a ha => ?_), by rw [hU]; exact hH, by rw [hU]; exact hP⟩⟩
  rw [hU]
  exact hS.2.1 a (Nat.lt_of_lt_of_le ha hI.2.2.2.2.1) (Nat.not_le.mpr ha)
theorem pre_sv {M : Mem} {vs : List Value} (hI : Inv B sa cy dC dI SA s) (hP : va_P (dC, dI) gCL (wd B sa cy M) H) (hS : va_S (fun q => B ≤ q) s.heap H locs) (hH : H.size = B + M.length) : PreS s H (Pcv B sa cy dC dI SA vs M) vs := by
  refine ⟨pcv_blind, fun U hU hW => ⟨rfl, hI.next hW (by rw [hU]; exact hS.1) (fun a ha => ?_), by rw [hU]; exact hH, by rw [hU]; exact hP⟩⟩
  rw [hU]
  exact hS.2.1 a (Nat.lt_of_lt_of_le ha hI.2.2.2.2.1) (Nat.not_le.mpr ha)
theorem pre_tx {M : Mem} {vs : List Value} {j : Nat} (hj : j < 7) (hI : Inv B sa cy dC dI SA s) (hP : va_P (dC, dI) gCL (wd B sa cy M) H) (hS : va_S (fun q => B ≤ q) s.heap H locs) (hH : H.size = B + M.length) : PreV s H RJ0 (sa (10 + j)) (Pcv B sa cy dC dI SA (.ref (sa (10 + j)) :: vs) M) vs := by
  obtain ⟨h1, h2⟩ := pre_sv (vs := .ref (sa (10 + j)) :: vs) hI hP hS hH
  exact ⟨h1, vk_recv (i := j) (adK := fun k => sa (10 + k)) hI.2.2.2.2.2.2.2.1 hj hS, h2⟩
/-- behind a call: what came back, and the new world -/
theorem back_ok {A1 : Array Value} {v : Option Value} {M' : Mem} {mc ms pc : Nat} {st0 rest : List Value} (hr : va_Run p l e R s m args below meth c H locs cells slots mc ms (F0 m pc ls st0) (rest.map (rV B sa)) (Qcw B sa cy dC dI v M' A1) (fun q => B ≤ q)) (hS : va_S (fun q => B ≤ q) s.heap H locs)
    (kk : ∀ (H1 : Heap) (locs1 : List Loc), va_P (dC, dI) gCL (wd B sa cy M') H1 → va_S (fun q => B ≤ q) s.heap H1 locs1 → W p l e R s m args below meth c H1 locs1 (cells + mc) (slots + ms) Q (F0 m (pc + 3) ls ((v.toList ++ rest).map (rV B sa)))) : W p l e R s m args below meth c H locs cells slots Q (F0 m pc ls st0) := by
  match v, hr, kk with
  | none, hr, kk => exact va_callv (a := A1) hr hS (fun _ _ h => h) (fun _ h => h) (fun u t H1 locs1 ht _ _ hB _ _ hS1 => kk H1 locs1 (by rw [← ht]; exact hB.2) hS1)
  | some (.int x), hr, kk =>
    refine va_calli (a := A1) hr hS (fun _ _ h => h) (fun _ h => h) (fun r u t H1 locs1 ht _ hw hB _ _ hS1 => ?_)
    subst hw
    exact kk H1 locs1 (by rw [← ht]; exact hB.2) hS1
  | some (.long x), hr, kk => exact fun T hT X => by obtain ⟨v9, st₀, t, T', L, -, -, -, -, -, hq, -⟩ := hr T hT X; exact absurd hq (fun h => h)
  | some (.float x), hr, kk => exact fun T hT X => by obtain ⟨v9, st₀, t, T', L, -, -, -, -, -, hq, -⟩ := hr T hT X; exact absurd hq (fun h => h)
  | some (.double x), hr, kk => exact fun T hT X => by obtain ⟨v9, st₀, t, T', L, -, -, -, -, -, hq, -⟩ := hr T hT X; exact absurd hq (fun h => h)
  | some .null, hr, kk => exact fun T hT X => by obtain ⟨v9, st₀, t, T', L, -, -, -, -, -, hq, -⟩ := hr T hT X; exact absurd hq (fun h => h)
  | some (.ref x), hr, kk => exact fun T hT X => by obtain ⟨v9, st₀, t, T', L, -, -, -, -, -, hq, -⟩ := hr T hT X; exact absurd hq (fun h => h)
  | some (.retAddr x), hr, kk => exact fun T hT X => by obtain ⟨v9, st₀, t, T', L, -, -, -, -, -, hq, -⟩ := hr T hT X; exact absurd hq (fun h => h)
theorem room_rV (B : Nat) (sa : Nat → Nat) (st : List Value) : ((st.map (rV B sa)).map fun v => v.category).sum = (st.map Value.category).sum := by
  rw [List.map_map]
  exact congrArg List.sum (List.map_congr_left (fun v _ => rV_cat B sa v))
theorem room_of {st : List Value} (h : gRoom st = true) : ((st.map (rV B sa)).map fun v => v.category).sum ≤ 8 := by
  rw [room_rV]
  exact Nat.le_of_ble_eq_true h
/-- Arrays.fill, as one step -/
def MetFill (l : Launch) (B : Nat) (sa : Nat → Nat) (cy : Nat → ClassId) (dC : Nat → ClassId) (dI : Nat → Nat → Nat) (SA : Sta) : Prop := ∀ (M : Mem) (a : Nat) (L : List Int32) (v : Int32), gNth M a = some (.inl (1, .inl L)) → L.length ≤ 60000 → Met l yJ7_fill_53178 (.code yJ7_fill_53178 cJ7_fill_53178 4 none :: W0) ({ frames := 0, cells := 0, slots := 0, locals := 0 }) (Pcw B sa cy dC dI SA [.ref a, .int v] M) (Qcw B sa cy dC dI none (gPut M a (.inl (1, .inl (gRep (gLn L) v))))) 0 0 (fun q => B ≤ q)
/-- String.length and String.charAt of the class's texts, each as one step -/
def MetLen (l : Launch) (B : Nat) (sa : Nat → Nat) (cy : Nat → ClassId) (dC : Nat → ClassId) (dI : Nat → Nat → Nat) (SA : Sta) : Prop := ∀ (M : Mem) (j : Nat), j < 7 → Met l yJ0_length_8abf5 (.code yJ0_length_8abf5 cJ0_length_8abf5 1 (some .int) :: W0) ({ frames := 2, cells := 0, slots := 0, locals := 80 }) (Pcv B sa cy dC dI SA [.ref (sa (10 + j))] M) (Qcw B sa cy dC dI (some (.int (Int32.ofNat (gTx j).length))) M) 0 0 (fun q => B ≤ q)
def MetChr (l : Launch) (B : Nat) (sa : Nat → Nat) (cy : Nat → ClassId) (dC : Nat → ClassId) (dI : Nat → Nat → Nat) (SA : Sta) : Prop := ∀ (M : Mem) (j : Nat) (i x : Int32), j < 7 → gAt (gTx j) i = some x → Met l yJ0_charAt_5068e (.code yJ0_charAt_5068e cJ0_charAt_5068e 2 (some .char) :: W0) ({ frames := 5, cells := 0, slots := 0, locals := 200 }) (Pcv B sa cy dC dI SA [.ref (sa (10 + j)), .int i] M) (Qcw B sa cy dC dI (some (.int x)) M) 0 0 (fun q => B ≤ q)
def MetLib (l : Launch) (B : Nat) (sa : Nat → Nat) (cy : Nat → ClassId) (dC : Nat → ClassId) (dI : Nat → Nat → Nat) (SA : Sta) : Prop := MetFill l B sa cy dC dI SA ∧ MetLen l B sa cy dC dI SA ∧ MetChr l B sa cy dC dI SA
theorem copy_fun (f g : List Int32) (sp dp n : Nat) (h4 : sp + n ≤ f.length) (h5 : dp + n ≤ g.length) : va_cpy (fun i => (gNth f i).getD 0) (fun i => (gNth g i).getD 0) sp dp n = fun i => (gNth (g.take dp ++ ((f.drop sp).take n ++ g.drop (dp + n))) i).getD 0 := by
  funext i
  unfold va_cpy
  simp only [nth_eq]
  by_cases h : dp ≤ i ∧ i < dp + n
  · rw [if_pos h, List.getElem?_append_right (by rw [List.length_take]; omega), List.getElem?_append_left (by rw [List.length_take, List.length_take, List.length_drop]; omega), List.getElem?_take, List.length_take, Nat.min_eq_left (by omega), if_pos (by omega), List.getElem?_drop]
  · rw [if_neg h]
    by_cases h1 : i < dp
    · rw [List.getElem?_append_left (by rw [List.length_take]; omega), List.getElem?_take, if_pos h1]
    · rw [List.getElem?_append_right (by rw [List.length_take]; omega), List.getElem?_append_right (by rw [List.length_take, List.length_take, List.length_drop]; omega), List.getElem?_drop, List.length_take, List.length_take, List.length_drop]
      rw [show dp + n + (i - min dp g.length - min n (f.length - sp)) = i by omega]
theorem copy_len (f g : List Int32) (sp dp n : Nat) (h4 : sp + n ≤ f.length) (h5 : dp + n ≤ g.length) : (g.take dp ++ ((f.drop sp).take n ++ g.drop (dp + n))).length = g.length := by
  rw [List.length_append, List.length_append, List.length_take, List.length_take, List.length_drop, List.length_drop]
  omega
set_option maxHeartbeats 4000000 in
theorem nat_ok (hlib : MetLib l B sa cy dC dI SA) (hx : p.tables.exec = Jvm.exec) (hb : c.code = cc) (hml : c.maxLocals = nL) {vs : Lo} (hL : LV B sa nL vs ls) {o : Nat} {own : String} (hoo : gNth ownR o = some own) (hown : s.vm.findClass own = some m.cls) (hts : ∀ w ∈ W0, w.before args s = true) (hI : Inv B sa cy dC dI SA s) (hf8 : 8 ≤ R.frames) (hl8 : 320 ≤ R.locals) {M M' : Mem} {st st' : List Value} {id nest wi ix kind : Nat} (hP : va_P (dC, dI) gCL (wd B sa cy M) H) (hS : va_S (fun q => B ≤ q) s.heap H locs) (hsz : s.heap.size + cells = B + M.length) (hcs : cells ≤ R.cells ∧ slots ≤ R.slots) (hr : gOwn mRes o ix = some (id, nest, wi)) (h1000 : Nat.ble 1000 id = true) (h : gNat id st M = some (st', M')) (hk : kind = cond (Nat.beq id 1000) 2 (cond (Nat.ble 1006 id) 1 0)) (hroom : gRoom st' = true)
    (hd1 : kind = 1 → decode cc pc = .ok (.invokevirtual ix, 3)) (hd0 : kind = 0 → decode cc pc = .ok (.invokestatic ix, 3)) (hd2 : kind = 2 → decode cc pc = .ok (.invokespecial ix, 3))
    (k : ∀ (H1 : Heap) (locs1 : List Loc), va_P (dC, dI) gCL (wd B sa cy M') H1 → va_S (fun q => B ≤ q) s.heap H1 locs1 → W p l e R s m args below meth c H1 locs1 cells slots Q (F0 m (pc + 3) ls (st'.map (rV B sa)))) : W p l e R s m args below meth c H locs cells slots Q (F0 m pc ls (st.map (rV B sa))) := by
  have hf1 : 1 ≤ R.frames := by omega
  have hl1 : 40 ≤ R.locals := by omega
  have hK := hI.1
  have hD := wd_D B sa cy M
  have hc := own_in ckCs rfl hr
  have hls : ls.size = nL := by obtain ⟨-, l9, h9, -⟩ := hL; exact h9.1
  have hml2 : c.maxLocals = ls.size := by rw [hml, hls]
  have hrm := room_of (B := B) (sa := sa) hroom
  unfold gNat at h
  split at h
  · dsimp only at h
    split at h
    · rename_i a r
      cases h
      simp only [ckC, hoo, Bool.and_eq_true] at hc
      refine W.objInit hx hb hown (hts _ (ckW_in hc.2)) (hts _ w0_oI) (hts _ w0_oC) (g := F0 m pc ls (.ref (B + a) :: st'.map (rV B sa))) rfl hml2.symm rfl (hd2 hk) hf1 ?_ ?_
      · have := lv_room (m := m) (pc := pc) (ls := ls) (rest := .ref (B + a) :: st'.map (rV B sa)) hrm
        omega
      · exact k H locs hP hS
    · cases h
  · dsimp only at h
    split at h
    · cases h
      simp only [ckC, hoo, Bool.and_eq_true] at hc
      have hrm2 := hrm
      simp only [List.map_cons, List.sum_cons] at hrm2
      exact va_mabs hx hb hml2 hown (hts _ (ckW_in hc.2)) (hts _ w0_mAs) (hts _ w0_mI) (hts _ w0_mAc) hf1 (by omega) hcs.1 hcs.2 (hd0 hk) (k H locs hP hS)
    · cases h
  · dsimp only at h
    split at h
    · cases h
      simp only [ckC, hoo, Bool.and_eq_true] at hc
      have hrm2 := hrm
      simp only [List.map_cons, List.sum_cons] at hrm2
      exact va_mmax hx hb hml2 hown (hts _ (ckW_in hc.2)) (hts _ w0_mXs) (hts _ w0_mI) (hts _ w0_mXc) hf1 (by omega) hcs.1 hcs.2 (hd0 hk) (k H locs hP hS)
    · cases h
  · dsimp only at h
    split at h
    · cases h
      simp only [ckC, hoo, Bool.and_eq_true] at hc
      have hrm2 := hrm
      simp only [List.map_cons, List.sum_cons] at hrm2
      exact va_mmin hx hb hml2 hown (hts _ (ckW_in hc.2)) (hts _ w0_mNs) (hts _ w0_mI) (hts _ w0_mNc) hf1 (by omega) hcs.1 hcs.2 (hd0 hk) (k H locs hP hS)
    · cases h
  · dsimp only at h
    split at h
    · split at h
      · rename_i v a r x9 L9 hm
        cases hg9 : Nat.ble (gLn L9) 60000 with
        | false => rw [hg9] at h; cases h
        | true =>
        rw [hg9] at h
        cases h
        have hL9 := Nat.le_of_ble_eq_true hg9
        rw [ln_eq] at hL9
        simp only [ckC, hoo, Bool.and_eq_true] at hc
        refine W.sz (fun hz => ?_)
        have hH := world_size hI hP hS hsz hz
        have hM := hlib.1 M a L9 v hm hL9
        refine back_ok (mc := 0) (ms := 0) (rest := st') (v := none) (va_runS (As := [.ref (B + a), .int v]) (rest := st'.map (rV B sa)) ⟨hx, hb, hml, hown, hts⟩ hM ⟨callB_of 2 hts (goodW0 w0_fC) rfl rfl rfl (hts _ w0_fI) (hts _ (ckW_in hc.2)) ⟨by decide, by decide, by decide +kernel⟩ ⟨hf1, by show 8 + (4 + 11) + 0 ≤ _; omega⟩, hts _ w0_fS⟩ (pre_s (as := [.ref a, .int v]) hI hP hS hH) rfl rfl hls rfl (lv_room hrm) (hd0 hk) hcs) hS (fun H1 locs1 h1 h2 => k H1 locs1 h1 h2)
      · cases h
    · cases h
  · dsimp only at h
    split at h
    · split at h
      · rename_i n dp b sp a r x9 y9 f9 g9 hm hm2
        cases hg : (!decide (sp < 0) && !decide (dp < 0) && !decide (n < 0) && Nat.ble (sp.toNatClampNeg + n.toNatClampNeg) (gLn f9) && Nat.ble (dp.toNatClampNeg + n.toNatClampNeg) (gLn g9)) with
        | false => rw [hg] at h; cases h
        | true =>
          rw [hg] at h
          cases h
          simp only [Bool.and_eq_true, Bool.not_eq_true'] at hg
          obtain ⟨⟨⟨⟨g1, g2⟩, g3⟩, g4⟩, g5⟩ := hg
          have g4' := Nat.le_of_ble_eq_true g4
          have g5' := Nat.le_of_ble_eq_true g5
          rw [ln_eq] at g4' g5'
          simp only [ckC, hoo, Bool.and_eq_true] at hc
          refine va_copyi hx hb hml2 hown (hts _ (ckW_in hc.2)) (hts _ w0_yN) (hts _ w0_yS) (hts _ w0_yI) hK hP hD hS a b 1 1 (wd_get hm) (wd_get hm2) (gTy2_at cy (by decide)) (gTy2_at cy (by decide)) rfl (of_decide_eq_false g1) (of_decide_eq_false g2) (of_decide_eq_false g3) g4' g5' (fun _ _ => rfl) hf1 ?_ (hd0 hk) (fun H1 locs1 hP1 _ hS1 => ?_)
          · have hn9 : nativeFrameWords "java/lang/System" "arraycopy" 5 ≤ 20 := by decide +kernel
            omega
          · rw [copy_fun f9 g9 _ _ _ g4' g5', ← copy_len f9 g9 _ _ _ g4' g5'] at hP1
            have e9 := wd_set B sa cy M b (.inl (1, .inl (g9.take dp.toNatClampNeg ++ ((f9.drop sp.toNatClampNeg).take n.toNatClampNeg ++ g9.drop (dp.toNatClampNeg + n.toNatClampNeg)))))
            exact k H1 locs1 (by rw [← e9]; exact hP1) hS1
      · cases h
    · cases h
  · dsimp only at h
    split at h
    · rename_i a r
      cases hg9 : (Nat.ble 10 a && Nat.blt a 17) with
      | false => rw [hg9] at h; cases h
      | true =>
      rw [hg9] at h
      cases h
      rw [Bool.and_eq_true] at hg9
      have ha1 : 10 ≤ a := Nat.le_of_ble_eq_true hg9.1
      have ha2 : a < 17 := Nat.le_of_ble_eq_true hg9.2
      obtain ⟨j, rfl⟩ : ∃ j, a = 10 + j := ⟨a - 10, by omega⟩
      have hj : j < 7 := by omega
      rw [Nat.add_sub_cancel_left, ln_eq] at k hrm
      simp only [ckC, hoo, Bool.and_eq_true] at hc
      have hrm2 := hrm
      simp only [List.map_cons, List.sum_cons] at hrm2
      refine W.sz (fun hz => ?_)
      have hH := world_size hI hP hS hsz hz
      have hM := hlib.2.1 M j hj
      exact back_ok (mc := 0) (ms := 0) (rest := r) (v := some (.int (Int32.ofNat (gTx j).length))) (va_runV (C := RJ0) (b := sa (10 + j)) (As := []) (rest := r.map (rV B sa)) ⟨hx, hb, hml, hown, hts⟩ hM ⟨callB_of 0 hts (goodW0 w0_sLc) rfl rfl rfl (hts _ w0_sI) (hts _ (ckW_in hc.2)) ⟨by decide, by decide, by decide +kernel⟩ ⟨by show 2 + 1 ≤ _; omega, by show 8 + (1 + 11) + 80 ≤ _; omega⟩, hts _ w0_sLi, hts _ w0_sLs⟩ (pre_tx hj hI hP hS hH) rfl rfl hls rfl (lv_room (by omega)) (hd1 hk) hcs) hS (fun H1 locs1 h1 h2 => k H1 locs1 h1 h2)
    · cases h
  · dsimp only at h
    split at h
    · rename_i i a r
      cases hg9 : (Nat.ble 10 a && Nat.blt a 17) with
      | false => rw [hg9] at h; cases h
      | true =>
      rw [hg9] at h
      rw [Bool.and_eq_true] at hg9
      have ha1 : 10 ≤ a := Nat.le_of_ble_eq_true hg9.1
      have ha2 : a < 17 := Nat.le_of_ble_eq_true hg9.2
      obtain ⟨j, rfl⟩ : ∃ j, a = 10 + j := ⟨a - 10, by omega⟩
      have hj : j < 7 := by omega
      rw [Nat.add_sub_cancel_left] at h
      have h' : (match gAt (gTx j) i with
        | some x => some (Value.int x :: r, M)
        | none => none) = some (st', M') := h
      clear h
      split at h'
      · rename_i x hx9
        cases h'
        simp only [ckC, hoo, Bool.and_eq_true] at hc
        have hrm2 := hrm
        simp only [List.map_cons, List.sum_cons] at hrm2
        refine W.sz (fun hz => ?_)
        have hH := world_size hI hP hS hsz hz
        have hM := hlib.2.2 M j i x hj hx9
        exact back_ok (mc := 0) (ms := 0) (rest := r) (v := some (.int x)) (va_runV (C := RJ0) (b := sa (10 + j)) (As := [.int i]) (rest := r.map (rV B sa)) ⟨hx, hb, hml, hown, hts⟩ hM ⟨callB_of 1 hts (goodW0 w0_sCc) rfl rfl rfl (hts _ w0_sI) (hts _ (ckW_in hc.2)) ⟨by decide, by decide, by decide +kernel⟩ ⟨by show 5 + 1 ≤ _; omega, by show 8 + (2 + 11) + 200 ≤ _; omega⟩, hts _ w0_sCi, hts _ w0_sCs⟩ (pre_tx hj hI hP hS hH) rfl rfl hls rfl (lv_room (by omega)) (hd1 hk) hcs) hS (fun H1 locs1 h1 h2 => k H1 locs1 h1 h2)
      · cases h'
    · cases h
  · cases h
end SND
