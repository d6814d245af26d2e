/-! String.length and String.charAt of the class's own texts, walked by hand: each one step of `go` -/
theorem d_sL_0 : decode cJ0_length_8abf5 0 = .ok (.aload_n 0, 1) := by decide +kernel
theorem d_sL_1 : decode cJ0_length_8abf5 1 = .ok (.getfield 9, 3) := by decide +kernel
theorem d_sL_4 : decode cJ0_length_8abf5 4 = .ok (.arraylength, 1) := by decide +kernel
theorem d_sL_5 : decode cJ0_length_8abf5 5 = .ok (.aload_n 0, 1) := by decide +kernel
theorem d_sL_6 : decode cJ0_length_8abf5 6 = .ok (.invokevirtual 335, 3) := by decide +kernel
theorem d_sL_9 : decode cJ0_length_8abf5 9 = .ok (.ishr, 1) := by decide +kernel
theorem d_sL_10 : decode cJ0_length_8abf5 10 = .ok (.ireturn, 1) := by decide +kernel
theorem d_sC_0 : decode cJ0_charAt_5068e 0 = .ok (.aload_n 0, 1) := by decide +kernel
theorem d_sC_1 : decode cJ0_charAt_5068e 1 = .ok (.invokevirtual 492, 3) := by decide +kernel
theorem d_sC_4 : decode cJ0_charAt_5068e 4 = .ok (.ifCond .eq 12, 3) := by decide +kernel
theorem d_sC_7 : decode cJ0_charAt_5068e 7 = .ok (.aload_n 0, 1) := by decide +kernel
theorem d_sC_8 : decode cJ0_charAt_5068e 8 = .ok (.getfield 9, 3) := by decide +kernel
theorem d_sC_11 : decode cJ0_charAt_5068e 11 = .ok (.iload_n 1, 1) := by decide +kernel
theorem d_sC_12 : decode cJ0_charAt_5068e 12 = .ok (.invokestatic 495, 3) := by decide +kernel
theorem d_sC_15 : decode cJ0_charAt_5068e 15 = .ok (.ireturn, 1) := by decide +kernel
theorem d_sD_0 : decode cJ0_coder_7d493 0 = .ok (.getstatic 38, 3) := by decide +kernel
theorem d_sD_3 : decode cJ0_coder_7d493 3 = .ok (.ifCond .eq 10, 3) := by decide +kernel
theorem d_sD_6 : decode cJ0_coder_7d493 6 = .ok (.aload_n 0, 1) := by decide +kernel
theorem d_sD_7 : decode cJ0_coder_7d493 7 = .ok (.getfield 15, 3) := by decide +kernel
theorem d_sD_10 : decode cJ0_coder_7d493 10 = .ok (.goto 4, 3) := by decide +kernel
theorem d_sD_14 : decode cJ0_coder_7d493 14 = .ok (.ireturn, 1) := by decide +kernel
theorem d_sI_0 : decode cJ0_isLatin1_aae02 0 = .ok (.getstatic 38, 3) := by decide +kernel
theorem d_sI_3 : decode cJ0_isLatin1_aae02 3 = .ok (.ifCond .eq 14, 3) := by decide +kernel
theorem d_sI_6 : decode cJ0_isLatin1_aae02 6 = .ok (.aload_n 0, 1) := by decide +kernel
theorem d_sI_7 : decode cJ0_isLatin1_aae02 7 = .ok (.getfield 15, 3) := by decide +kernel
theorem d_sI_10 : decode cJ0_isLatin1_aae02 10 = .ok (.ifCond .ne 7, 3) := by decide +kernel
theorem d_sI_13 : decode cJ0_isLatin1_aae02 13 = .ok (.iconst 1, 1) := by decide +kernel
theorem d_sI_14 : decode cJ0_isLatin1_aae02 14 = .ok (.goto 4, 3) := by decide +kernel
theorem d_sI_18 : decode cJ0_isLatin1_aae02 18 = .ok (.ireturn, 1) := by decide +kernel
theorem d_sK_0 : decode cJ0_checkIndex_df160 0 = .ok (.iload_n 0, 1) := by decide +kernel
theorem d_sK_1 : decode cJ0_checkIndex_df160 1 = .ok (.iload_n 1, 1) := by decide +kernel
theorem d_sK_2 : decode cJ0_checkIndex_df160 2 = .ok (.getstatic 1053, 3) := by decide +kernel
theorem d_sK_5 : decode cJ0_checkIndex_df160 5 = .ok (.invokestatic 1059, 3) := by decide +kernel
theorem d_sK_8 : decode cJ0_checkIndex_df160 8 = .ok (.pop, 1) := by decide +kernel
theorem d_sK_9 : decode cJ0_checkIndex_df160 9 = .ok (.return_, 1) := by decide +kernel
theorem d_s1C_0 : decode cJ1_charAt_3b067 0 = .ok (.iload_n 1, 1) := by decide +kernel
theorem d_s1C_1 : decode cJ1_charAt_3b067 1 = .ok (.aload_n 0, 1) := by decide +kernel
theorem d_s1C_2 : decode cJ1_charAt_3b067 2 = .ok (.arraylength, 1) := by decide +kernel
theorem d_s1C_3 : decode cJ1_charAt_3b067 3 = .ok (.invokestatic 9, 3) := by decide +kernel
theorem d_s1C_6 : decode cJ1_charAt_3b067 6 = .ok (.aload_n 0, 1) := by decide +kernel
theorem d_s1C_7 : decode cJ1_charAt_3b067 7 = .ok (.iload_n 1, 1) := by decide +kernel
theorem d_s1C_8 : decode cJ1_charAt_3b067 8 = .ok (.baload, 1) := by decide +kernel
theorem d_s1C_9 : decode cJ1_charAt_3b067 9 = .ok (.sipush 255, 3) := by decide +kernel
theorem d_s1C_12 : decode cJ1_charAt_3b067 12 = .ok (.iand, 1) := by decide +kernel
theorem d_s1C_13 : decode cJ1_charAt_3b067 13 = .ok (.i2c, 1) := by decide +kernel
theorem d_s1C_14 : decode cJ1_charAt_3b067 14 = .ok (.ireturn, 1) := by decide +kernel
theorem d_s3K_0 : decode cJ3_checkIndex_8e157 0 = .ok (.iload_n 0, 1) := by decide +kernel
theorem d_s3K_1 : decode cJ3_checkIndex_8e157 1 = .ok (.ifCond .lt 8, 3) := by decide +kernel
theorem d_s3K_4 : decode cJ3_checkIndex_8e157 4 = .ok (.iload_n 0, 1) := by decide +kernel
theorem d_s3K_5 : decode cJ3_checkIndex_8e157 5 = .ok (.iload_n 1, 1) := by decide +kernel
theorem d_s3K_6 : decode cJ3_checkIndex_8e157 6 = .ok (.if_icmp .lt 10, 3) := by decide +kernel
theorem d_s3K_16 : decode cJ3_checkIndex_8e157 16 = .ok (.iload_n 0, 1) := by decide +kernel
theorem d_s3K_17 : decode cJ3_checkIndex_8e157 17 = .ok (.ireturn, 1) := by decide +kernel
theorem tx_ch {j : Nat} (hj : j < 7) : ∀ n, n < (gTx j).length → ((((gTx j).getD n 0 &&& 255).toUInt32 % 65536).toInt32 = (gTx j).getD n 0 ∧ narrow .char (.int ((gTx j).getD n 0)) = .int ((gTx j).getD n 0)) := by
  match j, hj with
  | 0, _ => decide +kernel
  | 1, _ => decide +kernel
  | 2, _ => decide +kernel
  | 3, _ => decide +kernel
  | 4, _ => decide +kernel
  | 5, _ => decide +kernel
  | 6, _ => decide +kernel
  | n + 7, h => omega
theorem tx_at {j : Nat} (hj : j < 7) {i x : Int32} (h : gAt (gTx j) i = some x) : ∃ n : Nat, n < (gTx j).length ∧ i = nI n ∧ (gTx j).getD n 0 = x := by
  obtain ⟨h1, h2⟩ := at_ok h
  obtain ⟨n, hn, rfl⟩ := nI_of (x := i) (fun q => h1 (Or.inl q))
  rw [nI_clamp hn] at h2
  have hl := gNth_lt _ _ _ h2
  rw [nth_eq] at h2
  exact ⟨n, hl, rfl, by rw [List.getD_eq_getElem?_getD, h2]; rfl⟩
theorem sh_0 (x : Int32) : x >>> ((0 : Int32) &&& 31) = x := by
  apply Int32.toInt_inj.mp
  rw [pk_shr x _ 0 (by decide)]
  exact Int.shiftRight_zero _
section SNL
variable (l : Launch) (B : Nat) (sa : Nat → Nat) (cy : Nat → ClassId) (dC : Nat → ClassId) (dI : Nat → Nat → Nat) (SA : Sta)
set_option maxHeartbeats 4000000 in
theorem coder_ok (M : Mem) (j : Nat) (hj : j < 7) : Met l yJ0_coder_7d493 (.code yJ0_coder_7d493 cJ0_coder_7d493 1 (some .byte) :: W0) ({ frames := 0, cells := 0, slots := 0, locals := 0 }) (Pcv B sa cy dC dI SA [.ref (sa (10 + j))] M) (Qcw B sa cy dC dI (some (.int 0)) M) 0 0 (fun q => B ≤ q) := by
  refine Met.ofW (cc := cJ0_coder_7d493) (maxL := 1) (ret := (some .byte)) (by decide +kernel) rfl ?_
  intro p e s m args below meth c s₁ B9 hml hv
  obtain ⟨rfl, hI, hsz, hP⟩ := hv
  have hx := B9.exec
  have hb := B9.bytes
  have hr := B9.returns
  have hlocks := B9.notSynchronized
  have hts : ∀ w ∈ W0, w.before ([.ref (sa (10 + j))] : List Value).toArray s = true := fun w hw => atoms_spec (ws := .code yJ0_coder_7d493 cJ0_coder_7d493 1 (some .byte) :: W0) B9.pre w (List.mem_cons_of_mem _ hw)
  have hown : s.vm.findClass RJ0 = some m.cls := findClass_of_methodNamed B9.named
  have hS : va_S (fun q => B ≤ q) s.heap s.heap [] := va_S.rf
  have hl := lv_entry ([.ref (sa (10 + j))]) (n := 1) (Nat.le_of_ble_eq_true rfl)
  show W p l e _ s m _ below meth c s.heap [] 0 0 _ (entryFrame m ([.ref (sa (10 + j))] : List Value).toArray 1)
  rw [lg_entry_eq]
  generalize (lg_sl ([.ref (sa (10 + j))]) ++ List.replicate (1 - (lg_sl ([.ref (sa (10 + j))])).length) Slot.unset).toArray = ls at hl ⊢
  have hl : lv_has ls 1 [(0, .ref (sa (10 + j)))] := hl
  have hls : ls.size = 1 := hl.1
  obtain ⟨hO, hco, hva, hT⟩ := hI.2.2.2.2.2.2.2.1.1 j hj
  have hZ := hI.2.2.2.2.2.2.2.2.2.1
  refine va_gets hx hb hZ hS hown (hts _ w0_sf38) (fun _ h => h) d_sD_0 ?_
  refine lv_if_eq (tgt := 13) hx hb d_sD_3 (by decide) (fun q => absurd q (by decide)) (fun _ => ?_)
  refine lv_aload_n hx hb d_sD_6 rfl (lv_at hl 0 rfl) ?_
  refine vk_getf hx hb hco hS hown (hts _ w0_sf15) (fun _ h => h) d_sD_7 ?_
  refine lv_goto (tgt := 14) hx hb d_sD_10 (by decide) ?_
  exact W.zret hx hb hr (rfl) (fun t ht hW => ⟨⟨0, (), rfl, rfl, by rw [ht]; exact hsz, by rw [ht]; exact hP⟩, hS.F ht⟩) hS.2.2 d_sD_14
set_option maxHeartbeats 4000000 in
theorem latin_ok (M : Mem) (j : Nat) (hj : j < 7) : Met l yJ0_isLatin1_aae02 (.code yJ0_isLatin1_aae02 cJ0_isLatin1_aae02 1 (some .boolean) :: W0) ({ frames := 0, cells := 0, slots := 0, locals := 0 }) (Pcv B sa cy dC dI SA [.ref (sa (10 + j))] M) (Qcw B sa cy dC dI (some (.int 1)) M) 0 0 (fun q => B ≤ q) := by
  refine Met.ofW (cc := cJ0_isLatin1_aae02) (maxL := 1) (ret := (some .boolean)) (by decide +kernel) rfl ?_
  intro p e s m args below meth c s₁ B9 hml hv
  obtain ⟨rfl, hI, hsz, hP⟩ := hv
  have hx := B9.exec
  have hb := B9.bytes
  have hr := B9.returns
  have hlocks := B9.notSynchronized
  have hts : ∀ w ∈ W0, w.before ([.ref (sa (10 + j))] : List Value).toArray s = true := fun w hw => atoms_spec (ws := .code yJ0_isLatin1_aae02 cJ0_isLatin1_aae02 1 (some .boolean) :: W0) B9.pre w (List.mem_cons_of_mem _ hw)
  have hown : s.vm.findClass RJ0 = some m.cls := findClass_of_methodNamed B9.named
  have hS : va_S (fun q => B ≤ q) s.heap s.heap [] := va_S.rf
  have hl := lv_entry ([.ref (sa (10 + j))]) (n := 1) (Nat.le_of_ble_eq_true rfl)
  show W p l e _ s m _ below meth c s.heap [] 0 0 _ (entryFrame m ([.ref (sa (10 + j))] : List Value).toArray 1)
  rw [lg_entry_eq]
  generalize (lg_sl ([.ref (sa (10 + j))]) ++ List.replicate (1 - (lg_sl ([.ref (sa (10 + j))])).length) Slot.unset).toArray = ls at hl ⊢
  have hl : lv_has ls 1 [(0, .ref (sa (10 + j)))] := hl
  have hls : ls.size = 1 := hl.1
  obtain ⟨hO, hco, hva, hT⟩ := hI.2.2.2.2.2.2.2.1.1 j hj
  have hZ := hI.2.2.2.2.2.2.2.2.2.1
  refine va_gets hx hb hZ hS hown (hts _ w0_sf38) (fun _ h => h) d_sI_0 ?_
  refine lv_if_eq (tgt := 17) hx hb d_sI_3 (by decide) (fun q => absurd q (by decide)) (fun _ => ?_)
  refine lv_aload_n hx hb d_sI_6 rfl (lv_at hl 0 rfl) ?_
  refine vk_getf hx hb hco hS hown (hts _ w0_sf15) (fun _ h => h) d_sI_7 ?_
  refine lv_if_ne (tgt := 17) hx hb d_sI_10 (by decide) (fun q => absurd rfl q) (fun _ => ?_)
  refine lv_iconst (v := 1) hx hb d_sI_13 (by decide) ?_
  refine lv_goto (tgt := 18) hx hb d_sI_14 (by decide) ?_
  exact W.zret hx hb hr (rfl) (fun t ht hW => ⟨⟨1, (), rfl, rfl, by rw [ht]; exact hsz, by rw [ht]; exact hP⟩, hS.F ht⟩) hS.2.2 d_sI_18
set_option maxHeartbeats 4000000 in
theorem chk3_ok (M : Mem) (i n : Int32) (v : Value) (hi : ¬ i < 0) (hn : i < n) (hv9 : lg_sl [.int i, .int n, v] = [Slot.val (.int i), Slot.val (.int n), Slot.val v]) : Met l yJ3_checkIndex_8e157 (.code yJ3_checkIndex_8e157 cJ3_checkIndex_8e157 3 (some .int) :: W0) ({ frames := 0, cells := 0, slots := 0, locals := 0 }) (Pcv B sa cy dC dI SA [.int i, .int n, v] M) (Qcw B sa cy dC dI (some (.int i)) M) 0 0 (fun q => B ≤ q) := by
  refine Met.ofW (cc := cJ3_checkIndex_8e157) (maxL := 3) (ret := (some .int)) (by decide +kernel) rfl ?_
  intro p e s m args below meth c s₁ B9 hml hv
  obtain ⟨rfl, hI, hsz, hP⟩ := hv
  have hx := B9.exec
  have hb := B9.bytes
  have hr := B9.returns
  have hlocks := B9.notSynchronized
  have hts : ∀ w ∈ W0, w.before ([.int i, .int n, v] : List Value).toArray s = true := fun w hw => atoms_spec (ws := .code yJ3_checkIndex_8e157 cJ3_checkIndex_8e157 3 (some .int) :: W0) B9.pre w (List.mem_cons_of_mem _ hw)
  have hown : s.vm.findClass RJ3 = some m.cls := findClass_of_methodNamed B9.named
  have hS : va_S (fun q => B ≤ q) s.heap s.heap [] := va_S.rf
  have hl := lv_entry ([.int i, .int n, v]) (n := 3) (by rw [hv9]; exact Nat.le_of_ble_eq_true rfl)
  show W p l e _ s m _ below meth c s.heap [] 0 0 _ (entryFrame m ([.int i, .int n, v] : List Value).toArray 3)
  rw [lg_entry_eq]
  generalize (lg_sl ([.int i, .int n, v]) ++ List.replicate (3 - (lg_sl ([.int i, .int n, v])).length) Slot.unset).toArray = ls at hl ⊢
  have hl : lv_has ls 3 [(0, .int i), (1, .int n), (2, v)] := hl
  have hls : ls.size = 3 := hl.1
  refine lv_iload_n hx hb d_s3K_0 rfl (lv_at hl 0 rfl) ?_
  refine lv_if_lt (tgt := 9) hx hb d_s3K_1 (by decide) (fun q => absurd q hi) (fun _ => ?_)
  refine lv_iload_n hx hb d_s3K_4 rfl (lv_at hl 0 rfl) ?_
  refine lv_iload_n hx hb d_s3K_5 rfl (lv_at hl 1 rfl) ?_
  refine lv_icmp_lt (tgt := 16) hx hb d_s3K_6 (by decide) (fun _ => ?_) (fun q => absurd hn q)
  refine lv_iload_n hx hb d_s3K_16 rfl (lv_at hl 0 rfl) ?_
  exact W.iret hx hb hr (fun t ht hW => ⟨⟨i, (), rfl, rfl, by rw [ht]; exact hsz, by rw [ht]; exact hP⟩, hS.F ht⟩) hS.2.2 d_s3K_17
set_option maxHeartbeats 4000000 in
theorem chk_ok (M : Mem) (i n : Int32) (hi : ¬ i < 0) (hn : i < n) : Met l yJ0_checkIndex_df160 (.code yJ0_checkIndex_df160 cJ0_checkIndex_df160 2 none :: W0) ({ frames := 1, cells := 0, slots := 0, locals := 40 }) (Pcv B sa cy dC dI SA [.int i, .int n] M) (Qcw B sa cy dC dI none M) 0 0 (fun q => B ≤ q) := by
  refine Met.ofW (cc := cJ0_checkIndex_df160) (maxL := 2) (ret := none) (by decide +kernel) rfl ?_
  intro p e s m args below meth c s₁ B9 hml hv
  obtain ⟨rfl, hI, hsz, hP⟩ := hv
  have hx := B9.exec
  have hb := B9.bytes
  have hr := B9.returns
  have hlocks := B9.notSynchronized
  have hts : ∀ w ∈ W0, w.before ([.int i, .int n] : List Value).toArray s = true := fun w hw => atoms_spec (ws := .code yJ0_checkIndex_df160 cJ0_checkIndex_df160 2 none :: W0) B9.pre w (List.mem_cons_of_mem _ hw)
  have hown : s.vm.findClass RJ0 = some m.cls := findClass_of_methodNamed B9.named
  have hS : va_S (fun q => B ≤ q) s.heap s.heap [] := va_S.rf
  have hl := lv_entry ([.int i, .int n]) (n := 2) (Nat.le_of_ble_eq_true rfl)
  show W p l e _ s m _ below meth c s.heap [] 0 0 _ (entryFrame m ([.int i, .int n] : List Value).toArray 2)
  rw [lg_entry_eq]
  generalize (lg_sl ([.int i, .int n]) ++ List.replicate (2 - (lg_sl ([.int i, .int n])).length) Slot.unset).toArray = ls at hl ⊢
  have hl : lv_has ls 2 [(0, .int i), (1, .int n)] := hl
  have hls : ls.size = 2 := hl.1
  have key : ∀ v : Value, v.category = 1 → lg_sl [.int i, .int n, v] = [Slot.val (.int i), Slot.val (.int n), Slot.val v] → va_Z "jdk/internal/util/Preconditions" "SIOOBE_FORMATTER" "Ljava/util/function/BiFunction;" v (fun a => B ≤ a) s s.heap → W p l e (headSpec (.code yJ0_checkIndex_df160 cJ0_checkIndex_df160 2 none :: W0) ({ frames := 1, cells := 0, slots := 0, locals := 40 })).room s m ([.int i, .int n] : List Value).toArray below meth c s.heap [] 0 0 (MQ below (Qcw B sa cy dC dI none M) ([.int i, .int n] : List Value).toArray s 0 0 (fun q => B ≤ q)) (F0 m 0 ls []) := by
    intro v hvc hvl hZ
    refine lv_iload_n hx hb d_sK_0 rfl (lv_at hl 0 rfl) ?_
    refine lv_iload_n hx hb d_sK_1 rfl (lv_at hl 1 rfl) ?_
    refine va_gets hx hb hZ hS hown (hts _ w0_sf1053) (fun _ h => h) d_sK_2 ?_
    refine va_calli (a := ([.int i, .int n, v] : List Value).toArray) (post := fun (r : Int32) (_ : Unit) => r = i) (B := fun _ t => Bw B sa cy dC dI M t) (A1 := fun q => B ≤ q) (va_runS (As := [.int i, .int n, v]) (rest := []) ⟨hx, hb, hml, hown, hts⟩ (chk3_ok l B sa cy dC dI SA M i n v hi hn hvl) ⟨callB_of 3 hts (goodW0 w0_s3Kc) rfl rfl rfl (hts _ w0_s3I) (hts _ w0_s3Kl) ⟨by decide, by decide, by decide +kernel⟩ ⟨Nat.le_of_ble_eq_true rfl, Nat.le_of_ble_eq_true rfl⟩, hts _ w0_s3Ks⟩ (pre_sv hI hP hS hsz) rfl rfl hls rfl (lv_room (Nat.le_of_ble_eq_true rfl)) d_sK_5 ⟨Nat.le_of_ble_eq_true rfl, Nat.le_of_ble_eq_true rfl⟩) hS (fun _ _ h => h) (fun _ h => h) (fun r u t H1 locs1 ht _ hw hB _ _ hS1 => ?_)
    refine lv_pop hx hb d_sK_8 rfl ?_
    exact W.vret hx hb hr (fun t2 ht2 hW => ⟨⟨(), rfl, trivial, by rw [ht2, ← ht]; exact hB.1, by rw [ht2, ← ht]; exact hB.2⟩, hS1.F ht2⟩) hS1.2.2 d_sK_9
  rcases hI.2.2.2.2.2.2.2.2.2.2 with h | ⟨t, h⟩
  · exact key .null rfl rfl h
  · exact key (.ref t) rfl rfl h
set_option maxHeartbeats 4000000 in
theorem lch_ok (M : Mem) (j n : Nat) (hj : j < 7) (hn : n < (gTx j).length) : Met l yJ1_charAt_3b067 (.code yJ1_charAt_3b067 cJ1_charAt_3b067 2 (some .char) :: W0) ({ frames := 2, cells := 0, slots := 0, locals := 90 }) (Pcv B sa cy dC dI SA [.ref (sa (20 + j)), .int (nI n)] M) (Qcw B sa cy dC dI (some (.int ((gTx j).getD n 0))) M) 0 0 (fun q => B ≤ q) := by
  refine Met.ofW (cc := cJ1_charAt_3b067) (maxL := 2) (ret := (some .char)) (by decide +kernel) rfl ?_
  intro p e s m args below meth c s₁ B9 hml hv
  obtain ⟨rfl, hI, hsz, hP⟩ := hv
  have hx := B9.exec
  have hb := B9.bytes
  have hr := B9.returns
  have hlocks := B9.notSynchronized
  have hts : ∀ w ∈ W0, w.before ([.ref (sa (20 + j)), .int (nI n)] : List Value).toArray s = true := fun w hw => atoms_spec (ws := .code yJ1_charAt_3b067 cJ1_charAt_3b067 2 (some .char) :: W0) B9.pre w (List.mem_cons_of_mem _ hw)
  have hown : s.vm.findClass RJ1 = some m.cls := findClass_of_methodNamed B9.named
  have hS : va_S (fun q => B ≤ q) s.heap s.heap [] := va_S.rf
  have hl := lv_entry ([.ref (sa (20 + j)), .int (nI n)]) (n := 2) (Nat.le_of_ble_eq_true rfl)
  show W p l e _ s m _ below meth c s.heap [] 0 0 _ (entryFrame m ([.ref (sa (20 + j)), .int (nI n)] : List Value).toArray 2)
  rw [lg_entry_eq]
  generalize (lg_sl ([.ref (sa (20 + j)), .int (nI n)]) ++ List.replicate (2 - (lg_sl ([.ref (sa (20 + j)), .int (nI n)])).length) Slot.unset).toArray = ls at hl ⊢
  have hl : lv_has ls 2 [(0, .ref (sa (20 + j))), (1, .int (nI n))] := hl
  have hls : ls.size = 2 := hl.1
  obtain ⟨hO, hco, hva, hT⟩ := hI.2.2.2.2.2.2.2.1.1 j hj
  obtain ⟨t1, t2, t3⟩ := tx_len hj
  rw [t1, t2] at hT
  have hnl : n < 2 ^ 31 := by omega
  refine lv_iload_n hx hb d_s1C_0 rfl (lv_at hl 1 rfl) ?_
  refine lv_aload_n hx hb d_s1C_1 rfl (lv_at hl 0 rfl) ?_
  refine va_tlen hx hb hT hS (v := nI (gTx j).length) rfl d_s1C_2 ?_
  refine va_callv (a := ([.int (nI n), .int (nI (gTx j).length)] : List Value).toArray) (post := fun (_ : Unit) => True) (B := fun _ t => Bw B sa cy dC dI M t) (A1 := fun q => B ≤ q) (va_runS (As := [.int (nI n), .int (nI (gTx j).length)]) (rest := []) ⟨hx, hb, hml, hown, hts⟩ (chk_ok l B sa cy dC dI SA M (nI n) (nI (gTx j).length) (nI_pos hnl) (nI_lt hn (by omega))) ⟨callB_of 2 hts (goodW0 w0_sKc) rfl rfl rfl (hts _ w0_sI) (hts _ w0_sKl) ⟨by decide, by decide, by decide +kernel⟩ ⟨Nat.le_of_ble_eq_true rfl, Nat.le_of_ble_eq_true rfl⟩, hts _ w0_sKs⟩ (pre_sv hI hP hS hsz) rfl rfl hls rfl (lv_room (Nat.le_of_ble_eq_true rfl)) d_s1C_3 ⟨Nat.le_of_ble_eq_true rfl, Nat.le_of_ble_eq_true rfl⟩) hS (fun _ _ h => h) (fun _ h => h) (fun u t H1 locs1 ht _ hw hB _ _ hS1 => ?_)
  refine lv_aload_n hx hb d_s1C_6 rfl (lv_at hl 0 rfl) ?_
  refine lv_iload_n hx hb d_s1C_7 rfl (lv_at hl 1 rfl) ?_
  refine va_tb hx hb hT hS1 (i := nI n) (vp_in_nI hn (by omega)) (v := .int ((gTx j).getD n 0)) (by rw [nI_clamp hnl]) d_s1C_8 ?_
  refine lv_sipush (v := 255) hx hb d_s1C_9 (by decide) ?_
  refine lv_iand hx hb d_s1C_12 ?_
  refine lv_i2c hx hb d_s1C_13 (tx_ch hj n hn).1 ?_
  exact W.zret hx hb hr (tx_ch hj n hn).2 (fun t2 ht2 hW => ⟨⟨_, (), rfl, rfl, by rw [ht2, ← ht]; exact hB.1, by rw [ht2, ← ht]; exact hB.2⟩, hS1.F ht2⟩) hS1.2.2 d_s1C_14
set_option maxHeartbeats 4000000 in
theorem len_ok (M : Mem) (j : Nat) (hj : j < 7) : Met l yJ0_length_8abf5 (.code yJ0_length_8abf5 cJ0_length_8abf5 1 (some .int) :: W0) ({ frames := 2, cells := 0, slots := 0, locals := 80 }) (Pcv B sa cy dC dI SA [.ref (sa (10 + j))] M) (Qcw B sa cy dC dI (some (.int (Int32.ofNat (gTx j).length))) M) 0 0 (fun q => B ≤ q) := by
  refine Met.ofW (cc := cJ0_length_8abf5) (maxL := 1) (ret := (some .int)) (by decide +kernel) rfl ?_
  intro p e s m args below meth c s₁ B9 hml hv
  obtain ⟨rfl, hI, hsz, hP⟩ := hv
  have hx := B9.exec
  have hb := B9.bytes
  have hr := B9.returns
  have hlocks := B9.notSynchronized
  have hts : ∀ w ∈ W0, w.before ([.ref (sa (10 + j))] : List Value).toArray s = true := fun w hw => atoms_spec (ws := .code yJ0_length_8abf5 cJ0_length_8abf5 1 (some .int) :: W0) B9.pre w (List.mem_cons_of_mem _ hw)
  have hown : s.vm.findClass RJ0 = some m.cls := findClass_of_methodNamed B9.named
  have hS : va_S (fun q => B ≤ q) s.heap s.heap [] := va_S.rf
  have hl := lv_entry ([.ref (sa (10 + j))]) (n := 1) (Nat.le_of_ble_eq_true rfl)
  show W p l e _ s m _ below meth c s.heap [] 0 0 _ (entryFrame m ([.ref (sa (10 + j))] : List Value).toArray 1)
  rw [lg_entry_eq]
  generalize (lg_sl ([.ref (sa (10 + j))]) ++ List.replicate (1 - (lg_sl ([.ref (sa (10 + j))])).length) Slot.unset).toArray = ls at hl ⊢
  have hl : lv_has ls 1 [(0, .ref (sa (10 + j)))] := hl
  have hls : ls.size = 1 := hl.1
  obtain ⟨hO, hco, hva, hT⟩ := hI.2.2.2.2.2.2.2.1.1 j hj
  obtain ⟨t1, t2, t3⟩ := tx_len hj
  rw [t1, t2] at hT
  refine lv_aload_n hx hb d_sL_0 rfl (lv_at hl 0 rfl) ?_
  refine vk_getf hx hb hva hS hown (hts _ w0_sf9) (fun _ h => h) d_sL_1 ?_
  refine va_tlen hx hb hT hS (v := nI (gTx j).length) rfl d_sL_4 ?_
  refine lv_aload_n hx hb d_sL_5 rfl (lv_at hl 0 rfl) ?_
  refine va_calli (a := ([.ref (sa (10 + j))] : List Value).toArray) (post := fun (r : Int32) (_ : Unit) => r = 0) (B := fun _ t => Bw B sa cy dC dI M t) (A1 := fun q => B ≤ q) (va_runV (C := RJ0) (b := sa (10 + j)) (As := []) (rest := [.int (nI (gTx j).length)]) ⟨hx, hb, hml, hown, hts⟩ (coder_ok l B sa cy dC dI SA M j hj) ⟨callB_of 0 hts (goodW0 w0_sDc) rfl rfl rfl (hts _ w0_sI) (hts _ w0_sDl) ⟨by decide, by decide, by decide +kernel⟩ ⟨Nat.le_of_ble_eq_true rfl, Nat.le_of_ble_eq_true rfl⟩, hts _ w0_sDi, hts _ w0_sDs⟩ (pre_tx hj hI hP hS hsz) rfl rfl hls rfl (lv_room (Nat.le_of_ble_eq_true rfl)) d_sL_6 ⟨Nat.le_of_ble_eq_true rfl, Nat.le_of_ble_eq_true rfl⟩) hS (fun _ _ h => h) (fun _ h => h) (fun r u t H1 locs1 ht _ hw hB _ _ hS1 => ?_)
  subst hw
  refine lv_ishr hx hb d_sL_9 ?_
  rw [show nI (gTx j).length >>> ((0 : Int32) &&& 31) = Int32.ofNat (gTx j).length from sh_0 _]
  exact W.iret hx hb hr (fun t2 ht2 hW => ⟨⟨_, (), rfl, rfl, by rw [ht2, ← ht]; exact hB.1, by rw [ht2, ← ht]; exact hB.2⟩, hS1.F ht2⟩) hS1.2.2 d_sL_10
set_option maxHeartbeats 4000000 in
theorem chr_ok (M : Mem) (j n : Nat) (hj : j < 7) (hn : n < (gTx j).length) : Met l yJ0_charAt_5068e (.code yJ0_charAt_5068e cJ0_charAt_5068e 2 (some .char) :: W0) ({ frames := 5, cells := 0, slots := 0, locals := 200 }) (Pcv B sa cy dC dI SA [.ref (sa (10 + j)), .int (nI n)] M) (Qcw B sa cy dC dI (some (.int ((gTx j).getD n 0))) M) 0 0 (fun q => B ≤ q) := by
  refine Met.ofW (cc := cJ0_charAt_5068e) (maxL := 2) (ret := (some .char)) (by decide +kernel) rfl ?_
  intro p e s m args below meth c s₁ B9 hml hv
  obtain ⟨rfl, hI, hsz, hP⟩ := hv
  have hx := B9.exec
  have hb := B9.bytes
  have hr := B9.returns
  have hlocks := B9.notSynchronized
  have hts : ∀ w ∈ W0, w.before ([.ref (sa (10 + j)), .int (nI n)] : List Value).toArray s = true := fun w hw => atoms_spec (ws := .code yJ0_charAt_5068e cJ0_charAt_5068e 2 (some .char) :: W0) B9.pre w (List.mem_cons_of_mem _ hw)
  have hown : s.vm.findClass RJ0 = some m.cls := findClass_of_methodNamed B9.named
  have hS : va_S (fun q => B ≤ q) s.heap s.heap [] := va_S.rf
  have hl := lv_entry ([.ref (sa (10 + j)), .int (nI n)]) (n := 2) (Nat.le_of_ble_eq_true rfl)
  show W p l e _ s m _ below meth c s.heap [] 0 0 _ (entryFrame m ([.ref (sa (10 + j)), .int (nI n)] : List Value).toArray 2)
  rw [lg_entry_eq]
  generalize (lg_sl ([.ref (sa (10 + j)), .int (nI n)]) ++ List.replicate (2 - (lg_sl ([.ref (sa (10 + j)), .int (nI n)])).length) Slot.unset).toArray = ls at hl ⊢
  have hl : lv_has ls 2 [(0, .ref (sa (10 + j))), (1, .int (nI n))] := hl
  have hls : ls.size = 2 := hl.1
  obtain ⟨hO, hco, hva, hT⟩ := hI.2.2.2.2.2.2.2.1.1 j hj
  refine lv_aload_n hx hb d_sC_0 rfl (lv_at hl 0 rfl) ?_
  refine va_calli (a := ([.ref (sa (10 + j))] : List Value).toArray) (post := fun (r : Int32) (_ : Unit) => r = 1) (B := fun _ t => Bw B sa cy dC dI M t) (A1 := fun q => B ≤ q) (va_runV (C := RJ0) (b := sa (10 + j)) (As := []) (rest := []) ⟨hx, hb, hml, hown, hts⟩ (latin_ok l B sa cy dC dI SA M j hj) ⟨callB_of 0 hts (goodW0 w0_sIc) rfl rfl rfl (hts _ w0_sI) (hts _ w0_sIl) ⟨by decide, by decide, by decide +kernel⟩ ⟨Nat.le_of_ble_eq_true rfl, Nat.le_of_ble_eq_true rfl⟩, hts _ w0_sIi, hts _ w0_sIs⟩ (pre_tx hj hI hP hS hsz) rfl rfl hls rfl (lv_room (Nat.le_of_ble_eq_true rfl)) d_sC_1 ⟨Nat.le_of_ble_eq_true rfl, Nat.le_of_ble_eq_true rfl⟩) hS (fun _ _ h => h) (fun _ h => h) (fun r u t H1 locs1 ht _ hw hB _ _ hS1 => ?_)
  subst hw
  refine lv_if_eq (tgt := 16) hx hb d_sC_4 (by decide) (fun q => absurd q (by decide)) (fun _ => ?_)
  refine lv_aload_n hx hb d_sC_7 rfl (lv_at hl 0 rfl) ?_
  refine vk_getf hx hb hva hS1 hown (hts _ w0_sf9) (fun _ h => h) d_sC_8 ?_
  refine lv_iload_n hx hb d_sC_11 rfl (lv_at hl 1 rfl) ?_
  have hH1 : H1.size = B + M.length := by rw [← ht]; exact hB.1
  have hP1 : va_P (dC, dI) gCL (wd B sa cy M) H1 := by rw [← ht]; exact hB.2
  refine va_calli (a := ([.ref (sa (20 + j)), .int (nI n)] : List Value).toArray) (post := fun (r : Int32) (_ : Unit) => r = (gTx j).getD n 0) (B := fun _ t => Bw B sa cy dC dI M t) (A1 := fun q => B ≤ q) (va_runS (As := [.ref (sa (20 + j)), .int (nI n)]) (rest := []) ⟨hx, hb, hml, hown, hts⟩ (lch_ok l B sa cy dC dI SA M j n hj hn) ⟨callB_of 2 hts (goodW0 w0_s1Cc) rfl rfl rfl (hts _ w0_s1I) (hts _ w0_s1Cl) ⟨by decide, by decide, by decide +kernel⟩ ⟨Nat.le_of_ble_eq_true rfl, Nat.le_of_ble_eq_true rfl⟩, hts _ w0_s1Cs⟩ (pre_sv hI hP1 hS1 hH1) rfl rfl hls rfl (lv_room (Nat.le_of_ble_eq_true rfl)) d_sC_12 ⟨Nat.le_of_ble_eq_true rfl, Nat.le_of_ble_eq_true rfl⟩) hS1 (fun _ _ h => h) (fun _ h => h) (fun r2 u2 t3 H2 locs2 ht3 _ hw2 hB2 _ _ hS2 => ?_)
  subst hw2
  exact W.zret hx hb hr (tx_ch hj n hn).2 (fun t2 ht2 hW => ⟨⟨_, (), rfl, rfl, by rw [ht2, ← ht3]; exact hB2.1, by rw [ht2, ← ht3]; exact hB2.2⟩, hS2.F ht2⟩) hS2.2.2 d_sC_15
theorem lib_ok : MetLib l B sa cy dC dI SA := by
  refine ⟨fill_ok l B sa cy dC dI SA, fun M j hj => len_ok l B sa cy dC dI SA M j hj, fun M j i x hj hx => ?_⟩
  obtain ⟨n, hn, rfl, rfl⟩ := tx_at hj hx
  exact chr_ok l B sa cy dC dI SA M j n hj hn
end SNL
