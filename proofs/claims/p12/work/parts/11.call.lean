/-! SOUNDNESS: calls, and the whole: what `go` answers, the machine answers -/
theorem row_ok {id o2 maxL np kf : Nat} {y : MethodName} {cc : ByteArray} {ret : Option FieldType} {tab : List (Nat × Nat × Instr)} (h : gNth mRs id = some (o2, y, cc, maxL, ret, np, kf, tab)) (hl : id ≠ idLaw) : Cond.code y cc maxL ret ∈ W0 ∧ Cond.initialized y.cls ∈ W0 ∧ gNth ownR o2 = some y.cls ∧ (y.cls ≠ "java/lang/invoke/MethodHandle" ∧ y.cls ≠ "java/lang/invoke/VarHandle") ∧ (parseMethodDescriptor y.desc).map (fun d => d.parameters.length) = some np ∧ plainName y.cls = true ∧ maxL ≤ 20 ∧ (kf = 0 → Cond.static y ∈ W0) ∧ (kf = 1 → Cond.instanceMethod y ∈ W0 ∧ Cond.selects y.cls y y ∈ W0) ∧ (kf ≠ 0 → kf ≠ 1 → Cond.instanceMethod y ∈ W0 ∧ y.name = "<init>" ∧ ret = none ∧ kf = 2) ∧ (kf ≠ 2 → y.name ≠ "<init>") ∧ o2 ≠ 12 := by
  obtain ⟨w, hw⟩ := ckMs h hl
  simp only [ckM, Bool.and_eq_true, Bool.or_eq_true, decide_eq_true_eq, Bool.not_eq_true'] at hw
  obtain ⟨⟨⟨⟨⟨⟨⟨⟨h1, h2⟩, h3⟩, h4⟩, h5⟩, h6⟩, h12⟩, h7⟩, h8⟩ := hw
  have ho : o2 ≠ 12 := fun q => by rw [q] at h12; cases h12
  have hc : Cond.code y cc maxL ret ∈ W0 := by
    rcases ckIs _ (gNth_mem _ _ _ h) with q | q
    · exact absurd q ho
    · exact q
  refine ⟨hc, ckW_in h1, h2, h3, h4, h5, h6, fun q => ?_, fun q => ?_, fun q1 q2 => ?_, fun q => ?_, ho⟩
  · subst q
    exact ckW_in h7
  · subst q
    simp only [Bool.and_eq_true] at h7
    exact ⟨ckW_in h7.1, ckW_in h7.2⟩
  · split at h7
    · exact absurd rfl q1
    · exact absurd rfl q2
    · simp only [Bool.and_eq_true, decide_eq_true_eq] at h7
      exact ⟨ckW_in h7.1.1.1, h7.1.1.2, h7.1.2, Nat.eq_of_beq_eq_true h7.2⟩
  · rcases h8 with h8 | h8
    · exact absurd (Nat.eq_of_beq_eq_true h8) q
    · exact h8
theorem dec_ok {cc : ByteArray} {pc kd : Nat} {i : Instr} (h : ckD cc (pc, kd, i) = true) : ∃ n9, decode cc pc = .ok (i, n9) ∧ ((∃ d lo hi offs, i = .tableswitch d lo hi offs) ∨ (∃ d ps, i = .lookupswitch d ps) ∨ n9 = gLen i) := by
  unfold ckD at h
  dsimp only at h
  split at h
  · rename_i d lo hi offs
    split at h
    · rename_i j n hd
      have e := of_decide_eq_true h
      subst e
      exact ⟨n, hd, Or.inl ⟨d, lo, hi, offs, rfl⟩⟩
    · cases h
  · rename_i d ps
    split at h
    · rename_i j n hd
      have e := of_decide_eq_true h
      subst e
      exact ⟨n, hd, Or.inr (Or.inl ⟨d, ps, rfl⟩)⟩
    · cases h
  · split at h
    · rename_i j n hd
      rw [Bool.and_eq_true] at h
      have e := of_decide_eq_true h.1
      subst e
      exact ⟨n, hd, Or.inr (Or.inr (Nat.eq_of_beq_eq_true h.2))⟩
    · cases h
theorem dec_len {cc : ByteArray} {pc n9 : Nat} {i : Instr} (hd : decode cc pc = .ok (i, n9)) (h9 : (∃ d lo hi offs, i = .tableswitch d lo hi offs) ∨ (∃ d ps, i = .lookupswitch d ps) ∨ n9 = gLen i) (h1 : ∀ d lo hi offs, i ≠ .tableswitch d lo hi offs) (h2 : ∀ d ps, i ≠ .lookupswitch d ps) : decode cc pc = .ok (i, gLen i) := by
  rcases h9 with ⟨d, lo, hi, offs, h⟩ | ⟨d, ps, h⟩ | h
  · exact absurd h (h1 _ _ _ _)
  · exact absurd h (h2 _ _)
  · rw [← h]
    exact hd
theorem calk_inv {o ix kind id : Nat} {st rest : List Value} {M : Mem} {ls0 : Lo} (h : gCalk o ix kind st M = some (.inr (id, ls0, rest))) : ∃ nest wi o2 y cc maxL ret np kf tab as, gOwn mRes o ix = some (id, nest, wi) ∧ Nat.ble 1000 id = false ∧ gNth mRs id = some (o2, y, cc, maxL, ret, np, kf, tab) ∧ kf = kind ∧ ls0 = gPad maxL (gArgs as) ∧ (gArgs as).length ≤ maxL ∧ gRoom rest = true ∧ ((kind = 0 ∧ as.length = np ∧ st = as.reverse ++ rest) ∨ (0 < kind ∧ ∃ a as', as = .ref a :: as' ∧ as'.length = np ∧ st = as'.reverse ++ .ref a :: rest ∧ (∃ fs, gNth M a = some (.inr (o2, fs))) ∧ (kind = 1 → nest = 0))) := by
  unfold gCalk at h
  split at h
  · cases h
  · rename_i id9 nest wi hr
    split at h
    · split at h
      · rename_i q hq
        cases hg : (Nat.beq kind (cond (Nat.beq id9 1000) 2 (cond (Nat.ble 1006 id9) 1 0)) && gRoom q.1) with
        | false => rw [hg] at h; cases h
        | true => rw [hg] at h; cases h
      · cases h
    · rename_i hble
      split at h
      · cases h
      · rename_i o2 y cc maxL ret np kf tab hm
        split at h
        · cases hg : (Nat.beq kf 0 && Nat.ble np st.length && gRoom (st.drop np) && Nat.ble (gArgs (st.take np).reverse).length maxL) with
          | false => rw [hg] at h; cases h
          | true =>
            rw [hg] at h
            cases h
            simp only [Bool.and_eq_true] at hg
            obtain ⟨⟨⟨g1, g2⟩, g3⟩, g4⟩ := hg
            have g2' := Nat.le_of_ble_eq_true g2
            exact ⟨nest, wi, o2, y, cc, maxL, ret, np, kf, tab, _, hr, hble, hm, Nat.eq_of_beq_eq_true g1, rfl, Nat.le_of_ble_eq_true g4, g3, Or.inl ⟨rfl, by rw [List.length_reverse, List.length_take]; omega, by rw [List.reverse_reverse, List.take_append_drop]⟩⟩
        · rename_i k9
          split at h
          · rename_i v r hdr
            cases hg : (Nat.beq kf (k9 + 1) && (Nat.beq nest 0 || Nat.beq k9 1) && Nat.ble np st.length && gRecv M v o2 && gRoom r && Nat.ble (gArgs (v :: (st.take np).reverse)).length maxL) with
            | false => rw [hg] at h; cases h
            | true =>
              rw [hg] at h
              cases h
              simp only [Bool.and_eq_true, Bool.or_eq_true] at hg
              obtain ⟨⟨⟨⟨⟨g1, g0⟩, g2⟩, g3⟩, g4⟩, g5⟩ := hg
              have g2' := Nat.le_of_ble_eq_true g2
              have hv : ∃ a fs, v = .ref a ∧ gNth M a = some (.inr (o2, fs)) := by
                unfold gRecv at g3
                split at g3
                · rename_i a
                  split at g3
                  · rename_i c9 fs hm9
                    obtain rfl := Nat.eq_of_beq_eq_true g3
                    exact ⟨a, fs, rfl, hm9⟩
                  · cases g3
                · cases g3
              obtain ⟨a, fs, rfl, hm9⟩ := hv
              refine ⟨nest, wi, o2, y, cc, maxL, ret, np, kf, tab, _, hr, hble, hm, Nat.eq_of_beq_eq_true g1, rfl, Nat.le_of_ble_eq_true g5, g4, Or.inr ⟨Nat.succ_pos _, a, _, rfl, by rw [List.length_reverse, List.length_take]; omega, ?_, ⟨fs, hm9⟩, fun q => ?_⟩⟩
              · rw [List.reverse_reverse, ← hdr, List.take_append_drop]
              · rcases g0 with g0 | g0
                · exact Nat.eq_of_beq_eq_true g0
                · have := Nat.eq_of_beq_eq_true g0
                  omega
          · cases h
theorem cls_own {o2 : Nat} {q : vw_C} (h : gNth gCL o2 = some q) (h12 : o2 ≠ 12) : gNth ownR o2 = some q.1 := by
  match o2, h, h12 with
  | 0, h, _ => cases h; rfl
  | 1, h, _ => cases h; rfl
  | 2, h, _ => cases h; rfl
  | 3, h, _ => cases h; rfl
  | 4, h, _ => cases h; rfl
  | 5, h, _ => cases h; rfl
  | 6, h, _ => cases h; rfl
  | 7, h, _ => cases h; rfl
  | 8, h, _ => cases h; rfl
  | 9, h, _ => cases h; rfl
  | 10, h, _ => cases h; rfl
  | 11, h, _ => cases h; rfl
  | 12, _, h12 => exact absurd rfl h12
  | n + 13, h, _ => cases h
section SNE
variable {p : Program} {l : Launch} {e : Env} {R : Room} {s : State} {m : MethodId} {args : Array Value} {below : List Frame} {meth : Method} {c : Code} {H : Heap} {locs : List Loc} {cells slots : Nat} {Q : State → Prop} {cc : ByteArray} {pc nL : Nat} {ls : Array Slot} {B : Nat} {sa : Nat → Nat} {cy : Nat → ClassId} {dC : Nat → ClassId} {dI : Nat → Nat → Nat} {SA : Sta}
theorem pre_v {M : Mem} {as : List Value} {a o2 : Nat} {fs : List Value} {C : String} (ha : gNth M a = some (.inr (o2, fs))) (ho : o2 ≠ 12) (hC : gNth ownR o2 = some C) (hI : Inv B sa cy dC dI SA s) (hP : va_P (dC, dI) gCL (wd B sa cy M) H) (hS : va_S (fun q => B ≤ q) s.heap H locs) (hH : H.size = B + M.length) : PreV s H C (B + a) (Pcw B sa cy dC dI SA (.ref a :: as) M) (as.map (rV B sa)) := by
  obtain ⟨h1, h2⟩ := pre_s (as := .ref a :: as) hI hP hS hH
  obtain ⟨q, hq⟩ := va_P.lt_cls hP (wd_get ha)
  have hq2 : gNth gCL o2 = some q := by rw [nth_eq]; exact hq
  have hn := cls_own hq2 ho
  rw [hC] at hn
  obtain rfl := Option.some.inj hn
  exact ⟨h1, va_recv hI.1 hP hq (wd_get ha), h2⟩
set_option maxHeartbeats 4000000 in
theorem call_ok (hx : p.tables.exec = Jvm.exec) (hb : c.code = cc) (hml : c.maxLocals = nL) {vs : Lo} (hL : LV B sa nL vs ls) {o : Nat} {own : String} (hoo : gNth ownR o = some own) (hown : s.vm.findClass own = some m.cls) (hts : ∀ w ∈ W0, w.before args s = true) (hI : Inv B sa cy dC dI SA s) {M M1 : Mem} {st rest : List Value} {ix kind id d' c1 s1 : Nat} {ls0 : Lo} {v : Option Value} (hP : va_P (dC, dI) gCL (wd B sa cy M) H) (hS : va_S (fun q => B ≤ q) s.heap H locs) (hsz : s.heap.size + cells = B + M.length) (hf1 : d' + 1 ≤ R.frames) (hl1 : 40 * (d' + 1) ≤ R.locals) (hcs : cells + c1 ≤ R.cells ∧ slots + s1 ≤ R.slots) (h : gCalk o ix kind st M = some (.inr (id, ls0, rest))) (hk2 : kind ≤ 2)
    (hd0 : kind = 0 → decode cc pc = .ok (.invokestatic ix, 3)) (hd1 : kind = 1 → decode cc pc = .ok (.invokevirtual ix, 3)) (hd2 : kind = 2 → decode cc pc = .ok (.invokespecial ix, 3))
    (hM : ∀ (o2 : Nat) (y : MethodName) (cc2 : ByteArray) (maxL : Nat) (ret : Option FieldType) (np kf : Nat) (tab : List (Nat × Nat × Instr)) (as : List Value), gNth mRs id = some (o2, y, cc2, maxL, ret, np, kf, tab) → id ≠ idLaw → ls0 = gPad maxL (gArgs as) → (gArgs as).length ≤ maxL → Met l y (.code y cc2 maxL ret :: W0) ({ frames := d', cells := c1, slots := s1, locals := 40 * d' }) (Pcw B sa cy dC dI SA as M) (Qcw B sa cy dC dI v M1) c1 s1 (fun q => B ≤ q))
    (k : ∀ (H1 : Heap) (locs1 : List Loc), va_P (dC, dI) gCL (wd B sa cy M1) H1 → va_S (fun q => B ≤ q) s.heap H1 locs1 → W p l e R s m args below meth c H1 locs1 (cells + c1) (slots + s1) Q (F0 m (pc + 3) ls ((v.toList ++ rest).map (rV B sa)))) : W p l e R s m args below meth c H locs cells slots Q (F0 m pc ls (st.map (rV B sa))) := by
  obtain ⟨nest, wi, o2, y, cc2, maxL, ret, np, kf, tab, as, hr, hble, hm, hkf, hls0, hlen, hroom, hcase⟩ := calk_inv h
  subst hkf
  have hc := own_in ckCs rfl hr
  have hls : ls.size = nL := by obtain ⟨-, l9, h9, -⟩ := hL; exact h9.1
  have hrm := room_of (B := B) (sa := sa) hroom
  refine W.sz (fun hz => ?_)
  have hH := world_size hI hP hS hsz hz
  have hlk : (nest = 0 ∧ Cond.methodLink own ix y ∈ W0 ∧ id ≠ idLaw) ∨ (nest = 1 ∧ va_Nw (.methodLinkNest own ix y "GrassPark") s ∧ id ≠ idLaw) := by
    have hlt : ∀ n, Nat.ble 1000 n = true → id ≠ n := fun n hn q => by rw [q, hn] at hble; cases hble
    simp only [ckC, hoo] at hc
    split at hc
    · exact absurd rfl (hlt 1000 rfl)
    · exact absurd rfl (hlt 1001 rfl)
    · exact absurd rfl (hlt 1002 rfl)
    · exact absurd rfl (hlt 1003 rfl)
    · exact absurd rfl (hlt 1004 rfl)
    · exact absurd rfl (hlt 1005 rfl)
    · exact absurd rfl (hlt 1006 rfl)
    · exact absurd rfl (hlt 1007 rfl)
    · split at hc
      · rename_i q hq
        rw [hm] at hq
        cases hq
        simp only [Bool.and_eq_true, Bool.not_eq_true'] at hc
        exact Or.inl ⟨rfl, ckW_in hc.1, fun q => by rw [q] at hc; cases hc.2⟩
      · rename_i q hq
        rw [hm] at hq
        cases hq
        simp only [Bool.and_eq_true, Bool.not_eq_true'] at hc
        exact Or.inr ⟨rfl, hI.2.1 _ (of_decide_eq_true hc.1), fun q => by rw [q] at hc; cases hc.2⟩
      · cases hc
  have hid : id ≠ idLaw := by rcases hlk with q | q <;> exact q.2.2
  obtain ⟨r1, r2, r3, r4, r5, -, r7, rS, rV1, rI, -, r12⟩ := row_ok hm hid
  have hMet := hM o2 y cc2 maxL ret np kf tab as hm hid hls0 hlen
  have hR : d' + 1 ≤ R.frames ∧ 8 + (maxL + 11) + 40 * d' ≤ R.locals := ⟨hf1, by omega⟩
  have hd3 : y.cls ≠ "java/lang/invoke/MethodHandle" ∧ y.cls ≠ "java/lang/invoke/VarHandle" ∧ (parseMethodDescriptor y.desc).map (fun d => d.parameters.length) = some np := ⟨r4.1, r4.2, r5⟩
  rcases hcase with ⟨hk, hn, hst⟩ | ⟨hk, a, as', has, hn, hst, ⟨fs, hfs⟩, hne⟩
  · have hstk : st.map (rV B sa) = (as.map (rV B sa)).reverse ++ rest.map (rV B sa) := by rw [hst, List.map_append, List.map_reverse]
    have hnl : (as.map (rV B sa)).length = np := by rw [List.length_map]; exact hn
    rcases hlk with ⟨h0, hw, -⟩ | ⟨h0, hw, -⟩
    · exact back_ok (va_runS (As := as.map (rV B sa)) (rest := rest.map (rV B sa)) ⟨hx, hb, hml, hown, hts⟩ hMet ⟨callB_of np hts (goodW0 r1) rfl rfl rfl (hts _ r2) (hts _ hw) hd3 hR, hts _ (rS hk)⟩ (pre_s hI hP hS hH) rfl hnl hls hstk (lv_room hrm) (hd0 hk) hcs) hS k
    · exact back_ok (va_runSN (As := as.map (rV B sa)) (rest := rest.map (rV B sa)) ⟨hx, hb, hml, hown, hts⟩ hMet ⟨va_cnB np hts (goodW0 r1) rfl rfl rfl hw (hts _ r2) hd3 hR, hts _ (rS hk), trivial⟩ (pre_s hI hP hS hH) rfl hnl hls hstk (lv_room hrm) (hd0 hk) hcs) hS k
  · subst has
    have hstk : st.map (rV B sa) = (as'.map (rV B sa)).reverse ++ .ref (B + a) :: rest.map (rV B sa) := by
      rw [hst, List.map_append, List.map_reverse]
      rfl
    have hnl : (as'.map (rV B sa)).length = np := by rw [List.length_map]; exact hn
    rcases (show kf = 1 ∨ kf = 2 by omega) with hkf | hkf
    · obtain ⟨w1, w2⟩ := rV1 hkf
      have h0 := hne hkf
      rcases hlk with ⟨-, hw, -⟩ | ⟨h1, -, -⟩
      · exact back_ok (va_runV (C := y.cls) (b := B + a) (As := as'.map (rV B sa)) (rest := rest.map (rV B sa)) ⟨hx, hb, hml, hown, hts⟩ hMet ⟨callB_of np hts (goodW0 r1) rfl rfl rfl (hts _ r2) (hts _ hw) hd3 hR, hts _ w1, hts _ w2⟩ (pre_v hfs r12 r3 hI hP hS hH) rfl hnl hls hstk (lv_room hrm) (hd1 hkf) hcs) hS k
      · omega
    · obtain ⟨w1, w2, w3, -⟩ := rI (by omega) (by omega)
      subst w3
      rcases hlk with ⟨h0, hw, -⟩ | ⟨h0, hw, -⟩
      · exact back_ok (va_runI (b := B + a) (As := as'.map (rV B sa)) (rest := rest.map (rV B sa)) ⟨hx, hb, hml, hown, hts⟩ hMet ⟨callB_of np hts (goodW0 r1) rfl rfl rfl (hts _ r2) (hts _ hw) hd3 hR, w2, hts _ w1⟩ (pre_s (as := .ref a :: as') hI hP hS hH) rfl hnl hls hstk (lv_room hrm) (hd2 hkf) hcs) hS k
      · exact back_ok (va_runIN (b := B + a) (As := as'.map (rV B sa)) (rest := rest.map (rV B sa)) ⟨hx, hb, hml, hown, hts⟩ hMet ⟨va_cnB np hts (goodW0 r1) rfl rfl rfl hw (hts _ r2) hd3 hR, w2, hts _ w1⟩ (pre_s (as := .ref a :: as') hI hP hS hH) rfl hnl hls hstk (lv_room hrm) (hd2 hkf) hcs) hS k
end SNE
