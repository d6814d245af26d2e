section
/-! SOUNDNESS: calls, and the whole: what `go` answers, the machine answers -/
theorem row_ok {id o2 maxL np kf : Nat} {y : MethodName} {cc : ByteArray} {ret : Option FieldType} {tab : List (Nat × Nat × Instr)} (h : gNth mRs id = some (o2, y, cc, maxL, ret, np, kf, tab)) (hl : id ≠ idLaw) : Cond.code y cc maxL ret ∈ W0 ∧ Cond.initialized y.cls ∈ W0 ∧ gNth ownR o2 = some y.cls ∧ (y.cls ≠ "java/lang/invoke/MethodHandle" ∧ y.cls ≠ "java/lang/invoke/VarHandle") ∧ (parseMethodDescriptor y.desc).map (fun d => d.parameters.length) = some np ∧ plainName y.cls = true ∧ maxL ≤ 20 ∧ (kf = 0 → Cond.static y ∈ W0) ∧ (kf = 1 → Cond.instanceMethod y ∈ W0 ∧ Cond.selects y.cls y y ∈ W0) ∧ (kf ≠ 0 → kf ≠ 1 → Cond.instanceMethod y ∈ W0 ∧ y.name = "<init>" ∧ ret = none ∧ kf = 2) ∧ (kf ≠ 2 → y.name ≠ "<init>") ∧ o2 ≠ 12 := by
  obtain ⟨w, hw⟩ := ckMs h hl
  simp only [ckM, Bool.and_eq_true, Bool.or_eq_true, decide_eq_true_eq, Bool.not_eq_true'] at hw
  obtain ⟨⟨⟨⟨⟨⟨⟨⟨h1, h2⟩, h3⟩, h4⟩, h5⟩, h6⟩, h12⟩, h7⟩, h8⟩ := hw
  have ho : o2 ≠ 12 := fun q => by rw [q] at h12; cases h12
  have hc : Cond.code y cc maxL ret ∈ W0 := by
    rcases ckIs _ (gNth_mem _ _ _ h) with q | q
    · exact absurd q ho
    · exact q
  refine ⟨hc, ckW_in h1, h2, h3, h4, h5, h6, fun q => ?_, fun q => ?_, fun q1 q2 => ?_, fun q => ?_, ho⟩
  · subst q
    exact ckW_in h7
  · subst q
    simp only [Bool.and_eq_true] at h7
    exact ⟨ckW_in h7.1, ckW_in h7.2⟩
  · split at h7
    · exact absurd rfl q1
    · exact absurd rfl q2
    · simp only [Bool.and_eq_true, decide_eq_true_eq] at h7
      exact ⟨ckW_in h7.1.1.1, h7.1.1.2, h7.1.2, Nat.eq_of_beq_eq_true h7.2⟩
  · rcases h8 with h8 | h8
    · exact absurd (Nat.eq_of_beq_eq_true h8) q
    · exact h8
theorem dec_ok {cc : ByteArray} {pc kd : Nat} {i : Instr} (h : ckD cc (pc, kd, i) = true) : ∃ n9, decode cc pc = .ok (i, n9) ∧ ((∃ d lo hi offs, i = .tableswitch d lo hi offs) ∨ (∃ d ps, i = .lookupswitch d ps) ∨ n9 = gLen i) := by
  unfold ckD at h
  dsimp only at h
  split at h
  · rename_i d lo hi offs
    split at h
    · rename_i j n hd
      have e := of_decide_eq_true h
      subst e
      exact ⟨n, hd, Or.inl ⟨d, lo, hi, offs, rfl⟩⟩
    · cases h
  · rename_i d ps
    split at h
    · rename_i j n hd
      have e := of_decide_eq_true h
      subst e
      exact ⟨n, hd, Or.inr (Or.inl ⟨d, ps, rfl⟩)⟩
    · cases h
  · split at h
    · rename_i j n hd
      rw [Bool.and_eq_true] at h
      have e := of_decide_eq_true h.1
      subst e
      exact ⟨n, hd, Or.inr (Or.inr (Nat.eq_of_beq_eq_true h.2))⟩
    · cases h
theorem dec_len {cc : ByteArray} {pc n9 : Nat} {i : Instr} (hd : decode cc pc = .ok (i, n9)) (h9 : (∃ d lo hi offs, i = .tableswitch d lo hi offs) ∨ (∃ d ps, i = .lookupswitch d ps) ∨ n9 = gLen i) (h1 : ∀ d lo hi offs, i ≠ .tableswitch d lo hi offs) (h2 : ∀ d ps, i ≠ .lookupswitch d ps) : decode cc pc = .ok (i, gLen i) := by
  rcases h9 with ⟨d, lo, hi, offs, h⟩ | ⟨d, ps, h⟩ | h
  · exact absurd h (h1 _ _ _ _)
  · exact absurd h (h2 _ _)
  · rw [← h]
    exact hd
theorem calk_inv {o ix kind id : Nat} {st rest : List Value} {M : Mem} {ls0 : Lo} (h : gCalk o ix kind st M = some (.inr (id, ls0, rest))) : ∃ nest wi o2 y cc maxL ret np kf tab as, gOwn mRes o ix = some (id, nest, wi) ∧ Nat.ble 1000 id = false ∧ gNth mRs id = some (o2, y, cc, maxL, ret, np, kf, tab) ∧ kf = kind ∧ ls0 = gPad maxL (gArgs as) ∧ (gArgs as).length ≤ maxL ∧ gRoom rest = true ∧ ((kind = 0 ∧ as.length = np ∧ st = as.reverse ++ rest) ∨ (0 < kind ∧ ∃ a as', as = .ref a :: as' ∧ as'.length = np ∧ st = as'.reverse ++ .ref a :: rest ∧ (∃ fs, gNth M a = some (.inr (o2, fs))) ∧ (kind = 1 → nest = 0))) := by
  unfold gCalk at h
  split at h
  · cases h
  · rename_i id9 nest wi hr
    split at h
    · split at h
      · rename_i q hq
        cases hg : (Nat.beq kind (cond (Nat.beq id9 1000) 2 (cond (Nat.ble 1006 id9) 1 0)) && gRoom q.1) with
        | false => rw [hg] at h; cases h
        | true => rw [hg] at h; cases h
      · cases h
    · rename_i hble
      split at h
      · cases h
      · rename_i o2 y cc maxL ret np kf tab hm
        split at h
        · cases hg : (Nat.beq kf 0 && Nat.ble np st.length && gRoom (st.drop np) && Nat.ble (gArgs (st.take np).reverse).length maxL) with
          | false => rw [hg] at h; cases h
          | true =>
            rw [hg] at h
            cases h
            simp only [Bool.and_eq_true] at hg
            obtain ⟨⟨⟨g1, g2⟩, g3⟩, g4⟩ := hg
            have g2' := Nat.le_of_ble_eq_true g2
            exact ⟨nest, wi, o2, y, cc, maxL, ret, np, kf, tab, _, hr, hble, hm, Nat.eq_of_beq_eq_true g1, rfl, Nat.le_of_ble_eq_true g4, g3, Or.inl ⟨rfl, by rw [List.length_reverse, List.length_take]; omega, by rw [List.reverse_reverse, List.take_append_drop]⟩⟩
        · rename_i k9
          split at h
          · rename_i v r hdr
            cases hg : (Nat.beq kf (k9 + 1) && (Nat.beq nest 0 || Nat.beq k9 1) && Nat.ble np st.length && gRecv M v o2 && gRoom r && Nat.ble (gArgs (v :: (st.take np).reverse)).length maxL) with
            | false => rw [hg] at h; cases h
            | true =>
              rw [hg] at h
              cases h
              simp only [Bool.and_eq_true, Bool.or_eq_true] at hg
              obtain ⟨⟨⟨⟨⟨g1, g0⟩, g2⟩, g3⟩, g4⟩, g5⟩ := hg
              have g2' := Nat.le_of_ble_eq_true g2
              have hv : ∃ a fs, v = .ref a ∧ gNth M a = some (.inr (o2, fs)) := by
                unfold gRecv at g3
                split at g3
                · rename_i a
                  split at g3
                  · rename_i c9 fs hm9
                    obtain rfl := Nat.eq_of_beq_eq_true g3
                    exact ⟨a, fs, rfl, hm9⟩
                  · cases g3
                · cases g3
              obtain ⟨a, fs, rfl, hm9⟩ := hv
              refine ⟨nest, wi, o2, y, cc, maxL, ret, np, kf, tab, _, hr, hble, hm, Nat.eq_of_beq_eq_true g1, rfl, Nat.le_of_ble_eq_true g5, g4, Or.inr ⟨Nat.succ_pos _, a, _, rfl, by rw [List.length_reverse, List.length_take]; omega, ?_, ⟨fs, hm9⟩, fun q => ?_⟩⟩
              · rw [List.reverse_reverse, ← hdr, List.take_append_drop]
              · rcases g0 with g0 | g0
                · exact Nat.eq_of_beq_eq_true g0
                · have := Nat.eq_of_beq_eq_true g0
                  omega
          · cases h
theorem cls_own {o2 : Nat} {q : vw_C} (h : gNth gCL o2 = some q) (h12 : o2 ≠ 12) : gNth ownR o2 = some q.1 := by
  match o2, h, h12 with
  | 0, h, _ => cases h; rfl
  | 1, h, _ => cases h; rfl
  | 2, h, _ => cases h; rfl
  | 3, h, _ => cases h; rfl
  | 4, h, _ => cases h; rfl
  | 5, h, _ => cases h; rfl
  | 6, h, _ => cases h; rfl
  | 7, h, _ => cases h; rfl
  | 8, h, _ => cases h; rfl
  | 9, h, _ => cases h; rfl
  | 10, h, _ => cases h; rfl
  | 11, h, _ => cases h; rfl
  | 12, _, h12 => exact absurd rfl h12
  | n + 13, h, _ => cases h
section SNE
variable {p : Program} {l : Launch} {e : Env} {R : Room} {s : State} {m : MethodId} {args : Array Value} {below : List Frame} {meth : Method} {c : Code} {H : Heap} {locs : List Loc} {cells slots : Nat} {Q : State → Prop} {cc : ByteArray} {pc nL : Nat} {ls : Array Slot} {B : Nat} {sa : Nat → Nat} {cy : Nat → ClassId} {dC : Nat → ClassId} {dI : Nat → Nat → Nat} {SA : Sta}
theorem pre_v {M : Mem} {as : List Value} {a o2 : Nat} {fs : List Value} {C : String} (ha : gNth M a = some (.inr (o2, fs))) (ho : o2 ≠ 12) (hC : gNth ownR o2 = some C) (hI : Inv B sa cy dC dI SA s) (hP : va_P (dC, dI) gCL (wd B sa cy M) H) (hS : va_S (fun q => B ≤ q) s.heap H locs) (hH : H.size = B + M.length) : PreV s H C (B + a) (Pcw B sa cy dC dI SA (.ref a :: as) M) (as.map (rV B sa)) := by
  obtain ⟨h1, h2⟩ := pre_s (as := .ref a :: as) hI hP hS hH
  obtain ⟨q, hq⟩ := va_P.lt_cls hP (wd_get ha)
  have hq2 : gNth gCL o2 = some q := by rw [nth_eq]; exact hq
  have hn := cls_own hq2 ho
  rw [hC] at hn
  obtain rfl := Option.some.inj hn
  exact ⟨h1, va_recv hI.1 hP hq (wd_get ha), h2⟩
set_option maxHeartbeats 4000000 in
theorem call_ok (hx : p.tables.exec = Jvm.exec) (hb : c.code = cc) (hml : c.maxLocals = nL) {vs : Lo} (hL : LV B sa nL vs ls) {o : Nat} {own : String} (hoo : gNth ownR o = some own) (hown : s.vm.findClass own = some m.cls) (hts : ∀ w ∈ W0, w.before args s = true) (hI : Inv B sa cy dC dI SA s) {M M1 : Mem} {st rest : List Value} {ix kind id d' c1 s1 : Nat} {ls0 : Lo} {v : Option Value} (hP : va_P (dC, dI) gCL (wd B sa cy M) H) (hS : va_S (fun q => B ≤ q) s.heap H locs) (hsz : s.heap.size + cells = B + M.length) (hf1 : d' + 1 ≤ R.frames) (hl1 : 40 * (d' + 1) ≤ R.locals) (hcs : cells + c1 ≤ R.cells ∧ slots + s1 ≤ R.slots) (h : gCalk o ix kind st M = some (.inr (id, ls0, rest))) (hk2 : kind ≤ 2)
    (hd0 : kind = 0 → decode cc pc = .ok (.invokestatic ix, 3)) (hd1 : kind = 1 → decode cc pc = .ok (.invokevirtual ix, 3)) (hd2 : kind = 2 → decode cc pc = .ok (.invokespecial ix, 3))
    (hM : ∀ (o2 : Nat) (y : MethodName) (cc2 : ByteArray) (maxL : Nat) (ret : Option FieldType) (np kf : Nat) (tab : List (Nat × Nat × Instr)) (as : List Value), gNth mRs id = some (o2, y, cc2, maxL, ret, np, kf, tab) → id ≠ idLaw → ls0 = gPad maxL (gArgs as) → (gArgs as).length ≤ maxL → Met l y (.code y cc2 maxL ret :: W0) ({ frames := d', cells := c1, slots := s1, locals := 40 * d' }) (Pcw B sa cy dC dI SA as M) (Qcw B sa cy dC dI v M1) c1 s1 (fun q => B ≤ q))
    (k : ∀ (H1 : Heap) (locs1 : List Loc), va_P (dC, dI) gCL (wd B sa cy M1) H1 → va_S (fun q => B ≤ q) s.heap H1 locs1 → W p l e R s m args below meth c H1 locs1 (cells + c1) (slots + s1) Q (F0 m (pc + 3) ls ((v.toList ++ rest).map (rV B sa)))) : W p l e R s m args below meth c H locs cells slots Q (F0 m pc ls (st.map (rV B sa))) := by
  obtain ⟨nest, wi, o2, y, cc2, maxL, ret, np, kf, tab, as, hr, hble, hm, hkf, hls0, hlen, hroom, hcase⟩ := calk_inv h
  subst hkf
  have hc := own_in ckCs rfl hr
  have hls : ls.size = nL := by obtain ⟨-, l9, h9, -⟩ := hL; exact h9.1
  have hrm := room_of (B := B) (sa := sa) hroom
  refine W.sz (fun hz => ?_)
  have hH := world_size hI hP hS hsz hz
  have hlk : (nest = 0 ∧ Cond.methodLink own ix y ∈ W0 ∧ id ≠ idLaw) ∨ (nest = 1 ∧ va_Nw (.methodLinkNest own ix y "GrassPark") s ∧ id ≠ idLaw) := by
    have hlt : ∀ n, Nat.ble 1000 n = true → id ≠ n := fun n hn q => by rw [q, hn] at hble; cases hble
    simp only [ckC, hoo] at hc
    split at hc
    · exact absurd rfl (hlt 1000 rfl)
    · exact absurd rfl (hlt 1001 rfl)
    · exact absurd rfl (hlt 1002 rfl)
    · exact absurd rfl (hlt 1003 rfl)
    · exact absurd rfl (hlt 1004 rfl)
    · exact absurd rfl (hlt 1005 rfl)
    · exact absurd rfl (hlt 1006 rfl)
    · exact absurd rfl (hlt 1007 rfl)
    · split at hc
      · rename_i q hq
        rw [hm] at hq
        cases hq
        simp only [Bool.and_eq_true, Bool.not_eq_true'] at hc
        exact Or.inl ⟨rfl, ckW_in hc.1, fun q => by rw [q] at hc; cases hc.2⟩
      · rename_i q hq
        rw [hm] at hq
        cases hq
        simp only [Bool.and_eq_true, Bool.not_eq_true'] at hc
        exact Or.inr ⟨rfl, hI.2.1 _ (of_decide_eq_true hc.1), fun q => by rw [q] at hc; cases hc.2⟩
      · cases hc
  have hid : id ≠ idLaw := by rcases hlk with q | q <;> exact q.2.2
  obtain ⟨r1, r2, r3, r4, r5, -, r7, rS, rV1, rI, -, r12⟩ := row_ok hm hid
  have hMet := hM o2 y cc2 maxL ret np kf tab as hm hid hls0 hlen
  have hR : d' + 1 ≤ R.frames ∧ 8 + (maxL + 11) + 40 * d' ≤ R.locals := ⟨hf1, by omega⟩
  have hd3 : y.cls ≠ "java/lang/invoke/MethodHandle" ∧ y.cls ≠ "java/lang/invoke/VarHandle" ∧ (parseMethodDescriptor y.desc).map (fun d => d.parameters.length) = some np := ⟨r4.1, r4.2, r5⟩
  rcases hcase with ⟨hk, hn, hst⟩ | ⟨hk, a, as', has, hn, hst, ⟨fs, hfs⟩, hne⟩
  · have hstk : st.map (rV B sa) = (as.map (rV B sa)).reverse ++ rest.map (rV B sa) := by rw [hst, List.map_append, List.map_reverse]
    have hnl : (as.map (rV B sa)).length = np := by rw [List.length_map]; exact hn
    rcases hlk with ⟨h0, hw, -⟩ | ⟨h0, hw, -⟩
    · exact back_ok (va_runS (As := as.map (rV B sa)) (rest := rest.map (rV B sa)) ⟨hx, hb, hml, hown, hts⟩ hMet ⟨callB_of np hts (goodW0 r1) rfl rfl rfl (hts _ r2) (hts _ hw) hd3 hR, hts _ (rS hk)⟩ (pre_s hI hP hS hH) rfl hnl hls hstk (lv_room hrm) (hd0 hk) hcs) hS k
    · exact back_ok (va_runSN (As := as.map (rV B sa)) (rest := rest.map (rV B sa)) ⟨hx, hb, hml, hown, hts⟩ hMet ⟨va_cnB np hts (goodW0 r1) rfl rfl rfl hw (hts _ r2) hd3 hR, hts _ (rS hk), trivial⟩ (pre_s hI hP hS hH) rfl hnl hls hstk (lv_room hrm) (hd0 hk) hcs) hS k
  · subst has
    have hstk : st.map (rV B sa) = (as'.map (rV B sa)).reverse ++ .ref (B + a) :: rest.map (rV B sa) := by
      rw [hst, List.map_append, List.map_reverse]
      rfl
    have hnl : (as'.map (rV B sa)).length = np := by rw [List.length_map]; exact hn
    rcases (show kf = 1 ∨ kf = 2 by omega) with hkf | hkf
    · obtain ⟨w1, w2⟩ := rV1 hkf
      have h0 := hne hkf
      rcases hlk with ⟨-, hw, -⟩ | ⟨h1, -, -⟩
      · exact back_ok (va_runV (C := y.cls) (b := B + a) (As := as'.map (rV B sa)) (rest := rest.map (rV B sa)) ⟨hx, hb, hml, hown, hts⟩ hMet ⟨callB_of np hts (goodW0 r1) rfl rfl rfl (hts _ r2) (hts _ hw) hd3 hR, hts _ w1, hts _ w2⟩ (pre_v hfs r12 r3 hI hP hS hH) rfl hnl hls hstk (lv_room hrm) (hd1 hkf) hcs) hS k
      · omega
    · obtain ⟨w1, w2, w3, -⟩ := rI (by omega) (by omega)
      subst w3
      rcases hlk with ⟨h0, hw, -⟩ | ⟨h0, hw, -⟩
      · exact back_ok (va_runI (b := B + a) (As := as'.map (rV B sa)) (rest := rest.map (rV B sa)) ⟨hx, hb, hml, hown, hts⟩ hMet ⟨callB_of np hts (goodW0 r1) rfl rfl rfl (hts _ r2) (hts _ hw) hd3 hR, w2, hts _ w1⟩ (pre_s (as := .ref a :: as') hI hP hS hH) rfl hnl hls hstk (lv_room hrm) (hd2 hkf) hcs) hS k
      · exact back_ok (va_runIN (b := B + a) (As := as'.map (rV B sa)) (rest := rest.map (rV B sa)) ⟨hx, hb, hml, hown, hts⟩ hMet ⟨va_cnB np hts (goodW0 r1) rfl rfl rfl hw (hts _ r2) hd3 hR, w2, hts _ w1⟩ (pre_s (as := .ref a :: as') hI hP hS hH) rfl hnl hls hstk (lv_room hrm) (hd2 hkf) hcs) hS k
end SNE
end
section
/-! SOUNDNESS: what `go` answers, the machine answers -/
theorem cond_inv {α : Type} {b : Bool} {x : Option α} {y : α} (h : cond b x none = some y) : b = true ∧ x = some y := by
  cases b with
  | false => cases h
  | true => exact ⟨rfl, h⟩
theorem get_len {SA : Sta} {o : Nat} {ini : Bool} {i : Instr} {st st' : List Value} {M M' : Mem} (h : gGet i SA o ini st M = some (st', M')) : M'.length = M.length := by
  cases i
  all_goals first | (simp only [gGet] at h; cases h; done) | skip
  all_goals
    simp only [gGet] at h
    repeat' split at h
    all_goals first | (cases h; done) | (cases h; rfl) | (cases h; exact put_len _ _ _) | skip
    all_goals (obtain ⟨-, h⟩ := cond_inv h; cases h; first | rfl | exact put_len _ _ _)
theorem nat_len {id : Nat} {st st' : List Value} {M M' : Mem} (h : gNat id st M = some (st', M')) : M'.length = M.length := by
  unfold gNat at h
  split at h
  all_goals dsimp only at h
  all_goals repeat' split at h
  all_goals first | (cases h; done) | (cases h; rfl) | (cases h; exact put_len _ _ _) | skip
  all_goals (obtain ⟨-, h⟩ := cond_inv h; first | (cases h; done) | (cases h; rfl) | (cases h; exact put_len _ _ _))
theorem new_len {o : Nat} {i : Instr} {st st' : List Value} {M M' : Mem} {c s : Nat} (h : gNew i o st M = some (st', M', c, s)) : M'.length = M.length + c := by
  cases i
  all_goals first | (simp only [gNew] at h; cases h; done) | skip
  all_goals
    simp only [gNew] at h
    repeat' split at h
    all_goals first | (cases h; done) | (cases h; rw [List.length_append]; rfl) | skip
    all_goals (obtain ⟨-, h⟩ := cond_inv h; cases h; rw [List.length_append]; first | rfl | (rw [List.length_cons, rep_len]; omega))
theorem add_inv {c s c0 s0 : Nat} {r : Rs} {v : Option Value} {M : Mem} (h : gAdd c s r = some (v, M, c0, s0)) : ∃ c1 s1, r = some (v, M, c1, s1) ∧ c0 = c + c1 ∧ s0 = s + s1 := by
  unfold gAdd at h
  split at h
  · cases h
    exact ⟨_, _, rfl, rfl, rfl⟩
  · cases h
theorem then_inv {r : Rs} {k : Option Value → Mem → Nat → Nat → Rs} {x : Option Value × Mem × Nat × Nat} (h : gThen r k = some x) : ∃ v M c s, r = some (v, M, c, s) ∧ k v M c s = some x := by
  unfold gThen at h
  split at h
  · exact ⟨_, _, _, _, rfl, h⟩
  · cases h
theorem calk_len {o ix kind : Nat} {st : List Value} {M : Mem} {q : List Value × Mem} (h : gCalk o ix kind st M = some (.inl q)) : ∃ id nest wi, gOwn mRes o ix = some (id, nest, wi) ∧ Nat.ble 1000 id = true ∧ gNat id st M = some q ∧ kind = cond (Nat.beq id 1000) 2 (cond (Nat.ble 1006 id) 1 0) ∧ gRoom q.1 = true := by
  unfold gCalk at h
  split at h
  · cases h
  · rename_i id nest wi hr
    split at h
    · rename_i hble
      split at h
      · rename_i q9 hq
        cases hg : (Nat.beq kind (cond (Nat.beq id 1000) 2 (cond (Nat.ble 1006 id) 1 0)) && gRoom q9.1) with
        | false => rw [hg] at h; cases h
        | true =>
          rw [hg] at h
          cases h
          rw [Bool.and_eq_true] at hg
          exact ⟨id, nest, wi, hr, hble, hq, Nat.eq_of_beq_eq_true hg.1, hg.2⟩
      · cases h
    · split at h
      · cases h
      · split at h
        · obtain ⟨-, h⟩ := cond_inv h
          cases h
        · split at h
          · obtain ⟨-, h⟩ := cond_inv h
            cases h
          · cases h
theorem cal_kind {i : Instr} {o : Nat} {st : List Value} {M : Mem} {x : (List Value × Mem) ⊕ (Nat × Lo × List Value)} (h : gCal i o st M = some x) : ∃ ix kind, kind ≤ 2 ∧ gCalk o ix kind st M = some x ∧ (kind = 0 → i = .invokestatic ix) ∧ (kind = 1 → i = .invokevirtual ix) ∧ (kind = 2 → i = .invokespecial ix) := by
  cases i
  case invokestatic ix => exact ⟨ix, 0, by decide, h, fun _ => rfl, fun q => (by cases q), fun q => (by cases q)⟩
  case invokevirtual ix => exact ⟨ix, 1, by decide, h, fun q => (by cases q), fun _ => rfl, fun q => (by cases q)⟩
  case invokespecial ix => exact ⟨ix, 2, by decide, h, fun q => (by cases q), fun q => (by cases q), fun _ => rfl⟩
  all_goals (simp only [gCal] at h; cases h)
theorem go_succ (SA : Sta) (n : Nat) : go SA (n + 1) = gStep SA (go SA n) (go SA n) := rfl
theorem go_len (SA : Sta) : ∀ (n d me pc : Nat) (vs : Lo) (st : List Value) (M : Mem) (v : Option Value) (M' : Mem) (c s : Nat), go SA n d me pc vs st M = some (v, M', c, s) → M'.length = M.length + c := by
  intro n
  induction n with
  | zero => intro d me pc vs st M v M' c s h; cases h
  | succ n ih =>
    intro d me pc vs st M v M' c s h
    rw [go_succ] at h
    unfold gStep at h
    split at h
    · cases h
    · split at h
      · cases h
      · split at h
        · split at h
          · exact ih _ _ _ _ _ _ _ _ _ _ h
          · cases h
        · split at h
          · exact ih _ _ _ _ _ _ _ _ _ _ h
          · cases h
        · split at h
          · exact ih _ _ _ _ _ _ _ _ _ _ h
          · cases h
        · split at h
          · rename_i hg
            rw [ih _ _ _ _ _ _ _ _ _ _ h, get_len hg]
          · cases h
        · split at h
          · rename_i hg
            rw [ih _ _ _ _ _ _ _ _ _ _ h, get_len hg]
          · cases h
        · split at h
          · rename_i hg
            obtain ⟨c1, s1, h1, h2, h3⟩ := add_inv h
            rw [ih _ _ _ _ _ _ _ _ _ _ h1, new_len hg, h2]
            omega
          · cases h
        · split at h
          · cases h
            rfl
          · cases h
        · split at h
          · cases h
          · split at h
            · cases h
            · rename_i hg
              obtain ⟨ix, kind, -, hk, -⟩ := cal_kind hg
              obtain ⟨id, nest, wi, -, -, hq, -⟩ := calk_len hk
              rw [ih _ _ _ _ _ _ _ _ _ _ h, nat_len hq]
            · obtain ⟨v1, M1, c1, s1, h1, h2⟩ := then_inv h
              obtain ⟨c2, s2, h3, h4, h5⟩ := add_inv h2
              rw [ih _ _ _ _ _ _ _ _ _ _ h3, ih _ _ _ _ _ _ _ _ _ _ h1, h4]
              omega
theorem args_in (B : Nat) (sa : Nat → Nat) : ∀ (as : List Value) (off i : Nat) (v : Value), gNth (gArgs as) i = some (some v) → (off + i, rV B sa v) ∈ lv_args off (as.map (rV B sa)) := by
  intro as
  induction as with
  | nil => intro off i v h; cases h
  | cons a as ih =>
    intro off i v h
    have hcat : gC1 a = true ∧ (rV B sa a).category = 1 ∨ gC1 a = false ∧ (rV B sa a).category = 2 := by
      cases a <;> first | exact Or.inl ⟨rfl, rfl⟩ | exact Or.inr ⟨rfl, rfl⟩
    show _ ∈ (off, rV B sa a) :: lv_args (if (rV B sa a).category = 2 then off + 2 else off + 1) (as.map (rV B sa))
    rcases hcat with ⟨h1, h2⟩ | ⟨h1, h2⟩
    · have h' : gNth (some a :: gArgs as) i = some (some v) := by unfold gArgs at h; rw [h1] at h; exact h
      rw [h2, if_neg (by decide)]
      cases i with
      | zero => cases h'; exact List.mem_cons_self
      | succ i =>
        have := ih (off + 1) i v h'
        rw [show off + (i + 1) = off + 1 + i by omega]
        exact List.mem_cons_of_mem _ this
    · have h' : gNth (some a :: none :: gArgs as) i = some (some v) := by unfold gArgs at h; rw [h1] at h; exact h
      rw [h2, if_pos rfl]
      match i, h' with
      | 0, h' => cases h'; exact List.mem_cons_self
      | 1, h' => cases h'
      | i + 2, h' =>
        have := ih (off + 2) i v h'
        rw [show off + (i + 2) = off + 2 + i by omega]
        exact List.mem_cons_of_mem _ this
theorem args_len (B : Nat) (sa : Nat → Nat) : ∀ (as : List Value), (lg_sl (as.map (rV B sa))).length = (gArgs as).length := by
  intro as
  induction as with
  | nil => rfl
  | cons a as ih =>
    have e : lg_sl ((a :: as).map (rV B sa)) = (if (rV B sa a).category = 2 then [Slot.val (rV B sa a), Slot.second] else [Slot.val (rV B sa a)]) ++ lg_sl (as.map (rV B sa)) := by
      simp [lg_sl]
    rw [e, List.length_append, ih]
    cases a <;> first | (show 1 + (gArgs as).length = (gArgs as).length + 1; omega) | (show 2 + (gArgs as).length = (gArgs as).length + 1 + 1; omega)
theorem pad_nth {n : Nat} {l : Lo} {i : Nat} {v : Value} (h : gNth (gPad n l) i = some (some v)) : gNth l i = some (some v) := by
  unfold gPad at h
  rw [nth_eq] at h ⊢
  by_cases hi : i < l.length
  · rw [List.getElem?_append_left hi] at h
    exact h
  · rw [List.getElem?_append_right (by omega), List.getElem?_replicate] at h
    split at h <;> cases h
/-- what is said of n steps of `go` -/
def Snd (l : Launch) (B : Nat) (sa : Nat → Nat) (cy : Nat → ClassId) (dC : Nat → ClassId) (dI : Nat → Nat → Nat) (SA : Sta) (n : Nat) : Prop := ∀ (d me pc : Nat) (vs : Lo) (st : List Value) (M : Mem) (v : Option Value) (M' : Mem) (c0 s0 : Nat), go SA n d me pc vs st M = some (v, M', c0, s0) → ∀ (o : Nat) (y : MethodName) (cc : ByteArray) (maxL : Nat) (ret : Option FieldType) (np kf : Nat) (tab : List (Nat × Nat × Instr)), gNth mRs me = some (o, y, cc, maxL, ret, np, kf, tab) → ∀ (own : String), gNth ownR o = some own → ∀ (p : Program) (e : Env) (R : Room) (s : State) (m : MethodId) (args : Array Value) (below : List Frame) (meth : Method) (c : Code), p.tables.exec = Jvm.exec → c.code = cc → c.maxLocals = maxL → s.vm.findClass own = some m.cls → (∀ w ∈ W0, w.before args s = true) → Inv B sa cy dC dI SA s → (kf = 2 → meth.name = "<init>") → d + 8 ≤ R.frames → 40 * (d + 8) ≤ R.locals → ∀ (H : Heap) (locs : List Loc) (cells slots : Nat) (ls : Array Slot) (Q : State → Prop), va_P (dC, dI) gCL (wd B sa cy M) H → va_S (fun q => B ≤ q) s.heap H locs → s.heap.size + cells = B + M.length → LV B sa maxL vs ls → cells + c0 ≤ R.cells → slots + s0 ≤ R.slots →
  (∀ (H1 : Heap) (locs1 : List Loc) (ls1 : Array Slot) (pc1 : Nat) (st1 : List Value), va_P (dC, dI) gCL (wd B sa cy M') H1 → va_S (fun q => B ≤ q) s.heap H1 locs1 → s.heap.size + (cells + c0) = B + M'.length → ((v = none ∧ ret = none ∧ st1 = [] ∧ decode cc pc1 = .ok (.return_, 1)) ∨ (∃ x : Int32, v = some (.int x) ∧ st1 = [.int x] ∧ decode cc pc1 = .ok (.ireturn, 1) ∧ (ret = some .int ∨ (ret = some .boolean ∧ fits .boolean (.int x) = true)))) → W p l e R s m args below meth c H1 locs1 (cells + c0) (slots + s0) Q (F0 m pc1 ls1 st1)) → W p l e R s m args below meth c H locs cells slots Q (F0 m pc ls (st.map (rV B sa)))
set_option maxHeartbeats 4000000 in
theorem met_ok {l : Launch} {B : Nat} {sa : Nat → Nat} {cy : Nat → ClassId} {dC : Nat → ClassId} {dI : Nat → Nat → Nat} {SA : Sta} {n : Nat} (ih : Snd l B sa cy dC dI SA n) {d id : Nat} {as : List Value} {M M1 : Mem} {v : Option Value} {c1 s1 : Nat} {o2 : Nat} {y : MethodName} {cc2 : ByteArray} {maxL : Nat} {ret : Option FieldType} {np kf : Nat} {tab : List (Nat × Nat × Instr)} (hm : gNth mRs id = some (o2, y, cc2, maxL, ret, np, kf, tab)) (hid : id ≠ idLaw) (hlen : (gArgs as).length ≤ maxL) (h : go SA n d id 0 (gPad maxL (gArgs as)) [] M = some (v, M1, c1, s1)) : Met l y (.code y cc2 maxL ret :: W0) ({ frames := d + 8, cells := c1, slots := s1, locals := 40 * (d + 8) }) (Pcw B sa cy dC dI SA as M) (Qcw B sa cy dC dI v M1) c1 s1 (fun q => B ≤ q) := by
  obtain ⟨r1, r2, r3, r4, r5, r6, r7, -, -, rI, -, -⟩ := row_ok hm hid
  refine Met.ofW (cc := cc2) (maxL := maxL) (ret := ret) r6 rfl ?_
  intro p e s m args below meth c s₁ B9 hml hv
  obtain ⟨rfl, hI, hsz, hP⟩ := hv
  have hr := B9.returns
  have hts : ∀ w ∈ W0, w.before (as.map (rV B sa)).toArray s = true := fun w hw => atoms_spec (ws := .code y cc2 maxL ret :: W0) B9.pre w (List.mem_cons_of_mem _ hw)
  have hown : s.vm.findClass y.cls = some m.cls := findClass_of_methodNamed B9.named
  have hlocks := B9.notSynchronized
  have hl := lv_entry (as.map (rV B sa)) (n := maxL) (by rw [args_len]; exact hlen)
  rw [lg_entry_eq]
  generalize (lg_sl (as.map (rV B sa)) ++ List.replicate (maxL - (lg_sl (as.map (rV B sa))).length) Slot.unset).toArray = ls at hl ⊢
  have hL : LV B sa maxL (gPad maxL (gArgs as)) ls := by
    refine ⟨by unfold gPad; rw [List.length_append, List.length_replicate]; omega, _, hl, fun i w hw => ?_⟩
    have := args_in B sa as 0 i w (pad_nth hw)
    rwa [Nat.zero_add] at this
  have hS : va_S (fun q => B ≤ q) s.heap s.heap [] := va_S.rf
  refine ih d id 0 _ [] M v M1 c1 s1 h o2 y cc2 maxL ret np kf tab hm y.cls r3 p e _ s m _ below meth c B9.exec B9.bytes hml hown hts hI (fun q => ?_) (Nat.le_refl _) (Nat.le_refl _) s.heap [] 0 0 ls _ hP hS hsz hL (by rw [Nat.zero_add]; exact Nat.le_refl _) (by rw [Nat.zero_add]; exact Nat.le_refl _) ?_
  · have hnm := (name_of_methodNamed B9.named B9.method).1
    rw [hnm]
    by_cases h0 : kf = 0
    · omega
    · by_cases h1 : kf = 1
      · omega
      · exact (rI h0 h1).2.1
  · intro H1 locs1 ls1 pc1 st1 hP1 hS1 hsz1 hcase
    rw [Nat.zero_add] at hsz1 ⊢
    rw [Nat.zero_add]
    refine W.sz (fun hz => ?_)
    have hH := world_size hI hP1 hS1 hsz1 hz
    rcases hcase with ⟨rfl, hrt, rfl, hd⟩ | ⟨x, rfl, rfl, hd, hrt⟩
    · exact W.vret B9.exec B9.bytes (hr.trans hrt) (fun t ht hW => ⟨⟨(), rfl, trivial, by rw [ht]; exact hH, by rw [ht]; exact hP1⟩, hS1.F ht⟩) hS1.2.2 hd
    · rcases hrt with hrt | ⟨hrt, hft⟩
      · exact W.iret B9.exec B9.bytes (hr.trans hrt) (fun t ht hW => ⟨⟨x, (), rfl, rfl, by rw [ht]; exact hH, by rw [ht]; exact hP1⟩, hS1.F ht⟩) hS1.2.2 hd
      · exact W.zret B9.exec B9.bytes (hr.trans hrt) (fit_nar rfl hft) (fun t ht hW => ⟨⟨x, (), rfl, rfl, by rw [ht]; exact hH, by rw [ht]; exact hP1⟩, hS1.F ht⟩) hS1.2.2 hd
set_option maxHeartbeats 4000000 in
theorem go_snd {l : Launch} {B : Nat} {sa : Nat → Nat} {cy : Nat → ClassId} {dC : Nat → ClassId} {dI : Nat → Nat → Nat} {SA : Sta} (hlib : MetLib l B sa cy dC dI SA) : ∀ n : Nat, Snd l B sa cy dC dI SA n := by
  intro n
  induction n with
  | zero => intro d me pc vs st M v M' c0 s0 h; cases h
  | succ n ih =>
    intro d me pc vs st M v M' c0 s0 h o y cc maxL ret np kf tab hrow own hoo p e R s m args below meth c hx hb hml hown hts hI hini hfr hlo H locs cells slots ls Q hP hS hsz hL hcc hss hret
    rw [go_succ] at h
    unfold gStep at h
    rw [hrow] at h
    dsimp only at h
    split at h
    · cases h
    · rename_i kd i hlook
      have hck := List.all_eq_true.mp (ckDs _ (gNth_mem _ _ _ hrow)) _ (look_in _ _ _ hlook)
      obtain ⟨n9, hd, h9⟩ := dec_ok hck
      split at h
      · split at h
        · rename_i st2 hg
          have hd2 := dec_len hd h9 (fun d lo hi offs q => by rw [q] at hg; cases hg) (fun d ps q => by rw [q] at hg; cases hg)
          exact alu_ok hx hb hd2 hg (ih _ _ _ _ _ _ _ _ _ _ h o y cc maxL ret np kf tab hrow own hoo p e R s m args below meth c hx hb hml hown hts hI hini hfr hlo H locs cells slots ls Q hP hS hsz hL hcc hss hret)
        · cases h
      · split at h
        · rename_i vs2 st2 hg
          have hd2 := dec_len hd h9 (fun d lo hi offs q => by rw [q] at hg; cases hg) (fun d ps q => by rw [q] at hg; cases hg)
          exact loc_ok hx hb hd2 hL hg (fun ls2 hL2 => ih _ _ _ _ _ _ _ _ _ _ h o y cc maxL ret np kf tab hrow own hoo p e R s m args below meth c hx hb hml hown hts hI hini hfr hlo H locs cells slots ls2 Q hP hS hsz hL2 hcc hss hret)
        · cases h
      · split at h
        · rename_i pc2 st2 hg
          exact jmp_ok hx hb hd h9 hg (ih _ _ _ _ _ _ _ _ _ _ h o y cc maxL ret np kf tab hrow own hoo p e R s m args below meth c hx hb hml hown hts hI hini hfr hlo H locs cells slots ls Q hP hS hsz hL hcc hss hret)
        · cases h
      · split at h
        · rename_i st2 M2 hg
          have hd2 := dec_len hd h9 (fun d lo hi offs q => by rw [q] at hg; cases hg) (fun d ps q => by rw [q] at hg; cases hg)
          exact get_ok hx hb hoo hown hts hI (fun q => hini (Nat.eq_of_beq_eq_true q)) hP hS hd2 hg (fun H1 locs1 hP1 hS1 => ih _ _ _ _ _ _ _ _ _ _ h o y cc maxL ret np kf tab hrow own hoo p e R s m args below meth c hx hb hml hown hts hI hini hfr hlo H1 locs1 cells slots ls Q hP1 hS1 (by rw [get_len hg]; exact hsz) hL hcc hss hret)
        · cases h
      · split at h
        · rename_i st2 M2 hg
          have hd2 := dec_len hd h9 (fun d lo hi offs q => by rw [q] at hg; cases hg) (fun d ps q => by rw [q] at hg; cases hg)
          exact get_ok hx hb hoo hown hts hI (fun q => hini (Nat.eq_of_beq_eq_true q)) hP hS hd2 hg (fun H1 locs1 hP1 hS1 => ih _ _ _ _ _ _ _ _ _ _ h o y cc maxL ret np kf tab hrow own hoo p e R s m args below meth c hx hb hml hown hts hI hini hfr hlo H1 locs1 cells slots ls Q hP1 hS1 (by rw [get_len hg]; exact hsz) hL hcc hss hret)
        · cases h
      · split at h
        · rename_i st2 M2 c2 s2 hg
          have hd2 := dec_len hd h9 (fun d lo hi offs q => by rw [q] at hg; cases hg) (fun d ps q => by rw [q] at hg; cases hg)
          obtain ⟨c3, s3, h3, rfl, rfl⟩ := add_inv h
          exact new_ok hx hb hoo hown hts hI hP hS hd2 hg hsz (by omega) (by omega) (fun H1 hP1 hS1 => ih _ _ _ _ _ _ _ _ _ _ h3 o y cc maxL ret np kf tab hrow own hoo p e R s m args below meth c hx hb hml hown hts hI hini hfr hlo H1 locs (cells + c2) (slots + s2) ls Q hP1 hS1 (by rw [new_len hg]; omega) hL (by omega) (by omega) (by rw [Nat.add_assoc, Nat.add_assoc]; exact hret))
        · cases h
      · split at h
        · rename_i v2 hg
          cases h
          refine hret H locs ls pc _ hP hS hsz ?_
          unfold gRet at hg
          split at hg
          · split at hg
            · cases hg
              have hd2 := dec_len hd h9 (fun d lo hi offs q => by cases q) (fun d ps q => by cases q)
              exact Or.inl ⟨rfl, rfl, rfl, hd2⟩
            · cases hg
          · split at hg
            · cases hg
              have hd2 := dec_len hd h9 (fun d lo hi offs q => by cases q) (fun d ps q => by cases q)
              exact Or.inr ⟨_, rfl, rfl, hd2, Or.inl rfl⟩
            · rename_i x9
              cases hf : fits .boolean (.int x9) with
              | false => rw [hf] at hg; cases hg
              | true =>
                rw [hf] at hg
                cases hg
                have hd2 := dec_len hd h9 (fun d lo hi offs q => by cases q) (fun d ps q => by cases q)
                exact Or.inr ⟨_, rfl, rfl, hd2, Or.inr ⟨rfl, hf⟩⟩
            · cases hg
          · cases hg
        · cases h
      · split at h
        · cases h
        · rename_i d2
          split at h
          · cases h
          · rename_i st2 M2 hg
            obtain ⟨ix, kind, hk2, hk, k0, k1, k2⟩ := cal_kind hg
            obtain ⟨id, nest, wi, hr, hble, hq, hkk, hroom⟩ := calk_len hk
            refine nat_ok hlib hx hb hml hL hoo hown hts hI (by omega) (by omega) hP hS hsz ⟨by omega, by omega⟩ hr hble hq hkk hroom (fun q => ?_) (fun q => ?_) (fun q => ?_) (fun H1 locs1 hP1 hS1 => ih _ _ _ _ _ _ _ _ _ _ h o y cc maxL ret np kf tab hrow own hoo p e R s m args below meth c hx hb hml hown hts hI hini hfr hlo H1 locs1 cells slots ls Q hP1 hS1 (by rw [nat_len hq]; exact hsz) hL hcc hss hret)
            · have := dec_len hd h9 (fun d lo hi offs q2 => by rw [k1 q] at q2; cases q2) (fun d ps q2 => by rw [k1 q] at q2; cases q2)
              rw [k1 q] at this
              exact this
            · have := dec_len hd h9 (fun d lo hi offs q2 => by rw [k0 q] at q2; cases q2) (fun d ps q2 => by rw [k0 q] at q2; cases q2)
              rw [k0 q] at this
              exact this
            · have := dec_len hd h9 (fun d lo hi offs q2 => by rw [k2 q] at q2; cases q2) (fun d ps q2 => by rw [k2 q] at q2; cases q2)
              rw [k2 q] at this
              exact this
          · rename_i id ls0 rest hg
            obtain ⟨ix, kind, hk2, hk, k0, k1, k2⟩ := cal_kind hg
            obtain ⟨v1, M1, c1, s1, h1, h2⟩ := then_inv h
            obtain ⟨c3, s3, h3, rfl, rfl⟩ := add_inv h2
            refine call_ok (d' := d2 + 8) hx hb hml hL hoo hown hts hI hP hS hsz (by omega) (by omega) ⟨by omega, by omega⟩ hk hk2 (fun q => ?_) (fun q => ?_) (fun q => ?_) (fun o2 y2 cc2 maxL2 ret2 np2 kf2 tab2 as hm hid hls hlen => ?_) (fun H1 locs1 hP1 hS1 => ih _ _ _ _ _ _ _ _ _ _ h3 o y cc maxL ret np kf tab hrow own hoo p e R s m args below meth c hx hb hml hown hts hI hini hfr hlo H1 locs1 (cells + c1) (slots + s1) ls Q hP1 hS1 (by rw [go_len SA _ _ _ _ _ _ _ _ _ _ _ h1]; omega) hL (by omega) (by omega) (by rw [Nat.add_assoc, Nat.add_assoc]; exact hret))
            · have := dec_len hd h9 (fun d lo hi offs q2 => by rw [k0 q] at q2; cases q2) (fun d ps q2 => by rw [k0 q] at q2; cases q2)
              rw [k0 q] at this
              exact this
            · have := dec_len hd h9 (fun d lo hi offs q2 => by rw [k1 q] at q2; cases q2) (fun d ps q2 => by rw [k1 q] at q2; cases q2)
              rw [k1 q] at this
              exact this
            · have := dec_len hd h9 (fun d lo hi offs q2 => by rw [k2 q] at q2; cases q2) (fun d ps q2 => by rw [k2 q] at q2; cases q2)
              rw [k2 q] at this
              exact this
            · rw [hls] at h1
              exact met_ok ih hm hid hlen h1
end
section
/-! Arrays.fill, walked by hand: one step of `go` -/
theorem d_fill_0 : decode cJ7_fill_53178 0 = .ok (.iconst 0, 1) := by decide +kernel
theorem d_fill_1 : decode cJ7_fill_53178 1 = .ok (.istore_n 2, 1) := by decide +kernel
theorem d_fill_2 : decode cJ7_fill_53178 2 = .ok (.aload_n 0, 1) := by decide +kernel
theorem d_fill_3 : decode cJ7_fill_53178 3 = .ok (.arraylength, 1) := by decide +kernel
theorem d_fill_4 : decode cJ7_fill_53178 4 = .ok (.istore_n 3, 1) := by decide +kernel
theorem d_fill_5 : decode cJ7_fill_53178 5 = .ok (.iload_n 2, 1) := by decide +kernel
theorem d_fill_6 : decode cJ7_fill_53178 6 = .ok (.iload_n 3, 1) := by decide +kernel
theorem d_fill_7 : decode cJ7_fill_53178 7 = .ok (.if_icmp .ge 13, 3) := by decide +kernel
theorem d_fill_10 : decode cJ7_fill_53178 10 = .ok (.aload_n 0, 1) := by decide +kernel
theorem d_fill_11 : decode cJ7_fill_53178 11 = .ok (.iload_n 2, 1) := by decide +kernel
theorem d_fill_12 : decode cJ7_fill_53178 12 = .ok (.iload_n 1, 1) := by decide +kernel
theorem d_fill_13 : decode cJ7_fill_53178 13 = .ok (.iastore, 1) := by decide +kernel
theorem d_fill_14 : decode cJ7_fill_53178 14 = .ok (.iinc 2 1, 3) := by decide +kernel
theorem d_fill_17 : decode cJ7_fill_53178 17 = .ok (.goto (-12), 3) := by decide +kernel
theorem d_fill_20 : decode cJ7_fill_53178 20 = .ok (.return_, 1) := by decide +kernel
/-- the first i elements are v -/
def fl (L : List Int32) (v : Int32) (i : Nat) : List Int32 := List.replicate i v ++ L.drop i
theorem fl_len {L : List Int32} {v : Int32} {i : Nat} (h : i ≤ L.length) : (fl L v i).length = L.length := by
  unfold fl
  rw [List.length_append, List.length_replicate, List.length_drop]
  omega
theorem fl_put {L : List Int32} {v : Int32} {i : Nat} (h : i < L.length) : gPut (fl L v i) i v = fl L v (i + 1) := by
  rw [put_eq]
  apply List.ext_getElem?
  intro j
  unfold fl
  rw [List.getElem?_set, List.length_append, List.length_replicate, List.length_drop]
  by_cases hj : i = j
  · subst hj
    rw [if_pos rfl, if_pos (by omega), List.getElem?_append_left (by rw [List.length_replicate]; omega), List.getElem?_replicate, if_pos (by omega)]
  · rw [if_neg hj]
    by_cases h1 : j < i
    · rw [List.getElem?_append_left (by rw [List.length_replicate]; omega), List.getElem?_append_left (by rw [List.length_replicate]; omega), List.getElem?_replicate, List.getElem?_replicate, if_pos h1, if_pos (by omega)]
    · rw [List.getElem?_append_right (by rw [List.length_replicate]; omega), List.getElem?_append_right (by rw [List.length_replicate]; omega), List.length_replicate, List.length_replicate, List.getElem?_drop, List.getElem?_drop]
      congr 1
      omega
theorem fl_all (L : List Int32) (v : Int32) : fl L v L.length = gRep (gLn L) v := by
  unfold fl
  rw [List.drop_length, List.append_nil, rep_eq, ln_eq]
theorem fl_0 (L : List Int32) (v : Int32) : fl L v 0 = L := rfl
theorem put_same {α : Type} (l : List α) (i : Nat) (v : α) (h : gNth l i = some v) : gPut l i v = l := by
  rw [nth_eq] at h
  rw [put_eq]
  apply List.ext_getElem?
  intro j
  rw [List.getElem?_set]
  by_cases hj : i = j
  · subst hj
    rw [if_pos rfl, if_pos (List.getElem?_eq_some_iff.mp h).1, h]
  · rw [if_neg hj]
theorem put_put {α : Type} (l : List α) (i : Nat) (v w : α) : gPut (gPut l i v) i w = gPut l i w := by
  rw [put_eq, put_eq, put_eq, List.set_set]
set_option maxHeartbeats 4000000 in
theorem fill_loop {p : Program} {l : Launch} {e : Env} {R : Room} {s : State} {m : MethodId} {args : Array Value} {below : List Frame} {meth : Method} {c : Code} {Q : State → Prop} {B : Nat} {sa : Nat → Nat} {cy : Nat → ClassId} {dC : Nat → ClassId} {dI : Nat → Nat → Nat} {SA : Sta} (hx : p.tables.exec = Jvm.exec) (hb : c.code = cJ7_fill_53178) (hI : Inv B sa cy dC dI SA s) {M : Mem} {a : Nat} {L : List Int32} {v : Int32} (ha : gNth M a = some (.inl (1, .inl L))) (hLz : L.length < 2 ^ 31) {cells slots : Nat}
    (kk : ∀ (H1 : Heap) (locs1 : List Loc) (ls1 : Array Slot), va_P (dC, dI) gCL (wd B sa cy (gPut M a (.inl (1, .inl (fl L v L.length))))) H1 → va_S (fun q => B ≤ q) s.heap H1 locs1 → W p l e R s m args below meth c H1 locs1 cells slots Q (F0 m 20 ls1 [])) :
    ∀ (n i : Nat), i ≤ L.length → L.length - i < n → ∀ (H : Heap) (locs : List Loc) (ls : Array Slot), va_P (dC, dI) gCL (wd B sa cy (gPut M a (.inl (1, .inl (fl L v i))))) H → va_S (fun q => B ≤ q) s.heap H locs → lv_has ls 4 [(0, .ref (B + a)), (1, .int v), (2, .int (nI i)), (3, .int (nI L.length))] → W p l e R s m args below meth c H locs cells slots Q (F0 m 5 ls []) := by
  intro n
  induction n with
  | zero => intro i h1 h2; omega
  | succ n ih =>
    intro i hi hn H locs ls hP hS hl
    refine lv_iload_n hx hb d_fill_5 rfl (lv_at hl 2 rfl) ?_
    refine lv_iload_n hx hb d_fill_6 rfl (lv_at hl 3 rfl) ?_
    refine lv_icmp_ge (tgt := 20) hx hb d_fill_7 (by decide) (fun q => ?_) (fun q => ?_)
    · have h9 : L.length ≤ i := (nI_leI hLz (by omega)).mp q
      obtain rfl : i = L.length := by omega
      exact kk H locs ls hP hS
    · have h9 : i < L.length := Nat.lt_of_not_le (fun z => q ((nI_leI hLz (by omega)).mpr z))
      have hga : gNth (gPut M a (.inl (1, .inl (fl L v i)))) a = some (.inl (1, .inl (fl L v i))) := by
        rw [nth_put, if_pos ⟨rfl, gNth_lt _ _ _ ha⟩]
      refine lv_aload_n hx hb d_fill_10 rfl (lv_at hl 0 rfl) ?_
      refine lv_iload_n hx hb d_fill_11 rfl (lv_at hl 2 rfl) ?_
      refine lv_iload_n hx hb d_fill_12 rfl (lv_at hl 1 rfl) ?_
      have hin : vp_in (nI i) (fl L v i).length := vp_in_nI (by rw [fl_len hi]; exact h9) (by rw [fl_len hi]; exact hLz)
      have hcl : (nI i).toNatClampNeg = i := nI_clamp (by omega)
      refine va_iast hx hb hI.1 hP (wd_D B sa cy _) hS a 1 (wd_get hga) (gTy2_at cy (by decide)) hin d_fill_13 (fun H1 locs1 hP1 _ hS1 => ?_)
      rw [hcl, up_i (fl L v i) i v (by rw [fl_len hi]; exact h9), ← put_len (fl L v i) i v, fl_put h9] at hP1
      have e9 := wd_set B sa cy (gPut M a (.inl (1, .inl (fl L v i)))) a (.inl (1, .inl (fl L v (i + 1))))
      rw [put_put] at e9
      have hP2 : va_P (dC, dI) gCL (wd B sa cy (gPut M a (.inl (1, .inl (fl L v (i + 1)))))) H1 := by rw [← e9]; exact hP1
      refine lv_iinc (v := nI (i + 1)) (lv' := [(2, .int (nI (i + 1))), (0, .ref (B + a)), (1, .int v), (3, .int (nI L.length))]) hx hb d_fill_14 hl (k := 2) rfl (nI_1 i) (by decide) rfl (fun ls hl => ?_)
      refine lv_goto (tgt := 5) hx hb d_fill_17 (by decide) ?_
      exact ih (i + 1) h9 (by omega) H1 locs1 ls hP2 hS1 (lv_sub hl [1, 2, 0, 3] rfl)
set_option maxHeartbeats 4000000 in
theorem fill_ok (l : Launch) (B : Nat) (sa : Nat → Nat) (cy : Nat → ClassId) (dC : Nat → ClassId) (dI : Nat → Nat → Nat) (SA : Sta) : MetFill l B sa cy dC dI SA := by
  intro M a L v ha hz0
  refine Met.ofW (cc := cJ7_fill_53178) (maxL := 4) (ret := none) (by decide +kernel) rfl ?_
  intro p e s m args below meth c s₁ B9 hml hv
  obtain ⟨rfl, hI, hsz, hP⟩ := hv
  have hx := B9.exec
  have hb := B9.bytes
  have hr := B9.returns
  have hlocks := B9.notSynchronized
  have hS : va_S (fun q => B ≤ q) s.heap s.heap [] := va_S.rf
  have hl := lv_entry ([.ref (B + a), .int v]) (n := 4) (Nat.le_of_ble_eq_true rfl)
  show W p l e _ s m _ below meth c s.heap [] 0 0 _ (entryFrame m ([.ref (B + a), .int v] : List Value).toArray 4)
  rw [lg_entry_eq]
  generalize (lg_sl ([.ref (B + a), .int v]) ++ List.replicate (4 - (lg_sl ([.ref (B + a), .int v])).length) Slot.unset).toArray = ls at hl ⊢
  have hl : lv_has ls 4 [(0, .ref (B + a)), (1, .int v)] := hl
  refine lv_iconst (v := 0) hx hb d_fill_0 (by decide) ?_
  refine lv_istore_n (lv' := [(2, .int 0), (0, .ref (B + a)), (1, .int v)]) hx hb d_fill_1 rfl hl (by decide) rfl (fun ls hl => ?_)
  refine lv_aload_n hx hb d_fill_2 rfl (lv_at hl 1 rfl) ?_
  refine va_alen (v := nI L.length) hx hb hI.1 hP a 1 (wd_get ha) (gTy2_at cy (by decide)) rfl d_fill_3 ?_
  refine lv_istore_n (lv' := [(3, .int (nI L.length)), (2, .int 0), (0, .ref (B + a)), (1, .int v)]) hx hb d_fill_4 rfl hl (by decide) rfl (fun ls hl => ?_)
  have hLz : L.length < 2 ^ 31 := by omega
  · refine fill_loop hx hb hI ha hLz (fun H1 locs1 ls1 hP1 hS1 => ?_) (L.length + 1) 0 (Nat.zero_le _) (by omega) s.heap [] ls (by rw [fl_0, put_same _ _ _ ha]; exact hP) hS (lv_sub hl [2, 3, 1, 0] rfl)
    rw [fl_all] at hP1
    refine W.sz (fun hz => ?_)
    have hH := world_size hI hP1 hS1 (cells := 0) (by rw [put_len]; exact hsz) hz
    exact W.vret hx hb hr (fun t ht hW => ⟨⟨(), rfl, trivial, by rw [ht]; exact hH, by rw [ht]; exact hP1⟩, hS1.F ht⟩) hS1.2.2 d_fill_20
end
section
/-! String.length and String.charAt of the class's own texts, walked by hand: each one step of `go` -/
theorem d_sL_0 : decode cJ0_length_8abf5 0 = .ok (.aload_n 0, 1) := by decide +kernel
theorem d_sL_1 : decode cJ0_length_8abf5 1 = .ok (.getfield 9, 3) := by decide +kernel
theorem d_sL_4 : decode cJ0_length_8abf5 4 = .ok (.arraylength, 1) := by decide +kernel
theorem d_sL_5 : decode cJ0_length_8abf5 5 = .ok (.aload_n 0, 1) := by decide +kernel
theorem d_sL_6 : decode cJ0_length_8abf5 6 = .ok (.invokevirtual 335, 3) := by decide +kernel
theorem d_sL_9 : decode cJ0_length_8abf5 9 = .ok (.ishr, 1) := by decide +kernel
theorem d_sL_10 : decode cJ0_length_8abf5 10 = .ok (.ireturn, 1) := by decide +kernel
theorem d_sC_0 : decode cJ0_charAt_5068e 0 = .ok (.aload_n 0, 1) := by decide +kernel
theorem d_sC_1 : decode cJ0_charAt_5068e 1 = .ok (.invokevirtual 492, 3) := by decide +kernel
theorem d_sC_4 : decode cJ0_charAt_5068e 4 = .ok (.ifCond .eq 12, 3) := by decide +kernel
theorem d_sC_7 : decode cJ0_charAt_5068e 7 = .ok (.aload_n 0, 1) := by decide +kernel
theorem d_sC_8 : decode cJ0_charAt_5068e 8 = .ok (.getfield 9, 3) := by decide +kernel
theorem d_sC_11 : decode cJ0_charAt_5068e 11 = .ok (.iload_n 1, 1) := by decide +kernel
theorem d_sC_12 : decode cJ0_charAt_5068e 12 = .ok (.invokestatic 495, 3) := by decide +kernel
theorem d_sC_15 : decode cJ0_charAt_5068e 15 = .ok (.ireturn, 1) := by decide +kernel
theorem d_sD_0 : decode cJ0_coder_7d493 0 = .ok (.getstatic 38, 3) := by decide +kernel
theorem d_sD_3 : decode cJ0_coder_7d493 3 = .ok (.ifCond .eq 10, 3) := by decide +kernel
theorem d_sD_6 : decode cJ0_coder_7d493 6 = .ok (.aload_n 0, 1) := by decide +kernel
theorem d_sD_7 : decode cJ0_coder_7d493 7 = .ok (.getfield 15, 3) := by decide +kernel
theorem d_sD_10 : decode cJ0_coder_7d493 10 = .ok (.goto 4, 3) := by decide +kernel
theorem d_sD_14 : decode cJ0_coder_7d493 14 = .ok (.ireturn, 1) := by decide +kernel
theorem d_sI_0 : decode cJ0_isLatin1_aae02 0 = .ok (.getstatic 38, 3) := by decide +kernel
theorem d_sI_3 : decode cJ0_isLatin1_aae02 3 = .ok (.ifCond .eq 14, 3) := by decide +kernel
theorem d_sI_6 : decode cJ0_isLatin1_aae02 6 = .ok (.aload_n 0, 1) := by decide +kernel
theorem d_sI_7 : decode cJ0_isLatin1_aae02 7 = .ok (.getfield 15, 3) := by decide +kernel
theorem d_sI_10 : decode cJ0_isLatin1_aae02 10 = .ok (.ifCond .ne 7, 3) := by decide +kernel
theorem d_sI_13 : decode cJ0_isLatin1_aae02 13 = .ok (.iconst 1, 1) := by decide +kernel
theorem d_sI_14 : decode cJ0_isLatin1_aae02 14 = .ok (.goto 4, 3) := by decide +kernel
theorem d_sI_18 : decode cJ0_isLatin1_aae02 18 = .ok (.ireturn, 1) := by decide +kernel
theorem d_sK_0 : decode cJ0_checkIndex_df160 0 = .ok (.iload_n 0, 1) := by decide +kernel
theorem d_sK_1 : decode cJ0_checkIndex_df160 1 = .ok (.iload_n 1, 1) := by decide +kernel
theorem d_sK_2 : decode cJ0_checkIndex_df160 2 = .ok (.getstatic 1053, 3) := by decide +kernel
theorem d_sK_5 : decode cJ0_checkIndex_df160 5 = .ok (.invokestatic 1059, 3) := by decide +kernel
theorem d_sK_8 : decode cJ0_checkIndex_df160 8 = .ok (.pop, 1) := by decide +kernel
theorem d_sK_9 : decode cJ0_checkIndex_df160 9 = .ok (.return_, 1) := by decide +kernel
theorem d_s1C_0 : decode cJ1_charAt_3b067 0 = .ok (.iload_n 1, 1) := by decide +kernel
theorem d_s1C_1 : decode cJ1_charAt_3b067 1 = .ok (.aload_n 0, 1) := by decide +kernel
theorem d_s1C_2 : decode cJ1_charAt_3b067 2 = .ok (.arraylength, 1) := by decide +kernel
theorem d_s1C_3 : decode cJ1_charAt_3b067 3 = .ok (.invokestatic 9, 3) := by decide +kernel
theorem d_s1C_6 : decode cJ1_charAt_3b067 6 = .ok (.aload_n 0, 1) := by decide +kernel
theorem d_s1C_7 : decode cJ1_charAt_3b067 7 = .ok (.iload_n 1, 1) := by decide +kernel
theorem d_s1C_8 : decode cJ1_charAt_3b067 8 = .ok (.baload, 1) := by decide +kernel
theorem d_s1C_9 : decode cJ1_charAt_3b067 9 = .ok (.sipush 255, 3) := by decide +kernel
theorem d_s1C_12 : decode cJ1_charAt_3b067 12 = .ok (.iand, 1) := by decide +kernel
theorem d_s1C_13 : decode cJ1_charAt_3b067 13 = .ok (.i2c, 1) := by decide +kernel
theorem d_s1C_14 : decode cJ1_charAt_3b067 14 = .ok (.ireturn, 1) := by decide +kernel
theorem d_s3K_0 : decode cJ3_checkIndex_8e157 0 = .ok (.iload_n 0, 1) := by decide +kernel
theorem d_s3K_1 : decode cJ3_checkIndex_8e157 1 = .ok (.ifCond .lt 8, 3) := by decide +kernel
theorem d_s3K_4 : decode cJ3_checkIndex_8e157 4 = .ok (.iload_n 0, 1) := by decide +kernel
theorem d_s3K_5 : decode cJ3_checkIndex_8e157 5 = .ok (.iload_n 1, 1) := by decide +kernel
theorem d_s3K_6 : decode cJ3_checkIndex_8e157 6 = .ok (.if_icmp .lt 10, 3) := by decide +kernel
theorem d_s3K_16 : decode cJ3_checkIndex_8e157 16 = .ok (.iload_n 0, 1) := by decide +kernel
theorem d_s3K_17 : decode cJ3_checkIndex_8e157 17 = .ok (.ireturn, 1) := by decide +kernel
theorem tx_ch {j : Nat} (hj : j < 7) : ∀ n, n < (gTx j).length → ((((gTx j).getD n 0 &&& 255).toUInt32 % 65536).toInt32 = (gTx j).getD n 0 ∧ narrow .char (.int ((gTx j).getD n 0)) = .int ((gTx j).getD n 0)) := by
  match j, hj with
  | 0, _ => decide +kernel
  | 1, _ => decide +kernel
  | 2, _ => decide +kernel
  | 3, _ => decide +kernel
  | 4, _ => decide +kernel
  | 5, _ => decide +kernel
  | 6, _ => decide +kernel
  | n + 7, h => omega
theorem tx_at {j : Nat} (hj : j < 7) {i x : Int32} (h : gAt (gTx j) i = some x) : ∃ n : Nat, n < (gTx j).length ∧ i = nI n ∧ (gTx j).getD n 0 = x := by
  obtain ⟨h1, h2⟩ := at_ok h
  obtain ⟨n, hn, rfl⟩ := nI_of (x := i) (fun q => h1 (Or.inl q))
  rw [nI_clamp hn] at h2
  have hl := gNth_lt _ _ _ h2
  rw [nth_eq] at h2
  exact ⟨n, hl, rfl, by rw [List.getD_eq_getElem?_getD, h2]; rfl⟩
theorem sh_0 (x : Int32) : x >>> ((0 : Int32) &&& 31) = x := by
  apply Int32.toInt_inj.mp
  rw [pk_shr x _ 0 (by decide)]
  exact Int.shiftRight_zero _
section SNL
variable (l : Launch) (B : Nat) (sa : Nat → Nat) (cy : Nat → ClassId) (dC : Nat → ClassId) (dI : Nat → Nat → Nat) (SA : Sta)
set_option maxHeartbeats 4000000 in
theorem coder_ok (M : Mem) (j : Nat) (hj : j < 7) : Met l yJ0_coder_7d493 (.code yJ0_coder_7d493 cJ0_coder_7d493 1 (some .byte) :: W0) ({ frames := 0, cells := 0, slots := 0, locals := 0 }) (Pcv B sa cy dC dI SA [.ref (sa (10 + j))] M) (Qcw B sa cy dC dI (some (.int 0)) M) 0 0 (fun q => B ≤ q) := by
  refine Met.ofW (cc := cJ0_coder_7d493) (maxL := 1) (ret := (some .byte)) (by decide +kernel) rfl ?_
  intro p e s m args below meth c s₁ B9 hml hv
  obtain ⟨rfl, hI, hsz, hP⟩ := hv
  have hx := B9.exec
  have hb := B9.bytes
  have hr := B9.returns
  have hlocks := B9.notSynchronized
  have hts : ∀ w ∈ W0, w.before ([.ref (sa (10 + j))] : List Value).toArray s = true := fun w hw => atoms_spec (ws := .code yJ0_coder_7d493 cJ0_coder_7d493 1 (some .byte) :: W0) B9.pre w (List.mem_cons_of_mem _ hw)
  have hown : s.vm.findClass RJ0 = some m.cls := findClass_of_methodNamed B9.named
  have hS : va_S (fun q => B ≤ q) s.heap s.heap [] := va_S.rf
  have hl := lv_entry ([.ref (sa (10 + j))]) (n := 1) (Nat.le_of_ble_eq_true rfl)
  show W p l e _ s m _ below meth c s.heap [] 0 0 _ (entryFrame m ([.ref (sa (10 + j))] : List Value).toArray 1)
  rw [lg_entry_eq]
  generalize (lg_sl ([.ref (sa (10 + j))]) ++ List.replicate (1 - (lg_sl ([.ref (sa (10 + j))])).length) Slot.unset).toArray = ls at hl ⊢
  have hl : lv_has ls 1 [(0, .ref (sa (10 + j)))] := hl
  have hls : ls.size = 1 := hl.1
  obtain ⟨hO, hco, hva, hT⟩ := hI.2.2.2.2.2.2.2.1.1 j hj
  have hZ := hI.2.2.2.2.2.2.2.2.2.1
  refine va_gets hx hb hZ hS hown (hts _ w0_sf38) (fun _ h => h) d_sD_0 ?_
  refine lv_if_eq (tgt := 13) hx hb d_sD_3 (by decide) (fun q => absurd q (by decide)) (fun _ => ?_)
  refine lv_aload_n hx hb d_sD_6 rfl (lv_at hl 0 rfl) ?_
  refine vk_getf hx hb hco hS hown (hts _ w0_sf15) (fun _ h => h) d_sD_7 ?_
  refine lv_goto (tgt := 14) hx hb d_sD_10 (by decide) ?_
  exact W.zret hx hb hr (rfl) (fun t ht hW => ⟨⟨0, (), rfl, rfl, by rw [ht]; exact hsz, by rw [ht]; exact hP⟩, hS.F ht⟩) hS.2.2 d_sD_14
set_option maxHeartbeats 4000000 in
theorem latin_ok (M : Mem) (j : Nat) (hj : j < 7) : Met l yJ0_isLatin1_aae02 (.code yJ0_isLatin1_aae02 cJ0_isLatin1_aae02 1 (some .boolean) :: W0) ({ frames := 0, cells := 0, slots := 0, locals := 0 }) (Pcv B sa cy dC dI SA [.ref (sa (10 + j))] M) (Qcw B sa cy dC dI (some (.int 1)) M) 0 0 (fun q => B ≤ q) := by
  refine Met.ofW (cc := cJ0_isLatin1_aae02) (maxL := 1) (ret := (some .boolean)) (by decide +kernel) rfl ?_
  intro p e s m args below meth c s₁ B9 hml hv
  obtain ⟨rfl, hI, hsz, hP⟩ := hv
  have hx := B9.exec
  have hb := B9.bytes
  have hr := B9.returns
  have hlocks := B9.notSynchronized
  have hts : ∀ w ∈ W0, w.before ([.ref (sa (10 + j))] : List Value).toArray s = true := fun w hw => atoms_spec (ws := .code yJ0_isLatin1_aae02 cJ0_isLatin1_aae02 1 (some .boolean) :: W0) B9.pre w (List.mem_cons_of_mem _ hw)
  have hown : s.vm.findClass RJ0 = some m.cls := findClass_of_methodNamed B9.named
  have hS : va_S (fun q => B ≤ q) s.heap s.heap [] := va_S.rf
  have hl := lv_entry ([.ref (sa (10 + j))]) (n := 1) (Nat.le_of_ble_eq_true rfl)
  show W p l e _ s m _ below meth c s.heap [] 0 0 _ (entryFrame m ([.ref (sa (10 + j))] : List Value).toArray 1)
  rw [lg_entry_eq]
  generalize (lg_sl ([.ref (sa (10 + j))]) ++ List.replicate (1 - (lg_sl ([.ref (sa (10 + j))])).length) Slot.unset).toArray = ls at hl ⊢
  have hl : lv_has ls 1 [(0, .ref (sa (10 + j)))] := hl
  have hls : ls.size = 1 := hl.1
  obtain ⟨hO, hco, hva, hT⟩ := hI.2.2.2.2.2.2.2.1.1 j hj
  have hZ := hI.2.2.2.2.2.2.2.2.2.1
  refine va_gets hx hb hZ hS hown (hts _ w0_sf38) (fun _ h => h) d_sI_0 ?_
  refine lv_if_eq (tgt := 17) hx hb d_sI_3 (by decide) (fun q => absurd q (by decide)) (fun _ => ?_)
  refine lv_aload_n hx hb d_sI_6 rfl (lv_at hl 0 rfl) ?_
  refine vk_getf hx hb hco hS hown (hts _ w0_sf15) (fun _ h => h) d_sI_7 ?_
  refine lv_if_ne (tgt := 17) hx hb d_sI_10 (by decide) (fun q => absurd rfl q) (fun _ => ?_)
  refine lv_iconst (v := 1) hx hb d_sI_13 (by decide) ?_
  refine lv_goto (tgt := 18) hx hb d_sI_14 (by decide) ?_
  exact W.zret hx hb hr (rfl) (fun t ht hW => ⟨⟨1, (), rfl, rfl, by rw [ht]; exact hsz, by rw [ht]; exact hP⟩, hS.F ht⟩) hS.2.2 d_sI_18
set_option maxHeartbeats 4000000 in
theorem chk3_ok (M : Mem) (i n : Int32) (v : Value) (hi : ¬ i < 0) (hn : i < n) (hv9 : lg_sl [.int i, .int n, v] = [Slot.val (.int i), Slot.val (.int n), Slot.val v]) : Met l yJ3_checkIndex_8e157 (.code yJ3_checkIndex_8e157 cJ3_checkIndex_8e157 3 (some .int) :: W0) ({ frames := 0, cells := 0, slots := 0, locals := 0 }) (Pcv B sa cy dC dI SA [.int i, .int n, v] M) (Qcw B sa cy dC dI (some (.int i)) M) 0 0 (fun q => B ≤ q) := by
  refine Met.ofW (cc := cJ3_checkIndex_8e157) (maxL := 3) (ret := (some .int)) (by decide +kernel) rfl ?_
  intro p e s m args below meth c s₁ B9 hml hv
  obtain ⟨rfl, hI, hsz, hP⟩ := hv
  have hx := B9.exec
  have hb := B9.bytes
  have hr := B9.returns
  have hlocks := B9.notSynchronized
  have hts : ∀ w ∈ W0, w.before ([.int i, .int n, v] : List Value).toArray s = true := fun w hw => atoms_spec (ws := .code yJ3_checkIndex_8e157 cJ3_checkIndex_8e157 3 (some .int) :: W0) B9.pre w (List.mem_cons_of_mem _ hw)
  have hown : s.vm.findClass RJ3 = some m.cls := findClass_of_methodNamed B9.named
  have hS : va_S (fun q => B ≤ q) s.heap s.heap [] := va_S.rf
  have hl := lv_entry ([.int i, .int n, v]) (n := 3) (by rw [hv9]; exact Nat.le_of_ble_eq_true rfl)
  show W p l e _ s m _ below meth c s.heap [] 0 0 _ (entryFrame m ([.int i, .int n, v] : List Value).toArray 3)
  rw [lg_entry_eq]
  generalize (lg_sl ([.int i, .int n, v]) ++ List.replicate (3 - (lg_sl ([.int i, .int n, v])).length) Slot.unset).toArray = ls at hl ⊢
  have hl : lv_has ls 3 [(0, .int i), (1, .int n), (2, v)] := hl
  have hls : ls.size = 3 := hl.1
  refine lv_iload_n hx hb d_s3K_0 rfl (lv_at hl 0 rfl) ?_
  refine lv_if_lt (tgt := 9) hx hb d_s3K_1 (by decide) (fun q => absurd q hi) (fun _ => ?_)
  refine lv_iload_n hx hb d_s3K_4 rfl (lv_at hl 0 rfl) ?_
  refine lv_iload_n hx hb d_s3K_5 rfl (lv_at hl 1 rfl) ?_
  refine lv_icmp_lt (tgt := 16) hx hb d_s3K_6 (by decide) (fun _ => ?_) (fun q => absurd hn q)
  refine lv_iload_n hx hb d_s3K_16 rfl (lv_at hl 0 rfl) ?_
  exact W.iret hx hb hr (fun t ht hW => ⟨⟨i, (), rfl, rfl, by rw [ht]; exact hsz, by rw [ht]; exact hP⟩, hS.F ht⟩) hS.2.2 d_s3K_17
set_option maxHeartbeats 4000000 in
theorem chk_ok (M : Mem) (i n : Int32) (hi : ¬ i < 0) (hn : i < n) : Met l yJ0_checkIndex_df160 (.code yJ0_checkIndex_df160 cJ0_checkIndex_df160 2 none :: W0) ({ frames := 1, cells := 0, slots := 0, locals := 40 }) (Pcv B sa cy dC dI SA [.int i, .int n] M) (Qcw B sa cy dC dI none M) 0 0 (fun q => B ≤ q) := by
  refine Met.ofW (cc := cJ0_checkIndex_df160) (maxL := 2) (ret := none) (by decide +kernel) rfl ?_
  intro p e s m args below meth c s₁ B9 hml hv
  obtain ⟨rfl, hI, hsz, hP⟩ := hv
  have hx := B9.exec
  have hb := B9.bytes
  have hr := B9.returns
  have hlocks := B9.notSynchronized
  have hts : ∀ w ∈ W0, w.before ([.int i, .int n] : List Value).toArray s = true := fun w hw => atoms_spec (ws := .code yJ0_checkIndex_df160 cJ0_checkIndex_df160 2 none :: W0) B9.pre w (List.mem_cons_of_mem _ hw)
  have hown : s.vm.findClass RJ0 = some m.cls := findClass_of_methodNamed B9.named
  have hS : va_S (fun q => B ≤ q) s.heap s.heap [] := va_S.rf
  have hl := lv_entry ([.int i, .int n]) (n := 2) (Nat.le_of_ble_eq_true rfl)
  show W p l e _ s m _ below meth c s.heap [] 0 0 _ (entryFrame m ([.int i, .int n] : List Value).toArray 2)
  rw [lg_entry_eq]
  generalize (lg_sl ([.int i, .int n]) ++ List.replicate (2 - (lg_sl ([.int i, .int n])).length) Slot.unset).toArray = ls at hl ⊢
  have hl : lv_has ls 2 [(0, .int i), (1, .int n)] := hl
  have hls : ls.size = 2 := hl.1
  have key : ∀ v : Value, v.category = 1 → lg_sl [.int i, .int n, v] = [Slot.val (.int i), Slot.val (.int n), Slot.val v] → va_Z "jdk/internal/util/Preconditions" "SIOOBE_FORMATTER" "Ljava/util/function/BiFunction;" v (fun a => B ≤ a) s s.heap → W p l e (headSpec (.code yJ0_checkIndex_df160 cJ0_checkIndex_df160 2 none :: W0) ({ frames := 1, cells := 0, slots := 0, locals := 40 })).room s m ([.int i, .int n] : List Value).toArray below meth c s.heap [] 0 0 (MQ below (Qcw B sa cy dC dI none M) ([.int i, .int n] : List Value).toArray s 0 0 (fun q => B ≤ q)) (F0 m 0 ls []) := by
    intro v hvc hvl hZ
    refine lv_iload_n hx hb d_sK_0 rfl (lv_at hl 0 rfl) ?_
    refine lv_iload_n hx hb d_sK_1 rfl (lv_at hl 1 rfl) ?_
    refine va_gets hx hb hZ hS hown (hts _ w0_sf1053) (fun _ h => h) d_sK_2 ?_
    refine va_calli (a := ([.int i, .int n, v] : List Value).toArray) (post := fun (r : Int32) (_ : Unit) => r = i) (B := fun _ t => Bw B sa cy dC dI M t) (A1 := fun q => B ≤ q) (va_runS (As := [.int i, .int n, v]) (rest := []) ⟨hx, hb, hml, hown, hts⟩ (chk3_ok l B sa cy dC dI SA M i n v hi hn hvl) ⟨callB_of 3 hts (goodW0 w0_s3Kc) rfl rfl rfl (hts _ w0_s3I) (hts _ w0_s3Kl) ⟨by decide, by decide, by decide +kernel⟩ ⟨Nat.le_of_ble_eq_true rfl, Nat.le_of_ble_eq_true rfl⟩, hts _ w0_s3Ks⟩ (pre_sv hI hP hS hsz) rfl rfl hls rfl (lv_room (Nat.le_of_ble_eq_true rfl)) d_sK_5 ⟨Nat.le_of_ble_eq_true rfl, Nat.le_of_ble_eq_true rfl⟩) hS (fun _ _ h => h) (fun _ h => h) (fun r u t H1 locs1 ht _ hw hB _ _ hS1 => ?_)
    refine lv_pop hx hb d_sK_8 rfl ?_
    exact W.vret hx hb hr (fun t2 ht2 hW => ⟨⟨(), rfl, trivial, by rw [ht2, ← ht]; exact hB.1, by rw [ht2, ← ht]; exact hB.2⟩, hS1.F ht2⟩) hS1.2.2 d_sK_9
  rcases hI.2.2.2.2.2.2.2.2.2.2 with h | ⟨t, h⟩
  · exact key .null rfl rfl h
  · exact key (.ref t) rfl rfl h
set_option maxHeartbeats 4000000 in
theorem lch_ok (M : Mem) (j n : Nat) (hj : j < 7) (hn : n < (gTx j).length) : Met l yJ1_charAt_3b067 (.code yJ1_charAt_3b067 cJ1_charAt_3b067 2 (some .char) :: W0) ({ frames := 2, cells := 0, slots := 0, locals := 90 }) (Pcv B sa cy dC dI SA [.ref (sa (20 + j)), .int (nI n)] M) (Qcw B sa cy dC dI (some (.int ((gTx j).getD n 0))) M) 0 0 (fun q => B ≤ q) := by
  refine Met.ofW (cc := cJ1_charAt_3b067) (maxL := 2) (ret := (some .char)) (by decide +kernel) rfl ?_
  intro p e s m args below meth c s₁ B9 hml hv
  obtain ⟨rfl, hI, hsz, hP⟩ := hv
  have hx := B9.exec
  have hb := B9.bytes
  have hr := B9.returns
  have hlocks := B9.notSynchronized
  have hts : ∀ w ∈ W0, w.before ([.ref (sa (20 + j)), .int (nI n)] : List Value).toArray s = true := fun w hw => atoms_spec (ws := .code yJ1_charAt_3b067 cJ1_charAt_3b067 2 (some .char) :: W0) B9.pre w (List.mem_cons_of_mem _ hw)
  have hown : s.vm.findClass RJ1 = some m.cls := findClass_of_methodNamed B9.named
  have hS : va_S (fun q => B ≤ q) s.heap s.heap [] := va_S.rf
  have hl := lv_entry ([.ref (sa (20 + j)), .int (nI n)]) (n := 2) (Nat.le_of_ble_eq_true rfl)
  show W p l e _ s m _ below meth c s.heap [] 0 0 _ (entryFrame m ([.ref (sa (20 + j)), .int (nI n)] : List Value).toArray 2)
  rw [lg_entry_eq]
  generalize (lg_sl ([.ref (sa (20 + j)), .int (nI n)]) ++ List.replicate (2 - (lg_sl ([.ref (sa (20 + j)), .int (nI n)])).length) Slot.unset).toArray = ls at hl ⊢
  have hl : lv_has ls 2 [(0, .ref (sa (20 + j))), (1, .int (nI n))] := hl
  have hls : ls.size = 2 := hl.1
  obtain ⟨hO, hco, hva, hT⟩ := hI.2.2.2.2.2.2.2.1.1 j hj
  obtain ⟨t1, t2, t3⟩ := tx_len hj
  rw [t1, t2] at hT
  have hnl : n < 2 ^ 31 := by omega
  refine lv_iload_n hx hb d_s1C_0 rfl (lv_at hl 1 rfl) ?_
  refine lv_aload_n hx hb d_s1C_1 rfl (lv_at hl 0 rfl) ?_
  refine va_tlen hx hb hT hS (v := nI (gTx j).length) rfl d_s1C_2 ?_
  refine va_callv (a := ([.int (nI n), .int (nI (gTx j).length)] : List Value).toArray) (post := fun (_ : Unit) => True) (B := fun _ t => Bw B sa cy dC dI M t) (A1 := fun q => B ≤ q) (va_runS (As := [.int (nI n), .int (nI (gTx j).length)]) (rest := []) ⟨hx, hb, hml, hown, hts⟩ (chk_ok l B sa cy dC dI SA M (nI n) (nI (gTx j).length) (nI_pos hnl) (nI_lt hn (by omega))) ⟨callB_of 2 hts (goodW0 w0_sKc) rfl rfl rfl (hts _ w0_sI) (hts _ w0_sKl) ⟨by decide, by decide, by decide +kernel⟩ ⟨Nat.le_of_ble_eq_true rfl, Nat.le_of_ble_eq_true rfl⟩, hts _ w0_sKs⟩ (pre_sv hI hP hS hsz) rfl rfl hls rfl (lv_room (Nat.le_of_ble_eq_true rfl)) d_s1C_3 ⟨Nat.le_of_ble_eq_true rfl, Nat.le_of_ble_eq_true rfl⟩) hS (fun _ _ h => h) (fun _ h => h) (fun u t H1 locs1 ht _ hw hB _ _ hS1 => ?_)
  refine lv_aload_n hx hb d_s1C_6 rfl (lv_at hl 0 rfl) ?_
  refine lv_iload_n hx hb d_s1C_7 rfl (lv_at hl 1 rfl) ?_
  refine va_tb hx hb hT hS1 (i := nI n) (vp_in_nI hn (by omega)) (v := .int ((gTx j).getD n 0)) (by rw [nI_clamp hnl]) d_s1C_8 ?_
  refine lv_sipush (v := 255) hx hb d_s1C_9 (by decide) ?_
  refine lv_iand hx hb d_s1C_12 ?_
  refine lv_i2c hx hb d_s1C_13 (tx_ch hj n hn).1 ?_
  exact W.zret hx hb hr (tx_ch hj n hn).2 (fun t2 ht2 hW => ⟨⟨_, (), rfl, rfl, by rw [ht2, ← ht]; exact hB.1, by rw [ht2, ← ht]; exact hB.2⟩, hS1.F ht2⟩) hS1.2.2 d_s1C_14
set_option maxHeartbeats 4000000 in
theorem len_ok (M : Mem) (j : Nat) (hj : j < 7) : Met l yJ0_length_8abf5 (.code yJ0_length_8abf5 cJ0_length_8abf5 1 (some .int) :: W0) ({ frames := 2, cells := 0, slots := 0, locals := 80 }) (Pcv B sa cy dC dI SA [.ref (sa (10 + j))] M) (Qcw B sa cy dC dI (some (.int (Int32.ofNat (gTx j).length))) M) 0 0 (fun q => B ≤ q) := by
  refine Met.ofW (cc := cJ0_length_8abf5) (maxL := 1) (ret := (some .int)) (by decide +kernel) rfl ?_
  intro p e s m args below meth c s₁ B9 hml hv
  obtain ⟨rfl, hI, hsz, hP⟩ := hv
  have hx := B9.exec
  have hb := B9.bytes
  have hr := B9.returns
  have hlocks := B9.notSynchronized
  have hts : ∀ w ∈ W0, w.before ([.ref (sa (10 + j))] : List Value).toArray s = true := fun w hw => atoms_spec (ws := .code yJ0_length_8abf5 cJ0_length_8abf5 1 (some .int) :: W0) B9.pre w (List.mem_cons_of_mem _ hw)
  have hown : s.vm.findClass RJ0 = some m.cls := findClass_of_methodNamed B9.named
  have hS : va_S (fun q => B ≤ q) s.heap s.heap [] := va_S.rf
  have hl := lv_entry ([.ref (sa (10 + j))]) (n := 1) (Nat.le_of_ble_eq_true rfl)
  show W p l e _ s m _ below meth c s.heap [] 0 0 _ (entryFrame m ([.ref (sa (10 + j))] : List Value).toArray 1)
  rw [lg_entry_eq]
  generalize (lg_sl ([.ref (sa (10 + j))]) ++ List.replicate (1 - (lg_sl ([.ref (sa (10 + j))])).length) Slot.unset).toArray = ls at hl ⊢
  have hl : lv_has ls 1 [(0, .ref (sa (10 + j)))] := hl
  have hls : ls.size = 1 := hl.1
  obtain ⟨hO, hco, hva, hT⟩ := hI.2.2.2.2.2.2.2.1.1 j hj
  obtain ⟨t1, t2, t3⟩ := tx_len hj
  rw [t1, t2] at hT
  refine lv_aload_n hx hb d_sL_0 rfl (lv_at hl 0 rfl) ?_
  refine vk_getf hx hb hva hS hown (hts _ w0_sf9) (fun _ h => h) d_sL_1 ?_
  refine va_tlen hx hb hT hS (v := nI (gTx j).length) rfl d_sL_4 ?_
  refine lv_aload_n hx hb d_sL_5 rfl (lv_at hl 0 rfl) ?_
  refine va_calli (a := ([.ref (sa (10 + j))] : List Value).toArray) (post := fun (r : Int32) (_ : Unit) => r = 0) (B := fun _ t => Bw B sa cy dC dI M t) (A1 := fun q => B ≤ q) (va_runV (C := RJ0) (b := sa (10 + j)) (As := []) (rest := [.int (nI (gTx j).length)]) ⟨hx, hb, hml, hown, hts⟩ (coder_ok l B sa cy dC dI SA M j hj) ⟨callB_of 0 hts (goodW0 w0_sDc) rfl rfl rfl (hts _ w0_sI) (hts _ w0_sDl) ⟨by decide, by decide, by decide +kernel⟩ ⟨Nat.le_of_ble_eq_true rfl, Nat.le_of_ble_eq_true rfl⟩, hts _ w0_sDi, hts _ w0_sDs⟩ (pre_tx hj hI hP hS hsz) rfl rfl hls rfl (lv_room (Nat.le_of_ble_eq_true rfl)) d_sL_6 ⟨Nat.le_of_ble_eq_true rfl, Nat.le_of_ble_eq_true rfl⟩) hS (fun _ _ h => h) (fun _ h => h) (fun r u t H1 locs1 ht _ hw hB _ _ hS1 => ?_)
  subst hw
  refine lv_ishr hx hb d_sL_9 ?_
  rw [show nI (gTx j).length >>> ((0 : Int32) &&& 31) = Int32.ofNat (gTx j).length from sh_0 _]
  exact W.iret hx hb hr (fun t2 ht2 hW => ⟨⟨_, (), rfl, rfl, by rw [ht2, ← ht]; exact hB.1, by rw [ht2, ← ht]; exact hB.2⟩, hS1.F ht2⟩) hS1.2.2 d_sL_10
set_option maxHeartbeats 4000000 in
theorem chr_ok (M : Mem) (j n : Nat) (hj : j < 7) (hn : n < (gTx j).length) : Met l yJ0_charAt_5068e (.code yJ0_charAt_5068e cJ0_charAt_5068e 2 (some .char) :: W0) ({ frames := 5, cells := 0, slots := 0, locals := 200 }) (Pcv B sa cy dC dI SA [.ref (sa (10 + j)), .int (nI n)] M) (Qcw B sa cy dC dI (some (.int ((gTx j).getD n 0))) M) 0 0 (fun q => B ≤ q) := by
  refine Met.ofW (cc := cJ0_charAt_5068e) (maxL := 2) (ret := (some .char)) (by decide +kernel) rfl ?_
  intro p e s m args below meth c s₁ B9 hml hv
  obtain ⟨rfl, hI, hsz, hP⟩ := hv
  have hx := B9.exec
  have hb := B9.bytes
  have hr := B9.returns
  have hlocks := B9.notSynchronized
  have hts : ∀ w ∈ W0, w.before ([.ref (sa (10 + j)), .int (nI n)] : List Value).toArray s = true := fun w hw => atoms_spec (ws := .code yJ0_charAt_5068e cJ0_charAt_5068e 2 (some .char) :: W0) B9.pre w (List.mem_cons_of_mem _ hw)
  have hown : s.vm.findClass RJ0 = some m.cls := findClass_of_methodNamed B9.named
  have hS : va_S (fun q => B ≤ q) s.heap s.heap [] := va_S.rf
  have hl := lv_entry ([.ref (sa (10 + j)), .int (nI n)]) (n := 2) (Nat.le_of_ble_eq_true rfl)
  show W p l e _ s m _ below meth c s.heap [] 0 0 _ (entryFrame m ([.ref (sa (10 + j)), .int (nI n)] : List Value).toArray 2)
  rw [lg_entry_eq]
  generalize (lg_sl ([.ref (sa (10 + j)), .int (nI n)]) ++ List.replicate (2 - (lg_sl ([.ref (sa (10 + j)), .int (nI n)])).length) Slot.unset).toArray = ls at hl ⊢
  have hl : lv_has ls 2 [(0, .ref (sa (10 + j))), (1, .int (nI n))] := hl
  have hls : ls.size = 2 := hl.1
  obtain ⟨hO, hco, hva, hT⟩ := hI.2.2.2.2.2.2.2.1.1 j hj
  refine lv_aload_n hx hb d_sC_0 rfl (lv_at hl 0 rfl) ?_
  refine va_calli (a := ([.ref (sa (10 + j))] : List Value).toArray) (post := fun (r : Int32) (_ : Unit) => r = 1) (B := fun _ t => Bw B sa cy dC dI M t) (A1 := fun q => B ≤ q) (va_runV (C := RJ0) (b := sa (10 + j)) (As := []) (rest := []) ⟨hx, hb, hml, hown, hts⟩ (latin_ok l B sa cy dC dI SA M j hj) ⟨callB_of 0 hts (goodW0 w0_sIc) rfl rfl rfl (hts _ w0_sI) (hts _ w0_sIl) ⟨by decide, by decide, by decide +kernel⟩ ⟨Nat.le_of_ble_eq_true rfl, Nat.le_of_ble_eq_true rfl⟩, hts _ w0_sIi, hts _ w0_sIs⟩ (pre_tx hj hI hP hS hsz) rfl rfl hls rfl (lv_room (Nat.le_of_ble_eq_true rfl)) d_sC_1 ⟨Nat.le_of_ble_eq_true rfl, Nat.le_of_ble_eq_true rfl⟩) hS (fun _ _ h => h) (fun _ h => h) (fun r u t H1 locs1 ht _ hw hB _ _ hS1 => ?_)
  subst hw
  refine lv_if_eq (tgt := 16) hx hb d_sC_4 (by decide) (fun q => absurd q (by decide)) (fun _ => ?_)
  refine lv_aload_n hx hb d_sC_7 rfl (lv_at hl 0 rfl) ?_
  refine vk_getf hx hb hva hS1 hown (hts _ w0_sf9) (fun _ h => h) d_sC_8 ?_
  refine lv_iload_n hx hb d_sC_11 rfl (lv_at hl 1 rfl) ?_
  have hH1 : H1.size = B + M.length := by rw [← ht]; exact hB.1
  have hP1 : va_P (dC, dI) gCL (wd B sa cy M) H1 := by rw [← ht]; exact hB.2
  refine va_calli (a := ([.ref (sa (20 + j)), .int (nI n)] : List Value).toArray) (post := fun (r : Int32) (_ : Unit) => r = (gTx j).getD n 0) (B := fun _ t => Bw B sa cy dC dI M t) (A1 := fun q => B ≤ q) (va_runS (As := [.ref (sa (20 + j)), .int (nI n)]) (rest := []) ⟨hx, hb, hml, hown, hts⟩ (lch_ok l B sa cy dC dI SA M j n hj hn) ⟨callB_of 2 hts (goodW0 w0_s1Cc) rfl rfl rfl (hts _ w0_s1I) (hts _ w0_s1Cl) ⟨by decide, by decide, by decide +kernel⟩ ⟨Nat.le_of_ble_eq_true rfl, Nat.le_of_ble_eq_true rfl⟩, hts _ w0_s1Cs⟩ (pre_sv hI hP1 hS1 hH1) rfl rfl hls rfl (lv_room (Nat.le_of_ble_eq_true rfl)) d_sC_12 ⟨Nat.le_of_ble_eq_true rfl, Nat.le_of_ble_eq_true rfl⟩) hS1 (fun _ _ h => h) (fun _ h => h) (fun r2 u2 t3 H2 locs2 ht3 _ hw2 hB2 _ _ hS2 => ?_)
  subst hw2
  exact W.zret hx hb hr (tx_ch hj n hn).2 (fun t2 ht2 hW => ⟨⟨_, (), rfl, rfl, by rw [ht2, ← ht3]; exact hB2.1, by rw [ht2, ← ht3]; exact hB2.2⟩, hS2.F ht2⟩) hS2.2.2 d_sC_15
theorem lib_ok : MetLib l B sa cy dC dI SA := by
  refine ⟨fill_ok l B sa cy dC dI SA, fun M j hj => len_ok l B sa cy dC dI SA M j hj, fun M j i x hj hx => ?_⟩
  obtain ⟨n, hn, rfl, rfl⟩ := tx_at hj hx
  exact chr_ok l B sa cy dC dI SA M j n hj hn
end SNL
end
section
/-! THE CLAIM OUT OF ONE WALK OF THE LAW'S BODY. Your part is whole_start (and what it stands on); all else here is the same for every law, but numbers. -/
def R_law : String := "GrassParkLaw"
def lw_P (b : Addr) (xs : List Int32) (args : Array Value) (s : State) : Prop := args = #[.ref b] ∧ s.IntsAt b xs ∧ xs.length ≤ 3072 ∧ (Jvm.Cond.and given_1 narrow_1).before args s = true
def lw_Q (_ : Array Value) (s : State) (o : Outcome) (t : State) : Prop := o = .returned (some (.int 1)) ∧ Framed s o t [] 601024 7293034
def lw_Z (below : List Frame) (a : Array Value) (s : State) : State → Prop := fun t => ∃ o, t.status = .running ∧ Ended t below o ∧ lw_Q a s o t
/-- the law's own end, with 1 on the stack, nothing written that was there before, its room as the claim has it -/
theorem lw_ret {p : Program} {l : Launch} {e : Env} {s : State} {m : MethodId} {below : List Frame} {meth : Method} {c : Code} {b : Nat} (hx : p.tables.exec = Jvm.exec) (hb : c.code = code) (hr : meth.sig.returnType = ret) (hlocks : meth.locks = false) {pc : Nat} {H : Heap} {ls : Array Slot} (hdg : decode code pc = .ok (.ireturn, 1)) : W p l e room_1 s m #[Value.ref b] below meth c H [] 601024 7293034 (lw_Z below #[Value.ref b] s) (F0 m pc ls [.int 1]) := by
  intro T hT X
  obtain ⟨fs, hret, hrun, hended, hW, hframe⟩ := X.leave (v := some (.int 1)) (hlocks := hlocks) (fun h => by rw [hr] at h; cases h)
  have hmeth' : T.vm.method? m = some meth := X.method'
  refine ⟨T.setFrames fs, ?_, .returned (some (.int 1)), hrun, hended, rfl, ⟨_, rfl⟩, hW, hframe⟩
  jvm_step X.here [X.here.top, hx, hb, hdg, hmeth', hr, ret, narrow_b1]
  (try refine ⟨rfl, ?_⟩); (try refine ⟨rfl, ?_⟩)
  first | (intro acts; rw [hret _ acts rfl rfl rfl]) | rw [hret _ _ rfl rfl rfl]
  exact Steps.refl _
/-- what holds at the law's entry: the machine, the code, the tables' words (any of lw_tbl by 'hts w (by decide +kernel)'), the script of L ints xs at the cell b, what the Statement gives of the start (any of its parts by flat_of_before) -/
def lw_At (p : Program) (s : State) (m : MethodId) (meth : Method) (c : Code) (b L : Nat) (xs : Nat → Int32) : Prop :=
  p.tables.exec = Jvm.exec ∧ c.code = code ∧ meth.sig.returnType = ret ∧ c.maxLocals = 7 ∧ s.vm.findClass R_law = some m.cls ∧ (∀ w ∈ lw_tbl, w.before #[Value.ref b] s = true) ∧ va_X b L xs s s.heap ∧ b < s.heap.size ∧ meth.locks = false ∧ (Jvm.Cond.and given_1 narrow_1).before #[Value.ref b] s = true
/-! THE START: what the Statement gives of the entry, in the words of the soundness -/
theorem xs_of {args : Array Value} {s : State} {tm : Term} {l : List Int32} (hN : l.length < 2 ^ 31) (harr : (Cond.arrayOf tm .int).before args s = true) (hlen : (Cond.eq (.length tm) (.int (Int32.ofNat l.length))).before args s = true) (hel : ∀ j : Nat, j < l.length → (Cond.eq (.elem tm (.int (Int32.ofNat j))) (.int ((gNth l j).getD 0))).before args s = true) : ∃ t : Nat, tm.eval args s none [] s = some (.ref t) ∧ va_X t l.length (fun i => (gNth l i).getD 0) s s.heap ∧ t < s.heap.size := by
  have hlen2 := va_eqt hlen
  obtain ⟨t, ht, cell, h1, h2, h3, h4, h5, h6, -⟩ := va_Tof (A := fun _ => False) (f := fun j => .int ((gNth l j).getD 0)) hN harr hlen2 (fun j hj => va_eqt (hel j hj)) (fun _ _ h => h)
  have hsz : cell.slots.size < 2 ^ 31 := by
    obtain ⟨t2, cell2, ht2, hat, -⟩ := Term.length_spec hlen2
    obtain ⟨hc2, -⟩ := State.arrayAt?_spec hat
    cases ht.symm.trans ht2
    cases h1.symm.trans hc2
    have hv := hlen2
    simp only [Term.eval, ht2, hat, Option.bind_eq_bind, Option.bind_some] at hv
    by_cases hlt : cell.slots.size < 2147483648
    · exact hlt
    · simp [hlt] at hv
  have he : cell.slots.size = l.length := by
    have h7 : nI cell.slots.size = nI l.length := h5
    exact (nI_eq hsz hN).mp h7
  exact ⟨t, ht, ⟨cell, h1, h2, h3, he, h6⟩, (Array.getElem?_eq_some_iff.mp h1).1⟩
set_option maxRecDepth 100000 in
theorem st_1 {args : Array Value} {s : State} (hgv : (Jvm.Cond.and given_1 narrow_1).before args s = true) : ∃ t : Nat, (Term.static "GrassPark" "ACROSS" "[I").eval args s none [] s = some (.ref t) ∧ ∀ (l : List Int32), gSx none 1 = some l → va_X t l.length (fun i => (gNth l i).getD 0) s s.heap ∧ t < s.heap.size := by
  have hs := flat_of_before _ hgv
  obtain ⟨t, h1, h2, h3⟩ := xs_of (args := args) (s := s) (tm := .static "GrassPark" "ACROSS" "[I") (l := (gSx none 1).getD []) (by decide +kernel) (hs _ (by decide +kernel)) (hs _ (by decide +kernel)) (fun j hj => hs _ (by
    have hj : j < 8 := hj
    revert j
    decide +kernel))
  exact ⟨t, h1, fun l hl => by cases hl; exact ⟨h2, h3⟩⟩
set_option maxRecDepth 100000 in
theorem st_2 {args : Array Value} {s : State} (hgv : (Jvm.Cond.and given_1 narrow_1).before args s = true) : ∃ t : Nat, (Term.static "GrassPark" "DOWN" "[I").eval args s none [] s = some (.ref t) ∧ ∀ (l : List Int32), gSx none 2 = some l → va_X t l.length (fun i => (gNth l i).getD 0) s s.heap ∧ t < s.heap.size := by
  have hs := flat_of_before _ hgv
  obtain ⟨t, h1, h2, h3⟩ := xs_of (args := args) (s := s) (tm := .static "GrassPark" "DOWN" "[I") (l := (gSx none 2).getD []) (by decide +kernel) (hs _ (by decide +kernel)) (hs _ (by decide +kernel)) (fun j hj => hs _ (by
    have hj : j < 8 := hj
    revert j
    decide +kernel))
  exact ⟨t, h1, fun l hl => by cases hl; exact ⟨h2, h3⟩⟩
set_option maxRecDepth 100000 in
theorem st_3 {args : Array Value} {s : State} (hgv : (Jvm.Cond.and given_1 narrow_1).before args s = true) : ∃ t : Nat, (Term.static "GrassPark$Reader" "ASKS" "[I").eval args s none [] s = some (.ref t) ∧ ∀ (l : List Int32), gSx none 3 = some l → va_X t l.length (fun i => (gNth l i).getD 0) s s.heap ∧ t < s.heap.size := by
  have hs := flat_of_before _ hgv
  obtain ⟨t, h1, h2, h3⟩ := xs_of (args := args) (s := s) (tm := .static "GrassPark$Reader" "ASKS" "[I") (l := (gSx none 3).getD []) (by decide +kernel) (hs _ (by decide +kernel)) (hs _ (by decide +kernel)) (fun j hj => hs _ (by
    have hj : j < 13 := hj
    revert j
    decide +kernel))
  exact ⟨t, h1, fun l hl => by cases hl; exact ⟨h2, h3⟩⟩
set_option maxRecDepth 100000 in
theorem st_4 {args : Array Value} {s : State} (hgv : (Jvm.Cond.and given_1 narrow_1).before args s = true) : ∃ t : Nat, (Term.static "GrassPark$Reader" "YES" "[I").eval args s none [] s = some (.ref t) ∧ ∀ (l : List Int32), gSx none 4 = some l → va_X t l.length (fun i => (gNth l i).getD 0) s s.heap ∧ t < s.heap.size := by
  have hs := flat_of_before _ hgv
  obtain ⟨t, h1, h2, h3⟩ := xs_of (args := args) (s := s) (tm := .static "GrassPark$Reader" "YES" "[I") (l := (gSx none 4).getD []) (by decide +kernel) (hs _ (by decide +kernel)) (hs _ (by decide +kernel)) (fun j hj => hs _ (by
    have hj : j < 13 := hj
    revert j
    decide +kernel))
  exact ⟨t, h1, fun l hl => by cases hl; exact ⟨h2, h3⟩⟩
theorem w0_N : Cond.instantiable "java/util/NoSuchElementException" 6 ∈ W0 := ckW_in (i := 5214) (by decide +kernel)
theorem ls_1 : (.laysStatic "GrassPark" "ACROSS" "[I" : Cond) ∈ lw_tbl := gTb_in _ gTb_4 _ (gNth_mem _ 71 _ rfl)
theorem ls_2 : (.laysStatic "GrassPark" "DOWN" "[I" : Cond) ∈ lw_tbl := gTb_in _ gTb_4 _ (gNth_mem _ 73 _ rfl)
theorem ls_3 : (.laysStatic "GrassPark$Reader" "ASKS" "[I" : Cond) ∈ lw_tbl := gTb_in _ gTb_4 _ (gNth_mem _ 10 _ rfl)
theorem ls_4 : (.laysStatic "GrassPark$Reader" "YES" "[I" : Cond) ∈ lw_tbl := gTb_in _ gTb_4 _ (gNth_mem _ 21 _ rfl)
theorem li_1 : (.initialized "GrassPark" : Cond) ∈ lw_tbl := gTb_in _ gTb_1 _ (gNth_mem _ 1 _ rfl)
theorem li_2 : (.initialized "GrassPark$Reader" : Cond) ∈ lw_tbl := gTb_in _ gTb_1 _ (gNth_mem _ 3 _ rfl)
theorem lo_4 : (.arrayOver (.object "GrassPark$Land") : Cond) ∈ lw_tbl := gTb_in _ gTb_3 _ (gNth_mem _ 31 _ rfl)
theorem lo_5 : (.arrayOver (.object "GrassPark$Text") : Cond) ∈ lw_tbl := gTb_in _ gTb_2 _ (gNth_mem _ 69 _ rfl)
theorem lo_6 : (.arrayOver (.object "GrassPark$Walker") : Cond) ∈ lw_tbl := gTb_in _ gTb_1 _ (gNth_mem _ 112 _ rfl)
theorem lo_7 : (.arrayOver (.object "GrassPark$Wish") : Cond) ∈ lw_tbl := gTb_in _ gTb_1 _ (gNth_mem _ 110 _ rfl)
theorem lo_8 : (.arrayOver (.array .int) : Cond) ∈ lw_tbl := gTb_in _ gTb_2 _ (gNth_mem _ 154 _ rfl)
theorem lst_0 : (.stringRef "GrassPark$Reader" (gTi 0) (gTt 0) : Cond) ∈ lw_tbl := gTb_in _ gTb_3 _ (gNth_mem _ 168 _ rfl)
theorem lst_1 : (.stringRef "GrassPark$Reader" (gTi 1) (gTt 1) : Cond) ∈ lw_tbl := gTb_in _ gTb_3 _ (gNth_mem _ 169 _ rfl)
theorem lst_2 : (.stringRef "GrassPark$Reader" (gTi 2) (gTt 2) : Cond) ∈ lw_tbl := gTb_in _ gTb_3 _ (gNth_mem _ 235 _ rfl)
theorem lst_3 : (.stringRef "GrassPark$Reader" (gTi 3) (gTt 3) : Cond) ∈ lw_tbl := gTb_in _ gTb_3 _ (gNth_mem _ 230 _ rfl)
theorem lst_4 : (.stringRef "GrassPark$Reader" (gTi 4) (gTt 4) : Cond) ∈ lw_tbl := gTb_in _ gTb_4 _ (gNth_mem _ 23 _ rfl)
theorem lst_5 : (.stringRef "GrassPark$Reader" (gTi 5) (gTt 5) : Cond) ∈ lw_tbl := gTb_in _ gTb_4 _ (gNth_mem _ 22 _ rfl)
theorem lst_6 : (.stringRef "GrassPark$Reader" (gTi 6) (gTt 6) : Cond) ∈ lw_tbl := gTb_in _ gTb_4 _ (gNth_mem _ 8 _ rfl)
theorem ls_C : (.laysStatic "java/lang/String" "COMPACT_STRINGS" "Z" : Cond) ∈ lw_tbl := gTb_in _ gTb_3 _ (gNth_mem _ 183 _ rfl)
theorem ls_O : (.laysStatic "jdk/internal/util/Preconditions" "SIOOBE_FORMATTER" "Ljava/util/function/BiFunction;" : Cond) ∈ lw_tbl := gTb_in _ gTb_3 _ (gNth_mem _ 199 _ rfl)
theorem li_C : (.initialized "java/lang/String" : Cond) ∈ lw_tbl := gTb_in _ gTb_1 _ (gNth_mem _ 15 _ rfl)
theorem li_O : (.initialized "jdk/internal/util/Preconditions" : Cond) ∈ lw_tbl := gTb_in _ gTb_1 _ (gNth_mem _ 17 _ rfl)
def tmX (j : Nat) : Term := .string "GrassPark$Reader" (gTi j)
def tsqC (k j : Nat) : Cond := Cond.eq (.elem (.field (tmX k) "java/lang/String" "value" "[B") (.int (Int32.ofNat j))) (.int ((gTxs.getD k []).getD j 0))
theorem tsq_in {L : List Cond} {p n k j : Nat} (h : ((L.drop p).take n) = (List.range n).map (tsqC k)) (hj : j < n) : tsqC k j ∈ L :=
  List.mem_of_mem_drop (List.mem_of_mem_take (h ▸ List.mem_map_of_mem (List.mem_range.mpr hj)))
set_option maxRecDepth 100000 in
theorem tsq_0 : (((flatC (Jvm.Cond.and given_1 narrow_1)).drop ((flatC (Jvm.Cond.and given_1 narrow_1)).findIdx (fun c => decide (c = tsqC 0 0)))).take 22) = (List.range 22).map (tsqC 0) := by decide +kernel
theorem te_0 {args : Array Value} {s : State} (hgv : (Jvm.Cond.and given_1 narrow_1).before args s = true) : ∀ j : Nat, j < gTl.getD 0 0 → (Cond.eq (.elem (.field (tmX 0) "java/lang/String" "value" "[B") (.int (Int32.ofNat j))) (.int ((gTxs.getD 0 []).getD j 0))).before args s = true := fun j hj => flat_of_before _ hgv _ (tsq_in tsq_0 hj)
set_option maxRecDepth 100000 in
theorem tsq_1 : (((flatC (Jvm.Cond.and given_1 narrow_1)).drop ((flatC (Jvm.Cond.and given_1 narrow_1)).findIdx (fun c => decide (c = tsqC 1 0)))).take 17) = (List.range 17).map (tsqC 1) := by decide +kernel
theorem te_1 {args : Array Value} {s : State} (hgv : (Jvm.Cond.and given_1 narrow_1).before args s = true) : ∀ j : Nat, j < gTl.getD 1 0 → (Cond.eq (.elem (.field (tmX 1) "java/lang/String" "value" "[B") (.int (Int32.ofNat j))) (.int ((gTxs.getD 1 []).getD j 0))).before args s = true := fun j hj => flat_of_before _ hgv _ (tsq_in tsq_1 hj)
set_option maxRecDepth 100000 in
theorem tsq_2 : (((flatC (Jvm.Cond.and given_1 narrow_1)).drop ((flatC (Jvm.Cond.and given_1 narrow_1)).findIdx (fun c => decide (c = tsqC 2 0)))).take 2) = (List.range 2).map (tsqC 2) := by decide +kernel
theorem te_2 {args : Array Value} {s : State} (hgv : (Jvm.Cond.and given_1 narrow_1).before args s = true) : ∀ j : Nat, j < gTl.getD 2 0 → (Cond.eq (.elem (.field (tmX 2) "java/lang/String" "value" "[B") (.int (Int32.ofNat j))) (.int ((gTxs.getD 2 []).getD j 0))).before args s = true := fun j hj => flat_of_before _ hgv _ (tsq_in tsq_2 hj)
set_option maxRecDepth 100000 in
theorem tsq_3 : (((flatC (Jvm.Cond.and given_1 narrow_1)).drop ((flatC (Jvm.Cond.and given_1 narrow_1)).findIdx (fun c => decide (c = tsqC 3 0)))).take 36) = (List.range 36).map (tsqC 3) := by decide +kernel
theorem te_3 {args : Array Value} {s : State} (hgv : (Jvm.Cond.and given_1 narrow_1).before args s = true) : ∀ j : Nat, j < gTl.getD 3 0 → (Cond.eq (.elem (.field (tmX 3) "java/lang/String" "value" "[B") (.int (Int32.ofNat j))) (.int ((gTxs.getD 3 []).getD j 0))).before args s = true := fun j hj => flat_of_before _ hgv _ (tsq_in tsq_3 hj)
set_option maxRecDepth 100000 in
theorem tsq_4 : (((flatC (Jvm.Cond.and given_1 narrow_1)).drop ((flatC (Jvm.Cond.and given_1 narrow_1)).findIdx (fun c => decide (c = tsqC 4 0)))).take 2) = (List.range 2).map (tsqC 4) := by decide +kernel
theorem te_4 {args : Array Value} {s : State} (hgv : (Jvm.Cond.and given_1 narrow_1).before args s = true) : ∀ j : Nat, j < gTl.getD 4 0 → (Cond.eq (.elem (.field (tmX 4) "java/lang/String" "value" "[B") (.int (Int32.ofNat j))) (.int ((gTxs.getD 4 []).getD j 0))).before args s = true := fun j hj => flat_of_before _ hgv _ (tsq_in tsq_4 hj)
set_option maxRecDepth 100000 in
theorem tsq_5 : (((flatC (Jvm.Cond.and given_1 narrow_1)).drop ((flatC (Jvm.Cond.and given_1 narrow_1)).findIdx (fun c => decide (c = tsqC 5 0)))).take 3) = (List.range 3).map (tsqC 5) := by decide +kernel
theorem te_5 {args : Array Value} {s : State} (hgv : (Jvm.Cond.and given_1 narrow_1).before args s = true) : ∀ j : Nat, j < gTl.getD 5 0 → (Cond.eq (.elem (.field (tmX 5) "java/lang/String" "value" "[B") (.int (Int32.ofNat j))) (.int ((gTxs.getD 5 []).getD j 0))).before args s = true := fun j hj => flat_of_before _ hgv _ (tsq_in tsq_5 hj)
set_option maxRecDepth 100000 in
theorem tsq_6 : (((flatC (Jvm.Cond.and given_1 narrow_1)).drop ((flatC (Jvm.Cond.and given_1 narrow_1)).findIdx (fun c => decide (c = tsqC 6 0)))).take 69) = (List.range 69).map (tsqC 6) := by decide +kernel
theorem te_6 {args : Array Value} {s : State} (hgv : (Jvm.Cond.and given_1 narrow_1).before args s = true) : ∀ j : Nat, j < gTl.getD 6 0 → (Cond.eq (.elem (.field (tmX 6) "java/lang/String" "value" "[B") (.int (Int32.ofNat j))) (.int ((gTxs.getD 6 []).getD j 0))).before args s = true := fun j hj => flat_of_before _ hgv _ (tsq_in tsq_6 hj)
set_option maxRecDepth 100000 in
theorem tx_start {s : State} {args : Array Value} (hgv : (Jvm.Cond.and given_1 narrow_1).before args s = true) (hts : ∀ w ∈ lw_tbl, w.before args s = true) : ∃ adK adV : Nat → Nat, vk_S 7 gTl gTxs adK adV (fun a => s.heap.size ≤ a) s s.heap ∧ ∀ k : Nat, k < 7 → vk_R "GrassPark$Reader" (gTi k) (gTt k) (adK k) s := by
  have hs := flat_of_before _ hgv
  have hA : ∀ a : Nat, a < s.heap.size → ¬ s.heap.size ≤ a := fun a h => Nat.not_le.mpr h
  obtain ⟨adK, adV, h1, h2⟩ := vk_Sof (args := args) (s := s) (N := 7) (tm := tmX) (len := gTl) (byt := gTxs) (A := fun a => s.heap.size ≤ a) (by decide +kernel) (fun i hi => hs _ (by revert i; decide +kernel)) (fun i hi => hs _ (by revert i; decide +kernel)) (fun i hi => hs _ (by revert i; decide +kernel)) (fun i hi => hs _ (by revert i; decide +kernel))
    (fun i hi => by
      match i, hi with
      | 0, _ => exact te_0 hgv
      | 1, _ => exact te_1 hgv
      | 2, _ => exact te_2 hgv
      | 3, _ => exact te_3 hgv
      | 4, _ => exact te_4 hgv
      | 5, _ => exact te_5 hgv
      | 6, _ => exact te_6 hgv
      | n + 7, h => omega)
    (fun i j hi hj hij => by
      have h9 : ∀ i : Nat, i < 7 → ∀ j : Nat, j < 7 → i < j → (Cond.not (Cond.eq (tmX i) (tmX j))) ∈ flatC (Jvm.Cond.and given_1 narrow_1) ∨ (Cond.not (Cond.eq (tmX j) (tmX i))) ∈ flatC (Jvm.Cond.and given_1 narrow_1) := by decide +kernel
      rcases Nat.lt_or_gt_of_ne hij with q | q
      · rcases h9 i hi j hj q with h9 | h9
        · exact Or.inl (hs _ h9)
        · exact Or.inr (hs _ h9)
      · rcases h9 j hj i hi q with h9 | h9
        · exact Or.inr (hs _ h9)
        · exact Or.inl (hs _ h9)) hA
  refine ⟨adK, adV, h1, fun k hk => ?_⟩
  match k, hk with
  | 0, hk => exact vk_R.of (hts _ lst_0) (h2 0 hk)
  | 1, hk => exact vk_R.of (hts _ lst_1) (h2 1 hk)
  | 2, hk => exact vk_R.of (hts _ lst_2) (h2 2 hk)
  | 3, hk => exact vk_R.of (hts _ lst_3) (h2 3 hk)
  | 4, hk => exact vk_R.of (hts _ lst_4) (h2 4 hk)
  | 5, hk => exact vk_R.of (hts _ lst_5) (h2 5 hk)
  | 6, hk => exact vk_R.of (hts _ lst_6) (h2 6 hk)
  | n + 7, h => omega
def saF (b t1 t2 t3 t4 : Nat) (ad av : Nat → Nat) (j : Nat) : Nat := cond (Nat.blt j 10) (match j with | 0 => b | 1 => t1 | 2 => t2 | 3 => t3 | _ => t4) (cond (Nat.blt j 20) (ad (j - 10)) (av (j - 20)))
theorem blt_f {a b : Nat} (h : b ≤ a) : Nat.blt a b = false := by
  cases h9 : Nat.blt a b with
  | false => rfl
  | true =>
    have : a < b := Nat.le_of_ble_eq_true h9
    omega
theorem blt_t {a b : Nat} (h : a < b) : Nat.blt a b = true := Nat.ble_eq_true_of_le h
theorem saF_k (b t1 t2 t3 t4 : Nat) (ad av : Nat → Nat) {k : Nat} (h : k < 7) : saF b t1 t2 t3 t4 ad av (10 + k) = ad k := by
  unfold saF
  rw [blt_f (by omega), blt_t (by omega), Nat.add_sub_cancel_left]
  rfl
theorem saF_v (b t1 t2 t3 t4 : Nat) (ad av : Nat → Nat) (k : Nat) : saF b t1 t2 t3 t4 ad av (20 + k) = av k := by
  unfold saF
  rw [blt_f (by omega), blt_f (by omega), Nat.add_sub_cancel_left]
  rfl
theorem vkS_cong {N : Nat} {len : List Nat} {byt : List (List Int32)} {aK aV bK bV : Nat → Nat} {A : Nat → Prop} {U : State} {H : Heap} (hK : ∀ k, k < N → bK k = aK k) (hV : ∀ k, k < N → bV k = aV k) (h : vk_S N len byt aK aV A U H) : vk_S N len byt bK bV A U H := by
  refine ⟨fun i hi => ?_, fun i j hi hj e => h.2 i j hi hj (by rw [← hK i hi, ← hK j hj]; exact e)⟩
  rw [hK i hi, hV i hi]
  exact h.1 i hi
theorem wn_in : ∀ w ∈ WN, w ∈ lw_tbl := by
  intro w hw
  obtain ⟨i, -, hi⟩ := List.mem_filterMap.mp hw
  split at hi
  · rename_i l9 hl
    exact gTb_in _ (gNth_mem _ _ _ hl) _ (gNth_mem _ _ _ hi)
  · cases hi
theorem w0_lw : ∀ w ∈ W0, w ∈ lw_tbl := fun w hw => (List.mem_filter.mp hw).1
set_option maxHeartbeats 4000000 in
theorem inv_start {p : Program} {s : State} {m : MethodId} {meth : Method} {c : Code} {b L : Nat} {xs : Nat → Int32} (C0 : lw_At p s m meth c b L xs) {sc : List Int32} (hsL : sc.length = L) (hsx : ∀ j, j < L → xs j = (gNth sc j).getD 0) : ∃ (sa : Nat → Nat) (cy : Nat → ClassId) (dC : Nat → ClassId) (dI : Nat → Nat → Nat), sa 0 = b ∧ Inv s.heap.size sa cy dC dI (some sc) s := by
  obtain ⟨hx, hb, hr, hml, hown, hts, hX, hbl, hlocks, hgv⟩ := C0
  have htw : ∀ w ∈ W0, w.before #[Value.ref b] s = true := fun w hw => hts w (w0_lw w hw)
  have hcls : ∀ k : Nat, ∃ x : ClassId × (Nat → Nat), ∀ q : vw_C, gCL[k]? = some q → u_Kn s q.1 q.2.1 q.2.2 x.1 x.2 := by
    intro k
    by_cases hk : k < 12
    · have hty : ∃ (q : vw_C) (ty : Nat → FieldType), gNth gCL k = some q ∧ gNth gTys k = some ty := by
        match k, hk with
        | 0, _ => exact ⟨_, _, rfl, rfl⟩
        | 1, _ => exact ⟨_, _, rfl, rfl⟩
        | 2, _ => exact ⟨_, _, rfl, rfl⟩
        | 3, _ => exact ⟨_, _, rfl, rfl⟩
        | 4, _ => exact ⟨_, _, rfl, rfl⟩
        | 5, _ => exact ⟨_, _, rfl, rfl⟩
        | 6, _ => exact ⟨_, _, rfl, rfl⟩
        | 7, _ => exact ⟨_, _, rfl, rfl⟩
        | 8, _ => exact ⟨_, _, rfl, rfl⟩
        | 9, _ => exact ⟨_, _, rfl, rfl⟩
        | 10, _ => exact ⟨_, _, rfl, rfl⟩
        | 11, _ => exact ⟨_, _, rfl, rfl⟩
        | n + 12, hk => omega
      obtain ⟨q, ty, e1, e2⟩ := hty
      obtain ⟨i1, -, -⟩ := i2_ok e1 e2 hk
      obtain ⟨cC, iS, h⟩ := u_known htw (u_in e1 hk) (htw _ i1)
      refine ⟨(cC, iS), fun q' hq' => ?_⟩
      rw [← nth_eq, e1] at hq'
      cases hq'
      exact h
    · by_cases hk2 : k = 12
      · subst hk2
        obtain ⟨cC, iS, h⟩ := u_known (C := "java/util/NoSuchElementException") (T := fun _ => ("", "", "", false)) (N := 0) htw (fun w hw => by cases hw) (htw _ w0_N)
        exact ⟨(cC, iS), fun q' hq' => by cases hq'; exact h⟩
      · exact ⟨(0, fun _ => 0), fun q' hq' => by
          have h9 : k < 13 := (List.getElem?_eq_some_iff.mp hq').1
          omega⟩
  have harr : ∀ t : Nat, ∃ cA : ClassId, t ≤ 8 → ArrOfT s cA (gTyL t) ∧ va_RA s cA (gTyL t) := by
    intro t
    have hp : ∀ ty : FieldType, (Cond.arrayClass ty).before #[Value.ref b] s = true → ∃ cA : ClassId, ArrOfT s cA ty ∧ s.vm.findClass ("[" ++ ty.toString) = some cA := by
      intro ty h
      obtain ⟨cA, kA, comp, h1, h2, h3⟩ := Cond.arrayClass_spec h
      exact ⟨cA, fun n z => ⟨fun k h => (by cases h), kA, h2, comp, h3⟩, h1⟩
    have ho : ∀ C : String, (Cond.arrayOver (.object C)).before #[Value.ref b] s = true → ∃ cA : ClassId, ArrOfT s cA (.object C) ∧ va_RA s cA (.object C) := by
      intro C h
      obtain ⟨comp, cA, kA, h1, h2, h3, h4, h5⟩ := Cond.arrayOver_spec h
      exact ⟨cA, fun n z => ⟨fun k h => (by cases h), kA, h3, comp, h4⟩, kA, comp, h3, h4, h1, h5⟩
    by_cases ht : t ≤ 8
    · rcases (show t = 0 ∨ t = 1 ∨ t = 2 ∨ t = 3 ∨ t = 4 ∨ t = 5 ∨ t = 6 ∨ t = 7 ∨ t = 8 by omega) with rfl | rfl | rfl | rfl | rfl | rfl | rfl | rfl | rfl
      · obtain ⟨cA, h1, h2⟩ := hp .byte (htw _ w0_aB); exact ⟨cA, fun _ => ⟨h1, h2⟩⟩
      · obtain ⟨cA, h1, h2⟩ := hp .int (htw _ w0_aI); exact ⟨cA, fun _ => ⟨h1, h2⟩⟩
      · obtain ⟨cA, h1, h2⟩ := hp .long (htw _ w0_aJ); exact ⟨cA, fun _ => ⟨h1, h2⟩⟩
      · obtain ⟨cA, h1, h2⟩ := hp .boolean (htw _ w0_aZ); exact ⟨cA, fun _ => ⟨h1, h2⟩⟩
      · obtain ⟨cA, h⟩ := ho _ (hts _ lo_4); exact ⟨cA, fun _ => h⟩
      · obtain ⟨cA, h⟩ := ho _ (hts _ lo_5); exact ⟨cA, fun _ => h⟩
      · obtain ⟨cA, h⟩ := ho _ (hts _ lo_6); exact ⟨cA, fun _ => h⟩
      · obtain ⟨cA, h⟩ := ho _ (hts _ lo_7); exact ⟨cA, fun _ => h⟩
      · obtain ⟨comp, cA, kA, h1, h2, h3, h4, h5⟩ := arrayOverA_spec (hts _ lo_8)
        exact ⟨cA, fun _ => ⟨fun n z => ⟨fun k h => (by cases h), kA, h3, comp, h4⟩, h5⟩⟩
    · exact ⟨0, fun h => absurd h ht⟩
  obtain ⟨t1, e1, f1⟩ := st_1 hgv
  obtain ⟨t2, e2, f2⟩ := st_2 hgv
  obtain ⟨t3, e3, f3⟩ := st_3 hgv
  obtain ⟨t4, e4, f4⟩ := st_4 hgv
  obtain ⟨adK, adV, hvS, hvR⟩ := tx_start hgv hts
  refine ⟨saF b t1 t2 t3 t4 adK adV, fun t => (harr t).choose, fun k => (hcls k).choose.1, fun k => (hcls k).choose.2, rfl, ⟨fun k q hq => (hcls k).choose_spec q hq, fun k q hk => ?_⟩, fun w hw => ?_, fun j l9 hj => ?_, fun j h0 h5 => ?_, Nat.le_refl _, fun t h4 h7 => ?_, ?_, vkS_cong (fun k hk => saF_k _ _ _ _ _ _ _ hk) (fun k _ => saF_v _ _ _ _ _ _ _ k) hvS, fun k hk => ?_, ?_, ?_⟩
  · have h9 : k ≤ 8 := by
      have h8 : k < 9 := (List.getElem?_eq_some_iff.mp hk).1
      omega
    rw [gTy2_at _ h9] at hk
    cases hk
    exact (harr k).choose_spec h9
  · have hs := List.all_eq_true.mp wn_shape w hw
    have hn := hts w (wn_in w hw)
    cases w <;> first | exact va_Nw.of rfl hn | cases hs
  · match j, hj with
    | 0, hj =>
      cases hj
      obtain ⟨scr, g1, g2, g3, g4, g5⟩ := hX
      exact ⟨⟨scr, g1, g2, g3, by rw [hsL]; exact g4, fun j hj => by rw [g5 j (by rw [← hsL]; exact hj), hsx j (by rw [← hsL]; exact hj)]⟩, hbl⟩
    | 1, hj => exact f1 l9 hj
    | 2, hj => exact f2 l9 hj
    | 3, hj => exact f3 l9 hj
    | 4, hj => exact f4 l9 hj
    | n + 5, hj => cases hj
  · have hA : ∀ a : Nat, a < s.heap.size → ¬ s.heap.size ≤ a := fun a h => Nat.not_le.mpr h
    match j, h0, h5 with
    | 1, _, _ => exact va_Zof (hts _ ls_1) (hts _ li_1) e1 hA
    | 2, _, _ => exact va_Zof (hts _ ls_2) (hts _ li_1) e2 hA
    | 3, _, _ => exact va_Zof (hts _ ls_3) (hts _ li_2) e3 hA
    | 4, _, _ => exact va_Zof (hts _ ls_4) (hts _ li_2) e4 hA
    | n + 5, _, h5 => omega
  · rcases (show t = 4 ∨ t = 5 ∨ t = 6 ∨ t = 7 by omega) with rfl | rfl | rfl | rfl
    · exact va_AO.of (hts _ lo_4)
    · exact va_AO.of (hts _ lo_5)
    · exact va_AO.of (hts _ lo_6)
    · exact va_AO.of (hts _ lo_7)
  · exact hts _ lo_8
  · rw [saF_k _ _ _ _ _ _ _ hk]
    exact hvR k hk
  · exact va_Zof (hts _ ls_C) (hts _ li_C) (va_eqt (flat_of_before _ hgv _ (by decide +kernel))) (fun a h => Nat.not_le.mpr h)
  · exact va_Zqof (hts _ ls_O) (hts _ li_O) (flat_of_before _ hgv _ (by decide +kernel)) (fun a h => Nat.not_le.mpr h)
/-- the whole, out of a run of `go` -/
theorem start_ok {p : Program} {e : Env} {s : State} {m : MethodId} {below : List Frame} {meth : Method} {c : Code} (l : Launch) {b L : Nat} {xs : Nat → Int32} (C0 : lw_At p s m meth c b L xs) {sc : List Int32} (hsL : sc.length = L) (hsx : ∀ j, j < L → xs j = (gNth sc j).getD 0) {n : Nat} {M' : Mem} {c0 s0 : Nat} (h : go (some sc) n 1000 idLaw 0 [some (.retAddr 0), none, none, none, none, none, none] [] [] = some (some (.int 1), M', c0, s0)) (hc0 : c0 ≤ 601024) (hs0 : s0 ≤ 7293034) : W p l e room_1 s m #[Value.ref b] below meth c s.heap [] 0 0 (lw_Z below #[Value.ref b] s) (entryFrame m ([Value.ref b] : List Value).toArray 7) := by
  obtain ⟨sa, cy, dC, dI, hsa, hI⟩ := inv_start C0 hsL hsx
  obtain ⟨hx, hb, hr, hml, hown, hts, hX, hbl, hlocks, hgv⟩ := C0
  have hl := lv_entry ([.ref b]) (n := 7) (Nat.le_of_ble_eq_true rfl)
  rw [lg_entry_eq]
  generalize (lg_sl ([.ref b]) ++ List.replicate (7 - (lg_sl ([.ref b])).length) Slot.unset).toArray = ls at hl ⊢
  have hl : lv_has ls 7 [(0, .ref b)] := hl
  have hL : LV s.heap.size sa 7 [some (.retAddr 0), none, none, none, none, none, none] ls := by
    refine ⟨rfl, _, hl, fun i w hw => ?_⟩
    match i, hw with
    | 0, hw =>
      cases hw
      show (0, Value.ref (sa 0)) ∈ _
      rw [hsa]
      exact List.mem_cons_self
    | 1, hw => cases hw
    | 2, hw => cases hw
    | 3, hw => cases hw
    | 4, hw => cases hw
    | 5, hw => cases hw
    | 6, hw => cases hw
    | n + 7, hw => cases hw
  refine go_snd (lib_ok l s.heap.size sa cy dC dI (some sc)) n 1000 idLaw 0 _ [] [] _ M' c0 s0 h 12 yL_law code 7 (some .boolean) 1 0 _ rfl "GrassParkLaw" rfl p e room_1 s m #[Value.ref b] below meth c hx hb hml hown (fun w hw => hts w (w0_lw w hw)) hI (fun q => by cases q) (by decide +kernel) (by decide +kernel) s.heap [] 0 0 ls _ (fun k q h => by cases h) va_S.rf rfl hL (by rw [Nat.zero_add]; exact hc0) (by rw [Nat.zero_add]; exact hs0) ?_
  intro H1 locs1 ls1 pc1 st1 hP1 hS1 hsz1 hcase
  rw [Nat.zero_add, Nat.zero_add]
  rcases hcase with ⟨h1, -⟩ | ⟨x, h1, h2, hd, -⟩
  · cases h1
  · cases h1
    subst h2
    refine va_forget (fun q hq => hS1.2.2 q hq) ?_
    refine W.widen hc0 hs0 ?_
    exact lw_ret hx hb hr hlocks hd
end
section
/-! PURE: runs of `go` put together -/
theorem gAdd_none (c s : Nat) : gAdd c s none = none := rfl
theorem step_mono {SA SB : Sta} {r1 r2 : Run} (hs : SA = none ∨ SA = SB) (hr : ∀ d me pc ls st M x, r1 d me pc ls st M = some x → r2 d me pc ls st M = some x) {d me pc : Nat} {ls : Lo} {st : List Value} {M : Mem} {x : Option Value × Mem × Nat × Nat} (h : gStep SA r1 r1 d me pc ls st M = some x) : gStep SB r2 r2 d me pc ls st M = some x := by
  have hget : ∀ (i : Instr) (o : Nat) (ini : Bool) (st : List Value) (M : Mem) (q : List Value × Mem), gGet i SA o ini st M = some q → gGet i SB o ini st M = some q := by
    intro i o ini st M q hq
    rcases hs with hs | hs
    · subst hs
      have hx : ∀ j l, gSx none j = some l → gSx SB j = some l := by
        intro j l hj
        match j, hj with
        | 0, hj => cases hj
        | 1, hj => exact hj
        | 2, hj => exact hj
        | 3, hj => exact hj
        | 4, hj => exact hj
        | n + 5, hj => cases hj
      cases i
      case iaload =>
        simp only [gGet] at hq ⊢
        split at hq
        · exact hq
        · split at hq
          · rename_i l hl
            rw [hx _ _ hl]
            exact hq
          · cases hq
        · cases hq
      case arraylength =>
        simp only [gGet] at hq ⊢
        split at hq
        · exact hq
        · split at hq
          · rename_i l hl
            rw [hx _ _ hl]
            exact hq
          · cases hq
        · cases hq
      all_goals exact hq
    · subst hs
      exact hq
  have hadd : ∀ (c s : Nat) (y1 y2 : Rs), (∀ x, y1 = some x → y2 = some x) → ∀ x, gAdd c s y1 = some x → gAdd c s y2 = some x := by
    intro c s y1 y2 hy x hx
    obtain ⟨v, M9, c9, s9⟩ := x
    obtain ⟨c1, s1, h1, rfl, rfl⟩ := add_inv hx
    rw [hy _ h1]
    rfl
  unfold gStep at h ⊢
  split at h
  · cases h
  · rename_i o y9 cc9 mx9 ret np9 kf tab hrow
    try rw [hrow]
    try dsimp only
    split at h
    · cases h
    · rename_i kd i hlook
      try rw [hlook]
      try dsimp only
      split at h
      · split at h
        · rename_i hg
          try rw [hg]
          exact hr _ _ _ _ _ _ _ h
        · cases h
      · split at h
        · rename_i hg
          try rw [hg]
          exact hr _ _ _ _ _ _ _ h
        · cases h
      · split at h
        · rename_i hg
          try rw [hg]
          exact hr _ _ _ _ _ _ _ h
        · cases h
      · split at h
        · rename_i hg
          rw [hget _ _ _ _ _ _ hg]
          exact hr _ _ _ _ _ _ _ h
        · cases h
      · split at h
        · rename_i hg
          rw [hget _ _ _ _ _ _ hg]
          exact hr _ _ _ _ _ _ _ h
        · cases h
      · split at h
        · rename_i hg
          try rw [hg]
          exact hadd _ _ _ _ (fun x hx => hr _ _ _ _ _ _ _ hx) _ h
        · cases h
      · exact h
      · split at h
        · cases h
        · split at h
          · cases h
          · rename_i hg
            try rw [hg]
            exact hr _ _ _ _ _ _ _ h
          · rename_i hg
            try rw [hg]
            obtain ⟨v1, M1, c1, s1, h1, h2⟩ := then_inv h
            try dsimp only
            rw [hr _ _ _ _ _ _ _ h1]
            exact hadd _ _ _ _ (fun x hx => hr _ _ _ _ _ _ _ hx) _ h2
theorem go_mono1 (SA : Sta) : ∀ (n : Nat) (d me pc : Nat) (ls : Lo) (st : List Value) (M : Mem) (x : Option Value × Mem × Nat × Nat), go SA n d me pc ls st M = some x → go SA (n + 1) d me pc ls st M = some x := by
  intro n
  induction n with
  | zero => intro d me pc ls st M x h; cases h
  | succ n ih =>
    intro d me pc ls st M x h
    rw [go_succ] at h ⊢
    exact step_mono (Or.inr rfl) ih h
theorem go_mono {SA : Sta} {n d me pc : Nat} {ls : Lo} {st : List Value} {M : Mem} {x : Option Value × Mem × Nat × Nat} (h : go SA n d me pc ls st M = some x) : ∀ k : Nat, go SA (n + k) d me pc ls st M = some x := by
  intro k
  induction k with
  | zero => exact h
  | succ k ih => exact go_mono1 SA _ _ _ _ _ _ _ _ ih
theorem go_sc (SB : Sta) : ∀ (n : Nat) (d me pc : Nat) (ls : Lo) (st : List Value) (M : Mem) (x : Option Value × Mem × Nat × Nat), go none n d me pc ls st M = some x → go SB n d me pc ls st M = some x := by
  intro n
  induction n with
  | zero => intro d me pc ls st M x h; cases h
  | succ n ih =>
    intro d me pc ls st M x h
    rw [go_succ] at h ⊢
    exact step_mono (Or.inl rfl) ih h
/-- the run from here comes to its return: what comes back, the memory, how much was made -/
def Ev (sc : Sta) (d me pc : Nat) (ls : Lo) (st : List Value) (M : Mem) (v : Option Value) (M' : Mem) (c s : Nat) : Prop := ∃ n, go sc n d me pc ls st M = some (v, M', c, s)
theorem Ev.any {d me pc : Nat} {ls : Lo} {st : List Value} {M M' : Mem} {v : Option Value} {c s : Nat} (h : Ev none d me pc ls st M v M' c s) (sc : Sta) : Ev sc d me pc ls st M v M' c s := by
  obtain ⟨n, h⟩ := h
  exact ⟨n, go_sc sc _ _ _ _ _ _ _ _ h⟩
theorem Ev.step {sc : Sta} {d me pc pc' : Nat} {ls ls' : Lo} {st st' : List Value} {M M1 M' : Mem} {v : Option Value} {c s : Nat} (k : Nat) (h : ∀ n, go sc (n + k) d me pc ls st M = go sc n d me pc' ls' st' M1) (h2 : Ev sc d me pc' ls' st' M1 v M' c s) : Ev sc d me pc ls st M v M' c s := by
  obtain ⟨n, h2⟩ := h2
  exact ⟨n + k, (h n).trans h2⟩
theorem Ev.add {sc : Sta} {d me pc pc' : Nat} {ls ls' : Lo} {st st' : List Value} {M M1 M' : Mem} {v : Option Value} {c s c1 s1 : Nat} (k : Nat) (h : ∀ n, go sc (n + k) d me pc ls st M = gAdd c1 s1 (go sc n d me pc' ls' st' M1)) (h2 : Ev sc d me pc' ls' st' M1 v M' c s) : Ev sc d me pc ls st M v M' (c1 + c) (s1 + s) := by
  obtain ⟨n, h2⟩ := h2
  refine ⟨n + k, (h n).trans ?_⟩
  rw [h2]
  rfl
theorem Ev.call {sc : Sta} {d me pc : Nat} {ls ls0 : Lo} {st rest : List Value} {M M1 M' : Mem} {v v1 : Option Value} {c s c1 s1 id : Nat} (h : ∀ n, go sc (n + 1) (d + 1) me pc ls st M = gThen (go sc n d id 0 ls0 [] M) (fun v M' c s => gAdd c s (go sc n (d + 1) me (pc + 3) ls (v.toList ++ rest) M'))) (h1 : Ev sc d id 0 ls0 [] M v1 M1 c1 s1) (h2 : Ev sc (d + 1) me (pc + 3) ls (v1.toList ++ rest) M1 v M' c s) : Ev sc (d + 1) me pc ls st M v M' (c1 + c) (s1 + s) := by
  obtain ⟨n1, h1⟩ := h1
  obtain ⟨n2, h2⟩ := h2
  refine ⟨n1 + n2 + 1, (h _).trans ?_⟩
  rw [go_mono h1 n2]
  show gAdd c1 s1 (go sc (n1 + n2) (d + 1) me (pc + 3) ls (v1.toList ++ rest) M1) = _
  rw [Nat.add_comm n1 n2, go_mono h2 n1]
  rfl
theorem Ev.ret {sc : Sta} {d me pc : Nat} {ls : Lo} {st : List Value} {M : Mem} {v : Option Value} (h : ∀ n, go sc (n + 1) d me pc ls st M = some (v, M, 0, 0)) : Ev sc d me pc ls st M v M 0 0 := ⟨1, h 0⟩
theorem Ev.of {d me pc n : Nat} {ls : Lo} {st : List Value} {M M' : Mem} {v : Option Value} {c s : Nat} (h : goF none n d me pc ls st M = some (v, M', c, s)) (sc : Sta) : Ev sc d me pc ls st M v M' c s := by
  rw [goF_eq] at h
  exact ⟨n, go_sc sc _ _ _ _ _ _ _ _ h⟩
theorem Ev.cast {sc : Sta} {d me pc : Nat} {ls : Lo} {st : List Value} {M M' : Mem} {v : Option Value} {c s c1 s1 : Nat} (h : Ev sc d me pc ls st M v M' c s) (hc : c = c1) (hs : s = s1) : Ev sc d me pc ls st M v M' c1 s1 := by
  subst hc
  subst hs
  exact h
end
