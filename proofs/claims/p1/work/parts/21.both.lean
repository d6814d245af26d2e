/-! PURE: the reference alone; a call on the class and the same call on the reference, side by side -/
noncomputable def memR : Mem := [.inr (11, [.int 0, .ref 1, .int 0, .int 0, .int 0, .ref 2, .ref 3, .ref 4, .ref 5, .ref 6, .ref 7, .ref 8, .ref 9, .ref 10, .ref 11, .ref 12, .ref 13, .ref 14, .ref 15, .int 0, .int 0, .int 0, .int 0, .int 0, .int 0, .int 0, .int 0, .int 0, .int 40, .int 50, .int 10, .long 0, .int 0, .ref 16, .int 0, .int 0, .int 0, .int 0, .int 0, .int 0, .int (-1), .int 0, .int 0, .ref 17, .ref 18, .ref 19, .ref 20, .ref 21, .ref 22, .int 0, .int 0, .int 0, .ref 23, .int 0, .ref 24, .ref 25, .ref 26, .ref 27, .ref 28, .ref 29, .int 0, .int 0, .int 0]),
  .inl (0, .inl (gRep 440 0)),
  .inl (1, .inl ([4, 4] ++ gRep 2312 0)),
  .inl (1, .inl (gRep 6942 0)),
  .inl (1, .inl (gRep 2314 0)),
  .inl (3, .inl ([0, 0, 0])),
  .inl (1, .inl (gRep 8 0)),
  .inl (1, .inl (gRep 128 0)),
  .inl (1, .inl (gRep 128 0)),
  .inl (1, .inl (gRep 128 0)),
  .inl (1, .inl (gRep 128 0)),
  .inl (1, .inl (gRep 128 0)),
  .inl (1, .inl (gRep 1600 0)),
  .inl (1, .inl (gRep 1600 0)),
  .inl (1, .inl (gRep 1600 0)),
  .inl (1, .inl (gRep 100 0)),
  .inl (3, .inl (gRep 60 0)),
  .inl (3, .inl (gRep 256 0)),
  .inl (3, .inl (gRep 256 0)),
  .inl (3, .inl (gRep 256 0)),
  .inl (3, .inl (gRep 256 0)),
  .inl (1, .inl (gRep 16384 0)),
  .inl (1, .inl (gRep 256 0)),
  .inl (1, .inl ([0, 0])),
  .inl (1, .inl (gRep 201 0)),
  .inl (1, .inl (gRep 201 0)),
  .inl (1, .inl (gRep 1280 0)),
  .inl (1, .inl ([0, 0, 0, 0, 0])),
  .inl (1, .inl ([0, 0, 0, 0, 0])),
  .inl (1, .inl ([0, 0, 0, 0, 0]))]
set_option maxRecDepth 200000 in
theorem memM_k : eqL eqE (memR.map (shE 633)) memM = true := by decide +kernel
theorem memM_R : memM = memR.map (shE 633) := (eqM memM_k).symm
set_option maxRecDepth 200000 in
theorem memP_ln : Nat.beq (gLn memP) 633 = true := by decide +kernel
theorem memP_l : memP.length = 633 := by
  have h := Nat.eq_of_beq_eq_true memP_ln
  rw [ln_eq] at h
  exact h
theorem shV_0 (v : Value) : shV 0 v = v := by
  cases v
  case ref a => show Value.ref (0 + a) = Value.ref a; rw [Nat.zero_add]
  all_goals rfl
theorem shO_0 (v : Option Value) : shO 0 v = v := by
  cases v with
  | none => rfl
  | some v => show some (shV 0 v) = some v; rw [shV_0]
theorem map_id_of {α : Type} {f : α → α} (hf : ∀ x, f x = x) (l : List α) : l.map f = l := by
  induction l with
  | nil => rfl
  | cons x xs ih => rw [List.map_cons, hf, ih]
theorem shE_0 (e : AE) : shE 0 e = e := by
  rcases e with ⟨t, l | l | l⟩ | ⟨c, vs⟩
  · rfl
  · rfl
  · show (Sum.inl (t, Sum.inr (Sum.inr (l.map (Option.map (fun a => 0 + a))))) : AE) = Sum.inl (t, Sum.inr (Sum.inr l))
    rw [map_id_of (fun o => by cases o <;> simp)]
  · show (Sum.inr (c, vs.map (shV 0)) : AE) = Sum.inr (c, vs)
    rw [map_id_of shV_0]
theorem Ev.emb {sc : Sta} {d me pc : Nat} {ls : Lo} {st : List Value} {M M' : Mem} {v : Option Value} (X Y : Mem) (h : Ev sc d me pc ls st M v M' 0 0) : Ev sc d me pc (ls.map (shO X.length)) (st.map (shV X.length)) (emb X Y M) (v.map (shV X.length)) (emb X Y M') 0 0 := by
  obtain ⟨n, h⟩ := h
  exact ⟨n, go_emb _ _ _ _ _ _ _ _ _ _ h⟩
noncomputable def memO : AE := .inl (2, .inr (.inl [0]))
theorem on_cls {id : Nat} {ls : Lo} {M1 : Mem} {v : Option Value} (sc : Sta) (h : Ev none 999 id 0 ls [] memP v M1 0 0) : Ev sc 999 id 0 ls [] mem0 v (M1 ++ (memM ++ [memO])) 0 0 := by
  have h2 := (h.any sc).emb [] (memM ++ [memO])
  have e1 : ls.map (shO ([] : Mem).length) = ls := map_id_of shO_0 ls
  have e2 : v.map (shV ([] : Mem).length) = v := shO_0 v
  rw [e1, e2] at h2
  have e3 : ∀ M : Mem, emb [] (memM ++ [memO]) M = M ++ (memM ++ [memO]) := by
    intro M
    show M.map (shE 0) ++ _ = _
    rw [map_id_of shE_0]
  rw [e3, e3] at h2
  exact h2
theorem Ev.len {sc : Sta} {d me pc : Nat} {ls : Lo} {st : List Value} {M M' : Mem} {v : Option Value} {c s : Nat} (h : Ev sc d me pc ls st M v M' c s) : M'.length = M.length + c := by
  obtain ⟨n, h⟩ := h
  exact go_len _ _ _ _ _ _ _ _ _ _ _ _ h
theorem on_ref {id : Nat} {ls : Lo} {M1 M2 : Mem} {v : Option Value} (sc : Sta) (hl : M1.length = 633) (h : Ev none 999 id 0 ls [] memR v M2 0 0) : Ev sc 999 id 0 (ls.map (shO 633)) [] (M1 ++ (memM ++ [memO])) (v.map (shV 633)) (M1 ++ (M2.map (shE 633) ++ [memO])) 0 0 := by
  have h2 := (h.any sc).emb M1 [memO]
  rw [memM_R]
  rw [hl] at h2
  have e3 : ∀ M : Mem, emb M1 [memO] M = M1 ++ (M.map (shE 633) ++ [memO]) := by
    intro M
    show M1 ++ (M.map (shE M1.length) ++ [memO]) = _
    rw [hl]
  rw [e3, e3] at h2
  exact h2
theorem recv_ref {M1 : Mem} (hl : M1.length = 633) : gRecv (M1 ++ (memM ++ [memO])) (.ref 633) 11 = true := by
  have h : gNth (M1 ++ (memM ++ [memO])) 633 = gNth (memM ++ [memO]) 0 := by
    rw [nth_eq, nth_eq, List.getElem?_append_right (by omega), hl]
  show (match gNth (M1 ++ (memM ++ [memO])) 633 with
    | some (.inr (c, _)) => Nat.beq c 11
    | _ => false) = true
  rw [h]
  rfl
theorem calk_v {o ix id nest o2 maxL np kf : Nat} {st r : List Value} {M : Mem} {v : Value}
    {q : MR} {z} (h1 : gOwn mRes o ix = some (id, nest, z)) (h2 : Nat.ble 1000 id = false) (h3 : gNth mRs id = some q) (ho : q.1 = o2) (hm : q.2.2.2.1 = maxL) (hn : q.2.2.2.2.2.1 = np) (hk : q.2.2.2.2.2.2.1 = kf) (h4 : st.drop np = v :: r) (hr : gRecv M v o2 = true) (hb : (Nat.beq kf 1 && (Nat.beq nest 0 || Nat.beq 0 1) && Nat.ble np st.length && true && gRoom r && Nat.ble (gArgs (v :: (st.take np).reverse)).length maxL) = true) : gCalk o ix 1 st M = some (.inr (id, gPad maxL (gArgs (v :: (st.take np).reverse)), r)) := by
  obtain ⟨o2', a1, a2, maxL', a3, np', kf', tab⟩ := q
  cases ho
  cases hm
  cases hn
  cases hk
  unfold gCalk
  rw [h1]
  dsimp only
  rw [h2]
  dsimp only
  rw [h3]
  dsimp only
  dsimp only at h4 hr hb
  rw [h4]
  dsimp only
  rw [hr, hb]
  rfl
theorem Ev.call0 {sc : Sta} {d me pc : Nat} {ls ls0 : Lo} {st rest : List Value} {M M1 M' : Mem} {v v1 : Option Value} {id : Nat} (h : ∀ n, go sc (n + 1) (d + 1) me pc ls st M = gThen (go sc n d id 0 ls0 [] M) (fun v M' c s => gAdd c s (go sc n (d + 1) me (pc + 3) ls (v.toList ++ rest) M'))) (h1 : Ev sc d id 0 ls0 [] M v1 M1 0 0) (h2 : Ev sc (d + 1) me (pc + 3) ls (v1.toList ++ rest) M1 v M' 0 0) : Ev sc (d + 1) me pc ls st M v M' 0 0 := Ev.call h h1 h2
theorem callv_step {sc : Sta} {n d me pc ix id : Nat} {ls ls0 : Lo} {st rest : List Value} {M : Mem} {q : MR} (hrow : gNth mRs me = some q) (hlook : gLook q.2.2.2.2.2.2.2 pc = some (7, .invokevirtual ix)) (hc : gCalk q.1 ix 1 st M = some (.inr (id, ls0, rest))) : go sc (n + 1) (d + 1) me pc ls st M = gThen (go sc n d id 0 ls0 [] M) (fun v M' c s => gAdd c s (go sc n (d + 1) me (pc + 3) ls (v.toList ++ rest) M')) := by
  obtain ⟨o2', a1, a2, maxL', a3, np', kf', tab⟩ := q
  rw [go_succ]
  unfold gStep
  rw [hrow]
  dsimp only at hlook hc ⊢
  rw [hlook]
  dsimp only
  have hcal : gCal (.invokevirtual ix) o2' st M = some (.inr (id, ls0, rest)) := hc
  rw [hcal]
  rfl
/-- one call of the script comes to its end with 1 -/
def Okk (x0 x1 x2 x3 x4 x5 : Int32) : Prop := ∃ M' : Mem, Ev (some [x0, x1, x2, x3, x4, x5]) 1000 251 23 [some (.retAddr 0), some (.ref 0), some (.ref 633), some (.ref 663), some (.int 0), none, none] [] mem0 (some (.int 1)) M' 0 0
set_option maxRecDepth 200000 in
set_option maxHeartbeats 4000000 in
theorem law_end (x0 x1 x2 x3 x4 x5 : Int32) (M : Mem) : Ev (some [x0, x1, x2, x3, x4, x5]) 1000 251 1352 [some (.retAddr 0), some (.ref 0), some (.ref 633), some (.ref 663), some (.int 0), none, none] [] M (some (.int 1)) M 0 0 := by
  refine Ev.step (pc' := 27) (ls' := [some (.retAddr 0), some (.ref 0), some (.ref 633), some (.ref 663), some (.int 6), none, none]) (st' := [.int 6, .int 6]) (M1 := M) 5 (fun n => rfl) ?_
  refine Ev.step (pc' := 1359) (ls' := [some (.retAddr 0), some (.ref 0), some (.ref 633), some (.ref 663), some (.int 6), none, none]) (st' := [.int 1]) (M1 := M) 4 (fun n => rfl) ?_
  exact Ev.ret (fun n => rfl)
set_option maxRecDepth 200000 in
set_option maxHeartbeats 4000000 in
theorem law_sw {x0 x1 x2 x3 x4 x5 : Int32} {j : Nat} (hj : x0 &&& 63 = nI j) {v : Option Value} {M' : Mem} (h : Ev (some [x0, x1, x2, x3, x4, x5]) 1000 251 40 [some (.retAddr 0), some (.ref 0), some (.ref 633), some (.ref 663), some (.int 0), none, none] [.int (nI j)] mem0 v M' 0 0) : Ev (some [x0, x1, x2, x3, x4, x5]) 1000 251 23 [some (.retAddr 0), some (.ref 0), some (.ref 633), some (.ref 663), some (.int 0), none, none] [] mem0 v M' 0 0 := by
  refine Ev.step (pc' := 27) (ls' := [some (.retAddr 0), some (.ref 0), some (.ref 633), some (.ref 663), some (.int 0), none, none]) (st' := [.int 6, .int 0]) (M1 := mem0) 3 (fun n => rfl) ?_
  refine Ev.step (pc' := 40) (ls' := [some (.retAddr 0), some (.ref 0), some (.ref 633), some (.ref 663), some (.int 0), none, none]) (st' := [.int (x0 &&& 63)]) (M1 := mem0) 8 (fun n => rfl) ?_
  rw [hj]
  exact h
