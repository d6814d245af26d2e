/-! PURE: the class's long calls on the fresh park -/
theorem put_again {α : Type} {l : List α} {k : Nat} {x y : α} : gPut (gPut l k x) k y = gPut l k y := by
  refine gExt (fun i => ?_)
  rw [nth_put, nth_put, nth_put, put_len]
  by_cases h1 : i = k ∧ k < l.length
  · rw [if_pos h1, if_pos h1]
  · rw [if_neg h1, if_neg h1, if_neg h1]
theorem hM_again {a k : Nat} {t u : Int32} {M : Mem} {c : Nat} {fs : List Value} (h : gNth M a = some (.inr (c, fs))) : gPut (hM a k t M) a (.inr (c, gPut (gPut fs k (.int t)) k (.int u))) = hM a k u M := by
  unfold hM
  rw [h]
  dsimp only [hE]
  rw [put_again, put_again]
theorem hM_againA {a k t9 : Nat} {t u : Int32} {M : Mem} {l : List Int32} (h : gNth M a = some (.inl (t9, .inl l))) : gPut (hM a k t M) a (.inl (t9, .inl (gPut (gPut l k t) k u))) = hM a k u M := by
  unfold hM
  rw [h]
  dsimp only [hE]
  rw [put_again, put_again]
theorem putf_step {sc : Sta} {n d me pc ix ci k wi a : Nat} {ls : Lo} {v : Value} {r : List Value} {M : Mem} {fs : List Value} {q : MR} (hrow : gNth mRs me = some q) (hlook : gLook q.2.2.2.2.2.2.2 pc = some (4, .putfield ix)) (ho : gOwn fRs q.1 ix = some (ci, k, wi)) (hm : gNth M a = some (.inr (ci, fs))) (hb : (Nat.beq ci ci && Nat.blt k fs.length && (!gFin ci k || (Nat.beq q.2.2.2.2.2.2.1 2 && Nat.beq q.1 ci)) && fits (gTy ci k) v) = true) : go sc (n + 1) d me pc ls (v :: .ref a :: r) M = go sc n d me (pc + 3) ls r (gPut M a (.inr (ci, gPut fs k v))) := by
  obtain ⟨o, y9, cc9, mx9, ret, np9, kf, tab⟩ := q
  rw [go_succ]
  unfold gStep
  rw [hrow]
  dsimp only at hlook ho hb ⊢
  rw [hlook]
  dsimp only
  have hg : gGet (.putfield ix) sc o (Nat.beq kf 2) (v :: .ref a :: r) M = some (r, gPut M a (.inr (ci, gPut fs k v))) := by simp only [gGet, ho, hm, hb]
  rw [hg]
  rfl
theorem laload_step {sc : Sta} {n d me pc b : Nat} {j : Int32} {ls : Lo} {r : List Value} {M : Mem} {l : List Int64} {x : Int64} {q : MR} (hrow : gNth mRs me = some q) (hlook : gLook q.2.2.2.2.2.2.2 pc = some (3, .laload)) (hm : gNth M b = some (.inl (2, .inr (.inl l)))) (hx : gAt l j = some x) : go sc (n + 1) d me pc ls (.int j :: .ref b :: r) M = go sc n d me (pc + 1) ls (.long x :: r) M := by
  obtain ⟨o, y9, cc9, mx9, ret, np9, kf, tab⟩ := q
  rw [go_succ]
  unfold gStep
  rw [hrow]
  dsimp only at hlook ⊢
  rw [hlook]
  dsimp only
  have hg : gGet .laload sc o (Nat.beq kf 2) (.int j :: .ref b :: r) M = some (.long x :: r, M) := by simp only [gGet, hm, hx]
  rw [hg]
  rfl
theorem nat_of {x lo hi : Int32} (h1 : ¬ x < lo) (h2 : ¬ hi < x) (h0 : 0 ≤ lo.toInt) : ∃ n : Nat, lo.toInt ≤ (n : Int) ∧ (n : Int) ≤ hi.toInt ∧ n < 2 ^ 31 ∧ x = nI n := by
  simp only [Int32.lt_iff_toInt_lt] at h1 h2
  have h3 := Int32.toInt_lt x
  refine ⟨x.toInt.toNat, by omega, by omega, by omega, ?_⟩
  apply Int32.toInt_inj.mp
  rw [nI_toInt (by omega)]
  omega
theorem within_in {sc : Sta} {e : Nat} {M : Mem} {x lo hi : Int32} (h1 : ¬ x < lo) (h2 : ¬ hi < x) : Ev sc e 126 0 [some (.int x), some (.int lo), some (.int hi)] [] M (some (.int 1)) M 0 0 := by
  refine Ev.step (pc' := if x < lo then 14 else 5) (ls' := [some (.int x), some (.int lo), some (.int hi)]) (st' := []) (M1 := M) 3 (fun n => rfl) ?_
  rw [if_neg h1]
  refine Ev.step (pc' := if hi < x then 14 else 10) (ls' := [some (.int x), some (.int lo), some (.int hi)]) (st' := []) (M1 := M) 3 (fun n => rfl) ?_
  rw [if_neg h2]
  refine Ev.step (pc' := 15) (ls' := [some (.int x), some (.int lo), some (.int hi)]) (st' := [.int 1]) (M1 := M) 2 (fun n => rfl) ?_
  exact Ev.ret (fun n => rfl)
theorem isin_in {sc : Sta} {e : Nat} {M : Mem} {x lo hi : Int32} (h1 : ¬ x < lo) (h2 : ¬ hi < x) : Ev sc e 141 0 [some (.int x), some (.int lo), some (.int hi)] [] M (some (.int 1)) M 0 0 := by
  refine Ev.step (pc' := if x < lo then 14 else 5) (ls' := [some (.int x), some (.int lo), some (.int hi)]) (st' := []) (M1 := M) 3 (fun n => rfl) ?_
  rw [if_neg h1]
  refine Ev.step (pc' := if hi < x then 14 else 10) (ls' := [some (.int x), some (.int lo), some (.int hi)]) (st' := []) (M1 := M) 3 (fun n => rfl) ?_
  rw [if_neg h2]
  refine Ev.step (pc' := 15) (ls' := [some (.int x), some (.int lo), some (.int hi)]) (st' := [.int 1]) (M1 := M) 2 (fun n => rfl) ?_
  exact Ev.ret (fun n => rfl)
/-- the memory behind enter(land), and behind openCase() -/
noncomputable def memE1 : Mem := gPut (gPut (gPut (gPut (gPut (gPut memP 104 (.inr (7, [.ref 105, .ref 109, .ref 110, .ref 119, .ref 128, .ref 129, .ref 137, .ref 8, .int 0, .int (-1), .int 0, .int 0]))) 105 (.inr (0, [.ref 106, .ref 107, .ref 108, .int 4, .int 4]))) 106 (.inl (1, .inl ([0, 1, 2, 3, 0, 1, 2, 3, 0, 1, 2, 3, 0, 1, 2, 3] ++ gRep 240 0)))) 107 (.inl (1, .inl ([0, 0, 0, 0, 1, 1, 1, 1, 2, 2, 2, 2, 3, 3, 3, 3] ++ gRep 240 0)))) 108 (.inl (1, .inl ([(-1), (-1), 1, 5, 4, (-1), (-1), (-1), (-1), (-1), 2, 6, 5, 4, 0, (-1), (-1), (-1), 3, 7, 6, 5, 1, (-1), (-1), (-1), (-1), (-1), 7, 6, 2, (-1), 0, 1, 5, 9, 8, (-1), (-1), (-1), 1, 2, 6, 10, 9, 8, 4, 0, 2, 3, 7, 11, 10, 9, 5, 1, 3, (-1), (-1), (-1), 11, 10, 6, 2, 4, 5, 9, 13, 12, (-1), (-1), (-1), 5, 6, 10, 14, 13, 12, 8, 4, 6, 7, 11, 15, 14, 13, 9, 5, 7, (-1), (-1), (-1), 15, 14, 10, 6, 8, 9, 13, (-1), (-1), (-1), (-1), (-1), 9, 10, 14, (-1), (-1), (-1), 12, 8, 10, 11, 15, (-1), (-1), (-1), 13, 9, 11, (-1), (-1), (-1), (-1), (-1), 14, 10] ++ gRep 1920 0)))) 128 (.inl (1, .inl (gRep 1536 (-1))))
noncomputable def memE2 : Mem := gPut memE1 104 (.inr (7, [.ref 105, .ref 109, .ref 110, .ref 119, .ref 128, .ref 129, .ref 137, .ref 243, .int 0, .int (-1), .int 0, .int 0]))
set_option maxRecDepth 200000 in
theorem lnP : Nat.ble (gLn memP) 99999 = true := by decide +kernel
set_option maxRecDepth 200000 in
theorem lnE1 : Nat.ble (gLn memE1) 99999 = true := by decide +kernel
set_option maxRecDepth 200000 in
theorem lnE2 : Nat.ble (gLn memE2) 99999 = true := by decide +kernel
set_option maxRecDepth 200000 in
theorem enter_k : eqR (goHF none 99999 0 4700 3 54 0 [some (.ref 104), some (.ref 8)] [] memP) none memE1 0 0 = true := by decide +kernel
set_option maxRecDepth 200000 in
theorem openc_k : eqR (goHF none 99999 0 4700 4 133 0 [some (.ref 0)] [] memP) none memE2 0 0 = true := by decide +kernel
set_option maxRecDepth 200000 in
theorem e0_8 : eqL eqE (hM 8 16 0 memE1) memE1 = true := by decide +kernel
set_option maxRecDepth 200000 in
theorem e0_243 : eqL eqE (hM 243 16 0 memE2) memE2 = true := by decide +kernel
set_option maxRecDepth 200000 in
theorem begin_k8 : eqR (goHF none 8 16 20 0 59 0 [some (.ref 104), none, none, none] [] memE1) none memE1 0 0 = true := by decide +kernel
set_option maxRecDepth 200000 in
theorem sweep_k8 : eqR (goHF none 8 16 20 0 61 0 [some (.ref 104), none, none, none] [] memE1) none memE1 0 0 = true := by decide +kernel
set_option maxRecDepth 200000 in
theorem begin_k243 : eqR (goHF none 243 16 20 0 59 0 [some (.ref 104), none, none, none] [] memE2) none memE2 0 0 = true := by decide +kernel
set_option maxRecDepth 200000 in
theorem sweep_k243 : eqR (goHF none 243 16 20 0 61 0 [some (.ref 104), none, none, none] [] memE2) none memE2 0 0 = true := by decide +kernel
set_option maxRecDepth 200000 in
theorem endw_k : eqR (goHF none 243 16 800 2 63 0 [some (.ref 104), none, none] [] memE2) none memE2 0 0 = true := by decide +kernel
set_option maxRecDepth 200000 in
theorem keep_k : (List.range 21).all (fun i => eqR (goHF none 243 16 400 2 15 0 [some (.ref 192), some (.int (nI i)), none] [] memE2) none memE2 0 0) = true := by decide +kernel
set_option maxRecDepth 200000 in
theorem cell_8 : gNth memE1 8 = some (.inr (1, [.int 4, .int 4, .ref 9, .ref 10, .ref 11, .ref 12, .ref 13, .ref 14, .ref 15, .ref 16, .ref 17, .int 0, .ref 18, .int 0, .ref 19, .int 0, .int 0, .int 0, .int 0, .int 0])) := rfl
set_option maxRecDepth 200000 in
set_option maxHeartbeats 4000000 in
theorem tick_8 {e : Nat} {n k t : Int32} {w v : Option Value} {M' : Mem} (hk : ¬ n ≤ k) (h : Ev none (e + 1) 58 10 [some (.ref 104), some (.int n), some (.int 0), some (.int (k + 1)), some (.int 0), none, none, none, none] [] (hM 8 16 (t + 1) memE1) v M' 0 0) : Ev none (e + 1) 58 10 [some (.ref 104), some (.int n), some (.int 0), some (.int k), w, none, none, none, none] [] (hM 8 16 t memE1) v M' 0 0 := by
  refine Ev.step (pc' := if n ≤ k then 221 else 15) (ls' := [some (.ref 104), some (.int n), some (.int 0), some (.int k), w, none, none, none, none]) (st' := []) (M1 := (hM 8 16 t memE1)) 3 (fun n => rfl) ?_
  rw [if_neg hk]
  refine Ev.step (pc' := 23) (ls' := [some (.ref 104), some (.int n), some (.int 0), some (.int k), w, none, none, none, none]) (st' := [.ref 104]) (M1 := (hM 8 16 t memE1)) 4 (fun n => rfl) ?_
  refine Ev.call0 (ls0 := [some (.ref 104), none, none, none]) (rest := []) (id := 59) (v1 := none) (M1 := (hM 8 16 t memE1)) (fun n => rfl) (Ev.hole begin_k8 (LE.refl _) none e t) ?_
  refine Ev.step (pc' := 199) (ls' := [some (.ref 104), some (.int n), some (.int 0), some (.int k), some (.int 0), none, none, none, none]) (st' := [.ref 104]) (M1 := (hM 8 16 t memE1)) 8 (fun n => rfl) ?_
  refine Ev.call0 (ls0 := [some (.ref 104), none, none, none]) (rest := []) (id := 61) (v1 := none) (M1 := (hM 8 16 t memE1)) (fun n => rfl) (Ev.hole sweep_k8 (LE.refl _) none e t) ?_
  refine Ev.step (pc' := 212) (ls' := [some (.ref 104), some (.int n), some (.int 0), some (.int k), some (.int 0), none, none, none, none]) (st' := [.int (t + 1), .ref 8]) (M1 := (hM 8 16 t memE1)) 6 (fun n => rfl) ?_
  refine Ev.step (pc' := 215) (ls' := [some (.ref 104), some (.int n), some (.int 0), some (.int k), some (.int 0), none, none, none, none]) (st' := []) 1 (fun n => putf_step rfl rfl rfl (hM_eq cell_8) rfl) ?_
  rw [hM_again cell_8]
  exact Ev.step (pc' := 10) (ls' := [some (.ref 104), some (.int n), some (.int 0), some (.int (k + 1)), some (.int 0), none, none, none, none]) (st' := []) (M1 := hM 8 16 (t + 1) memE1) 2 (fun n => rfl) h
set_option maxRecDepth 200000 in
set_option maxHeartbeats 4000000 in
theorem loop_8 {e N : Nat} (hN : N < 2 ^ 31) : ∀ (m i : Nat) (t : Int32) (w : Option Value), i + m = N → ∃ t', Ev none (e + 1) 58 10 [some (.ref 104), some (.int (nI N)), some (.int 0), some (.int (nI i)), w, none, none, none, none] [] (hM 8 16 t memE1) (some (.int 0)) (hM 8 16 t' memE1) 0 0 := by
  intro m
  induction m with
  | zero =>
    intro i t w h
    refine ⟨t, ?_⟩
    refine Ev.step (pc' := if nI N ≤ nI i then 221 else 15) (ls' := [some (.ref 104), some (.int (nI N)), some (.int 0), some (.int (nI i)), w, none, none, none, none]) (st' := []) (M1 := (hM 8 16 t memE1)) 3 (fun n => rfl) ?_
    rw [if_pos (nI_le (by omega) (by omega))]
    refine Ev.step (pc' := 230) (ls' := [some (.ref 104), some (.int (nI N)), some (.int 0), some (.int (nI i)), w, none, none, none, none]) (st' := [.int 0]) (M1 := (hM 8 16 t memE1)) 5 (fun n => rfl) ?_
    exact Ev.ret (fun n => rfl)
  | succ m ih =>
    intro i t w h
    obtain ⟨t', h1⟩ := ih (i + 1) (t + 1) (some (.int 0)) (by omega)
    rw [nI_succ] at h1
    exact ⟨t', tick_8 (nI_ge (by omega) hN) h1⟩
theorem go_8 {e N : Nat} (hN : N < 2 ^ 31) (t : Int32) : ∃ t', Ev none (e + 1) 58 0 [some (.ref 104), some (.int (nI N)), none, none, none, none, none, none, none] [] (hM 8 16 t memE1) (some (.int 0)) (hM 8 16 t' memE1) 0 0 := by
  obtain ⟨t', h1⟩ := loop_8 (e := e) hN N 0 t none (by omega)
  exact ⟨t', Ev.step (pc' := 10) (ls' := [some (.ref 104), some (.int (nI N)), some (.int 0), some (.int (nI 0)), none, none, none, none, none]) (st' := []) (M1 := (hM 8 16 t memE1)) 6 (fun n => rfl) h1⟩
set_option maxRecDepth 200000 in
theorem cell_243 : gNth memE2 243 = some (.inr (1, [.int 4, .int 4, .ref 244, .ref 245, .ref 246, .ref 247, .ref 248, .ref 249, .ref 250, .ref 251, .ref 252, .int 0, .ref 253, .int 0, .ref 254, .int 0, .int 0, .int 0, .int 0, .int 0])) := rfl
set_option maxRecDepth 200000 in
set_option maxHeartbeats 4000000 in
theorem tick_243 {e : Nat} {n k t : Int32} {w v : Option Value} {M' : Mem} (hk : ¬ n ≤ k) (h : Ev none (e + 1) 58 10 [some (.ref 104), some (.int n), some (.int 0), some (.int (k + 1)), some (.int 0), none, none, none, none] [] (hM 243 16 (t + 1) memE2) v M' 0 0) : Ev none (e + 1) 58 10 [some (.ref 104), some (.int n), some (.int 0), some (.int k), w, none, none, none, none] [] (hM 243 16 t memE2) v M' 0 0 := by
  refine Ev.step (pc' := if n ≤ k then 221 else 15) (ls' := [some (.ref 104), some (.int n), some (.int 0), some (.int k), w, none, none, none, none]) (st' := []) (M1 := (hM 243 16 t memE2)) 3 (fun n => rfl) ?_
  rw [if_neg hk]
  refine Ev.step (pc' := 23) (ls' := [some (.ref 104), some (.int n), some (.int 0), some (.int k), w, none, none, none, none]) (st' := [.ref 104]) (M1 := (hM 243 16 t memE2)) 4 (fun n => rfl) ?_
  refine Ev.call0 (ls0 := [some (.ref 104), none, none, none]) (rest := []) (id := 59) (v1 := none) (M1 := (hM 243 16 t memE2)) (fun n => rfl) (Ev.hole begin_k243 (LE.refl _) none e t) ?_
  refine Ev.step (pc' := 199) (ls' := [some (.ref 104), some (.int n), some (.int 0), some (.int k), some (.int 0), none, none, none, none]) (st' := [.ref 104]) (M1 := (hM 243 16 t memE2)) 8 (fun n => rfl) ?_
  refine Ev.call0 (ls0 := [some (.ref 104), none, none, none]) (rest := []) (id := 61) (v1 := none) (M1 := (hM 243 16 t memE2)) (fun n => rfl) (Ev.hole sweep_k243 (LE.refl _) none e t) ?_
  refine Ev.step (pc' := 212) (ls' := [some (.ref 104), some (.int n), some (.int 0), some (.int k), some (.int 0), none, none, none, none]) (st' := [.int (t + 1), .ref 243]) (M1 := (hM 243 16 t memE2)) 6 (fun n => rfl) ?_
  refine Ev.step (pc' := 215) (ls' := [some (.ref 104), some (.int n), some (.int 0), some (.int k), some (.int 0), none, none, none, none]) (st' := []) 1 (fun n => putf_step rfl rfl rfl (hM_eq cell_243) rfl) ?_
  rw [hM_again cell_243]
  exact Ev.step (pc' := 10) (ls' := [some (.ref 104), some (.int n), some (.int 0), some (.int (k + 1)), some (.int 0), none, none, none, none]) (st' := []) (M1 := hM 243 16 (t + 1) memE2) 2 (fun n => rfl) h
set_option maxRecDepth 200000 in
set_option maxHeartbeats 4000000 in
theorem loop_243 {e N : Nat} (hN : N < 2 ^ 31) : ∀ (m i : Nat) (t : Int32) (w : Option Value), i + m = N → ∃ t', Ev none (e + 1) 58 10 [some (.ref 104), some (.int (nI N)), some (.int 0), some (.int (nI i)), w, none, none, none, none] [] (hM 243 16 t memE2) (some (.int 0)) (hM 243 16 t' memE2) 0 0 := by
  intro m
  induction m with
  | zero =>
    intro i t w h
    refine ⟨t, ?_⟩
    refine Ev.step (pc' := if nI N ≤ nI i then 221 else 15) (ls' := [some (.ref 104), some (.int (nI N)), some (.int 0), some (.int (nI i)), w, none, none, none, none]) (st' := []) (M1 := (hM 243 16 t memE2)) 3 (fun n => rfl) ?_
    rw [if_pos (nI_le (by omega) (by omega))]
    refine Ev.step (pc' := 230) (ls' := [some (.ref 104), some (.int (nI N)), some (.int 0), some (.int (nI i)), w, none, none, none, none]) (st' := [.int 0]) (M1 := (hM 243 16 t memE2)) 5 (fun n => rfl) ?_
    exact Ev.ret (fun n => rfl)
  | succ m ih =>
    intro i t w h
    obtain ⟨t', h1⟩ := ih (i + 1) (t + 1) (some (.int 0)) (by omega)
    rw [nI_succ] at h1
    exact ⟨t', tick_243 (nI_ge (by omega) hN) h1⟩
theorem go_243 {e N : Nat} (hN : N < 2 ^ 31) (t : Int32) : ∃ t', Ev none (e + 1) 58 0 [some (.ref 104), some (.int (nI N)), none, none, none, none, none, none, none] [] (hM 243 16 t memE2) (some (.int 0)) (hM 243 16 t' memE2) 0 0 := by
  obtain ⟨t', h1⟩ := loop_243 (e := e) hN N 0 t none (by omega)
  exact ⟨t', Ev.step (pc' := 10) (ls' := [some (.ref 104), some (.int (nI N)), some (.int 0), some (.int (nI 0)), none, none, none, none, none]) (st' := []) (M1 := (hM 243 16 t memE2)) 6 (fun n => rfl) h1⟩
set_option maxRecDepth 200000 in
set_option maxHeartbeats 4000000 in
theorem run_c {N : Nat} (h1 : ¬ nI N < 1) (h2 : ¬ 400 < nI N) (h3 : 0 + nI N ≤ 60000) (hN : N < 2 ^ 31) : ∃ M1, Ev none 999 91 0 [some (.ref 0), some (.int (nI N))] [] memP (some (.int 0)) M1 0 0 := by
  obtain ⟨t', hg⟩ := go_8 (e := 997) hN 0
  rw [eqM e0_8] at hg
  refine ⟨hM 8 16 t' memE1, ?_⟩
  refine Ev.step (pc' := 5) (ls' := [some (.ref 0), some (.int (nI N))]) (st' := [.int 400, .int 1, .int (nI N)]) (M1 := memP) 3 (fun n => rfl) ?_
  refine Ev.call0 (ls0 := [some (.int (nI N)), some (.int 1), some (.int 400)]) (rest := []) (id := 126) (v1 := some (.int 1)) (M1 := memP) (fun n => rfl) (within_in h1 h2) ?_
  refine Ev.step (pc' := 22) (ls' := [some (.ref 0), some (.int (nI N))]) (st' := [.int 60000, .int (0 + nI N)]) (M1 := memP) 7 (fun n => rfl) ?_
  refine Ev.step (pc' := if 0 + nI N ≤ 60000 then 27 else 25) (ls' := [some (.ref 0), some (.int (nI N))]) (st' := []) (M1 := memP) 1 (fun n => rfl) ?_
  rw [if_pos h3]
  refine Ev.step (pc' := 35) (ls' := [some (.ref 0), some (.int (nI N))]) (st' := [.ref 8, .ref 104]) (M1 := memP) 4 (fun n => rfl) ?_
  refine Ev.call0 (ls0 := [some (.ref 104), some (.ref 8)]) (rest := []) (id := 54) (v1 := none) (M1 := memE1) (fun n => rfl) (Ev.plain enter_k (LE.refl _) lnP lnE1 none 995) ?_
  refine Ev.step (pc' := 43) (ls' := [some (.ref 0), some (.int (nI N))]) (st' := [.int (nI N), .ref 104]) (M1 := memE1) 3 (fun n => rfl) ?_
  refine Ev.call0 (ls0 := [some (.ref 104), some (.int (nI N)), none, none, none, none, none, none, none]) (rest := []) (id := 58) (v1 := some (.int 0)) (fun n => rfl) hg ?_
  exact Ev.ret (fun n => rfl)
theorem week_c {e N : Nat} (hN : N < 2 ^ 31) (t : Int32) : ∃ t', Ev none (e + 3) 134 0 [some (.ref 0), some (.int (nI N))] [] (hM 243 16 t memE2) none (hM 243 16 t' memE2) 0 0 := by
  obtain ⟨t', hg⟩ := go_243 (e := e + 1) hN t
  refine ⟨t', ?_⟩
  refine Ev.step (pc' := 5) (ls' := [some (.ref 0), some (.int (nI N))]) (st' := [.int (nI N), .ref 104]) (M1 := hM 243 16 t memE2) 3 (fun n => rfl) ?_
  refine Ev.call0 (ls0 := [some (.ref 104), some (.int (nI N)), none, none, none, none, none, none, none]) (rest := []) (id := 58) (v1 := some (.int 0)) (fun n => rfl) hg ?_
  refine Ev.step (pc' := 13) (ls' := [some (.ref 0), some (.int (nI N))]) (st' := [.ref 104]) (M1 := hM 243 16 t' memE2) 3 (fun n => rfl) ?_
  refine Ev.call0 (ls0 := [some (.ref 104), none, none]) (rest := []) (id := 63) (v1 := none) (M1 := hM 243 16 t' memE2) (fun n => rfl) (Ev.hole endw_k (LE.refl _) none e t') ?_
  exact Ev.ret (fun n => rfl)
theorem keep_c {e i : Nat} (hi : i < 21) (t : Int32) : Ev none (e + 2) 15 0 [some (.ref 192), some (.int (nI i)), none] [] (hM 243 16 t memE2) none (hM 243 16 t memE2) 0 0 :=
  Ev.hole (List.all_eq_true.mp keep_k i (List.mem_range.mpr hi)) (LE.refl _) none e t
set_option maxRecDepth 200000 in
theorem idx_0 : (List.range 21).all (fun i => decide (gAt (gRep 84 (0 : Int64)) (4 * nI i + 0) = some 0)) = true := by decide +kernel
theorem at_0 {i : Nat} (hi : i < 21) : gAt (gRep 84 (0 : Int64)) (4 * nI i + 0) = some 0 := of_decide_eq_true (List.all_eq_true.mp idx_0 i (List.mem_range.mpr hi))
set_option maxRecDepth 200000 in
theorem idx_1 : (List.range 21).all (fun i => decide (gAt (gRep 84 (0 : Int64)) (4 * nI i + 1) = some 0)) = true := by decide +kernel
theorem at_1 {i : Nat} (hi : i < 21) : gAt (gRep 84 (0 : Int64)) (4 * nI i + 1) = some 0 := of_decide_eq_true (List.all_eq_true.mp idx_1 i (List.mem_range.mpr hi))
set_option maxRecDepth 200000 in
theorem idx_2 : (List.range 21).all (fun i => decide (gAt (gRep 84 (0 : Int64)) (4 * nI i + 2) = some 0)) = true := by decide +kernel
theorem at_2 {i : Nat} (hi : i < 21) : gAt (gRep 84 (0 : Int64)) (4 * nI i + 2) = some 0 := of_decide_eq_true (List.all_eq_true.mp idx_2 i (List.mem_range.mpr hi))
set_option maxRecDepth 200000 in
theorem idx_3 : (List.range 21).all (fun i => decide (gAt (gRep 84 (0 : Int64)) (4 * nI i + 3) = some 0)) = true := by decide +kernel
theorem at_3 {i : Nat} (hi : i < 21) : gAt (gRep 84 (0 : Int64)) (4 * nI i + 3) = some 0 := of_decide_eq_true (List.all_eq_true.mp idx_3 i (List.mem_range.mpr hi))
set_option maxRecDepth 200000 in
set_option maxHeartbeats 4000000 in
theorem bits_m (t : Int32) : gNth (hM 243 16 t memE2) 193 = some (.inl (2, .inr (.inl (gRep 84 0)))) := by
  rw [hM_ne (by decide)]
  rfl
set_option maxRecDepth 200000 in
theorem bitc_k : eqR (goHF none 99999 0 80 0 250 0 [some (.long 0), none] [] []) (some (.int 0)) [] 0 0 = true := by decide +kernel
theorem bitc_c {sc : Sta} {e : Nat} {M : Mem} : Ev sc e 250 0 [some (.long 0), none] [] M (some (.int 0)) M 0 0 := ⟨60, rfl⟩
set_option maxRecDepth 200000 in
set_option maxHeartbeats 4000000 in
theorem alone_c {e i j : Nat} (hi : i < 21) (hj : j < 21) (t : Int32) : Ev none (e + 1) 17 0 [some (.ref 192), some (.int (nI i)), some (.int (nI j)), none, none] [] (hM 243 16 t memE2) (some (.int 0)) (hM 243 16 t memE2) 0 0 := by
  refine Ev.step (pc' := 5) (ls' := [some (.ref 192), some (.int (nI i)), some (.int (nI j)), some (.int 0), some (.int 0)]) (st' := []) (M1 := (hM 243 16 t memE2)) 4 (fun n => rfl) ?_
  refine Ev.step (pc' := 22) (ls' := [some (.ref 192), some (.int (nI i)), some (.int (nI j)), some (.int 0), some (.int 0)]) (st' := [.int (4 * nI i + 0), .ref 193, .int 0]) (M1 := (hM 243 16 t memE2)) 11 (fun n => rfl) ?_
  refine Ev.step (pc' := 23) (ls' := [some (.ref 192), some (.int (nI i)), some (.int (nI j)), some (.int 0), some (.int 0)]) (st' := [.long 0, .int 0]) (M1 := (hM 243 16 t memE2)) 1 (fun n => laload_step rfl rfl (bits_m t) (at_0 hi)) ?_
  refine Ev.step (pc' := 33) (ls' := [some (.ref 192), some (.int (nI i)), some (.int (nI j)), some (.int 0), some (.int 0)]) (st' := [.int (4 * nI j + 0), .ref 193, .long 0, .int 0]) (M1 := (hM 243 16 t memE2)) 7 (fun n => rfl) ?_
  refine Ev.step (pc' := 34) (ls' := [some (.ref 192), some (.int (nI i)), some (.int (nI j)), some (.int 0), some (.int 0)]) (st' := [.long 0, .long 0, .int 0]) (M1 := (hM 243 16 t memE2)) 1 (fun n => laload_step rfl rfl (bits_m t) (at_0 hj)) ?_
  refine Ev.step (pc' := 39) (ls' := [some (.ref 192), some (.int (nI i)), some (.int (nI j)), some (.int 0), some (.int 0)]) (st' := [.long 0, .int 0]) (M1 := (hM 243 16 t memE2)) 3 (fun n => rfl) ?_
  refine Ev.call0 (ls0 := [some (.long 0), none]) (rest := [.int 0]) (id := 250) (v1 := some (.int 0)) (M1 := (hM 243 16 t memE2)) (fun n => rfl) bitc_c ?_
  refine Ev.step (pc' := 5) (ls' := [some (.ref 192), some (.int (nI i)), some (.int (nI j)), some (.int 0), some (.int 1)]) (st' := []) (M1 := (hM 243 16 t memE2)) 4 (fun n => rfl) ?_
  refine Ev.step (pc' := 22) (ls' := [some (.ref 192), some (.int (nI i)), some (.int (nI j)), some (.int 0), some (.int 1)]) (st' := [.int (4 * nI i + 1), .ref 193, .int 0]) (M1 := (hM 243 16 t memE2)) 11 (fun n => rfl) ?_
  refine Ev.step (pc' := 23) (ls' := [some (.ref 192), some (.int (nI i)), some (.int (nI j)), some (.int 0), some (.int 1)]) (st' := [.long 0, .int 0]) (M1 := (hM 243 16 t memE2)) 1 (fun n => laload_step rfl rfl (bits_m t) (at_1 hi)) ?_
  refine Ev.step (pc' := 33) (ls' := [some (.ref 192), some (.int (nI i)), some (.int (nI j)), some (.int 0), some (.int 1)]) (st' := [.int (4 * nI j + 1), .ref 193, .long 0, .int 0]) (M1 := (hM 243 16 t memE2)) 7 (fun n => rfl) ?_
  refine Ev.step (pc' := 34) (ls' := [some (.ref 192), some (.int (nI i)), some (.int (nI j)), some (.int 0), some (.int 1)]) (st' := [.long 0, .long 0, .int 0]) (M1 := (hM 243 16 t memE2)) 1 (fun n => laload_step rfl rfl (bits_m t) (at_1 hj)) ?_
  refine Ev.step (pc' := 39) (ls' := [some (.ref 192), some (.int (nI i)), some (.int (nI j)), some (.int 0), some (.int 1)]) (st' := [.long 0, .int 0]) (M1 := (hM 243 16 t memE2)) 3 (fun n => rfl) ?_
  refine Ev.call0 (ls0 := [some (.long 0), none]) (rest := [.int 0]) (id := 250) (v1 := some (.int 0)) (M1 := (hM 243 16 t memE2)) (fun n => rfl) bitc_c ?_
  refine Ev.step (pc' := 5) (ls' := [some (.ref 192), some (.int (nI i)), some (.int (nI j)), some (.int 0), some (.int 2)]) (st' := []) (M1 := (hM 243 16 t memE2)) 4 (fun n => rfl) ?_
  refine Ev.step (pc' := 22) (ls' := [some (.ref 192), some (.int (nI i)), some (.int (nI j)), some (.int 0), some (.int 2)]) (st' := [.int (4 * nI i + 2), .ref 193, .int 0]) (M1 := (hM 243 16 t memE2)) 11 (fun n => rfl) ?_
  refine Ev.step (pc' := 23) (ls' := [some (.ref 192), some (.int (nI i)), some (.int (nI j)), some (.int 0), some (.int 2)]) (st' := [.long 0, .int 0]) (M1 := (hM 243 16 t memE2)) 1 (fun n => laload_step rfl rfl (bits_m t) (at_2 hi)) ?_
  refine Ev.step (pc' := 33) (ls' := [some (.ref 192), some (.int (nI i)), some (.int (nI j)), some (.int 0), some (.int 2)]) (st' := [.int (4 * nI j + 2), .ref 193, .long 0, .int 0]) (M1 := (hM 243 16 t memE2)) 7 (fun n => rfl) ?_
  refine Ev.step (pc' := 34) (ls' := [some (.ref 192), some (.int (nI i)), some (.int (nI j)), some (.int 0), some (.int 2)]) (st' := [.long 0, .long 0, .int 0]) (M1 := (hM 243 16 t memE2)) 1 (fun n => laload_step rfl rfl (bits_m t) (at_2 hj)) ?_
  refine Ev.step (pc' := 39) (ls' := [some (.ref 192), some (.int (nI i)), some (.int (nI j)), some (.int 0), some (.int 2)]) (st' := [.long 0, .int 0]) (M1 := (hM 243 16 t memE2)) 3 (fun n => rfl) ?_
  refine Ev.call0 (ls0 := [some (.long 0), none]) (rest := [.int 0]) (id := 250) (v1 := some (.int 0)) (M1 := (hM 243 16 t memE2)) (fun n => rfl) bitc_c ?_
  refine Ev.step (pc' := 5) (ls' := [some (.ref 192), some (.int (nI i)), some (.int (nI j)), some (.int 0), some (.int 3)]) (st' := []) (M1 := (hM 243 16 t memE2)) 4 (fun n => rfl) ?_
  refine Ev.step (pc' := 22) (ls' := [some (.ref 192), some (.int (nI i)), some (.int (nI j)), some (.int 0), some (.int 3)]) (st' := [.int (4 * nI i + 3), .ref 193, .int 0]) (M1 := (hM 243 16 t memE2)) 11 (fun n => rfl) ?_
  refine Ev.step (pc' := 23) (ls' := [some (.ref 192), some (.int (nI i)), some (.int (nI j)), some (.int 0), some (.int 3)]) (st' := [.long 0, .int 0]) (M1 := (hM 243 16 t memE2)) 1 (fun n => laload_step rfl rfl (bits_m t) (at_3 hi)) ?_
  refine Ev.step (pc' := 33) (ls' := [some (.ref 192), some (.int (nI i)), some (.int (nI j)), some (.int 0), some (.int 3)]) (st' := [.int (4 * nI j + 3), .ref 193, .long 0, .int 0]) (M1 := (hM 243 16 t memE2)) 7 (fun n => rfl) ?_
  refine Ev.step (pc' := 34) (ls' := [some (.ref 192), some (.int (nI i)), some (.int (nI j)), some (.int 0), some (.int 3)]) (st' := [.long 0, .long 0, .int 0]) (M1 := (hM 243 16 t memE2)) 1 (fun n => laload_step rfl rfl (bits_m t) (at_3 hj)) ?_
  refine Ev.step (pc' := 39) (ls' := [some (.ref 192), some (.int (nI i)), some (.int (nI j)), some (.int 0), some (.int 3)]) (st' := [.long 0, .int 0]) (M1 := (hM 243 16 t memE2)) 3 (fun n => rfl) ?_
  refine Ev.call0 (ls0 := [some (.long 0), none]) (rest := [.int 0]) (id := 250) (v1 := some (.int 0)) (M1 := (hM 243 16 t memE2)) (fun n => rfl) bitc_c ?_
  refine Ev.step (pc' := 5) (ls' := [some (.ref 192), some (.int (nI i)), some (.int (nI j)), some (.int 0), some (.int 4)]) (st' := []) (M1 := (hM 243 16 t memE2)) 4 (fun n => rfl) ?_
  refine Ev.step (pc' := 51) (ls' := [some (.ref 192), some (.int (nI i)), some (.int (nI j)), some (.int 0), some (.int 4)]) (st' := [.int 0]) (M1 := (hM 243 16 t memE2)) 4 (fun n => rfl) ?_
  exact Ev.ret (fun n => rfl)
set_option maxRecDepth 200000 in
set_option maxHeartbeats 4000000 in
theorem size_c {e i : Nat} (hi : i < 21) (t : Int32) : Ev none (e + 1) 16 0 [some (.ref 192), some (.int (nI i)), none, none] [] (hM 243 16 t memE2) (some (.int 0)) (hM 243 16 t memE2) 0 0 := by
  refine Ev.step (pc' := 4) (ls' := [some (.ref 192), some (.int (nI i)), some (.int 0), some (.int 0)]) (st' := []) (M1 := (hM 243 16 t memE2)) 4 (fun n => rfl) ?_
  refine Ev.step (pc' := 19) (ls' := [some (.ref 192), some (.int (nI i)), some (.int 0), some (.int 0)]) (st' := [.int (4 * nI i + 0), .ref 193, .int 0]) (M1 := (hM 243 16 t memE2)) 11 (fun n => rfl) ?_
  refine Ev.step (pc' := 20) (ls' := [some (.ref 192), some (.int (nI i)), some (.int 0), some (.int 0)]) (st' := [.long 0, .int 0]) (M1 := (hM 243 16 t memE2)) 1 (fun n => laload_step rfl rfl (bits_m t) (at_0 hi)) ?_
  refine Ev.call0 (ls0 := [some (.long 0), none]) (rest := [.int 0]) (id := 250) (v1 := some (.int 0)) (M1 := (hM 243 16 t memE2)) (fun n => rfl) bitc_c ?_
  refine Ev.step (pc' := 4) (ls' := [some (.ref 192), some (.int (nI i)), some (.int 0), some (.int 1)]) (st' := []) (M1 := (hM 243 16 t memE2)) 4 (fun n => rfl) ?_
  refine Ev.step (pc' := 19) (ls' := [some (.ref 192), some (.int (nI i)), some (.int 0), some (.int 1)]) (st' := [.int (4 * nI i + 1), .ref 193, .int 0]) (M1 := (hM 243 16 t memE2)) 11 (fun n => rfl) ?_
  refine Ev.step (pc' := 20) (ls' := [some (.ref 192), some (.int (nI i)), some (.int 0), some (.int 1)]) (st' := [.long 0, .int 0]) (M1 := (hM 243 16 t memE2)) 1 (fun n => laload_step rfl rfl (bits_m t) (at_1 hi)) ?_
  refine Ev.call0 (ls0 := [some (.long 0), none]) (rest := [.int 0]) (id := 250) (v1 := some (.int 0)) (M1 := (hM 243 16 t memE2)) (fun n => rfl) bitc_c ?_
  refine Ev.step (pc' := 4) (ls' := [some (.ref 192), some (.int (nI i)), some (.int 0), some (.int 2)]) (st' := []) (M1 := (hM 243 16 t memE2)) 4 (fun n => rfl) ?_
  refine Ev.step (pc' := 19) (ls' := [some (.ref 192), some (.int (nI i)), some (.int 0), some (.int 2)]) (st' := [.int (4 * nI i + 2), .ref 193, .int 0]) (M1 := (hM 243 16 t memE2)) 11 (fun n => rfl) ?_
  refine Ev.step (pc' := 20) (ls' := [some (.ref 192), some (.int (nI i)), some (.int 0), some (.int 2)]) (st' := [.long 0, .int 0]) (M1 := (hM 243 16 t memE2)) 1 (fun n => laload_step rfl rfl (bits_m t) (at_2 hi)) ?_
  refine Ev.call0 (ls0 := [some (.long 0), none]) (rest := [.int 0]) (id := 250) (v1 := some (.int 0)) (M1 := (hM 243 16 t memE2)) (fun n => rfl) bitc_c ?_
  refine Ev.step (pc' := 4) (ls' := [some (.ref 192), some (.int (nI i)), some (.int 0), some (.int 3)]) (st' := []) (M1 := (hM 243 16 t memE2)) 4 (fun n => rfl) ?_
  refine Ev.step (pc' := 19) (ls' := [some (.ref 192), some (.int (nI i)), some (.int 0), some (.int 3)]) (st' := [.int (4 * nI i + 3), .ref 193, .int 0]) (M1 := (hM 243 16 t memE2)) 11 (fun n => rfl) ?_
  refine Ev.step (pc' := 20) (ls' := [some (.ref 192), some (.int (nI i)), some (.int 0), some (.int 3)]) (st' := [.long 0, .int 0]) (M1 := (hM 243 16 t memE2)) 1 (fun n => laload_step rfl rfl (bits_m t) (at_3 hi)) ?_
  refine Ev.call0 (ls0 := [some (.long 0), none]) (rest := [.int 0]) (id := 250) (v1 := some (.int 0)) (M1 := (hM 243 16 t memE2)) (fun n => rfl) bitc_c ?_
  refine Ev.step (pc' := 4) (ls' := [some (.ref 192), some (.int (nI i)), some (.int 0), some (.int 4)]) (st' := []) (M1 := (hM 243 16 t memE2)) 4 (fun n => rfl) ?_
  refine Ev.step (pc' := 32) (ls' := [some (.ref 192), some (.int (nI i)), some (.int 0), some (.int 4)]) (st' := [.int 0]) (M1 := (hM 243 16 t memE2)) 4 (fun n => rfl) ?_
  exact Ev.ret (fun n => rfl)
set_option maxRecDepth 200000 in
set_option maxHeartbeats 4000000 in
theorem rests_c {W K : Nat} (h1 : ¬ nI W < 1) (h2 : ¬ 40 < nI W) (h3 : ¬ nI K < 1) (h4 : ¬ 200 < nI K) (hW : W < 2 ^ 31) (hK : K < 2 ^ 31) : ∃ M1, Ev none 999 99 0 [some (.ref 0), some (.int (nI W)), some (.int (nI K)), none] [] memP (some (.int 1)) M1 0 0 := by
  obtain ⟨t', hg⟩ := week_c (e := 995) hK 0
  have hk0 := keep_c (e := 996) (i := 0) (by decide) 0
  rw [eqM e0_243] at hg hk0
  refine ⟨hM 243 16 t' memE2, ?_⟩
  refine Ev.step (pc' := 4) (ls' := [some (.ref 0), some (.int (nI W)), some (.int (nI K)), none]) (st' := [.int 40, .int 1, .int (nI W)]) (M1 := memP) 3 (fun n => rfl) ?_
  refine Ev.call0 (ls0 := [some (.int (nI W)), some (.int 1), some (.int 40)]) (rest := []) (id := 126) (v1 := some (.int 1)) (M1 := memP) (fun n => rfl) (within_in h1 h2) ?_
  refine Ev.step (pc' := 15) (ls' := [some (.ref 0), some (.int (nI W)), some (.int (nI K)), none]) (st' := [.int 200, .int 1, .int (nI K)]) (M1 := memP) 4 (fun n => rfl) ?_
  refine Ev.call0 (ls0 := [some (.int (nI K)), some (.int 1), some (.int 200)]) (rest := []) (id := 126) (v1 := some (.int 1)) (M1 := memP) (fun n => rfl) (within_in h3 h4) ?_
  refine Ev.step (pc' := 25) (ls' := [some (.ref 0), some (.int (nI W)), some (.int (nI K)), none]) (st' := [.ref 0]) (M1 := memP) 2 (fun n => rfl) ?_
  refine Ev.call0 (ls0 := [some (.ref 0)]) (rest := []) (id := 133) (v1 := none) (M1 := memE2) (fun n => rfl) (Ev.plain openc_k (LE.refl _) lnP lnE2 none 994) ?_
  refine Ev.step (pc' := 33) (ls' := [some (.ref 0), some (.int (nI W)), some (.int (nI K)), none]) (st' := [.int 0, .ref 192]) (M1 := memE2) 3 (fun n => rfl) ?_
  refine Ev.call0 (ls0 := [some (.ref 192), some (.int (nI 0)), none]) (rest := []) (id := 15) (v1 := none) (M1 := memE2) (fun n => rfl) hk0 ?_
  refine Ev.step (pc' := 40) (ls' := [some (.ref 0), some (.int (nI W)), some (.int (nI K)), some (.int 1)]) (st' := [.int (nI W), .int 1]) (M1 := memE2) 4 (fun n => rfl) ?_
  refine Ev.step (pc' := if nI W < 1 then 88 else 43) (ls' := [some (.ref 0), some (.int (nI W)), some (.int (nI K)), some (.int 1)]) (st' := []) (M1 := memE2) 1 (fun n => rfl) ?_
  rw [if_neg h1]
  refine Ev.step (pc' := 45) (ls' := [some (.ref 0), some (.int (nI W)), some (.int (nI K)), some (.int 1)]) (st' := [.int (nI K), .ref 0]) (M1 := memE2) 2 (fun n => rfl) ?_
  refine Ev.call0 (ls0 := [some (.ref 0), some (.int (nI K))]) (rest := []) (id := 134) (v1 := none) (fun n => rfl) hg ?_
  refine Ev.step (pc' := 55) (ls' := [some (.ref 0), some (.int (nI W)), some (.int (nI K)), some (.int 1)]) (st' := [.int 1, .ref 192]) (M1 := hM 243 16 t' memE2) 5 (fun n => rfl) ?_
  refine Ev.call0 (ls0 := [some (.ref 192), some (.int (nI 1)), none]) (rest := []) (id := 15) (v1 := none) (M1 := hM 243 16 t' memE2) (fun n => rfl) (keep_c (e := 996) (by decide) t') ?_
  refine Ev.step (pc' := 64) (ls' := [some (.ref 0), some (.int (nI W)), some (.int (nI K)), some (.int 1)]) (st' := [.int 1, .int 0, .ref 192]) (M1 := hM 243 16 t' memE2) 4 (fun n => rfl) ?_
  refine Ev.call0 (ls0 := [some (.ref 192), some (.int (nI 0)), some (.int (nI 1)), none, none]) (rest := []) (id := 17) (v1 := some (.int 0)) (M1 := hM 243 16 t' memE2) (fun n => rfl) (alone_c (e := 997) (by decide) (by decide) t') ?_
  refine Ev.step (pc' := 73) (ls' := [some (.ref 0), some (.int (nI W)), some (.int (nI K)), some (.int 1)]) (st' := [.int 0, .int 1, .ref 192, .int 0]) (M1 := hM 243 16 t' memE2) 4 (fun n => rfl) ?_
  refine Ev.call0 (ls0 := [some (.ref 192), some (.int (nI 1)), some (.int (nI 0)), none, none]) (rest := [.int 0]) (id := 17) (v1 := some (.int 0)) (M1 := hM 243 16 t' memE2) (fun n => rfl) (alone_c (e := 997) (by decide) (by decide) t') ?_
  refine Ev.step (pc' := 81) (ls' := [some (.ref 0), some (.int (nI W)), some (.int (nI K)), some (.int 1)]) (st' := [.int 1]) (M1 := hM 243 16 t' memE2) 3 (fun n => rfl) ?_
  exact Ev.ret (fun n => rfl)
set_option maxRecDepth 200000 in
set_option maxHeartbeats 4000000 in
theorem kw_loop {e W K : Nat} (hW : W < 21) (hK : K < 2 ^ 31) : ∀ (m i : Nat) (t : Int32), i + m = W + 1 → ∃ t', Ev none (e + 4) 107 6 [some (.ref 0), some (.int (nI W)), some (.int (nI K)), some (.int (nI i))] [] (hM 243 16 t memE2) none (hM 243 16 t' memE2) 0 0 := by
  intro m
  induction m with
  | zero =>
    intro i t h
    refine ⟨t, ?_⟩
    refine Ev.step (pc' := if nI W < nI i then 30 else 11) (ls' := [some (.ref 0), some (.int (nI W)), some (.int (nI K)), some (.int (nI i))]) (st' := []) (M1 := (hM 243 16 t memE2)) 3 (fun n => rfl) ?_
    rw [if_pos (nI_lt (by omega) (by omega))]
    exact Ev.ret (fun n => rfl)
  | succ m ih =>
    intro i t h
    obtain ⟨t1, hg⟩ := week_c (e := e) hK t
    obtain ⟨t', h1⟩ := ih (i + 1) t1 (by omega)
    rw [nI_succ] at h1
    refine ⟨t', ?_⟩
    refine Ev.step (pc' := if nI W < nI i then 30 else 11) (ls' := [some (.ref 0), some (.int (nI W)), some (.int (nI K)), some (.int (nI i))]) (st' := []) (M1 := (hM 243 16 t memE2)) 3 (fun n => rfl) ?_
    rw [if_neg (nI_nlt (by omega) (by omega))]
    refine Ev.step (pc' := 13) (ls' := [some (.ref 0), some (.int (nI W)), some (.int (nI K)), some (.int (nI i))]) (st' := [.int (nI K), .ref 0]) (M1 := (hM 243 16 t memE2)) 2 (fun n => rfl) ?_
    refine Ev.call0 (ls0 := [some (.ref 0), some (.int (nI K))]) (rest := []) (id := 134) (v1 := none) (fun n => rfl) hg ?_
    refine Ev.step (pc' := 21) (ls' := [some (.ref 0), some (.int (nI W)), some (.int (nI K)), some (.int (nI i))]) (st' := [.int (nI i), .ref 192]) (M1 := hM 243 16 t1 memE2) 3 (fun n => rfl) ?_
    refine Ev.call0 (ls0 := [some (.ref 192), some (.int (nI i)), none]) (rest := []) (id := 15) (v1 := none) (M1 := hM 243 16 t1 memE2) (fun n => rfl) (keep_c (e := e + 1) (by omega) t1) ?_
    exact Ev.step (pc' := 6) (ls' := [some (.ref 0), some (.int (nI W)), some (.int (nI K)), some (.int (nI i + 1))]) (st' := []) (M1 := hM 243 16 t1 memE2) 2 (fun n => rfl) h1
theorem keepw_c {W K : Nat} (hW : W < 21) (hK : K < 2 ^ 31) : ∃ t', Ev none 998 107 0 [some (.ref 0), some (.int (nI W)), some (.int (nI K)), none] [] memP none (hM 243 16 t' memE2) 0 0 := by
  obtain ⟨t', h⟩ := kw_loop (e := 994) hW hK W 1 0 (by omega)
  rw [eqM e0_243] at h
  refine ⟨t', ?_⟩
  refine Ev.step (pc' := 1) (ls' := [some (.ref 0), some (.int (nI W)), some (.int (nI K)), none]) (st' := [.ref 0]) (M1 := memP) 1 (fun n => rfl) ?_
  refine Ev.call0 (ls0 := [some (.ref 0)]) (rest := []) (id := 133) (v1 := none) (M1 := memE2) (fun n => rfl) (Ev.plain openc_k (LE.refl _) lnP lnE2 none 993) ?_
  exact Ev.step (pc' := 6) (ls' := [some (.ref 0), some (.int (nI W)), some (.int (nI K)), some (.int (nI 1))]) (st' := []) (M1 := memE2) 2 (fun n => rfl) h
theorem ptold_c {sc : Sta} {e : Nat} {M : Mem} {x y : Int32} (h1 : ¬ x < 1) (h2 : ¬ 20 < x) (h3 : ¬ y < 1) (h4 : ¬ 200 < y) : Ev sc (e + 1) 106 0 [some (.ref 0), some (.int x), some (.int y)] [] M (some (.int 1)) M 0 0 := by
  refine Ev.step (pc' := 4) (ls' := [some (.ref 0), some (.int x), some (.int y)]) (st' := [.int 20, .int 1, .int x]) (M1 := M) 3 (fun n => rfl) ?_
  refine Ev.call0 (ls0 := [some (.int x), some (.int 1), some (.int 20)]) (rest := []) (id := 126) (v1 := some (.int 1)) (M1 := M) (fun n => rfl) (within_in h1 h2) ?_
  refine Ev.step (pc' := 15) (ls' := [some (.ref 0), some (.int x), some (.int y)]) (st' := [.int 200, .int 1, .int y]) (M1 := M) 4 (fun n => rfl) ?_
  refine Ev.call0 (ls0 := [some (.int y), some (.int 1), some (.int 200)]) (rest := []) (id := 126) (v1 := some (.int 1)) (M1 := M) (fun n => rfl) (within_in h3 h4) ?_
  refine Ev.step (pc' := 26) (ls' := [some (.ref 0), some (.int x), some (.int y)]) (st' := [.int 1]) (M1 := M) 3 (fun n => rfl) ?_
  exact Ev.ret (fun n => rfl)
set_option maxRecDepth 200000 in
set_option maxHeartbeats 4000000 in
theorem paved_c0 {w W K : Nat} (h1 : ¬ nI W < 1) (h2 : ¬ 20 < nI W) (h3 : ¬ nI K < 1) (h4 : ¬ 200 < nI K) (h5 : ¬ nI w < 1) (h6 : ¬ nI W < nI w) (hw : w < 21) (hW : W < 21) (hK : K < 2 ^ 31) : ∃ M1, Ev none 999 104 0 [some (.ref 0), some (.int (nI w)), some (.int (nI W)), some (.int (nI K)), some (.int 0)] [] memP (some (.int 0)) M1 0 0 := by
  obtain ⟨t', hg⟩ := keepw_c hW hK
  refine ⟨hM 243 16 t' memE2, ?_⟩
  refine Ev.step (pc' := 3) (ls' := [some (.ref 0), some (.int (nI w)), some (.int (nI W)), some (.int (nI K)), some (.int 0)]) (st' := [.int (nI K), .int (nI W), .ref 0]) (M1 := memP) 3 (fun n => rfl) ?_
  refine Ev.call0 (ls0 := [some (.ref 0), some (.int (nI W)), some (.int (nI K))]) (rest := []) (id := 106) (v1 := some (.int 1)) (M1 := memP) (fun n => rfl) (ptold_c (e := 997) h1 h2 h3 h4) ?_
  refine Ev.step (pc' := 12) (ls' := [some (.ref 0), some (.int (nI w)), some (.int (nI W)), some (.int (nI K)), some (.int 0)]) (st' := [.int (nI W), .int 1, .int (nI w)]) (M1 := memP) 4 (fun n => rfl) ?_
  refine Ev.call0 (ls0 := [some (.int (nI w)), some (.int 1), some (.int (nI W))]) (rest := []) (id := 126) (v1 := some (.int 1)) (M1 := memP) (fun n => rfl) (within_in h5 h6) ?_
  refine Ev.step (pc' := 22) (ls' := [some (.ref 0), some (.int (nI w)), some (.int (nI W)), some (.int (nI K)), some (.int 0)]) (st' := [.int 2, .int 0, .int 0]) (M1 := memP) 4 (fun n => rfl) ?_
  refine Ev.call0 (ls0 := [some (.int 0), some (.int 0), some (.int 2)]) (rest := []) (id := 126) (v1 := some (.int 1)) (M1 := memP) (fun n => rfl) (within_in (by decide) (by decide)) ?_
  refine Ev.step (pc' := 33) (ls' := [some (.ref 0), some (.int (nI w)), some (.int (nI W)), some (.int (nI K)), some (.int 0)]) (st' := [.int (nI K), .int (nI W), .ref 0]) (M1 := memP) 4 (fun n => rfl) ?_
  refine Ev.call0 (ls0 := [some (.ref 0), some (.int (nI W)), some (.int (nI K)), none]) (rest := []) (id := 107) (v1 := none) (fun n => rfl) hg ?_
  refine Ev.step (pc' := 69) (ls' := [some (.ref 0), some (.int (nI w)), some (.int (nI W)), some (.int (nI K)), some (.int 0)]) (st' := [.int (nI w), .ref 192]) (M1 := hM 243 16 t' memE2) 5 (fun n => rfl) ?_
  refine Ev.call0 (ls0 := [some (.ref 192), some (.int (nI w)), none, none]) (rest := []) (id := 16) (v1 := some (.int 0)) (M1 := hM 243 16 t' memE2) (fun n => rfl) (size_c (e := 997) (by omega) t') ?_
  exact Ev.ret (fun n => rfl)
set_option maxRecDepth 200000 in
set_option maxHeartbeats 4000000 in
theorem paved_c1 {w W K : Nat} (h1 : ¬ nI W < 1) (h2 : ¬ 20 < nI W) (h3 : ¬ nI K < 1) (h4 : ¬ 200 < nI K) (h5 : ¬ nI w < 1) (h6 : ¬ nI W < nI w) (hw : w < 21) (hW : W < 21) (hK : K < 2 ^ 31) : ∃ M1, Ev none 999 104 0 [some (.ref 0), some (.int (nI w)), some (.int (nI W)), some (.int (nI K)), some (.int 1)] [] memP (some (.int 0)) M1 0 0 := by
  obtain ⟨t', hg⟩ := keepw_c hW hK
  refine ⟨hM 243 16 t' memE2, ?_⟩
  refine Ev.step (pc' := 3) (ls' := [some (.ref 0), some (.int (nI w)), some (.int (nI W)), some (.int (nI K)), some (.int 1)]) (st' := [.int (nI K), .int (nI W), .ref 0]) (M1 := memP) 3 (fun n => rfl) ?_
  refine Ev.call0 (ls0 := [some (.ref 0), some (.int (nI W)), some (.int (nI K))]) (rest := []) (id := 106) (v1 := some (.int 1)) (M1 := memP) (fun n => rfl) (ptold_c (e := 997) h1 h2 h3 h4) ?_
  refine Ev.step (pc' := 12) (ls' := [some (.ref 0), some (.int (nI w)), some (.int (nI W)), some (.int (nI K)), some (.int 1)]) (st' := [.int (nI W), .int 1, .int (nI w)]) (M1 := memP) 4 (fun n => rfl) ?_
  refine Ev.call0 (ls0 := [some (.int (nI w)), some (.int 1), some (.int (nI W))]) (rest := []) (id := 126) (v1 := some (.int 1)) (M1 := memP) (fun n => rfl) (within_in h5 h6) ?_
  refine Ev.step (pc' := 22) (ls' := [some (.ref 0), some (.int (nI w)), some (.int (nI W)), some (.int (nI K)), some (.int 1)]) (st' := [.int 2, .int 0, .int 1]) (M1 := memP) 4 (fun n => rfl) ?_
  refine Ev.call0 (ls0 := [some (.int 1), some (.int 0), some (.int 2)]) (rest := []) (id := 126) (v1 := some (.int 1)) (M1 := memP) (fun n => rfl) (within_in (by decide) (by decide)) ?_
  refine Ev.step (pc' := 33) (ls' := [some (.ref 0), some (.int (nI w)), some (.int (nI W)), some (.int (nI K)), some (.int 1)]) (st' := [.int (nI K), .int (nI W), .ref 0]) (M1 := memP) 4 (fun n => rfl) ?_
  refine Ev.call0 (ls0 := [some (.ref 0), some (.int (nI W)), some (.int (nI K)), none]) (rest := []) (id := 107) (v1 := none) (fun n => rfl) hg ?_
  refine Ev.step (pc' := 79) (ls' := [some (.ref 0), some (.int (nI w)), some (.int (nI W)), some (.int (nI K)), some (.int 1)]) (st' := [.int (nI W), .int (nI w), .ref 192]) (M1 := hM 243 16 t' memE2) 6 (fun n => rfl) ?_
  refine Ev.call0 (ls0 := [some (.ref 192), some (.int (nI w)), some (.int (nI W)), none, none]) (rest := []) (id := 17) (v1 := some (.int 0)) (M1 := hM 243 16 t' memE2) (fun n => rfl) (alone_c (e := 997) (by omega) (by omega) t') ?_
  exact Ev.ret (fun n => rfl)
set_option maxRecDepth 200000 in
set_option maxHeartbeats 4000000 in
theorem paved_c2 {w W K : Nat} (h1 : ¬ nI W < 1) (h2 : ¬ 20 < nI W) (h3 : ¬ nI K < 1) (h4 : ¬ 200 < nI K) (h5 : ¬ nI w < 1) (h6 : ¬ nI W < nI w) (hw : w < 21) (hW : W < 21) (hK : K < 2 ^ 31) : ∃ M1, Ev none 999 104 0 [some (.ref 0), some (.int (nI w)), some (.int (nI W)), some (.int (nI K)), some (.int 2)] [] memP (some (.int 0)) M1 0 0 := by
  obtain ⟨t', hg⟩ := keepw_c hW hK
  refine ⟨hM 243 16 t' memE2, ?_⟩
  refine Ev.step (pc' := 3) (ls' := [some (.ref 0), some (.int (nI w)), some (.int (nI W)), some (.int (nI K)), some (.int 2)]) (st' := [.int (nI K), .int (nI W), .ref 0]) (M1 := memP) 3 (fun n => rfl) ?_
  refine Ev.call0 (ls0 := [some (.ref 0), some (.int (nI W)), some (.int (nI K))]) (rest := []) (id := 106) (v1 := some (.int 1)) (M1 := memP) (fun n => rfl) (ptold_c (e := 997) h1 h2 h3 h4) ?_
  refine Ev.step (pc' := 12) (ls' := [some (.ref 0), some (.int (nI w)), some (.int (nI W)), some (.int (nI K)), some (.int 2)]) (st' := [.int (nI W), .int 1, .int (nI w)]) (M1 := memP) 4 (fun n => rfl) ?_
  refine Ev.call0 (ls0 := [some (.int (nI w)), some (.int 1), some (.int (nI W))]) (rest := []) (id := 126) (v1 := some (.int 1)) (M1 := memP) (fun n => rfl) (within_in h5 h6) ?_
  refine Ev.step (pc' := 22) (ls' := [some (.ref 0), some (.int (nI w)), some (.int (nI W)), some (.int (nI K)), some (.int 2)]) (st' := [.int 2, .int 0, .int 2]) (M1 := memP) 4 (fun n => rfl) ?_
  refine Ev.call0 (ls0 := [some (.int 2), some (.int 0), some (.int 2)]) (rest := []) (id := 126) (v1 := some (.int 1)) (M1 := memP) (fun n => rfl) (within_in (by decide) (by decide)) ?_
  refine Ev.step (pc' := 33) (ls' := [some (.ref 0), some (.int (nI w)), some (.int (nI W)), some (.int (nI K)), some (.int 2)]) (st' := [.int (nI K), .int (nI W), .ref 0]) (M1 := memP) 4 (fun n => rfl) ?_
  refine Ev.call0 (ls0 := [some (.ref 0), some (.int (nI W)), some (.int (nI K)), none]) (rest := []) (id := 107) (v1 := none) (fun n => rfl) hg ?_
  refine Ev.step (pc' := 89) (ls' := [some (.ref 0), some (.int (nI w)), some (.int (nI W)), some (.int (nI K)), some (.int 2)]) (st' := [.int (nI w), .int (nI W), .ref 192]) (M1 := hM 243 16 t' memE2) 6 (fun n => rfl) ?_
  refine Ev.call0 (ls0 := [some (.ref 192), some (.int (nI W)), some (.int (nI w)), none, none]) (rest := []) (id := 17) (v1 := some (.int 0)) (M1 := hM 243 16 t' memE2) (fun n => rfl) (alone_c (e := 997) (by omega) (by omega) t') ?_
  exact Ev.ret (fun n => rfl)
set_option maxRecDepth 200000 in
set_option maxHeartbeats 4000000 in
theorem wait_loop {W K : Nat} (hW : W < 21) (t : Int32) : ∀ (m i : Nat) (x : Int32), 1 ≤ i → i + m = W + 1 → Ev none 999 105 27 [some (.ref 0), some (.int (nI W)), some (.int (nI K)), some (.int 1), some (.int 1), some (.int (nI i)), some (.int x)] [] (hM 243 16 t memE2) (some (.int 1)) (hM 243 16 t memE2) 0 0 := by
  intro m
  induction m with
  | zero =>
    intro i x h0 h
    refine Ev.step (pc' := if nI W < nI i then 79 else 33) (ls' := [some (.ref 0), some (.int (nI W)), some (.int (nI K)), some (.int 1), some (.int 1), some (.int (nI i)), some (.int x)]) (st' := []) (M1 := (hM 243 16 t memE2)) 3 (fun n => rfl) ?_
    rw [if_pos (nI_lt (by omega) (by omega))]
    refine Ev.step (pc' := 80) (ls' := [some (.ref 0), some (.int (nI W)), some (.int (nI K)), some (.int 1), some (.int 1), some (.int (nI i)), some (.int x)]) (st' := [.int 1]) (M1 := (hM 243 16 t memE2)) 1 (fun n => rfl) ?_
    exact Ev.ret (fun n => rfl)
  | succ m ih =>
    intro i x h0 h
    have h1 := ih (i + 1) (0 + nI i) (by omega) (by omega)
    rw [nI_succ] at h1
    refine Ev.step (pc' := if nI W < nI i then 79 else 33) (ls' := [some (.ref 0), some (.int (nI W)), some (.int (nI K)), some (.int 1), some (.int 1), some (.int (nI i)), some (.int x)]) (st' := []) (M1 := (hM 243 16 t memE2)) 3 (fun n => rfl) ?_
    rw [if_neg (nI_nlt (by omega) (by omega))]
    refine Ev.step (pc' := 40) (ls' := [some (.ref 0), some (.int (nI W)), some (.int (nI K)), some (.int 1), some (.int 1), some (.int (nI i)), some (.int x)]) (st' := [.int (nI W), .int (nI i), .ref 192]) (M1 := (hM 243 16 t memE2)) 4 (fun n => rfl) ?_
    refine Ev.call0 (ls0 := [some (.ref 192), some (.int (nI i)), some (.int (nI W)), none, none]) (rest := []) (id := 17) (v1 := some (.int 0)) (M1 := (hM 243 16 t memE2)) (fun n => rfl) (alone_c (e := 997) (by omega) (by omega) t) ?_
    refine Ev.step (pc' := 50) (ls' := [some (.ref 0), some (.int (nI W)), some (.int (nI K)), some (.int 1), some (.int 1), some (.int (nI i)), some (.int x)]) (st' := [.int (nI i), .int (nI W), .ref 192, .int 0]) (M1 := (hM 243 16 t memE2)) 4 (fun n => rfl) ?_
    refine Ev.call0 (ls0 := [some (.ref 192), some (.int (nI W)), some (.int (nI i)), none, none]) (rest := [.int 0]) (id := 17) (v1 := some (.int 0)) (M1 := (hM 243 16 t memE2)) (fun n => rfl) (alone_c (e := 997) (by omega) (by omega) t) ?_
    refine Ev.step (pc' := 63) (ls' := [some (.ref 0), some (.int (nI W)), some (.int (nI K)), some (.int 1), some (.int 1), some (.int (nI i)), some (.int (0 + nI i))]) (st' := [.int 1, .int (0 + nI i)]) (M1 := (hM 243 16 t memE2)) 6 (fun n => rfl) ?_
    refine Ev.step (pc' := if 1 ≤ 0 + nI i then 73 else 66) (ls' := [some (.ref 0), some (.int (nI W)), some (.int (nI K)), some (.int 1), some (.int 1), some (.int (nI i)), some (.int (0 + nI i))]) (st' := []) (M1 := (hM 243 16 t memE2)) 1 (fun n => rfl) ?_
    rw [if_pos (show (1 : Int32) ≤ 0 + nI i by
      have e1 : nI 0 + nI i = nI (0 + i) := nI_add 0 i
      have e2 : (0 : Int32) + nI i = nI (0 + i) := e1
      rw [e2]
      exact nI_le (a := 1) (by omega) (by omega))]
    exact Ev.step (pc' := 27) (ls' := [some (.ref 0), some (.int (nI W)), some (.int (nI K)), some (.int 1), some (.int 1), some (.int (nI i + 1)), some (.int (0 + nI i))]) (st' := []) (M1 := (hM 243 16 t memE2)) 2 (fun n => rfl) h1
set_option maxRecDepth 200000 in
set_option maxHeartbeats 4000000 in
theorem wait_c {W K : Nat} (h1 : ¬ nI W < 1) (h2 : ¬ 20 < nI W) (h3 : ¬ nI K < 1) (h4 : ¬ 200 < nI K) (hW1 : 1 ≤ W) (hW : W < 21) (hK : K < 2 ^ 31) : ∃ M1, Ev none 999 105 0 [some (.ref 0), some (.int (nI W)), some (.int (nI K)), none, none, none, none] [] memP (some (.int 1)) M1 0 0 := by
  obtain ⟨t, hg⟩ := keepw_c hW hK
  have hl := wait_loop (K := K) hW t (W - 1) 2 (0 + nI 1) (by omega) (by omega)
  refine ⟨hM 243 16 t memE2, ?_⟩
  refine Ev.step (pc' := 3) (ls' := [some (.ref 0), some (.int (nI W)), some (.int (nI K)), none, none, none, none]) (st' := [.int (nI K), .int (nI W), .ref 0]) (M1 := memP) 3 (fun n => rfl) ?_
  refine Ev.call0 (ls0 := [some (.ref 0), some (.int (nI W)), some (.int (nI K))]) (rest := []) (id := 106) (v1 := some (.int 1)) (M1 := memP) (fun n => rfl) (ptold_c (e := 997) h1 h2 h3 h4) ?_
  refine Ev.step (pc' := 14) (ls' := [some (.ref 0), some (.int (nI W)), some (.int (nI K)), none, none, none, none]) (st' := [.int (nI K), .int (nI W), .ref 0]) (M1 := memP) 4 (fun n => rfl) ?_
  refine Ev.call0 (ls0 := [some (.ref 0), some (.int (nI W)), some (.int (nI K)), none]) (rest := []) (id := 107) (v1 := none) (fun n => rfl) hg ?_
  refine Ev.step (pc' := 27) (ls' := [some (.ref 0), some (.int (nI W)), some (.int (nI K)), some (.int 1), some (.int 276), some (.int (nI 1)), none]) (st' := []) (M1 := (hM 243 16 t memE2)) 6 (fun n => rfl) ?_
  have i1 : 1 < 21 := by decide
  refine Ev.step (pc' := if nI W < nI 1 then 79 else 33) (ls' := [some (.ref 0), some (.int (nI W)), some (.int (nI K)), some (.int 1), some (.int 276), some (.int (nI 1)), none]) (st' := []) (M1 := (hM 243 16 t memE2)) 3 (fun n => rfl) ?_
  rw [if_neg (nI_nlt (by omega) (by omega))]
  refine Ev.step (pc' := 40) (ls' := [some (.ref 0), some (.int (nI W)), some (.int (nI K)), some (.int 1), some (.int 276), some (.int (nI 1)), none]) (st' := [.int (nI W), .int (nI 1), .ref 192]) (M1 := (hM 243 16 t memE2)) 4 (fun n => rfl) ?_
  refine Ev.call0 (ls0 := [some (.ref 192), some (.int (nI 1)), some (.int (nI W)), none, none]) (rest := []) (id := 17) (v1 := some (.int 0)) (M1 := (hM 243 16 t memE2)) (fun n => rfl) (alone_c (e := 997) (by omega) (by omega) t) ?_
  refine Ev.step (pc' := 50) (ls' := [some (.ref 0), some (.int (nI W)), some (.int (nI K)), some (.int 1), some (.int 276), some (.int (nI 1)), none]) (st' := [.int (nI 1), .int (nI W), .ref 192, .int 0]) (M1 := (hM 243 16 t memE2)) 4 (fun n => rfl) ?_
  refine Ev.call0 (ls0 := [some (.ref 192), some (.int (nI W)), some (.int (nI 1)), none, none]) (rest := [.int 0]) (id := 17) (v1 := some (.int 0)) (M1 := (hM 243 16 t memE2)) (fun n => rfl) (alone_c (e := 997) (by omega) (by omega) t) ?_
  refine Ev.step (pc' := 63) (ls' := [some (.ref 0), some (.int (nI W)), some (.int (nI K)), some (.int 1), some (.int 276), some (.int (nI 1)), some (.int (0 + nI 1))]) (st' := [.int 276, .int (0 + nI 1)]) (M1 := (hM 243 16 t memE2)) 6 (fun n => rfl) ?_
  refine Ev.step (pc' := if 276 ≤ 0 + nI 1 then 73 else 66) (ls' := [some (.ref 0), some (.int (nI W)), some (.int (nI K)), some (.int 1), some (.int 276), some (.int (nI 1)), some (.int (0 + nI 1))]) (st' := []) (M1 := (hM 243 16 t memE2)) 1 (fun n => rfl) ?_
  rw [if_neg (by decide)]
  exact Ev.step (pc' := 27) (ls' := [some (.ref 0), some (.int (nI W)), some (.int (nI K)), some (.int 1), some (.int 1), some (.int (nI 2)), some (.int (0 + nI 1))]) (st' := []) (M1 := (hM 243 16 t memE2)) 6 (fun n => rfl) hl
