/-! PURE: the law's cases -/
set_option maxRecDepth 200000 in
set_option maxHeartbeats 4000000 in
theorem lc_0 {x0 x1 x2 x3 x4 x5 : Int32} (hj : x0 &&& 63 = nI 0) {v : Int32} {M1 M2 : Mem} (A : Ev none 999 80 0 [some (.ref 0), some (.int x1), some (.int x2), some (.int x3), some (.int x4), some (.int x5)] [] memP (some (.int v)) M1 0 0) (B : Ev none 999 137 0 [some (.ref 0), some (.int x1), some (.int x2), some (.int x3), some (.int x4), some (.int x5)] [] memR (some (.int v)) M2 0 0) : Okk x0 x1 x2 x3 x4 x5 := by
  have hl : M1.length = 633 := A.len.trans memP_l
  refine ⟨M1 ++ (M2.map (shE 633) ++ [memO]), law_sw hj ?_⟩
  refine Ev.step (pc' := 196) (ls' := [some (.retAddr 0), some (.ref 0), some (.ref 633), some (.ref 663), some (.int 0), none, none]) (st' := []) (M1 := mem0) 1 (fun n => rfl) ?_
  refine Ev.step (pc' := 227) (ls' := [some (.retAddr 0), some (.ref 0), some (.ref 633), some (.ref 663), some (.int 0), none, none]) (st' := [.int x5, .int x4, .int x3, .int x2, .int x1, .ref 0]) (M1 := mem0) 26 (fun n => rfl) ?_
  refine Ev.call0 (rest := []) (id := 80) (fun n => rfl) (on_cls _ A) ?_
  refine Ev.step (pc' := 261) (ls' := [some (.retAddr 0), some (.ref 0), some (.ref 633), some (.ref 663), some (.int 0), none, none]) (st' := [.int x5, .int x4, .int x3, .int x2, .int x1, .ref 633, .int v]) (M1 := M1 ++ (memM ++ [memO])) 26 (fun n => rfl) ?_
  refine Ev.call0 (rest := [.int v]) (id := 137) (fun n => callv_step rfl rfl (calk_v rfl rfl rfl rfl rfl rfl rfl rfl (recv_ref hl) rfl)) (on_ref _ hl B) ?_
  refine Ev.step (pc' := if v = v then 1352 else 267) (ls' := [some (.retAddr 0), some (.ref 0), some (.ref 633), some (.ref 663), some (.int 0), none, none]) (st' := []) 1 (fun n => rfl) ?_
  rw [if_pos rfl]
  exact law_end _ _ _ _ _ _ _
set_option maxRecDepth 200000 in
set_option maxHeartbeats 4000000 in
theorem lc_1 {x0 x1 x2 x3 x4 x5 : Int32} (hj : x0 &&& 63 = nI 1) {v : Int32} {M1 M2 : Mem} (A : Ev none 999 81 0 [some (.ref 0), some (.int x1)] [] memP (some (.int v)) M1 0 0) (B : Ev none 999 139 0 [some (.ref 0), some (.int x1)] [] memR (some (.int v)) M2 0 0) : Okk x0 x1 x2 x3 x4 x5 := by
  have hl : M1.length = 633 := A.len.trans memP_l
  refine ⟨M1 ++ (M2.map (shE 633) ++ [memO]), law_sw hj ?_⟩
  refine Ev.step (pc' := 269) (ls' := [some (.retAddr 0), some (.ref 0), some (.ref 633), some (.ref 663), some (.int 0), none, none]) (st' := []) (M1 := mem0) 1 (fun n => rfl) ?_
  refine Ev.step (pc' := 276) (ls' := [some (.retAddr 0), some (.ref 0), some (.ref 633), some (.ref 663), some (.int 0), none, none]) (st' := [.int x1, .ref 0]) (M1 := mem0) 6 (fun n => rfl) ?_
  refine Ev.call0 (rest := []) (id := 81) (fun n => rfl) (on_cls _ A) ?_
  refine Ev.step (pc' := 286) (ls' := [some (.retAddr 0), some (.ref 0), some (.ref 633), some (.ref 663), some (.int 0), none, none]) (st' := [.int x1, .ref 633, .int v]) (M1 := M1 ++ (memM ++ [memO])) 6 (fun n => rfl) ?_
  refine Ev.call0 (rest := [.int v]) (id := 139) (fun n => callv_step rfl rfl (calk_v rfl rfl rfl rfl rfl rfl rfl rfl (recv_ref hl) rfl)) (on_ref _ hl B) ?_
  refine Ev.step (pc' := if v = v then 1352 else 292) (ls' := [some (.retAddr 0), some (.ref 0), some (.ref 633), some (.ref 663), some (.int 0), none, none]) (st' := []) 1 (fun n => rfl) ?_
  rw [if_pos rfl]
  exact law_end _ _ _ _ _ _ _
set_option maxRecDepth 200000 in
set_option maxHeartbeats 4000000 in
theorem lc_2 {x0 x1 x2 x3 x4 x5 : Int32} (hj : x0 &&& 63 = nI 2) {v : Int32} {M1 M2 : Mem} (A : Ev none 999 82 0 [some (.ref 0), some (.int x1), some (.int x2), none] [] memP (some (.int v)) M1 0 0) (B : Ev none 999 156 0 [some (.ref 0), some (.int x1), some (.int x2), none] [] memR (some (.int v)) M2 0 0) : Okk x0 x1 x2 x3 x4 x5 := by
  have hl : M1.length = 633 := A.len.trans memP_l
  refine ⟨M1 ++ (M2.map (shE 633) ++ [memO]), law_sw hj ?_⟩
  refine Ev.step (pc' := 294) (ls' := [some (.retAddr 0), some (.ref 0), some (.ref 633), some (.ref 663), some (.int 0), none, none]) (st' := []) (M1 := mem0) 1 (fun n => rfl) ?_
  refine Ev.step (pc' := 307) (ls' := [some (.retAddr 0), some (.ref 0), some (.ref 633), some (.ref 663), some (.int 0), none, none]) (st' := [.int x2, .int x1, .ref 0]) (M1 := mem0) 11 (fun n => rfl) ?_
  refine Ev.call0 (rest := []) (id := 82) (fun n => rfl) (on_cls _ A) ?_
  refine Ev.step (pc' := 323) (ls' := [some (.retAddr 0), some (.ref 0), some (.ref 633), some (.ref 663), some (.int 0), none, none]) (st' := [.int x2, .int x1, .ref 633, .int v]) (M1 := M1 ++ (memM ++ [memO])) 11 (fun n => rfl) ?_
  refine Ev.call0 (rest := [.int v]) (id := 156) (fun n => callv_step rfl rfl (calk_v rfl rfl rfl rfl rfl rfl rfl rfl (recv_ref hl) rfl)) (on_ref _ hl B) ?_
  refine Ev.step (pc' := if v = v then 1352 else 329) (ls' := [some (.retAddr 0), some (.ref 0), some (.ref 633), some (.ref 663), some (.int 0), none, none]) (st' := []) 1 (fun n => rfl) ?_
  rw [if_pos rfl]
  exact law_end _ _ _ _ _ _ _
set_option maxRecDepth 200000 in
set_option maxHeartbeats 4000000 in
theorem lc_3 {x0 x1 x2 x3 x4 x5 : Int32} (hj : x0 &&& 63 = nI 3) {v : Int32} {M1 M2 : Mem} (A : Ev none 999 84 0 [some (.ref 0), some (.int x1)] [] memP (some (.int v)) M1 0 0) (B : Ev none 999 157 0 [some (.ref 0), some (.int x1)] [] memR (some (.int v)) M2 0 0) : Okk x0 x1 x2 x3 x4 x5 := by
  have hl : M1.length = 633 := A.len.trans memP_l
  refine ⟨M1 ++ (M2.map (shE 633) ++ [memO]), law_sw hj ?_⟩
  refine Ev.step (pc' := 331) (ls' := [some (.retAddr 0), some (.ref 0), some (.ref 633), some (.ref 663), some (.int 0), none, none]) (st' := []) (M1 := mem0) 1 (fun n => rfl) ?_
  refine Ev.step (pc' := 338) (ls' := [some (.retAddr 0), some (.ref 0), some (.ref 633), some (.ref 663), some (.int 0), none, none]) (st' := [.int x1, .ref 0]) (M1 := mem0) 6 (fun n => rfl) ?_
  refine Ev.call0 (rest := []) (id := 84) (fun n => rfl) (on_cls _ A) ?_
  refine Ev.step (pc' := 348) (ls' := [some (.retAddr 0), some (.ref 0), some (.ref 633), some (.ref 663), some (.int 0), none, none]) (st' := [.int x1, .ref 633, .int v]) (M1 := M1 ++ (memM ++ [memO])) 6 (fun n => rfl) ?_
  refine Ev.call0 (rest := [.int v]) (id := 157) (fun n => callv_step rfl rfl (calk_v rfl rfl rfl rfl rfl rfl rfl rfl (recv_ref hl) rfl)) (on_ref _ hl B) ?_
  refine Ev.step (pc' := if v = v then 1352 else 354) (ls' := [some (.retAddr 0), some (.ref 0), some (.ref 633), some (.ref 663), some (.int 0), none, none]) (st' := []) 1 (fun n => rfl) ?_
  rw [if_pos rfl]
  exact law_end _ _ _ _ _ _ _
set_option maxRecDepth 200000 in
set_option maxHeartbeats 4000000 in
theorem lc_4 {x0 x1 x2 x3 x4 x5 : Int32} (hj : x0 &&& 63 = nI 4) {v : Int32} {M1 M2 : Mem} (A : Ev none 999 85 0 [some (.ref 0), none, none] [] memP (some (.int v)) M1 0 0) (B : Ev none 999 184 0 [some (.ref 0), none] [] memR (some (.int v)) M2 0 0) : Okk x0 x1 x2 x3 x4 x5 := by
  have hl : M1.length = 633 := A.len.trans memP_l
  refine ⟨M1 ++ (M2.map (shE 633) ++ [memO]), law_sw hj ?_⟩
  refine Ev.step (pc' := 356) (ls' := [some (.retAddr 0), some (.ref 0), some (.ref 633), some (.ref 663), some (.int 0), none, none]) (st' := []) (M1 := mem0) 1 (fun n => rfl) ?_
  refine Ev.step (pc' := 357) (ls' := [some (.retAddr 0), some (.ref 0), some (.ref 633), some (.ref 663), some (.int 0), none, none]) (st' := [.ref 0]) (M1 := mem0) 1 (fun n => rfl) ?_
  refine Ev.call0 (rest := []) (id := 85) (fun n => rfl) (on_cls _ A) ?_
  refine Ev.step (pc' := 361) (ls' := [some (.retAddr 0), some (.ref 0), some (.ref 633), some (.ref 663), some (.int 0), none, none]) (st' := [.ref 633, .int v]) (M1 := M1 ++ (memM ++ [memO])) 1 (fun n => rfl) ?_
  refine Ev.call0 (rest := [.int v]) (id := 184) (fun n => callv_step rfl rfl (calk_v rfl rfl rfl rfl rfl rfl rfl rfl (recv_ref hl) rfl)) (on_ref _ hl B) ?_
  refine Ev.step (pc' := if v = v then 1352 else 367) (ls' := [some (.retAddr 0), some (.ref 0), some (.ref 633), some (.ref 663), some (.int 0), none, none]) (st' := []) 1 (fun n => rfl) ?_
  rw [if_pos rfl]
  exact law_end _ _ _ _ _ _ _
set_option maxRecDepth 200000 in
set_option maxHeartbeats 4000000 in
theorem lc_5 {x0 x1 x2 x3 x4 x5 : Int32} (hj : x0 &&& 63 = nI 5) {v : Int32} {M1 M2 : Mem} (A : Ev none 999 86 0 [some (.ref 0), some (.int x1), none, none] [] memP (some (.int v)) M1 0 0) (B : Ev none 999 185 0 [some (.ref 0), some (.int x1)] [] memR (some (.int v)) M2 0 0) : Okk x0 x1 x2 x3 x4 x5 := by
  have hl : M1.length = 633 := A.len.trans memP_l
  refine ⟨M1 ++ (M2.map (shE 633) ++ [memO]), law_sw hj ?_⟩
  refine Ev.step (pc' := 369) (ls' := [some (.retAddr 0), some (.ref 0), some (.ref 633), some (.ref 663), some (.int 0), none, none]) (st' := []) (M1 := mem0) 1 (fun n => rfl) ?_
  refine Ev.step (pc' := 376) (ls' := [some (.retAddr 0), some (.ref 0), some (.ref 633), some (.ref 663), some (.int 0), none, none]) (st' := [.int x1, .ref 0]) (M1 := mem0) 6 (fun n => rfl) ?_
  refine Ev.call0 (rest := []) (id := 86) (fun n => rfl) (on_cls _ A) ?_
  refine Ev.step (pc' := 386) (ls' := [some (.retAddr 0), some (.ref 0), some (.ref 633), some (.ref 663), some (.int 0), none, none]) (st' := [.int x1, .ref 633, .int v]) (M1 := M1 ++ (memM ++ [memO])) 6 (fun n => rfl) ?_
  refine Ev.call0 (rest := [.int v]) (id := 185) (fun n => callv_step rfl rfl (calk_v rfl rfl rfl rfl rfl rfl rfl rfl (recv_ref hl) rfl)) (on_ref _ hl B) ?_
  refine Ev.step (pc' := if v = v then 1352 else 392) (ls' := [some (.retAddr 0), some (.ref 0), some (.ref 633), some (.ref 663), some (.int 0), none, none]) (st' := []) 1 (fun n => rfl) ?_
  rw [if_pos rfl]
  exact law_end _ _ _ _ _ _ _
set_option maxRecDepth 200000 in
set_option maxHeartbeats 4000000 in
theorem lc_6 {x0 x1 x2 x3 x4 x5 : Int32} (hj : x0 &&& 63 = nI 6) {v : Int32} {M1 M2 : Mem} (A : Ev none 999 88 0 [some (.ref 0)] [] memP (some (.int v)) M1 0 0) (B : Ev none 999 186 0 [some (.ref 0)] [] memR (some (.int v)) M2 0 0) : Okk x0 x1 x2 x3 x4 x5 := by
  have hl : M1.length = 633 := A.len.trans memP_l
  refine ⟨M1 ++ (M2.map (shE 633) ++ [memO]), law_sw hj ?_⟩
  refine Ev.step (pc' := 394) (ls' := [some (.retAddr 0), some (.ref 0), some (.ref 633), some (.ref 663), some (.int 0), none, none]) (st' := []) (M1 := mem0) 1 (fun n => rfl) ?_
  refine Ev.step (pc' := 395) (ls' := [some (.retAddr 0), some (.ref 0), some (.ref 633), some (.ref 663), some (.int 0), none, none]) (st' := [.ref 0]) (M1 := mem0) 1 (fun n => rfl) ?_
  refine Ev.call0 (rest := []) (id := 88) (fun n => rfl) (on_cls _ A) ?_
  refine Ev.step (pc' := 399) (ls' := [some (.retAddr 0), some (.ref 0), some (.ref 633), some (.ref 663), some (.int 0), none, none]) (st' := [.ref 633, .int v]) (M1 := M1 ++ (memM ++ [memO])) 1 (fun n => rfl) ?_
  refine Ev.call0 (rest := [.int v]) (id := 186) (fun n => callv_step rfl rfl (calk_v rfl rfl rfl rfl rfl rfl rfl rfl (recv_ref hl) rfl)) (on_ref _ hl B) ?_
  refine Ev.step (pc' := if v = v then 1352 else 405) (ls' := [some (.retAddr 0), some (.ref 0), some (.ref 633), some (.ref 663), some (.int 0), none, none]) (st' := []) 1 (fun n => rfl) ?_
  rw [if_pos rfl]
  exact law_end _ _ _ _ _ _ _
set_option maxRecDepth 200000 in
set_option maxHeartbeats 4000000 in
theorem lc_7 {x0 x1 x2 x3 x4 x5 : Int32} (hj : x0 &&& 63 = nI 7) {v : Int32} {M1 M2 : Mem} (A : Ev none 999 89 0 [some (.ref 0), some (.int x1), some (.int x2), some (.int x3), some (.int x4), some (.int x5), none] [] memP (some (.int v)) M1 0 0) (B : Ev none 999 191 0 [some (.ref 0), some (.int x1), some (.int x2), some (.int x3), some (.int x4), some (.int x5), none] [] memR (some (.int v)) M2 0 0) : Okk x0 x1 x2 x3 x4 x5 := by
  have hl : M1.length = 633 := A.len.trans memP_l
  refine ⟨M1 ++ (M2.map (shE 633) ++ [memO]), law_sw hj ?_⟩
  refine Ev.step (pc' := 407) (ls' := [some (.retAddr 0), some (.ref 0), some (.ref 633), some (.ref 663), some (.int 0), none, none]) (st' := []) (M1 := mem0) 1 (fun n => rfl) ?_
  refine Ev.step (pc' := 438) (ls' := [some (.retAddr 0), some (.ref 0), some (.ref 633), some (.ref 663), some (.int 0), none, none]) (st' := [.int x5, .int x4, .int x3, .int x2, .int x1, .ref 0]) (M1 := mem0) 26 (fun n => rfl) ?_
  refine Ev.call0 (rest := []) (id := 89) (fun n => rfl) (on_cls _ A) ?_
  refine Ev.step (pc' := 472) (ls' := [some (.retAddr 0), some (.ref 0), some (.ref 633), some (.ref 663), some (.int 0), none, none]) (st' := [.int x5, .int x4, .int x3, .int x2, .int x1, .ref 633, .int v]) (M1 := M1 ++ (memM ++ [memO])) 26 (fun n => rfl) ?_
  refine Ev.call0 (rest := [.int v]) (id := 191) (fun n => callv_step rfl rfl (calk_v rfl rfl rfl rfl rfl rfl rfl rfl (recv_ref hl) rfl)) (on_ref _ hl B) ?_
  refine Ev.step (pc' := if v = v then 1352 else 478) (ls' := [some (.retAddr 0), some (.ref 0), some (.ref 633), some (.ref 663), some (.int 0), none, none]) (st' := []) 1 (fun n => rfl) ?_
  rw [if_pos rfl]
  exact law_end _ _ _ _ _ _ _
set_option maxRecDepth 200000 in
set_option maxHeartbeats 4000000 in
theorem lc_8 {x0 x1 x2 x3 x4 x5 : Int32} (hj : x0 &&& 63 = nI 8) {v : Int32} {M1 M2 : Mem} (A : Ev none 999 90 0 [some (.ref 0), some (.int x1)] [] memP (some (.int v)) M1 0 0) (B : Ev none 999 192 0 [some (.ref 0), some (.int x1)] [] memR (some (.int v)) M2 0 0) : Okk x0 x1 x2 x3 x4 x5 := by
  have hl : M1.length = 633 := A.len.trans memP_l
  refine ⟨M1 ++ (M2.map (shE 633) ++ [memO]), law_sw hj ?_⟩
  refine Ev.step (pc' := 480) (ls' := [some (.retAddr 0), some (.ref 0), some (.ref 633), some (.ref 663), some (.int 0), none, none]) (st' := []) (M1 := mem0) 1 (fun n => rfl) ?_
  refine Ev.step (pc' := 487) (ls' := [some (.retAddr 0), some (.ref 0), some (.ref 633), some (.ref 663), some (.int 0), none, none]) (st' := [.int x1, .ref 0]) (M1 := mem0) 6 (fun n => rfl) ?_
  refine Ev.call0 (rest := []) (id := 90) (fun n => rfl) (on_cls _ A) ?_
  refine Ev.step (pc' := 497) (ls' := [some (.retAddr 0), some (.ref 0), some (.ref 633), some (.ref 663), some (.int 0), none, none]) (st' := [.int x1, .ref 633, .int v]) (M1 := M1 ++ (memM ++ [memO])) 6 (fun n => rfl) ?_
  refine Ev.call0 (rest := [.int v]) (id := 192) (fun n => callv_step rfl rfl (calk_v rfl rfl rfl rfl rfl rfl rfl rfl (recv_ref hl) rfl)) (on_ref _ hl B) ?_
  refine Ev.step (pc' := if v = v then 1352 else 503) (ls' := [some (.retAddr 0), some (.ref 0), some (.ref 633), some (.ref 663), some (.int 0), none, none]) (st' := []) 1 (fun n => rfl) ?_
  rw [if_pos rfl]
  exact law_end _ _ _ _ _ _ _
set_option maxRecDepth 200000 in
set_option maxHeartbeats 4000000 in
theorem lc_9 {x0 x1 x2 x3 x4 x5 : Int32} (hj : x0 &&& 63 = nI 9) {v : Int32} {M1 M2 : Mem} (A : Ev none 999 91 0 [some (.ref 0), some (.int x1)] [] memP (some (.int v)) M1 0 0) (B : Ev none 999 208 0 [some (.ref 0), some (.int x1), none] [] memR (some (.int v)) M2 0 0) : Okk x0 x1 x2 x3 x4 x5 := by
  have hl : M1.length = 633 := A.len.trans memP_l
  refine ⟨M1 ++ (M2.map (shE 633) ++ [memO]), law_sw hj ?_⟩
  refine Ev.step (pc' := 505) (ls' := [some (.retAddr 0), some (.ref 0), some (.ref 633), some (.ref 663), some (.int 0), none, none]) (st' := []) (M1 := mem0) 1 (fun n => rfl) ?_
  refine Ev.step (pc' := 512) (ls' := [some (.retAddr 0), some (.ref 0), some (.ref 633), some (.ref 663), some (.int 0), none, none]) (st' := [.int x1, .ref 0]) (M1 := mem0) 6 (fun n => rfl) ?_
  refine Ev.call0 (rest := []) (id := 91) (fun n => rfl) (on_cls _ A) ?_
  refine Ev.step (pc' := 522) (ls' := [some (.retAddr 0), some (.ref 0), some (.ref 633), some (.ref 663), some (.int 0), none, none]) (st' := [.int x1, .ref 633, .int v]) (M1 := M1 ++ (memM ++ [memO])) 6 (fun n => rfl) ?_
  refine Ev.call0 (rest := [.int v]) (id := 208) (fun n => callv_step rfl rfl (calk_v rfl rfl rfl rfl rfl rfl rfl rfl (recv_ref hl) rfl)) (on_ref _ hl B) ?_
  refine Ev.step (pc' := if v = v then 1352 else 528) (ls' := [some (.retAddr 0), some (.ref 0), some (.ref 633), some (.ref 663), some (.int 0), none, none]) (st' := []) 1 (fun n => rfl) ?_
  rw [if_pos rfl]
  exact law_end _ _ _ _ _ _ _
set_option maxRecDepth 200000 in
set_option maxHeartbeats 4000000 in
theorem lc_10 {x0 x1 x2 x3 x4 x5 : Int32} (hj : x0 &&& 63 = nI 10) {v : Int32} {M1 M2 : Mem} (A : Ev none 999 92 0 [some (.ref 0)] [] memP (some (.int v)) M1 0 0) (B : Ev none 999 210 0 [some (.ref 0)] [] memR (some (.int v)) M2 0 0) : Okk x0 x1 x2 x3 x4 x5 := by
  have hl : M1.length = 633 := A.len.trans memP_l
  refine ⟨M1 ++ (M2.map (shE 633) ++ [memO]), law_sw hj ?_⟩
  refine Ev.step (pc' := 530) (ls' := [some (.retAddr 0), some (.ref 0), some (.ref 633), some (.ref 663), some (.int 0), none, none]) (st' := []) (M1 := mem0) 1 (fun n => rfl) ?_
  refine Ev.step (pc' := 531) (ls' := [some (.retAddr 0), some (.ref 0), some (.ref 633), some (.ref 663), some (.int 0), none, none]) (st' := [.ref 0]) (M1 := mem0) 1 (fun n => rfl) ?_
  refine Ev.call0 (rest := []) (id := 92) (fun n => rfl) (on_cls _ A) ?_
  refine Ev.step (pc' := 535) (ls' := [some (.retAddr 0), some (.ref 0), some (.ref 633), some (.ref 663), some (.int 0), none, none]) (st' := [.ref 633, .int v]) (M1 := M1 ++ (memM ++ [memO])) 1 (fun n => rfl) ?_
  refine Ev.call0 (rest := [.int v]) (id := 210) (fun n => callv_step rfl rfl (calk_v rfl rfl rfl rfl rfl rfl rfl rfl (recv_ref hl) rfl)) (on_ref _ hl B) ?_
  refine Ev.step (pc' := if v = v then 1352 else 541) (ls' := [some (.retAddr 0), some (.ref 0), some (.ref 633), some (.ref 663), some (.int 0), none, none]) (st' := []) 1 (fun n => rfl) ?_
  rw [if_pos rfl]
  exact law_end _ _ _ _ _ _ _
set_option maxRecDepth 200000 in
set_option maxHeartbeats 4000000 in
theorem lc_11 {x0 x1 x2 x3 x4 x5 : Int32} (hj : x0 &&& 63 = nI 11) {v : Int32} {M1 M2 : Mem} (A : Ev none 999 93 0 [some (.ref 0), some (.int x1), none, none] [] memP (some (.int v)) M1 0 0) (B : Ev none 999 211 0 [some (.ref 0), some (.int x1), none] [] memR (some (.int v)) M2 0 0) : Okk x0 x1 x2 x3 x4 x5 := by
  have hl : M1.length = 633 := A.len.trans memP_l
  refine ⟨M1 ++ (M2.map (shE 633) ++ [memO]), law_sw hj ?_⟩
  refine Ev.step (pc' := 543) (ls' := [some (.retAddr 0), some (.ref 0), some (.ref 633), some (.ref 663), some (.int 0), none, none]) (st' := []) (M1 := mem0) 1 (fun n => rfl) ?_
  refine Ev.step (pc' := 550) (ls' := [some (.retAddr 0), some (.ref 0), some (.ref 633), some (.ref 663), some (.int 0), none, none]) (st' := [.int x1, .ref 0]) (M1 := mem0) 6 (fun n => rfl) ?_
  refine Ev.call0 (rest := []) (id := 93) (fun n => rfl) (on_cls _ A) ?_
  refine Ev.step (pc' := 560) (ls' := [some (.retAddr 0), some (.ref 0), some (.ref 633), some (.ref 663), some (.int 0), none, none]) (st' := [.int x1, .ref 633, .int v]) (M1 := M1 ++ (memM ++ [memO])) 6 (fun n => rfl) ?_
  refine Ev.call0 (rest := [.int v]) (id := 211) (fun n => callv_step rfl rfl (calk_v rfl rfl rfl rfl rfl rfl rfl rfl (recv_ref hl) rfl)) (on_ref _ hl B) ?_
  refine Ev.step (pc' := if v = v then 1352 else 566) (ls' := [some (.retAddr 0), some (.ref 0), some (.ref 633), some (.ref 663), some (.int 0), none, none]) (st' := []) 1 (fun n => rfl) ?_
  rw [if_pos rfl]
  exact law_end _ _ _ _ _ _ _
set_option maxRecDepth 200000 in
set_option maxHeartbeats 4000000 in
theorem lc_12 {x0 x1 x2 x3 x4 x5 : Int32} (hj : x0 &&& 63 = nI 12) {M1 M2 : Mem} (A : Ev none 999 94 0 [some (.ref 0)] [] memP (none) M1 0 0) (B : Ev none 999 212 0 [some (.ref 0), none] [] memR (none) M2 0 0) : Okk x0 x1 x2 x3 x4 x5 := by
  have hl : M1.length = 633 := A.len.trans memP_l
  refine ⟨M1 ++ (M2.map (shE 633) ++ [memO]), law_sw hj ?_⟩
  refine Ev.step (pc' := 568) (ls' := [some (.retAddr 0), some (.ref 0), some (.ref 633), some (.ref 663), some (.int 0), none, none]) (st' := []) (M1 := mem0) 1 (fun n => rfl) ?_
  refine Ev.step (pc' := 569) (ls' := [some (.retAddr 0), some (.ref 0), some (.ref 633), some (.ref 663), some (.int 0), none, none]) (st' := [.ref 0]) (M1 := mem0) 1 (fun n => rfl) ?_
  refine Ev.call0 (rest := []) (id := 94) (fun n => rfl) (on_cls _ A) ?_
  refine Ev.step (pc' := 573) (ls' := [some (.retAddr 0), some (.ref 0), some (.ref 633), some (.ref 663), some (.int 0), none, none]) (st' := [.ref 633]) (M1 := M1 ++ (memM ++ [memO])) 1 (fun n => rfl) ?_
  refine Ev.call0 (rest := []) (id := 212) (fun n => callv_step rfl rfl (calk_v rfl rfl rfl rfl rfl rfl rfl rfl (recv_ref hl) rfl)) (on_ref _ hl B) ?_
  refine Ev.step (pc' := 1352) (ls' := [some (.retAddr 0), some (.ref 0), some (.ref 633), some (.ref 663), some (.int 0), none, none]) (st' := []) 1 (fun n => rfl) ?_
  exact law_end _ _ _ _ _ _ _
set_option maxRecDepth 200000 in
set_option maxHeartbeats 4000000 in
theorem lc_13 {x0 x1 x2 x3 x4 x5 : Int32} (hj : x0 &&& 63 = nI 13) {v : Int32} {M1 M2 : Mem} (A : Ev none 999 95 0 [some (.ref 0), some (.int x1), some (.int x2)] [] memP (some (.int v)) M1 0 0) (B : Ev none 999 213 0 [some (.ref 0), some (.int x1), some (.int x2)] [] memR (some (.int v)) M2 0 0) : Okk x0 x1 x2 x3 x4 x5 := by
  have hl : M1.length = 633 := A.len.trans memP_l
  refine ⟨M1 ++ (M2.map (shE 633) ++ [memO]), law_sw hj ?_⟩
  refine Ev.step (pc' := 579) (ls' := [some (.retAddr 0), some (.ref 0), some (.ref 633), some (.ref 663), some (.int 0), none, none]) (st' := []) (M1 := mem0) 1 (fun n => rfl) ?_
  refine Ev.step (pc' := 592) (ls' := [some (.retAddr 0), some (.ref 0), some (.ref 633), some (.ref 663), some (.int 0), none, none]) (st' := [.int x2, .int x1, .ref 0]) (M1 := mem0) 11 (fun n => rfl) ?_
  refine Ev.call0 (rest := []) (id := 95) (fun n => rfl) (on_cls _ A) ?_
  refine Ev.step (pc' := 608) (ls' := [some (.retAddr 0), some (.ref 0), some (.ref 633), some (.ref 663), some (.int 0), none, none]) (st' := [.int x2, .int x1, .ref 633, .int v]) (M1 := M1 ++ (memM ++ [memO])) 11 (fun n => rfl) ?_
  refine Ev.call0 (rest := [.int v]) (id := 213) (fun n => callv_step rfl rfl (calk_v rfl rfl rfl rfl rfl rfl rfl rfl (recv_ref hl) rfl)) (on_ref _ hl B) ?_
  refine Ev.step (pc' := if v = v then 1352 else 614) (ls' := [some (.retAddr 0), some (.ref 0), some (.ref 633), some (.ref 663), some (.int 0), none, none]) (st' := []) 1 (fun n => rfl) ?_
  rw [if_pos rfl]
  exact law_end _ _ _ _ _ _ _
set_option maxRecDepth 200000 in
set_option maxHeartbeats 4000000 in
theorem lc_15 {x0 x1 x2 x3 x4 x5 : Int32} (hj : x0 &&& 63 = nI 15) {v : Int32} {M1 M2 : Mem} (A : Ev none 999 96 0 [some (.ref 0), some (.int x1), some (.int x2), none] [] memP (some (.int v)) M1 0 0) (B : Ev none 999 216 0 [some (.ref 0), some (.int x1), some (.int x2)] [] memR (some (.int v)) M2 0 0) : Okk x0 x1 x2 x3 x4 x5 := by
  have hl : M1.length = 633 := A.len.trans memP_l
  refine ⟨M1 ++ (M2.map (shE 633) ++ [memO]), law_sw hj ?_⟩
  refine Ev.step (pc' := 684) (ls' := [some (.retAddr 0), some (.ref 0), some (.ref 633), some (.ref 663), some (.int 0), none, none]) (st' := []) (M1 := mem0) 1 (fun n => rfl) ?_
  refine Ev.step (pc' := 697) (ls' := [some (.retAddr 0), some (.ref 0), some (.ref 633), some (.ref 663), some (.int 0), none, none]) (st' := [.int x2, .int x1, .ref 0]) (M1 := mem0) 11 (fun n => rfl) ?_
  refine Ev.call0 (rest := []) (id := 96) (fun n => rfl) (on_cls _ A) ?_
  refine Ev.step (pc' := 713) (ls' := [some (.retAddr 0), some (.ref 0), some (.ref 633), some (.ref 663), some (.int 0), none, none]) (st' := [.int x2, .int x1, .ref 633, .int v]) (M1 := M1 ++ (memM ++ [memO])) 11 (fun n => rfl) ?_
  refine Ev.call0 (rest := [.int v]) (id := 216) (fun n => callv_step rfl rfl (calk_v rfl rfl rfl rfl rfl rfl rfl rfl (recv_ref hl) rfl)) (on_ref _ hl B) ?_
  refine Ev.step (pc' := if v = v then 1352 else 719) (ls' := [some (.retAddr 0), some (.ref 0), some (.ref 633), some (.ref 663), some (.int 0), none, none]) (st' := []) 1 (fun n => rfl) ?_
  rw [if_pos rfl]
  exact law_end _ _ _ _ _ _ _
set_option maxRecDepth 200000 in
set_option maxHeartbeats 4000000 in
theorem lc_16 {x0 x1 x2 x3 x4 x5 : Int32} (hj : x0 &&& 63 = nI 16) {v : Int32} {M1 M2 : Mem} (A : Ev none 999 97 0 [some (.ref 0)] [] memP (some (.int v)) M1 0 0) (B : Ev none 999 218 0 [some (.ref 0)] [] memR (some (.int v)) M2 0 0) : Okk x0 x1 x2 x3 x4 x5 := by
  have hl : M1.length = 633 := A.len.trans memP_l
  refine ⟨M1 ++ (M2.map (shE 633) ++ [memO]), law_sw hj ?_⟩
  refine Ev.step (pc' := 721) (ls' := [some (.retAddr 0), some (.ref 0), some (.ref 633), some (.ref 663), some (.int 0), none, none]) (st' := []) (M1 := mem0) 1 (fun n => rfl) ?_
  refine Ev.step (pc' := 722) (ls' := [some (.retAddr 0), some (.ref 0), some (.ref 633), some (.ref 663), some (.int 0), none, none]) (st' := [.ref 0]) (M1 := mem0) 1 (fun n => rfl) ?_
  refine Ev.call0 (rest := []) (id := 97) (fun n => rfl) (on_cls _ A) ?_
  refine Ev.step (pc' := 726) (ls' := [some (.retAddr 0), some (.ref 0), some (.ref 633), some (.ref 663), some (.int 0), none, none]) (st' := [.ref 633, .int v]) (M1 := M1 ++ (memM ++ [memO])) 1 (fun n => rfl) ?_
  refine Ev.call0 (rest := [.int v]) (id := 218) (fun n => callv_step rfl rfl (calk_v rfl rfl rfl rfl rfl rfl rfl rfl (recv_ref hl) rfl)) (on_ref _ hl B) ?_
  refine Ev.step (pc' := if v = v then 1352 else 732) (ls' := [some (.retAddr 0), some (.ref 0), some (.ref 633), some (.ref 663), some (.int 0), none, none]) (st' := []) 1 (fun n => rfl) ?_
  rw [if_pos rfl]
  exact law_end _ _ _ _ _ _ _
set_option maxRecDepth 200000 in
set_option maxHeartbeats 4000000 in
theorem lc_17 {x0 x1 x2 x3 x4 x5 : Int32} (hj : x0 &&& 63 = nI 17) {v : Int32} {M1 M2 : Mem} (A : Ev none 999 98 0 [some (.ref 0)] [] memP (some (.int v)) M1 0 0) (B : Ev none 999 219 0 [some (.ref 0), none, none] [] memR (some (.int v)) M2 0 0) : Okk x0 x1 x2 x3 x4 x5 := by
  have hl : M1.length = 633 := A.len.trans memP_l
  refine ⟨M1 ++ (M2.map (shE 633) ++ [memO]), law_sw hj ?_⟩
  refine Ev.step (pc' := 734) (ls' := [some (.retAddr 0), some (.ref 0), some (.ref 633), some (.ref 663), some (.int 0), none, none]) (st' := []) (M1 := mem0) 1 (fun n => rfl) ?_
  refine Ev.step (pc' := 735) (ls' := [some (.retAddr 0), some (.ref 0), some (.ref 633), some (.ref 663), some (.int 0), none, none]) (st' := [.ref 0]) (M1 := mem0) 1 (fun n => rfl) ?_
  refine Ev.call0 (rest := []) (id := 98) (fun n => rfl) (on_cls _ A) ?_
  refine Ev.step (pc' := 739) (ls' := [some (.retAddr 0), some (.ref 0), some (.ref 633), some (.ref 663), some (.int 0), none, none]) (st' := [.ref 633, .int v]) (M1 := M1 ++ (memM ++ [memO])) 1 (fun n => rfl) ?_
  refine Ev.call0 (rest := [.int v]) (id := 219) (fun n => callv_step rfl rfl (calk_v rfl rfl rfl rfl rfl rfl rfl rfl (recv_ref hl) rfl)) (on_ref _ hl B) ?_
  refine Ev.step (pc' := if v = v then 1352 else 745) (ls' := [some (.retAddr 0), some (.ref 0), some (.ref 633), some (.ref 663), some (.int 0), none, none]) (st' := []) 1 (fun n => rfl) ?_
  rw [if_pos rfl]
  exact law_end _ _ _ _ _ _ _
set_option maxRecDepth 200000 in
set_option maxHeartbeats 4000000 in
theorem lc_18 {x0 x1 x2 x3 x4 x5 : Int32} (hj : x0 &&& 63 = nI 18) {v : Int32} {M1 M2 : Mem} (A : Ev none 999 99 0 [some (.ref 0), some (.int x1), some (.int x2), none] [] memP (some (.int v)) M1 0 0) (B : Ev none 999 224 0 [some (.ref 0), some (.int x1), some (.int x2), none, none] [] memR (some (.int v)) M2 0 0) : Okk x0 x1 x2 x3 x4 x5 := by
  have hl : M1.length = 633 := A.len.trans memP_l
  refine ⟨M1 ++ (M2.map (shE 633) ++ [memO]), law_sw hj ?_⟩
  refine Ev.step (pc' := 747) (ls' := [some (.retAddr 0), some (.ref 0), some (.ref 633), some (.ref 663), some (.int 0), none, none]) (st' := []) (M1 := mem0) 1 (fun n => rfl) ?_
  refine Ev.step (pc' := 760) (ls' := [some (.retAddr 0), some (.ref 0), some (.ref 633), some (.ref 663), some (.int 0), none, none]) (st' := [.int x2, .int x1, .ref 0]) (M1 := mem0) 11 (fun n => rfl) ?_
  refine Ev.call0 (rest := []) (id := 99) (fun n => rfl) (on_cls _ A) ?_
  refine Ev.step (pc' := 776) (ls' := [some (.retAddr 0), some (.ref 0), some (.ref 633), some (.ref 663), some (.int 0), none, none]) (st' := [.int x2, .int x1, .ref 633, .int v]) (M1 := M1 ++ (memM ++ [memO])) 11 (fun n => rfl) ?_
  refine Ev.call0 (rest := [.int v]) (id := 224) (fun n => callv_step rfl rfl (calk_v rfl rfl rfl rfl rfl rfl rfl rfl (recv_ref hl) rfl)) (on_ref _ hl B) ?_
  refine Ev.step (pc' := if v = v then 1352 else 782) (ls' := [some (.retAddr 0), some (.ref 0), some (.ref 633), some (.ref 663), some (.int 0), none, none]) (st' := []) 1 (fun n => rfl) ?_
  rw [if_pos rfl]
  exact law_end _ _ _ _ _ _ _
set_option maxRecDepth 200000 in
set_option maxHeartbeats 4000000 in
theorem lc_19 {x0 x1 x2 x3 x4 x5 : Int32} (hj : x0 &&& 63 = nI 19) {v : Int32} {M1 M2 : Mem} (A : Ev none 999 100 0 [some (.ref 0), none] [] memP (some (.int v)) M1 0 0) (B : Ev none 999 226 0 [some (.ref 0), none, none, none, none, none, none, none] [] memR (some (.int v)) M2 0 0) : Okk x0 x1 x2 x3 x4 x5 := by
  have hl : M1.length = 633 := A.len.trans memP_l
  refine ⟨M1 ++ (M2.map (shE 633) ++ [memO]), law_sw hj ?_⟩
  refine Ev.step (pc' := 784) (ls' := [some (.retAddr 0), some (.ref 0), some (.ref 633), some (.ref 663), some (.int 0), none, none]) (st' := []) (M1 := mem0) 1 (fun n => rfl) ?_
  refine Ev.step (pc' := 785) (ls' := [some (.retAddr 0), some (.ref 0), some (.ref 633), some (.ref 663), some (.int 0), none, none]) (st' := [.ref 0]) (M1 := mem0) 1 (fun n => rfl) ?_
  refine Ev.call0 (rest := []) (id := 100) (fun n => rfl) (on_cls _ A) ?_
  refine Ev.step (pc' := 789) (ls' := [some (.retAddr 0), some (.ref 0), some (.ref 633), some (.ref 663), some (.int 0), none, none]) (st' := [.ref 633, .int v]) (M1 := M1 ++ (memM ++ [memO])) 1 (fun n => rfl) ?_
  refine Ev.call0 (rest := [.int v]) (id := 226) (fun n => callv_step rfl rfl (calk_v rfl rfl rfl rfl rfl rfl rfl rfl (recv_ref hl) rfl)) (on_ref _ hl B) ?_
  refine Ev.step (pc' := if v = v then 1352 else 795) (ls' := [some (.retAddr 0), some (.ref 0), some (.ref 633), some (.ref 663), some (.int 0), none, none]) (st' := []) 1 (fun n => rfl) ?_
  rw [if_pos rfl]
  exact law_end _ _ _ _ _ _ _
set_option maxRecDepth 200000 in
set_option maxHeartbeats 4000000 in
theorem lc_20 {x0 x1 x2 x3 x4 x5 : Int32} (hj : x0 &&& 63 = nI 20) {v : Int32} {M1 M2 : Mem} (A : Ev none 999 102 0 [some (.ref 0), some (.int x1), some (.int x2)] [] memP (some (.int v)) M1 0 0) (B : Ev none 999 229 0 [some (.ref 0), some (.int x1), some (.int x2), none, none] [] memR (some (.int v)) M2 0 0) : Okk x0 x1 x2 x3 x4 x5 := by
  have hl : M1.length = 633 := A.len.trans memP_l
  refine ⟨M1 ++ (M2.map (shE 633) ++ [memO]), law_sw hj ?_⟩
  refine Ev.step (pc' := 797) (ls' := [some (.retAddr 0), some (.ref 0), some (.ref 633), some (.ref 663), some (.int 0), none, none]) (st' := []) (M1 := mem0) 1 (fun n => rfl) ?_
  refine Ev.step (pc' := 810) (ls' := [some (.retAddr 0), some (.ref 0), some (.ref 633), some (.ref 663), some (.int 0), none, none]) (st' := [.int x2, .int x1, .ref 0]) (M1 := mem0) 11 (fun n => rfl) ?_
  refine Ev.call0 (rest := []) (id := 102) (fun n => rfl) (on_cls _ A) ?_
  refine Ev.step (pc' := 826) (ls' := [some (.retAddr 0), some (.ref 0), some (.ref 633), some (.ref 663), some (.int 0), none, none]) (st' := [.int x2, .int x1, .ref 633, .int v]) (M1 := M1 ++ (memM ++ [memO])) 11 (fun n => rfl) ?_
  refine Ev.call0 (rest := [.int v]) (id := 229) (fun n => callv_step rfl rfl (calk_v rfl rfl rfl rfl rfl rfl rfl rfl (recv_ref hl) rfl)) (on_ref _ hl B) ?_
  refine Ev.step (pc' := if v = v then 1352 else 832) (ls' := [some (.retAddr 0), some (.ref 0), some (.ref 633), some (.ref 663), some (.int 0), none, none]) (st' := []) 1 (fun n => rfl) ?_
  rw [if_pos rfl]
  exact law_end _ _ _ _ _ _ _
set_option maxRecDepth 200000 in
set_option maxHeartbeats 4000000 in
theorem lc_21 {x0 x1 x2 x3 x4 x5 : Int32} (hj : x0 &&& 63 = nI 21) {v : Int32} {M1 M2 : Mem} (A : Ev none 999 103 0 [some (.ref 0), some (.int x1), some (.int x2), some (.int x3), some (.int x4), none, none, none, none, none, none] [] memP (some (.int v)) M1 0 0) (B : Ev none 999 230 0 [some (.ref 0), some (.int x1), some (.int x2), some (.int x3), some (.int x4), none, none, none, none, none] [] memR (some (.int v)) M2 0 0) : Okk x0 x1 x2 x3 x4 x5 := by
  have hl : M1.length = 633 := A.len.trans memP_l
  refine ⟨M1 ++ (M2.map (shE 633) ++ [memO]), law_sw hj ?_⟩
  refine Ev.step (pc' := 834) (ls' := [some (.retAddr 0), some (.ref 0), some (.ref 633), some (.ref 663), some (.int 0), none, none]) (st' := []) (M1 := mem0) 1 (fun n => rfl) ?_
  refine Ev.step (pc' := 859) (ls' := [some (.retAddr 0), some (.ref 0), some (.ref 633), some (.ref 663), some (.int 0), none, none]) (st' := [.int x4, .int x3, .int x2, .int x1, .ref 0]) (M1 := mem0) 21 (fun n => rfl) ?_
  refine Ev.call0 (rest := []) (id := 103) (fun n => rfl) (on_cls _ A) ?_
  refine Ev.step (pc' := 887) (ls' := [some (.retAddr 0), some (.ref 0), some (.ref 633), some (.ref 663), some (.int 0), none, none]) (st' := [.int x4, .int x3, .int x2, .int x1, .ref 633, .int v]) (M1 := M1 ++ (memM ++ [memO])) 21 (fun n => rfl) ?_
  refine Ev.call0 (rest := [.int v]) (id := 230) (fun n => callv_step rfl rfl (calk_v rfl rfl rfl rfl rfl rfl rfl rfl (recv_ref hl) rfl)) (on_ref _ hl B) ?_
  refine Ev.step (pc' := if v = v then 1352 else 893) (ls' := [some (.retAddr 0), some (.ref 0), some (.ref 633), some (.ref 663), some (.int 0), none, none]) (st' := []) 1 (fun n => rfl) ?_
  rw [if_pos rfl]
  exact law_end _ _ _ _ _ _ _
set_option maxRecDepth 200000 in
set_option maxHeartbeats 4000000 in
theorem lc_22 {x0 x1 x2 x3 x4 x5 : Int32} (hj : x0 &&& 63 = nI 22) {v : Int32} {M1 M2 : Mem} (A : Ev none 999 104 0 [some (.ref 0), some (.int x1), some (.int x2), some (.int x3), some (.int x4)] [] memP (some (.int v)) M1 0 0) (B : Ev none 999 232 0 [some (.ref 0), some (.int x1), some (.int x2), some (.int x3), some (.int x4)] [] memR (some (.int v)) M2 0 0) : Okk x0 x1 x2 x3 x4 x5 := by
  have hl : M1.length = 633 := A.len.trans memP_l
  refine ⟨M1 ++ (M2.map (shE 633) ++ [memO]), law_sw hj ?_⟩
  refine Ev.step (pc' := 895) (ls' := [some (.retAddr 0), some (.ref 0), some (.ref 633), some (.ref 663), some (.int 0), none, none]) (st' := []) (M1 := mem0) 1 (fun n => rfl) ?_
  refine Ev.step (pc' := 920) (ls' := [some (.retAddr 0), some (.ref 0), some (.ref 633), some (.ref 663), some (.int 0), none, none]) (st' := [.int x4, .int x3, .int x2, .int x1, .ref 0]) (M1 := mem0) 21 (fun n => rfl) ?_
  refine Ev.call0 (rest := []) (id := 104) (fun n => rfl) (on_cls _ A) ?_
  refine Ev.step (pc' := 948) (ls' := [some (.retAddr 0), some (.ref 0), some (.ref 633), some (.ref 663), some (.int 0), none, none]) (st' := [.int x4, .int x3, .int x2, .int x1, .ref 633, .int v]) (M1 := M1 ++ (memM ++ [memO])) 21 (fun n => rfl) ?_
  refine Ev.call0 (rest := [.int v]) (id := 232) (fun n => callv_step rfl rfl (calk_v rfl rfl rfl rfl rfl rfl rfl rfl (recv_ref hl) rfl)) (on_ref _ hl B) ?_
  refine Ev.step (pc' := if v = v then 1352 else 954) (ls' := [some (.retAddr 0), some (.ref 0), some (.ref 633), some (.ref 663), some (.int 0), none, none]) (st' := []) 1 (fun n => rfl) ?_
  rw [if_pos rfl]
  exact law_end _ _ _ _ _ _ _
set_option maxRecDepth 200000 in
set_option maxHeartbeats 4000000 in
theorem lc_23 {x0 x1 x2 x3 x4 x5 : Int32} (hj : x0 &&& 63 = nI 23) {v : Int32} {M1 M2 : Mem} (A : Ev none 999 105 0 [some (.ref 0), some (.int x1), some (.int x2), none, none, none, none] [] memP (some (.int v)) M1 0 0) (B : Ev none 999 233 0 [some (.ref 0), some (.int x1), some (.int x2), none, none, none, none] [] memR (some (.int v)) M2 0 0) : Okk x0 x1 x2 x3 x4 x5 := by
  have hl : M1.length = 633 := A.len.trans memP_l
  refine ⟨M1 ++ (M2.map (shE 633) ++ [memO]), law_sw hj ?_⟩
  refine Ev.step (pc' := 956) (ls' := [some (.retAddr 0), some (.ref 0), some (.ref 633), some (.ref 663), some (.int 0), none, none]) (st' := []) (M1 := mem0) 1 (fun n => rfl) ?_
  refine Ev.step (pc' := 969) (ls' := [some (.retAddr 0), some (.ref 0), some (.ref 633), some (.ref 663), some (.int 0), none, none]) (st' := [.int x2, .int x1, .ref 0]) (M1 := mem0) 11 (fun n => rfl) ?_
  refine Ev.call0 (rest := []) (id := 105) (fun n => rfl) (on_cls _ A) ?_
  refine Ev.step (pc' := 985) (ls' := [some (.retAddr 0), some (.ref 0), some (.ref 633), some (.ref 663), some (.int 0), none, none]) (st' := [.int x2, .int x1, .ref 633, .int v]) (M1 := M1 ++ (memM ++ [memO])) 11 (fun n => rfl) ?_
  refine Ev.call0 (rest := [.int v]) (id := 233) (fun n => callv_step rfl rfl (calk_v rfl rfl rfl rfl rfl rfl rfl rfl (recv_ref hl) rfl)) (on_ref _ hl B) ?_
  refine Ev.step (pc' := if v = v then 1352 else 991) (ls' := [some (.retAddr 0), some (.ref 0), some (.ref 633), some (.ref 663), some (.int 0), none, none]) (st' := []) 1 (fun n => rfl) ?_
  rw [if_pos rfl]
  exact law_end _ _ _ _ _ _ _
set_option maxRecDepth 200000 in
set_option maxHeartbeats 4000000 in
theorem lc_24 {x0 x1 x2 x3 x4 x5 : Int32} (hj : x0 &&& 63 = nI 24) {v : Int32} {M1 M2 : Mem} (A : Ev none 999 108 0 [some (.ref 0), some (.int x1), some (.int x2), none] [] memP (some (.int v)) M1 0 0) (B : Ev none 999 236 0 [some (.ref 0), some (.int x1), some (.int x2), none, none, none] [] memR (some (.int v)) M2 0 0) : Okk x0 x1 x2 x3 x4 x5 := by
  have hl : M1.length = 633 := A.len.trans memP_l
  refine ⟨M1 ++ (M2.map (shE 633) ++ [memO]), law_sw hj ?_⟩
  refine Ev.step (pc' := 993) (ls' := [some (.retAddr 0), some (.ref 0), some (.ref 633), some (.ref 663), some (.int 0), none, none]) (st' := []) (M1 := mem0) 1 (fun n => rfl) ?_
  refine Ev.step (pc' := 1006) (ls' := [some (.retAddr 0), some (.ref 0), some (.ref 633), some (.ref 663), some (.int 0), none, none]) (st' := [.int x2, .int x1, .ref 0]) (M1 := mem0) 11 (fun n => rfl) ?_
  refine Ev.call0 (rest := []) (id := 108) (fun n => rfl) (on_cls _ A) ?_
  refine Ev.step (pc' := 1022) (ls' := [some (.retAddr 0), some (.ref 0), some (.ref 633), some (.ref 663), some (.int 0), none, none]) (st' := [.int x2, .int x1, .ref 633, .int v]) (M1 := M1 ++ (memM ++ [memO])) 11 (fun n => rfl) ?_
  refine Ev.call0 (rest := [.int v]) (id := 236) (fun n => callv_step rfl rfl (calk_v rfl rfl rfl rfl rfl rfl rfl rfl (recv_ref hl) rfl)) (on_ref _ hl B) ?_
  refine Ev.step (pc' := if v = v then 1352 else 1028) (ls' := [some (.retAddr 0), some (.ref 0), some (.ref 633), some (.ref 663), some (.int 0), none, none]) (st' := []) 1 (fun n => rfl) ?_
  rw [if_pos rfl]
  exact law_end _ _ _ _ _ _ _
set_option maxRecDepth 200000 in
set_option maxHeartbeats 4000000 in
theorem lc_25 {x0 x1 x2 x3 x4 x5 : Int32} (hj : x0 &&& 63 = nI 25) {v : Int32} {M1 M2 : Mem} (A : Ev none 999 113 0 [some (.ref 0), some (.int x1)] [] memP (some (.int v)) M1 0 0) (B : Ev none 999 237 0 [some (.ref 0), some (.int x1)] [] memR (some (.int v)) M2 0 0) : Okk x0 x1 x2 x3 x4 x5 := by
  have hl : M1.length = 633 := A.len.trans memP_l
  refine ⟨M1 ++ (M2.map (shE 633) ++ [memO]), law_sw hj ?_⟩
  refine Ev.step (pc' := 1030) (ls' := [some (.retAddr 0), some (.ref 0), some (.ref 633), some (.ref 663), some (.int 0), none, none]) (st' := []) (M1 := mem0) 1 (fun n => rfl) ?_
  refine Ev.step (pc' := 1037) (ls' := [some (.retAddr 0), some (.ref 0), some (.ref 633), some (.ref 663), some (.int 0), none, none]) (st' := [.int x1, .ref 0]) (M1 := mem0) 6 (fun n => rfl) ?_
  refine Ev.call0 (rest := []) (id := 113) (fun n => rfl) (on_cls _ A) ?_
  refine Ev.step (pc' := 1047) (ls' := [some (.retAddr 0), some (.ref 0), some (.ref 633), some (.ref 663), some (.int 0), none, none]) (st' := [.int x1, .ref 633, .int v]) (M1 := M1 ++ (memM ++ [memO])) 6 (fun n => rfl) ?_
  refine Ev.call0 (rest := [.int v]) (id := 237) (fun n => callv_step rfl rfl (calk_v rfl rfl rfl rfl rfl rfl rfl rfl (recv_ref hl) rfl)) (on_ref _ hl B) ?_
  refine Ev.step (pc' := if v = v then 1352 else 1053) (ls' := [some (.retAddr 0), some (.ref 0), some (.ref 633), some (.ref 663), some (.int 0), none, none]) (st' := []) 1 (fun n => rfl) ?_
  rw [if_pos rfl]
  exact law_end _ _ _ _ _ _ _
set_option maxRecDepth 200000 in
set_option maxHeartbeats 4000000 in
theorem lc_26 {x0 x1 x2 x3 x4 x5 : Int32} (hj : x0 &&& 63 = nI 26) {v : Int32} {M1 M2 : Mem} (A : Ev none 999 114 0 [some (.ref 0), some (.int x1), some (.int x2), some (.int x3), some (.int x4), none] [] memP (some (.int v)) M1 0 0) (B : Ev none 999 238 0 [some (.ref 0), some (.int x1), some (.int x2), some (.int x3), some (.int x4), none, none] [] memR (some (.int v)) M2 0 0) : Okk x0 x1 x2 x3 x4 x5 := by
  have hl : M1.length = 633 := A.len.trans memP_l
  refine ⟨M1 ++ (M2.map (shE 633) ++ [memO]), law_sw hj ?_⟩
  refine Ev.step (pc' := 1055) (ls' := [some (.retAddr 0), some (.ref 0), some (.ref 633), some (.ref 663), some (.int 0), none, none]) (st' := []) (M1 := mem0) 1 (fun n => rfl) ?_
  refine Ev.step (pc' := 1080) (ls' := [some (.retAddr 0), some (.ref 0), some (.ref 633), some (.ref 663), some (.int 0), none, none]) (st' := [.int x4, .int x3, .int x2, .int x1, .ref 0]) (M1 := mem0) 21 (fun n => rfl) ?_
  refine Ev.call0 (rest := []) (id := 114) (fun n => rfl) (on_cls _ A) ?_
  refine Ev.step (pc' := 1108) (ls' := [some (.retAddr 0), some (.ref 0), some (.ref 633), some (.ref 663), some (.int 0), none, none]) (st' := [.int x4, .int x3, .int x2, .int x1, .ref 633, .int v]) (M1 := M1 ++ (memM ++ [memO])) 21 (fun n => rfl) ?_
  refine Ev.call0 (rest := [.int v]) (id := 238) (fun n => callv_step rfl rfl (calk_v rfl rfl rfl rfl rfl rfl rfl rfl (recv_ref hl) rfl)) (on_ref _ hl B) ?_
  refine Ev.step (pc' := if v = v then 1352 else 1114) (ls' := [some (.retAddr 0), some (.ref 0), some (.ref 633), some (.ref 663), some (.int 0), none, none]) (st' := []) 1 (fun n => rfl) ?_
  rw [if_pos rfl]
  exact law_end _ _ _ _ _ _ _
set_option maxRecDepth 200000 in
set_option maxHeartbeats 4000000 in
theorem lc_27 {x0 x1 x2 x3 x4 x5 : Int32} (hj : x0 &&& 63 = nI 27) {v : Int32} {M1 M2 : Mem} (A : Ev none 999 115 0 [some (.ref 0), some (.int x1), some (.int x2), some (.int x3), none] [] memP (some (.int v)) M1 0 0) (B : Ev none 999 241 0 [some (.ref 0), some (.int x1), some (.int x2), some (.int x3), none, none] [] memR (some (.int v)) M2 0 0) : Okk x0 x1 x2 x3 x4 x5 := by
  have hl : M1.length = 633 := A.len.trans memP_l
  refine ⟨M1 ++ (M2.map (shE 633) ++ [memO]), law_sw hj ?_⟩
  refine Ev.step (pc' := 1116) (ls' := [some (.retAddr 0), some (.ref 0), some (.ref 633), some (.ref 663), some (.int 0), none, none]) (st' := []) (M1 := mem0) 1 (fun n => rfl) ?_
  refine Ev.step (pc' := 1135) (ls' := [some (.retAddr 0), some (.ref 0), some (.ref 633), some (.ref 663), some (.int 0), none, none]) (st' := [.int x3, .int x2, .int x1, .ref 0]) (M1 := mem0) 16 (fun n => rfl) ?_
  refine Ev.call0 (rest := []) (id := 115) (fun n => rfl) (on_cls _ A) ?_
  refine Ev.step (pc' := 1157) (ls' := [some (.retAddr 0), some (.ref 0), some (.ref 633), some (.ref 663), some (.int 0), none, none]) (st' := [.int x3, .int x2, .int x1, .ref 633, .int v]) (M1 := M1 ++ (memM ++ [memO])) 16 (fun n => rfl) ?_
  refine Ev.call0 (rest := [.int v]) (id := 241) (fun n => callv_step rfl rfl (calk_v rfl rfl rfl rfl rfl rfl rfl rfl (recv_ref hl) rfl)) (on_ref _ hl B) ?_
  refine Ev.step (pc' := if v = v then 1352 else 1163) (ls' := [some (.retAddr 0), some (.ref 0), some (.ref 633), some (.ref 663), some (.int 0), none, none]) (st' := []) 1 (fun n => rfl) ?_
  rw [if_pos rfl]
  exact law_end _ _ _ _ _ _ _
set_option maxRecDepth 200000 in
set_option maxHeartbeats 4000000 in
theorem lc_28 {x0 x1 x2 x3 x4 x5 : Int32} (hj : x0 &&& 63 = nI 28) {v : Int32} {M1 M2 : Mem} (A : Ev none 999 116 0 [some (.ref 0), some (.int x1)] [] memP (some (.int v)) M1 0 0) (B : Ev none 999 242 0 [some (.ref 0), some (.int x1)] [] memR (some (.int v)) M2 0 0) : Okk x0 x1 x2 x3 x4 x5 := by
  have hl : M1.length = 633 := A.len.trans memP_l
  refine ⟨M1 ++ (M2.map (shE 633) ++ [memO]), law_sw hj ?_⟩
  refine Ev.step (pc' := 1165) (ls' := [some (.retAddr 0), some (.ref 0), some (.ref 633), some (.ref 663), some (.int 0), none, none]) (st' := []) (M1 := mem0) 1 (fun n => rfl) ?_
  refine Ev.step (pc' := 1172) (ls' := [some (.retAddr 0), some (.ref 0), some (.ref 633), some (.ref 663), some (.int 0), none, none]) (st' := [.int x1, .ref 0]) (M1 := mem0) 6 (fun n => rfl) ?_
  refine Ev.call0 (rest := []) (id := 116) (fun n => rfl) (on_cls _ A) ?_
  refine Ev.step (pc' := 1182) (ls' := [some (.retAddr 0), some (.ref 0), some (.ref 633), some (.ref 663), some (.int 0), none, none]) (st' := [.int x1, .ref 633, .int v]) (M1 := M1 ++ (memM ++ [memO])) 6 (fun n => rfl) ?_
  refine Ev.call0 (rest := [.int v]) (id := 242) (fun n => callv_step rfl rfl (calk_v rfl rfl rfl rfl rfl rfl rfl rfl (recv_ref hl) rfl)) (on_ref _ hl B) ?_
  refine Ev.step (pc' := if v = v then 1352 else 1188) (ls' := [some (.retAddr 0), some (.ref 0), some (.ref 633), some (.ref 663), some (.int 0), none, none]) (st' := []) 1 (fun n => rfl) ?_
  rw [if_pos rfl]
  exact law_end _ _ _ _ _ _ _
set_option maxRecDepth 200000 in
set_option maxHeartbeats 4000000 in
theorem lc_29 {x0 x1 x2 x3 x4 x5 : Int32} (hj : x0 &&& 63 = nI 29) {v : Int32} {M1 M2 : Mem} (A : Ev none 999 117 0 [some (.ref 0), none] [] memP (some (.int v)) M1 0 0) (B : Ev none 999 243 0 [some (.ref 0), none, none, none, none, none, none] [] memR (some (.int v)) M2 0 0) : Okk x0 x1 x2 x3 x4 x5 := by
  have hl : M1.length = 633 := A.len.trans memP_l
  refine ⟨M1 ++ (M2.map (shE 633) ++ [memO]), law_sw hj ?_⟩
  refine Ev.step (pc' := 1190) (ls' := [some (.retAddr 0), some (.ref 0), some (.ref 633), some (.ref 663), some (.int 0), none, none]) (st' := []) (M1 := mem0) 1 (fun n => rfl) ?_
  refine Ev.step (pc' := 1191) (ls' := [some (.retAddr 0), some (.ref 0), some (.ref 633), some (.ref 663), some (.int 0), none, none]) (st' := [.ref 0]) (M1 := mem0) 1 (fun n => rfl) ?_
  refine Ev.call0 (rest := []) (id := 117) (fun n => rfl) (on_cls _ A) ?_
  refine Ev.step (pc' := 1195) (ls' := [some (.retAddr 0), some (.ref 0), some (.ref 633), some (.ref 663), some (.int 0), none, none]) (st' := [.ref 633, .int v]) (M1 := M1 ++ (memM ++ [memO])) 1 (fun n => rfl) ?_
  refine Ev.call0 (rest := [.int v]) (id := 243) (fun n => callv_step rfl rfl (calk_v rfl rfl rfl rfl rfl rfl rfl rfl (recv_ref hl) rfl)) (on_ref _ hl B) ?_
  refine Ev.step (pc' := if v = v then 1352 else 1201) (ls' := [some (.retAddr 0), some (.ref 0), some (.ref 633), some (.ref 663), some (.int 0), none, none]) (st' := []) 1 (fun n => rfl) ?_
  rw [if_pos rfl]
  exact law_end _ _ _ _ _ _ _
set_option maxRecDepth 200000 in
set_option maxHeartbeats 4000000 in
theorem lc_30 {x0 x1 x2 x3 x4 x5 : Int32} (hj : x0 &&& 63 = nI 30) {v : Int32} {M1 M2 : Mem} (A : Ev none 999 119 0 [some (.ref 0), some (.int x1), some (.int x2)] [] memP (some (.int v)) M1 0 0) (B : Ev none 999 245 0 [some (.ref 0), some (.int x1), some (.int x2)] [] memR (some (.int v)) M2 0 0) : Okk x0 x1 x2 x3 x4 x5 := by
  have hl : M1.length = 633 := A.len.trans memP_l
  refine ⟨M1 ++ (M2.map (shE 633) ++ [memO]), law_sw hj ?_⟩
  refine Ev.step (pc' := 1203) (ls' := [some (.retAddr 0), some (.ref 0), some (.ref 633), some (.ref 663), some (.int 0), none, none]) (st' := []) (M1 := mem0) 1 (fun n => rfl) ?_
  refine Ev.step (pc' := 1216) (ls' := [some (.retAddr 0), some (.ref 0), some (.ref 633), some (.ref 663), some (.int 0), none, none]) (st' := [.int x2, .int x1, .ref 0]) (M1 := mem0) 11 (fun n => rfl) ?_
  refine Ev.call0 (rest := []) (id := 119) (fun n => rfl) (on_cls _ A) ?_
  refine Ev.step (pc' := 1232) (ls' := [some (.retAddr 0), some (.ref 0), some (.ref 633), some (.ref 663), some (.int 0), none, none]) (st' := [.int x2, .int x1, .ref 633, .int v]) (M1 := M1 ++ (memM ++ [memO])) 11 (fun n => rfl) ?_
  refine Ev.call0 (rest := [.int v]) (id := 245) (fun n => callv_step rfl rfl (calk_v rfl rfl rfl rfl rfl rfl rfl rfl (recv_ref hl) rfl)) (on_ref _ hl B) ?_
  refine Ev.step (pc' := if v = v then 1352 else 1238) (ls' := [some (.retAddr 0), some (.ref 0), some (.ref 633), some (.ref 663), some (.int 0), none, none]) (st' := []) 1 (fun n => rfl) ?_
  rw [if_pos rfl]
  exact law_end _ _ _ _ _ _ _
set_option maxRecDepth 200000 in
set_option maxHeartbeats 4000000 in
theorem lc_31 {x0 x1 x2 x3 x4 x5 : Int32} (hj : x0 &&& 63 = nI 31) {v : Int32} {M1 M2 : Mem} (A : Ev none 999 120 0 [some (.ref 0), some (.int x1), some (.int x2), none] [] memP (some (.int v)) M1 0 0) (B : Ev none 999 246 0 [some (.ref 0), some (.int x1), some (.int x2), none, none, none, none] [] memR (some (.int v)) M2 0 0) : Okk x0 x1 x2 x3 x4 x5 := by
  have hl : M1.length = 633 := A.len.trans memP_l
  refine ⟨M1 ++ (M2.map (shE 633) ++ [memO]), law_sw hj ?_⟩
  refine Ev.step (pc' := 1240) (ls' := [some (.retAddr 0), some (.ref 0), some (.ref 633), some (.ref 663), some (.int 0), none, none]) (st' := []) (M1 := mem0) 1 (fun n => rfl) ?_
  refine Ev.step (pc' := 1253) (ls' := [some (.retAddr 0), some (.ref 0), some (.ref 633), some (.ref 663), some (.int 0), none, none]) (st' := [.int x2, .int x1, .ref 0]) (M1 := mem0) 11 (fun n => rfl) ?_
  refine Ev.call0 (rest := []) (id := 120) (fun n => rfl) (on_cls _ A) ?_
  refine Ev.step (pc' := 1269) (ls' := [some (.retAddr 0), some (.ref 0), some (.ref 633), some (.ref 663), some (.int 0), none, none]) (st' := [.int x2, .int x1, .ref 633, .int v]) (M1 := M1 ++ (memM ++ [memO])) 11 (fun n => rfl) ?_
  refine Ev.call0 (rest := [.int v]) (id := 246) (fun n => callv_step rfl rfl (calk_v rfl rfl rfl rfl rfl rfl rfl rfl (recv_ref hl) rfl)) (on_ref _ hl B) ?_
  refine Ev.step (pc' := if v = v then 1352 else 1275) (ls' := [some (.retAddr 0), some (.ref 0), some (.ref 633), some (.ref 663), some (.int 0), none, none]) (st' := []) 1 (fun n => rfl) ?_
  rw [if_pos rfl]
  exact law_end _ _ _ _ _ _ _
set_option maxRecDepth 200000 in
set_option maxHeartbeats 4000000 in
theorem lc_32 {x0 x1 x2 x3 x4 x5 : Int32} (hj : x0 &&& 63 = nI 32) {v : Int32} {M1 M2 : Mem} (A : Ev none 999 123 0 [some (.ref 0), some (.int x1)] [] memP (some (.int v)) M1 0 0) (B : Ev none 999 247 0 [some (.ref 0), some (.int x1), none] [] memR (some (.int v)) M2 0 0) : Okk x0 x1 x2 x3 x4 x5 := by
  have hl : M1.length = 633 := A.len.trans memP_l
  refine ⟨M1 ++ (M2.map (shE 633) ++ [memO]), law_sw hj ?_⟩
  refine Ev.step (pc' := 1277) (ls' := [some (.retAddr 0), some (.ref 0), some (.ref 633), some (.ref 663), some (.int 0), none, none]) (st' := []) (M1 := mem0) 1 (fun n => rfl) ?_
  refine Ev.step (pc' := 1284) (ls' := [some (.retAddr 0), some (.ref 0), some (.ref 633), some (.ref 663), some (.int 0), none, none]) (st' := [.int x1, .ref 0]) (M1 := mem0) 6 (fun n => rfl) ?_
  refine Ev.call0 (rest := []) (id := 123) (fun n => rfl) (on_cls _ A) ?_
  refine Ev.step (pc' := 1294) (ls' := [some (.retAddr 0), some (.ref 0), some (.ref 633), some (.ref 663), some (.int 0), none, none]) (st' := [.int x1, .ref 633, .int v]) (M1 := M1 ++ (memM ++ [memO])) 6 (fun n => rfl) ?_
  refine Ev.call0 (rest := [.int v]) (id := 247) (fun n => callv_step rfl rfl (calk_v rfl rfl rfl rfl rfl rfl rfl rfl (recv_ref hl) rfl)) (on_ref _ hl B) ?_
  refine Ev.step (pc' := if v = v then 1352 else 1300) (ls' := [some (.retAddr 0), some (.ref 0), some (.ref 633), some (.ref 663), some (.int 0), none, none]) (st' := []) 1 (fun n => rfl) ?_
  rw [if_pos rfl]
  exact law_end _ _ _ _ _ _ _
set_option maxRecDepth 200000 in
set_option maxHeartbeats 4000000 in
theorem lc_33 {x0 x1 x2 x3 x4 x5 : Int32} (hj : x0 &&& 63 = nI 33) {v : Int32} {M1 M2 : Mem} (A : Ev none 999 124 0 [some (.ref 0), some (.int x1)] [] memP (some (.int v)) M1 0 0) (B : Ev none 999 248 0 [some (.ref 0), some (.int x1), none] [] memR (some (.int v)) M2 0 0) : Okk x0 x1 x2 x3 x4 x5 := by
  have hl : M1.length = 633 := A.len.trans memP_l
  refine ⟨M1 ++ (M2.map (shE 633) ++ [memO]), law_sw hj ?_⟩
  refine Ev.step (pc' := 1302) (ls' := [some (.retAddr 0), some (.ref 0), some (.ref 633), some (.ref 663), some (.int 0), none, none]) (st' := []) (M1 := mem0) 1 (fun n => rfl) ?_
  refine Ev.step (pc' := 1309) (ls' := [some (.retAddr 0), some (.ref 0), some (.ref 633), some (.ref 663), some (.int 0), none, none]) (st' := [.int x1, .ref 0]) (M1 := mem0) 6 (fun n => rfl) ?_
  refine Ev.call0 (rest := []) (id := 124) (fun n => rfl) (on_cls _ A) ?_
  refine Ev.step (pc' := 1319) (ls' := [some (.retAddr 0), some (.ref 0), some (.ref 633), some (.ref 663), some (.int 0), none, none]) (st' := [.int x1, .ref 633, .int v]) (M1 := M1 ++ (memM ++ [memO])) 6 (fun n => rfl) ?_
  refine Ev.call0 (rest := [.int v]) (id := 248) (fun n => callv_step rfl rfl (calk_v rfl rfl rfl rfl rfl rfl rfl rfl (recv_ref hl) rfl)) (on_ref _ hl B) ?_
  refine Ev.step (pc' := if v = v then 1352 else 1325) (ls' := [some (.retAddr 0), some (.ref 0), some (.ref 633), some (.ref 663), some (.int 0), none, none]) (st' := []) 1 (fun n => rfl) ?_
  rw [if_pos rfl]
  exact law_end _ _ _ _ _ _ _
set_option maxRecDepth 200000 in
set_option maxHeartbeats 4000000 in
theorem lc_34 {x0 x1 x2 x3 x4 x5 : Int32} (hj : x0 &&& 63 = nI 34) {v : Int32} {M1 M2 : Mem} (A : Ev none 999 125 0 [some (.ref 0), some (.int x1)] [] memP (some (.int v)) M1 0 0) (B : Ev none 999 249 0 [some (.ref 0), some (.int x1), none, none] [] memR (some (.int v)) M2 0 0) : Okk x0 x1 x2 x3 x4 x5 := by
  have hl : M1.length = 633 := A.len.trans memP_l
  refine ⟨M1 ++ (M2.map (shE 633) ++ [memO]), law_sw hj ?_⟩
  refine Ev.step (pc' := 1327) (ls' := [some (.retAddr 0), some (.ref 0), some (.ref 633), some (.ref 663), some (.int 0), none, none]) (st' := []) (M1 := mem0) 1 (fun n => rfl) ?_
  refine Ev.step (pc' := 1334) (ls' := [some (.retAddr 0), some (.ref 0), some (.ref 633), some (.ref 663), some (.int 0), none, none]) (st' := [.int x1, .ref 0]) (M1 := mem0) 6 (fun n => rfl) ?_
  refine Ev.call0 (rest := []) (id := 125) (fun n => rfl) (on_cls _ A) ?_
  refine Ev.step (pc' := 1344) (ls' := [some (.retAddr 0), some (.ref 0), some (.ref 633), some (.ref 663), some (.int 0), none, none]) (st' := [.int x1, .ref 633, .int v]) (M1 := M1 ++ (memM ++ [memO])) 6 (fun n => rfl) ?_
  refine Ev.call0 (rest := [.int v]) (id := 249) (fun n => callv_step rfl rfl (calk_v rfl rfl rfl rfl rfl rfl rfl rfl (recv_ref hl) rfl)) (on_ref _ hl B) ?_
  refine Ev.step (pc' := if v = v then 1352 else 1350) (ls' := [some (.retAddr 0), some (.ref 0), some (.ref 633), some (.ref 663), some (.int 0), none, none]) (st' := []) 1 (fun n => rfl) ?_
  rw [if_pos rfl]
  exact law_end _ _ _ _ _ _ _
