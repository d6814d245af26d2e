/-! PARK OF THE REFERENCE, exactly -/
theorem pq_0 {e : Nat} {M : Mem} {M' : Mem} {v : Option Value} {vm : List Value} {h w : Int32} {m : Nat} {k0 : Option Value} (hm : gNth M m = some (.inr (11, vm))) (hlm : 0 < vm.length) (hz : Ev none e 155 5 [some (.ref m), some (.int w), some (.int h), k0] [] (gPut M m (.inr (11, gPut vm 0 (.int 0)))) v M' 0 0) : Ev none e 155 0 [some (.ref m), some (.int w), some (.int h), k0] [] M v M' 0 0 := by
  refine Ev.step (pc' := 2) (ls' := [some (.ref m), some (.int w), some (.int h), k0]) (st' := [.int 0, .ref m]) (M1 := M) 2 (fun n => rfl) ?_
  refine Ev.step 1 (gs_4 rfl rfl (pf_c rfl hm hlm rfl rfl)) ?_
  exact hz
theorem pq_5 {e : Nat} {M : Mem} {M' : Mem} {v : Option Value} {h w : Int32} {m : Nat} {k0 : Option Value}  (hz : Ev none e 155 6 [some (.ref m), some (.int w), some (.int h), k0] [.ref m] M v M' 0 0) : Ev none e 155 5 [some (.ref m), some (.int w), some (.int h), k0] [] M v M' 0 0 := by
  refine Ev.step (pc' := 6) (ls' := [some (.ref m), some (.int w), some (.int h), k0]) (st' := [.ref m]) (M1 := M) 1 (fun n => rfl) ?_
  exact hz
theorem pq_9 {e : Nat} {M : Mem} {M' : Mem} {v : Option Value} {h w : Int32} {m : Nat} {k0 : Option Value}  (hz : Ev none e 155 13 [some (.ref m), some (.int w), some (.int h), k0] [.int 16, .int 4, .int w] M v M' 0 0) : Ev none e 155 9 [some (.ref m), some (.int w), some (.int h), k0] [] M v M' 0 0 := by
  refine Ev.step (pc' := 13) (ls' := [some (.ref m), some (.int w), some (.int h), k0]) (st' := [.int 16, .int 4, .int w]) (M1 := M) 3 (fun n => rfl) ?_
  exact hz
theorem pq_16 {e : Nat} {M : Mem} {M' : Mem} {v : Option Value} {h w y : Int32} {m : Nat} {k0 : Option Value}  (hz : Ev none e 155 (if y = 0 then 39 else 19) [some (.ref m), some (.int w), some (.int h), k0] [] M v M' 0 0) : Ev none e 155 16 [some (.ref m), some (.int w), some (.int h), k0] [.int y] M v M' 0 0 := by
  refine Ev.step (pc' := (if y = 0 then 39 else 19)) (ls' := [some (.ref m), some (.int w), some (.int h), k0]) (st' := []) (M1 := M) 1 (fun n => rfl) ?_
  exact hz
theorem pq_19 {e : Nat} {M : Mem} {M' : Mem} {v : Option Value} {h w : Int32} {m : Nat} {k0 : Option Value}  (hz : Ev none e 155 23 [some (.ref m), some (.int w), some (.int h), k0] [.int 16, .int 4, .int h] M v M' 0 0) : Ev none e 155 19 [some (.ref m), some (.int w), some (.int h), k0] [] M v M' 0 0 := by
  refine Ev.step (pc' := 23) (ls' := [some (.ref m), some (.int w), some (.int h), k0]) (st' := [.int 16, .int 4, .int h]) (M1 := M) 3 (fun n => rfl) ?_
  exact hz
theorem pq_26 {e : Nat} {M : Mem} {M' : Mem} {v : Option Value} {h w y : Int32} {m : Nat} {k0 : Option Value}  (hz : Ev none e 155 (if y = 0 then 39 else 29) [some (.ref m), some (.int w), some (.int h), k0] [] M v M' 0 0) : Ev none e 155 26 [some (.ref m), some (.int w), some (.int h), k0] [.int y] M v M' 0 0 := by
  refine Ev.step (pc' := (if y = 0 then 39 else 29)) (ls' := [some (.ref m), some (.int w), some (.int h), k0]) (st' := []) (M1 := M) 1 (fun n => rfl) ?_
  exact hz
theorem pq_29 {e : Nat} {M : Mem} {M' : Mem} {v : Option Value} {vm : List Value} {h w y2 : Int32} {m : Nat} {k0 : Option Value} (hm : gNth M m = some (.inr (11, vm))) (f1 : gNth vm 3 = some (.int y2)) (hz : Ev none e 155 (if y2 = (w * h) then 41 else 39) [some (.ref m), some (.int w), some (.int h), k0] [] M v M' 0 0) : Ev none e 155 29 [some (.ref m), some (.int w), some (.int h), k0] [] M v M' 0 0 := by
  refine Ev.step (pc' := 30) (ls' := [some (.ref m), some (.int w), some (.int h), k0]) (st' := [.ref m]) (M1 := M) 1 (fun n => rfl) ?_
  refine Ev.step 1 (gs_3 rfl rfl (gf_c rfl hm f1)) ?_
  refine Ev.step (pc' := (if y2 = (w * h) then 41 else 39)) (ls' := [some (.ref m), some (.int w), some (.int h), k0]) (st' := []) (M1 := M) 4 (fun n => rfl) ?_
  exact hz
theorem pq_39 {e : Nat} {M : Mem} {h w : Int32} {m : Nat} {k0 : Option Value}  : Ev none e 155 39 [some (.ref m), some (.int w), some (.int h), k0] [] M (some (.int 0)) M 0 0 := by
  refine Ev.step (pc' := 40) (ls' := [some (.ref m), some (.int w), some (.int h), k0]) (st' := [.int 0]) (M1 := M) 1 (fun n => rfl) ?_
  exact Ev.ret (fun n => rfl)
theorem pq_41 {e : Nat} {M : Mem} {M' : Mem} {v : Option Value} {h w : Int32} {m : Nat} {k0 : Option Value}  (hz : Ev none e 155 43 [some (.ref m), some (.int w), some (.int h), some (.int 0)] [] M v M' 0 0) : Ev none e 155 41 [some (.ref m), some (.int w), some (.int h), k0] [] M v M' 0 0 := by
  refine Ev.step (pc' := 43) (ls' := [some (.ref m), some (.int w), some (.int h), some (.int 0)]) (st' := []) (M1 := M) 2 (fun n => rfl) ?_
  exact hz
theorem pq_43 {e : Nat} {M : Mem} {M' : Mem} {v : Option Value} {vm : List Value} {h k w y2 : Int32} {m : Nat} (hm : gNth M m = some (.inr (11, vm))) (f1 : gNth vm 3 = some (.int y2)) (hz : Ev none e 155 (if y2 ≤ k then 72 else 51) [some (.ref m), some (.int w), some (.int h), some (.int k)] [] M v M' 0 0) : Ev none e 155 43 [some (.ref m), some (.int w), some (.int h), some (.int k)] [] M v M' 0 0 := by
  refine Ev.step (pc' := 45) (ls' := [some (.ref m), some (.int w), some (.int h), some (.int k)]) (st' := [.ref m, .int k]) (M1 := M) 2 (fun n => rfl) ?_
  refine Ev.step 1 (gs_3 rfl rfl (gf_c rfl hm f1)) ?_
  refine Ev.step (pc' := (if y2 ≤ k then 72 else 51)) (ls' := [some (.ref m), some (.int w), some (.int h), some (.int k)]) (st' := []) (M1 := M) 1 (fun n => rfl) ?_
  exact hz
theorem pq_51 {e : Nat} {M : Mem} {M' : Mem} {v : Option Value} {h k w : Int32} {m : Nat}  (hz : Ev none e 155 53 [some (.ref m), some (.int w), some (.int h), some (.int k)] [.int k, .ref m] M v M' 0 0) : Ev none e 155 51 [some (.ref m), some (.int w), some (.int h), some (.int k)] [] M v M' 0 0 := by
  refine Ev.step (pc' := 53) (ls' := [some (.ref m), some (.int w), some (.int h), some (.int k)]) (st' := [.int k, .ref m]) (M1 := M) 2 (fun n => rfl) ?_
  exact hz
theorem pq_56 {e : Nat} {M : Mem} {M' : Mem} {v : Option Value} {h k w y : Int32} {m : Nat}  (hz : Ev none e 155 (if (y - y / 8 * 8) = 7 then 64 else 66) [some (.ref m), some (.int w), some (.int h), some (.int k)] [] M v M' 0 0) : Ev none e 155 56 [some (.ref m), some (.int w), some (.int h), some (.int k)] [.int y] M v M' 0 0 := by
  refine Ev.step (pc' := (if (y - y / 8 * 8) = 7 then 64 else 66)) (ls' := [some (.ref m), some (.int w), some (.int h), some (.int k)]) (st' := []) (M1 := M) 4 (fun n => rfl) ?_
  exact hz
theorem pq_64 {e : Nat} {M : Mem} {h k w : Int32} {m : Nat}  : Ev none e 155 64 [some (.ref m), some (.int w), some (.int h), some (.int k)] [] M (some (.int 0)) M 0 0 := by
  refine Ev.step (pc' := 65) (ls' := [some (.ref m), some (.int w), some (.int h), some (.int k)]) (st' := [.int 0]) (M1 := M) 1 (fun n => rfl) ?_
  exact Ev.ret (fun n => rfl)
theorem pq_66 {e : Nat} {M : Mem} {M' : Mem} {v : Option Value} {h k w : Int32} {m : Nat}  (hz : Ev none e 155 43 [some (.ref m), some (.int w), some (.int h), some (.int (k + 1))] [] M v M' 0 0) : Ev none e 155 66 [some (.ref m), some (.int w), some (.int h), some (.int k)] [] M v M' 0 0 := by
  refine Ev.step (pc' := 43) (ls' := [some (.ref m), some (.int w), some (.int h), some (.int (k + 1))]) (st' := []) (M1 := M) 2 (fun n => rfl) ?_
  exact hz
theorem pq_72 {e : Nat} {M : Mem} {M' : Mem} {v : Option Value} {h k w : Int32} {m : Nat}  (hz : Ev none e 155 74 [some (.ref m), some (.int w), some (.int h), some (.int 0)] [] M v M' 0 0) : Ev none e 155 72 [some (.ref m), some (.int w), some (.int h), some (.int k)] [] M v M' 0 0 := by
  refine Ev.step (pc' := 74) (ls' := [some (.ref m), some (.int w), some (.int h), some (.int 0)]) (st' := []) (M1 := M) 2 (fun n => rfl) ?_
  exact hz
theorem tn_0 {e : Nat} {M : Mem} {M' : Mem} {v : Option Value} {vm : List Value} {y2 : Int32} {m : Nat} (hm : gNth M m = some (.inr (11, vm))) (f1 : gNth vm 2 = some (.int y2)) (hlm : 3 < vm.length) (hz : Ev none e 139 8 [some (.ref m)] [] (gPut M m (.inr (11, gPut vm 3 (.int y2)))) v M' 0 0) : Ev none e 139 0 [some (.ref m)] [] M v M' 0 0 := by
  refine Ev.step (pc' := 2) (ls' := [some (.ref m)]) (st' := [.ref m, .ref m]) (M1 := M) 2 (fun n => rfl) ?_
  refine Ev.step 1 (gs_3 rfl rfl (gf_c rfl hm f1)) ?_
  refine Ev.step 1 (gs_4 rfl rfl (pf_c rfl hm hlm rfl rfl)) ?_
  exact hz
theorem tn_8 {e : Nat} {M : Mem} {M' : Mem} {v : Option Value} {vm : List Value} {m : Nat} (hm : gNth M m = some (.inr (11, vm))) (hlm : 2 < vm.length) (hz : Ev none e 139 13 [some (.ref m)] [] (gPut M m (.inr (11, gPut vm 2 (.int 0)))) v M' 0 0) : Ev none e 139 8 [some (.ref m)] [] M v M' 0 0 := by
  refine Ev.step (pc' := 10) (ls' := [some (.ref m)]) (st' := [.int 0, .ref m]) (M1 := M) 2 (fun n => rfl) ?_
  refine Ev.step 1 (gs_4 rfl rfl (pf_c rfl hm hlm rfl rfl)) ?_
  exact hz
theorem tn_13 {e : Nat} {M : Mem} {vm : List Value} {m : Nat} (hm : gNth M m = some (.inr (11, vm))) (hlm : 4 < vm.length) : Ev none e 139 13 [some (.ref m)] [] M none (gPut M m (.inr (11, gPut vm 4 (.int 0)))) 0 0 := by
  refine Ev.step (pc' := 15) (ls' := [some (.ref m)]) (st' := [.int 0, .ref m]) (M1 := M) 2 (fun n => rfl) ?_
  refine Ev.step 1 (gs_4 rfl rfl (pf_c rfl hm hlm rfl rfl)) ?_
  exact Ev.ret (fun n => rfl)
theorem oq_0 {e : Nat} {M : Mem} {vm : List Value} {k y4 : Int32} {a2 m : Nat} {la2 : List Int32} (hm : gNth M m = some (.inr (11, vm))) (f1 : gNth vm 1 = some (.ref a2)) (ra2 : gNth M a2 = some (.inl (0, .inl la2))) (g3 : gAt la2 k = some y4) : Ev none e 142 0 [some (.ref m), some (.int k)] [] M (some (.int (y4 &&& 255))) M 0 0 := by
  refine Ev.step (pc' := 1) (ls' := [some (.ref m), some (.int k)]) (st' := [.ref m]) (M1 := M) 1 (fun n => rfl) ?_
  refine Ev.step 1 (gs_3 rfl rfl (gf_c rfl hm f1)) ?_
  refine Ev.step (pc' := 5) (ls' := [some (.ref m), some (.int k)]) (st' := [.int k, .ref a2]) (M1 := M) 1 (fun n => rfl) ?_
  refine Ev.step 1 (gs_3 rfl rfl (b0_c ra2 g3)) ?_
  refine Ev.step (pc' := 10) (ls' := [some (.ref m), some (.int k)]) (st' := [.int (y4 &&& 255)]) (M1 := M) 2 (fun n => rfl) ?_
  exact Ev.ret (fun n => rfl)
theorem park_g : ∀ (d : Nat) (M : Mem) (ws : List Value), kX11_park.2.1 ≤ d → (∀ x ∈ kX11_park_B, ∀ cl M', Cnd sT sG FL0 kX11_park.2.2.2.2.2.1 ws M x.2 cl M' → RF (Fin sT sG FL0 kX11_park ws M) [] d kX11_park.1 x.1 cl [] M') → ∀ x ∈ kX11_park_G, ∀ cl M', Cnd sT sG FL0 kX11_park.2.2.2.2.2.1 ws M x.2 cl M' → RF (Fin sT sG FL0 kX11_park ws M) [] d kX11_park.1 x.1 cl [] M' := by
  intro d M ws hD rB x hx cl M' hc
  cases List.mem_singleton.mp hx
  obtain ⟨ρ, π, i0, i1, i2, hF⟩ := hc
  rcases cl with _ | ⟨c0, _ | ⟨c1, _ | ⟨c2, _ | ⟨c3, _ | ⟨c4, cl⟩⟩⟩⟩⟩
  · exact i1.elim
  · exact i1.2.elim
  · exact i1.2.2.elim
  · exact i1.2.2.2.elim
  rotate_left
  · exact i1.2.2.2.2.elim
  obtain ⟨⟨x0, rfl, a0, r0, rfl⟩, ⟨x1, rfl, w, rfl, lw⟩, ⟨x2, rfl, h, rfl, lh⟩, ⟨x3, rfl, i, rfl, li⟩, _⟩ := i1
  cases r0
  have hg := i2.2.2.1
  obtain ⟨w1, w2⟩ := liI_V hg (a := 4) (b := 16) rfl lw
  obtain ⟨h1, h2⟩ := liI_V hg (a := 4) (b := 16) rfl lh
  obtain ⟨z1, z2⟩ := liI_V hg (a := 0) (b := 0) rfl li
  have hi : i = 0 := Int32.toInt_inj.mp (show i.toInt = 0 by omega)
  subst hi
  have hT := i2.2.2.2.2.2
  obtain ⟨b0, rb0, ci, vs, v4, hM, v4e, p, rfl, lp⟩ := i2.1 ((.inl 633), .inl 4, .inl ([(3, .ofNat 1)], .ofNat 0)) (List.mem_cons_self ..)
  cases rb0
  obtain ⟨b1, rb1, ci1, vs1, v2, hM1, v2e, ln, rfl, lln⟩ := i2.1 ((.inl 633), .inl 2, .inl ([(4, .ofNat 1)], .ofNat 0)) (List.mem_cons_of_mem _ (List.mem_cons_self ..))
  cases rb1
  cases hM.symm.trans hM1
  obtain ⟨b2, rb2, ci2, vs2, v3, hM2, v3e, sz, rfl, lsz⟩ := i2.1 ((.inl 633), .inl 3, .inl ([(5, .ofNat 1)], .ofNat 0)) (List.mem_cons_of_mem _ (List.mem_cons_of_mem _ (List.mem_cons_self ..)))
  cases rb2
  cases hM.symm.trans hM2
  obtain ⟨p1, p2⟩ := liI_V hg (a := 0) (b := 0) rfl lp
  obtain ⟨n1, n2⟩ := liI_V hg (a := 0) (b := 0) rfl lln
  obtain ⟨s1, s2⟩ := liI_V hg (a := 16) (b := 256) rfl lsz
  obtain ⟨vs9, lb, hM9, h5, hs, sl⟩ := hT.s_all
  have hput : ∀ l : List Int32, M' = gPut M' 635 (.inl (1, .inl lb)) := fun _ => by
    refine nthx (fun k => ?_)
    rw [nth_put]
    by_cases hk : k = 635 ∧ 635 < M'.length
    · rw [if_pos hk, hk.1]
      exact hs
    · rw [if_neg hk]
  rw [hput []]
  refine prk_loop hT w1 w2 h1 h2 (fun l hl => ?_) 2314 0 0 lb ⟨sl, fun k hk => absurd hk (Nat.not_lt_zero _)⟩ rfl rfl
  have hM3 : gNth (gPut M' 635 (.inl (1, .inl l))) 633 = some (.inr (ci, vs)) := by
    rw [nth_put, if_neg (fun q => absurd q.1 (by decide))]
    exact hM
  refine rB _ (List.mem_singleton.mpr rfl) _ _ ⟨[0, sz.toInt, ln.toInt, p.toInt], [], ?_, ?_, ⟨fun e he => ?_, fun f hf => ?_, ⟨rfl, fun k q hq => ?_⟩, ⟨rfl, fun s g h => by cases h⟩, fun L hL => (by cases hL), hT.s_new hl⟩, hF.trans (Frm.row hs sT_635 (by decide))⟩
  · rcases ws with _ | ⟨q0, _ | ⟨q1, _ | ⟨q2, _ | ⟨q3, ws⟩⟩⟩⟩
    · exact i0.elim
    · exact i0.2.elim
    · exact i0.2.2.elim
    · exact i0
    · exact i0.2.2.2.elim
  · exact ⟨⟨_, rfl, 633, rfl, rfl⟩, (fun x hx => by cases hx; rfl), (fun x hx => by cases hx; rfl), ⟨_, rfl, 0, rfl, rfl⟩, trivial⟩
  · rcases List.mem_cons.mp he with rfl | he
    · exact ⟨633, rfl, ci, vs, _, hM3, v3e, sz, rfl, liS_V rfl⟩
    rcases List.mem_cons.mp he with rfl | he
    · exact ⟨633, rfl, ci, vs, _, hM3, v2e, ln, rfl, liS_V rfl⟩
    rcases List.mem_cons.mp he with rfl | he
    · exact ⟨633, rfl, ci, vs, _, hM3, v4e, p, rfl, liS_V rfl⟩
    · cases he
  · cases List.mem_singleton.mp hf
    exact ⟨[], trivial, (show FL0 28 [] _ from ⟨1, l, by rw [nth_put, if_pos ⟨rfl, gNth_lt _ _ _ hs⟩], hl.2.2⟩)⟩
  · rcases k with _ | _ | _ | _ | k
    · cases hq; exact ⟨0, rfl, by decide, by decide⟩
    · cases hq; exact ⟨_, rfl, s1, s2⟩
    · cases hq; exact ⟨_, rfl, n1, n2⟩
    · cases hq; exact ⟨_, rfl, p1, p2⟩
    · cases hq
theorem park_b {d : Nat} {M : Mem} {ws : List Value} (hD : kX11_park.2.1 ≤ d) : ∀ x ∈ kX11_park_B, ∀ cl M', Cnd sT sG FL0 kX11_park.2.2.2.2.2.1 ws M x.2 cl M' → RF (Fin sT sG FL0 kX11_park ws M) [] d kX11_park.1 x.1 cl [] M' := by
  obtain ⟨hE, hC⟩ := and_t kX11_park_chk
  obtain ⟨hCA, hCB⟩ := and_t hC
  exact main_V (A := kX11_park_B) (cuts := kX11_park_B) (M := M) (ws := ws) sU_ok dp0_ok ct0_ok kX11_park_D_ok hD (Q := Fin sT sG FL0 kX11_park ws M) (fun _ _ h => h) (fun x hx => List.all_eq_true.mp hCB x hx) (fun x hx => Or.inl hx)
/-- from 74 on the reference's park comes to an end -/
theorem park_74 {e : Nat} {M M2 : Mem} {vs : List Value} {w h w0 h0 sz : Int32} (w1 : 4 ≤ w.toInt) (w2 : w.toInt ≤ 16) (h1 : 4 ≤ h.toInt) (h2 : h.toInt ≤ 16) (hT : TM sT sG M2) (hF : Frm sT kX11_park.2.2.2.2.2.1 M M2) (hf : FL0 28 [] M2) (hM : gNth M2 633 = some (.inr (11, vs))) (v4 : gNth vs 4 = some (.int 0)) (v2 : gNth vs 2 = some (.int 0)) (v3 : gNth vs 3 = some (.int sz)) (s1 : 16 ≤ sz.toInt) (s2 : sz.toInt ≤ 256) : ∃ v M', Ev none (e + 1) 155 74 [some (.ref 633), some (.int w), some (.int h), some (.int 0)] [] M2 v M' 0 0 := by
  have hg := park_g (e + 1) M [.ref 633, .int w0, .int h0] (Nat.le_add_left 1 e) (park_b (Nat.le_add_left 1 e)) _ (List.mem_singleton.mpr rfl) [some (.ref 633), some (.int w), some (.int h), some (.int 0)] M2 ⟨[w.toInt, h.toInt, 0, 0, 0, sz.toInt], [], ⟨rfl, rfl, rfl, trivial⟩, ⟨⟨_, rfl, 633, rfl, rfl⟩, ⟨_, rfl, w, rfl, liS_V rfl⟩, ⟨_, rfl, h, rfl, liS_V rfl⟩, ⟨_, rfl, 0, rfl, liS_V rfl⟩, trivial⟩, ⟨fun x he => ?_, fun f hff => ?_, ⟨rfl, fun k q hq => ?_⟩, ⟨rfl, fun s g h => by cases h⟩, fun L hL => (by cases hL), hT⟩, hF⟩
  · obtain ⟨v, M', h9, _⟩ := hg
    exact ⟨v, M', h9⟩
  · rcases List.mem_cons.mp he with rfl | he
    · exact ⟨633, rfl, 11, vs, _, hM, v4, 0, rfl, liS_V rfl⟩
    rcases List.mem_cons.mp he with rfl | he
    · exact ⟨633, rfl, 11, vs, _, hM, v2, 0, rfl, liS_V rfl⟩
    rcases List.mem_cons.mp he with rfl | he
    · exact ⟨633, rfl, 11, vs, _, hM, v3, sz, rfl, liS_V rfl⟩
    · cases he
  · cases List.mem_singleton.mp hff
    exact ⟨[], trivial, hf⟩
  · rcases k with _ | _ | _ | _ | _ | _ | k
    · cases hq; exact ⟨_, rfl, w1, w2⟩
    · cases hq; exact ⟨_, rfl, h1, h2⟩
    · cases hq; exact ⟨0, rfl, by decide, by decide⟩
    · cases hq; exact ⟨0, rfl, by decide, by decide⟩
    · cases hq; exact ⟨0, rfl, by decide, by decide⟩
    · cases hq; exact ⟨_, rfl, s1, s2⟩
    · cases hq
noncomputable def rpB : Bool := match gNth mRs 155 with
  | some q => roB q.2.2.2.2.2.2.2 [74, 75, 78, 81, 82, 85, 86, 87, 88, 91, 94, 95, 98, 99, 100, 101, 102, 105, 106, 107, 108, 109, 110, 111, 112, 115, 118, 119, 120, 121, 122, 123, 126, 128, 129, 132, 133, 134, 135, 136, 137, 140, 142, 143, 144, 145, 148, 149, 150, 151, 152, 153, 156, 158, 159, 162, 165, 168] 169 && (match gLook q.2.2.2.2.2.2.2 169 with
    | some (6, .ireturn) => true
    | _ => false)
  | none => false
set_option maxRecDepth 100000 in
theorem rp_ok : rpB = true := by decide +kernel
theorem park_1 {e : Nat} {ls : Lo} {M M' : Mem} {v : Option Value} (h : Ev none e 155 74 ls [] M v M' 0 0) : v = some (.int 1) := by
  have hb := rp_ok
  unfold rpB at hb
  split at hb
  rotate_left
  · cases hb
  rename_i q hq
  obtain ⟨o, y, cc, mx, ret, np, kf, tab⟩ := q
  obtain ⟨b1, b2⟩ := and_t hb
  dsimp only at b1 b2
  split at b2
  rotate_left
  · cases b2
  rename_i hl
  exact h.one hq b1 hl List.mem_cons_self
set_option maxRecDepth 100000 in
theorem tp_m2 : fiB 61 11 3 0 440 = true ∧ fiB 61 11 4 0 440 = true := by refine ⟨?_, ?_⟩ <;> decide +kernel
theorem cal_tn {M : Mem} {vs : List Value} {rest : List Value} (hM : gNth M 633 = some (.inr (11, vs))) (hr : gRoom rest = true) : gCal (.invokevirtual 144) 11 (.ref 633 :: rest) M = some (.inr (139, [some (.ref 633)], rest)) := by
  show @cond (Option ((List Value × Mem) ⊕ (Nat × Lo × List Value))) (true && gRecv M (.ref 633) 11 && gRoom rest && true) (some (.inr (139, [some (.ref 633)], rest))) none = _
  rw [recv_c hM, hr]
  rfl
theorem cal_oc {M : Mem} {vs : List Value} {k : Int32} {rest : List Value} (hM : gNth M 633 = some (.inr (11, vs))) (hr : gRoom rest = true) : gCal (.invokevirtual 147) 11 (.int k :: .ref 633 :: rest) M = some (.inr (142, [some (.ref 633), some (.int k)], rest)) := by
  show @cond (Option ((List Value × Mem) ⊕ (Nat × Lo × List Value))) (true && gRecv M (.ref 633) 11 && gRoom rest && true) (some (.inr (142, [some (.ref 633), some (.int k)], rest))) none = _
  rw [recv_c hM, hr]
  rfl
def mdTn : Md := [(11, 2), (11, 3), (11, 4)]
theorem ev_taken {e : Nat} {M : Mem} {z : Int32} (hT : TM sT sG M) (hz : LR z M) : ∃ vs M', Ev none e 139 0 [some (.ref 633)] [] M none M' 0 0 ∧ TM sT sG M' ∧ Frm sT mdTn M M' ∧ gNth M' 633 = some (.inr (11, vs)) ∧ gNth vs 2 = some (.int 0) ∧ gNth vs 3 = some (.int z) ∧ gNth vs 4 = some (.int 0) := by
  obtain ⟨z0, z1⟩ := hz.rng hT
  obtain ⟨vs, h1, h2⟩ := hz
  obtain ⟨va, _, a1, _, a2, _, _, a3⟩ := hT.fnum tp_633 tp_m2.1
  cases h1.symm.trans a1
  have t1 := a3 z z0 z1
  have g1 : gNth (gPut M 633 (.inr (11, gPut vs 3 (.int z)))) 633 = some (.inr (11, gPut vs 3 (.int z))) := by rw [nth_put, if_pos ⟨rfl, gNth_lt _ _ _ h1⟩]
  have f1 : Frm sT mdTn M (gPut M 633 (.inr (11, gPut vs 3 (.int z)))) := Frm.fld h1 (by decide)
  obtain ⟨vb, _, b1, _, b2, _, _, b3⟩ := t1.fnum tp_633 tp_m.1
  cases g1.symm.trans b1
  have t2 := b3 0 (by decide) (by decide)
  have g2 : gNth (gPut (gPut M 633 (.inr (11, gPut vs 3 (.int z)))) 633 (.inr (11, gPut (gPut vs 3 (.int z)) 2 (.int 0)))) 633 = some (.inr (11, gPut (gPut vs 3 (.int z)) 2 (.int 0))) := by rw [nth_put, if_pos ⟨rfl, gNth_lt _ _ _ g1⟩]
  have f2 : Frm sT mdTn (gPut M 633 (.inr (11, gPut vs 3 (.int z)))) (gPut (gPut M 633 (.inr (11, gPut vs 3 (.int z)))) 633 (.inr (11, gPut (gPut vs 3 (.int z)) 2 (.int 0)))) := Frm.fld g1 (by decide)
  obtain ⟨vc, _, c1, _, c2, _, _, c3⟩ := t2.fnum tp_633 tp_m2.2
  cases g2.symm.trans c1
  have t3 := c3 0 (by decide) (by decide)
  have f3 : Frm sT mdTn (gPut (gPut M 633 (.inr (11, gPut vs 3 (.int z)))) 633 (.inr (11, gPut (gPut vs 3 (.int z)) 2 (.int 0)))) (gPut (gPut (gPut M 633 (.inr (11, gPut vs 3 (.int z)))) 633 (.inr (11, gPut (gPut vs 3 (.int z)) 2 (.int 0)))) 633 (.inr (11, gPut (gPut (gPut vs 3 (.int z)) 2 (.int 0)) 4 (.int 0)))) := Frm.fld g2 (by decide)
  refine ⟨_, _, tn_0 h1 h2 a2 (tn_8 g1 b2 (tn_13 g2 c2)), t3, (f1.trans f2).trans f3, by rw [nth_put, if_pos ⟨rfl, gNth_lt _ _ _ g2⟩], ?_, ?_, ?_⟩
  · rw [nth_put, if_neg (fun q => absurd q.1 (by decide)), nth_put, if_pos ⟨rfl, b2⟩]
  · rw [nth_put, if_neg (fun q => absurd q.1 (by decide)), nth_put, if_neg (fun q => absurd q.1 (by decide)), nth_put, if_pos ⟨rfl, a2⟩]
  · rw [nth_put, if_pos ⟨rfl, c2⟩]
def okR (lt : List Int32) (n : Nat) : Prop := ∀ k, k < n → ∃ y, gNth lt k = some y ∧ ¬ ((y &&& 255) - (y &&& 255) / 8 * 8 = 7)
def TQk (w h z : Int32) (lt : List Int32) : Prop := ((4 ≤ w.toInt ∧ w.toInt ≤ 16) ∧ (4 ≤ h.toInt ∧ h.toInt ≤ 16)) ∧ z = w * h ∧ okR lt z.toInt.toNat
section PKR
variable {e : Nat} {M : Mem} {w h z : Int32} {lt : List Int32}
/-- the first loop: to 0, or on to 74 -/
theorem pq_loop {vs : List Value} (hM : gNth M 633 = some (.inr (11, vs))) (v3 : gNth vs 3 = some (.int z)) (v1 : gNth vs 1 = some (.ref 634)) (hB : BR lt M) (hl : lt.length = 440) {n : Nat} (hn : z.toInt = (n : Int)) (hn2 : n ≤ 440) : ∀ (j inn : Nat) (k : Int32), inn + j = n → k.toInt = (inn : Int) → okR lt inn → (okR lt n ∧ ∀ v M', Ev none (e + 1) 155 74 [some (.ref 633), some (.int w), some (.int h), some (.int 0)] [] M v M' 0 0 → Ev none (e + 1) 155 43 [some (.ref 633), some (.int w), some (.int h), some (.int k)] [] M v M' 0 0) ∨ (¬ okR lt n ∧ Ev none (e + 1) 155 43 [some (.ref 633), some (.int w), some (.int h), some (.int k)] [] M (some (.int 0)) M 0 0) := by
  intro j
  induction j with
  | zero =>
    intro inn k hj hk hok
    have hin : inn = n := by omega
    subst hin
    exact Or.inl ⟨hok, fun v M' h9 => pq_43 hM v3 (by rw [if_pos (by rw [Int32.le_iff_toInt_le]; omega)]; exact pq_72 h9)⟩
  | succ j ih =>
    intro inn k hj hk hok
    have ek : (k + 1).toInt = k.toInt + 1 := i32_p1 (by omega)
    obtain ⟨y, y1, y2⟩ := at_c (l := lt) hk (by omega)
    have hoc : Ev none e 142 0 [some (.ref 633), some (.int k)] [] M (some (.int (y &&& 255))) M 0 0 := oq_0 hM v1 hB y1
    by_cases hy : (y &&& 255) - (y &&& 255) / 8 * 8 = 7
    · refine Or.inr ⟨fun q => ?_, pq_43 hM v3 ?_⟩
      · obtain ⟨y', u1, u2⟩ := q inn (by omega)
        cases y2.symm.trans u1
        exact u2 hy
      · rw [if_neg (by rw [Int32.le_iff_toInt_le]; omega)]
        exact pq_51 (Ev.call0 (fun n => gs_7 rfl rfl (cal_oc hM rfl)) hoc (pq_56 (by rw [if_pos hy]; exact pq_64)))
    · have on : ∀ v M', Ev none (e + 1) 155 43 [some (.ref 633), some (.int w), some (.int h), some (.int (k + 1))] [] M v M' 0 0 → Ev none (e + 1) 155 43 [some (.ref 633), some (.int w), some (.int h), some (.int k)] [] M v M' 0 0 := fun v M' h9 => pq_43 hM v3 (by
        rw [if_neg (by rw [Int32.le_iff_toInt_le]; omega)]
        exact pq_51 (Ev.call0 (fun n => gs_7 rfl rfl (cal_oc hM rfl)) hoc (pq_56 (by rw [if_neg hy]; exact pq_66 h9))))
      rcases ih (inn + 1) (k + 1) (by omega) (by omega) (fun m hm => by
        by_cases hmi : m < inn
        · exact hok m hmi
        · have hmi2 : m = inn := by omega
          subst hmi2
          exact ⟨y, y2, hy⟩) with ⟨g1, g2⟩ | ⟨g1, g2⟩
      · exact Or.inl ⟨g1, fun v M' h9 => on v M' (g2 v M' h9)⟩
      · exact Or.inr ⟨g1, on _ _ g2⟩
theorem isin_01x {x lo hi : Int32} : ((if x < lo then (0 : Int32) else if hi < x then 0 else 1) = 1 ∧ lo.toInt ≤ x.toInt ∧ x.toInt ≤ hi.toInt) ∨ ((if x < lo then (0 : Int32) else if hi < x then 0 else 1) = 0 ∧ ¬ (lo.toInt ≤ x.toInt ∧ x.toInt ≤ hi.toInt)) := by
  by_cases h1 : x < lo
  · rw [if_pos h1]
    rw [Int32.lt_iff_toInt_lt] at h1
    exact Or.inr ⟨rfl, fun q => by omega⟩
  · rw [if_neg h1]
    by_cases h2 : hi < x
    · rw [if_pos h2]
      rw [Int32.lt_iff_toInt_lt] at h2
      exact Or.inr ⟨rfl, fun q => by omega⟩
    · rw [if_neg h2]
      rw [Int32.lt_iff_toInt_lt] at h1 h2
      exact Or.inl ⟨rfl, by omega, by omega⟩
set_option maxRecDepth 100000 in
theorem mR_155 : (gNth mRs kX11_park.1).map (fun q => q.2.2.2.1) = some 4 := by decide +kernel
theorem ev_parkR (hV : INV M) (hz : LR z M) (hB : BR lt M) : ∃ (r : Int32) (M' : Mem), Ev none (e + 1) 155 0 [some (.ref 633), some (.int w), some (.int h), none] [] M (some (.int r)) M' 0 0 ∧ INV M' ∧ Frm sT kX11_park.2.2.2.2.2.1 M M' ∧ LR 0 M' ∧ ((r = 1 ∧ TQk w h z lt) ∨ (r = 0 ∧ ¬ TQk w h z lt)) := by
  obtain ⟨z0, z1⟩ := hz.rng hV.1
  obtain ⟨v, MF, hE, hVF, hFF, hs⟩ := inv_f (d := e + 1) (ws := [.ref 633, .int w, .int h]) kX11_park_ok (by decide +kernel) mR_155 (Nat.le_add_left 1 e) (Two.mk rfl (Two.mk ⟨w, rfl, i32_any w⟩ (Two.mk ⟨h, rfl, i32_any h⟩ trivial))) hV
  have hL0 : LR 0 MF := zeB_V (a := 633) (ci := 11) (f := 2) (c := kX11_park) (by decide +kernel) hs
  have key : (v = some (.int 1) ∧ TQk w h z lt) ∨ (v = some (.int 0) ∧ ¬ TQk w h z lt) := by
    obtain ⟨v0, k1, k0, T0, F0, c0, d0⟩ := hz.thr hV.1
    obtain ⟨vt, M1, ht, T1, F1, m1, n2, n3, n4⟩ := ev_taken (e := e) T0 ⟨_, c0, d0⟩
    have F01 : Frm sT kX11_park.2.2.2.2.2.1 M M1 := (F0.more (fun q hq => by cases List.mem_singleton.mp hq; decide)).trans (F1.more (fun q hq => by
      rcases List.mem_cons.mp hq with rfl | hq
      · decide
      rcases List.mem_cons.mp hq with rfl | hq
      · decide
      cases List.mem_singleton.mp hq
      decide))
    have B1 := (hB.frm F0 (by decide)).frm F1 (by decide)
    have h28 := dp0_frm 0 28 _ _ _ _ F1 (by decide) (dp0_frm 0 28 _ _ _ _ F0 (by decide) (hV.2 28 (Or.inr (Or.inl rfl))))
    obtain ⟨vt', b, q1, q2, sb⟩ := T1.fref tp_633 tp_m.2.1
    cases m1.symm.trans q1
    have hb2 := sU_ok b 62 634 sb tp_u.2.1
    subst hb2
    obtain ⟨l, r1, r2, r3⟩ := T1.mrow sb tp_m.2.2
    have hsl : l = lt := by cases B1.symm.trans r1; rfl
    subst hsl
    have pre : ∀ v M', Ev none (e + 1) 155 9 [some (.ref 633), some (.int w), some (.int h), none] [] M1 v M' 0 0 → Ev none (e + 1) 155 0 [some (.ref 633), some (.int w), some (.int h), none] [] M v M' 0 0 := fun v M' h9 => pq_0 k1 k0 (pq_5 (Ev.call0 (fun n => gs_7 rfl rfl (cal_tn c0 rfl)) ht h9))
    have o4 : (4 : Int32).toInt = 4 := rfl
    have o16 : (16 : Int32).toInt = 16 := rfl
    rcases isin_01x (x := w) (lo := 4) (hi := 16) with ⟨i1, a2, a3⟩ | ⟨i1, a2⟩
    rotate_left
    · exact Or.inr ⟨(Ev.det hE (pre _ _ (pq_9 (Ev.call0 (fun n => rfl) ev_isin (pq_16 (by rw [if_pos i1]; exact pq_39)))))).1, fun q => by obtain ⟨⟨⟨q1, q2⟩, q3, q4⟩, _⟩ := q; exact a2 ⟨by omega, by omega⟩⟩
    rcases isin_01x (x := h) (lo := 4) (hi := 16) with ⟨i2, b2, b3⟩ | ⟨i2, b2⟩
    rotate_left
    · exact Or.inr ⟨(Ev.det hE (pre _ _ (pq_9 (Ev.call0 (fun n => rfl) ev_isin (pq_16 (by rw [i1, if_neg (by decide)]; exact pq_19 (Ev.call0 (fun n => rfl) ev_isin (pq_26 (by rw [if_pos i2]; exact pq_39))))))))).1, fun q => by obtain ⟨⟨⟨q1, q2⟩, q3, q4⟩, _⟩ := q; exact b2 ⟨by omega, by omega⟩⟩
    have pre2 : ∀ v M', Ev none (e + 1) 155 29 [some (.ref 633), some (.int w), some (.int h), none] [] M1 v M' 0 0 → Ev none (e + 1) 155 0 [some (.ref 633), some (.int w), some (.int h), none] [] M v M' 0 0 := fun v M' h9 => pre _ _ (pq_9 (Ev.call0 (fun n => rfl) ev_isin (pq_16 (by rw [i1, if_neg (by decide)]; exact pq_19 (Ev.call0 (fun n => rfl) ev_isin (pq_26 (by rw [i2, if_neg (by decide)]; exact h9)))))))
    by_cases hw : z = w * h
    rotate_left
    · exact Or.inr ⟨(Ev.det hE (pre2 _ _ (pq_29 m1 n3 (by rw [if_neg hw]; exact pq_39)))).1, fun q => hw q.2.1⟩
    rcases pq_loop (e := e) (w := w) (h := h) m1 n3 q2 r1 r2 (n := z.toInt.toNat) (by omega) (by omega) z.toInt.toNat 0 0 (by omega) rfl (fun k hk => absurd hk (Nat.not_lt_zero k)) with ⟨g1, g2⟩ | ⟨g1, g2⟩
    · have hwh : z.toInt = w.toInt * h.toInt := by
        rw [hw]
        have m1 : w.toInt * h.toInt ≤ 16 * 16 := Int.mul_le_mul (by omega) (by omega) (by omega) (by omega)
        have m2 : 4 * 4 ≤ w.toInt * h.toInt := Int.mul_le_mul (by omega) (by omega) (by omega) (by omega)
        exact i32_mul (by omega) (by omega)
      have m1' : w.toInt * h.toInt ≤ 16 * 16 := Int.mul_le_mul (by omega) (by omega) (by omega) (by omega)
      have m2' : 4 * 4 ≤ w.toInt * h.toInt := Int.mul_le_mul (by omega) (by omega) (by omega) (by omega)
      obtain ⟨v9, M9, h9⟩ := park_74 (e := e) (M := M) (w := w) (h := h) (w0 := w) (h0 := h) (by omega) (by omega) (by omega) (by omega) T1 F01 h28 m1 n4 n2 n3 (by omega) (by omega)
      have h10 := pre2 _ _ (pq_29 m1 n3 (by rw [if_pos hw]; exact pq_41 (g2 _ _ h9)))
      exact Or.inl ⟨((Ev.det hE h10).1).trans (park_1 h9), ⟨⟨by omega, by omega⟩, by omega, by omega⟩, hw, g1⟩
    · exact Or.inr ⟨(Ev.det hE (pre2 _ _ (pq_29 m1 n3 (by rw [if_pos hw]; exact pq_41 g2)))).1, fun q => g1 q.2.2⟩
  rcases key with ⟨rfl, k⟩ | ⟨rfl, k⟩
  · exact ⟨1, MF, hE, hVF, hFF, hL0, Or.inl ⟨rfl, k⟩⟩
  · exact ⟨0, MF, hE, hVF, hFF, hL0, Or.inr ⟨rfl, k⟩⟩
end PKR
/-- alike, over the same bytes -/
theorem ok_al {b : Int32} : ((b &&& 255) &&& 7 ≤ 6) ↔ ¬ ((b &&& 255) - (b &&& 255) / 8 * 8 = 7) := by
  obtain ⟨m, hm, e1⟩ := and_le b (n := 255) (by decide)
  have e1 : b &&& 255 = nI m := e1
  rw [e1]
  have a : ∀ m : Nat, m < 256 → ((nI m &&& 7 ≤ 6) ↔ ¬ (nI m - nI m / 8 * 8 = 7)) := by decide +kernel
  exact a m (by omega)
theorem TPk_al {w h z : Int32} {lb lt : List Int32} {n : Nat} (hn : z.toInt.toNat = n) (hB : BBp n lb lt) : TPk w h z lb ↔ TQk w h z lt := by
  unfold TPk TQk
  rw [hn]
  refine and_congr Iff.rfl (and_congr Iff.rfl ⟨fun q k hk => ?_, fun q k hk => ?_⟩)
  · obtain ⟨y, y1, y2⟩ := hB k hk
    obtain ⟨x, x1, x2⟩ := q k hk
    cases y2.symm.trans x1
    exact ⟨y, y1, ok_al.mp x2⟩
  · obtain ⟨y, y1, y2⟩ := hB k hk
    obtain ⟨x, x1, x2⟩ := q k hk
    cases y1.symm.trans x1
    exact ⟨_, y2, ok_al.mpr x2⟩
