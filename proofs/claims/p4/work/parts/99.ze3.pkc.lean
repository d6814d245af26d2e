/-! PARK OF THE CLASS, exactly -/
/-- a run is one -/
theorem Ev.det {sc : Sta} {d me pc : Nat} {ls : Lo} {st : List Value} {M M1 M2 : Mem} {v1 v2 : Option Value} {c1 s1 c2 s2 : Nat} (h1 : Ev sc d me pc ls st M v1 M1 c1 s1) (h2 : Ev sc d me pc ls st M v2 M2 c2 s2) : v1 = v2 ∧ M1 = M2 := by
  obtain ⟨n1, h1⟩ := h1
  obtain ⟨n2, h2⟩ := h2
  have e1 := go_mono h1 n2
  have e2 := go_mono h2 n1
  rw [Nat.add_comm n2 n1] at e2
  have e3 := Option.some.inj (e1.symm.trans e2)
  exact ⟨congrArg (fun q => q.1) e3, congrArg (fun q => q.2.1) e3⟩
theorem tk_0 {e : Nat} {M : Mem} {M' : Mem} {v : Option Value} {h w : Int32} {p : Nat} {k0 : Option Value}  (hz : Ev none e 83 4 [some (.ref p), some (.int w), some (.int h), k0] [.int 16, .int 4, .int w] M v M' 0 0) : Ev none e 83 0 [some (.ref p), some (.int w), some (.int h), k0] [] M v M' 0 0 := by
  refine Ev.step (pc' := 4) (ls' := [some (.ref p), some (.int w), some (.int h), k0]) (st' := [.int 16, .int 4, .int w]) (M1 := M) 3 (fun n => rfl) ?_
  exact hz
theorem tk_7 {e : Nat} {M : Mem} {M' : Mem} {v : Option Value} {h w y : Int32} {p : Nat} {k0 : Option Value}  (hz : Ev none e 83 (if y = 0 then 33 else 10) [some (.ref p), some (.int w), some (.int h), k0] [] M v M' 0 0) : Ev none e 83 7 [some (.ref p), some (.int w), some (.int h), k0] [.int y] M v M' 0 0 := by
  refine Ev.step (pc' := (if y = 0 then 33 else 10)) (ls' := [some (.ref p), some (.int w), some (.int h), k0]) (st' := []) (M1 := M) 1 (fun n => rfl) ?_
  exact hz
theorem tk_10 {e : Nat} {M : Mem} {M' : Mem} {v : Option Value} {h w : Int32} {p : Nat} {k0 : Option Value}  (hz : Ev none e 83 14 [some (.ref p), some (.int w), some (.int h), k0] [.int 16, .int 4, .int h] M v M' 0 0) : Ev none e 83 10 [some (.ref p), some (.int w), some (.int h), k0] [] M v M' 0 0 := by
  refine Ev.step (pc' := 14) (ls' := [some (.ref p), some (.int w), some (.int h), k0]) (st' := [.int 16, .int 4, .int h]) (M1 := M) 3 (fun n => rfl) ?_
  exact hz
theorem tk_17 {e : Nat} {M : Mem} {M' : Mem} {v : Option Value} {h w y : Int32} {p : Nat} {k0 : Option Value}  (hz : Ev none e 83 (if y = 0 then 33 else 20) [some (.ref p), some (.int w), some (.int h), k0] [] M v M' 0 0) : Ev none e 83 17 [some (.ref p), some (.int w), some (.int h), k0] [.int y] M v M' 0 0 := by
  refine Ev.step (pc' := (if y = 0 then 33 else 20)) (ls' := [some (.ref p), some (.int w), some (.int h), k0]) (st' := []) (M1 := M) 1 (fun n => rfl) ?_
  exact hz
theorem tk_20 {e : Nat} {M : Mem} {M' : Mem} {v : Option Value} {va2 vp : List Value} {h w y4 : Int32} {a2 p : Nat} {k0 : Option Value} (hp : gNth M p = some (.inr (10, vp))) (f1 : gNth vp 0 = some (.ref a2)) (ha2 : gNth M a2 = some (.inr (5, va2))) (f3 : gNth va2 1 = some (.int y4)) (hz : Ev none e 83 (if y4 = (w * h) then 35 else 33) [some (.ref p), some (.int w), some (.int h), k0] [] M v M' 0 0) : Ev none e 83 20 [some (.ref p), some (.int w), some (.int h), k0] [] M v M' 0 0 := by
  refine Ev.step (pc' := 21) (ls' := [some (.ref p), some (.int w), some (.int h), k0]) (st' := [.ref p]) (M1 := M) 1 (fun n => rfl) ?_
  refine Ev.step 1 (gs_3 rfl rfl (gf_c rfl hp f1)) ?_
  refine Ev.step 1 (gs_3 rfl rfl (gf_c rfl ha2 f3)) ?_
  refine Ev.step (pc' := (if y4 = (w * h) then 35 else 33)) (ls' := [some (.ref p), some (.int w), some (.int h), k0]) (st' := []) (M1 := M) 4 (fun n => rfl) ?_
  exact hz
theorem tk_33 {e : Nat} {M : Mem} {h w : Int32} {p : Nat} {k0 : Option Value}  : Ev none e 83 33 [some (.ref p), some (.int w), some (.int h), k0] [] M (some (.int 0)) M 0 0 := by
  refine Ev.step (pc' := 34) (ls' := [some (.ref p), some (.int w), some (.int h), k0]) (st' := [.int 0]) (M1 := M) 1 (fun n => rfl) ?_
  exact Ev.ret (fun n => rfl)
theorem tk_35 {e : Nat} {M : Mem} {M' : Mem} {v : Option Value} {h w : Int32} {p : Nat} {k0 : Option Value}  (hz : Ev none e 83 37 [some (.ref p), some (.int w), some (.int h), some (.int 0)] [] M v M' 0 0) : Ev none e 83 35 [some (.ref p), some (.int w), some (.int h), k0] [] M v M' 0 0 := by
  refine Ev.step (pc' := 37) (ls' := [some (.ref p), some (.int w), some (.int h), some (.int 0)]) (st' := []) (M1 := M) 2 (fun n => rfl) ?_
  exact hz
theorem tk_37 {e : Nat} {M : Mem} {M' : Mem} {v : Option Value} {va2 vp : List Value} {h k w y4 : Int32} {a2 p : Nat} (hp : gNth M p = some (.inr (10, vp))) (f1 : gNth vp 0 = some (.ref a2)) (ha2 : gNth M a2 = some (.inr (5, va2))) (f3 : gNth va2 1 = some (.int y4)) (hz : Ev none e 83 (if y4 ≤ k then 73 else 48) [some (.ref p), some (.int w), some (.int h), some (.int k)] [] M v M' 0 0) : Ev none e 83 37 [some (.ref p), some (.int w), some (.int h), some (.int k)] [] M v M' 0 0 := by
  refine Ev.step (pc' := 39) (ls' := [some (.ref p), some (.int w), some (.int h), some (.int k)]) (st' := [.ref p, .int k]) (M1 := M) 2 (fun n => rfl) ?_
  refine Ev.step 1 (gs_3 rfl rfl (gf_c rfl hp f1)) ?_
  refine Ev.step 1 (gs_3 rfl rfl (gf_c rfl ha2 f3)) ?_
  refine Ev.step (pc' := (if y4 ≤ k then 73 else 48)) (ls' := [some (.ref p), some (.int w), some (.int h), some (.int k)]) (st' := []) (M1 := M) 1 (fun n => rfl) ?_
  exact hz
theorem tk_48 {e : Nat} {M : Mem} {M' : Mem} {v : Option Value} {va2 vp : List Value} {h k w y6 : Int32} {a2 a4 p : Nat} {la4 : List Int32} (hp : gNth M p = some (.inr (10, vp))) (f1 : gNth vp 0 = some (.ref a2)) (ha2 : gNth M a2 = some (.inr (5, va2))) (f3 : gNth va2 0 = some (.ref a4)) (ra4 : gNth M a4 = some (.inl (1, .inl la4))) (g5 : gAt la4 k = some y6) (hz : Ev none e 83 (if (y6 &&& 7) ≤ 6 then 67 else 65) [some (.ref p), some (.int w), some (.int h), some (.int k)] [] M v M' 0 0) : Ev none e 83 48 [some (.ref p), some (.int w), some (.int h), some (.int k)] [] M v M' 0 0 := by
  refine Ev.step (pc' := 49) (ls' := [some (.ref p), some (.int w), some (.int h), some (.int k)]) (st' := [.ref p]) (M1 := M) 1 (fun n => rfl) ?_
  refine Ev.step 1 (gs_3 rfl rfl (gf_c rfl hp f1)) ?_
  refine Ev.step 1 (gs_3 rfl rfl (gf_c rfl ha2 f3)) ?_
  refine Ev.step (pc' := 56) (ls' := [some (.ref p), some (.int w), some (.int h), some (.int k)]) (st' := [.int k, .ref a4]) (M1 := M) 1 (fun n => rfl) ?_
  refine Ev.step 1 (gs_3 rfl rfl (ia_c ra4 g5)) ?_
  refine Ev.step (pc' := (if (y6 &&& 7) ≤ 6 then 67 else 65)) (ls' := [some (.ref p), some (.int w), some (.int h), some (.int k)]) (st' := []) (M1 := M) 4 (fun n => rfl) ?_
  exact hz
theorem tk_65 {e : Nat} {M : Mem} {h k w : Int32} {p : Nat}  : Ev none e 83 65 [some (.ref p), some (.int w), some (.int h), some (.int k)] [] M (some (.int 0)) M 0 0 := by
  refine Ev.step (pc' := 66) (ls' := [some (.ref p), some (.int w), some (.int h), some (.int k)]) (st' := [.int 0]) (M1 := M) 1 (fun n => rfl) ?_
  exact Ev.ret (fun n => rfl)
theorem tk_67 {e : Nat} {M : Mem} {M' : Mem} {v : Option Value} {h k w : Int32} {p : Nat}  (hz : Ev none e 83 37 [some (.ref p), some (.int w), some (.int h), some (.int (k + 1))] [] M v M' 0 0) : Ev none e 83 67 [some (.ref p), some (.int w), some (.int h), some (.int k)] [] M v M' 0 0 := by
  refine Ev.step (pc' := 37) (ls' := [some (.ref p), some (.int w), some (.int h), some (.int (k + 1))]) (st' := []) (M1 := M) 2 (fun n => rfl) ?_
  exact hz
theorem tk_73 {e : Nat} {M : Mem} {h k w : Int32} {p : Nat}  : Ev none e 83 73 [some (.ref p), some (.int w), some (.int h), some (.int k)] [] M (some (.int 1)) M 0 0 := by
  refine Ev.step (pc' := 74) (ls' := [some (.ref p), some (.int w), some (.int h), some (.int k)]) (st' := [.int 1]) (M1 := M) 1 (fun n => rfl) ?_
  exact Ev.ret (fun n => rfl)
theorem pk_0 {e : Nat} {M : Mem} {M' : Mem} {v : Option Value} {h w : Int32} {p : Nat} {k0 : Option Value}  (hz : Ev none e 82 3 [some (.ref p), some (.int w), some (.int h), k0] [.int h, .int w, .ref p] M v M' 0 0) : Ev none e 82 0 [some (.ref p), some (.int w), some (.int h), k0] [] M v M' 0 0 := by
  refine Ev.step (pc' := 3) (ls' := [some (.ref p), some (.int w), some (.int h), k0]) (st' := [.int h, .int w, .ref p]) (M1 := M) 3 (fun n => rfl) ?_
  exact hz
theorem pk_6 {e : Nat} {M : Mem} {M' : Mem} {v : Option Value} {h w y : Int32} {p : Nat} {k0 : Option Value}  (hz : Ev none e 82 (if y = 0 then 24 else 11) [some (.ref p), some (.int w), some (.int h), some (.int y)] [] M v M' 0 0) : Ev none e 82 6 [some (.ref p), some (.int w), some (.int h), k0] [.int y] M v M' 0 0 := by
  refine Ev.step (pc' := (if y = 0 then 24 else 11)) (ls' := [some (.ref p), some (.int w), some (.int h), some (.int y)]) (st' := []) (M1 := M) 3 (fun n => rfl) ?_
  exact hz
theorem pk_11 {e : Nat} {M : Mem} {M' : Mem} {v : Option Value} {vp : List Value} {h k w : Int32} {a2 a4 p : Nat} (hp : gNth M p = some (.inr (10, vp))) (f1 : gNth vp 2 = some (.ref a2)) (f3 : gNth vp 0 = some (.ref a4)) (hz : Ev none e 82 21 [some (.ref p), some (.int w), some (.int h), some (.int k)] [.ref a4, .int h, .int w, .ref a2] M v M' 0 0) : Ev none e 82 11 [some (.ref p), some (.int w), some (.int h), some (.int k)] [] M v M' 0 0 := by
  refine Ev.step (pc' := 12) (ls' := [some (.ref p), some (.int w), some (.int h), some (.int k)]) (st' := [.ref p]) (M1 := M) 1 (fun n => rfl) ?_
  refine Ev.step 1 (gs_3 rfl rfl (gf_c rfl hp f1)) ?_
  refine Ev.step (pc' := 18) (ls' := [some (.ref p), some (.int w), some (.int h), some (.int k)]) (st' := [.ref p, .int h, .int w, .ref a2]) (M1 := M) 3 (fun n => rfl) ?_
  refine Ev.step 1 (gs_3 rfl rfl (gf_c rfl hp f3)) ?_
  exact hz
theorem pk_240 {e : Nat} {M : Mem} {va2 vp : List Value} {h w : Int32} {a2 p : Nat} (hp : gNth M p = some (.inr (10, vp))) (f1 : gNth vp 0 = some (.ref a2)) (ha2 : gNth M a2 = some (.inr (5, va2))) (hla2 : 1 < va2.length) : Ev none e 82 24 [some (.ref p), some (.int w), some (.int h), some (.int 0)] [] M (some (.int 0)) (gPut M a2 (.inr (5, gPut va2 1 (.int 0)))) 0 0 := by
  refine Ev.step (pc' := 25) (ls' := [some (.ref p), some (.int w), some (.int h), some (.int 0)]) (st' := [.ref p]) (M1 := M) 1 (fun n => rfl) ?_
  refine Ev.step 1 (gs_3 rfl rfl (gf_c rfl hp f1)) ?_
  refine Ev.step (pc' := 29) (ls' := [some (.ref p), some (.int w), some (.int h), some (.int 0)]) (st' := [.int 0, .ref a2]) (M1 := M) 1 (fun n => rfl) ?_
  refine Ev.step 1 (gs_4 rfl rfl (pf_c rfl ha2 hla2 rfl rfl)) ?_
  refine Ev.step (pc' := 33) (ls' := [some (.ref p), some (.int w), some (.int h), some (.int 0)]) (st' := [.int 0]) (M1 := (gPut M a2 (.inr (5, gPut va2 1 (.int 0))))) 1 (fun n => rfl) ?_
  exact Ev.ret (fun n => rfl)
theorem pk_241 {e : Nat} {M : Mem} {va2 vp : List Value} {h w : Int32} {a2 p : Nat} (hp : gNth M p = some (.inr (10, vp))) (f1 : gNth vp 0 = some (.ref a2)) (ha2 : gNth M a2 = some (.inr (5, va2))) (hla2 : 1 < va2.length) : Ev none e 82 24 [some (.ref p), some (.int w), some (.int h), some (.int 1)] [] M (some (.int 1)) (gPut M a2 (.inr (5, gPut va2 1 (.int 0)))) 0 0 := by
  refine Ev.step (pc' := 25) (ls' := [some (.ref p), some (.int w), some (.int h), some (.int 1)]) (st' := [.ref p]) (M1 := M) 1 (fun n => rfl) ?_
  refine Ev.step 1 (gs_3 rfl rfl (gf_c rfl hp f1)) ?_
  refine Ev.step (pc' := 29) (ls' := [some (.ref p), some (.int w), some (.int h), some (.int 1)]) (st' := [.int 0, .ref a2]) (M1 := M) 1 (fun n => rfl) ?_
  refine Ev.step 1 (gs_4 rfl rfl (pf_c rfl ha2 hla2 rfl rfl)) ?_
  refine Ev.step (pc' := 33) (ls' := [some (.ref p), some (.int w), some (.int h), some (.int 1)]) (st' := [.int 1]) (M1 := (gPut M a2 (.inr (5, gPut va2 1 (.int 0))))) 1 (fun n => rfl) ?_
  exact Ev.ret (fun n => rfl)
def okB (lb : List Int32) (n : Nat) : Prop := ∀ k, k < n → ∃ y, gNth lb k = some y ∧ (y &&& 7) ≤ 6
/-- the tape tells a park of this size -/
def TPk (w h z : Int32) (lb : List Int32) : Prop := ((4 ≤ w.toInt ∧ w.toInt ≤ 16) ∧ (4 ≤ h.toInt ∧ h.toInt ≤ 16)) ∧ z = w * h ∧ okB lb z.toInt.toNat
theorem ev_wi {e : Nat} {M : Mem} {x lo hi : Int32} : ∃ y : Int32, Ev none e 126 0 [some (.int x), some (.int lo), some (.int hi)] [] M (some (.int y)) M 0 0 ∧ ((y = 1 ∧ lo.toInt ≤ x.toInt ∧ x.toInt ≤ hi.toInt) ∨ (y = 0 ∧ ¬ (lo.toInt ≤ x.toInt ∧ x.toInt ≤ hi.toInt))) := by
  by_cases h1 : x < lo
  · refine ⟨0, within_lo h1, Or.inr ⟨rfl, fun q => ?_⟩⟩
    rw [Int32.lt_iff_toInt_lt] at h1
    omega
  · by_cases h2 : hi < x
    · refine ⟨0, within_hi h1 h2, Or.inr ⟨rfl, fun q => ?_⟩⟩
      rw [Int32.lt_iff_toInt_lt] at h2
      omega
    · refine ⟨1, within_in h1 h2, Or.inl ⟨rfl, ?_, ?_⟩⟩
      · rw [Int32.lt_iff_toInt_lt] at h1
        omega
      · rw [Int32.lt_iff_toInt_lt] at h2
        omega
section TEL
variable {e : Nat} {M : Mem} {w h z : Int32} {lb : List Int32}
theorem tk_loop {vp vs : List Value} (p1 : gNth M 0 = some (.inr (10, vp))) (p2 : gNth vp 0 = some (.ref 1)) (h1 : gNth M 1 = some (.inr (5, vs))) (h2 : gNth vs 1 = some (.int z)) (q2 : gNth vs 0 = some (.ref 2)) (hB : BC lb M) (hl : lb.length = 440) {n : Nat} (hn : z.toInt = (n : Int)) (hn2 : n ≤ 440) : ∀ (j inn : Nat) (k : Int32), inn + j = n → k.toInt = (inn : Int) → okB lb inn → ∃ r : Int32, Ev none e 83 37 [some (.ref 0), some (.int w), some (.int h), some (.int k)] [] M (some (.int r)) M 0 0 ∧ ((r = 1 ∧ okB lb n) ∨ (r = 0 ∧ ¬ okB lb n)) := by
  intro j
  induction j with
  | zero =>
    intro inn k hj hk hok
    have hin : inn = n := by omega
    subst hin
    exact ⟨1, tk_37 p1 p2 h1 h2 (by rw [if_pos (by rw [Int32.le_iff_toInt_le]; omega)]; exact tk_73), Or.inl ⟨rfl, hok⟩⟩
  | succ j ih =>
    intro inn k hj hk hok
    have ek : (k + 1).toInt = k.toInt + 1 := i32_p1 (by omega)
    obtain ⟨y, y1, y2⟩ := at_c (l := lb) hk (by omega)
    by_cases hy : (y &&& 7) ≤ 6
    · obtain ⟨r, r1, r2⟩ := ih (inn + 1) (k + 1) (by omega) (by omega) (fun m hm => by
        by_cases hmi : m < inn
        · exact hok m hmi
        · have hmi2 : m = inn := by omega
          subst hmi2
          exact ⟨y, y2, hy⟩)
      refine ⟨r, tk_37 p1 p2 h1 h2 ?_, r2⟩
      rw [if_neg (by rw [Int32.le_iff_toInt_le]; omega)]
      refine tk_48 p1 p2 h1 q2 hB y1 ?_
      rw [if_pos hy]
      exact tk_67 r1
    · refine ⟨0, tk_37 p1 p2 h1 h2 ?_, Or.inr ⟨rfl, fun q => ?_⟩⟩
      · rw [if_neg (by rw [Int32.le_iff_toInt_le]; omega)]
        refine tk_48 p1 p2 h1 q2 hB y1 ?_
        rw [if_neg hy]
        exact tk_65
      · obtain ⟨y', u1, u2⟩ := q inn (by omega)
        cases y2.symm.trans u1
        exact hy u2
theorem ev_tells {k0 : Option Value} (hV : INV M) (hz : LC z M) (hB : BC lb M) : ∃ r : Int32, Ev none (e + 1) 83 0 [some (.ref 0), some (.int w), some (.int h), k0] [] M (some (.int r)) M 0 0 ∧ ((r = 1 ∧ TPk w h z lb) ∨ (r = 0 ∧ ¬ TPk w h z lb)) := by
  obtain ⟨vp, p1, p2⟩ := INV.tape hV.1
  obtain ⟨z0, z1⟩ := hz.rng hV.1
  obtain ⟨vs, h1, h2⟩ := hz
  obtain ⟨vs', b, q1, q2, sb⟩ := hV.1.fref tp_1 tp_b.2.1
  cases h1.symm.trans q1
  have hb2 := sU_ok b 2 2 sb tp_u2.1
  subst hb2
  obtain ⟨l, r1, r2, _⟩ := hV.1.irow sb tp_b.2.2.2
  have hsl : l = lb := by cases hB.symm.trans r1; rfl
  subst hsl
  have o4 : (4 : Int32).toInt = 4 := rfl
  have o16 : (16 : Int32).toInt = 16 := rfl
  obtain ⟨y, a1, a2⟩ := ev_wi (e := e) (M := M) (x := w) (lo := 4) (hi := 16)
  rcases a2 with ⟨rfl, a2, a3⟩ | ⟨rfl, a2⟩
  rotate_left
  · exact ⟨0, tk_0 (Ev.call0 (fun n => rfl) a1 (tk_7 (by rw [if_pos rfl]; exact tk_33))), Or.inr ⟨rfl, fun q => by obtain ⟨⟨⟨q1, q2⟩, q3, q4⟩, _⟩ := q; exact a2 ⟨by omega, by omega⟩⟩⟩
  obtain ⟨y, b1, b2⟩ := ev_wi (e := e) (M := M) (x := h) (lo := 4) (hi := 16)
  rcases b2 with ⟨rfl, b2, b3⟩ | ⟨rfl, b2⟩
  rotate_left
  · exact ⟨0, tk_0 (Ev.call0 (fun n => rfl) a1 (tk_7 (by rw [if_neg (by decide)]; exact tk_10 (Ev.call0 (fun n => rfl) b1 (tk_17 (by rw [if_pos rfl]; exact tk_33)))))), Or.inr ⟨rfl, fun q => by obtain ⟨⟨⟨q1, q2⟩, q3, q4⟩, _⟩ := q; exact b2 ⟨by omega, by omega⟩⟩⟩
  by_cases hw : z = w * h
  rotate_left
  · exact ⟨0, tk_0 (Ev.call0 (fun n => rfl) a1 (tk_7 (by rw [if_neg (by decide)]; exact tk_10 (Ev.call0 (fun n => rfl) b1 (tk_17 (by rw [if_neg (by decide)]; exact tk_20 p1 p2 h1 h2 (by rw [if_neg hw]; exact tk_33))))))), Or.inr ⟨rfl, fun q => hw q.2.1⟩⟩
  obtain ⟨r, s1, s2⟩ := tk_loop (e := e + 1) (w := w) (h := h) p1 p2 h1 h2 q2 hB r2 (n := z.toInt.toNat) (by omega) (by omega) z.toInt.toNat 0 0 (by omega) rfl (fun k hk => absurd hk (Nat.not_lt_zero k))
  refine ⟨r, tk_0 (Ev.call0 (fun n => rfl) a1 (tk_7 (by rw [if_neg (by decide)]; exact tk_10 (Ev.call0 (fun n => rfl) b1 (tk_17 (by rw [if_neg (by decide)]; exact tk_20 p1 p2 h1 h2 (by rw [if_pos hw]; exact tk_35 s1))))))), ?_⟩
  rcases s2 with ⟨s2, s3⟩ | ⟨s2, s3⟩
  · exact Or.inl ⟨s2, ⟨⟨by omega, by omega⟩, by omega, by omega⟩, hw, s3⟩
  · exact Or.inr ⟨s2, fun q => s3 q.2.2⟩
end TEL
/-- where a method's only return, from some places on, answers 1 -/
noncomputable def roS (i : Instr) (pc : Nat) : List Nat := match i with
  | .goto o => [gT pc o]
  | .ifCond _ o => [gT pc o, pc + 3]
  | .if_icmp _ o => [gT pc o, pc + 3]
  | _ => [0]
theorem roS_V {i : Instr} {pc pc' : Nat} {st st' : List Value} (h : gJmp i pc st = some (pc', st')) : (roS i pc = [0]) ∨ pc' ∈ roS i pc := by
  cases i
  case goto o =>
    obtain ⟨-, h⟩ := cond_inv (show cond (gP pc o) (some (gT pc o, st)) none = some (pc', st') from h)
    cases h
    exact Or.inr List.mem_cons_self
  case ifCond op o =>
    right
    rcases st with _ | ⟨x, st⟩
    · cases h
    cases x
    case int x =>
      obtain ⟨-, h⟩ := cond_inv h
      cases h
      cases op <;> dsimp only <;> split <;> simp [roS]
    all_goals cases h
  case if_icmp op o =>
    right
    rcases st with _ | ⟨y, _ | ⟨x, st⟩⟩
    · cases h
    · cases y <;> cases h
    cases y
    case int y =>
      cases x
      case int x =>
        obtain ⟨-, h⟩ := cond_inv h
        cases h
        cases op <;> dsimp only <;> split <;> simp [roS]
      all_goals cases h
    all_goals (cases x <;> cases h)
  all_goals exact Or.inl rfl
noncomputable def isC1 (i : Instr) : Bool := match i with
  | .iconst n => decide (n = 1)
  | _ => false
noncomputable def memN (R : List Nat) (p : Nat) : Bool := R.any (fun q => Nat.beq q p)
theorem memN_V {R : List Nat} {p : Nat} (h : memN R p = true) : p ∈ R := by
  obtain ⟨q, h1, h2⟩ := List.any_eq_true.mp h
  rw [← Nat.eq_of_beq_eq_true h2]
  exact h1
/-- R: the places; pr: that of the return; pr - 1: the 1 is laid down -/
noncomputable def roB (tab : List (Nat × Nat × Instr)) (R : List Nat) (pr : Nat) : Bool := R.all (fun pc => match gLook tab pc with
  | none => true
  | some (kd, i) => match kd with
    | 0 => (isC1 i && Nat.beq (pc + gLen i) pr) || memN R (pc + gLen i)
    | 1 => memN R (pc + gLen i)
    | 2 => !(roS i pc).any (fun q => Nat.beq q 0) && (roS i pc).all (fun q => memN R q)
    | 3 => memN R (pc + gLen i)
    | 4 => memN R (pc + gLen i)
    | 5 => memN R (pc + gLen i)
    | 6 => false
    | _ => memN R (pc + 3))
theorem isC1_V {i : Instr} {st st' : List Value} (h : isC1 i = true) (hg : gAlu i st = some st') : st' = .int 1 :: st := by
  cases i
  case iconst n =>
    have hn := of_decide_eq_true h
    subst hn
    have hg : some (Value.int 1 :: st) = some st' := hg
    cases hg
    rfl
  all_goals cases h
theorem ro_V {sc : Sta} {me pr o np kf mx : Nat} {y : MethodName} {cc : ByteArray} {ret : Option FieldType} {tab : List (Nat × Nat × Instr)} {R : List Nat} (hrow : gNth mRs me = some (o, y, cc, mx, ret, np, kf, tab)) (hB : roB tab R pr = true) (hpr : gLook tab pr = some (6, .ireturn)) : ∀ (n d pc : Nat) (ls : Lo) (st : List Value) (M : Mem) (v : Option Value) (M' : Mem) (c s : Nat), go sc n d me pc ls st M = some (v, M', c, s) → (pc ∈ R ∨ (pc = pr ∧ ∃ r, st = .int 1 :: r)) → v = some (.int 1) := by
  intro n
  induction n with
  | zero => intro d pc ls st M v M' c s h _; cases h
  | succ n ih =>
    intro d pc ls st M v M' c s h hp
    rw [go_succ] at h
    unfold gStep at h
    rw [hrow] at h
    dsimp only at h
    rcases hp with hp | ⟨rfl, r, rfl⟩
    · have hb := List.all_eq_true.mp hB pc hp
      cases hl : gLook tab pc with
      | none =>
        rw [hl] at h
        cases h
      | some q =>
        obtain ⟨kd, i⟩ := q
        rw [hl] at h hb
        match kd, h, hb with
        | 0, h, hb =>
          have h : (match gAlu i st with
            | some st' => go sc n d me (pc + gLen i) ls st' M
            | none => none) = some (v, M', c, s) := h
          have hb : ((isC1 i && Nat.beq (pc + gLen i) pr) || memN R (pc + gLen i)) = true := hb
          split at h
          · rename_i st2 hg
            rw [Bool.or_eq_true] at hb
            rcases hb with hb | hb
            · obtain ⟨hb1, hb2⟩ := and_t hb
              exact ih _ _ _ _ _ _ _ _ _ h (Or.inr ⟨Nat.eq_of_beq_eq_true hb2, _, isC1_V hb1 hg⟩)
            · exact ih _ _ _ _ _ _ _ _ _ h (Or.inl (memN_V hb))
          · cases h
        | 1, h, hb =>
          have h : (match gLoc i ls st with
            | some (ls', st') => go sc n d me (pc + gLen i) ls' st' M
            | none => none) = some (v, M', c, s) := h
          split at h
          · exact ih _ _ _ _ _ _ _ _ _ h (Or.inl (memN_V hb))
          · cases h
        | 2, h, hb =>
          have h : (match gJmp i pc st with
            | some (pc', st') => go sc n d me pc' ls st' M
            | none => none) = some (v, M', c, s) := h
          have hb : (!(roS i pc).any (fun q => Nat.beq q 0) && (roS i pc).all (fun q => memN R q)) = true := hb
          split at h
          · rename_i pc2 st2 hg
            obtain ⟨b1, b2⟩ := and_t hb
            rcases roS_V hg with g | g
            · rw [g] at b1
              cases b1
            · exact ih _ _ _ _ _ _ _ _ _ h (Or.inl (memN_V (List.all_eq_true.mp b2 _ g)))
          · cases h
        | 3, h, hb =>
          have h : (match gGet i sc o (Nat.beq kf 2) st M with
            | some (st', M') => go sc n d me (pc + gLen i) ls st' M'
            | none => none) = some (v, M', c, s) := h
          split at h
          · exact ih _ _ _ _ _ _ _ _ _ h (Or.inl (memN_V hb))
          · cases h
        | 4, h, hb =>
          have h : (match gGet i sc o (Nat.beq kf 2) st M with
            | some (st', M') => go sc n d me (pc + gLen i) ls st' M'
            | none => none) = some (v, M', c, s) := h
          split at h
          · exact ih _ _ _ _ _ _ _ _ _ h (Or.inl (memN_V hb))
          · cases h
        | 5, h, hb =>
          have h : (match gNew i o st M with
            | some (st', M', c, s) => gAdd c s (go sc n d me (pc + gLen i) ls st' M')
            | none => none) = some (v, M', c, s) := h
          split at h
          · obtain ⟨c3, s3, g3, _⟩ := add_inv h
            exact ih _ _ _ _ _ _ _ _ _ g3 (Or.inl (memN_V hb))
          · cases h
        | 6, h, hb => cases (show false = true from hb)
        | kd + 7, h, hb =>
          have hb : memN R (pc + 3) = true := hb
          cases d with
          | zero =>
            have h : (none : Rs) = some (v, M', c, s) := h
            cases h
          | succ d =>
            have h : (match gCal i o st M with
              | none => none
              | some (.inl (st', M')) => go sc n (d + 1) me (pc + 3) ls st' M'
              | some (.inr (id, ls0, rest)) => gThen (go sc n d id 0 ls0 [] M) (fun v M' c s => gAdd c s (go sc n (d + 1) me (pc + 3) ls (v.toList ++ rest) M'))) = some (v, M', c, s) := h
            split at h
            · cases h
            · exact ih _ _ _ _ _ _ _ _ _ h (Or.inl (memN_V hb))
            · obtain ⟨v1, M1, c1, s1, _, g2⟩ := then_inv h
              obtain ⟨c3, s3, g3, _⟩ := add_inv g2
              exact ih _ _ _ _ _ _ _ _ _ g3 (Or.inl (memN_V hb))
    · rw [hpr] at h
      have h : (match gRet ret .ireturn (.int 1 :: r) with
        | some v => some (v, M, 0, 0)
        | none => none) = some (v, M', c, s) := h
      split at h
      rotate_left
      · cases h
      rename_i w hg
      cases h
      cases r with
      | cons _ _ =>
        cases ret with
        | none => cases hg
        | some t => cases t <;> cases hg
      | nil =>
        cases ret with
        | none => cases hg
        | some t =>
          cases t
          case int =>
            have hg : some (some (Value.int 1)) = some v := hg
            cases hg
            rfl
          case boolean =>
            obtain ⟨-, hg⟩ := cond_inv (show cond (fits .boolean (.int 1)) (some (some (Value.int 1))) none = some v from hg)
            cases hg
            rfl
          all_goals cases hg
theorem Ev.one {sc : Sta} {d me pc pr o np kf mx : Nat} {y : MethodName} {cc : ByteArray} {ret : Option FieldType} {tab : List (Nat × Nat × Instr)} {R : List Nat} {ls : Lo} {st : List Value} {M M' : Mem} {v : Option Value} {c s : Nat} (h : Ev sc d me pc ls st M v M' c s) (hrow : gNth mRs me = some (o, y, cc, mx, ret, np, kf, tab)) (hB : roB tab R pr = true) (hpr : gLook tab pr = some (6, .ireturn)) (hp : pc ∈ R) : v = some (.int 1) := by
  obtain ⟨n, h⟩ := h
  exact ro_V hrow hB hpr n d pc ls st M v M' c s h (Or.inl hp)
set_option maxRecDepth 100000 in
theorem mR_12 : (gNth mRs kX1_renew.1).map (fun q => q.2.2.2.1) = some 6 := by decide +kernel
theorem cal_tl {M : Mem} {vs : List Value} {w h : Int32} {rest : List Value} (hM : gNth M 0 = some (.inr (10, vs))) (hr : gRoom rest = true) : gCal (.invokevirtual 95) 10 (.int h :: .int w :: .ref 0 :: rest) M = some (.inr (83, [some (.ref 0), some (.int w), some (.int h), none], rest)) := by
  show @cond (Option ((List Value × Mem) ⊕ (Nat × Lo × List Value))) (true && gRecv M (.ref 0) 10 && gRoom rest && true) (some (.inr (83, [some (.ref 0), some (.int w), some (.int h), none], rest))) none = _
  rw [recv_c hM, hr]
  rfl
theorem cal_rn {M : Mem} {vs : List Value} {a b : Nat} {w h : Int32} {rest : List Value} (hM : gNth M a = some (.inr (1, vs))) (hr : gRoom rest = true) : gCal (.invokevirtual 99) 10 (.ref b :: .int h :: .int w :: .ref a :: rest) M = some (.inr (12, [some (.ref a), some (.int w), some (.int h), some (.ref b), none, none], rest)) := by
  show @cond (Option ((List Value × Mem) ⊕ (Nat × Lo × List Value))) (true && gRecv M (.ref a) 1 && gRoom rest && true) (some (.inr (12, [some (.ref a), some (.int w), some (.int h), some (.ref b), none, none], rest))) none = _
  rw [recv_c hM, hr]
  rfl
def mdPk : Md := kX1_renew.2.2.2.2.2.1 ++ [(5, 1)]
/-- park of the class: told or not -/
theorem ev_parkC {e : Nat} {M : Mem} {w h z : Int32} {lb : List Int32} (hV : INV M) (hz : LC z M) (hB : BC lb M) : ∃ (r : Int32) (M' : Mem), Ev none (e + 2) 82 0 [some (.ref 0), some (.int w), some (.int h), none] [] M (some (.int r)) M' 0 0 ∧ INV M' ∧ Frm sT mdPk M M' ∧ LC 0 M' ∧ ((r = 1 ∧ TPk w h z lb) ∨ (r = 0 ∧ ¬ TPk w h z lb)) := by
  obtain ⟨vp, p1, p2⟩ := INV.tape hV.1
  obtain ⟨r, a1, a2⟩ := ev_tells (e := e) (w := w) (h := h) (k0 := none) hV hz hB
  have z0 : (0 : Int32).toInt = 0 := rfl
  rcases a2 with ⟨rfl, a2⟩ | ⟨rfl, a2⟩
  · obtain ⟨vp', bl, u1, u2, u3⟩ := hV.1.fref sT_00 cl_land
    cases p1.symm.trans u1
    obtain ⟨va, _, v1, _⟩ := hV.1.fnum u3 kp_f.2.2
    obtain ⟨x, M1, h2, h3, h4, s, hs, hr, _⟩ := inv_f (d := e + 1) (ws := [.ref bl, .int w, .int h, .ref 1]) kX1_renew_ok (by decide +kernel) mR_12 (Nat.le_add_left 1 e) (Two.mk ⟨bl, rfl, u3⟩ (Two.mk ⟨w, rfl, a2.1.1.1, a2.1.1.2⟩ (Two.mk ⟨h, rfl, a2.1.2.1, a2.1.2.2⟩ (Two.mk rfl trivial)))) hV
    cases List.mem_singleton.mp hs
    have hv : x = none := by
      cases x with
      | none => rfl
      | some w => exact hr.elim
    subst hv
    obtain ⟨vq, q1, q2⟩ := INV.tape h3.1
    obtain ⟨vs, i1, _⟩ := hz.frm h4 (by decide)
    obtain ⟨t1, t2, t3, t4⟩ := LC.set (z := z) (w := 0) h3.1 i1 (by decide) (by decide)
    exact ⟨1, _, pk_0 (Ev.call0 (fun n => gs_7 rfl rfl (cal_tl p1 rfl)) a1 (pk_6 (by rw [if_neg (by decide)]; exact pk_11 p1 u2 p2 (Ev.call0 (fun n => gs_7 rfl rfl (cal_rn v1 rfl)) h2 (pk_241 q1 q2 i1 t4))))), h3.mv t1 t2 (by decide) (by decide) (by decide) (by decide), (h4.more (md' := mdPk) (fun q hq => List.mem_append_left _ hq)).trans (t2.more (md' := mdPk) (fun q hq => List.mem_append_right _ hq)), t3, Or.inl ⟨rfl, a2⟩⟩
  · obtain ⟨vs, i1, _⟩ := hz
    obtain ⟨t1, t2, t3, t4⟩ := LC.set (z := z) (w := 0) hV.1 i1 (by decide) (by decide)
    exact ⟨0, _, pk_0 (Ev.call0 (fun n => gs_7 rfl rfl (cal_tl p1 rfl)) a1 (pk_6 (by rw [if_pos rfl]; exact pk_240 p1 p2 i1 t4))), hV.mv t1 t2 (by decide) (by decide) (by decide) (by decide), t2.more (md' := mdPk) (fun q hq => List.mem_append_right _ hq), t3, Or.inr ⟨rfl, a2⟩⟩
