/-! BY HAND, the class: sweep, put together -/
set_option maxRecDepth 100000 in
theorem sT_104 : gNth sT 104 = some 22 := by decide +kernel
set_option maxRecDepth 100000 in
theorem lyW : (fdB 22 7 7 8 && fdB 8 1 14 19 && fiB 8 1 15 0 60 && rrB 19 6 60 21 && fiB 21 8 0 (-1) 255) = true := by decide +kernel
theorem cge_put {M : Mem} {r t b : Nat} {x y : AC} (hr : gNth M r = some (.inl (t, x))) (h : cge M b) : cge (gPut M r (.inl (t, y))) b := by
  obtain ⟨us, z, h1, h2⟩ := h
  refine ⟨us, z, ?_, h2⟩
  rw [nth_put, if_neg (fun q => by rw [← q.1, h1] at hr; cases hr)]
  exact h1
theorem obj_put {M : Mem} {r t b c : Nat} {x y : AC} {us : List Value} (hr : gNth M r = some (.inl (t, x))) (h1 : gNth M b = some (.inr (c, us))) : gNth (gPut M r (.inl (t, y))) b = some (.inr (c, us)) := by
  rw [nth_put, if_neg (fun q => by rw [← q.1, h1] at hr; cases hr)]
  exact h1
section SWP
variable {M0 : Mem} {e ld r nn : Nat} {vw vl : List Value} {l0 : List (Option Nat)} {n : Int32}
theorem sw_loop (hld : gNth sT ld = some 8) (hr : gNth sT r = some 19) (f7 : gNth vw 7 = some (.ref ld)) (f14 : gNth vl 14 = some (.ref r)) (f15 : gNth vl 15 = some (.int n)) (hn : n.toInt = (nn : Int)) (n60 : nn ≤ 60) : ∀ (j inn sn : Nat) (i s : Int32) (M : Mem) (l : List (Option Nat)) (x3 : Option Value), TM sT sG M → Frm sT [(1, 15), (1019, 0)] M0 M → gNth M 104 = some (.inr (7, vw)) → gNth M ld = some (.inr (1, vl)) → gNth M r = some (.inl (6, .inr (.inr l))) → unl l → (∀ b, (∃ k, gNth l k = some (some b)) ↔ ∃ k, gNth l0 k = some (some b)) → sn ≤ inn → i.toInt = (inn : Int) → s.toInt = (sn : Int) → nn = inn + j → (∀ k, k < sn → ∃ b, gNth l k = some (some b) ∧ cge M b) → ∃ MF lF sF, ∃ zF : Int32, Ev none e 61 4 [some (.ref 104), some (.int s), some (.int i), x3] [] M none MF 0 0 ∧ TM sT sG MF ∧ Frm sT [(1, 15), (1019, 0)] M0 MF ∧ gNth MF r = some (.inl (6, .inr (.inr lF))) ∧ unl lF ∧ (∀ b, (∃ k, gNth lF k = some (some b)) ↔ ∃ k, gNth l0 k = some (some b)) ∧ gNth MF ld = some (.inr (1, gPut vl 15 (.int zF))) ∧ zF.toInt = ((sF : Nat) : Int) ∧ sF ≤ nn ∧ (∀ k, k < sF → ∃ b, gNth lF k = some (some b) ∧ cge MF b) ∧ ∀ a, a ≠ ld → a ≠ r → gNth MF a = gNth M a := by
  intro j
  obtain ⟨q, y5⟩ := and_t lyW
  obtain ⟨q, y4⟩ := and_t q
  obtain ⟨q, y3⟩ := and_t q
  induction j with
  | zero =>
    intro inn sn i s M l x3 hT hF hw hl hrow hu hm hsi hi hs hj hk
    obtain ⟨vl2, n2, g1, g2, g3, _, _, g4⟩ := hT.fnum hld y3
    cases hl.symm.trans g1
    refine ⟨_, l, sn, s, sw_4 hw f7 hl f15 (by rw [if_pos (by rw [Int32.le_iff_toInt_le]; omega)]; exact sw_70 hw f7 hl g3), g4 s (by omega) (by omega), hF.trans (Frm.fld hl (by decide)), ?_, hu, hm, by rw [nth_put, if_pos ⟨rfl, gNth_lt _ _ _ hl⟩], hs, by omega, fun k hks => ?_, fun a h1 h2 => by rw [nth_put, if_neg (fun q => h1 q.1)]⟩
    · rw [nth_put, if_neg (fun q => by rw [← q.1, hrow] at hl; cases hl)]
      exact hrow
    · obtain ⟨b, b1, us, z, c1, c2⟩ := hk k hks
      refine ⟨b, b1, us, z, ?_, c2⟩
      rw [nth_put, if_neg (fun q => by rw [← q.1, c1] at hl; cases hl)]
      exact c1
  | succ j ih =>
    intro inn sn i s M l x3 hT hF hw hl hrow hu hm hsi hi hs hj hk
    obtain ⟨l2, r1, r2, r3, r4⟩ := hT.rref hr y4
    cases hrow.symm.trans r1
    obtain ⟨xo, o1, o2⟩ := at_c (l := l) hi (by omega)
    obtain ⟨o, rfl, ho⟩ := r3 _ _ o2
    obtain ⟨vo, z, p1, p2, _, z1, z2, _⟩ := hT.fnum ho y5
    have ei : (i + 1).toInt = i.toInt + 1 := i32_p1 (by omega)
    have hlt : ¬ n ≤ i := by rw [Int32.le_iff_toInt_le]; omega
    by_cases hz : z = -1
    · obtain ⟨MF, lF, sF, zF, q1, q2⟩ := ih (inn + 1) sn (i + 1) s M l (some (.ref o)) hT hF hw hl hrow hu hm (by omega) (by omega) hs (by omega) hk
      exact ⟨MF, lF, sF, zF, sw_4 hw f7 hl f15 (by rw [if_neg hlt]; exact sw_15 hw f7 hl f14 hrow o1 p1 p2 (by rw [if_pos hz]; exact sw_64 q1)), q2⟩
    · have zge : 0 ≤ z.toInt := by
        rcases Int.lt_or_le z.toInt 0 with h | h
        · exact absurd (Int32.toInt_inj.mp (show z.toInt = (-1 : Int32).toInt from by show z.toInt = -1; omega)) hz
        · exact h
      obtain ⟨xa, a1, a2⟩ := at_c (l := l) hs (by omega)
      obtain ⟨a, rfl, ha⟩ := r3 _ _ a2
      obtain ⟨va, za, pa, _⟩ := hT.fnum ha y5
      have es : (s + 1).toInt = s.toInt + 1 := i32_p1 (by omega)
      obtain ⟨M1, e1⟩ : ∃ M1, M1 = gPut M r (.inl (6, .inr (.inr (gPut l inn (some a))))) := ⟨_, rfl⟩
      have T1 : TM sT sG M1 := by rw [e1]; exact r4 inn a ha
      have F1 : Frm sT [(1, 15), (1019, 0)] M M1 := by rw [e1]; exact Frm.row hrow hr (by decide)
      have hw1 : gNth M1 104 = some (.inr (7, vw)) := by rw [e1]; exact obj_put hrow hw
      have hl1 : gNth M1 ld = some (.inr (1, vl)) := by rw [e1]; exact obj_put hrow hl
      have ho1 : gNth M1 o = some (.inr (8, vo)) := by rw [e1]; exact obj_put hrow p1
      have hrow1 : gNth M1 r = some (.inl (6, .inr (.inr (gPut l inn (some a))))) := by rw [e1, nth_put, if_pos ⟨rfl, gNth_lt _ _ _ hrow⟩]
      obtain ⟨l3, s1, s2, s3, s4⟩ := T1.rref hr y4
      cases hrow1.symm.trans s1
      obtain ⟨xb, c1, c2⟩ := at_c (l := gPut l inn (some a)) hs (by rw [put_len]; omega)
      obtain ⟨b, rfl, _⟩ := s3 _ _ c2
      obtain ⟨M2, e2⟩ : ∃ M2, M2 = gPut M1 r (.inl (6, .inr (.inr (swp l inn sn a o)))) := ⟨_, rfl⟩
      have T2 : TM sT sG M2 := by rw [e2]; exact s4 sn o ho
      have F2 : Frm sT [(1, 15), (1019, 0)] M1 M2 := by rw [e2]; exact Frm.row hrow1 hr (by decide)
      obtain ⟨MF, lF, sF, zF, q1, q2⟩ := ih (inn + 1) (sn + 1) (i + 1) (s + 1) M2 (swp l inn sn a o) (some (.ref o)) T2 ((hF.trans F1).trans F2) (by rw [e2]; exact obj_put hrow1 hw1) (by rw [e2]; exact obj_put hrow1 hl1) (by rw [e2, nth_put, if_pos ⟨rfl, gNth_lt _ _ _ hrow1⟩]) (swp_unl hu o2 a2) (fun b => (swp_mem o2 a2).trans (hm b)) (by omega) (by omega) (by omega) (by omega) (fun k hks => by
        by_cases hk2 : k = sn
        · refine ⟨o, by rw [swp_at o2 a2, if_pos hk2], ?_⟩
          rw [e2]
          refine cge_put hrow1 ?_
          rw [e1]
          exact cge_put hrow ⟨vo, z, p1, p2, zge⟩
        · obtain ⟨b, b1, b2⟩ := hk k (by omega)
          refine ⟨b, by rw [swp_at o2 a2, if_neg hk2, if_neg (by omega)]; exact b1, ?_⟩
          rw [e2]
          refine cge_put hrow1 ?_
          rw [e1]
          exact cge_put hrow b2)
      obtain ⟨q3, q4, q5, q6, q7, q8, q9, q10, q11, q12⟩ := q2
      refine ⟨MF, lF, sF, zF, sw_4 hw f7 hl f15 ?_, q3, q4, q5, q6, q7, q8, q9, q10, q11, fun a h1 h2 => by rw [q12 a h1 h2, e2, nth_put, if_neg (fun q => h2 q.1), e1, nth_put, if_neg (fun q => h2 q.1)]⟩
      rw [if_neg hlt]
      refine sw_15 hw f7 hl f14 hrow o1 p1 p2 ?_
      rw [if_neg hz]
      refine sw_33 hw f7 hl f14 hrow a1 pa o1 ?_
      rw [cl_n hi, ← e1]
      refine sw_51 hw1 f7 hl1 f14 hrow1 ho1 c1 ?_
      rw [cl_n hs]
      have e3 : gPut M1 r (.inl (6, .inr (.inr (gPut (gPut l inn (some a)) sn (some o))))) = M2 := by rw [e2]; rfl
      rw [e3]
      exact q1
end SWP
