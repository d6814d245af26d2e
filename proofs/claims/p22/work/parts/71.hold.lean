/-! BY HAND: the reference's holds, put together -/
theorem at_nn {α : Type} {l : List α} {j : Int32} {kn : Nat} (h : j.toInt = (kn : Int)) : gAt l j = gNth l kn := by
  obtain ⟨h1, h2⟩ := clp_of (x := j) (a := 0) (b := j.toInt) ⟨by omega, Int.le_refl _⟩ (Int.le_refl _)
  have h3 : j.toNatClampNeg = kn := by omega
  unfold gAt
  rw [h1, h3]
  rfl
theorem i32_p1 {n : Int32} (h : n.toInt ≤ 2147483646) : (n + 1).toInt = n.toInt + 1 := by
  have o : (1 : Int32).toInt = 1 := rfl
  have := i32_lt n
  rw [i32_add (by omega) (by omega), o]
theorem i32_m1 {n : Int32} (h : -2147483647 ≤ n.toInt) : (n - 1).toInt = n.toInt - 1 := by
  have o : (1 : Int32).toInt = 1 := rfl
  have := i32_lt n
  rw [i32_sub (by omega) (by omega), o]
theorem i32_a1 {n : Int32} (h : -2147483647 ≤ n.toInt) : (n + -1).toInt = n.toInt - 1 := by
  have o : (-1 : Int32).toInt = -1 := rfl
  have := i32_lt n
  rw [i32_add (by omega) (by omega), o]
  rfl
set_option maxRecDepth 100000 in
theorem sT_649 : gNth sT 649 = some 77 := by decide +kernel
set_option maxRecDepth 100000 in
theorem sT_646 : gNth sT 646 = some 74 := by decide +kernel
set_option maxRecDepth 100000 in
theorem sT_647 : gNth sT 647 = some 75 := by decide +kernel
set_option maxRecDepth 100000 in
theorem rw_77 : rwB 77 3 60 0 1 = true := by decide +kernel
set_option maxRecDepth 100000 in
theorem rw_74 : rwB 74 1 1600 (-2147483648) 2147483647 = true := by decide +kernel
set_option maxRecDepth 100000 in
theorem rw_75 : rwB 75 1 1600 (-2147483648) 2147483647 = true := by decide +kernel
set_option maxRecDepth 100000 in
theorem rw_71 : rwB 71 1 128 0 200 = true := by decide +kernel
set_option maxRecDepth 100000 in
theorem rw_72 : rwB 72 1 128 0 200 = true := by decide +kernel
set_option maxRecDepth 100000 in
theorem mf_h : (mfB 13 71 && mfB 14 72 && mfB 15 73 && mfB 16 74 && mfB 17 75 && mfB 33 77) = true := by decide +kernel
set_option maxRecDepth 100000 in
theorem sU_h : gNth sU 71 = some (some 643) ∧ gNth sU 72 = some (some 644) ∧ gNth sU 73 = some (some 645) ∧ gNth sU 74 = some (some 646) ∧ gNth sU 75 = some (some 647) ∧ gNth sU 77 = some (some 649) := by refine ⟨?_, ?_, ?_, ?_, ?_, ?_⟩ <;> decide +kernel
theorem TM.hol {M : Mem} (hT : TM sT sG M) : ∃ vs tr sg nm, gNth M 633 = some (.inr (11, vs)) ∧ gNth vs 13 = some (.ref 643) ∧ gNth vs 14 = some (.ref 644) ∧ gNth vs 15 = some (.ref 645) ∧ gNth vs 16 = some (.ref 646) ∧ gNth vs 17 = some (.ref 647) ∧ gNth vs 33 = some (.ref 649) ∧ gNth M 649 = some (.inl (3, .inl tr)) ∧ tr.length = 60 ∧ (∀ j x, gNth tr j = some x → 0 ≤ x.toInt ∧ x.toInt ≤ 1) ∧ gNth M 646 = some (.inl (1, .inl sg)) ∧ sg.length = 1600 ∧ gNth M 647 = some (.inl (1, .inl nm)) ∧ nm.length = 1600 := by
  obtain ⟨vs, hM, hv⟩ := hT.mfld
  obtain ⟨h, a6⟩ := and_t mf_h
  obtain ⟨h, a5⟩ := and_t h
  obtain ⟨h, a4⟩ := and_t h
  obtain ⟨h, a3⟩ := and_t h
  obtain ⟨a1, a2⟩ := and_t h
  obtain ⟨u1, u2, u3, u4, u5, u6⟩ := sU_h
  obtain ⟨tr, t1, t2, t3⟩ := hT.mrow sT_649 rw_77
  obtain ⟨sg, s1, s2, _⟩ := hT.mrow sT_646 rw_74
  obtain ⟨nm, n1, n2, _⟩ := hT.mrow sT_647 rw_75
  exact ⟨vs, tr, sg, nm, hM, hv _ _ _ a1 u1, hv _ _ _ a2 u2, hv _ _ _ a3 u3, hv _ _ _ a4 u4, hv _ _ _ a5 u5, hv _ _ _ a6 u6, t1, t2, t3, s1, s2, n1, n2⟩
set_option maxRecDepth 100000 in
theorem hol_put {M : Mem} {tr : List Int32} (hT : TM sT sG M) (htr : gNth M 649 = some (.inl (3, .inl tr))) (tl : tr.length = 60) (tx : ∀ j x, gNth tr j = some x → 0 ≤ x.toInt ∧ x.toInt ≤ 1) (z : Int32) (j : Nat) : TM sT sG (gPut M 649 (.inl (3, .inl (gPut tr j (vp_nar .boolean z))))) ∧ Frm sT [(1077, 0)] M (gPut M 649 (.inl (3, .inl (gPut tr j (vp_nar .boolean z))))) ∧ gNth (gPut M 649 (.inl (3, .inl (gPut tr j (vp_nar .boolean z))))) 644 = gNth M 644 ∧ gNth (gPut M 649 (.inl (3, .inl (gPut tr j (vp_nar .boolean z))))) 645 = gNth M 645 := by
  refine ⟨hT.putrow (n := 60) (lo := 0) (hi := 1) sT_649 (by decide +kernel) (by rw [put_len]; exact tl) (fun i y hy => ?_), Frm.row htr sT_649 (List.mem_singleton.mpr rfl), ?_, ?_⟩
  · rw [nth_put] at hy
    split at hy
    · cases hy
      exact nar_z z
    · exact tx i y hy
  · rw [nth_put, if_neg (fun q => absurd q.1 (by decide))]
  · rw [nth_put, if_neg (fun q => absurd q.1 (by decide))]
theorem hol_loop {e : Nat} {x c t tt : Int32} {lt ls : List Int32} (hc : 0 ≤ c.toInt ∧ c.toInt ≤ 255) (htt : gAt lt x = some tt) (hE : (200 * t + tt).toInt ≤ 1600) : ∀ (m kn : Nat) (M : Mem) (n k : Int32) (a b : Option Value), TM sT sG M → gNth M 644 = some (.inl (1, .inl lt)) → gNth M 645 = some (.inl (1, .inl ls)) → k.toInt = (kn : Int) → k.toInt + (m : Int) = (200 * t + tt).toInt → 0 ≤ n.toInt → n.toInt ≤ 60 → okS m ls kn n.toInt → ∃ (r : Int32) (M' : Mem), Ev none (e + 4) 187 39 [some (.ref 633), some (.int x), some (.int c), some (.int t), some (.int n), some (.int k), a, b] [] M (some (.int r)) M' 0 0 ∧ TM sT sG M' ∧ Frm sT [(1077, 0)] M M' ∧ 0 ≤ r.toInt ∧ r.toInt ≤ 1 := by
  intro m
  induction m with
  | zero =>
    intro kn M n k a b hT hto hst hk hm hn0 hn1 hok
    obtain ⟨vs, tr, sg, nm, hM, h13, h14, h15, h16, h17, h33, htr, tl, tx, _, _, _, _⟩ := hT.hol
    obtain ⟨y, hy, hy2, _⟩ := at_of (x := 0) tl (by decide) (by decide)
    obtain ⟨y0, y1⟩ := tx _ _ hy2
    refine ⟨y, M, hol_39 hM h14 hto htt ?_, hT, Frm.refl M, y0, y1⟩
    rw [if_pos (by rw [Int32.le_iff_toInt_le]; omega)]
    refine hol_360 hM h33 htr hy ?_
    rcases Int.lt_or_le 0 y.toInt with h | h
    · exact Or.inr (Int32.toInt_inj.mp (show y.toInt = 1 by omega))
    · exact Or.inl (Int32.toInt_inj.mp (show y.toInt = 0 by omega))
  | succ m ih =>
    intro kn M n k a b hT hto hst hk hm hn0 hn1 hok
    obtain ⟨vs, tr, sg, nm, hM, h13, h14, h15, h16, h17, h33, htr, tl, tx, hsg, sl, hnm, nl⟩ := hT.hol
    obtain ⟨w, hw, hcs⟩ := hok
    have hwk : gAt ls k = some w := by rw [at_nn hk]; exact hw
    have hm : k.toInt + ((m : Int) + 1) = (200 * t + tt).toInt := hm
    have e1 : (k + 1).toInt = k.toInt + 1 := i32_p1 (by omega)
    have hk1 : (k + 1).toInt = ((kn + 1 : Nat) : Int) := by omega
    have hm1 : (k + 1).toInt + (m : Int) = (200 * t + tt).toInt := by omega
    have hle : ¬ 200 * t + tt ≤ k := by rw [Int32.le_iff_toInt_le]; omega
    rcases hcs with ⟨rfl, g1, hok⟩ | ⟨g0, g1, g2, hok⟩ | ⟨g0, g1, g2, g3, hok⟩
    · obtain ⟨n1, en⟩ : ∃ n1, n1 = n - 1 := ⟨_, rfl⟩
      have e2 : n1.toInt = n.toInt - 1 := by rw [en]; exact i32_m1 (by omega)
      obtain ⟨y, hy, _⟩ := at_of (x := n1) tl (by omega) (by omega)
      obtain ⟨p1, p2, p3, p4⟩ := hol_put hT htr tl tx (if y = 0 then 1 else 0) n1.toNatClampNeg
      obtain ⟨r, M', q1, q2, q3, q4⟩ := ih (kn + 1) _ n (k + 1) (some (.int 20)) b p1 (p3.trans hto) (p4.trans hst) hk1 hm1 hn0 hn1 hok
      refine ⟨r, M', hol_39 hM h14 hto htt ?_, q2, p2.trans q3, q4⟩
      rw [if_neg hle]
      refine hol_56 hM h15 hst hwk ?_
      rw [if_pos rfl]
      rw [en] at hy q1
      exact hol_72 hM h33 htr hy (hol_s97 htr hy (hol_354 q1))
    · obtain ⟨n1, en⟩ : ∃ n1, n1 = n + -1 := ⟨_, rfl⟩
      have e2 : n1.toInt = n.toInt - 1 := by rw [en]; exact i32_a1 (by omega)
      obtain ⟨n2, en2⟩ : ∃ n2, n2 = n1 - 1 := ⟨_, rfl⟩
      have e3 : n2.toInt = n1.toInt - 1 := by rw [en2]; exact i32_m1 (by omega)
      obtain ⟨y, hy, _⟩ := at_of (x := n2) tl (by omega) (by omega)
      obtain ⟨y2, hy2, _⟩ := at_of (x := n1) tl (by omega) (by omega)
      have hok1 : okS m ls (kn + 1) n1.toInt := by rw [e2]; exact hok
      by_cases h21 : w = 21
      · obtain ⟨p1, p2, p3, p4⟩ := hol_put hT htr tl tx (if y = 0 then 0 else if y2 = 0 then 0 else 1) n2.toNatClampNeg
        obtain ⟨r, M', q1, q2, q3, q4⟩ := ih (kn + 1) _ n1 (k + 1) (some (.int w)) b p1 (p3.trans hto) (p4.trans hst) hk1 hm1 (by omega) (by omega) hok1
        refine ⟨r, M', hol_39 hM h14 hto htt ?_, q2, p2.trans q3, q4⟩
        rw [if_neg hle]
        refine hol_56 hM h15 hst hwk ?_
        rw [if_neg g0]
        refine hol_101 g1 (fun _ => hol_115 hM h33 htr ?_)
        rw [if_pos h21, ← en]
        rw [en2] at hy q1
        exact hol_133 hM h33 htr hy hy2 (hol_s190 htr hy (hol_354 q1))
      · obtain ⟨p1, p2, p3, p4⟩ := hol_put hT htr tl tx (if y = 0 then if y2 = 0 then 0 else 1 else 1) n2.toNatClampNeg
        obtain ⟨r, M', q1, q2, q3, q4⟩ := ih (kn + 1) _ n1 (k + 1) (some (.int w)) b p1 (p3.trans hto) (p4.trans hst) hk1 hm1 (by omega) (by omega) hok1
        refine ⟨r, M', hol_39 hM h14 hto htt ?_, q2, p2.trans q3, q4⟩
        rw [if_neg hle]
        refine hol_56 hM h15 hst hwk ?_
        rw [if_neg g0]
        refine hol_101 g1 (fun _ => hol_115 hM h33 htr ?_)
        rw [if_neg h21, ← en]
        rw [en2] at hy q1
        exact hol_163 hM h33 htr hy hy2 (hol_s190 htr hy (hol_354 q1))
    · obtain ⟨n1, en⟩ : ∃ n1, n1 = n + 1 := ⟨_, rfl⟩
      have e2 : n1.toInt = n.toInt + 1 := by rw [en]; exact i32_p1 (by omega)
      obtain ⟨y, hy, _⟩ := at_of (x := n) tl (by omega) (by omega)
      obtain ⟨sv, hsv, _⟩ := at_of (x := k) sl (by omega) (by omega)
      obtain ⟨nv, hnv, _⟩ := at_of (x := k) nl (by omega) (by omega)
      obtain ⟨r1, f1⟩ := hol_194 (x := x) (t := t) (n := n) (k := k) (w := w) (b := b) (e := e) hM hT hc
      obtain ⟨r2, f2⟩ := hol_244 (x := x) (t := t) (n := n) (k := k) (w := w) (b := b) (e := e) (u := r1) hM h33 h16 h17 hsg hnm hsv hnv hT hc
      obtain ⟨p1, p2, p3, p4⟩ := hol_put hT htr tl tx r2 n.toNatClampNeg
      obtain ⟨r, M', q1, q2, q3, q4⟩ := ih (kn + 1) _ n1 (k + 1) (some (.int w)) (some (.int r1)) p1 (p3.trans hto) (p4.trans hst) hk1 hm1 (by omega) (by omega) (by rw [e2]; exact hok)
      refine ⟨r, M', hol_39 hM h14 hto htt ?_, q2, p2.trans q3, q4⟩
      rw [if_neg hle]
      refine hol_56 hM h15 hst hwk ?_
      rw [if_neg g0]
      rw [en] at q1
      exact hol_101e g1 g2 (f1 (f2 (hol_s350 htr hy (hol_354 q1))))
