/-! BY HAND: reading texts, the reference: one -/
set_option maxRecDepth 100000 in
theorem fB_25 : fldB 25 (-2147483648) 2147483647 = true := by decide +kernel
set_option maxRecDepth 100000 in
theorem fB_22 : fldB 22 (-2147483648) 2147483647 = true := by decide +kernel
section ONE
variable {ls0 : List Int32} {m e : Nat}
/-- how one ends -/
def OnQ (ls0 : List Int32) (m o : Nat) (M : Mem) (v : Option Value) (M' : Mem) : Prop := ∃ r : Int32, v = some (.int r) ∧ TM sT sG M' ∧ Frm sT mdT M M' ∧ ((r = 0 ∧ bel ls0 M') ∨ (r = 1 ∧ ∃ s' p' o' ls' lp', JJ ls0 m 1 M' s' p' o' ls' lp' ∧ o < o'))
theorem on_bad {M0 M : Mem} {me pc : Nat} {lo : Lo} {st : List Value} {o d : Nat} (hT : TM sT sG M) (hF : Frm sT mdT M0 M) (hb : bel ls0 M) (k : Int32) (h : ∀ M', Ev none e 163 0 [some (.ref 633), some (.int k)] [] M (some (.int 0)) M' 0 0 → Ev none d me pc lo st M (some (.int 0)) M' 0 0) : RF (OnQ ls0 m o M0) [] d me pc lo st M := by
  obtain ⟨M', h1, h2, h3⟩ := un_bad (e := e) (k := k) hT
  exact ⟨some (.int 0), M', h M' h1, 0, rfl, h2, hF.trans (h3.more (by decide)), Or.inl ⟨rfl, hb.frm h3 (by decide)⟩⟩
theorem on_last {M0 M : Mem} {z a : Int32} {x3 : Option Value} {s p o o0 : Nat} {ls lp : List Int32} (h : JJ ls0 m 1 M s p o ls lp) (hF : Frm sT mdT M0 M) (ho : o0 < o) : RF (OnQ ls0 m o0 M0) [] (e + 2) 180 197 [some (.ref 633), some (.int z), some (.int a), x3] [] M := by
  obtain ⟨_, ⟨S, P, O, ⟨vs, hM, _⟩, _⟩, _⟩ := id h
  obtain ⟨M', s', p', ls', q1, q2, q3, q4, q5, q6⟩ := ev_writeDown (e := e) (q := 3) p s M ls h
  exact ⟨some (.int 1), M', on_197 (Ev.call0 (fun n => gs_7 rfl rfl (cal_wd hM rfl)) q1 on_202), 1, rfl, q2.1, hF.trans (q3.more (by decide)), Or.inr ⟨rfl, s', p', o, ls', lp, q2, ho⟩⟩
theorem ev_one1 {M0 : Mem} {o0 : Nat} : ∀ (k s p o : Nat) (M : Mem) (ls lp : List Int32) (x1 x2 x3 : Option Value), JJ ls0 m 0 M s p o ls lp → Frm sT mdT M0 M → 40 ≤ o + k → o0 ≤ o → RF (OnQ ls0 m o0 M0) [] (e + 2) 180 0 [some (.ref 633), x1, x2, x3] [] M := by
  intro k
  have head : ∀ (s p o : Nat) (M : Mem) (ls lp : List Int32) (x1 x2 x3 : Option Value), JJ ls0 m 0 M s p o ls lp → Frm sT mdT M0 M → (∀ z a : Int32, a.toInt ≤ 11 → o ≤ 39 → RF (OnQ ls0 m o0 M0) [] (e + 2) 180 60 [some (.ref 633), some (.int z), some (.int a), x3] [] M) → RF (OnQ ls0 m o0 M0) [] (e + 2) 180 0 [some (.ref 633), x1, x2, x3] [] M := by
    intro s p o M ls lp x1 x2 x3 h hF hc
    obtain ⟨n1, n2, n3, ll, pl⟩ := h.num
    obtain ⟨hT, ⟨S, P, O, ⟨vs, hM, v19, v20, v21, _⟩, h1, h2, h3⟩, _⟩ := id h
    obtain ⟨z, w1⟩ := un_word (e := e + 1) (k := 7237492) hT
    obtain ⟨a, a1, a11⟩ := un_atom (e := e + 1) hT
    refine RF.pre (fun v M' hz => on_0 (Ev.call0 (fun n => gs_7 rfl rfl (cal_ww hM rfl)) w1 (on_7 (Ev.call0 (fun n => gs_7 rfl rfl (cal_at hM rfl)) a1 (on_12 hz))))) ?_
    have g36 : RF (OnQ ls0 m o0 M0) [] (e + 2) 180 36 [some (.ref 633), some (.int z), some (.int a), x3] [] M := by
      refine RF.pre (fun v M' hz => on_36 hM v21 hz) ?_
      by_cases h40 : O = 40
      · rw [if_pos h40]
        exact on_bad (e := e + 1) h.1 hF h.bel 4 (fun M' hb => on_54 (Ev.call0 (fun n => gs_7 rfl rfl (cal_bd hM rfl)) hb on_59))
      rw [if_neg h40]
      have o39 : o ≤ 39 := by
        rcases Nat.lt_or_ge o 40 with h9 | h9
        · omega
        · exact absurd (Int32.toInt_inj.mp (show O.toInt = (40 : Int32).toInt from by show O.toInt = 40; omega)) h40
      obtain ⟨y, y1⟩ := un_open (e := e + 1) hT
      refine RF.pre (fun v M' hz => on_45 (Ev.call0 (fun n => gs_7 rfl rfl (cal_op hM rfl)) y1 (on_49 hz))) ?_
      by_cases h10 : y = 10
      · rw [if_pos h10]
        exact on_bad (e := e + 1) h.1 hF h.bel 4 (fun M' hb => on_54 (Ev.call0 (fun n => gs_7 rfl rfl (cal_bd hM rfl)) hb on_59))
      rw [if_neg h10]
      exact hc z a a11 o39
    by_cases hz : z = 0
    · rw [if_pos hz]
      refine RF.pre (fun v M' hz => on_17 hz) ?_
      by_cases ha : 0 ≤ a
      · rw [if_pos ha]; exact g36
      rw [if_neg ha]
      obtain ⟨y, y1⟩ := un_sign (e := e + 1) (k := 40) hT
      refine RF.pre (fun v M' hz => on_21 (Ev.call0 (fun n => gs_7 rfl rfl (cal_ss hM rfl)) y1 (on_27 hz))) ?_
      by_cases hy : y = 0
      · rw [if_pos hy]
        exact on_bad (e := e + 1) h.1 hF h.bel 1 (fun M' hb => on_30 (Ev.call0 (fun n => gs_7 rfl rfl (cal_bd hM rfl)) hb on_35))
      · rw [if_neg hy]; exact g36
    · rw [if_neg hz]; exact g36
  induction k with
  | zero =>
    intro s p o M ls lp x1 x2 x3 h hF hk ho
    exact head s p o M ls lp x1 x2 x3 h hF (fun z a _ h9 => absurd hk (by omega))
  | succ k ih =>
    intro s p o M ls lp x1 x2 x3 h hF hk ho
    refine head s p o M ls lp x1 x2 x3 h hF (fun z a a11 o39 => ?_)
    obtain ⟨n1, n2, n3, ll, pl⟩ := h.num
    obtain ⟨hT, ⟨S, P, O, hc, h1, h2, h3⟩, h4, h5, ⟨dd, r1, r2, r3⟩, h7, h8⟩ := id h
    obtain ⟨vs, hM, v19, v20, v21, r645, r648⟩ := id hc
    have eO : (O + 1).toInt = O.toInt + 1 := i32_p1 (by omega)
    obtain ⟨T1, c1⟩ := hc.O hT hM (y := O + 1) (by omega) (by omega)
    obtain ⟨_, hlen⟩ := fset hT (and_t fBT).2 hM (y := O + 1) (by omega) (by omega)
    obtain ⟨M1, e1⟩ : ∃ M1, M1 = gPut M 633 (.inr (11, gPut vs 21 (.int (O + 1)))) := ⟨_, rfl⟩
    rw [← e1] at T1 c1
    have F1 : Frm sT mdT M M1 := by rw [e1]; exact Frm.fld hM (by decide)
    refine RF.pre (fun v M' hz => on_60 hM v21 hlen (by rw [← e1]; exact hz)) ?_
    have J1 : JJ ls0 m 0 M1 s p (o + 1) ls lp := ⟨T1, ⟨S, P, O + 1, c1, h1, h2, by omega⟩, by omega, h5, ⟨dd, r1, r2, by omega⟩, h7, h8⟩
    obtain ⟨vs1, hM1, _⟩ := id c1
    obtain ⟨M2, x1', T2, F2⟩ := un_next (e := e) T1
    have J2 := J1.frm T2 F2 (by decide)
    have c2 := c1.frm F2 (by decide)
    obtain ⟨vs2, hM2, v19b, v20b, v21b, r645b, r648b⟩ := id c2
    have F02 : Frm sT mdT M0 M2 := (hF.trans F1).trans (F2.more (by decide))
    refine RF.pre (fun v M' hz => on_70 (Ev.call0 (fun n => gs_7 rfl rfl (cal_nx hM1 rfl)) x1' (on_74 hz))) ?_
    by_cases ha : 0 ≤ a
    · rw [if_pos ha]
      have a0 : 0 ≤ a.toInt := Int32.le_iff_toInt_le.mp ha
      refine RF.pre (fun v M' hz => on_111 hz) ?_
      have na : a ≠ 20 ∧ a ≠ 21 ∧ a ≠ 22 := by
        refine ⟨?_, ?_, ?_⟩ <;> intro h <;> rw [h] at a11 <;> exact absurd a11 (by decide)
      by_cases h8a : 8 ≤ a
      · rw [if_pos h8a]
        obtain ⟨y, y1⟩ := un_sign (e := e + 1) (k := 60) T2
        have g160 : RF (OnQ ls0 m o0 M0) [] (e + 2) 180 160 [some (.ref 633), some (.int z), some (.int a), x3] [] M2 := by
          obtain ⟨vs9, sg, hM9, _, g25, _⟩ := T2.fint fB_25
          cases hM2.symm.trans hM9
          obtain ⟨M3, x3', T3, F3⟩ := un_next (e := e) T2
          have J3 := J2.frm T3 F3 (by decide)
          have c3 := c2.frm F3 (by decide)
          obtain ⟨vs3, hM3, _⟩ := id c3
          have F03 := F02.trans (F3.more (by decide) : Frm sT mdT M2 M3)
          refine RF.pre (fun v M' hz => on_160 hM2 g25 (Ev.call0 (fun n => gs_7 rfl rfl (cal_nx hM2 rfl)) x3' hz)) ?_
          obtain ⟨vs9, tk, hM9, _, g22, _⟩ := T3.fint fB_22
          cases hM3.symm.trans hM9
          refine RF.pre (fun v M' hz => on_169 hM3 g22 hz) ?_
          by_cases htk : tk = 2
          · rw [if_pos htk]
            obtain ⟨vs9, nb, hM9, _, g25b, _⟩ := T3.fint fB_25
            cases hM3.symm.trans hM9
            obtain ⟨M4, w4, T4, F4, c4⟩ := ev_write (e := e + 1) (a := a) (b := sg) (n := nb) T3 c3 (by omega)
            have es : S.toInt.toNat = s := by omega
            rw [es] at c4
            have J4 := J3.atom na.1 na.2.1 na.2.2 ⟨dd, r1, by omega, by omega⟩ (by omega) T4 c4 (by rw [i32_p1 (by omega)]; omega) h2 (by omega)
            obtain ⟨vs4, hM4, _⟩ := id c4
            obtain ⟨M5, x5, T5, F5⟩ := un_next (e := e) T4
            have J5 := J4.frm T5 F5 (by decide)
            refine RF.pre (fun v M' hz => on_183 hM3 g25b (Ev.call0 (fun n => gs_7 rfl rfl (cal_wr hM3 rfl)) w4 (on_193 (Ev.call0 (fun n => gs_7 rfl rfl (cal_nx hM4 rfl)) x5 hz)))) ?_
            exact on_last J5 ((F03.trans (F4.more (by decide) : Frm sT mdT M3 M4)).trans (F5.more (by decide))) (by omega)
          · rw [if_neg htk]
            exact on_bad (e := e + 1) T3 F03 J3.bel 1 (fun M' hb => on_177 (Ev.call0 (fun n => gs_7 rfl rfl (cal_bd hM3 rfl)) hb on_182))
        refine RF.pre (fun v M' hz => on_127 (Ev.call0 (fun n => gs_7 rfl rfl (cal_ss hM2 rfl)) y1 (on_133 hz))) ?_
        by_cases hy : y = 0
        · rw [if_pos hy]
          obtain ⟨y2, y3⟩ := un_sign (e := e + 1) (k := 61) T2
          refine RF.pre (fun v M' hz => on_136 (Ev.call0 (fun n => gs_7 rfl rfl (cal_ss hM2 rfl)) y3 (on_142 hz))) ?_
          by_cases hy2 : y2 = 0
          · rw [if_pos hy2]
            obtain ⟨y4, y5⟩ := un_sign (e := e + 1) (k := 62) T2
            refine RF.pre (fun v M' hz => on_145 (Ev.call0 (fun n => gs_7 rfl rfl (cal_ss hM2 rfl)) y5 (on_151 hz))) ?_
            by_cases hy4 : y4 = 0
            · rw [if_pos hy4]
              exact on_bad (e := e + 1) T2 F02 J2.bel 1 (fun M' hb => on_154 (Ev.call0 (fun n => gs_7 rfl rfl (cal_bd hM2 rfl)) hb on_159))
            · rw [if_neg hy4]; exact g160
          · rw [if_neg hy2]; exact g160
        · rw [if_neg hy]; exact g160
      · rw [if_neg h8a]
        obtain ⟨M4, w4, T4, F4, c4⟩ := ev_write (e := e + 1) (a := a) (b := 0) (n := 0) T2 c2 (by omega)
        have es : S.toInt.toNat = s := by omega
        rw [es] at c4
        have J4 := J2.atom na.1 na.2.1 na.2.2 ⟨dd, r1, by omega, by omega⟩ (by omega) T4 c4 (by rw [i32_p1 (by omega)]; omega) h2 (by omega)
        refine RF.pre (fun v M' hz => on_117 (Ev.call0 (fun n => gs_7 rfl rfl (cal_wr hM2 rfl)) w4 (on_124 hz))) ?_
        exact on_last J4 (F02.trans (F4.more (by decide))) (by omega)
    · rw [if_neg ha]
      obtain ⟨vs9, hM9, hv⟩ := T2.mfld
      cases hM2.symm.trans hM9
      have h18 := hv _ _ _ (and_t mfT).2 sUT.2.2.2
      obtain ⟨yp, yp1, yp2⟩ := at_c (l := lp) (j := P) (kn := p) h2 (by omega)
      have eP : (P + 1).toInt = P.toInt + 1 := i32_p1 (by omega)
      have fin : ∀ w : Int32, w = 20 ∨ w = 23 → RF (OnQ ls0 m o0 M0) [] (e + 2) 180 98 [some (.ref 633), some (.int z), some (.int a), x3] [] (gPut M2 648 (.inl (1, .inl (gPut lp p w)))) := by
        intro w hw
        have T3 := any_put T2 sT_648 r648b pl (by decide +kernel) p w
        obtain ⟨M3, e3⟩ : ∃ M3, M3 = gPut M2 648 (.inl (1, .inl (gPut lp p w))) := ⟨_, rfl⟩
        rw [← e3] at T3 ⊢
        have F3 : Frm sT mdT M2 M3 := by rw [e3]; exact Frm.row r648b sT_648 (by decide)
        have n3 : ∀ c, c ≠ 648 → gNth M3 c = gNth M2 c := fun c hc => by rw [e3, nth_put, if_neg (fun q => hc q.1)]
        have hM3 : gNth M3 633 = some (.inr (11, vs2)) := by rw [n3 633 (by decide)]; exact hM2
        have c3 : Cst M3 S P (O + 1) ls (gPut lp p w) := ⟨vs2, hM3, v19b, v20b, v21b, by rw [n3 645 (by decide)]; exact r645b, by rw [e3, nth_put, if_pos ⟨rfl, gNth_lt _ _ _ r648b⟩]⟩
        obtain ⟨T4, c4⟩ := c3.P T3 hM3 (y := P + 1) (by omega) (by omega)
        obtain ⟨_, hlen3⟩ := fset T3 (and_t (and_t fBT).1).2 hM3 (y := P + 1) (by omega) (by omega)
        refine RF.pre (fun v M' hz => on_98 hM3 v20b hlen3 hz) ?_
        have J4 := J2.push (c := 0) (w := w) (by rcases hw with h | h; exact Or.inl ⟨h, rfl⟩; exact Or.inr (Or.inl ⟨h, rfl⟩)) (by omega) T4 c4 h1 (by omega) (by omega)
        exact ih s (p + 1) (o + 1) _ ls _ _ _ _ J4 ((F02.trans F3).trans (Frm.fld hM3 (by decide))) (by omega) (by omega)
      refine RF.pre (fun v M' hz => on_78 hM2 h18 v20b hz) ?_
      by_cases hz : z = 0
      · rw [if_pos hz]
        refine RF.pre (fun v M' hz => on_95 r648b yp1 hz) ?_
        rw [cl_n h2]
        exact fin 23 (Or.inr rfl)
      · rw [if_neg hz]
        refine RF.pre (fun v M' hz => on_90 r648b yp1 hz) ?_
        rw [cl_n h2]
        exact fin 20 (Or.inl rfl)
end ONE
