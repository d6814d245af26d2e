/-! THE REFERENCE'S holds: the loop -/
section RHO
variable {e t : Nat} {T : TS} {P P' : PK} {M M1 M' : Mem} {v : Option Value} {c d : Int32}
theorem i32_m1e {n : Int32} (h : -2147483647 ≤ n.toInt) : (n + Int32.ofInt (-1)).toInt = n.toInt - 1 := by
  have e : Int32.ofInt (-1) = -1 := rfl
  rw [e]
  exact i32_a1 h
theorem rhold_loop (hw : wh4 P) (hc : inC P c) (ht7 : t < 7) {x tx : Int32} (htx : tx.toInt = (t : Int)) {to : Nat} (h96 : to ≤ 96) : ∀ (cs : List Cdq) (M : Mem) (j : Nat) (st : List Bool) (sn kk : Int32) (c6 c7 : Option Value), RST T P M → (rI M 644 x).toInt = (to : Int) → (∀ a cd, cs[a]? = some cd → (T t).1.2.2[j + a]? = some cd) → kk.toInt = ((200 * t + j : Nat) : Int) → j + cs.length = to → okC cs st.length → st.length ≤ 32 → sn.toInt = (st.length : Int) → RTr M st → Ev none e 187 39 [some (.ref 633), some (.int x), some (.int c), some (.int tx), some (.int sn), some (.int kk), c6, c7] [] M v M' 0 0 → v = some (.int (bI ((evC (trP (T 0) P c) cs st).headD true))) ∧ SQ M' ∧ FZ noF tuW noO M M' := by
  have z0 : (0 : Int32).toInt = 0 := rfl
  have z1 : (1 : Int32).toInt = 1 := rfl
  have z8 : (8 : Int32).toInt = 8 := rfl
  have z200 : (200 : Int32).toInt = 200 := rfl
  have etx : (200 : Int32).toInt * tx.toInt = 200 * (t : Int) := by rw [z200, htx]
  have m200 : (200 * tx).toInt = 200 * (t : Int) := by rw [i32_mul (by omega) (by omega), etx]
  intro cs
  induction cs with
  | nil =>
    intro M j st sn kk c6 c7 hR hto _ hkk hlen hok hl hsn hT H
    have hlen : j + 0 = to := hlen
    have hok : st.length = 1 := hok
    obtain ⟨b, rfl⟩ := List.length_eq_one_iff.mp hok
    have hs : ((200 * tx) + (rI M 644 x)).toInt = 200 * (t : Int) + (to : Int) := by rw [i32_add (by omega) (by omega), m200, hto]
    rcases rho_39 hR.1 H with ⟨_, _, _, h1, h2⟩ | ⟨a1, _⟩
    · subst h2
      have : rI M' 649 0 = bI b := hT.top
      rw [this] at h1
      exact ⟨h1, hR.1, FZ.refl _⟩
    · exact absurd (Int32.le_iff_toInt_le.mpr (by omega)) a1
  | cons cd cs ih =>
    intro M j st sn kk c6 c7 hR hto hcs hkk hlen hok hl hsn hT H
    have hS := hR.1
    have hlen : j + (cs.length + 1) = to := hlen
    have hs : ((200 * tx) + (rI M 644 x)).toInt = 200 * (t : Int) + (to : Int) := by rw [i32_add (by omega) (by omega), m200, hto]
    have hcd : (T t).1.2.2[j]? = some cd := hcs 0 cd rfl
    have hk1 : (kk + 1).toInt = ((200 * t + (j + 1) : Nat) : Int) := by
      rw [i32_p1 (by omega)]
      omega
    have hcs2 : ∀ a cd, cs[a]? = some cd → (T t).1.2.2[j + 1 + a]? = some cd := fun a cd h => by
      rw [show j + 1 + a = j + (a + 1) from by omega]
      exact hcs (a + 1) cd h
    obtain ⟨p1, p2, p3⟩ := (hR.2.2.2 t ht7).1.1.2 j cd (by omega) hcd
    rw [← rI_n hkk] at p1 p2 p3
    have wr : ∀ (i : Nat) (y : Int32), SQ (wI M 649 i y) ∧ FZ noF tuW noO M (wI M 649 i y) ∧ RST T P (wI M 649 i y) ∧ (rI (wI M 649 i y) 644 x).toInt = (to : Int) := fun i y => by
      have hF : FZ noF tuW noO M (wI M 649 i y) := FZ.wI (W := tuW) rfl
      refine ⟨hS.ki, hF, tu_rst hR hS.ki hF, ?_⟩
      have : rI (wI M 649 i y) 644 x = rI M 644 x := by
        unfold rI
        exact rN_wI_ne (by omega)
      rw [this]
      exact hto
    rcases rho_39 hS H with ⟨a1, _⟩ | ⟨_, _, _, H⟩
    · have := Int32.le_iff_toInt_le.mp a1
      omega
    · rw [p1] at H
      by_cases c20 : cd.1 = 20
      · have hok : (if cd.1 = 20 then 1 ≤ st.length ∧ okC cs st.length else _) := hok
        rw [if_pos c20] at hok
        obtain ⟨o1, o2⟩ := hok
        match st, o1, o2, hl, hsn, hT with
        | b :: st, _, o2, hl, hsn, hT =>
          have hsn : sn.toInt = ((st.length + 1 : Nat) : Int) := hsn
          have hl : st.length + 1 ≤ 32 := hl
          have he : evC (trP (T 0) P c) (cd :: cs) (b :: st) = evC (trP (T 0) P c) cs ((!b) :: st) := by
            show evC (trP (T 0) P c) cs (if cd.1 = 20 then _ else _) = _
            rw [if_pos c20]
          rw [he]
          have hm : (sn - 1).toInt = (st.length : Int) := by rw [i32_m1 (by omega)]; omega
          have hv : rI M 649 (sn - 1) = bI b := by
            rw [rI_n hm]
            exact hT.top
          have go : ∀ y, y = bI (!b) → Ev none e 187 39 [some (.ref 633), some (.int x), some (.int c), some (.int tx), some (.int sn), some (.int (kk + 1)), some (.int cd.1), c7] [] (wI M 649 ((sn - 1).toNatClampNeg) (vp_nar .boolean y)) v M' 0 0 → v = some (.int (bI ((evC (trP (T 0) P c) cs ((!b) :: st)).headD true))) ∧ SQ M' ∧ FZ noF tuW noO M M' := fun y hy H => by
            rw [hy, nar_b1, cl_n hm] at H
            obtain ⟨w1, w2, w3, w4⟩ := wr st.length (bI (!b))
            obtain ⟨r1, r2, r3⟩ := ih _ (j + 1) ((!b) :: st) sn (kk + 1) _ _ w3 w4 hcs2 hk1 (by omega) o2 hl hsn (hT.pop.push hS.1 (by omega)) H
            exact ⟨r1, r2, w2.trans r3⟩
          rcases rho_65 hS H with ⟨_, a2, _, _, H⟩ | ⟨_, a2, _, _, H⟩ | ⟨a1, _⟩ | ⟨a1, _⟩ | ⟨a1, _⟩ | ⟨a1, _⟩ | ⟨a1, _⟩ | ⟨a1, _⟩ | ⟨a1, _⟩
          · rw [hv, bI_0] at a2
            exact go 1 (by rw [a2]; rfl) H
          · rw [hv, bI_0, Bool.not_eq_false] at a2
            exact go 0 (by rw [a2]; rfl) H
          all_goals exact absurd c20 a1
      · have h2122 : cd.1 = 21 ∨ cd.1 = 22 → v = some (.int (bI ((evC (trP (T 0) P c) (cd :: cs) st).headD true))) ∧ SQ M' ∧ FZ noF tuW noO M M' := fun h2 => by
          have hok : (if cd.1 = 20 then _ else if cd.1 = 21 ∨ cd.1 = 22 then 2 ≤ st.length ∧ okC cs (st.length - 1) else _) := hok
          rw [if_neg c20, if_pos h2] at hok
          obtain ⟨o1, o2⟩ := hok
          match st, o1, o2, hl, hsn, hT with
          | y :: b :: st, _, o2, hl, hsn, hT =>
            have hsn : sn.toInt = ((st.length + 2 : Nat) : Int) := hsn
            have hl : st.length + 2 ≤ 32 := hl
            have H2 : Ev none e 187 118 [some (.ref 633), some (.int x), some (.int c), some (.int tx), some (.int (sn + Int32.ofInt (-1))), some (.int kk), some (.int cd.1), c7] [] M v M' 0 0 := by
              rcases rho_65 hS H with ⟨a1, _⟩ | ⟨a1, _⟩ | ⟨_, _, H⟩ | ⟨_, _, _, H⟩ | ⟨_, a1, a2, _⟩ | ⟨_, a1, a2, _⟩ | ⟨_, a1, a2, _⟩ | ⟨_, a1, a2, _⟩ | ⟨_, a1, a2, _⟩
              · exact absurd a1 c20
              · exact absurd a1 c20
              · exact H
              · exact H
              all_goals exact (h2.elim a1 a2).elim
            obtain ⟨s1, es1⟩ : ∃ s1, s1 = sn + Int32.ofInt (-1) := ⟨_, rfl⟩
            have hs1 : s1.toInt = ((st.length + 1 : Nat) : Int) := by rw [es1, i32_m1e (by omega)]; omega
            rw [← es1] at H2
            have hm : (s1 - 1).toInt = (st.length : Int) := by rw [i32_m1 (by omega)]; omega
            have hv0 : rI M 649 (s1 - 1) = bI b := by
              rw [rI_n hm]
              exact hT.pop.top
            have hv1 : rI M 649 s1 = bI y := by
              rw [rI_n hs1]
              exact hT.top
            have go : ∀ (q : Bool) (z : Int32), z = bI q → evC (trP (T 0) P c) (cd :: cs) (y :: b :: st) = evC (trP (T 0) P c) cs (q :: st) → Ev none e 187 39 [some (.ref 633), some (.int x), some (.int c), some (.int tx), some (.int s1), some (.int (kk + 1)), some (.int cd.1), c7] [] (wI M 649 ((s1 - 1).toNatClampNeg) (vp_nar .boolean z)) v M' 0 0 → v = some (.int (bI ((evC (trP (T 0) P c) (cd :: cs) (y :: b :: st)).headD true))) ∧ SQ M' ∧ FZ noF tuW noO M M' := fun q z hz he H => by
              rw [hz, nar_b1, cl_n hm] at H
              rw [he]
              obtain ⟨w1, w2, w3, w4⟩ := wr st.length (bI q)
              obtain ⟨r1, r2, r3⟩ := ih _ (j + 1) (q :: st) s1 (kk + 1) _ _ w3 w4 hcs2 hk1 (by omega) o2 (by show st.length + 1 ≤ 32; omega) hs1 (hT.pop.pop.push hS.1 (by omega)) H
              exact ⟨r1, r2, w2.trans r3⟩
            have e21 : cd.1 = 21 → evC (trP (T 0) P c) (cd :: cs) (y :: b :: st) = evC (trP (T 0) P c) cs ((b && y) :: st) := fun h => by
              show evC (trP (T 0) P c) cs (if cd.1 = 20 then _ else if cd.1 = 21 then _ else _) = _
              rw [if_neg c20, if_pos h]
            have e22 : ¬ cd.1 = 21 → evC (trP (T 0) P c) (cd :: cs) (y :: b :: st) = evC (trP (T 0) P c) cs ((b || y) :: st) := fun h => by
              show evC (trP (T 0) P c) cs (if cd.1 = 20 then _ else if cd.1 = 21 then _ else if cd.1 = 22 then _ else _) = _
              rw [if_neg c20, if_neg h, if_pos (h2.resolve_left h)]
            rcases rho_118 hS H2 with ⟨a1, a2, _, _, H⟩ | ⟨a1, a2, a3, _, _, _, H⟩ | ⟨a1, a2, a3, _, _, _, H⟩ | ⟨a1, a2, a3, _, _, _, H⟩ | ⟨a1, a2, a3, _, _, _, H⟩ | ⟨a1, a2, _, _, H⟩
            · rw [hv0, bI_0] at a2
              exact go (b && y) 0 (by rw [a2]; rfl) (e21 a1) H
            · rw [hv1, bI_0] at a3
              exact go (b && y) 0 (by rw [a3, Bool.and_false]; rfl) (e21 a1) H
            · rw [hv0, bI_0, Bool.not_eq_false] at a2
              rw [hv1, bI_0, Bool.not_eq_false] at a3
              exact go (b && y) 1 (by rw [a2, a3]; rfl) (e21 a1) H
            · rw [hv0, bI_0] at a2
              rw [hv1, bI_0] at a3
              exact go (b || y) 0 (by rw [a2, a3]; rfl) (e22 a1) H
            · rw [hv0, bI_0] at a2
              rw [hv1, bI_0, Bool.not_eq_false] at a3
              exact go (b || y) 1 (by rw [a2, a3]; rfl) (e22 a1) H
            · rw [hv0, bI_0, Bool.not_eq_false] at a2
              exact go (b || y) 1 (by rw [a2]; rfl) (e22 a1) H
        by_cases c21 : cd.1 = 21
        · exact h2122 (Or.inl c21)
        · by_cases c22 : cd.1 = 22
          · exact h2122 (Or.inr c22)
          · clear h2122
            have hok : (if cd.1 = 20 then _ else if cd.1 = 21 ∨ cd.1 = 22 then _ else atC cd ∧ st.length < 32 ∧ okC cs (st.length + 1)) := hok
            rw [if_neg c20, if_neg (fun q => q.elim c21 c22)] at hok
            obtain ⟨o1, o2, o3⟩ := hok
            have he : evC (trP (T 0) P c) (cd :: cs) st = evC (trP (T 0) P c) cs (trP (T 0) P c cd :: st) := by
              show evC (trP (T 0) P c) cs (if cd.1 = 20 then _ else if cd.1 = 21 then _ else if cd.1 = 22 then _ else _) = _
              rw [if_neg c20, if_neg c21, if_neg c22]
            rw [he]
            have hs1 : (sn + 1).toInt = ((st.length + 1 : Nat) : Int) := by rw [i32_p1 (by omega)]; omega
            have go : ∀ (z : Int32) (c6 c7 : Option Value), z = bI (trP (T 0) P c cd) → Ev none e 187 39 [some (.ref 633), some (.int x), some (.int c), some (.int tx), some (.int (sn + 1)), some (.int (kk + 1)), c6, c7] [] (wI M 649 sn.toNatClampNeg (vp_nar .boolean z)) v M' 0 0 → v = some (.int (bI ((evC (trP (T 0) P c) cs (trP (T 0) P c cd :: st)).headD true))) ∧ SQ M' ∧ FZ noF tuW noO M M' := fun z c6 c7 hz H => by
              rw [hz, nar_b1, cl_n hsn] at H
              obtain ⟨w1, w2, w3, w4⟩ := wr st.length (bI (trP (T 0) P c cd))
              obtain ⟨r1, r2, r3⟩ := ih _ (j + 1) (trP (T 0) P c cd :: st) (sn + 1) (kk + 1) _ _ w3 w4 hcs2 hk1 (by omega) o3 (by show st.length + 1 ≤ 32; omega) hs1 (hT.push hS.1 (by omega)) H
              exact ⟨r1, r2, w2.trans r3⟩
            have cmp : ∀ vv : Int32, 8 ≤ cd.1 → trP (T 0) P c cd = cmpV vv cd.2.1 cd.2.2 → Ev none e 187 246 [some (.ref 633), some (.int x), some (.int c), some (.int tx), some (.int sn), some (.int kk), some (.int cd.1), some (.int vv)] [] M v M' 0 0 → v = some (.int (bI ((evC (trP (T 0) P c) cs (trP (T 0) P c cd :: st)).headD true))) ∧ SQ M' ∧ FZ noF tuW noO M M' := fun vv h8 htr H => by
              unfold cmpV at htr
              rcases rho_246 hS H with ⟨_, a1, a2, _, _, _, H⟩ | ⟨_, a1, a2, _, _, _, H⟩ | ⟨_, a1, a2, a3, _, _, _, _, H⟩ | ⟨_, a1, a2, a3, _, _, _, _, H⟩ | ⟨_, a1, a2, a3, _, _, _, _, H⟩ | ⟨_, a1, a2, a3, _, _, _, _, H⟩ | ⟨a1, _⟩
              · rw [p2] at a1
                rw [p3] at a2
                refine go 0 _ _ ?_ H
                rw [htr, if_pos a1, decide_eq_false (fun q => by rw [Int32.lt_iff_toInt_lt] at q; have := Int32.le_iff_toInt_le.mp a2; omega)]
                rfl
              · rw [p2] at a1
                rw [p3] at a2
                refine go 1 _ _ ?_ H
                rw [htr, if_pos a1, decide_eq_true (by rw [Int32.lt_iff_toInt_lt]; have : ¬ cd.2.2.toInt ≤ vv.toInt := fun q => a2 (Int32.le_iff_toInt_le.mpr q); omega)]
                rfl
              · rw [p2] at a1 a2
                rw [p3] at a3
                refine go 1 _ _ ?_ H
                rw [htr, if_neg a1, if_pos a2, decide_eq_true a3]
                rfl
              · rw [p2] at a1 a2
                rw [p3] at a3
                refine go 0 _ _ ?_ H
                rw [htr, if_neg a1, if_pos a2, decide_eq_false a3]
                rfl
              · rw [p2] at a1 a2
                rw [p3] at a3
                refine go 0 _ _ ?_ H
                rw [htr, if_neg a1, if_neg a2, decide_eq_false (fun q => by rw [Int32.lt_iff_toInt_lt] at q; have := Int32.le_iff_toInt_le.mp a3; omega)]
                rfl
              · rw [p2] at a1 a2
                rw [p3] at a3
                refine go 1 _ _ ?_ H
                rw [htr, if_neg a1, if_neg a2, decide_eq_true (by rw [Int32.lt_iff_toInt_lt]; have : ¬ vv.toInt ≤ cd.2.2.toInt := fun q => a3 (Int32.le_iff_toInt_le.mpr q); omega)]
                rfl
              · exact absurd h8 a1
            have trc : 8 ≤ cd.1 → trP (T 0) P c cd = cmpV (if cd.1 = 8 then cE P 3 c else if cd.1 = 9 then cE P 4 c else if cd.1 = 10 then cE P 2 c else cE P 5 c) cd.2.1 cd.2.2 := fun h8 => by
              have h8i := Int32.le_iff_toInt_le.mp h8
              have ne : ∀ k : Int32, k.toInt < 8 → ¬ cd.1 = k := fun k hk q => by rw [q] at h8i; omega
              unfold trP
              rw [if_neg (ne 0 (by decide)), if_neg (ne 1 (by decide)), if_neg (ne 2 (by decide)), if_neg (ne 3 (by decide)), if_neg (ne 4 (by decide)), if_neg (ne 5 (by decide)), if_neg (ne 6 (by decide)), if_neg (ne 7 (by decide))]
            rcases rho_65 hS H with ⟨a1, _⟩ | ⟨a1, _⟩ | ⟨_, a1, _⟩ | ⟨_, _, a1, _⟩ | ⟨_, _, _, a4, a5, H⟩ | ⟨_, _, _, a4, a5, a6, H⟩ | ⟨_, _, _, a4, a5, a6, a7, H⟩ | ⟨_, _, _, a4, a5, a6, a7, H⟩ | ⟨_, _, _, a4, H⟩
            · exact absurd a1 c20
            · exact absurd a1 c20
            · exact absurd a1 c21
            · exact absurd a1 c22
            · rw [r_cell hR hw hc (fn := 3) rfl (by decide)] at H
              exact cmp _ a4 (by rw [trc a4, if_pos a5]) H
            · rw [r_cell hR hw hc (fn := 4) rfl (by decide)] at H
              exact cmp _ a4 (by rw [trc a4, if_neg a5, if_pos a6]) H
            · rw [r_cell hR hw hc (fn := 2) rfl (by decide)] at H
              exact cmp _ a4 (by rw [trc a4, if_neg a5, if_neg a6, if_pos a7]) H
            · rw [r_cell hR hw hc (fn := 5) rfl (by decide)] at H
              exact cmp _ a4 (by rw [trc a4, if_neg a5, if_neg a6, if_neg a7]) H
            · rcases rho_246 hS H with ⟨a1, _⟩ | ⟨a1, _⟩ | ⟨a1, _⟩ | ⟨a1, _⟩ | ⟨a1, _⟩ | ⟨a1, _⟩ | ⟨_, e1, v1, M1, rfl, H1, H⟩
              · exact absurd a1 a4
              · exact absurd a1 a4
              · exact absurd a1 a4
              · exact absurd a1 a4
              · exact absurd a1 a4
              · exact absurd a1 a4
              · have h7 : cd.1.toInt ≤ 7 := by
                  have : ¬ (8 : Int32).toInt ≤ cd.1.toInt := fun q => a4 (Int32.le_iff_toInt_le.mpr q)
                  omega
                obtain ⟨rfl, rfl⟩ := ris_ok hR hw hc o1 h7 H1
                obtain ⟨_, H⟩ := rho_266 hS H
                exact go _ _ _ rfl H
theorem rhold_ok (hR : RST T P M) (hw : wh4 P) (hc : inC P c) (ht7 : t < 7) {x : Int32} {j : Nat} {l : Lnq} (hx : x.toInt = ((16 * t + j : Nat) : Int)) (hl : (T t).2[j]? = some l) (H : Ev none e 187 0 [some (.ref 633), some (.int x), some (.int c), none, none, none, none, none] [] M v M' 0 0) : v = some (.int (bI (hldP (T 0) P (T t) l c))) ∧ SQ M' ∧ FZ noF tuW noO M M' := by
  obtain ⟨⟨hq, hlw⟩, h96⟩ := hR.2.2.2 t ht7
  obtain ⟨_, _, _, k4, k5⟩ := hq.1.2.2 j l hl
  have hj16 : j < 16 := by
    have := (List.getElem?_eq_some_iff.mp hl).1
    have := hq.1.2.1
    omega
  rw [← rI_n hx] at k4 k5
  obtain ⟨_, w1, w2, w3⟩ := hlw l (List.mem_of_getElem? hl)
  have z16 : (16 : Int32).toInt = 16 := rfl
  have z200 : (200 : Int32).toInt = 200 := rfl
  have hxt : (x / 16).toInt = (t : Int) := by
    rw [i32_div (by decide), z16, hx, Int.tdiv_eq_ediv_of_nonneg (by omega)]
    omega
  unfold hldP
  rcases rho_0 hR.1 H with ⟨a1, _, _, h1, h2⟩ | ⟨a1, _, _, _, H⟩
  · subst h2
    have : l.2.2.2.1 = l.2.2.2.2 := by
      have := congrArg Int32.toInt a1
      omega
    rw [if_pos this]
    exact ⟨h1, hR.1, FZ.refl _⟩
  · have hne : ¬ l.2.2.2.1 = l.2.2.2.2 := fun q => a1 (Int32.toInt_inj.mp (by omega))
    rw [if_neg hne]
    have hok : okC (segC (T t) l) 0 := by
      rcases w3 with w3 | ⟨k, e1, e2⟩
      · exact absurd w3 hne
      · exact e2.ok (by omega)
    have hlen : (segC (T t) l).length = l.2.2.2.2 - l.2.2.2.1 := by
      unfold segC
      rw [List.length_take, List.length_drop]
      omega
    have et : (200 : Int32).toInt * (x / 16).toInt = 200 * (t : Int) := by rw [z200, hxt]
    have m200 : (200 * (x / 16)).toInt = 200 * (t : Int) := by rw [i32_mul (by omega) (by omega), et]
    refine rhold_loop hw hc ht7 hxt (to := l.2.2.2.2) (by omega) (segC (T t) l) M l.2.2.2.1 [] 0 _ none none hR k5 (fun a cd h => ?_) (by rw [i32_add (by omega) (by omega), m200, k4]; omega) (by omega) hok (by decide) rfl (fun j x hj => by cases hj) H
    unfold segC at h
    rw [List.getElem?_take] at h
    split at h
    · rw [List.getElem?_drop] at h
      exact h
    · cases h
end RHO
