/-! THE CASE turns, of both sides -/
noncomputable def fwR (ls : List Lnq) : Nat → Nat → Option Nat
  | 0, _ => none
  | r + 1, k => match ls[k]? with
    | none => none
    | some l => if l.1 = 5 then (if l.2.1 = 6 then some k else fwR ls r (k + 1)) else fwR ls r (k + 1)
/-- the first line that weighs what it must -/
noncomputable def fwK (ls : List Lnq) : Option Nat := fwR ls ls.length 0
def turN (h w t : Int32) : Prop := ¬ inX h 0 5 ∨ ¬ inX w 1 4 ∨ ¬ inX t 1 100
noncomputable def turA (T : TS) (P : PK) (h w t m : Int32) : Int32 := match fwK (T (h.toInt.toNat + 1)).2 with
  | none => -1
  | some i => turL T (h.toInt.toNat + 1) i t.toInt.toNat w.toInt.toNat m P 10 0
section TURN
variable {e B L i j n tn wn hn : Nat} {T T' : TS} {P P' P0 Q : PK} {PI : Nat → PK} {M M0 M1 M' : Mem} {v : Option Value} {x y k d h w t m : Int32} {q : TQ} {l : Lnq} {ls : List Lnq} {tx : Nat}
theorem fwR_is : ∀ (r k : Nat), fwR ls r k = some j → ∃ l, ls[j]? = some l ∧ l.1 = 5 := by
  intro r
  induction r with
  | zero => intro k h; cases h
  | succ r ih =>
    intro k h
    unfold fwR at h
    cases hk : ls[k]? with
    | none => rw [hk] at h; cases h
    | some l =>
      rw [hk] at h
      dsimp only at h
      by_cases h1 : l.1 = 5
      · rw [if_pos h1] at h
        by_cases h2 : l.2.1 = 6
        · rw [if_pos h2] at h
          cases h
          exact ⟨l, hk, h1⟩
        · rw [if_neg h2] at h
          exact ih (k + 1) h
      · rw [if_neg h1] at h
        exact ih (k + 1) h
theorem lnN_at (hj : q.2[j]? = some l) : (lnN q i x).2[j]? = some (if i = j then (l.1, l.2.1, x, l.2.2.2.1, l.2.2.2.2) else l) := by
  unfold lnN
  dsimp only
  rw [List.getElem?_modify, hj]
  by_cases h : i = j
  · rw [if_pos h]
    simp [h]
  · rw [if_neg h]
    simp [h]
theorem lnN_len : (lnN q i x).2.length = q.2.length := by
  unfold lnN
  exact List.length_modify _ _ _
theorem lnN_of (hj : (lnN q i x).2[j]? = some l) : ∃ l0, q.2[j]? = some l0 ∧ l = if i = j then (l0.1, l0.2.1, x, l0.2.2.2.1, l0.2.2.2.2) else l0 := by
  cases h0 : q.2[j]? with
  | none =>
    have h1 : (lnN q i x).2.length ≤ j := by rw [lnN_len]; exact List.getElem?_eq_none_iff.mp h0
    rw [List.getElem?_eq_none_iff.mpr h1] at hj
    cases hj
  | some l0 =>
    rw [lnN_at h0] at hj
    exact ⟨l0, rfl, (Option.some.inj hj).symm⟩
theorem tv_mod {k d : Int32} : ∀ (ls : List Lnq) (i : Nat), (∀ l, ls[i]? = some l → l.1 ≠ k) → tvS (ls.modify i (fun l => (l.1, l.2.1, x, l.2.2.2.1, l.2.2.2.2))) k d = tvS ls k d := by
  intro ls
  induction ls with
  | nil => intro i _; cases i <;> rfl
  | cons a ls ih =>
    intro i h
    unfold tvS
    cases i with
    | zero =>
      have ha : a.1 ≠ k := h a rfl
      show (match (((a.1, a.2.1, x, a.2.2.2.1, a.2.2.2.2) :: ls) : List Lnq).find? (fun l => decide (l.1 = k)) with
        | some l => l.2.2.1
        | none => d) = _
      rw [List.find?_cons_of_neg (by simpa using ha), List.find?_cons_of_neg (by simpa using ha)]
      rfl
    | succ i =>
      show (match ((a :: ls.modify i (fun l => (l.1, l.2.1, x, l.2.2.2.1, l.2.2.2.2))) : List Lnq).find? (fun l => decide (l.1 = k)) with
        | some l => l.2.2.1
        | none => d) = _
      by_cases ha : a.1 = k
      · rw [List.find?_cons_of_pos (by simpa using ha), List.find?_cons_of_pos (by simpa using ha)]
      · rw [List.find?_cons_of_neg (by simpa using ha), List.find?_cons_of_neg (by simpa using ha)]
        have q := ih i (fun l hl => h l hl)
        unfold tvS at q
        exact q
theorem lnN_tv {k d : Int32} (hi : q.2[i]? = some l) (h5 : l.1 = 5) (hk : k ≠ 5) : tvS (lnN q i x).2 k d = tvS q.2 k d := tv_mod q.2 i (fun l2 h2 => by
  rw [hi] at h2
  cases h2
  exact fun r => hk (r.symm.trans h5))
theorem lnN_lw (h : LW q) (hi : q.2[i]? = some l) (h5 : l.1 = 5) (h0 : 0 ≤ x.toInt) (h9 : x.toInt ≤ 99) : LW (lnN q i x) := by
  intro a ha
  obtain ⟨j, hj⟩ := List.mem_iff_getElem?.mp ha
  obtain ⟨l0, e0, e1⟩ := lnN_of hj
  obtain ⟨b1, b2, b3, b4⟩ := h l0 (List.mem_of_getElem? e0)
  rw [e1]
  by_cases hij : i = j
  · rw [if_pos hij]
    subst hij
    rw [hi] at e0
    cases e0
    obtain ⟨c1, c2, c3, c4, c5⟩ := b1
    refine ⟨⟨h0, by show x.toInt ≤ 999; omega, fun q5 => ⟨h9, (c3 q5).2⟩, fun q2 => ?_, fun q7 => ?_⟩, b2, b3, b4⟩
    · have q2 : l.1 = 2 := q2
      rw [h5] at q2
      cases q2
    · have q7 : l.1 = 7 := q7
      rw [h5] at q7
      cases q7
  · rw [if_neg hij]
    exact ⟨b1, b2, b3, b4⟩
theorem lnN_2 : lnN (lnN q i x) i y = lnN q i y := by
  have e : (lnN (lnN q i x) i y).2 = (lnN q i y).2 := by
    apply List.ext_getElem?
    intro j
    cases h0 : q.2[j]? with
    | none =>
      have h1 := List.getElem?_eq_none_iff.mp h0
      rw [List.getElem?_eq_none_iff.mpr (by rw [lnN_len, lnN_len]; exact h1), List.getElem?_eq_none_iff.mpr (by rw [lnN_len]; exact h1)]
    | some l =>
      rw [lnN_at h0, lnN_at (lnN_at h0)]
      by_cases hij : i = j
      · rw [if_pos hij, if_pos hij, if_pos hij]
      · rw [if_neg hij, if_neg hij, if_neg hij]
  exact Prod.ext rfl e
theorem lnN_self (hi : q.2[i]? = some l) : lnN q i l.2.2.1 = q := by
  have e : (lnN q i l.2.2.1).2 = q.2 := by
    apply List.ext_getElem?
    intro j
    cases h0 : q.2[j]? with
    | none => exact List.getElem?_eq_none_iff.mpr (by rw [lnN_len]; exact List.getElem?_eq_none_iff.mp h0)
    | some l0 =>
      rw [lnN_at h0]
      by_cases hij : i = j
      · rw [if_pos hij]
        subst hij
        rw [hi] at h0
        cases h0
        rfl
      · rw [if_neg hij]
  exact Prod.ext rfl e
theorem setT_h : setT T n i x n = lnN (T n) i x := if_pos rfl
theorem setT_o (h : j ≠ n) : setT T n i x j = T j := if_neg h
theorem setT_2 : setT (setT T n i x) n i y = setT T n i y := by
  funext j
  by_cases h : j = n
  · rw [h, setT_h, setT_h, setT_h, lnN_2]
  · rw [setT_o h, setT_o h, setT_o h]
theorem setT_self (hi : (T n).2[i]? = some l) : setT T n i l.2.2.1 = T := by
  funext j
  by_cases h : j = n
  · rw [h, setT_h, lnN_self hi]
  · rw [setT_o h]
/-! the class's -/
theorem TXT.num (h : TXT M tx q) (hS : SH M) (ht : gNth sT tx = some 28) (hi : q.2[i]? = some l) (h5 : l.1 = 5) : TXT (wI M (tx + 3) i x) tx (lnN q i x) := by
  obtain ⟨⟨a1, a2, a3⟩, a4, a5, a6, a7, a8⟩ := h
  have hF : FZ noF (fun a => a = tx + 3) noO M (wI M (tx + 3) i x) := FZ.wI rfl
  have hi16 : i < 16 := by
    have := (List.getElem?_eq_some_iff.mp hi).1
    omega
  have len : (zrw M (tx + 3)).length = 16 := (hS.row (fx_g2 ht) qw_31).2
  refine ⟨⟨by rw [fI_wI, lnN_len]; exact a1, by rw [lnN_len]; exact a2, fun j b hj => ?_⟩, a4.fz hF (fun q => q) (fun k k1 k2 q => by omega), ?_, ?_, ?_, ?_⟩
  · obtain ⟨l0, e0, e1⟩ := lnN_of hj
    obtain ⟨b1, b2, b3, b4, b5⟩ := a3 j l0 e0
    rw [rN_wI_ne (by omega), rN_wI_ne (by omega), rN_wI_ne (a := tx + 3) (b := tx + 4) (by omega), rN_wI_ne (a := tx + 3) (b := tx + 5) (by omega)]
    rw [e1]
    by_cases hij : i = j
    · rw [if_pos hij, ← hij, rN_wI_eq (by omega)]
      rw [← hij] at b1 b2 b4 b5
      exact ⟨b1, b2, rfl, b4, b5⟩
    · rw [if_neg hij, rN_wI_ne (by omega)]
      exact ⟨b1, b2, b3, b4, b5⟩
  · rw [fI_wI, lnN_tv hi h5 (by decide)]; exact a5
  · rw [fI_wI, lnN_tv hi h5 (by decide)]; exact a6
  · rw [fI_wI, lnN_tv hi h5 (by decide)]; exact a7
  · rw [fI_wI, lnN_tv hi h5 (by decide)]; exact a8
theorem CST.num (h : CST T P PI M) (hd : TXd M) (hh : hn < 6) (ht : oN M 109 hn = tx) (hi : (T (hn + 1)).2[i]? = some l) (h5 : l.1 = 5) (h0 : 0 ≤ x.toInt) (h9 : x.toInt ≤ 99) : CST (setT T (hn + 1) i x) P PI (wI M (tx + 3) i x) ∧ TXd (wI M (tx + 3) i x) := by
  have hg : gNth sT tx = some 28 := ht ▸ hab_t h.1.1 hh
  obtain ⟨⟨c1, c2⟩, c3⟩ := h.2.2.1
  have hF : FZ noF (fun a => a = tx + 3) noO M (wI M (tx + 3) i x) := FZ.wI rfl
  have on : ∀ j, oN (wI M (tx + 3) i x) 109 j = oN M 109 j := fun j => hF.on (fun q => q)
  have e2 : fR (wI M (tx + 3) i x) 104 2 = fR M 104 2 := fR_wI
  have ofar : ∀ t2 q, TXT M t2 q → gNth sT t2 = some 28 → t2 ≠ tx → TXT (wI M (tx + 3) i x) t2 q := fun t2 q hT2 hg2 hne => by
    have hf := tx_far hg2 hg hne
    exact hT2.fz hF (fun _ q => q) (fun k k1 k8 q => by omega)
  refine ⟨h.txt h.1.ki hF hg (fun _ _ q => q.elim) (fun a q => Or.inr (by omega)) (fun _ q => q.elim) ⟨⟨?_, ?_⟩, fun j hj => ?_⟩, hd.same e2 fR_wI on⟩
  · rw [e2, setT_o (by omega)]
    refine ofar _ _ c1 (law_t h.1.1) (fun q => ?_)
    have := hd 0 (hn + 1) (by decide) (by omega) (by
      show fR M 104 2 = txr M (hn + 1)
      unfold txr
      rw [if_neg (by omega), if_neg (by omega), q]
      exact ht.symm)
    omega
  · rw [setT_o (by omega)]; exact c2
  · rw [on]
    by_cases hj2 : j = hn
    · subst hj2
      rw [ht, setT_h]
      obtain ⟨d1, d2⟩ := c3 j hj
      rw [ht] at d1
      exact ⟨d1.num h.1.1 hg hi h5, lnN_lw d2 hi h5 h0 h9⟩
    · rw [setT_o (by omega)]
      refine ⟨ofar _ _ (c3 j hj).1 (hab_t h.1.1 hj) (fun q => ?_), (c3 j hj).2⟩
      have := hd (j + 1) (hn + 1) (by omega) (by omega) (by
        unfold txr
        rw [if_neg (by omega), if_neg (by omega), if_neg (by omega), if_neg (by omega)]
        exact q.trans ht.symm)
      omega
theorem TXd.tri (h : TXd M) (hF : FZ triF triW triO M M') : TXd M' ∧ ∀ j, oN M' 109 j = oN M 109 j := by
  have on : ∀ j, oN M' 109 j = oN M 109 j := fun j => hF.on (by unfold triO; decide)
  exact ⟨h.same (hF.fr (by unfold triF; omega)) (hF.fr (by unfold triF; omega)) on, on⟩
theorem fwl_l (hS : SQ M) (ht : gNth sT tx = some 28) (hT : TXT M tx q) : ∀ (r k : Nat) (z : Int32), z.toInt = (k : Int) → k + r = q.2.length → Ev none e 52 2 [some (.ref tx), some (.int z)] [] M v M' 0 0 → M' = M ∧ ((fwR q.2 r k = none ∧ v = some (.int (-1))) ∨ ∃ i, fwR q.2 r k = some i ∧ ∃ y : Int32, v = some (.int y) ∧ y.toInt = (i : Int)) := by
  obtain ⟨⟨a1, a2, a3⟩, _⟩ := hT
  intro r
  induction r with
  | zero =>
    intro k z hz hk H
    rcases fwl_2 hS ht H with ⟨_, r1, r2⟩ | ⟨b1, _⟩ | ⟨b1, _⟩ | ⟨b1, _⟩
    · exact ⟨r2, Or.inl ⟨rfl, r1⟩⟩
    all_goals exact absurd (Int32.le_iff_toInt_le.mpr (by omega)) b1
  | succ r ih =>
    intro k z hz hk H
    obtain ⟨l, hl⟩ : ∃ l, q.2[k]? = some l := ⟨_, List.getElem?_eq_getElem (by omega)⟩
    obtain ⟨b1, b2, _⟩ := a3 k l hl
    have e1 : rI M (tx + 1) z = l.1 := (rI_n hz).trans b1
    have e2 : rI M (tx + 2) z = l.2.1 := (rI_n hz).trans b2
    have z1 : (z + 1).toInt = ((k + 1 : Nat) : Int) := by rw [i32_p1 (by omega)]; omega
    unfold fwR
    rw [hl]
    dsimp only
    rcases fwl_2 hS ht H with ⟨c, _⟩ | ⟨_, c1, c2, _, _, r1, r2⟩ | ⟨_, c1, c2, _, _, H⟩ | ⟨_, c1, _, H⟩
    · have := Int32.le_iff_toInt_le.mp c
      omega
    · rw [e1] at c1
      rw [e2] at c2
      rw [if_pos c1, if_pos c2]
      exact ⟨r2, Or.inr ⟨k, rfl, z, r1, hz⟩⟩
    · rw [e1] at c1
      rw [e2] at c2
      rw [if_pos c1, if_neg c2]
      exact ih (k + 1) (z + 1) z1 (by omega) H
    · rw [e1] at c1
      rw [if_neg c1]
      exact ih (k + 1) (z + 1) z1 (by omega) H
theorem tuc_w (hw : w.toInt = (wn : Int)) (ht : t.toInt = (tn : Int)) (t100 : tn ≤ 100) {li told an nz : Int32} (hg : gNth sT tx = some 28) : ∀ (s : Nat) (kz : Int32) (B : Nat) (Q : PK) (M : Mem), TRI T' P PI B (-1) [] Q M → TXd M → 0 ≤ kz.toInt → kz.toInt + (s : Int) = (wn : Int) → B + 60 * tn * s ≤ 100000000 → Ev none e 103 103 [some (.ref 0), some (.int h), some (.int w), some (.int t), some (.int m), some (.ref tx), some (.int li), some (.int told), some (.int an), some (.int nz), some (.int kz)] [] M v M' 0 0 → ∃ M2 kz2, CST T' P PI M2 ∧ TXd M2 ∧ (∀ j, oN M2 109 j = oN M 109 j) ∧ Ev none e 103 127 [some (.ref 0), some (.int h), some (.int w), some (.int t), some (.int m), some (.ref tx), some (.int li), some (.int told), some (.int an), some (.int nz), some (.int kz2)] [.int (nwP (T' 0) (wkN T' tn s Q))] M2 v M' 0 0 := by
  intro s
  induction s with
  | zero =>
    intro kz B Q M hR hd h0 hk hB H
    rcases tuc_103 hR.2.1.sq hg H with ⟨_, e1, v1, M1, _, H1, H⟩ | ⟨a1, _⟩
    · obtain ⟨rm, rv⟩ := wcl_ok hR.2.1.1 hR.2.1.2.2.1.1 hR.2.1.2.2.1.2.1 H1
      rw [rm, rv] at H
      exact ⟨M, kz, hR.1, hd, fun _ => rfl, H⟩
    · exact absurd (Int32.le_iff_toInt_le.mpr (by omega)) a1
  | succ s ih =>
    intro kz B Q M hR hd h0 hk hB H
    rcases tuc_103 hR.2.1.sq hg H with ⟨a1, _⟩ | ⟨_, e1, v1, M1, _, H1, H⟩
    · have := Int32.le_iff_toInt_le.mp a1
      omega
    · have hm : 60 * tn * (s + 1) = 60 * tn * s + 60 * tn := by rw [Nat.mul_add, Nat.mul_one]
      have ub := i32_any w
      obtain ⟨rv, q1, F1⟩ := onk_ok hR (n := tn) (by omega) ht H1
      rw [rv] at H
      obtain ⟨d1, o1⟩ := hd.tri F1
      obtain ⟨M2, kz2, s1, s2, s3, s4⟩ := ih (kz + 1) _ _ M1 q1 d1 (by rw [i32_p1 (by omega)]; omega) (by rw [i32_p1 (by omega)]; omega) (by omega) (tuc_114 q1.2.1.sq hg H)
      exact ⟨M2, kz2, s1, s2, fun j => (s3 j).trans (o1 j), s4⟩
theorem tuc_l (hw : w.toInt = (wn : Int)) (ht : t.toInt = (tn : Int)) (w4 : wn ≤ 4) (t100 : tn ≤ 100) (hh : hn < 6) {li : Int32} (hi : (T (hn + 1)).2[i]? = some l) (h5 : l.1 = 5) (hli : li.toInt = (i : Int)) (hLW : LW (T (hn + 1))) (hg : gNth sT tx = some 28) : ∀ (r : Nat) (nz y : Int32) (c10 : Option Value) (M : Mem), CST (setT T (hn + 1) i y) P PI M → TXd M → oN M 109 hn = tx → 0 ≤ nz.toInt → nz.toInt + (r : Int) = 10 → Ev none e 103 73 [some (.ref 0), some (.int h), some (.int w), some (.int t), some (.int m), some (.ref tx), some (.int li), some (.int l.2.2.1), some (.int (-1)), some (.int nz), c10] [] M v M' 0 0 → v = some (.int (turL T (hn + 1) i tn wn m P r nz)) ∧ CST T P PI M' ∧ TXd M' := by
  have z9 : (9 : Int32).toInt = 9 := rfl
  have nl := (hLW l (List.mem_of_getElem? hi)).1
  have fin : ∀ (y : Int32) (M : Mem), CST (setT T (hn + 1) i y) P PI M → TXd M → oN M 109 hn = tx → M' = wI M (tx + 3) li.toNatClampNeg l.2.2.1 → CST T P PI M' ∧ TXd M' := fun y M hC hd ho eM => by
    have q := hC.num (x := l.2.2.1) hd hh ho (by rw [setT_h]; exact lnN_at hi) (by rw [if_pos rfl]; exact h5) nl.1 (nl.2.2.1 h5).1
    rw [setT_2, setT_self hi] at q
    rw [eM, cl_n hli]
    exact q
  intro r
  induction r with
  | zero =>
    intro nz y c10 M hC hd ho h0 hr H
    rcases tuc_73 hC.sq hg H with ⟨_, _, r1, r2⟩ | ⟨a1, _⟩ | ⟨a1, _⟩
    · exact ⟨r1, fin y M hC hd ho r2⟩
    all_goals exact absurd (Int32.lt_iff_toInt_lt.mpr (by omega)) a1
  | succ r ih =>
    intro nz y c10 M hC hd ho h0 hr H
    rcases tuc_73 hC.sq hg H with ⟨a1, _⟩ | ⟨_, _, _, e1, v1, M1, _, H1, H⟩ | ⟨_, a1, _⟩
    · have := Int32.lt_iff_toInt_lt.mp a1
      omega
    · rw [cl_n hli] at H1
      obtain ⟨C1, d1⟩ := hC.num (x := nz) hd hh ho (by rw [setT_h]; exact lnN_at hi) (by rw [if_pos rfl]; exact h5) h0 (by omega)
      rw [setT_2] at C1
      have o1 : oN (wI M (tx + 3) i nz) 109 hn = tx := ((show FZ noF (fun a => a = tx + 3) noO M (wI M (tx + 3) i nz) from FZ.wI rfl).on (fun q => q)).trans ho
      obtain ⟨rv, q1, _, F1⟩ := opcT_ok C1 H1
      rw [rv] at H
      obtain ⟨d2, o2⟩ := d1.tri F1
      have hb := C1.ok.bud
      have hm : 60 * tn * wn ≤ 60 * 100 * 4 := Nat.mul_le_mul (Nat.mul_le_mul_left _ t100) w4
      obtain ⟨M2, kz2, s1, s2, s3, s4⟩ := tuc_w (T' := setT T (hn + 1) i nz) hw ht t100 hg wn 0 _ P M1 q1 d2 (by decide) (by have z0 : (0 : Int32).toInt = 0 := rfl; omega) (by omega) (tuc_100 q1.2.1.sq hg H)
      rw [setT_o (by omega)] at s4
      have o3 : oN M2 109 hn = tx := (s3 hn).trans ((o2 hn).trans o1)
      unfold turL
      rcases tuc_127 s1.sq hg s4 with ⟨b1, H⟩ | ⟨b1, H⟩
      · rw [if_neg (fun q => by
          have := Int32.le_iff_toInt_le.mp q
          have := Int32.lt_iff_toInt_lt.mp b1
          omega)]
        exact ih (nz + 1) nz _ M2 s1 s2 o3 (by rw [i32_p1 (by omega)]; omega) (by rw [i32_p1 (by omega)]; omega) H
      · rw [if_pos (Int32.le_iff_toInt_le.mpr (by
          have : ¬ m.toInt < (nwP (T 0) (wkN (setT T (hn + 1) i nz) tn wn P)).toInt := fun q => b1 (Int32.lt_iff_toInt_lt.mpr q)
          omega))]
        have nm : ¬ nz = -1 := fun q => by
          rw [q] at h0
          exact absurd h0 (by decide)
        rcases tuc_73 s1.sq hg H with ⟨_, _, r1, r2⟩ | ⟨_, a1, _⟩ | ⟨_, _, _, r1, r2⟩
        · exact ⟨r1, fin nz M2 s1 s2 o3 r2⟩
        · exact absurd a1 nm
        · exact ⟨r1, fin nz M2 s1 s2 o3 r2⟩
    · exact absurd rfl a1
theorem turns_ok (h9 : CST T P PI M) (hd : TXd M) (H : Ev none e 103 0 [some (.ref 0), some (.int h), some (.int w), some (.int t), some (.int m), none, none, none, none, none, none] [] M v M' 0 0) : CST T P PI M' ∧ TXd M' ∧ ((turN h w t ∧ v = some (.int (-2))) ∨ (¬ turN h w t ∧ v = some (.int (turA T P h w t m)))) := by
  unfold turN
  rcases tuc_0 h9.sq H with ⟨a1, r1, r2⟩ | ⟨_, a1, r1, r2⟩ | ⟨_, _, a1, r1, r2⟩ | ⟨a1, a2, a3, h6, e1, v1, M1, _, H1, H⟩
  · rw [g126_R] at a1
    rw [r2]
    exact ⟨h9, hd, Or.inl ⟨Or.inl a1, r1⟩⟩
  · rw [g126_R] at a1
    rw [r2]
    exact ⟨h9, hd, Or.inl ⟨Or.inr (Or.inl a1), r1⟩⟩
  · rw [g126_R] at a1
    rw [r2]
    exact ⟨h9, hd, Or.inl ⟨Or.inr (Or.inr a1), r1⟩⟩
  · rw [g126_R, Classical.not_not] at a1 a2 a3
    obtain ⟨hn, eh⟩ : ∃ hn : Nat, h.toInt = (hn : Int) := ⟨h.toInt.toNat, by omega⟩
    have hn6 : hn < 6 := by omega
    have eo : oI M 109 h = oN M 109 hn := by
      unfold oI
      rw [cl_n eh]
    have hg : gNth sT (oN M 109 hn) = some 28 := hab_t h9.1.1 hn6
    rw [eo] at H1 H
    obtain ⟨hT, hLW⟩ := h9.2.2.1.2 hn hn6
    obtain ⟨rm, rv⟩ := fwl_l h9.sq hg hT (T (hn + 1)).2.length 0 0 rfl (by omega) (fwl_0 h9.sq hg H1)
    rw [rm] at H
    have w1 : 1 ≤ w.toInt := a2.1
    have w4 : w.toInt ≤ 4 := a2.2
    have t1 : 1 ≤ t.toInt := a3.1
    have t100 : t.toInt ≤ 100 := a3.2
    have ng : ¬ (¬ inX h 0 5 ∨ ¬ inX w 1 4 ∨ ¬ inX t 1 100) := fun q => by
      rcases q with q | q | q
      · exact q a1
      · exact q a2
      · exact q a3
    have eA : turA T P h w t m = match fwR (T (hn + 1)).2 (T (hn + 1)).2.length 0 with
        | none => -1
        | some i => turL T (hn + 1) i t.toInt.toNat w.toInt.toNat m P 10 0 := by
      unfold turA fwK
      rw [show h.toInt.toNat = hn by omega]
    rw [eA]
    rcases rv with ⟨b1, rv⟩ | ⟨i, b1, y, rv, hy⟩
    · rw [rv] at H
      rw [b1]
      rcases tuc_47 h9.sq hg H with ⟨_, r1, r2⟩ | ⟨q, _⟩
      · rw [r2]
        exact ⟨h9, hd, Or.inr ⟨ng, r1⟩⟩
      · exact absurd rfl q
    · rw [rv] at H
      rw [b1]
      obtain ⟨l, hl, h5⟩ := fwR_is _ 0 b1
      rcases tuc_47 h9.sq hg H with ⟨q, _⟩ | ⟨_, _, H⟩
      · rw [q] at hy
        have : (-1 : Int32).toInt = -1 := rfl
        omega
      · have et : rI M (oN M 109 hn + 3) y = l.2.2.1 := (rI_n hy).trans (hT.1.2.2 i l hl).2.2.1
        rw [et] at H
        obtain ⟨r1, r2, r3⟩ := tuc_l (T := T) (tn := t.toInt.toNat) (wn := w.toInt.toNat) (by omega) (by omega) (by omega) (by omega) hn6 hl h5 hy hLW hg 10 0 l.2.2.1 none M (by rw [setT_self hl]; exact h9) hd rfl (by decide) rfl H
        exact ⟨r2, r3, Or.inr ⟨ng, r1⟩⟩
end TURN
