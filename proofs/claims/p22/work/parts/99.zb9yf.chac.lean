/-! THE CLASS'S habit -/
section HABC
variable {n : Nat} {B : Nat → Int32} {M M' : Mem}
theorem g126 {x : Int32} : G_126 M x 0 5 = 0 ↔ ¬ (0 ≤ x.toInt ∧ x.toInt ≤ 5) := by
  have z0 : (0 : Int32).toInt = 0 := rfl
  have z5 : (5 : Int32).toInt = 5 := rfl
  unfold G_126
  by_cases h1 : x < 0
  · rw [if_pos h1]
    rw [Int32.lt_iff_toInt_lt] at h1
    exact ⟨fun _ => by omega, fun _ => rfl⟩
  · rw [if_neg h1]
    rw [Int32.lt_iff_toInt_lt] at h1
    by_cases h2 : 5 < x
    · rw [if_pos h2]
      rw [Int32.lt_iff_toInt_lt] at h2
      exact ⟨fun _ => by omega, fun _ => rfl⟩
    · rw [if_neg h2]
      rw [Int32.lt_iff_toInt_lt] at h2
      exact ⟨fun q => absurd q (by decide), fun q => absurd (by omega) q⟩
theorem clp {x : Int32} (h : 0 ≤ x.toInt) : (x.toNatClampNeg : Int) = x.toInt := Int.toNat_of_nonneg h
theorem hab_out {e : Nat} {v : Option Value} {x : Int32} (hS : SQ M) (hx : ¬ (0 ≤ x.toInt ∧ x.toInt ≤ 5)) (H : Ev none e 86 0 [some (.ref 0), some (.int x), none, none] [] M v M' 0 0) : v = some (.int (-1000)) ∧ M' = wF M 1 1 0 := by
  rcases hb_0 hS H with ⟨_, h⟩ | ⟨q, _⟩
  · exact h
  · exact absurd (g126.mpr hx) q
theorem hab_ok {e : Nat} {v : Option Value} {x : Int32} (hS : SQ M) (hx : 0 ≤ x.toInt ∧ x.toInt ≤ 5) (hn : (zI M 1 1).toInt = (n : Int)) (hn2 : n ≤ 440) (hB : ∀ k, k < n → bC M k = B k) (H : Ev none (e + 3) 86 0 [some (.ref 0), some (.int x), none, none] [] M v M' 0 0) : (∃ x, v = some (.int x) ∧ x.toInt = ansB (rdB B n false ((prS B e).1 1))) ∧ SQ M' ∧ (∀ a k, (a, k) ∉ fRe (fR M 104 3) → fV M' a k = fV M a k) ∧ (∀ b, b ∉ wTx (fR M 104 3) → zrw M' b = zrw M b) ∧ (∀ b, b ≠ 109 → roL M' b = roL M b) ∧ zI M' 1 1 = 0 ∧ zI M' 0 15 = fltB (rdB B n false ((prS B e).1 1)) ∧ fR M' 104 2 = fR M 104 2 ∧ (match rdB B n false ((prS B e).1 1) with
    | .inr _ => roL M' 109 = roL M 109 ∧ fR M' 104 3 = fR M 104 3
    | .inl q => roL M' 109 = gPut (roL M 109) x.toNatClampNeg (some (fR M 104 3)) ∧ fR M' 104 3 = oI M 109 x ∧ TXT M' (fR M 104 3) q) := by
  obtain ⟨t3, t2⟩ := tN hS
  rcases hb_0 hS H with ⟨q, _⟩ | ⟨_, e1, v1, M1, he, H1, H⟩
  · exact absurd (g126.mp q) (by omega)
  obtain ⟨rfl⟩ : e + 2 = e1 := by omega
  obtain ⟨f1, R⟩ := rt_ok (law := false) hS t3 hn hn2 hB H1
  obtain ⟨sp, hsp⟩ : ∃ sp, sp = fR M 104 3 := ⟨_, rfl⟩
  rw [← hsp] at t3 f1 R ⊢
  have hb := tx_ge t3
  have f1r := f1.re
  have h109 : gNth sT 109 = some 27 := qa_109
  cases hr : rdB B n false ((prS B e).1 1) with
  | inr f =>
    rw [hr] at R
    obtain ⟨rfl, s1, r1, r2⟩ := R
    rcases hb_36 s1 H with ⟨_, b1, e2, v2, M2, he2, H2, H⟩ | ⟨q, _⟩
    · have tx : gNth sT (oI M1 109 x) = some 28 := ((s1.1.ror qa_109 qz_27).2.2 x.toNatClampNeg (by have := clp hx.1; omega)).2
      obtain ⟨⟨y, rfl, hy⟩, s2, f2, z1, z2⟩ := re_no s1 tx r1 r2 H2
      obtain ⟨rfl, rfl⟩ := hb_89 s2 H
      have f3 : FA (fRe sp) (wTx sp) M M' := f1r.trans (f2.more (fun q hq => by
        simp only [List.mem_cons, List.not_mem_nil, or_false] at hq
        rcases hq with rfl | rfl <;> simp [fRe]) (fun q hq => by cases hq))
      refine ⟨⟨y, rfl, hy⟩, s2, f3.1, f3.2.1, fun b _ => f3.2.2 b, z1, z2, ?_, f3.2.2 109, ?_⟩
      · rw [f2.fr (by decide), f1.fr (by simp [fTx])]
      · rw [f2.fr (by decide), f1.fr (by simp [fTx])]
        exact hsp.symm
    · exact absurd rfl q
  | inl q =>
    rw [hr] at R
    obtain ⟨rfl, C1⟩ := R
    have s1 := C1.1.1
    rcases hb_36 s1 H with ⟨q, _⟩ | ⟨_, b1, _, _, e2, v2, M2, he2, H2, H⟩
    · exact absurd q (by decide)
    · obtain ⟨t13, t12⟩ := tN s1
      have hlt : x.toNatClampNeg < 6 := by have := clp hx.1; omega
      have tx : gNth sT (oI M1 109 x) = some 28 := ((s1.1.ror qa_109 qz_27).2.2 x.toNatClampNeg hlt).2
      have r3 : fR M1 104 3 = sp := (f1.fr (by simp [fTx])).trans hsp.symm
      have o1 : oI M1 109 x = oI M 109 x := f1.on
      rw [r3] at H2 t13
      have s1b : SQ (wO M1 109 x.toNatClampNeg sp) := s1.ko qa_109 qz_27 t13
      have s2 : SQ (wR (wO M1 109 x.toNatClampNeg sp) 104 3 (oI M1 109 x)) := s1b.kr_22_3 tx
      have e2 : oI (wR (wO M1 109 x.toNatClampNeg sp) 104 3 (oI M1 109 x)) 109 x = sp := by
        show oN _ 109 _ = _
        rw [show oN (wR (wO M1 109 x.toNatClampNeg sp) 104 3 (oI M1 109 x)) 109 x.toNatClampNeg = oN (wO M1 109 x.toNatClampNeg sp) 109 x.toNatClampNeg from by unfold oN; rw [roL_wR]]
        exact oN_wO_eq s1.1 qa_109 qz_27 hlt
      have h9 : zI M1 3 12 = 0 := C1.1.2.2.2.2.2.2.2.2
      rw [e2] at H2
      obtain ⟨rfl, s3, f3, z1, z2⟩ := re_yes s2 t3 H2
      obtain ⟨rfl, rfl⟩ := hb_89 s3 H
      have g2 : ∀ a k, (a, k) ≠ (104, 3) → fV (wR (wO M1 109 x.toNatClampNeg sp) 104 3 (oI M1 109 x)) a k = fV M1 a k := fun a k h => by
        rw [fV_wR_ne (fun q => h (by rw [q.1, q.2])), fV_wO]
      have gI : ∀ a k, (a, k) ≠ (104, 3) → zI (wR (wO M1 109 x.toNatClampNeg sp) 104 3 (oI M1 109 x)) a k = zI M1 a k := fun a k h => by
        unfold zI
        rw [g2 a k h]
      have gW : ∀ b, zrw (wR (wO M1 109 x.toNatClampNeg sp) 104 3 (oI M1 109 x)) b = zrw M1 b := fun b => by
        rw [rwL_wR, rwL_wO]
      refine ⟨⟨_, rfl, ?_⟩, s3, fun a k h => ?_, fun b h => ?_, fun b h => ?_, z1, ?_, ?_, ?_, ?_, ?_⟩
      · rw [gI _ _ (fun q => by injection q; omega)]
        exact C1.2.1.1
      · have h' := h
        rw [f3.1 a k (fun q => h' (by
          simp only [List.mem_cons, List.not_mem_nil, or_false] at q
          rcases q with q | q <;> rw [q] <;> simp [fRe])), g2 a k (fun q => h' (by rw [q]; simp [fRe])), f1r.1 a k h]
      · rw [f3.2.1 b (fun q => by cases q), gW, f1.2.1 b h]
      · rw [f3.2.2, roL_wR, roL_wO_ne h, f1.2.2]
      · rw [z2, gI _ _ (by decide), h9]
        rfl
      · rw [f3.fr (by decide), fR_wR_ne (by decide), fR_wO, f1.fr (by simp [fTx])]
      · rw [f3.2.2, roL_wR, roL_wO_eq s1.1 qa_109 qz_27, f1.2.2]
      · rw [f3.fr (by decide), fR_wR_eq s1b.1 qa_104 qk_22_3]
        exact o1
      · have f2' : FA [(104, 3)] [] M1 (wR M1 104 3 (oI M1 109 x)) := FA.wR (by simp)
        have T1 : TXT M1 sp q := ⟨C1.2.1, C1.1.2.2.2.2.2.2.1, C1.2.2.1, C1.2.2.2.1, C1.2.2.2.2.1, C1.2.2.2.2.2.1⟩
        have T2 : TXT (wR (wO M1 109 x.toNatClampNeg sp) 104 3 (oI M1 109 x)) sp q := by
          have hR : ∀ b j, rN (wR (wO M1 109 x.toNatClampNeg sp) 104 3 (oI M1 109 x)) b j = rN M1 b j := fun b j => by
            unfold rN
            rw [gW]
          have hI : ∀ k, zI (wR (wO M1 109 x.toNatClampNeg sp) 104 3 (oI M1 109 x)) sp k = zI M1 sp k := fun k => gI sp k (fun q => by injection q; omega)
          obtain ⟨⟨u1, u2, u3⟩, ⟨w1, w2, w3⟩, x1, x2, x3, x4⟩ := T1
          refine ⟨⟨by rw [hI]; exact u1, u2, fun j l hj => ?_⟩, ⟨by rw [hI]; exact w1, w2, fun j c hj => ?_⟩, by rw [hI]; exact x1, by rw [hI]; exact x2, by rw [hI]; exact x3, by rw [hI]; exact x4⟩
          · rw [hR, hR, hR, hR, hR]
            exact u3 j l hj
          · rw [hR, hR, hR]
            exact w3 j c hj
        exact T2.frm f3 (fun k _ _ => by simp; omega) (fun b _ _ => by simp)
end HABC
