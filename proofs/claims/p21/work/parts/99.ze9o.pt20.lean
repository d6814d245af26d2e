/-! LONGER answers alike -/
section PTLO
variable {e : Nat} {T : TS} {P : PK} {PI : Nat → PK} {M M1 M2 M' : Mem} {v : Option Value} {x1 x2 a b : Int32}
theorem lonC_ok (h : CST T P PI M) (hI : INV M) (he : 6 ≤ e) (H : Ev none e 102 0 [some (.ref 0), some (.int a), some (.int b)] [] M v M' 0 0) : ((¬ inD P a ∨ ¬ inD P b ∨ a = b) ∧ v = some (.int (-2))) ∨ ((inD P a ∧ inD P b ∧ ¬ a = b) ∧ ∃ (u1 u2 : ROW) (al st : Int32), GfE (edK P (frmP (T 0) P (P (3 + a.toInt.toNat)).toInt.toNat (P (3 + b.toInt.toNat)).toInt.toNat)) (clsP P) (vsF 1000000 (P (3 + a.toInt.toNat)).toInt.toNat) u1 ∧ GfE (edK P (opcP P)) (clsP P) (vsF 1000000 (P (3 + a.toInt.toNat)).toInt.toNat) u2 ∧ al.toInt = u1 (P (3 + b.toInt.toNat)).toInt.toNat ∧ st.toInt = u2 (P (3 + b.toInt.toNat)).toInt.toNat ∧ v = some (.int (if 1000000 ≤ al then -1 else if 0 < st then (100 * al) / st else -1))) := by
  obtain ⟨e1, v1, M1, he1, H1, H⟩ := lon_0 h.sq H
  obtain ⟨rm, rv⟩ := twd_ok h H1
  rw [rm] at H
  rcases rv with ⟨d1, d2, d3, rv⟩ | ⟨d1, rv⟩
  · rw [rv] at H
    rcases lon_6 h.sq h.ld H with ⟨a1, _⟩ | ⟨_, e2, v2, M2, he2, H2, H⟩
    · exact absurd a1 (by decide)
    obtain ⟨rv2, c2, x2, I2, _⟩ := h.ent hI (by omega) H2
    rw [rv2] at H
    obtain ⟨_, _, e3, v3, M3, he3, H3, H⟩ := lon_23 c2.sq c2.ld H
    have hD := h.ok.1
    have dd := hD.2.1.2.2
    have row : ∀ z : Int32, inD P z → rI M2 (8 + 9) z = nI (P (3 + z.toInt.toNat)).toInt.toNat ∧ (P (3 + z.toInt.toNat)).toInt.toNat < clsP P := fun z hz => by
      have z0 := hz.1
      have z1 := hz.2
      have n9 := hD.2.1.2.1
      have hi := dd z.toInt.toNat (by omega)
      have e1 : rI M2 (8 + 9) z = P (3 + z.toInt.toNat) := (rI_n (p := z.toInt.toNat) (by omega)).trans (c2.lan.1.2.2.1.2 _ (by omega))
      refine ⟨?_, hi.2⟩
      rw [e1]
      have h0 := hi.1
      obtain ⟨_, c256, _⟩ := cls_int hD.1
      have h2 := hi.2
      exact Int32.toInt_inj.mp (by rw [nI_toInt (by omega)]; omega)
    obtain ⟨ra, la⟩ := row a d1
    obtain ⟨rb, lb⟩ := row b d2
    rw [ra, rb] at H3
    obtain ⟨u1, u2, al, st, g1, g2, g3, g4, g5⟩ := hdr_ok hD x2 la lb H3
    obtain ⟨I3, S3, F3, q4⟩ := net_call (cn := kX2_hundredths) (mx := 7) (wsv := [.ref 192, .int (nI (P (3 + a.toInt.toNat)).toInt.toNat), .int (nI (P (3 + b.toInt.toNat)).toInt.toNat)]) kX2_hundredths_ok (by decide +kernel) mx_all.2.2.2.2.1 (by show 4 ≤ e3; omega) (Two.mk rfl (Two.mk ⟨_, rfl, by
      obtain ⟨_, c256, _⟩ := cls_int hD.1
      show (0 : Int) ≤ (nI _).toInt ∧ (nI _).toInt ≤ (255 : Int)
      rw [nI_toInt (by omega)]
      constructor <;> omega⟩ (Two.mk ⟨_, rfl, by
      obtain ⟨_, c256, _⟩ := cls_int hD.1
      show (0 : Int) ≤ (nI _).toInt ∧ (nI _).toInt ≤ (255 : Int)
      rw [nI_toInt (by omega)]
      constructor <;> omega⟩ trivial))) I2 c2.sq.2 H3
    rw [g5] at H
    obtain ⟨p1, _⟩ := lon_48 S3 H
    exact Or.inr ⟨⟨d1, d2, d3⟩, u1, u2, al, st, g1, g2, g3, g4, p1⟩
  · rw [rv] at H
    rcases lon_6 h.sq h.ld H with ⟨_, r1, _⟩ | ⟨a1, _⟩
    · exact Or.inl ⟨d1, r1⟩
    · exact absurd rfl a1
theorem rlon_ok (hR : RST T P M) (hD : okD P) (H : Ev none e 228 0 [some (.ref 633), some (.int a), some (.int b), none, none] [] M v M' 0 0) : ((¬ inD P a ∨ ¬ inD P b ∨ a = b) ∧ v = some (.int (-2))) ∨ ((inD P a ∧ inD P b ∧ ¬ a = b) ∧ ∃ (t1 t2 : ROW) (fi ll : Int32), GfE (edK P (okqP (T 0) P true (P (3 + a.toInt.toNat)).toInt.toNat (P (3 + b.toInt.toNat)).toInt.toNat)) (clsP P) (vsF 10000000 (P (3 + a.toInt.toNat)).toInt.toNat) t1 ∧ GfE (edK P (okqP (T 0) P false (P (3 + a.toInt.toNat)).toInt.toNat (P (3 + b.toInt.toNat)).toInt.toNat)) (clsP P) (vsF 10000000 (P (3 + a.toInt.toNat)).toInt.toNat) t2 ∧ fi.toInt = t1 (P (3 + b.toInt.toNat)).toInt.toNat ∧ ll.toInt = t2 (P (3 + b.toInt.toNat)).toInt.toNat ∧ 0 ≤ t1 (P (3 + b.toInt.toNat)).toInt.toNat ∧ 0 ≤ t2 (P (3 + b.toInt.toNat)).toInt.toNat ∧ ((10000000 ≤ ll ∧ v = some (.int (-1))) ∨ (¬ 10000000 ≤ ll ∧ fi < 10000000 ∧ ¬ ll = 0 ∧ v = some (.int ((100 * fi) / ll))) ∨ (¬ 10000000 ≤ ll ∧ ¬ fi < 10000000 ∧ v = some (.int (-1))))) := by
  have hw := hD.1
  have h0 := hR.w0 0 (by decide) 0
  have row : ∀ (M2 : Mem), RST T P M2 → ∀ z : Int32, inD P z → rI M2 635 (3 + z) = nI (P (3 + z.toInt.toNat)).toInt.toNat ∧ (P (3 + z.toInt.toNat)).toInt.toNat < clsP P := fun M2 R2 z hz => by
    have z0 := hz.1
    have z1 := hz.2
    have n9 := hD.2.1.2.1
    have t3 : (3 : Int32).toInt = 3 := rfl
    have hi := hD.2.1.2.2 z.toInt.toNat (by omega)
    have e1 : rI M2 635 (3 + z) = P (3 + z.toInt.toNat) := r_s R2 (n := 3 + z.toInt.toNat) (by rw [i32_add (by omega) (by omega)]; omega) (by omega)
    refine ⟨?_, hi.2⟩
    rw [e1]
    have h0 := hi.1
    obtain ⟨_, c256, _⟩ := cls_int hw
    have h2 := hi.2
    exact Int32.toInt_inj.mp (by rw [nI_toInt (by omega)]; omega)
  rcases rlo_0 hR.1 H with ⟨a1, r1, _⟩ | ⟨_, a1, r1, _⟩ | ⟨_, _, a1, r1, _⟩ | ⟨a1, a2, a3, _, _, e1, v1, M1, _, H1, H⟩
  · rw [g152_ok h0 hD] at a1
    exact Or.inl ⟨Or.inl a1, r1⟩
  · rw [g152_ok h0 hD] at a1
    exact Or.inl ⟨Or.inr (Or.inl a1), r1⟩
  · exact Or.inl ⟨Or.inr (Or.inr a1), r1⟩
  · rw [g152_ok h0 hD, Classical.not_not] at a1 a2
    have eF : ∀ z, rI (wF M 633 0 0) 635 z = rI M 635 z := fun z => rN_wF
    obtain ⟨ra, la⟩ := row M hR a a1
    obtain ⟨rb, lb⟩ := row M hR b a2
    rw [ra, rb] at H1
    obtain ⟨t2, ll, s1, s2, s3, R1, G2⟩ := rsh_ok (fm := false) hw h0 la lb H1
    rw [s1] at H
    obtain ⟨_, _, e2, v2, M2, _, H2, H⟩ := rlo_50 R1.1 H
    obtain ⟨ra, _⟩ := row M1 R1 a a1
    obtain ⟨rb, _⟩ := row M1 R1 b a2
    rw [ra, rb] at H2
    obtain ⟨t1, fi, q1, q2, q3, R2, G1⟩ := rsh_ok (fm := true) hw R1 la lb H2
    rw [q1] at H
    refine Or.inr ⟨⟨a1, a2, a3⟩, t1, t2, fi, ll, G1, G2, q2, s2, q3, s3, ?_⟩
    rcases rlo_72 R2.1 H with ⟨b1, r1, _⟩ | ⟨b1, b2, b3, r1, _⟩ | ⟨b1, b2, r1, _⟩
    · exact Or.inl ⟨b1, r1⟩
    · exact Or.inr (Or.inl ⟨b1, b2, b3, r1⟩)
    · exact Or.inr (Or.inr ⟨b1, b2, r1⟩)
set_option maxRecDepth 200000 in
theorem pt_20 (hS : SVG M) : ∃ r M1 M2, Ev none 999 102 0 [some (.ref 0), some (.int x1), some (.int x2)] [] M (some (.int r)) M1 0 0 ∧ Ev none 999 228 0 [some (.ref 633), some (.int x1), some (.int x2), none, none] [] M1 (some (.int r)) M2 0 0 ∧ INV M1 ∧ SVG M2 := by
  obtain ⟨r1, r2, M1, M2, E1, E2, V1, S2⟩ := pg_20 (x1 := x1) (x2 := x2) hS
  obtain ⟨z, y, l, lb, lt, T, P, PI, hB, hN, hC, hD, hR, hI⟩ := hS.1
  obtain ⟨_, F1, _⟩ := inv_d (c := kX10_longer) (k := 3) (ws := [.ref 0, .int x1, .int x2]) kX10_longer_ok (by decide +kernel) (by decide +kernel) (by decide) (Two.mk rfl (Two.mk ⟨x1, rfl, i32_any x1⟩ (Two.mk ⟨x2, rfl, i32_any x2⟩ trivial))) hB.1 E1
  have R1 : RST T P M1 := hR.frm ⟨V1.1.sh, hB.2.1.frm hB.1.1.sh F1 (by decide +kernel)⟩ F1 (by decide +kernel)
  have hO : okG P := hS.2.pp hR hC.ok.1
  have hg : LW (T 0) := (hR.2.2.2 0 (by decide)).1.2
  have e : (some (Value.int r1)) = some (Value.int r2) := by
    rcases lonC_ok hC hB.1 (by decide) E1 with ⟨a1, c1⟩ | ⟨⟨a1, a2, a3⟩, u1, u2, al, st, g1, g2, g3, g4, c1⟩ <;> rcases rlon_ok R1 hC.ok.1 E2 with ⟨b1, d1⟩ | ⟨⟨b1, b2, b3⟩, t1, t2, fi, ll, k1, k2, k3, k4, k5, k6, d1⟩
    · rw [c1, d1]
    · rcases a1 with q | q | q
      · exact absurd b1 q
      · exact absurd b2 q
      · exact absurd q b3
    · rcases b1 with q | q | q
      · exact absurd a1 q
      · exact absurd a2 q
      · exact absurd q a3
    · have dor : ∀ q : Int32, inD P q → opnB P (nI (P (3 + q.toInt.toNat)).toInt.toNat) = true ∧ (P (3 + q.toInt.toNat)).toInt.toNat < clsP P := fun q hq => by
        have q0 := hq.1
        have q1 := hq.2
        have hi := hC.ok.1.2.1.2.2 q.toInt.toNat (by omega)
        have h0 := hi.1
        have h2 := hi.2
        obtain ⟨_, c256, _⟩ := cls_int hC.ok.1.1
        rw [show nI (P (3 + q.toInt.toNat)).toInt.toNat = P (3 + q.toInt.toNat) from Int32.toInt_inj.mp (by rw [nI_toInt (by omega)]; omega)]
        exact ⟨hO.2 _ (by omega), h2⟩
      obtain ⟨ox, _⟩ := dor x1 a1
      obtain ⟨oy, ly⟩ := dor x2 a2
      exact lon_al hg hC.ok.1.1 hC.ok.2.2.2 hO ly ox oy g1 g2 k1 k2 g3 g4 k3 k4 k5 k6 c1 d1
  cases e
  exact ⟨r1, M1, M2, E1, E2, V1, S2⟩
end PTLO
