/-! LONGER of both sides, beside each other -/
/-- what is not green has no wear; DOORS are on cells that can be stepped on -/
def okG (P : PK) : Prop := (∀ c, inC P c → grnB P c = false → cE P 3 c = 0) ∧ ∀ d, d < (P 2).toInt.toNat → opnB P (P (3 + d)) = true
section LONB
variable {n xn yn cn : Nat} {g : TQ} {P : PK} {u1 u2 t1 t2 : ROW} {al st fi ll : Int32} {v1 v2 : Option Value} {c : Int32}
theorem bdQ_1 (h : LW g) : 1 ≤ (bdQ g).toInt := by
  unfold bdQ tvS
  split
  · rename_i l e
    have h1 := List.mem_of_find?_eq_some e
    have h3 := List.find?_some e
    have h2 : l.1 = 2 := of_decide_eq_true h3
    exact (h l h1).1.2.2.2.1 h2
  · decide
theorem wrn_grn (hg : LW g) (hO : okG P) (hc : inC P c) (h : wrnB g P c = true) : grnB P c = true := by
  by_cases q : grnB P c = true
  · exact q
  · have q := Bool.eq_false_iff.mpr q
    have h1 := hO.1 c hc q
    have h2 := bdQ_1 hg
    have h3 := Int32.le_iff_toInt_le.mp (of_decide_eq_true h)
    rw [h1] at h3
    have t0 : (0 : Int32).toInt = 0 := rfl
    omega
theorem grn_opn (h : grnB P c = true) : opnB P c = true := by
  unfold grnB at h
  unfold opnB
  rcases Bool.or_eq_true_iff.mp h with h | h
  · rw [of_decide_eq_true h]
    decide
  · rw [of_decide_eq_true h]
    decide
/-- the firm ground, told in two ways -/
theorem frm_al {B : Nat} (hg : LW g) (hw : wh4 P) (hE : okE B P) (hO : okG P) (hc : cn < clsP P) (dx : opnB P (nI xn) = true) (dy : opnB P (nI yn) = true) : okqP g P true xn yn cn ↔ frmP g P xn yn cn := by
  obtain ⟨ic, _, _⟩ := nIin hw hc
  have hk := (hE _ ic).1
  constructor
  · rintro ⟨h1, h2⟩
    rcases h2 with h2 | h2 | h2 | h2 | h2
    · cases h2
    · exact Or.inr (Or.inr (Or.inr (Or.inr (Or.inl h2))))
    · exact Or.inr (Or.inr (Or.inr (Or.inr (Or.inr h2))))
    · unfold opnB at h1
      unfold grnB at h2
      obtain ⟨a1, a2⟩ := Bool.and_eq_true_iff.mp h1
      obtain ⟨b1, b2⟩ := Bool.or_eq_false_iff.mp h2
      have a1 : ¬ cE P 0 (nI cn) = 3 := fun q => by rw [decide_eq_true q] at a1; cases a1
      have a2 : ¬ cE P 0 (nI cn) = 6 := fun q => by rw [decide_eq_true q] at a2; cases a2
      have b1 := of_decide_eq_false b1
      have b2 := of_decide_eq_false b2
      have f : ∀ k : Int32, ¬ cE P 0 (nI cn) = k → (cE P 0 (nI cn)).toInt ≠ k.toInt := fun k q r => q (Int32.toInt_inj.mp r)
      have f0 := f 0 b1
      have f2 := f 2 b2
      have f3 := f 3 a1
      have f6 := f 6 a2
      have t0 : (0 : Int32).toInt = 0 := rfl
      have t1 : (1 : Int32).toInt = 1 := rfl
      have t2 : (2 : Int32).toInt = 2 := rfl
      have t3 : (3 : Int32).toInt = 3 := rfl
      have t4 : (4 : Int32).toInt = 4 := rfl
      have t5 : (5 : Int32).toInt = 5 := rfl
      have t6 : (6 : Int32).toInt = 6 := rfl
      rcases (show (cE P 0 (nI cn)).toInt = 1 ∨ (cE P 0 (nI cn)).toInt = 4 ∨ (cE P 0 (nI cn)).toInt = 5 by omega) with q | q | q
      · exact Or.inr (Or.inl (Int32.toInt_inj.mp (by omega)))
      · exact Or.inr (Or.inr (Or.inl (Int32.toInt_inj.mp (by omega))))
      · exact Or.inr (Or.inr (Or.inr (Or.inl (Int32.toInt_inj.mp (by omega)))))
    · exact Or.inl h2
  · have kd : ∀ k : Int32, cE P 0 (nI cn) = k → (opnB P (nI cn) = (!decide (k = 3) && !decide (k = 6))) ∧ grnB P (nI cn) = (decide (k = 0) || decide (k = 2)) := fun k q => by
      unfold opnB grnB
      rw [q]
      exact ⟨rfl, rfl⟩
    rintro (h | h | h | h | h | h)
    · exact ⟨grn_opn (wrn_grn hg hO ic h), Or.inr (Or.inr (Or.inr (Or.inr h)))⟩
    · obtain ⟨e1, e2⟩ := kd 1 h
      exact ⟨e1.trans rfl, Or.inr (Or.inr (Or.inr (Or.inl (e2.trans rfl))))⟩
    · obtain ⟨e1, e2⟩ := kd 4 h
      exact ⟨e1.trans rfl, Or.inr (Or.inr (Or.inr (Or.inl (e2.trans rfl))))⟩
    · obtain ⟨e1, e2⟩ := kd 5 h
      exact ⟨e1.trans rfl, Or.inr (Or.inr (Or.inr (Or.inl (e2.trans rfl))))⟩
    · rw [h]
      exact ⟨dx, Or.inr (Or.inl rfl)⟩
    · rw [h]
      exact ⟨dy, Or.inr (Or.inr (Or.inl rfl))⟩
theorem opc_al (hc : cn < clsP P) : okqP g P false xn yn cn ↔ opcP P cn := ⟨fun h => h.1, fun h => ⟨h, Or.inl rfl⟩⟩
theorem edK_al {ok ok2 : Nat → Prop} (h : ∀ c, c < clsP P → (ok c ↔ ok2 c)) : ∀ c o w, c < clsP P → o < clsP P → (edK P ok c o w ↔ edK P ok2 c o w) := fun c _ _ hc _ => ⟨fun q => ⟨(h c hc).mp q.1, q.2⟩, fun q => ⟨(h c hc).mpr q.1, q.2⟩⟩
/-- both answers -/
theorem lon_al {B : Nat} (hg : LW g) (hw : wh4 P) (hE : okE B P) (hO : okG P) (hy : yn < clsP P) (dx : opnB P (nI xn) = true) (dy : opnB P (nI yn) = true) (G1 : GfE (edK P (frmP g P xn yn)) (clsP P) (vsF 1000000 xn) u1) (G2 : GfE (edK P (opcP P)) (clsP P) (vsF 1000000 xn) u2) (K1 : GfE (edK P (okqP g P true xn yn)) (clsP P) (vsF 10000000 xn) t1) (K2 : GfE (edK P (okqP g P false xn yn)) (clsP P) (vsF 10000000 xn) t2) (e1 : al.toInt = u1 yn) (e2 : st.toInt = u2 yn) (e3 : fi.toInt = t1 yn) (e4 : ll.toInt = t2 yn) (p1 : 0 ≤ t1 yn) (p2 : 0 ≤ t2 yn) (hv1 : v1 = some (.int (if 1000000 ≤ al then -1 else if 0 < st then (100 * al) / st else -1))) (hv2 : (10000000 ≤ ll ∧ v2 = some (.int (-1))) ∨ (¬ 10000000 ≤ ll ∧ fi < 10000000 ∧ ¬ ll = 0 ∧ v2 = some (.int ((100 * fi) / ll))) ∨ (¬ 10000000 ≤ ll ∧ ¬ fi < 10000000 ∧ v2 = some (.int (-1)))) : v1 = v2 := by
  obtain ⟨_, c256, _⟩ := cls_int hw
  have wp : ∀ (ok : Nat → Prop) c o w, c < clsP P → o < clsP P → edK P ok c o w → 1 ≤ w ∧ w ≤ 14 := fun ok c o w _ _ he => by
    have := edK_w he
    omega
  have w0 : ∀ (ok : Nat → Prop) c o w, c < clsP P → o < clsP P → edK P ok c o w → 0 ≤ w := fun ok c o w hc ho he => by
    have := wp ok c o w hc ho he
    omega
  have F1 := K1.alike (edK_al (fun c hc => frm_al hg hw hE hO hc dx dy))
  have F2 := K2.alike (edK_al (fun c hc => opc_al (g := g) (xn := xn) (yn := yn) hc))
  have cv : ∀ c, miR 1000000 (vsF 10000000 xn) c = vsF 1000000 xn c := fun c => by
    unfold miR vsF
    by_cases q : c = xn
    · rw [if_pos q, if_pos q]
      decide
    · rw [if_neg q, if_neg q]
      decide
  have H1 : u1 yn = miR 1000000 t1 yn := G1.uniq ((F1.cap (F := 1000000) (w0 _)).congr (fun c _ => cv c)) yn hy
  have H2 : u2 yn = miR 1000000 t2 yn := G2.uniq ((F2.cap (F := 1000000) (w0 _)).congr (fun c _ => cv c)) yn hy
  have hm : t2 yn ≤ t1 yn := GfE.mono F1 F2 (fun c o w hc _ he => ⟨(opc_al (g := g) (xn := xn) (yn := yn) hc).mp ⟨((frm_al hg hw hE hO hc dx dy).mpr he.1).1, Or.inl rfl⟩, he.2⟩) yn hy
  have vv : ∀ c, c < clsP P → vsF 10000000 xn c ≤ 0 ∨ 10000000 ≤ vsF 10000000 xn c := fun c _ => by
    unfold vsF
    by_cases q : c = xn
    · rw [if_pos q]
      exact Or.inl (Int.le_refl _)
    · rw [if_neg q]
      exact Or.inr (Int.le_refl _)
  have L1 := lev_ok (W := 14) (B := 0) (R := 10000000) (by decide) F1 (wp _) vv hy
  have L2 := lev_ok (W := 14) (B := 0) (R := 10000000) (by decide) F2 (wp _) vv hy
  have tF : (1000000 : Int32).toInt = 1000000 := rfl
  have tG : (10000000 : Int32).toInt = 10000000 := rfl
  have t0 : (0 : Int32).toInt = 0 := rfl
  unfold miR at H1 H2
  rcases hv2 with ⟨b1, r2⟩ | ⟨b1, b2, b3, r2⟩ | ⟨b1, b2, r2⟩
  · have b1 := Int32.le_iff_toInt_le.mp b1
    have h1 : 1000000 ≤ al := Int32.le_iff_toInt_le.mpr (by
      rw [e1, H1]
      split <;> omega)
    rw [hv1, r2, if_pos h1]
  · rw [Int32.le_iff_toInt_le] at b1
    have b2 := Int32.lt_iff_toInt_lt.mp b2
    have n1 : t1 yn ≤ 1000000 := by omega
    have n2 : t2 yn ≤ 1000000 := by omega
    rw [if_pos n1] at H1
    rw [if_pos n2] at H2
    have ea : al = fi := Int32.toInt_inj.mp (by omega)
    have es : st = ll := Int32.toInt_inj.mp (by omega)
    have h1 : ¬ 1000000 ≤ al := fun q => by
      have := Int32.le_iff_toInt_le.mp q
      omega
    have h2 : ¬ ll.toInt = 0 := fun q => b3 (Int32.toInt_inj.mp (q.trans t0.symm))
    have h3 : 0 < st := Int32.lt_iff_toInt_lt.mpr (by omega)
    rw [hv1, r2, if_neg h1, if_pos h3, ea, es]
  · rw [Int32.lt_iff_toInt_lt] at b2
    have h1 : 1000000 ≤ al := Int32.le_iff_toInt_le.mpr (by
      rw [e1, H1]
      split <;> omega)
    rw [hv1, r2, if_pos h1]
end LONB
