/-! THE CLASS'S reading of the SNOW, whole -/
def rdT (T : TS) (P : PK) (z : Int32) (o : Nat → Int32) : Prop := inX (z / 3) 1 5 ∧ z = 3 * (z / 3) ∧ ∀ q, q < (z / 3).toInt.toNat → goW T P o q
def KEEP (M M' : Mem) : Prop := zI M' 229 8 = zI M 229 8 ∧ ∀ j, rN M' 241 j = rN M 241 j ∧ rN M' 242 j = rN M 242 j
def KEPR (M M' : Mem) : Prop := zI M' 633 62 = zI M 633 62 ∧ ∀ j, rN M' 660 j = rN M 660 j ∧ rN M' 661 j = rN M 661 j
section CREA
variable {e n : Nat} {T : TS} {P : PK} {PI : Nat → PK} {M M1 M' : Mem} {v : Option Value} {o : Nat → Int32} {x y : Int32}
theorem KEEP.refl : KEEP M M := ⟨rfl, fun _ => ⟨rfl, rfl⟩⟩
theorem KEEP.trans (h1 : KEEP M M1) (h2 : KEEP M1 M') : KEEP M M' := ⟨h2.1.trans h1.1, fun j => ⟨(h2.2 j).1.trans (h1.2 j).1, (h2.2 j).2.trans (h1.2 j).2⟩⟩
theorem KEEP.fz {F : Nat → Nat → Prop} {W O : Nat → Prop} (hF : FZ F W O M M') (f : ¬ F 229 8) (w1 : ¬ W 241) (w2 : ¬ W 242) : KEEP M M' := ⟨hF.fi f, fun _ => ⟨hF.rn w1, hF.rn w2⟩⟩
theorem KEEP.tp : KEEP M (wF M 1 1 x) := ⟨fI_wF_ne (by decide), fun _ => ⟨rN_wF, rN_wF⟩⟩
theorem nI_iq {z : Int32} (h : z.toInt = (n : Int)) (hn : n < 100000) : z = nI n := Int32.toInt_inj.mp (by rw [nI_toInt (by omega), h])
theorem cread_ok (h9 : CST T P PI M) (hI : INV M) (he : 10 ≤ e) (ht : ∀ j : Nat, (j : Int) < (zI M 1 1).toInt → rN M 2 j = o j) (ho : ∀ k, k < 5 → oN M 230 k = 231 + k) (hn : n = (zI M 1 1 / 3).toInt.toNat) (H : Ev none e 117 0 [some (.ref 0), none] [] M v M' 0 0) : (¬ rdT T P (zI M 1 1) o ∧ v = some (.int (-1)) ∧ KEEP M M') ∨ (rdT T P (zI M 1 1) o ∧ ∃ f : Int32, v = some (.int f) ∧ f.toInt = (ndN (wsW T P o) n 0 (snL P) : Int) ∧ ((f.toInt = 0 ∧ KEEP M M') ∨ (f.toInt ≠ 0 ∧ zI M' 229 8 = nI n ∧ ∀ j, j < n → isMn (gdTl (wsW T P o) n 0 (snL P)) j (rN M' 241 j).toInt ∧ isMx (gdTl (wsW T P o) n 0 (snL P)) j (rN M' 242 j).toInt))) := by
  obtain ⟨e1, v1, M1, he1, H1, H⟩ := rea_0 h9.sq H
  have q1 : CST T P PI M1 ∧ KEEP M M1 ∧ ((v1 = some (.int 0) ∧ ¬ rdT T P (zI M 1 1) o) ∨ (v1 = some (.int 1) ∧ rdT T P (zI M 1 1) o ∧ SNO (wsW T P o) n M1)) := by
    rcases twy_0 h9.sq h9.ld H1 with ⟨a1, r1, r2⟩ | ⟨a1, a2, e2, v2, M2, he2, H2, H1⟩ | ⟨_, a2, r1, r2⟩
    · rw [g126_R] at a1
      rw [r2]
      exact ⟨h9, KEEP.refl, Or.inl ⟨r1, fun q => a1 q.1⟩⟩
    · rw [g126_R, Classical.not_not] at a1
      have n1 : 1 ≤ (zI M 1 1 / 3).toInt := a1.1
      have n5 : (zI M 1 1 / 3).toInt ≤ 5 := a1.2
      have t3 : (3 : Int32).toInt = 3 := rfl
      have ez : zI M 1 1 / 3 = nI n := nI_iq (by omega) (by omega)
      have z3 : (zI M 1 1).toInt = ((3 * n : Nat) : Int) := by
        have q : (3 * (zI M 1 1 / 3)).toInt = 3 * (zI M 1 1 / 3).toInt := by rw [i32_mul (by rw [t3]; omega) (by rw [t3]; omega), t3]
        rw [← a2] at q
        omega
      obtain ⟨rv2, c2, x2, I2, F2⟩ := h9.ent hI (by omega) H2
      rw [rv2] at H1
      have H1 := twy_45 c2.sq H1
      rw [ez] at H1
      have F3 : FZ (fun a k => a = 229 ∧ k = 2) noO noO M2 (wF M2 229 2 (nI n)) := FZ.wF ⟨rfl, rfl⟩
      have S3 : SQ (wF M2 229 2 (nI n)) := c2.sq.kf
      have ff : ∀ a k, (a = 229 ∨ a = 2 ∨ (230 ≤ a ∧ a ≤ 242)) → ¬ enF a k := fun a k h q => by
        rcases q with q | q
        · unfold shgF at q
          omega
        · omega
      have fw : ∀ a, (a = 2 ∨ (230 ≤ a ∧ a ≤ 242)) → ¬ enW a := fun a h q => by
        rcases q with q | q
        · unfold shgW at q
          omega
        · omega
      obtain ⟨u1, u2, u3⟩ := twz_l (T := T) (P := P) (o := o) (n := n) (by omega) n 0 none none none _ (by omega) (c2.msc S3 F3 (fun a k q => Or.inr q.1) (fun _ q => q.elim)) (x2.f229 h9.ok.1 S3 F3) (fun j hj => by
        rw [rN_wF, F2.rn (fw _ (Or.inl rfl))]
        exact ht j (by omega)) (fun k hk => (F3.on (fun q => q)).trans ((F2.on (fun q => q)).trans (ho k hk))) (fun q hq => absurd hq (Nat.not_lt_zero q)) (fun q hq => absurd hq (Nat.not_lt_zero q)) H1
      have k2 : KEEP M (wF M2 229 2 (nI n)) := (KEEP.fz F2 (ff _ _ (Or.inl rfl)) (fw _ (Or.inr (by omega))) (fw _ (Or.inr (by omega)))).trans (KEEP.fz F3 (by omega) (fun q => q) (fun q => q))
      have k3 := k2.trans (KEEP.fz u2 (by unfold rqdF wyF; omega) (by unfold rqdW lkW; omega) (by unfold rqdW lkW; omega))
      have en : (zI M 1 1 / 3).toInt.toNat = n := hn.symm
      refine ⟨u1, k3, ?_⟩
      rcases u3 with ⟨w1, w2, w3⟩ | ⟨w1, w2⟩
      · refine Or.inr ⟨w1, ⟨a1, a2, by rw [en]; exact w2⟩, u1.sq, ?_, fun i hi => ?_, w3⟩
        · rw [u2.fi (by unfold rqdF wyF; omega)]
          exact fI_wF_eq c2.sq.1 qa_229 qi_46_2
        · exact (u2.on (fun q => q)).trans ((F3.on (fun q => q)).trans ((F2.on (fun q => q)).trans (ho i (by omega))))
      · exact Or.inl ⟨w1, fun q => w2 (by rw [← en]; exact q.2.2)⟩
    · rw [r2]
      exact ⟨h9, KEEP.refl, Or.inl ⟨r1, fun q => a2 q.2.1⟩⟩
  obtain ⟨c1, k1, q1⟩ := q1
  rcases q1 with ⟨w1, w2⟩ | ⟨w1, w2, w3⟩
  · rw [w1] at H
    rcases rea_4 c1.sq c1.ld H with ⟨_, r1, r2⟩ | ⟨a1, _⟩
    · exact Or.inl ⟨w2, r1, by rw [r2]; exact k1.trans KEEP.tp⟩
    · exact absurd rfl a1
  · rw [w1] at H
    rcases rea_4 c1.sq c1.ld H with ⟨a1, _⟩ | ⟨_, e4, v4, M4, he4, H4, H⟩
    · exact absurd a1 (by decide)
    · have n5 : n ≤ 5 := by
        have := w2.1.2
        have t5 : (5 : Int32).toInt = 5 := rfl
        omega
      obtain ⟨f, f1, f2, f3, f4, f5⟩ := tls_ok n5 c1.ok c1.lan w3 H4
      rw [f1] at H
      obtain ⟨r1, r2⟩ := rea_18 f3 H
      refine Or.inr ⟨w2, f, r1, f2, ?_⟩
      rcases f5 with ⟨g1, g2, g3⟩ | ⟨g1, g2, g3⟩
      · exact Or.inl ⟨g1, by rw [r2]; exact (k1.trans ⟨g2, g3⟩).trans KEEP.tp⟩
      · refine Or.inr ⟨g1, by rw [r2, fI_wF_ne (by decide)]; exact g2, fun j hj => ?_⟩
        rw [r2, rN_wF, rN_wF]
        exact g3 j hj
end CREA
