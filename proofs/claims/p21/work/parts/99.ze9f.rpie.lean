/-! THE REFERENCE'S spread, its pieces; both beside each other -/
noncomputable def mkR (M : Mem) : ROW := fun c => if rN M 650 c = 0 then 1000000 else 0
/-- what is marked is worn -/
def mkW (g : TQ) (P : PK) (M : Mem) : Prop := ∀ c, c < clsP P → ¬ rN M 650 c = 0 → wrnB g P (nI c) = true
def mrW (b : Nat) : Prop := b = 650
section RPIE
variable {e a cn n k r o : Nat} {T : TS} {g : TQ} {P : PK} {PI : Nat → PK} {v0 f0 f : ROW} {M M0 M1 M2 M' : Mem} {v v1 v2 : Option Value} {m : Int32} {b : Bool} {w : Int}
theorem RST.mk (h : RST T P M) (hS : SQ M') (hF : FZ noF mrW noO M M') : RST T P M' := h.fz hS hF (fun _ _ _ q => q) (fun a ha q => by
  have q : a = 650 := q
  omega)
theorem mk_len (hS : SQ M) : (zrw M 650).length = 256 := (hS.1.row qa_650 qw_78).2
theorem mk_eq (hS : SQ M) (hc : cn < 256) (x : Int32) : rN (wI M 650 cn x) 650 cn = x := rN_wI_eq (by rw [mk_len hS]; exact hc)
theorem mk_ne {x : Int32} (h : ¬ k = cn) : rN (wI M 650 cn x) 650 k = rN M 650 k := rN_wI_ne (fun q => h q.2)
theorem ed0_of (hc : wrnB g P (nI cn) = true) {d : Nat} (hd : d < 8) (ho : besP P (nI cn) (nI d) = nI o) : ed0 g P cn o 0 := by
  have e : prW g P cn = 0 := by
    unfold prW
    rw [if_pos hc]
  refine ⟨by rw [e]; decide, d, hd, ho, ?_⟩
  rw [e]
  split <;> rfl
theorem mkR_0 (h : rN M 650 cn = 0) : mkR M cn = 1000000 := if_pos h
theorem mkR_1 (h : ¬ rN M 650 cn = 0) : mkR M cn = 0 := if_neg h
theorem mkR_ge : 0 ≤ mkR M cn := by
  unfold mkR
  split <;> decide
theorem mkR_le : mkR M cn ≤ 1000000 := by
  unfold mkR
  split <;> decide
/-- the cells beside one that is worn and not marked -/
theorem rsp_d (hw : wh4 P) (hc : cn < clsP P) (hwn : wrnB (T 0) P (nI cn) = true) (S0 : SQ M0) (h0 : rN M0 650 cn = 0) : ∀ (q k : Nat) (M : Mem), k + q = 8 → RST T P M → FZ noF mrW noO M0 M → mkW (T 0) P M → (∀ x, ¬ x = cn → rN M 650 x = rN M0 650 x) → (rN M 650 cn = 0 → ∀ d o, d < k → o < clsP P → besP P (nI cn) (nI d) = nI o → rN M0 650 o = 0) → (¬ rN M 650 cn = 0 → ∃ o, o < clsP P ∧ ed0 (T 0) P cn o 0 ∧ ¬ rN M0 650 o = 0) → Ev none e 219 40 [some (.ref 633), some (.int (bI b)), some (.int (nI cn)), some (.int (nI k))] [] M v M' 0 0 → ∃ M2 o3, RST T P M2 ∧ FZ noF mrW noO M0 M2 ∧ mkW (T 0) P M2 ∧ StE (ed0 (T 0) P) (clsP P) cn (mkR M0) (mkR M2) ∧ Ev none e 219 10 [some (.ref 633), some (.int (bI (b || decide (mkR M2 cn < mkR M0 cn)))), some (.int (nI (cn + 1))), o3] [] M2 v M' 0 0 := by
  obtain ⟨_, c256, _⟩ := cls_int hw
  obtain ⟨ic, tc, c2⟩ := nIin hw hc
  have t8 : (8 : Int32).toInt = 8 := rfl
  have n1 : nI cn + 1 = nI (cn + 1) := nI_p1 (by omega)
  have ends : ∀ (M : Mem) (m : Int32) (o3 : Option Value), RST T P M → FZ noF mrW noO M0 M → mkW (T 0) P M → (∀ x, ¬ x = cn → rN M 650 x = rN M0 650 x) → (rN M 650 cn = 0 → ∀ d o, d < 8 → o < clsP P → besP P (nI cn) (nI d) = nI o → rN M0 650 o = 0) → (¬ rN M 650 cn = 0 → ∃ o, o < clsP P ∧ ed0 (T 0) P cn o 0 ∧ ¬ rN M0 650 o = 0) → m = bI (b || decide (mkR M cn < mkR M0 cn)) → Ev none e 219 10 [some (.ref 633), some (.int m), some (.int (nI cn + 1)), o3] [] M v M' 0 0 → ∃ M2 o3, RST T P M2 ∧ FZ noF mrW noO M0 M2 ∧ mkW (T 0) P M2 ∧ StE (ed0 (T 0) P) (clsP P) cn (mkR M0) (mkR M2) ∧ Ev none e 219 10 [some (.ref 633), some (.int (bI (b || decide (mkR M2 cn < mkR M0 cn)))), some (.int (nI (cn + 1))), o3] [] M2 v M' 0 0 := fun M m o3 hR hF hm hx hA hB em H => by
    rw [em, n1] at H
    refine ⟨M, o3, hR, hF, hm, ⟨fun x _ hne => ?_, ?_, fun o w ho he => ?_, ?_⟩, H⟩
    · unfold mkR
      rw [hx x hne]
    · rw [mkR_0 h0]
      exact mkR_le
    · obtain ⟨ew, _⟩ := ed0_w he
      rw [ew, Int.add_zero]
      by_cases q : rN M 650 cn = 0
      · obtain ⟨_, d, d8, d1, _⟩ := he
        rw [mkR_0 (hA q d o d8 ho d1)]
        exact mkR_le
      · rw [mkR_1 q]
        exact mkR_ge
    · by_cases q : rN M 650 cn = 0
      · exact Or.inl (by rw [mkR_0 q, mkR_0 h0])
      · obtain ⟨o, o1, o2, o4⟩ := hB q
        exact Or.inr ⟨o, 0, o1, o2, by rw [mkR_1 q, mkR_1 o4]; rfl⟩
  intro q
  induction q with
  | zero =>
    intro k M hk hR hF hm hx hA hB H
    have ek : k = 8 := by omega
    subst ek
    have er : rI M 650 (nI cn) = rN M 650 cn := rI_n tc
    rcases rsp_40 hR.1 H with ⟨_, b1, b2, _, H⟩ | ⟨_, b1, b2, _, H⟩ | ⟨_, b1, H⟩ | ⟨b1, _⟩ | ⟨b1, _⟩ | ⟨b1, _⟩ | ⟨b1, _⟩ | ⟨b1, _⟩ | ⟨b1, _⟩
    · rw [er] at b2
      rw [bI_0] at b1
      exact ends M 0 _ hR hF hm hx hA hB (by rw [b1, mkR_0 b2, mkR_0 h0]; rfl) H
    · rw [er] at b2
      rw [bI_0] at b1
      exact ends M 1 _ hR hF hm hx hA hB (by rw [b1, mkR_1 b2, mkR_0 h0]; rfl) H
    · rw [bI_0, Bool.not_eq_false] at b1
      exact ends M 1 _ hR hF hm hx hA hB (by rw [b1]; rfl) H
    all_goals exact absurd (by decide) b1
  | succ q ih =>
    intro k M hk hR hF hm hx hA hB H
    have k8 : k < 8 := by omega
    have tk : (nI k).toInt = (k : Int) := nI_toInt (by omega)
    have er : rI M 650 (nI cn) = rN M 650 cn := rI_n tc
    have nx : nI k + 1 = nI (k + 1) := nI_p1 (by omega)
    have eb : G_194 M (nI cn) (nI k) = besP P (nI cn) (nI k) := g194_ok hR
    have z0 : vp_nar .boolean 0 = 0 := nar_bI false
    have z1 : vp_nar .boolean 1 = 1 := nar_bI true
    have S := hR.1
    have go0 : rN M 650 cn = 0 → (∀ o, o < clsP P → besP P (nI cn) (nI k) = nI o → rN M0 650 o = 0) → Ev none e 219 40 [some (.ref 633), some (.int (bI b)), some (.int (nI cn)), some (.int (nI k + 1))] [] (wI M 650 (nI cn).toNatClampNeg (vp_nar .boolean 0)) v M' 0 0 → ∃ M2 o3, RST T P M2 ∧ FZ noF mrW noO M0 M2 ∧ mkW (T 0) P M2 ∧ StE (ed0 (T 0) P) (clsP P) cn (mkR M0) (mkR M2) ∧ Ev none e 219 10 [some (.ref 633), some (.int (bI (b || decide (mkR M2 cn < mkR M0 cn)))), some (.int (nI (cn + 1))), o3] [] M2 v M' 0 0 := fun hz hn H => by
      rw [cl_n tc, z0, nx] at H
      have F1 : FZ noF mrW noO M (wI M 650 cn 0) := FZ.wI rfl
      have same : ∀ x, rN (wI M 650 cn 0) 650 x = rN M 650 x := fun x => by
        by_cases q : x = cn
        · rw [q, mk_eq S c2, hz]
        · exact mk_ne q
      refine ih (k + 1) _ (by omega) (hR.mk S.ki F1) (hF.trans F1) (fun c hc h => hm c hc (by rw [← same c]; exact h)) (fun x h => (same x).trans (hx x h)) (fun _ d o hd ho hb => ?_) (fun h => absurd ((same cn).trans hz) h) H
      by_cases qd : d = k
      · rw [qd] at hb
        exact hn o ho hb
      · exact hA hz d o (by omega) ho hb
    have inn : ¬ besP P (nI cn) (nI k) < 0 → ∃ o, o < clsP P ∧ besP P (nI cn) (nI k) = nI o ∧ rI M 650 (besP P (nI cn) (nI k)) = rN M 650 o := fun h => by
      rcases besP_in (d := nI k) hw ic with q | q
      · exact absurd (by rw [q]; decide) h
      · have q0 := q.1
        have q1 := q.2
        have o2 : besP P (nI cn) (nI k) = nI (besP P (nI cn) (nI k)).toInt.toNat := Int32.toInt_inj.mp (by rw [nI_toInt (by omega)]; omega)
        exact ⟨_, q1, o2, rI_n (by omega)⟩
    have same0 : rN M 650 cn = 0 → ∀ o, rN M 650 o = rN M0 650 o := fun hz o => by
      by_cases q : o = cn
      · rw [q, hz, h0]
      · exact hx o q
    have uniq : ∀ o o' : Nat, o < clsP P → o' < clsP P → nI o = nI o' → o = o' := fun o o' h1 h2 h => by
      have a1 : (nI o).toInt = (o : Int) := nI_toInt (by omega)
      have a2 : (nI o').toInt = (o' : Int) := nI_toInt (by omega)
      rw [h] at a1
      omega
    rcases rsp_40 S H with ⟨b1, _⟩ | ⟨b1, _⟩ | ⟨b1, _⟩ | ⟨_, b2, b3, _, _, H⟩ | ⟨_, b2, b3, b4, _, _, _, H⟩ | ⟨_, b2, b3, b4, b5, _, _, _, H⟩ | ⟨_, b2, b3, b4, b5, _, _, _, H⟩ | ⟨_, b2, b3, _, _, H⟩ | ⟨_, b2, b3, _, H⟩
    · have := Int32.le_iff_toInt_le.mp b1
      omega
    · have := Int32.le_iff_toInt_le.mp b1
      omega
    · have := Int32.le_iff_toInt_le.mp b1
      omega
    · rw [er] at b2
      rw [eb] at b3
      refine go0 b2 (fun o ho hb => ?_) H
      rw [hb] at b3
      have := Int32.lt_iff_toInt_lt.mp b3
      rw [nI_toInt (by omega)] at this
      have t0 : (0 : Int32).toInt = 0 := rfl
      omega
    · rw [er] at b2
      rw [eb] at b3 b4
      obtain ⟨o, o1, o2, o3⟩ := inn b3
      refine go0 b2 (fun o' ho' hb => ?_) H
      rw [uniq o' o ho' o1 (by rw [← hb, o2]), ← same0 b2 o, ← o3]
      exact b4
    · rw [er] at b2
      rw [eb] at b3 b4 b5
      obtain ⟨o, o1, o2, o3⟩ := inn b3
      refine go0 b2 (fun o' ho' hb => ?_) H
      rw [uniq o' o ho' o1 (by rw [← hb, o2])]
      by_cases q : rN M0 650 o = 0
      · exact q
      · obtain ⟨io, _, _⟩ := nIin hw o1
        have h1 := hm o o1 (by rw [same0 b2 o]; exact q)
        rw [o2, g150_ok hR hw io, bI_0, h1] at b5
        cases b5
    · rw [er] at b2
      rw [eb] at b3 b4 b5
      obtain ⟨o, o1, o2, o3⟩ := inn b3
      rw [cl_n tc, z1, nx] at H
      have F1 : FZ noF mrW noO M (wI M 650 cn 1) := FZ.wI rfl
      have e1 : rN (wI M 650 cn 1) 650 cn = 1 := mk_eq S c2 1
      refine ih (k + 1) _ (by omega) (hR.mk S.ki F1) (hF.trans F1) (fun c hc h => ?_) (fun x h => (mk_ne h).trans (hx x h)) (fun h => by rw [e1] at h; exact absurd h (by decide)) (fun _ => ⟨o, o1, ed0_of hwn k8 o2, fun h => b4 (by rw [o3, same0 b2 o, h])⟩) H
      by_cases q : c = cn
      · rw [q]
        exact hwn
      · exact hm c hc (by rw [← mk_ne (M := M) (x := 1) q]; exact h)
    · rw [er] at b2
      rw [bI_0] at b3
      exact ends M 1 _ hR hF hm hx (fun h => absurd h b2) hB (by rw [b3, mkR_1 b2, mkR_0 h0]; rfl) H
    · rw [er] at b2
      rw [bI_0, Bool.not_eq_false] at b3
      exact ends M 1 _ hR hF hm hx (fun h => absurd h b2) hB (by rw [b3]; rfl) H
/-- a round -/
theorem rsp_up (hw : wh4 P) : ∀ (q cn : Nat) (b : Bool) (M : Mem) (o3 : Option Value), cn + q = clsP P → RST T P M → mkW (T 0) P M → PsE (ed0 (T 0) P) (clsP P) (fun x => x < cn) f0 (mkR M) b → Ev none e 219 10 [some (.ref 633), some (.int (bI b)), some (.int (nI cn)), o3] [] M v M' 0 0 → ∃ M2 b2 c2 o4, RST T P M2 ∧ mkW (T 0) P M2 ∧ FZ noF mrW noO M M2 ∧ PsE (ed0 (T 0) P) (clsP P) (fun x => x < clsP P) f0 (mkR M2) b2 ∧ Ev none e 219 2 [some (.ref 633), some (.int (bI b2)), some (.int c2), o4] [] M2 v M' 0 0 := by
  obtain ⟨_, c256, _⟩ := cls_int hw
  intro q
  induction q with
  | zero =>
    intro cn b M o3 hr hR hm hp H
    have hg := g144_ok hR hw
    have ec : cn = clsP P := by omega
    rcases rsp_10 hR.1 H with ⟨_, H⟩ | ⟨a1, _⟩ | ⟨a1, _⟩ | ⟨a1, _⟩
    · exact ⟨M, b, nI cn, o3, hR, hm, FZ.refl _, hp.more (fun c hc _ => by omega), H⟩
    all_goals exact absurd (Int32.le_iff_toInt_le.mpr (by rw [hg, nI_toInt (by omega)]; omega)) a1
  | succ q ih =>
    intro cn b M o3 hr hR hm hp H
    have hg := g144_ok hR hw
    have hc : cn < clsP P := by omega
    obtain ⟨ic, tc, c2⟩ := nIin hw hc
    have er : rI M 650 (nI cn) = rN M 650 cn := rI_n tc
    have n1 : nI cn + 1 = nI (cn + 1) := nI_p1 (by omega)
    have same : StE (ed0 (T 0) P) (clsP P) cn (mkR M) (mkR M) → Ev none e 219 10 [some (.ref 633), some (.int (bI b)), some (.int (nI cn + 1)), o3] [] M v M' 0 0 → ∃ M2 b2 c2 o4, RST T P M2 ∧ mkW (T 0) P M2 ∧ FZ noF mrW noO M M2 ∧ PsE (ed0 (T 0) P) (clsP P) (fun x => x < clsP P) f0 (mkR M2) b2 ∧ Ev none e 219 2 [some (.ref 633), some (.int (bI b2)), some (.int c2), o4] [] M2 v M' 0 0 := fun st H => by
      rw [n1] at H
      have p2 := hp.step hc st
      rw [decide_eq_false (Int.lt_irrefl _), Bool.or_false] at p2
      exact ih (cn + 1) b M o3 (by omega) hR hm (p2.more (fun c _ hx => by
        by_cases z : c = cn
        · exact Or.inl z
        · exact Or.inr (by omega))) H
    rcases rsp_10 hR.1 H with ⟨a1, _⟩ | ⟨_, a2, H⟩ | ⟨_, a2, a3, _, H⟩ | ⟨_, a2, a3, _, H⟩
    · have := Int32.le_iff_toInt_le.mp a1
      rw [hg, tc] at this
      omega
    · rw [g150_ok hR hw ic, bI_0] at a2
      refine same ⟨fun _ _ _ => rfl, Int.le_refl _, fun o w ho he => ?_, Or.inl rfl⟩ H
      have := (ed0_w he).2
      rw [a2] at this
      cases this
    · rw [g150_ok hR hw ic, bI_0, Bool.not_eq_false] at a2
      rw [er] at a3
      obtain ⟨M1, o4, R1, F1, W1, st, H⟩ := rsp_d hw hc a2 hR.1 a3 8 0 M rfl hR (FZ.refl _) hm (fun _ _ => rfl) (fun _ d o hd => absurd hd (Nat.not_lt_zero d)) (fun h => absurd a3 h) H
      obtain ⟨M2, b2, c3, o5, q1, q2, q3, q4, q5⟩ := ih (cn + 1) _ M1 o4 (by omega) R1 W1 ((hp.step hc st).more (fun c _ hx => by
        by_cases z : c = cn
        · exact Or.inl z
        · exact Or.inr (by omega))) H
      exact ⟨M2, b2, c3, o5, q1, q2, F1.trans q3, q4, q5⟩
    · rw [er] at a3
      refine same ⟨fun _ _ _ => rfl, Int.le_refl _, fun o w ho he => ?_, Or.inl rfl⟩ H
      rw [mkR_1 a3, (ed0_w he).1, Int.add_zero]
      exact mkR_ge
theorem rsp_l (hw : wh4 P) : ∀ (q : Nat) (M : Mem) (o2 o3 : Option Value), clsP P ≤ q + ctN (fun c => decide (mkR M c = 0)) (clsP P) → RST T P M → mkW (T 0) P M → LwE (ed0 (T 0) P) (clsP P) v0 (mkR M) → Ev none e 219 2 [some (.ref 633), some (.int 1), o2, o3] [] M v M' 0 0 → v = none ∧ RST T P M' ∧ mkW (T 0) P M' ∧ FZ noF mrW noO M M' ∧ GfE (ed0 (T 0) P) (clsP P) v0 (mkR M') := by
  have z1 : (1 : Int32) = bI true := rfl
  intro q
  induction q with
  | zero =>
    intro M o2 o3 hq hR hm hL H
    rcases rsp_2 hR.1 H with ⟨a1, _⟩ | ⟨_, H⟩
    · exact absurd a1 (by decide)
    obtain ⟨M2, b2, c2, o4, R2, W2, F2, p2, H⟩ := rsp_up (f0 := mkR M) hw (clsP P) 0 false M o3 (by omega) hR hm (PsE.refl (fun c => Nat.not_lt_zero c)) H
    cases b2 with
    | false =>
      rcases rsp_2 R2.1 H with ⟨_, r1, r2⟩ | ⟨a1, _⟩
      · rw [r2]
        exact ⟨r1, R2, W2, F2, hL.ps p2, p2.fix (fun c hc => hc)⟩
      · exact absurd rfl a1
    | true =>
      obtain ⟨_, j2⟩ := two_more (F := 1000000) (by decide) (fun c _ => by unfold mkR; split <;> simp) (fun c o w _ _ he => (ed0_w he).1) p2
      have := ctN_le (p := fun c => decide (mkR M2 c = 0)) (clsP P)
      omega
  | succ q ih =>
    intro M o2 o3 hq hR hm hL H
    rcases rsp_2 hR.1 H with ⟨a1, _⟩ | ⟨_, H⟩
    · exact absurd a1 (by decide)
    obtain ⟨M2, b2, c2, o4, R2, W2, F2, p2, H⟩ := rsp_up (f0 := mkR M) hw (clsP P) 0 false M o3 (by omega) hR hm (PsE.refl (fun c => Nat.not_lt_zero c)) H
    cases b2 with
    | false =>
      rcases rsp_2 R2.1 H with ⟨_, r1, r2⟩ | ⟨a1, _⟩
      · rw [r2]
        exact ⟨r1, R2, W2, F2, hL.ps p2, p2.fix (fun c hc => hc)⟩
      · exact absurd rfl a1
    | true =>
      obtain ⟨_, j2⟩ := two_more (F := 1000000) (by decide) (fun c _ => by unfold mkR; split <;> simp) (fun c o w _ _ he => (ed0_w he).1) p2
      obtain ⟨w1, w2, w3, w4, w5⟩ := ih M2 (some (.int c2)) o4 (by omega) R2 W2 (hL.ps p2) H
      exact ⟨w1, w2, w3, F2.trans w4, w5⟩
theorem rsp_ok (hw : wh4 P) (hR : RST T P M) (hm : mkW (T 0) P M) (H : Ev none e 219 0 [some (.ref 633), none, none, none] [] M v M' 0 0) : v = none ∧ RST T P M' ∧ mkW (T 0) P M' ∧ FZ noF mrW noO M M' ∧ GfE (ed0 (T 0) P) (clsP P) (mkR M) (mkR M') := rsp_l hw (clsP P) M none none (Nat.le_add_right _ _) hR hm LwE.refl (rsp_0 hR.1 H)
/-! pieces -/
theorem rpc_a (hw : wh4 P) : ∀ (q cn : Nat) (M : Mem), cn + q = clsP P → RST T P M → (∀ c, c < cn → rN M 650 c = 0) → Ev none e 218 7 [some (.ref 633), some (.int (nI cn)), none] [] M v M' 0 0 → ∃ M2, RST T P M2 ∧ (∀ c, c < clsP P → rN M2 650 c = 0) ∧ Ev none e 218 32 [some (.ref 633), some (.int 0), some (.int 0)] [] M2 v M' 0 0 := by
  obtain ⟨_, c256, _⟩ := cls_int hw
  intro q
  induction q with
  | zero =>
    intro cn M hr hR hz H
    have hg := g144_ok hR hw
    rcases rpc_7 hR.1 H with ⟨_, H⟩ | ⟨a1, _⟩
    · exact ⟨M, hR, fun c hc => hz c (by omega), H⟩
    · exact absurd (Int32.le_iff_toInt_le.mpr (by rw [hg, nI_toInt (by omega)]; omega)) a1
  | succ q ih =>
    intro cn M hr hR hz H
    have hg := g144_ok hR hw
    obtain ⟨ic, tc, c2⟩ := nIin hw (show cn < clsP P by omega)
    rcases rpc_7 hR.1 H with ⟨a1, _⟩ | ⟨_, _, H⟩
    · have := Int32.le_iff_toInt_le.mp a1
      rw [hg, tc] at this
      omega
    · rw [cl_n tc, nI_p1 (by omega), show vp_nar .boolean 0 = 0 from nar_bI false] at H
      exact ih (cn + 1) _ (by omega) (hR.mk hR.1.ki (FZ.wI rfl)) (fun c hc => by
        by_cases z : c = cn
        · rw [z]
          exact mk_eq hR.1 c2 0
        · rw [mk_ne z]
          exact hz c (by omega)) H
theorem rpc_l (hw : wh4 P) : ∀ (q cn : Nat) (M : Mem) (kz : Int32), cn + q = clsP P → RST T P M → mkW (T 0) P M → Ev none e 218 32 [some (.ref 633), some (.int kz), some (.int (nI cn))] [] M v M' 0 0 → ∃ r, v = some (.int r) ∧ pieR (T 0) P q cn (mkR M) kz r := by
  obtain ⟨_, c256, _⟩ := cls_int hw
  intro q
  induction q with
  | zero =>
    intro cn M kz hr hR hm H
    have hg := g144_ok hR hw
    rcases rpc_32 hR.1 H with ⟨_, r1, _⟩ | ⟨a1, _⟩ | ⟨a1, _⟩ | ⟨a1, _⟩
    · exact ⟨kz, r1, rfl⟩
    all_goals exact absurd (Int32.le_iff_toInt_le.mpr (by rw [hg, nI_toInt (by omega)]; omega)) a1
  | succ q ih =>
    intro cn M kz hr hR hm H
    have hg := g144_ok hR hw
    have hc : cn < clsP P := by omega
    obtain ⟨ic, tc, c2⟩ := nIin hw hc
    have er : rI M 650 (nI cn) = rN M 650 cn := rI_n tc
    have n1 : nI cn + 1 = nI (cn + 1) := nI_p1 (by omega)
    rcases rpc_32 hR.1 H with ⟨a1, _⟩ | ⟨_, a2, H⟩ | ⟨_, a2, a3, _, _, e1, v1, M1, _, H1, H⟩ | ⟨_, a2, a3, _, H⟩
    · have := Int32.le_iff_toInt_le.mp a1
      rw [hg, tc] at this
      omega
    · rw [g150_ok hR hw ic, bI_0] at a2
      rw [n1] at H
      obtain ⟨r, r1, r2⟩ := ih (cn + 1) M kz (by omega) hR hm H
      exact ⟨r, r1, Or.inr ⟨fun z => by rw [a2] at z; exact absurd z.1 (by decide), r2⟩⟩
    · rw [g150_ok hR hw ic, bI_0, Bool.not_eq_false] at a2
      rw [er] at a3
      rw [cl_n tc, show vp_nar .boolean 1 = 1 from nar_bI true] at H1
      have S := hR.1
      have e1 : rN (wI M 650 cn 1) 650 cn = 1 := mk_eq S c2 1
      have R1 := hR.mk S.ki (FZ.wI (M := M) (a := 650) (j := cn) (x := 1) rfl)
      have W1 : mkW (T 0) P (wI M 650 cn 1) := fun c hc h => by
        by_cases z : c = cn
        · rw [z]
          exact a2
        · exact hm c hc (by rw [← mk_ne (M := M) (x := 1) z]; exact h)
      obtain ⟨rv, R2, W2, F2, G2⟩ := rsp_ok hw R1 W1 H1
      rw [rv] at H
      have H := rpc_74 R2.1 H
      rw [n1] at H
      obtain ⟨r, r1, r2⟩ := ih (cn + 1) M1 (kz + 1) (by omega) R2 W2 H
      refine ⟨r, r1, Or.inl ⟨⟨a2, fun z => by rw [mkR_0 a3] at z; exact absurd z (by decide)⟩, mkR M1, G2.congr (fun x _ => ?_), r2⟩⟩
      unfold set0
      by_cases z : x = cn
      · rw [if_pos z, z]
        exact mkR_1 (by rw [e1]; decide)
      · rw [if_neg z]
        unfold mkR
        rw [mk_ne z]
    · rw [er] at a3
      rw [n1] at H
      obtain ⟨r, r1, r2⟩ := ih (cn + 1) M kz (by omega) hR hm H
      exact ⟨r, r1, Or.inr ⟨fun z => z.2 (mkR_1 a3), r2⟩⟩
theorem rpieces_ok (hw : wh4 P) (hR : RST T P M) (H : Ev none e 218 0 [some (.ref 633), none, none] [] M v M' 0 0) : ∃ (r : Int32) (f : ROW), v = some (.int r) ∧ (∀ x, x < clsP P → f x = 1000000) ∧ pieR (T 0) P (clsP P) 0 f 0 r := by
  have R1 := hR.w0 0 (by decide) 0
  obtain ⟨M2, R2, hz, H⟩ := rpc_a hw (clsP P) 0 (wF M 633 0 0) (by omega) R1 (fun c hc => absurd hc (Nat.not_lt_zero c)) (rpc_0 hR.1 H)
  obtain ⟨r, r1, r2⟩ := rpc_l hw (clsP P) 0 M2 0 (by omega) R2 (fun c hc h => absurd (hz c hc) h) H
  exact ⟨r, mkR M2, r1, fun x hx => mkR_0 (hz x hx), r2⟩
set_option maxRecDepth 200000 in
/-- pieces answers alike -/
theorem pt_17 (hS : SV7 M) : ∃ r M1 M2, Ev none 999 98 0 [some (.ref 0)] [] M (some (.int r)) M1 0 0 ∧ Ev none 999 218 0 [some (.ref 633), none, none] [] M1 (some (.int r)) M2 0 0 ∧ INV M1 ∧ SV7 M2 := by
  obtain ⟨r1, r2, M1, M2, E1, E2, V1, S2⟩ := pj_17 hS
  obtain ⟨z, y, l, lb, lt, T, P, PI, hB, hN, hC, hD, hR, hI⟩ := hS
  obtain ⟨_, F1, _⟩ := inv_d (c := kX10_pieces) (k := 1) (ws := [.ref 0]) kX10_pieces_ok (by decide +kernel) (by decide +kernel) (by decide) (Two.mk rfl trivial) hB.1 E1
  have hX' := hB.2.1.frm hB.1.1.sh F1 (by decide +kernel)
  have R1 := hR.frm ⟨V1.1.sh, hX'⟩ F1 (by decide +kernel)
  obtain ⟨r, q1, q2⟩ := pieces_ok hC hB.1 (by decide) E1
  obtain ⟨r', f, q3, q4, q5⟩ := rpieces_ok hC.ok.1.1 R1 E2
  cases q1
  cases q3
  have e : r2 = r1 := pieR_uniq (clsP P) 0 f _ 0 r2 r1 (by omega) q4 q5 q2
  subst e
  exact ⟨r2, M1, M2, E1, E2, V1, S2⟩
end RPIE
