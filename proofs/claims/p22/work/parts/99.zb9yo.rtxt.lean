/-! THE REFERENCE: text, told, law, habit, fault -/
def TXR (M : Mem) (t : Nat) (q : Sg × List Lnq) : Prop := LQT M t q.2 ∧ ∀ j c, j < 200 → q.1.2.2[j]? = some c → rN M 645 (200 * t + j) = c.1 ∧ rN M 646 (200 * t + j) = c.2.1 ∧ rN M 647 (200 * t + j) = c.2.2
def inT (t b j : Nat) : Prop := (b = 639 ∧ j = t) ∨ (640 ≤ b ∧ b ≤ 644 ∧ 16 * t ≤ j ∧ j < 16 * t + 16) ∨ (645 ≤ b ∧ b ≤ 647 ∧ 200 * t ≤ j ∧ j < 200 * t + 200)
section RTO
variable {e n kk : Nat} {M M1 M' : Mem} {v : Option Value}
theorem TXR.low {t' t : Nat} {q : Sg × List Lnq} (h : TXR M t' q) (ht : t' < 7) (hne : t' ≠ t) (hL : ∀ b j, lowQ b j → ¬ inT t b j → rN M' b j = rN M b j) : TXR M' t' q := by
  obtain ⟨⟨h1, h2, h3⟩, h4⟩ := h
  have g : ∀ b j, 640 ≤ b → b ≤ 644 → j < 16 → rN M' b (16 * t' + j) = rN M b (16 * t' + j) := fun b j b1 b2 hj => hL b _ (by unfold lowQ; omega) (by unfold inT; omega)
  have g2 : ∀ b j, 645 ≤ b → b ≤ 647 → j < 200 → rN M' b (200 * t' + j) = rN M b (200 * t' + j) := fun b j b1 b2 hj => hL b _ (by unfold lowQ; omega) (by unfold inT; omega)
  refine ⟨⟨by rw [hL 639 t' (by unfold lowQ; omega) (by unfold inT; omega)]; exact h1, h2, fun j l hj => ?_⟩, fun j c h5 hj => ?_⟩
  · have hj16 : j < 16 := by
      rcases Nat.lt_or_ge j q.2.length with x | x
      · omega
      · rw [List.getElem?_eq_none x] at hj
        cases hj
    rw [g 640 j (by decide) (by decide) hj16, g 641 j (by decide) (by decide) hj16, g 642 j (by decide) (by decide) hj16, g 643 j (by decide) (by decide) hj16, g 644 j (by decide) (by decide) hj16]
    exact h3 j l hj
  · rw [g2 645 j (by decide) (by decide) h5, g2 646 j (by decide) (by decide) h5, g2 647 j (by decide) (by decide) h5]
    exact h4 j c h5 hj
theorem rtx_ok {t : Nat} {tz l : Int32} {law : Bool} {c3 c4 c5 : Option Value} (hl : l = bif law then 1 else 0) (ht : t ≤ 6) (hz : tz.toInt = (t : Int)) (hn2 : n ≤ 440) (hk : 33 ≤ kk) (hS : SQ M) (hn : (zI M 633 3).toInt = (n : Int)) (hp : zI M 633 4 = 0) (H : Ev none e 181 0 [some (.ref 633), some (.int tz), some (.int l), c3, c4, c5] [] M v M' 0 0) : (∃ x, v = some (.int x) ∧ x.toInt = ansB (rdB (bR M) n law ((prS (bR M) kk).1 1))) ∧ SQ M' ∧ FA fQl wQl M M' ∧ zI M' 633 26 = fltB (rdB (bR M) n law ((prS (bR M) kk).1 1)) ∧ (match rdB (bR M) n law ((prS (bR M) kk).1 1) with
    | .inr _ => ∀ b j, lowQ b j → rN M' b j = rN M b j
    | .inl q => TXR M' t q) ∧ ∀ b j, lowQ b j → ¬ inT t b j → rN M' b j = rN M b j := by
  obtain ⟨_, e1, v1, M1, he, H1, H⟩ := teq_0 hS H
  have H1 : Ev none e1 162 0 [some (.ref 633), none, none, none] [] (wF (wF (wI (wF M 633 26 0) 639 7 0) 633 19 0) 633 21 0) v1 M1 0 0 := H1
  have s0 : SQ (wF (wF (wI (wF M 633 26 0) 639 7 0) 633 19 0) 633 21 0) := hS.kf.ki.kf.kf
  have f0 : FB [(633, 26), (633, 19), (633, 21)] [639] M (wF (wF (wI (wF M 633 26 0) 639 7 0) 633 19 0) 633 21 0) := (((FB.wF (by simp)).trans (FB.wI (by simp))).trans (FB.wF (by simp))).trans (FB.wF (by simp))
  have b0 : bR (wF (wF (wI (wF M 633 26 0) 639 7 0) 633 19 0) 633 21 0) = bR M := f0.bR (by decide)
  have w7 : (zrw (wF M 633 26 0) 639).length = 8 := (hS.kf.1.row qa_639 qw_67).2
  obtain ⟨rfl, s1, f1, t1⟩ := nx_all hn2 n 0 _ (by omega) (by omega) s0 (by rw [f0.fi (by decide)]; exact hn) (by rw [f0.fi (by decide), hp]; rfl) H1
  rw [b0] at t1
  have R1 : R0 (bR M) n M1 (tlS (bR M) n 0, 0, []) := by
    refine ⟨s1, (f1.bR (by decide)).trans b0, by rw [f1.fi (by decide), f0.fi (by decide)]; exact hn, t1, tlS_wf n 0 (by omega) (by omega), tlS_gd hn2 n 0 (by omega) (by omega), ?_, ⟨?_, fun j c h => by cases h⟩, ?_⟩
    · rw [f1.fi (by decide), fI_wF_eq hS.kf.ki.kf.1 qa_633 qi_61_21]
      rfl
    · rw [f1.fi (by decide), fI_wF_ne (by decide), fI_wF_eq hS.kf.ki.1 qa_633 qi_61_19]
      rfl
    · rw [f1.fi (by decide), fI_wF_ne (by decide), fI_wF_ne (by decide), fI_wI, fI_wF_eq hS.1 qa_633 qi_61_26]
  have L1 : LQ M1 [] := by
    refine ⟨?_, Nat.zero_le _, fun j l h => by cases h⟩
    rw [f1.rn (by decide), rN_wF, rN_wF, rN_wI_eq (by omega)]
    rfl
  have F1 : FB fQl wQl M M1 := (f0.more (by decide) (by decide)).trans (f1.more (by decide) (by decide))
  obtain ⟨e2, v2, M2, he2, H2, H⟩ := teq_27 s1 H
  have R := rdq_loop hl hn2 hk 17 _ [] M1 M2 v2 none none none rfl R1 (Nat.zero_le _) L1 H2
  show (∃ x, v = some (.int x) ∧ x.toInt = ansB (txB (bR M) law ((prS (bR M) kk).1 1) (decide (400 < n)) 17 (tlS (bR M) n 0, 0, []) [])) ∧ SQ M' ∧ FA fQl wQl M M' ∧ zI M' 633 26 = fltB (txB (bR M) law ((prS (bR M) kk).1 1) (decide (400 < n)) 17 (tlS (bR M) n 0, 0, []) []) ∧ (match txB (bR M) law ((prS (bR M) kk).1 1) (decide (400 < n)) 17 (tlS (bR M) n 0, 0, []) [] with
    | .inr _ => ∀ b j, lowQ b j → rN M' b j = rN M b j
    | .inl q => TXR M' t q) ∧ ∀ b j, lowQ b j → ¬ inT t b j → rN M' b j = rN M b j
  cases hr : txB (bR M) law ((prS (bR M) kk).1 1) (decide (400 < n)) 17 (tlS (bR M) n 0, 0, []) [] with
  | inr f =>
    rw [hr] at R
    obtain ⟨rfl, s2, f2, z1, z2⟩ := R
    rcases teq_32 s2 H with ⟨_, rfl, rfl⟩ | ⟨q, _⟩
    · obtain ⟨m, hm⟩ : ∃ m : Int32, m = -1 := ⟨_, rfl⟩
      refine ⟨⟨_, rfl, ?_⟩, s2, (F1.trans f2).1, z1, (fun b j hl => (F1.trans f2).2 b j hl), fun b j hl _ => (F1.trans f2).2 b j hl⟩
      rw [← hm, i32_m1x hm (by omega), z2]
      rfl
    · exact absurd rfl q
  | inl q =>
    rw [hr] at R
    obtain ⟨rfl, f2, r2, l2⟩ := R
    rcases teq_32 r2.1 H with ⟨x, _⟩ | ⟨_, _, _, H⟩
    · exact absurd x (by decide)
    · rw [clI hz] at H
      have hlen : (rI M2 639 7).toInt = (q.2.length : Int) := l2.1
      have s3 : SQ (wI M2 639 t (rI M2 639 7)) := r2.1.ki
      have f3 : FA [] [639] M2 (wI M2 639 t (rI M2 639 7)) := FA.wI (by simp)
      have w7b : (zrw M2 639).length = 8 := (r2.1.1.row qa_639 qw_67).2
      have d3 : rN (wI M2 639 t (rI M2 639 7)) 639 t = rI M2 639 7 := rN_wI_eq (by omega)
      obtain ⟨M4, ⟨d4, d5, H⟩, s4, f4, u4, c4⟩ := te_a ht hz 16 0 0 _ M' v _ _ (by omega) (by omega) rfl s3 H
      obtain ⟨M5, ⟨rfl, rfl⟩, s5, f5, u5, c5⟩ := te_b ht hz 200 0 0 M4 M' v _ _ (by omega) (by omega) rfl s4 H
      have hlast : rN M' 639 t = rI M2 639 7 := by
        rw [f5.rn (by decide), f4.rn (by decide), d3]
      refine ⟨⟨_, rfl, ?_⟩, s5, (((F1.trans f2).1.trans (f3.more (fun _ hq => by cases hq) (by decide))).trans (f4.more (fun _ hq => by cases hq) (by decide))).trans (f5.more (fun _ hq => by cases hq) (by decide)), ?_, ⟨⟨?_, l2.2.1, fun j l hj => ?_⟩, fun j c hj hc => ?_⟩, fun b j hl ht2 => ?_⟩
      · rw [rI_n hz, hlast, hlen]
        rfl
      · rw [f5.fi (by decide), f4.fi (by decide), f3.fi (by decide)]
        exact r2.2.2.2.2.2.2.2.2
      · rw [hlast]
        exact hlen
      · have hj16 : j < 16 := by
          rcases Nat.lt_or_ge j q.2.length with x | x
          · have := l2.2.1
            omega
          · rw [List.getElem?_eq_none x] at hj
            cases hj
        have g : ∀ b, b ∈ [640, 641, 642, 643, 644] → b ∉ [645, 646, 647] → b ∉ [639] → rN M' b (16 * t + j) = rN M2 b (112 + j) := fun b h1 h2 h3 => by
          rw [f5.rn h2, c4 b h1 j (by omega) hj16, f3.rn h3]
        rw [g 640 (by decide) (by decide) (by decide), g 641 (by decide) (by decide) (by decide), g 642 (by decide) (by decide) (by decide), g 643 (by decide) (by decide) (by decide), g 644 (by decide) (by decide) (by decide)]
        exact l2.2.2 j l hj
      · have g : ∀ b, b ∈ [645, 646, 647] → b ∉ [640, 641, 642, 643, 644] → b ∉ [639] → rN M' b (200 * t + j) = rN M2 b (1400 + j) := fun b h1 h2 h3 => by
          rw [c5 b h1 j (by omega) hj, f4.rn h2, f3.rn h3]
        rw [g 645 (by decide) (by decide) (by decide), g 646 (by decide) (by decide) (by decide), g 647 (by decide) (by decide) (by decide)]
        exact r2.2.2.2.2.2.2.2.1.2 j c hc
      · have g0 : rN M2 b j = rN M b j := (F1.trans f2).2 b j hl
        rw [← g0]
        unfold lowQ at hl
        unfold inT at ht2
        by_cases hb : 645 ≤ b
        · rw [u5 b j (by omega), f4.rn (by simp only [List.mem_cons, List.not_mem_nil, or_false]; omega), f3.rn (by simp only [List.mem_cons, List.not_mem_nil, or_false]; omega)]
        · rw [f5.rn (by simp only [List.mem_cons, List.not_mem_nil, or_false]; omega)]
          by_cases hc : 640 ≤ b
          · rw [u4 b j (by omega), f3.rn (by simp only [List.mem_cons, List.not_mem_nil, or_false]; omega)]
          · rw [f4.rn (by simp only [List.mem_cons, List.not_mem_nil, or_false]; omega), rN_wI_ne (by omega)]
/-- told once, or a number given -/
theorem tod_ok {k d : Int32} {ls : List Lnq} (hS : SQ M) (hL : LQT M 0 ls) (H : Ev none e 182 0 [some (.ref 633), some (.int k), some (.int d), none] [] M v M' 0 0) : v = some (.int (tvS ls k d)) ∧ M' = M := by
  obtain ⟨e1, v1, M1, he, H1, H⟩ := toq_0 hS H
  obtain ⟨rfl, y, rfl, hy⟩ := fdq_ok hS hL (Nat.zero_le _) rfl H1
  rcases toq_6 hS H with ⟨q, _, rfl, rfl⟩ | ⟨q, rfl, rfl⟩
  · rcases hy with ⟨x, _⟩ | ⟨_, _, _, x⟩
    · rw [Int32.lt_iff_toInt_lt] at x
      rw [Int32.le_iff_toInt_le] at q
      omega
    · rw [x d]
      exact ⟨rfl, rfl⟩
  · rcases hy with ⟨_, _, x⟩ | ⟨x, _⟩
    · rw [x d]
      exact ⟨rfl, rfl⟩
    · rw [Int32.le_iff_toInt_le] at q
      exact absurd x q
theorem LQT.frm {t : Nat} {ls : List Lnq} {F : List (Nat × Nat)} {W : List Nat} (h : LQT M t ls) (hF : FB F W M M') (w : ∀ b ∈ [639, 640, 641, 642, 643, 644], b ∉ W) : LQT M' t ls := by
  refine ⟨by rw [hF.rn (w _ (by simp))]; exact h.1, h.2.1, fun j l hj => ?_⟩
  rw [hF.rn (w _ (by simp)), hF.rn (w _ (by simp)), hF.rn (w _ (by simp)), hF.rn (w _ (by simp)), hF.rn (w _ (by simp))]
  exact h.2.2 j l hj
theorem TXR.frm {t : Nat} {q : Sg × List Lnq} {F : List (Nat × Nat)} {W : List Nat} (h : TXR M t q) (hF : FB F W M M') (w : ∀ b ∈ [639, 640, 641, 642, 643, 644, 645, 646, 647], b ∉ W) : TXR M' t q := by
  refine ⟨h.1.frm hF (fun b hb => w b (by simp only [List.mem_cons, List.not_mem_nil, or_false] at hb ⊢; omega)), fun j c hj hc => ?_⟩
  rw [hF.rn (w _ (by simp)), hF.rn (w _ (by simp)), hF.rn (w _ (by simp))]
  exact h.2 j c hj hc
def fQt : List (Nat × Nat) := [(633, 0), (633, 2), (633, 3), (633, 4), (633, 28), (633, 29), (633, 30)] ++ fQl
theorem tkn {m : Mem} (hS : SQ m) : SQ (X_139 (wF m 633 0 0)) ∧ FB [(633, 0), (633, 2), (633, 3), (633, 4)] [] m (X_139 (wF m 633 0 0)) ∧ zI (X_139 (wF m 633 0 0)) 633 3 = zI m 633 2 ∧ zI (X_139 (wF m 633 0 0)) 633 4 = 0 ∧ zI (X_139 (wF m 633 0 0)) 633 2 = 0 ∧ zI (X_139 (wF m 633 0 0)) 633 0 = 0 := by
  have s1 := hS.kf (a := 633) (k := 0) (x := 0)
  refine ⟨X_139_sx s1, ?_, ?_, ?_, ?_, ?_⟩ <;> unfold X_139
  · exact (((FB.wF (by simp)).trans (FB.wF (by simp))).trans (FB.wF (by simp))).trans (FB.wF (by simp))
  · rw [fI_wF_ne (by decide), fI_wF_ne (by decide), fI_wF_eq s1.1 qa_633 qi_61_3, fI_wF_ne (by decide)]
  · rw [fI_wF_eq s1.kf.kf.1 qa_633 qi_61_4]
  · rw [fI_wF_ne (by decide), fI_wF_eq s1.kf.1 qa_633 qi_61_2]
  · rw [fI_wF_ne (by decide), fI_wF_ne (by decide), fI_wF_ne (by decide), fI_wF_eq hS.1 qa_633 qi_61_0]
theorem rlaw_ok (hn2 : n ≤ 440) (hk : 33 ≤ kk) (hS : SQ M) (hn : (zI M 633 2).toInt = (n : Int)) (H : Ev none e 183 0 [some (.ref 633), none] [] M v M' 0 0) : (∃ x, v = some (.int x) ∧ x.toInt = ansB (rdB (bR M) n true ((prS (bR M) kk).1 1))) ∧ SQ M' ∧ FA fQt wQl M M' ∧ zI M' 633 26 = fltB (rdB (bR M) n true ((prS (bR M) kk).1 1)) ∧ zI M' 633 2 = 0 ∧ zI M' 633 0 = 0 ∧ (match rdB (bR M) n true ((prS (bR M) kk).1 1) with
    | .inr _ => zI M' 633 28 = zI M 633 28 ∧ zI M' 633 29 = zI M 633 29 ∧ zI M' 633 30 = zI M 633 30 ∧ ∀ t', t' < 7 → ∀ q, TXR M t' q → TXR M' t' q
    | .inl q => TXR M' 0 q ∧ zI M' 633 28 = tvS q.2 2 40 ∧ zI M' 633 29 = tvS q.2 3 50 ∧ zI M' 633 30 = tvS q.2 4 10) ∧ ∀ t', t' < 7 → t' ≠ 0 → ∀ q, TXR M t' q → TXR M' t' q := by
  obtain ⟨e1, v1, M1, he, H1, H⟩ := lrq_0 hS H
  obtain ⟨s0, f0, z3, z4, z2, z0⟩ := tkn hS
  have b0 : bR (X_139 (wF M 633 0 0)) = bR M := f0.bR (by decide)
  have R := rtx_ok (t := 0) (law := true) rfl (by omega) rfl hn2 hk s0 (by rw [z3]; exact hn) z4 H1
  rw [b0] at R
  obtain ⟨⟨x, rfl, hx⟩, s1, f1, w1, R, lo⟩ := R
  have f0t : FA fQt wQl M (X_139 (wF M 633 0 0)) := f0.1.more (by decide) (fun _ hq => by cases hq)
  have f1t : FA fQt wQl (X_139 (wF M 633 0 0)) M1 := f1.more (by decide) (fun _ hq => hq)
  cases hr : rdB (bR M) n true ((prS (bR M) kk).1 1) with
  | inr f =>
    rw [hr] at hx w1 R
    have hx : x.toInt = -1 - (f.2 : Int) := hx
    rcases lrq_15 s1 H with ⟨q, _⟩ | ⟨_, rfl, rfl⟩
    · rw [Int32.le_iff_toInt_le] at q
      have z0 : (0 : Int32).toInt = 0 := rfl
      omega
    · exact ⟨⟨x, rfl, hx⟩, s1, f0t.trans f1t, w1, by rw [f1.fi (by decide)]; exact z2, by rw [f1.fi (by decide)]; exact z0, ⟨by rw [f1.fi (by decide), f0.fi (by decide)], by rw [f1.fi (by decide), f0.fi (by decide)], by rw [f1.fi (by decide), f0.fi (by decide)], fun t' h1 q h => h.low (t := t' + 1) h1 (by omega) (fun b i a1 _ => (R b i a1).trans (f0.2 b i a1))⟩, fun t' h1 h2 q h => h.low h1 h2 (fun b i a1 a2 => (lo b i a1 a2).trans (f0.2 b i a1))⟩
  | inl q =>
    rw [hr] at hx w1 R
    have hx : x.toInt = (q.2.length : Int) := hx
    rcases lrq_15 s1 H with ⟨_, e2, v2, M2, he2, H2, Ha⟩ | ⟨y, _⟩
    · obtain ⟨rfl, rfl⟩ := tod_ok s1 R.1 H2
      obtain ⟨e3, v3, M3, he3, H3, Hb⟩ := lrq_30 s1 Ha
      have g1 : FB [(633, 28)] [] M2 (wF M2 633 28 (tvS q.2 2 40)) := FB.wF (by simp)
      obtain ⟨rfl, rfl⟩ := tod_ok s1.kf (R.1.frm g1 (fun _ _ h => by cases h)) H3
      obtain ⟨e4, v4, M4, he4, H4, Hc⟩ := lrq_41 s1.kf Hb
      have g2 : FB [(633, 28), (633, 29)] [] M2 (wF (wF M2 633 28 (tvS q.2 2 40)) 633 29 (tvS q.2 3 50)) := (FB.wF (by simp)).trans (FB.wF (by simp))
      obtain ⟨rfl, rfl⟩ := tod_ok s1.kf.kf (R.1.frm g2 (fun _ _ h => by cases h)) H4
      obtain ⟨rfl, rfl⟩ := lrq_52 s1.kf.kf Hc
      have g3 : FB [(633, 28), (633, 29), (633, 30)] [] M2 (wF (wF (wF M2 633 28 (tvS q.2 2 40)) 633 29 (tvS q.2 3 50)) 633 30 (tvS q.2 4 10)) := ((FB.wF (by simp)).trans (FB.wF (by simp))).trans (FB.wF (by simp))
      refine ⟨⟨x, rfl, hx⟩, s1.kf.kf.kf, (f0t.trans f1t).trans (g3.1.more (by decide) (fun _ hq => by cases hq)), by rw [g3.fi (by decide)]; exact w1, by rw [g3.fi (by decide), f1.fi (by decide)]; exact z2, by rw [g3.fi (by decide), f1.fi (by decide)]; exact z0, ⟨R.frm g3 (fun _ _ h => by cases h), ?_, ?_, ?_⟩, fun t' h1 h2 q h => h.low h1 h2 (fun b i a1 a2 => (g3.2 b i a1).trans ((lo b i a1 a2).trans (f0.2 b i a1)))⟩
      · rw [fI_wF_ne (by decide), fI_wF_ne (by decide), fI_wF_eq s1.1 qa_633 qi_61_28]
      · rw [fI_wF_ne (by decide), fI_wF_eq s1.kf.1 qa_633 qi_61_29]
      · rw [fI_wF_eq s1.kf.kf.1 qa_633 qi_61_30]
    · rw [Int32.le_iff_toInt_le] at y
      have z0 : (0 : Int32).toInt = 0 := rfl
      omega
theorem rhab_out {x : Int32} (hS : SQ M) (hx : ¬ (0 ≤ x.toInt ∧ x.toInt ≤ 5)) (H : Ev none e 184 0 [some (.ref 633), some (.int x)] [] M v M' 0 0) : v = some (.int (-1000)) ∧ M' = X_139 (wF M 633 0 0) := by
  rcases hrq_0 hS H with ⟨_, h⟩ | ⟨q, _⟩
  · exact h
  · exfalso
    refine q (g140.mpr ?_)
    rw [Int32.lt_iff_toInt_lt, Int32.lt_iff_toInt_lt]
    have z0 : (0 : Int32).toInt = 0 := rfl
    have z5 : (5 : Int32).toInt = 5 := rfl
    omega
theorem rhab_ok {x : Int32} {t : Nat} (ht : x.toInt = (t : Int)) (ht5 : t ≤ 5) (hn2 : n ≤ 440) (hk : 33 ≤ kk) (hS : SQ M) (hn : (zI M 633 2).toInt = (n : Int)) (H : Ev none e 184 0 [some (.ref 633), some (.int x)] [] M v M' 0 0) : (∃ x, v = some (.int x) ∧ x.toInt = ansB (rdB (bR M) n false ((prS (bR M) kk).1 1))) ∧ SQ M' ∧ FA fQt wQl M M' ∧ zI M' 633 26 = fltB (rdB (bR M) n false ((prS (bR M) kk).1 1)) ∧ zI M' 633 2 = 0 ∧ zI M' 633 0 = 0 ∧ (match rdB (bR M) n false ((prS (bR M) kk).1 1) with
    | .inr _ => ∀ t', t' < 7 → ∀ q, TXR M t' q → TXR M' t' q
    | .inl q => TXR M' (t + 1) q) ∧ ∀ t', t' < 7 → t' ≠ t + 1 → ∀ q, TXR M t' q → TXR M' t' q := by
  have z0 : (0 : Int32).toInt = 0 := rfl
  have z5 : (5 : Int32).toInt = 5 := rfl
  have z1 : (1 : Int32).toInt = 1 := rfl
  rcases hrq_0 hS H with ⟨q, _⟩ | ⟨_, e1, v1, M1, he, H1, H⟩
  · have q := g140.mp q
    rw [Int32.lt_iff_toInt_lt, Int32.lt_iff_toInt_lt] at q
    omega
  · obtain ⟨s0, f0, z3, z4, z2, z0⟩ := tkn hS
    have b0 : bR (X_139 (wF M 633 0 0)) = bR M := f0.bR (by decide)
    have R := rtx_ok (t := t + 1) (law := false) rfl (by omega) (by rw [i32_add (by omega) (by omega), z1, ht]; omega) hn2 hk s0 (by rw [z3]; exact hn) z4 H1
    rw [b0] at R
    obtain ⟨⟨y, rfl, hy⟩, s1, f1, w1, R, lo⟩ := R
    obtain ⟨rfl, rfl⟩ := hrq_26 s1 H
    refine ⟨⟨y, rfl, hy⟩, s1, (f0.1.more (by decide) (fun _ hq => by cases hq)).trans (f1.more (by decide) (fun _ hq => hq)), w1, by rw [f1.fi (by decide)]; exact z2, by rw [f1.fi (by decide)]; exact z0, ?_, fun t' h1 h2 q h => h.low h1 h2 (fun b i a1 a2 => (lo b i a1 a2).trans (f0.2 b i a1))⟩
    cases hr : rdB (bR M) n false ((prS (bR M) kk).1 1) with
    | inr f =>
      rw [hr] at R
      exact fun t' h1 q h => h.low (t := t' + 1) h1 (by omega) (fun b i a1 _ => (R b i a1).trans (f0.2 b i a1))
    | inl q =>
      rw [hr] at R
      exact R
theorem rflt_ok (hS : SQ M) (H : Ev none e 185 0 [some (.ref 633)] [] M v M' 0 0) : v = some (.int (zI M 633 26)) ∧ M' = wF M 633 0 0 := by
  obtain ⟨h1, h2⟩ := g_185 hS H
  exact ⟨h1, h2⟩
end RTO
