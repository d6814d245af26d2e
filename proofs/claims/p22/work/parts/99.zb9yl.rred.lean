/-! THE REFERENCE READS: find, read -/
/-- the lines of a text -/
def LQT (M : Mem) (t : Nat) (ls : List Lnq) : Prop := (rN M 639 t).toInt = (ls.length : Int) ∧ ls.length ≤ 16 ∧ ∀ j l, ls[j]? = some l → rN M 640 (16 * t + j) = l.1 ∧ rN M 641 (16 * t + j) = l.2.1 ∧ rN M 642 (16 * t + j) = l.2.2.1 ∧ (rN M 643 (16 * t + j)).toInt = (l.2.2.2.1 : Int) ∧ (rN M 644 (16 * t + j)).toInt = (l.2.2.2.2 : Int)
section RRD
variable {e n kk : Nat} {M M1 M' : Mem} {v : Option Value} {B : Nat → Int32} {s : Sg} {ls : List Lnq}
theorem LQ.T (h : LQ M ls) : LQT M 7 ls := h
theorem fdq_loop {t : Nat} {tz k : Int32} (hL : LQT M t ls) (ht : t ≤ 7) (hz : tz.toInt = (t : Int)) : ∀ (m j : Nat) (z : Int32), ls.length - j ≤ m → z.toInt = ((16 * t + j : Nat) : Int) → j ≤ ls.length → hasK ls k = hasK (ls.drop j) k → (∀ d, tvS ls k d = tvS (ls.drop j) k d) → Ev none e 172 5 [some (.ref 633), some (.int tz), some (.int k), some (.int z)] [] M v M' 0 0 → SQ M → M' = M ∧ ∃ y, v = some (.int y) ∧ ((y < 0 ∧ hasK ls k = false ∧ ∀ d, tvS ls k d = d) ∨ (0 ≤ y.toInt ∧ y.toInt < 128 ∧ hasK ls k = true ∧ ∀ d, tvS ls k d = rI M 642 y)) := by
  have e16 : (16 : Int32).toInt = 16 := rfl
  have hl16 := hL.2.1
  have b1 : ((16 : Int32) * tz).toInt = 16 * (t : Int) := by
    rw [i32_mul (by rw [e16, hz]; omega) (by rw [e16, hz]; omega), e16, hz]
  have r1 : (rI M 639 tz).toInt = (ls.length : Int) := by
    rw [rI_n hz]
    exact hL.1
  have b2 : ((16 : Int32) * tz + rI M 639 tz).toInt = 16 * (t : Int) + ls.length := by
    rw [i32_add (by omega) (by omega), b1, r1]
  intro m
  induction m with
  | zero =>
    intro j z hm hzj hj h1 h2 H hS
    have hjl : j = ls.length := by omega
    rcases fdq_5 hS H with ⟨_, _, rfl, rfl⟩ | ⟨q, _⟩ | ⟨q, _⟩
    · rw [hjl, List.drop_length] at h1 h2
      exact ⟨rfl, -1, rfl, Or.inl ⟨by decide, h1, h2⟩⟩
    · rw [Int32.le_iff_toInt_le, b2, hzj] at q
      exact absurd (by omega) q
    · rw [Int32.le_iff_toInt_le, b2, hzj] at q
      exact absurd (by omega) q
  | succ m ih =>
    intro j z hm hzj hj h1 h2 H hS
    rcases fdq_5 hS H with ⟨q, _, rfl, rfl⟩ | ⟨q, g, _, b, rfl, rfl⟩ | ⟨q, g, _, b, H⟩
    · rw [Int32.le_iff_toInt_le, b2, hzj] at q
      have hjl : j = ls.length := by omega
      rw [hjl, List.drop_length] at h1 h2
      exact ⟨rfl, -1, rfl, Or.inl ⟨by decide, h1, h2⟩⟩
    · rw [Int32.le_iff_toInt_le, b2, hzj] at q
      have hlt : j < ls.length := by omega
      have hd : ls.drop j = ls[j] :: ls.drop (j + 1) := List.drop_eq_getElem_cons hlt
      have hx := hL.2.2 j ls[j] (List.getElem?_eq_getElem hlt)
      rw [rI_n hzj, hx.1] at g
      refine ⟨rfl, z, rfl, Or.inr ⟨b.1, b.2, ?_, fun d => ?_⟩⟩
      · rw [h1, hd]
        show (decide (ls[j].1 = k) || _) = true
        rw [decide_eq_true g]
        rfl
      · rw [h2 d, hd, rI_n hzj, hx.2.2.1]
        unfold tvS
        rw [List.find?_cons_of_pos (by exact decide_eq_true g)]
    · rw [Int32.le_iff_toInt_le, b2, hzj] at q
      have hlt : j < ls.length := by omega
      have hd : ls.drop j = ls[j] :: ls.drop (j + 1) := List.drop_eq_getElem_cons hlt
      have hx := hL.2.2 j ls[j] (List.getElem?_eq_getElem hlt)
      rw [rI_n hzj, hx.1] at g
      refine ih (j + 1) (z + 1) (by omega) (by rw [i32_p1 (by omega), hzj]; omega) hlt ?_ (fun d => ?_) H hS
      · rw [h1, hd]
        show (decide (ls[j].1 = k) || _) = _
        rw [decide_eq_false g]
        rfl
      · rw [h2 d, hd]
        unfold tvS
        rw [List.find?_cons_of_neg (by rw [decide_eq_false g]; decide)]
theorem fdq_ok {t : Nat} {tz k : Int32} (hS : SQ M) (hL : LQT M t ls) (ht : t ≤ 7) (hz : tz.toInt = (t : Int)) (H : Ev none e 172 0 [some (.ref 633), some (.int tz), some (.int k), none] [] M v M' 0 0) : M' = M ∧ ∃ y, v = some (.int y) ∧ ((y < 0 ∧ hasK ls k = false ∧ ∀ d, tvS ls k d = d) ∨ (0 ≤ y.toInt ∧ y.toInt < 128 ∧ hasK ls k = true ∧ ∀ d, tvS ls k d = rI M 642 y)) := by
  have H := fdq_0 hS H
  have e16 : (16 : Int32).toInt = 16 := rfl
  exact fdq_loop hL ht hz ls.length 0 _ (by omega) (by rw [i32_mul (by rw [e16, hz]; omega) (by rw [e16, hz]; omega), e16, hz]; omega) (Nat.zero_le _) rfl (fun _ => rfl) H hS
theorem cn_40 {C : Sg → PR} {x m nu : Int32} {q : Sg × Int32 × Int32 × Nat} (hC : ∀ s s2, C s = .inl s2 → s2.2.1 ≤ 40) (h40 : s.2.1 ≤ 40) (h : cnR B C s x m nu = .inr q) : q.1.2.1 ≤ 40 := by
  unfold cnR at h
  cases hr : cndR B C s x with
  | inr f => rw [hr] at h; cases h
  | inl s2 =>
    rw [hr] at h
    cases h
    unfold cndR at hr
    split at hr
    · exact hC _ _ hr
    · split at hr
      · exact hC _ _ hr
      · cases hr
        exact h40
theorem nm_40 {C : Sg → PR} {x m : Int32} {q : Sg × Int32 × Int32 × Nat} (hC : ∀ s s2, C s = .inl s2 → s2.2.1 ≤ 40) (h40 : s.2.1 ≤ 40) (h : nmR B C s x m = .inr q) : q.1.2.1 ≤ 40 := by
  unfold nmR at h
  split at h
  · cases h
  · exact cn_40 (s := (s.1.tail, s.2.1, s.2.2)) hC h40 h
theorem bd_40 {C : Sg → PR} {x : Int32} {q : Sg × Int32 × Int32 × Nat} (hC : ∀ s s2, C s = .inl s2 → s2.2.1 ≤ 40) (h40 : s.2.1 ≤ 40) (h : bdR B C s x = .inr q) : q.1.2.1 ≤ 40 := by
  unfold bdR at h
  split at h
  · exact cn_40 hC h40 h
  · split at h
    · split at h
      · cases h
      · exact nm_40 (s := (s.1.tail, s.2.1, s.2.2)) hC h40 h
    · exact nm_40 hC h40 h
def K8 (k : Int32) : Prop := k = 0 ∨ k = 1 ∨ k = 2 ∨ k = 3 ∨ k = 4 ∨ k = 5 ∨ k = 6 ∨ k = 7
theorem lq_ok {i k : Int32} (hK : K8 k) (hn2 : n ≤ 440) (hk : 33 ≤ kk) (h : R0 B n M s) (h40 : s.2.1 ≤ 40) (hL : LQ M ls) (hlt : ls.length < 16) (hi : i.toInt = ((112 + ls.length : Nat) : Int)) (g0 : rN M 640 (112 + ls.length) = k) (g1 : rN M 641 (112 + ls.length) = 0) (g2 : rN M 642 (112 + ls.length) = 0) (H : Ev none e 170 0 [some (.ref 633), some (.int i), some (.int k), none] [] M v M' 0 0) : BDr B n M M' v ls k (bdR B ((prS B kk).1 1) s k) := by
  rcases hK with rfl | rfl | rfl | rfl | rfl | rfl | rfl | rfl
  · exact lq0_ok hn2 hk h h40 hL hlt hi g0 g1 g2 H
  · exact lq1_ok hn2 hk h h40 hL hlt hi g0 g1 g2 H
  · exact lq2_ok hn2 hk h h40 hL hlt hi g0 g1 g2 H
  · exact lq3_ok hn2 hk h h40 hL hlt hi g0 g1 g2 H
  · exact lq4_ok hn2 hk h h40 hL hlt hi g0 g1 g2 H
  · exact lq5_ok hn2 hk h h40 hL hlt hi g0 g1 g2 H
  · exact lq6_ok hn2 hk h h40 hL hlt hi g0 g1 g2 H
  · exact lq7_ok hn2 hk h h40 hL hlt hi g0 g1 g2 H
theorem once_k {k : Int32} (hK : K8 k) : (onceB k = true ∧ (¬ G_140 M k 2 4 = 0 ∨ k = 7)) ∨ (onceB k = false ∧ G_140 M k 2 4 = 0 ∧ k ≠ 7) := by
  unfold G_140 onceB
  rcases hK with rfl | rfl | rfl | rfl | rfl | rfl | rfl | rfl <;> decide
/-- where read goes on, or what it ends with -/
def RDn (B : Nat → Int32) (n e : Nat) (l : Int32) (M M' : Mem) (v : Option Value) (r : PLn) : Prop := match r with
  | .inr f => FLq M M' v f
  | .inl q => ∃ M1 c2 c3 c4, Ev none e 169 0 [some (.ref 633), some (.int l), c2, c3, c4] [] M1 v M' 0 0 ∧ FB fQl wQl M M1 ∧ R0 B n M1 q.1 ∧ LQ M1 q.2 ∧ q.1.2.1 ≤ 40
theorem rdq_go {e1 : Nat} {v1 c3 : Option Value} {l k : Int32} (hK : K8 k) (hn2 : n ≤ 440) (hk : 33 ≤ kk) (h : R0 B n M s) (h40 : s.2.1 ≤ 40) (hL : LQ M ls) (hlt : ls.length < 16) (h2 : (hdT s.1).1 = 2) (H1 : Ev none e1 162 0 [some (.ref 633), none, none, none] [] M v1 M1 0 0) (H : Ev none e 169 92 [some (.ref 633), some (.int l), some (.int k), c3, some (.int (112 + rI M 639 7))] (v1.toList ++ []) M1 v M' 0 0) : RDn B n e l M M' v (bodB B ((prS B kk).1 1) (s.1.tail, s.2.1, s.2.2) ls k) := by
  obtain ⟨rfl, f1, r1⟩ := h.next hn2 (by rw [h2]; decide) (by rw [h2]; decide) H1
  have e112 : (112 : Int32).toInt = 112 := rfl
  have hl : (rI M 639 7).toInt = (ls.length : Int) := hL.1
  have hj : ((112 : Int32) + rI M 639 7).toInt = ((112 + ls.length : Nat) : Int) := by
    rw [i32_add (by omega) (by omega), e112, hl]
    omega
  obtain ⟨e2, v2, M2, he2, H2, H⟩ := rdq_92 r1.1 H
  rw [clI hj] at H2
  have F2 : FB [] [640, 641, 642] M1 (wI (wI (wI M1 640 (112 + ls.length) k) 641 (112 + ls.length) 0) 642 (112 + ls.length) 0) := ((FB.wI (by simp)).trans (FB.wI (by simp))).trans (FB.wI (by simp))
  have R2 : R0 B n (wI (wI (wI M1 640 (112 + ls.length) k) 641 (112 + ls.length) 0) 642 (112 + ls.length) 0) (s.1.tail, s.2.1, s.2.2) := r1.frm r1.1.ki.ki.ki F2 (by decide) (by decide)
  have L2 : LQ (wI (wI (wI M1 640 (112 + ls.length) k) 641 (112 + ls.length) 0) 642 (112 + ls.length) 0) ls := LQ.wr (LQ.wr (LQ.wr (hL.frm f1 (by decide)) (by decide)) (by decide)) (by decide)
  have F3 : FB fQl wQl M (wI (wI (wI M1 640 (112 + ls.length) k) 641 (112 + ls.length) 0) 642 (112 + ls.length) 0) := f1.ql.trans (F2.more (fun _ hq => by cases hq) (by decide))
  have R := lq_ok hK hn2 hk R2 h40 L2 hlt hj (by rw [rN_wI_ne (fun q => absurd q.1 (by decide)), rN_wI_ne (fun q => absurd q.1 (by decide)), rN_wI_eq (by rw [(r_len r1.1).1]; omega)]) (by rw [rN_wI_ne (fun q => absurd q.1 (by decide)), rN_wI_eq (by rw [(r_len r1.1.ki).2.1]; omega)]) (by rw [rN_wI_eq (by rw [(r_len r1.1.ki.ki).2.2.1]; omega)]) H2
  rw [bd_en (s := (s.1.tail, s.2.1, s.2.2)) r1.2.2.2.2.1 r1.2.2.2.2.2.1]
  cases hr : bdR B ((prS B kk).1 1) (s.1.tail, s.2.1, s.2.2) k with
  | inl f =>
    rw [hr] at R
    obtain ⟨rfl, f2⟩ := R
    rcases rdq_123 f2.1 H with ⟨_, rfl, rfl⟩ | ⟨q, _⟩
    · exact FLq.pre F3 ⟨rfl, f2⟩
    · exact absurd rfl q
  | inr q =>
    rw [hr] at R
    obtain ⟨rfl, f4, r4, l4, e4, t4⟩ := R
    rcases rdq_123 r4.1 H with ⟨x, _⟩ | ⟨_, e5, v5, M5, he5, H5, H⟩
    · exact absurd x (by decide)
    · unfold enR
      dsimp only
      unfold endB
      rcases sgn_ok hn2 r4 H5 with ⟨x, rfl, f5⟩ | ⟨x, rfl, f5, r5⟩
      · rw [if_pos x]
        rcases rdq_132 f5.1 H with ⟨_, rfl, rfl⟩ | ⟨x, _⟩
        · exact FLq.pre (F3.trans f4) (FLT.ql ⟨rfl, f5⟩)
        · exact absurd rfl x
      · rw [if_neg (fun y => y x)]
        rcases rdq_132 r5.1 H with ⟨x, _⟩ | ⟨_, _, _, H⟩
        · exact absurd x (by decide)
        · have l5 := l4.frm f5 (by decide)
          have e6 := e4.frm f5 (by decide)
          have t6 : (rN M5 644 (112 + ls.length)).toInt = (q.1.2.2.length : Int) := by
            rw [f5.rn (by decide)]
            exact t4
          have F6 : FB [] [639] M5 (wI M5 639 7 (rI M5 639 7 + 1)) := FB.wI (by simp)
          have hl5 : (rI M5 639 7).toInt = (ls.length : Int) := l5.1
          have w7 : (zrw M5 639).length = 8 := (r5.1.1.row qa_639 qw_67).2
          refine ⟨_, _, _, _, H, ((F3.trans f4).trans f5.ql).trans (F6.more (fun _ hq => by cases hq) (by decide)), r5.frm r5.1.ki F6 (by decide) (by decide), ⟨?_, ?_, fun j l hj => ?_⟩, bd_40 (s := (s.1.tail, s.2.1, s.2.2)) (fun s s2 hs => ((sp_bd kk).1 1 s s2 hs).2.1) h40 hr⟩
          · show (rN (wI M5 639 7 (rI M5 639 7 + 1)) 639 7).toInt = _
            rw [rN_wI_eq (by omega), i32_p1 (by omega), hl5, List.length_append]
            rfl
          · rw [List.length_append]
            exact hlt
          · show rN (wI M5 639 7 (rI M5 639 7 + 1)) 640 (112 + j) = _ ∧ rN (wI M5 639 7 (rI M5 639 7 + 1)) 641 (112 + j) = _ ∧ rN (wI M5 639 7 (rI M5 639 7 + 1)) 642 (112 + j) = _ ∧ (rN (wI M5 639 7 (rI M5 639 7 + 1)) 643 (112 + j)).toInt = _ ∧ (rN (wI M5 639 7 (rI M5 639 7 + 1)) 644 (112 + j)).toInt = _
            rw [F6.rn (by decide), F6.rn (by decide), F6.rn (by decide), F6.rn (by decide), F6.rn (by decide)]
            rcases Nat.lt_or_ge j ls.length with y | y
            · rw [List.getElem?_append_left y] at hj
              exact l5.2.2 j l hj
            · rw [List.getElem?_append_right y] at hj
              have hj0 : j = ls.length := by
                rcases Nat.eq_or_lt_of_le y with z | z
                · exact z.symm
                · rw [List.getElem?_eq_none (by simp; omega)] at hj
                  cases hj
              rw [hj0, Nat.sub_self] at hj
              cases hj
              rw [hj0]
              exact ⟨e6.1, e6.2.1, e6.2.2.1, e6.2.2.2, t6⟩
end RRD
