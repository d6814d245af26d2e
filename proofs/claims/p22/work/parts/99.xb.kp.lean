/-! BY HAND, the class: what the walkers' steps keep -/
noncomputable def irB (g n : Nat) (lo hi : Int) : Bool := match gNth sG g with
  | some (.inr (q, m, .inl [(a, b, w, [(x, y)])])) => (Nat.beq q 1 && (Nat.beq m n && (Nat.beq a 0 && (Nat.beq b n && Nat.beq w 1)))) && (decide (x = lo) && decide (y = hi))
  | _ => false
theorem sg_one {n i : Nat} {p : Iv} (h : i < n) : sgAt [(0, n, 1, [p])] i = some p := by
  show cond (Nat.ble 0 i && Nat.blt i n) (gNth [p] ((i - 0) % 1)) _ = _
  have h1 : Nat.ble 0 i = true := Nat.ble_eq_true_of_le (Nat.zero_le _)
  have h2 : Nat.blt i n = true := Nat.ble_eq_true_of_le h
  rw [h1, h2, Nat.mod_one]
  rfl
theorem TM.irow {M : Mem} {a g n : Nat} {lo hi : Int} (hT : TM sT sG M) (ha : gNth sT a = some g) (hB : irB g n lo hi = true) : ∃ l, gNth M a = some (.inl (1, .inl l)) ∧ l.length = n ∧ (∀ j x, gNth l j = some x → lo ≤ x.toInt ∧ x.toInt ≤ hi) ∧ ∀ (i : Nat) (z : Int32), lo ≤ z.toInt → z.toInt ≤ hi → TM sT sG (gPut M a (.inl (1, .inl (gPut l i z)))) := by
  unfold irB at hB
  split at hB
  rotate_left
  · cases hB
  rename_i q m a0 b0 w x y e
  obtain ⟨b1, hB⟩ := and_t hB
  obtain ⟨x1, x2⟩ := and_t hB
  obtain ⟨b1, b2⟩ := and_t b1
  obtain ⟨b2, b3⟩ := and_t b2
  obtain ⟨b3, b4⟩ := and_t b3
  obtain ⟨b4, b5⟩ := and_t b4
  cases Nat.eq_of_beq_eq_true b1
  cases Nat.eq_of_beq_eq_true b2
  cases Nat.eq_of_beq_eq_true b3
  cases Nat.eq_of_beq_eq_true b4
  cases Nat.eq_of_beq_eq_true b5
  cases of_decide_eq_true x1
  cases of_decide_eq_true x2
  obtain ⟨ee, e1, e2⟩ := hT.at ha e
  obtain ⟨l, rfl, l1, l2⟩ := ct_int (by decide) e2
  refine ⟨l, e1, l1, fun j v hj => ?_, fun i z z1 z2 => hT.put (fun g3 t q1 q2 => ?_)⟩
  · obtain ⟨p, p1, p2⟩ := l2 j v hj
    have hlt := gNth_lt _ _ _ hj
    rw [l1] at hlt
    rw [sg_one hlt] at p1
    cases p1
    exact p2
  · rw [ha] at q1
    cases q1
    rw [e] at q2
    cases q2
    refine ct_mk (by decide) (by rw [put_len]; exact l1) (fun j v hj => ?_)
    have hlt := gNth_lt _ _ _ hj
    rw [put_len, l1] at hlt
    refine ⟨_, sg_one hlt, ?_⟩
    rw [nth_put] at hj
    split at hj
    · cases hj
      exact ⟨z1, z2⟩
    · obtain ⟨p, p1, p2⟩ := l2 j v hj
      rw [sg_one hlt] at p1
      cases p1
      exact p2
/-- the land that walks -/
def LD (ld : Nat) (M : Mem) : Prop := ∃ vw, gNth M 104 = some (.inr (7, vw)) ∧ gNth vw 7 = some (.ref ld)
theorem LD.frm {ld : Nat} {md : Md} {M M' : Mem} (hF : Frm sT md M M') (hm : (7, 7) ∉ md) (h : LD ld M) : LD ld M' := by
  obtain ⟨vw, e1, e2⟩ := h
  obtain ⟨vw', f1, _, f3⟩ := hF.2.1 _ _ _ e1
  exact ⟨vw', f1, (f3 7 hm).trans e2⟩
theorem LD.grp {ld : Nat} {M : Mem} (hT : TM sT sG M) (h : LD ld M) : gNth sT ld = some 8 := by
  obtain ⟨vw, e1, e2⟩ := h
  obtain ⟨q, y5⟩ := and_t lyW
  obtain ⟨q, y4⟩ := and_t q
  obtain ⟨q, y3⟩ := and_t q
  obtain ⟨y1, y2⟩ := and_t q
  obtain ⟨vs, b, f1, f2, f3⟩ := hT.fref sT_104 y1
  cases e1.symm.trans f1
  cases e2.symm.trans f2
  exact f3
theorem cge_frm {md : Md} {M M' : Mem} {b : Nat} (hF : Frm sT md M M') (hm : (8, 0) ∉ md) (h : cge M b) : cge M' b := by
  obtain ⟨us, x, g2, g3, g4⟩ := h
  obtain ⟨us', i1, i2, i3⟩ := hF.2.1 _ _ _ g2
  exact ⟨us', x, i1, (i3 0 hm).trans g3, g4⟩
/-- some steps: walkers of S may lose their cells, no others -/
def KP (S : Nat → Prop) (md : Md) (ld : Nat) (M M' : Mem) : Prop := TM sT sG M' ∧ Frm sT md M M' ∧ LD ld M' ∧ ∀ b, ¬ S b → cge M b → cge M' b
section KPS
variable {S : Nat → Prop} {md : Md} {ld : Nat} {M M1 M2 : Mem}
theorem KP.refl (hT : TM sT sG M) (hL : LD ld M) : KP S md ld M M := ⟨hT, Frm.refl _, hL, fun _ _ h => h⟩
theorem KP.trans (h : KP S md ld M M1) (h2 : KP S md ld M1 M2) : KP S md ld M M2 := ⟨h2.1, h.2.1.trans h2.2.1, h2.2.2.1, fun b hb hc => h2.2.2.2 b hb (h.2.2.2 b hb hc)⟩
theorem KP.call {cm : Md} (hT : TM sT sG M1) (hF : Frm sT cm M M1) (hs : mdSub cm md = true) (h8 : (8, 0) ∉ cm) (h7 : (7, 7) ∉ cm) (hL : LD ld M) : KP S md ld M M1 :=
  ⟨hT, hF.more (mdSub_mem hs), hL.frm hF h7, fun _ _ h => cge_frm hF h8 h⟩
theorem KP.fld {a g ci k : Nat} {lo hi : Int} {vs : List Value} (hT : TM sT sG M) (hL : LD ld M) (ha : gNth sT a = some g) (hB : fiB g ci k lo hi = true) (hM : gNth M a = some (.inr (ci, vs))) (hmd : (ci, k) ∈ md) {z : Int32} (z1 : lo ≤ z.toInt) (z2 : z.toInt ≤ hi) (h7 : ci ≠ 7) (h8 : ¬ (ci = 8 ∧ k = 0) ∨ S a ∨ 0 ≤ z.toInt) : KP S md ld M (gPut M a (.inr (ci, gPut vs k (.int z)))) := by
  obtain ⟨vs2, y, e1, e2, e3, _, _, e4⟩ := hT.fnum ha hB
  cases e1.symm.trans hM
  have hF : Frm sT [(ci, k)] M (gPut M a (.inr (ci, gPut vs k (.int z)))) := Frm.fld hM List.mem_cons_self
  refine ⟨e4 z z1 z2, Frm.fld hM hmd, hL.frm hF (fun q => h7 (by cases List.mem_singleton.mp q; rfl)), fun b hb hc => ?_⟩
  rcases h8 with h8 | h8 | h8
  · exact cge_frm hF (fun q => h8 (by cases List.mem_singleton.mp q; exact ⟨rfl, rfl⟩)) hc
  · obtain ⟨us, x, g2, g3, g4⟩ := hc
    exact ⟨us, x, by rw [nth_put, if_neg (fun q => hb (by rw [q.1]; exact h8))]; exact g2, g3, g4⟩
  · obtain ⟨us, x, g2, g3, g4⟩ := hc
    by_cases hba : b = a
    · subst hba
      cases g2.symm.trans hM
      refine ⟨gPut vs k (.int z), if k = 0 then z else x, by rw [nth_put, if_pos ⟨rfl, gNth_lt _ _ _ hM⟩], ?_, ?_⟩
      · by_cases hk : k = 0
        · subst hk
          rw [if_pos rfl, nth_put, if_pos ⟨rfl, e3⟩]
        · rw [if_neg hk, nth_put, if_neg (fun q => hk q.1.symm)]
          exact g3
      · by_cases hk : k = 0
        · rw [if_pos hk]; exact h8
        · rw [if_neg hk]; exact g4
    · exact ⟨us, x, by rw [nth_put, if_neg (fun q => hba q.1)]; exact g2, g3, g4⟩
theorem KP.row {a g n i : Nat} {lo hi : Int} {l : List Int32} (hT : TM sT sG M) (hL : LD ld M) (ha : gNth sT a = some g) (hB : irB g n lo hi = true) (hM : gNth M a = some (.inl (1, .inl l))) (hmd : (1000 + g, 0) ∈ md) {z : Int32} (z1 : lo ≤ z.toInt) (z2 : z.toInt ≤ hi) : KP S md ld M (gPut M a (.inl (1, .inl (gPut l i z)))) := by
  obtain ⟨l2, e1, e2, e3, e4⟩ := hT.irow ha hB
  cases e1.symm.trans hM
  have hF : Frm sT [(1000 + g, 0)] M (gPut M a (.inl (1, .inl (gPut l i z)))) := Frm.row hM ha List.mem_cons_self
  exact ⟨e4 i z z1 z2, Frm.row hM ha hmd, hL.frm hF (fun q => by have := (Prod.mk.inj (List.mem_singleton.mp q)).1; omega), fun b _ hc => cge_put hM hc⟩
end KPS
/-- all lands' walkers, but the first i of the land that walks -/
def WKi (a i : Nat) (M : Mem) : Prop := ∃ (vl : List Value) (l : List (Option Nat)) (n : Int32), gNth M a = some (.inr (1, vl)) ∧ gNth vl 14 = some (.ref (a + 11)) ∧ gNth vl 15 = some (.int n) ∧ gNth M (a + 11) = some (.inl (6, .inr (.inr l))) ∧ unl l ∧ (∀ k b, gNth l k = some (some b) → a + 36 ≤ b ∧ b < a + 96) ∧ ∀ k, i ≤ k → k < n.toInt.toNat → ∃ b, gNth l k = some (some b) ∧ cge M b
def PG (ld i : Nat) (M : Mem) : Prop := ∀ a, a ∈ [8, 243, 345, 441, 537] → WKi a (if a = ld then i else 0) M
theorem PG.of {ld : Nat} {M : Mem} (h : P34 M) : PG ld 0 M := by
  intro a ha
  obtain ⟨vl, l, n, e1, e2, e3, e4, e5, e6, e7⟩ := h a ha
  exact ⟨vl, l, n, e1, e2, e3, e4, e5, e6, fun k _ hk => e7 k hk⟩
set_option maxRecDepth 100000 in
theorem ld_grp : ((List.range 664).all (fun a => match gNth sT a with
  | some g => !Nat.beq g 8 || (Nat.beq a 8 || (Nat.beq a 243 || (Nat.beq a 345 || (Nat.beq a 441 || Nat.beq a 537))))
  | none => true)) = true := by decide +kernel
theorem ld_in {a : Nat} (h : gNth sT a = some 8) : a ∈ [8, 243, 345, 441, 537] := by
  have hl := gNth_lt _ _ _ h
  rw [sT_len] at hl
  have h1 := List.all_eq_true.mp ld_grp a (List.mem_range.mpr hl)
  rw [h] at h1
  have h2 : (!Nat.beq 8 8 || (Nat.beq a 8 || (Nat.beq a 243 || (Nat.beq a 345 || (Nat.beq a 441 || Nat.beq a 537))))) = true := h1
  simp only [Bool.or_eq_true] at h2
  rcases h2 with h2 | h2 | h2 | h2 | h2 | h2
  · cases h2
  · cases Nat.eq_of_beq_eq_true h2; decide
  · cases Nat.eq_of_beq_eq_true h2; decide
  · cases Nat.eq_of_beq_eq_true h2; decide
  · cases Nat.eq_of_beq_eq_true h2; decide
  · cases Nat.eq_of_beq_eq_true h2; decide
theorem WKi.frm {a i i' : Nat} {md : Md} {M M' : Mem} (ha : a ∈ [8, 243, 345, 441, 537]) (hF : Frm sT md M M') (m1 : (1, 14) ∉ md) (m2 : (1, 15) ∉ md) (m4 : (1019, 0) ∉ md) (hii : i ≤ i') (h : WKi a i M) (hc : ∀ l k b, gNth M (a + 11) = some (.inl (6, .inr (.inr l))) → unl l → (∀ k b, gNth l k = some (some b) → a + 36 ≤ b ∧ b < a + 96) → gNth l k = some (some b) → i' ≤ k → cge M b → cge M' b) : WKi a i' M' := by
  obtain ⟨vl, l, n, e1, e2, e3, e4, e5, e6, e7⟩ := h
  obtain ⟨vl', f1, f2, f3⟩ := hF.2.1 _ _ _ e1
  refine ⟨vl', l, n, f1, (f3 14 m1).trans e2, (f3 15 m2).trans e3, row_frm hF (ld_row ha) m4 e4, e5, e6, fun k hk hk2 => ?_⟩
  obtain ⟨b, g1, g2⟩ := e7 k (Nat.le_trans hii hk) hk2
  exact ⟨b, g1, hc l k b e4 e5 e6 g1 hk g2⟩
/-- the i-th walker has gone -/
theorem PG.step {ld i o : Nat} {md : Md} {M M' : Mem} {l : List (Option Nat)} (hld : ld ∈ [8, 243, 345, 441, 537]) (h : PG ld i M) (hK : KP (fun b => b = o) md ld M M') (m1 : (1, 14) ∉ md) (m2 : (1, 15) ∉ md) (m4 : (1019, 0) ∉ md) (hr : gNth M (ld + 11) = some (.inl (6, .inr (.inr l)))) (ho : gNth l i = some (some o)) : PG ld (i + 1) M' := by
  intro a ha
  have hW := h a ha
  obtain ⟨vl0, l0, n0, _, _, _, d4, d5, d6, _⟩ := h ld hld
  cases d4.symm.trans hr
  have hob := d6 i o ho
  by_cases hal : a = ld
  · subst hal
    rw [if_pos rfl] at hW ⊢
    refine WKi.frm ha hK.2.1 m1 m2 m4 (Nat.le_succ _) hW (fun l2 k b q1 q2 q3 q4 q5 q6 => hK.2.2.2 b (fun q => ?_) q6)
    cases q1.symm.trans hr
    have q : b = o := q
    subst q
    have := q2 k i b q4 ho
    omega
  · rw [if_neg hal] at hW ⊢
    refine WKi.frm ha hK.2.1 m1 m2 m4 (Nat.le_refl _) hW (fun l2 k b q1 q2 q3 q4 q5 q6 => hK.2.2.2 b (fun q => ?_) q6)
    have q : b = o := q
    subst q
    have := q3 k b q4
    have := ld_all ha
    have := ld_all hld
    omega
theorem P34.kp {ld : Nat} {md : Md} {M M' : Mem} (h : P34 M) (hK : KP (fun _ => False) md ld M M') (m1 : (1, 14) ∉ md) (m2 : (1, 15) ∉ md) (m4 : (1019, 0) ∉ md) : P34 M' := by
  intro a ha
  obtain ⟨vl, l, n, e1, e2, e3, e4, e5, e6, e7⟩ := h a ha
  obtain ⟨vl', l', n', f1, f2, f3, f4, f5, f6, f7⟩ := WKi.frm (i := 0) (i' := 0) ha hK.2.1 m1 m2 m4 (Nat.le_refl _) ⟨vl, l, n, e1, e2, e3, e4, e5, e6, fun k _ hk => e7 k hk⟩ (fun _ _ b _ _ _ _ _ q => hK.2.2.2 b (fun q => q) q)
  exact ⟨vl', l', n', f1, f2, f3, f4, f5, f6, fun k hk => f7 k (Nat.zero_le _) hk⟩
/-- one more walks -/
theorem P34.more {ld b nn : Nat} {M : Mem} {vl : List Value} {l : List (Option Nat)} {n : Int32} (hld : ld ∈ [8, 243, 345, 441, 537]) (h : P34 M) (hM : gNth M ld = some (.inr (1, vl))) (hn : gNth vl 15 = some (.int n)) (hnn : n.toInt = (nn : Int)) (h60 : nn < 60) (hr : gNth M (ld + 11) = some (.inl (6, .inr (.inr l)))) (hb : gNth l nn = some (some b)) (hc : cge M b) : P34 (gPut M ld (.inr (1, gPut vl 15 (.int (n + 1))))) := by
  intro a ha
  obtain ⟨vl2, l2, n2, e1, e2, e3, e4, e5, e6, e7⟩ := h a ha
  have hlt := gNth_lt _ _ _ hM
  have e1n : (n + 1).toInt = n.toInt + 1 := i32_p1 (by omega)
  have hrow : gNth (gPut M ld (.inr (1, gPut vl 15 (.int (n + 1))))) (a + 11) = some (.inl (6, .inr (.inr l2))) := by
    rw [nth_put, if_neg (fun q => by rw [q.1, hM] at e4; cases e4)]
    exact e4
  have hcg : ∀ c, cge M c → cge (gPut M ld (.inr (1, gPut vl 15 (.int (n + 1))))) c := by
    rintro c ⟨us, x, g2, g3, g4⟩
    exact ⟨us, x, by rw [nth_put, if_neg (fun q => by rw [q.1, hM] at g2; cases g2)]; exact g2, g3, g4⟩
  by_cases hal : a = ld
  · subst hal
    cases e1.symm.trans hM
    cases e3.symm.trans hn
    cases e4.symm.trans hr
    refine ⟨_, l, n + 1, by rw [nth_put, if_pos ⟨rfl, hlt⟩], by rw [nth_put, if_neg (by omega)]; exact e2, by rw [nth_put, if_pos ⟨rfl, gNth_lt _ _ _ e3⟩], hrow, e5, e6, fun k hk => ?_⟩
    by_cases hkn : k = nn
    · exact ⟨b, by rw [hkn]; exact hb, hcg b hc⟩
    · obtain ⟨b2, g1, g2⟩ := e7 k (by omega)
      exact ⟨b2, g1, hcg b2 g2⟩
  · refine ⟨vl2, l2, n2, by rw [nth_put, if_neg (fun q => hal q.1)]; exact e1, e2, e3, hrow, e5, e6, fun k hk => ?_⟩
    obtain ⟨b2, g1, g2⟩ := e7 k hk
    exact ⟨b2, g1, hcg b2 g2⟩
