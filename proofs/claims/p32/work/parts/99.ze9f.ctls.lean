/-! THE CLASS'S WAYS for the SNOW; its tellings -/
/-- the steps of a way, as numbers -/
noncomputable def snW (T : TS) (P : PK) (a b h : Int32) : List Nat := (wayL T P a b h).1.tail.map (fun y => y.toInt.toNat)
noncomputable def snL (P : PK) : ROWq := fun c => if c < clsP P then (P (522 + 7 * c + 6)).toInt else 0
def goW (T : TS) (P : PK) (o : Nat → Int32) (i : Nat) : Prop := ¬ wayN P (o (3 * i)) (o (3 * i + 1)) (o (3 * i + 2)) ∧ wayB T P (o (3 * i)) (o (3 * i + 1)) (o (3 * i + 2)) = true
noncomputable def wsW (T : TS) (P : PK) (o : Nat → Int32) (i : Nat) : List Nat := snW T P (o (3 * i)) (o (3 * i + 1)) (o (3 * i + 2))
def rqdF (a k : Nat) : Prop := wyF a k
def rqdW (a : Nat) : Prop := lkW a ∨ a = 341 ∨ a = 342 ∨ (231 ≤ a ∧ a ≤ 236)
def WYS (W : Nat → List Nat) (i : Nat) (M : Mem) : Prop := ∀ q, q < i → (rN M 236 q = nI (W q).length ∧ (W q).length ≤ 200) ∧ ∀ m y, (W q)[m]? = some y → rN M (231 + q) m = nI y ∧ y < 256
def isMn (S : (Nat → Nat) → Prop) (j : Nat) (x : Int) : Prop := (∃ t, S t ∧ x = (t j : Int)) ∧ ∀ t, S t → x ≤ (t j : Int)
def isMx (S : (Nat → Nat) → Prop) (j : Nat) (x : Int) : Prop := (∃ t, S t ∧ x = (t j : Int)) ∧ ∀ t, S t → (t j : Int) ≤ x
def tsF (a k : Nat) : Prop := a = 229 ∧ (k = 4 ∨ k = 8)
def tsW (a : Nat) : Prop := 237 ≤ a ∧ a ≤ 242
section CTLS
variable {e k i j m n r rw : Nat} {W : Nat → List Nat} {L : ROWq} {l : List Nat} {T : TS} {P : PK} {PI : Nat → PK} {M M0 M1 M' : Mem} {v : Option Value} {a b h s s0 x : Int32} {S U : (Nat → Nat) → Prop} {z w : Int} {lo lo2 : ROWq}
theorem wlS_in (hw : wh4 P) {hb : Nat} {goal : Int32} (hg : 0 ≤ goal.toInt) : ∀ (r : Nat) (s : Int32 × Int32 × Int32) (l : List Int32), inC P s.1 → (∀ y, y ∈ l → inC P y) → ∀ y, y ∈ (wlS T P hb goal r s l).1 → inC P y := by
  intro r
  induction r with
  | zero => intro s l _ h; exact h
  | succ r ih =>
    intro s l hs h
    unfold wlS
    by_cases c1 : s.1 = goal
    · rw [if_pos c1]
      exact h
    · rw [if_neg c1]
      have hcr := cho_rng (g := T 0) (P := P) (q := T hb) (w := (s.1, goal, s.2.1, s.2.2, true)) hg
      obtain ⟨dd, edd⟩ : ∃ dd, dd = choP (T 0) P (T hb) (s.1, goal, s.2.1, s.2.2, true) := ⟨_, rfl⟩
      rw [← edd] at hcr ⊢
      by_cases c2 : dd < 0
      · rw [if_pos c2]
        exact h
      · rw [if_neg c2]
        have hd := hcr.resolve_left (fun q => c2 (by rw [q]; decide))
        have hbe : inC P (besP P s.1 dd) := (besP_in hw hs).resolve_left (fun q => hd.2.2 (by show besP P s.1 dd < 0; rw [q]; decide))
        exact ih (besP P s.1 dd, dd, s.1) (l ++ [besP P s.1 dd]) hbe (fun y hy => by
          rcases List.mem_append.mp hy with q | q
          · exact h y q
          · rw [List.mem_singleton.mp q]
            exact hbe)
theorem wlS_ge {hb : Nat} {goal : Int32} : ∀ (r : Nat) (s : Int32 × Int32 × Int32) (l : List Int32), l.length ≤ (wlS T P hb goal r s l).1.length := by
  intro r
  induction r with
  | zero => intro s l; exact Nat.le_refl _
  | succ r ih =>
    intro s l
    unfold wlS
    split
    · exact Nat.le_refl _
    · split
      · exact Nat.le_refl _
      · refine Nat.le_trans ?_ (ih _ _)
        rw [List.length_append]
        exact Nat.le_add_right _ _
theorem door_in (hD : okD P) (ia : inD P a) : inC P (P (3 + a.toInt.toNat)) := hD.2.1.2.2 _ (by have := ia.1; have := ia.2; omega)
theorem way_in (hD : okD P) (ia : inD P a) (ib : inD P b) : ∀ y, y ∈ (wayL T P a b h).1 → inC P y := wlS_in hD.1 (door_in hD ib).1 200 _ _ (door_in hD ia) (fun y hy => by rw [List.mem_singleton.mp hy]; exact door_in hD ia)
theorem snW_len : (snW T P a b h).length + 1 = (wayL T P a b h).1.length := by
  have h1 : 1 ≤ (wayL T P a b h).1.length := by unfold wayL; exact Nat.le_trans (Nat.le_refl 1) (wlS_ge (T := T) (P := P) 200 (P (3 + a.toInt.toNat), -1, -1) [P (3 + a.toInt.toNat)])
  unfold snW
  rw [List.length_map, List.length_tail]
  omega
theorem snW_200 : (snW T P a b h).length ≤ 200 := by
  have h1 := snW_len (T := T) (P := P) (a := a) (b := b) (h := h)
  have h2 : (wayL T P a b h).1.length ≤ 201 := by unfold wayL; exact Nat.le_trans (wlS_len _ _ _) (Nat.le_refl 201)
  omega
theorem snW_at {m y : Nat} (h1 : (snW T P a b h)[m]? = some y) : ∃ z, (wayL T P a b h).1[m + 1]? = some z ∧ y = z.toInt.toNat := by
  unfold snW at h1
  rw [List.getElem?_map, List.getElem?_tail] at h1
  cases q : (wayL T P a b h).1[m + 1]? with
  | none => rw [q] at h1; cases h1
  | some z => rw [q] at h1; cases h1; exact ⟨z, rfl, rfl⟩
theorem snW_c (hD : okD P) (ia : inD P a) (ib : inD P b) {m y : Nat} (h1 : (snW T P a b h)[m]? = some y) : ∃ z, (wayL T P a b h).1[m + 1]? = some z ∧ z = nI y ∧ y < clsP P ∧ y < 256 := by
  obtain ⟨z, q1, q2⟩ := snW_at h1
  have hc : inC P z := way_in hD ia ib z (List.mem_of_getElem? q1)
  have hl := hc.lt hD.1
  have h2 := hc.2
  have hy : y < 256 := by omega
  refine ⟨z, q1, ?_, by omega, hy⟩
  have ty : (nI y).toInt = (y : Int) := nI_toInt (by omega)
  exact Int32.toInt_inj.mp (by omega)
theorem g231 (h : i < 5) : gNth sT (231 + i) = some 48 := by
  match i, h with
  | 0, _ => show gNth sT 231 = some 48; decide +kernel
  | 1, _ => show gNth sT 232 = some 48; decide +kernel
  | 2, _ => show gNth sT 233 = some 48; decide +kernel
  | 3, _ => show gNth sT 234 = some 48; decide +kernel
  | 4, _ => show gNth sT 235 = some 48; decide +kernel
  | _ + 5, h => omega
theorem stw_l (hr : gNth sT rw = some 58) (i5 : i < 5) (hs : s.toInt = (n : Int)) (n200 : n ≤ 200) : ∀ (r m : Nat) (M : Mem), m + r = n → SQ M → oN M 230 i = 231 + i → rN M 236 i = s → (∀ q, q < m → rN M (231 + i) q = rN M rw (q + 1)) → Ev none e 42 16 [some (.ref 229), some (.int (nI i)), some (.ref rw), some (.int s0), some (.int (nI m))] [] M v M' 0 0 → v = none ∧ SQ M' ∧ FZ noF (fun a => a = 231 + i) noO M M' ∧ ∀ q, q < n → rN M' (231 + i) q = rN M' rw (q + 1) := by
  have hrc := rw_c hr
  have ti : (nI i).toInt = (i : Int) := nI_toInt (by omega)
  intro r
  induction r with
  | zero =>
    intro m M hm hS ho hl hrow H
    have tm : (nI m).toInt = (m : Int) := nI_toInt (by omega)
    have e6 : rI M 236 (nI i) = s := (rI_n ti).trans hl
    rcases stw_16 hS hr H with ⟨_, _, r1, r2⟩ | ⟨a1, _⟩
    · rw [r2]
      exact ⟨r1, hS, FZ.refl _, fun q hq => hrow q (by omega)⟩
    · exact absurd (Int32.le_iff_toInt_le.mpr (by rw [e6, tm]; omega)) a1
  | succ r ih =>
    intro m M hm hS ho hl hrow H
    have tm : (nI m).toInt = (m : Int) := nI_toInt (by omega)
    have tm1 : (nI m + 1).toInt = ((m + 1 : Nat) : Int) := by rw [nI_p1 (by omega)]; exact nI_toInt (by omega)
    have e6 : rI M 236 (nI i) = s := (rI_n ti).trans hl
    have eo : oI M 230 (nI i) = 231 + i := by unfold oI; rw [cl_n ti]; exact ho
    rcases stw_16 hS hr H with ⟨a1, _⟩ | ⟨_, _, _, _, _, H⟩
    · have := Int32.le_iff_toInt_le.mp a1
      rw [e6, tm] at this
      omega
    · rw [eo, cl_n tm, rI_n tm1, nI_p1 (by omega)] at H
      have F1 : FZ noF (fun a => a = 231 + i) noO M (wI M (231 + i) m (rN M rw (m + 1))) := FZ.wI rfl
      have len : (zrw M (231 + i)).length = 200 := (hS.1.row (g231 i5) qw_48).2
      obtain ⟨q1, q2, q3, q4⟩ := ih (m + 1) _ (by omega) hS.ki ((F1.on (fun q => q)).trans ho) ((F1.rn (by omega)).trans hl) (fun q hq => by
        rw [rN_wI_ne (a := 231 + i) (b := rw) (by omega)]
        by_cases z : q = m
        · rw [z]
          exact rN_wI_eq (by omega)
        · rw [rN_wI_ne (by omega)]
          exact hrow q (by omega)) H
      exact ⟨q1, q2, F1.trans q3, q4⟩
theorem stw_ok (hS : SQ M) (hr : gNth sT rw = some 58) (i5 : i < 5) (hs : s.toInt = (n : Int)) (n200 : n ≤ 200) (ho : oN M 230 i = 231 + i) (H : Ev none e 42 0 [some (.ref 229), some (.int (nI i)), some (.ref rw), some (.int s), none] [] M v M' 0 0) : v = none ∧ SQ M' ∧ FZ noF (fun a => a = 236 ∨ a = 231 + i) noO M M' ∧ rN M' 236 i = s ∧ (∀ q, q ≠ i → rN M' 236 q = rN M 236 q) ∧ ∀ q, q < n → rN M' (231 + i) q = rN M rw (q + 1) := by
  have hrc := rw_c hr
  obtain ⟨_, H⟩ := stw_0 hS hr H
  have ti : (nI i).toInt = (i : Int) := nI_toInt (by omega)
  have t200 : (200 : Int32).toInt = 200 := rfl
  have e200 : (if 200 < s then 200 else s) = s := if_neg (fun q => by
    have := Int32.lt_iff_toInt_lt.mp q
    omega)
  rw [e200, cl_n ti] at H
  have F1 : FZ noF (fun a => a = 236) noO M (wI M 236 i s) := FZ.wI rfl
  have len : (zrw M 236).length = 5 := (hS.1.row qa_236 qw_49).2
  have w6 : rN (wI M 236 i s) 236 i = s := rN_wI_eq (by omega)
  obtain ⟨q1, q2, q3, q4⟩ := stw_l hr i5 hs n200 n 0 _ (by omega) hS.ki ((F1.on (fun q => q)).trans ho) w6 (fun q hq => absurd hq (Nat.not_lt_zero q)) H
  refine ⟨q1, q2, (F1.more (fun _ _ q => q) (fun a q => Or.inl q) (fun _ q => q)).trans (q3.more (fun _ _ q => q) (fun a q => Or.inr q) (fun _ q => q)), (q3.rn (by omega)).trans w6, fun q hq => ?_, fun q hq => ?_⟩
  · rw [q3.rn (by omega), rN_wI_ne (by omega)]
  · rw [q4 q hq, q3.rn (by omega), rN_wI_ne (by omega)]
theorem twz_l (n5 : n ≤ 5) {o : Nat → Int32} : ∀ (r i : Nat) (c3 c4 c5 : Option Value) (M : Mem), i + r = n → CST T P PI M → STA 8 T P M → (∀ j, j < 3 * n → rN M 2 j = o j) → (∀ k, k < 5 → oN M 230 k = 231 + k) → WYS (wsW T P o) i M → (∀ q, q < i → goW T P o q) → Ev none e 118 55 [some (.ref 0), some (.int (nI n)), some (.int (nI i)), c3, c4, c5] [] M v M' 0 0 → CST T P PI M' ∧ FZ rqdF rqdW noO M M' ∧ ((v = some (.int 1) ∧ (∀ q, q < n → goW T P o q) ∧ WYS (wsW T P o) n M') ∨ (v = some (.int 0) ∧ ¬ ∀ q, q < n → goW T P o q)) := by
  have tn : (nI n).toInt = (n : Int) := nI_toInt (by omega)
  intro r
  induction r with
  | zero =>
    intro i c3 c4 c5 M hi hC hX ht ho hW hg H
    have ti : (nI i).toInt = (i : Int) := nI_toInt (by omega)
    rcases twy_55 hC.sq H with ⟨_, r1, r2⟩ | ⟨a1, _⟩
    · rw [r2]
      exact ⟨hC, FZ.refl _, Or.inl ⟨r1, fun q hq => hg q (by omega), fun q hq => hW q (by omega)⟩⟩
    · exact absurd (Int32.le_iff_toInt_le.mpr (by omega)) a1
  | succ r ih =>
    intro i c3 c4 c5 M hi hC hX ht ho hW hg H
    have ti : (nI i).toInt = (i : Int) := nI_toInt (by omega)
    have t3 : (3 : Int32).toInt = 3 := rfl
    have t2 : (2 : Int32).toInt = 2 := rfl
    have p0 : (3 * nI i).toInt = ((3 * i : Nat) : Int) := by rw [i32_mul (by rw [t3, ti]; omega) (by rw [t3, ti]; omega), t3, ti]; omega
    have p1 : (3 * nI i + 1).toInt = ((3 * i + 1 : Nat) : Int) := by rw [i32_p1 (by omega), p0]; omega
    have p2 : (3 * nI i + 2).toInt = ((3 * i + 2 : Nat) : Int) := by rw [i32_add (by omega) (by omega), p0, t2]; omega
    rcases twy_55 hC.sq H with ⟨a1, _⟩ | ⟨_, _, _, _, e1, v1, M1, he1, H1, H⟩
    · have := Int32.le_iff_toInt_le.mp a1
      omega
    · have e0 : rI M 2 (3 * nI i) = o (3 * i) := (rI_n p0).trans (ht _ (by omega))
      have e1' : rI M 2 (3 * nI i + 1) = o (3 * i + 1) := (rI_n p1).trans (ht _ (by omega))
      have e2' : rI M 2 (3 * nI i + 2) = o (3 * i + 2) := (rI_n p2).trans (ht _ (by omega))
      rw [e0, e1', e2'] at H1 H
      obtain ⟨rm, rv⟩ := wat_ok hC H1
      rw [rm] at H
      rcases rv with ⟨nw, ia, ib, ih9, rv⟩ | ⟨nw, rv⟩
      · rw [rv] at H
        rcases twy_111 hC.sq H with ⟨q, _⟩ | ⟨_, e3, v3, M3, he3, H3, H⟩
        · exact absurd q (by decide)
        · have hr : gNth sT (fR M 0 10) = some 58 := (hC.sq.1.fr qa_0 qr_0_10).2
          have hrc := rw_c hr
          obtain ⟨rv3, c3, x3, F3, t3', r3⟩ := arv_ok hC hX hr ih9 ia ib H3
          rw [rv3] at H
          have F3' : FZ rqdF rqdW noO M M3 := F3.more (fun _ _ q => q) (fun a q => by
            rcases q with q | q
            · exact Or.inl q
            · exact Or.inr (by omega)) (fun _ q => q)
          have e10 : fR M3 0 10 = fR M 0 10 := F3.fr (by unfold wyF; omega)
          rcases twy_130 c3.sq H with ⟨w, r1, r2⟩ | ⟨w, e4, v4, M4, he4, H4, H⟩
          · rw [r2]
            refine ⟨c3, F3', Or.inr ⟨r1, fun q => ?_⟩⟩
            rw [(q i (by omega)).2] at w
            exact absurd w (by decide)
          · rw [bI_0, Bool.not_eq_false] at w
            rw [e10] at H4
            have lw := snW_len (T := T) (P := P) (a := o (3 * i)) (b := o (3 * i + 1)) (h := o (3 * i + 2))
            have l200 := snW_200 (T := T) (P := P) (a := o (3 * i)) (b := o (3 * i + 1)) (h := o (3 * i + 2))
            obtain ⟨q1, q2, q3, q4, q5, q6⟩ := stw_ok c3.sq hr (by omega) (n := (wsW T P o i).length) (by show _ = ((snW T P (o (3 * i)) (o (3 * i + 1)) (o (3 * i + 2))).length : Int); omega) l200 ((F3.on (fun q => q)).trans (ho i (by omega))) H4
            rw [q1] at H
            have F4 : FZ netF netW netW M3 M4 := q3.more (fun _ _ q => q.elim) (fun a q => Or.inl (by omega)) (fun _ q => q.elim)
            have F4' : FZ rqdF rqdW noO M3 M4 := q3.more (fun _ _ q => q.elim) (fun a q => Or.inr (Or.inr (Or.inr (by omega)))) (fun _ q => q)
            have H := twy_154 q2 H
            rw [nI_p1 (by omega)] at H
            have FF := F3'.trans F4'
            obtain ⟨u1, u2, u3⟩ := ih (i + 1) _ _ _ M4 (by omega) (c3.nt q2 F4) (x3.nt hC.ok.1 q2 F4) (fun j hj => (FF.rn (by unfold rqdW lkW; omega)).trans (ht j hj)) (fun k hk => (FF.on (fun q => q)).trans (ho k hk)) (fun q hq => by
              by_cases z : q = i
              · rw [z]
                refine ⟨⟨?_, l200⟩, fun m y hm => ?_⟩
                · rw [q4]
                  have tl : (nI (wsW T P o i).length).toInt = ((wsW T P o i).length : Int) := nI_toInt (by have : (wsW T P o i).length ≤ 200 := l200; omega)
                  refine Int32.toInt_inj.mp ?_
                  rw [tl]
                  show _ = ((snW T P (o (3 * i)) (o (3 * i + 1)) (o (3 * i + 2))).length : Int)
                  omega
                · obtain ⟨y2, g1, g2, g3, g4⟩ := snW_c hC.ok.1 ia ib hm
                  have hml : m < (wsW T P o i).length := (List.getElem?_eq_some_iff.mp hm).1
                  exact ⟨by rw [q6 m hml, r3 _ _ g1, g2], g4⟩
              · obtain ⟨⟨g1, g2⟩, g3⟩ := hW q (by omega)
                refine ⟨⟨?_, g2⟩, fun m y hm => ?_⟩
                · rw [q5 q z, F3.rn (by unfold wyW lkW; omega)]
                  exact g1
                · rw [q3.rn (by omega), F3.rn (by unfold wyW lkW; omega)]
                  exact g3 m y hm) (fun q hq => by
              by_cases z : q = i
              · rw [z]
                exact ⟨nw, w⟩
              · exact hg q (by omega)) H
            exact ⟨u1, FF.trans u2, u3⟩
      · rw [rv] at H
        rcases twy_111 hC.sq H with ⟨_, r1, r2⟩ | ⟨q, _⟩
        · rw [r2]
          exact ⟨hC, FZ.refl _, Or.inr ⟨r1, fun q => (q i (by omega)).1 nw⟩⟩
        · exact absurd rfl q
/-! the least and the greatest are told apart by nothing -/
theorem isMn.uniq (h1 : isMn S j z) (h2 : isMn S j w) : z = w := by
  obtain ⟨⟨t, a, b⟩, c⟩ := h1
  obtain ⟨⟨u, d, f⟩, g⟩ := h2
  have := c u d
  have := g t a
  omega
theorem isMx.uniq (h1 : isMx S j z) (h2 : isMx S j w) : z = w := by
  obtain ⟨⟨t, a, b⟩, c⟩ := h1
  obtain ⟨⟨u, d, f⟩, g⟩ := h2
  have := c u d
  have := g t a
  omega
theorem gd_9 : ∀ (r i : Nat) (L : ROWq) (t : Nat → Nat), gdTl W r i L t → ∀ j, i ≤ j → j < i + r → t j ≤ 9 := by
  intro r
  induction r with
  | zero => intro i L t _ j h1 h2; omega
  | succ r ih =>
    intro i L t h j h1 h2
    by_cases q : j = i
    · rw [q]
      exact h.1
    · exact ih (i + 1) _ t h.2 j (by omega) (by omega)
theorem mn_is (hU : ∀ t, U t ↔ S t) (hne : ∃ t, S t) (h9 : ∀ t, S t → t j ≤ 9) (hj : j < k) (h : mnS U k lo lo2) (e : lo j = 9) : isMn S j (lo2 j) := by
  obtain ⟨h1, h2, h3⟩ := h j hj
  refine ⟨?_, fun t ht => h2 t ((hU t).mpr ht)⟩
  rcases h3 with q | ⟨t, q1, q2⟩
  · obtain ⟨t, ht⟩ := hne
    have := h2 t ((hU t).mpr ht)
    have := h9 t ht
    exact ⟨t, ht, by omega⟩
  · exact ⟨t, (hU t).mp q1, q2⟩
theorem mx_is (hU : ∀ t, U t ↔ S t) (hne : ∃ t, S t) (hj : j < k) (h : mxS U k lo lo2) (e : lo j = 0) : isMx S j (lo2 j) := by
  obtain ⟨h1, h2, h3⟩ := h j hj
  refine ⟨?_, fun t ht => h2 t ((hU t).mpr ht)⟩
  rcases h3 with q | ⟨t, q1, q2⟩
  · obtain ⟨t, ht⟩ := hne
    have := h2 t ((hU t).mpr ht)
    exact ⟨t, ht, by omega⟩
  · exact ⟨t, (hU t).mp q1, q2⟩
theorem suI_cut : ∀ n m, m ≤ n → (∀ c, m ≤ c → c < n → L c = 0) → suI L n = suI L m := by
  intro n
  induction n with
  | zero =>
    intro m hm _
    rw [show m = 0 by omega]
  | succ n ih =>
    intro m hm h
    by_cases q : m = n + 1
    · rw [q]
    · show suI L n + L n = _
      rw [ih m (by omega) (fun c h1 h2 => h c h1 (by omega)), h n (by omega) (by omega)]
      omega
theorem snL_rng (hP : okA P) (c : Nat) : 0 ≤ snL P c ∧ snL P c ≤ 4000000 := by
  unfold snL
  by_cases q : c < clsP P
  · rw [if_pos q]
    obtain ⟨hD, _, ht, hE⟩ := hP
    obtain ⟨h1, h2⟩ := inC.nat hD.1 q
    obtain ⟨_, _, _, _, _, h6, h7⟩ := hE (nI c) h1
    have e : cE P 6 (nI c) = P (522 + 7 * c + 6) := by unfold cE cX; rw [h2]
    rw [e] at h6 h7
    omega
  · rw [if_neg q]
    omega
theorem tls_l (k5 : k ≤ 5) (hP : okA P) (hA : LAN 8 P M0) : ∀ (r c : Nat) (M : Mem), c + r = clsP P → SNO W k M → FZ teF teW noO M0 M → (∀ j, j < 256 → (rN M 237 j).toInt = if j < c then snL P j else 0) → (zI M 229 4).toInt = suI (snL P) c → Ev none e 43 15 [some (.ref 229), some (.ref 8), some (.int (nI c))] [] M v M' 0 0 → ∃ f : Int32, v = some (.int f) ∧ f.toInt = (ndN W k 0 (snL P) : Int) ∧ SQ M' ∧ FZ tsF tsW noO M0 M' ∧ ((f.toInt = 0 ∧ zI M' 229 8 = zI M0 229 8 ∧ ∀ j, rN M' 241 j = rN M0 241 j ∧ rN M' 242 j = rN M0 242 j) ∨ (f.toInt ≠ 0 ∧ zI M' 229 8 = nI k ∧ ∀ j, j < k → isMn (gdTl W k 0 (snL P)) j (rN M' 241 j).toInt ∧ isMx (gdTl W k 0 (snL P)) j (rN M' 242 j).toInt)) := by
  have hw := hP.1.1
  obtain ⟨_, c256, _⟩ := cls_int hw
  intro r
  induction r with
  | zero =>
    intro c M hc hS hF h7 h4 H
    have tc : (nI c).toInt = (c : Int) := nI_toInt (by omega)
    have g6 : (G_6 M 8).toInt = (clsP P : Int) := g6_ok hw ((hF.fi (fun q => absurd q.1 (by decide))).trans hA.1.1) ((hF.fi (fun q => absurd q.1 (by decide))).trans hA.1.2.1)
    rcases tls_15 hS.1 qa_8 H with ⟨_, e1, v1, M1, _, H1, H⟩ | ⟨a1, _⟩
    · have Fa : FZ noF (fun a => a = 239 ∨ a = 240) noO M (wA (wA M 239 9) 240 0) := (FZ.wA (Or.inl rfl)).trans (FZ.wA (Or.inr rfl))
      have Fa' : FZ teF teW noO M (wA (wA M 239 9) 240 0) := Fa.more (fun _ _ q => q.elim) (fun a q => by unfold teW; omega) (fun _ q => q)
      have Sa : SQ (wA (wA M 239 9) 240 0) := hS.1.ka.ka
      have Na := hS.fz Sa Fa' k5
      have La : LEF (snL P) (wA (wA M 239 9) 240 0) := by
        refine ⟨fun j hj => ?_, ?_⟩
        · rw [Fa.rn (by omega), h7 j hj]
          by_cases q : j < c
          · rw [if_pos q]
          · rw [if_neg q]
            unfold snL
            rw [if_neg (by omega)]
        · rw [Fa.fi (fun q => q), h4]
          exact (suI_cut 256 c (by omega) (fun d h1 h2 => by unfold snL; rw [if_neg (by omega)])).symm
      have r9 : ∀ j, j < 5 → rN (wA (wA M 239 9) 240 0) 239 j = 9 := fun j hj => by
        rw [rN_wA_ne (by decide)]
        exact rN_wA_eq hS.1.1 qa_239 qw_52 hj
      have r0 : ∀ j, j < 5 → rN (wA (wA M 239 9) 240 0) 240 j = 0 := fun j hj => rN_wA_eq hS.1.ka.1 qa_240 qw_53 hj
      obtain ⟨f, q1, q2, q3, q4, q5, _, q7, q8⟩ := tel_ok k5 k 0 e1 (by omega) (snL P) (fun _ => 0) _ _ _ e1 Na La (fun d _ => snL_rng hP d) (fun j hj => absurd hj (Nat.not_lt_zero j)) H1
      rw [q1] at H
      have t0 : (0 : Int32).toInt = 0 := rfl
      have FF : FZ teF teW noO M0 M1 := (hF.trans Fa').trans q4
      have FT : FZ tsF tsW noO M0 M1 := FF.more (fun a b q => ⟨q.1, Or.inl q.2⟩) (fun a q => by unfold teW at q; unfold tsW; omega) (fun _ q => q)
      have N1 := Na.fz q3 q4 k5
      rcases tls_78 q3 qa_8 H with ⟨b1, r1, r2⟩ | ⟨b1, r1, r2⟩
      · have b1 := Int32.le_iff_toInt_le.mp b1
        rw [r2]
        exact ⟨f, r1, q2, q3, FT, Or.inl ⟨by omega, FF.fi (fun q => absurd q.2 (by decide)), fun j => ⟨FF.rn (by unfold teW; omega), FF.rn (by unfold teW; omega)⟩⟩⟩
      · rw [Int32.le_iff_toInt_le] at b1
        have hne : ∃ t, gdTl W k 0 (snL P) t := nd_pos k 0 _ (by omega)
        have S8 : SQ (wF M1 229 8 (zI M1 229 2)) := q3.kf
        have S9 : SQ (wC (wF M1 229 8 (zI M1 229 2)) 239 241) := S8.kc qa_239 qw_52 qa_241 qw_54
        refine ⟨f, r1, q2, by rw [r2]; exact S9.kc qa_240 qw_53 qa_242 qw_55, ?_, Or.inr ⟨by omega, ?_, fun j hj => ?_⟩⟩
        · rw [r2]
          exact FT.trans (((FZ.wF (F := tsF) (W := tsW) (O := noO) ⟨rfl, Or.inr rfl⟩).trans (FZ.wC (by unfold tsW; omega))).trans (FZ.wC (by unfold tsW; omega)))
        · rw [r2, fI_wC, fI_wC, fI_wF_eq q3.1 qa_229 qi_46_8]
          exact N1.2.1
        · have e1 : rN M' 241 j = rN M1 239 j := by
            rw [r2, rN_wC_ne (by decide), rN_wC_eq S8.1 qa_241 qw_54, rN_wF]
          have e2 : rN M' 242 j = rN M1 240 j := by
            rw [r2, rN_wC_eq S9.1 qa_242 qw_55, rN_wC_ne (by decide), rN_wF]
          rw [e1, e2]
          have hU : ∀ t : Nat → Nat, ((∀ j, j < 0 → t j = 0) ∧ gdTl W k 0 (snL P) t) ↔ gdTl W k 0 (snL P) t := fun t => ⟨fun h => h.2, fun h => ⟨fun j hj => absurd hj (Nat.not_lt_zero j), h⟩⟩
          refine ⟨mn_is hU hne (fun t ht => gd_9 k 0 _ t ht j (Nat.zero_le _) (by omega)) hj q7 (by unfold lwI; rw [r9 j (by omega)]; rfl), mx_is hU hne hj q8 (by unfold hgI; rw [r0 j (by omega)]; rfl)⟩
    · exact absurd (Int32.le_iff_toInt_le.mpr (by omega)) a1
  | succ r ih =>
    intro c M hc hS hF h7 h4 H
    have tc : (nI c).toInt = (c : Int) := nI_toInt (by omega)
    have g6 : (G_6 M 8).toInt = (clsP P : Int) := g6_ok hw ((hF.fi (fun q => absurd q.1 (by decide))).trans hA.1.1) ((hF.fi (fun q => absurd q.1 (by decide))).trans hA.1.2.1)
    rcases tls_15 hS.1 qa_8 H with ⟨a1, _⟩ | ⟨_, _, _, _, H⟩
    · have := Int32.le_iff_toInt_le.mp a1
      omega
    · have er : rN M (8 + 7) c = P (522 + 7 * c + 6) := ((hF.rn (by unfold teW; omega)).trans (hA.2.2.1 c 6 (by omega) (by decide)))
      rw [cl_n tc, rI_n tc, rI_n tc, er, nI_p1 (by omega)] at H
      have len : (zrw M 237).length = 256 := lf_len hS.1
      have w7 : rN (wI M 237 c (P (522 + 7 * c + 6))) 237 c = P (522 + 7 * c + 6) := rN_wI_eq (by omega)
      rw [w7] at H
      have sL : snL P c = (P (522 + 7 * c + 6)).toInt := by unfold snL; rw [if_pos (by omega)]
      have hr := snL_rng hP c
      have hs := (suI_ge (L := snL P) c (fun d _ => (snL_rng hP d).1)).1
      have hs2 := suI_le (L := snL P) c 4000000 (fun d _ => (snL_rng hP d).2)
      have F1 : FZ teF teW noO M (wF (wI M 237 c (P (522 + 7 * c + 6))) 229 4 (zI M 229 4 + P (522 + 7 * c + 6))) := (FZ.wI (F := teF) (W := teW) (O := noO) (by unfold teW; omega)).trans (FZ.wF ⟨rfl, rfl⟩)
      have S1 : SQ (wF (wI M 237 c (P (522 + 7 * c + 6))) 229 4 (zI M 229 4 + P (522 + 7 * c + 6))) := hS.1.ki.kf
      refine ih (c + 1) _ (by omega) (hS.fz S1 F1 k5) (hF.trans F1) (fun j hj => ?_) ?_ H
      · rw [rN_wF]
        by_cases z : j = c
        · rw [z, w7, if_pos (by omega), sL]
        · rw [rN_wI_ne (by omega), h7 j hj]
          by_cases y : j < c
          · rw [if_pos y, if_pos (by omega)]
          · rw [if_neg y, if_neg (by omega)]
      · rw [fI_wF_eq hS.1.ki.1 qa_229 qi_46_4, i32_add (by omega) (by omega), h4]
        show _ = suI (snL P) c + snL P c
        omega
theorem tls_ok (k5 : k ≤ 5) (hP : okA P) (hA : LAN 8 P M) (hS : SNO W k M) (H : Ev none e 43 0 [some (.ref 229), some (.ref 8), none] [] M v M' 0 0) : ∃ f : Int32, v = some (.int f) ∧ f.toInt = (ndN W k 0 (snL P) : Int) ∧ SQ M' ∧ FZ tsF tsW noO M M' ∧ ((f.toInt = 0 ∧ zI M' 229 8 = zI M 229 8 ∧ ∀ j, rN M' 241 j = rN M 241 j ∧ rN M' 242 j = rN M 242 j) ∨ (f.toInt ≠ 0 ∧ zI M' 229 8 = nI k ∧ ∀ j, j < k → isMn (gdTl W k 0 (snL P)) j (rN M' 241 j).toInt ∧ isMx (gdTl W k 0 (snL P)) j (rN M' 242 j).toInt)) := by
  have F1 : FZ teF teW noO M (wA (wF M 229 4 0) 237 0) := (FZ.wF (F := teF) (W := teW) (O := noO) ⟨rfl, rfl⟩).trans (FZ.wA (by unfold teW; omega))
  have S1 : SQ (wA (wF M 229 4 0) 237 0) := hS.1.kf.ka
  refine tls_l k5 hP hA (clsP P) 0 _ (by omega) (hS.fz S1 F1 k5) F1 (fun j hj => ?_) ?_ (tls_0 hS.1 qa_8 H)
  · rw [rN_wA_eq hS.1.kf.1 qa_237 qw_50 hj, if_neg (Nat.not_lt_zero j)]
    rfl
  · rw [fI_wA, fI_wF_eq hS.1.1 qa_229 qi_46_4]
    rfl
end CTLS
