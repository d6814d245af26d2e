/-! THE CASES, in themselves; the reference's weeks -/
noncomputable def samB (g : TQ) (P Q : PK) : Nat → Int32 → Bool
  | 0, _ => true
  | k + 1, c => if wrnB g P c = wrnB g Q c then samB g P Q k (c + 1) else false
/-- the NETS are alike -/
noncomputable def samN (g : TQ) (P Q : PK) : Bool := samB g P Q (clsP P) 0
noncomputable def restL (T : TS) (t : Nat) : Nat → Int32 → PK → Int32
  | 0, _, _ => -1
  | n + 1, w, P => if samN (T 0) P (wksP T t P) = true then w else restL T t n (w + 1) (wksP T t P)
noncomputable def wkN (T : TS) (t : Nat) : Nat → PK → PK
  | 0, P => P
  | n + 1, P => wkN T t n (wksP T t P)
noncomputable def lasL (T : TS) (t : Nat) (c : Int32) : Nat → Int32 → PK → Int32
  | 0, n, P => if wrnB (T 0) P c = true then -1 else n
  | k + 1, n, P => if wrnB (T 0) P c = true then lasL T t c k (n + 1) (wksP T t P) else n
/-- n in the place of a line's NUMBER -/
noncomputable def lnN (q : TQ) (i : Nat) (n : Int32) : TQ := (q.1, q.2.modify i (fun l => (l.1, l.2.1, n, l.2.2.2.1, l.2.2.2.2)))
noncomputable def setT (T : TS) (h i : Nat) (n : Int32) : TS := fun j => if j = h then lnN (T h) i n else T j
noncomputable def turL (T : TS) (h i t w : Nat) (m : Int32) (P : PK) : Nat → Int32 → Int32
  | 0, _ => -1
  | k + 1, n => if nwP (T 0) (wkN (setT T h i n) t w P) ≤ m then n else turL T h i t w m P k (n + 1)
noncomputable def fen1 (P : PK) (a : Int32) : PK := if 0 ≤ a then layP P a 6 else P
noncomputable def fenP (P : PK) (a b : Int32) : PK := fen1 (fen1 P a) b
/-- somebody steps on it -/
noncomputable def trodB (T : TS) (P : PK) (c : Int32) (t : Nat) (a b : Int32) : Bool := decide (c ∈ (gofP T c t (fenP P a b, [])).2)
/-- how many CELLS the one NET has that the other has not -/
noncomputable def aloP2 (g : TQ) (P Q : PK) : Nat → Int32 → Int32 → Int32
  | 0, _, n => n
  | k + 1, c, n => aloP2 g P Q k (c + 1) (n + (if wrnB g P c = true ∧ wrnB g Q c = false then 1 else 0))
section RTRI
variable {e B : Nat} {T : TS} {P P' Q : PK} {M M0 M1 M' : Mem} {v : Option Value} {c k d x a b t y : Int32} {w dd : Int32} {f0 : Bool} {n i j : Nat}
theorem wek_K {g : TQ} (hD : okD P) (hK : okK P) : okD (wekP g P) ∧ okK (wekP g P) := by
  have lo := wek_lo (g := g) hD.1
  have hs : hiS P (wekP g P) := lo
  exact ⟨hs.D hD, hs.K hK⟩
theorem tks_K : ∀ (r : Nat) (p : PS), okD p.1 → okK p.1 → okD (tksP T r p).1 ∧ okK (tksP T r p).1 := by
  intro r
  induction r with
  | zero => intro p h1 h2; exact ⟨h1, h2⟩
  | succ r ih =>
    intro p h1 h2
    obtain ⟨d1, k1⟩ := tck_keep (T := T) h1 h2
    exact ih (tckP T p) d1 k1
theorem wks_K {t : Nat} (hD : okD P) (hK : okK P) : okD (wksP T t P) ∧ okK (wksP T t P) := by
  obtain ⟨d1, k1⟩ := tks_K (T := T) t (P, []) hD hK
  exact wek_K d1 k1
/-- the size stays -/
theorem tks_0 : ∀ (r : Nat) (p : PS), okD p.1 → okK p.1 → ∀ j, j < 157 → (tksP T r p).1 j = p.1 j := by
  intro r
  induction r with
  | zero => intro p _ _ j _; rfl
  | succ r ih =>
    intro p h1 h2 j hj
    obtain ⟨d1, k1⟩ := tck_keep (T := T) h1 h2
    refine (ih (tckP T p) d1 k1 j hj).trans ?_
    obtain ⟨P, ss⟩ := p
    have h1 : okD P := h1
    have h2 : okK P := h2
    have h12 := h1.2.2.1
    have bk := beg_keep (P 12).toInt.toNat 0 P h2.1 h2.2.1
    have hK1 : okK (bg0P P) := beg_K (P 12).toInt.toNat 0 P h1 h2 (by omega)
    have hD1 : okD (bg0P P) := h1.sb (fun j hj => bk j (Or.inl hj))
    obtain ⟨_, _, q3⟩ := wlk_518 (T := T) (bg0P P 157).toInt.toNat 0 (bg0P P) ss hD1 hK1 (by have := hK1.1; omega)
    unfold tckP
    dsimp only
    rw [up_ne (by omega), q3 j hj]
    exact bk j (Or.inl hj)
theorem wks_0 {t : Nat} (hD : okD P) (hK : okK P) : ∀ j, j < 157 → wksP T t P j = P j := fun j hj => by
  obtain ⟨d1, k1⟩ := tks_K (T := T) t (P, []) hD hK
  exact (wek_lo d1.1 j (by omega)).trans (tks_0 t (P, []) hD hK j hj)
theorem wks_cls {t : Nat} (hD : okD P) (hK : okK P) : clsP (wksP T t P) = clsP P := cls_eq (wks_0 hD hK 0 (by decide)) (wks_0 hD hK 1 (by decide))
theorem rgo_l : ∀ (r k : Nat) (iz : Int32) (P : PK) (ss : List Int32) (M : Mem), RST T P M → okD P → okK P → WFr w f0 ss M → ARn dd P M → iz.toInt = (k : Int) → t.toInt = (k : Int) + (r : Int) → Ev none e 222 2 [some (.ref 633), some (.int t), some (.int iz)] [] M v M' 0 0 → v = none ∧ RST T (wekP (T 0) (tksP T r (P, ss)).1) M' ∧ FZ rkF rkW noO M M' ∧ WFr w f0 (tksP T r (P, ss)).2 M' := by
  intro r
  induction r with
  | zero =>
    intro k iz P ss M hR hD hK hf ha hk hn H
    rcases rgq_2 hR.1 H with ⟨_, e1, v1, M1, _, H1, H⟩ | ⟨a1, _⟩
    · obtain ⟨rv, q2, q3, q4⟩ := rwek_ok hR hD.1 H1
      rw [rv] at H
      obtain ⟨r1, r2⟩ := rgq_21 q2.1 H
      rw [r2]
      exact ⟨r1, q2, q3, ⟨(q4 40).trans hf.1, (q4 42).trans hf.2⟩⟩
    · exact absurd (Int32.le_iff_toInt_le.mpr (by omega)) a1
  | succ r ih =>
    intro k iz P ss M hR hD hK hf ha hk hn H
    have ub := i32_any t
    rcases rgq_2 hR.1 H with ⟨a1, _⟩ | ⟨_, e1, v1, M1, _, H1, H⟩
    · have := Int32.le_iff_toInt_le.mp a1
      omega
    · obtain ⟨rv, q2, q3, q4, q5, q6, q7, q8⟩ := rtick_ok hR hD hK hf ha H1
      rw [rv] at H
      have H := rgq_11 q2.1 H
      obtain ⟨s1, s2, s3, s4⟩ := ih (k + 1) (iz + 1) (tckP T (P, ss)).1 (tckP T (P, ss)).2 M1 q2 q3 q4 q6 q7 (by rw [i32_p1 (by omega)]; omega) (by omega) H
      exact ⟨s1, s2, q5.trans s3, s4⟩
/-- a trial's state -/
def RTR (T : TS) (P P0 : PK) (M : Mem) : Prop := RST T P M ∧ okD P ∧ okK P ∧ (∃ b, zI M 633 42 = bI b) ∧ ∀ j, j < 2314 → rN M 637 j = P0 j
theorem rgo_ok {P0 : PK} (h : RTR T P P0 M) (ht : t.toInt = (n : Int)) (H : Ev none e 222 0 [some (.ref 633), some (.int t), none] [] M v M' 0 0) : v = none ∧ RTR T (wksP T n P) P0 M' ∧ FZ rkF rkW noO M M' := by
  obtain ⟨hR, hD, hK, ⟨b, hb⟩, h9⟩ := h
  have hf : WFr (zI M 633 40) b [] M := ⟨rfl, by rw [hb, decide_eq_false (by simp), Bool.or_false]⟩
  have ha : ARn (zI M 633 41 - P 519) P M := by unfold ARn; grind
  obtain ⟨s1, s2, s3, s4⟩ := rgo_l n 0 0 P [] M hR hD hK hf ha rfl (by omega) (rgq_0 hR.1 H)
  obtain ⟨d1, k1⟩ := wks_K (T := T) (t := n) hD hK
  exact ⟨s1, ⟨s2, d1, k1, ⟨_, s4.2⟩, fun j hj => by rw [s3.rn (by unfold rkW; decide)]; exact h9 j hj⟩, s3⟩
theorem RTR.nt {P0 : PK} {r : Nat} (h : RTR T P P0 M) (hS : SQ M') (hF : FZ noF (fun a => a = r) noO M M') (hr : 650 ≤ r) : RTR T P P0 M' := ⟨h.1.fz hS hF (fun _ _ _ q => q) (fun a ha q => by omega), h.2.1, h.2.2.1, by obtain ⟨b, hb⟩ := h.2.2.2.1; exact ⟨b, (hF.fi (fun q => q)).trans hb⟩, fun j hj => (hF.rn (by omega)).trans (h.2.2.2.2 j hj)⟩
theorem RTR.mk0 (hR : RST T P M) (hD : okD P) (hK : okK P) (hb : ∃ b, zI M 633 42 = bI b) (H : Ev none e 153 0 [some (.ref 633), none] [] M v M' 0 0) : v = none ∧ RTR T P P M' ∧ FZ noF (fun a => a = 637) noO M M' := by
  obtain ⟨r1, r2, r3, r4⟩ := las_ok hR H
  obtain ⟨b, hb⟩ := hb
  exact ⟨r1, ⟨r2, hD, hK, ⟨b, (r4.fi (fun q => q)).trans hb⟩, r3⟩, r4⟩
theorem RTR.bk {P0 : PK} (h : RTR T P P0 M) (H : Ev none e 154 0 [some (.ref 633), none] [] M v M' 0 0) : v = none ∧ RST T P0 M' ∧ FZ noF (fun a => a = 635) noO M M' := lbk_ok h.1 h.2.2.2.2 H
theorem nar_bI (b : Bool) : vp_nar .boolean (bI b) = bI b := by cases b <;> decide
theorem ntb_l (hw : wh4 P) : ∀ (n : Nat) (c : Int32) (M : Mem), RST T P M → 0 ≤ c.toInt → c.toInt + (n : Int) = (clsP P : Int) → Ev none e 220 2 [some (.ref 633), some (.ref 651), some (.int c)] [] M v M' 0 0 → v = none ∧ SQ M' ∧ FZ noF (fun a => a = 651) noO M M' ∧ (∀ x : Int32, c.toInt ≤ x.toInt → x.toInt < (clsP P : Int) → rI M' 651 x = bI (wrnB (T 0) P x)) ∧ ∀ x : Int32, 0 ≤ x.toInt → x.toInt < c.toInt → rI M' 651 x = rI M 651 x := by
  obtain ⟨_, c256, _⟩ := cls_int hw
  intro n
  induction n with
  | zero =>
    intro c M hR hc hn H
    have hg := g144_ok hR hw
    rcases ntb_2 hR.1 H with ⟨_, r1, r2⟩ | ⟨a1, _⟩
    · subst r2
      exact ⟨r1, hR.1, FZ.refl _, fun x h1 h2 => by omega, fun _ _ _ => rfl⟩
    · exact absurd (Int32.le_iff_toInt_le.mpr (by omega)) a1
  | succ n ih =>
    intro c M hR hc hn H
    have hg := g144_ok hR hw
    have hcin : inC P c := ⟨hc, by omega⟩
    have e1 : (c + 1).toInt = c.toInt + 1 := i32_p1 (by omega)
    rcases ntb_2 hR.1 H with ⟨a1, _⟩ | ⟨_, _, H⟩
    · have := Int32.le_iff_toInt_le.mp a1
      omega
    · rw [g150_ok hR hw hcin, nar_bI] at H
      have hF : FZ noF (fun a => a = 651) noO M (wI M 651 c.toNatClampNeg (bI (wrnB (T 0) P c))) := FZ.wI (W := fun a => a = 651) rfl
      have len : (zrw M 651).length = 256 := (hR.1.1.row qa_651 qw_79).2
      have ec : c.toNatClampNeg = c.toInt.toNat := cl_n (by omega)
      obtain ⟨r1, r2, r3, r4, r5⟩ := ih (c + 1) _ (hR.fz hR.1.ki hF (fun _ _ _ q => q) (fun a ha q => by omega)) (by omega) (by omega) H
      refine ⟨r1, r2, hF.trans r3, fun x h1 h2 => ?_, fun x h1 h2 => ?_⟩
      · by_cases hx : x = c
        · rw [hx, r5 c hc (by omega)]
          exact rN_wI_eq (by rw [ec]; omega)
        · have hne : x.toInt ≠ c.toInt := fun q => hx (Int32.toInt_inj.mp q)
          exact r4 x (by omega) h2
      · rw [r5 x h1 (by omega)]
        have ex : x.toNatClampNeg = x.toInt.toNat := cl_n (by omega)
        exact rN_wI_ne (fun q => by rw [ex, ec] at q; omega)
theorem ntb_ok {P0 : PK} (h : RTR T P P0 M) (H : Ev none e 220 0 [some (.ref 633), some (.ref 651), none] [] M v M' 0 0) : v = none ∧ RTR T P P0 M' ∧ FZ noF (fun a => a = 651) noO M M' ∧ ∀ x, inC P x → rI M' 651 x = bI (wrnB (T 0) P x) := by
  have z0 : (0 : Int32).toInt = 0 := rfl
  obtain ⟨r1, r2, r3, r4, _⟩ := ntb_l h.2.1.1 (clsP P) 0 M h.1 (by decide) (by omega) (ntb_0 h.1.1 H)
  exact ⟨r1, h.nt r2 r3 (by decide), r3, fun x hx => r4 x (by have := hx.1; omega) (by have := hx.1; have := hx.2; omega)⟩
theorem ntd_l (hw : wh4 P) : ∀ (n : Nat) (c : Int32) (M : Mem), RST T P M → 0 ≤ c.toInt → c.toInt + (n : Int) = (clsP P : Int) → Ev none e 220 2 [some (.ref 633), some (.ref 652), some (.int c)] [] M v M' 0 0 → v = none ∧ SQ M' ∧ FZ noF (fun a => a = 652) noO M M' ∧ (∀ x : Int32, c.toInt ≤ x.toInt → x.toInt < (clsP P : Int) → rI M' 652 x = bI (wrnB (T 0) P x)) ∧ ∀ x : Int32, 0 ≤ x.toInt → x.toInt < c.toInt → rI M' 652 x = rI M 652 x := by
  obtain ⟨_, c256, _⟩ := cls_int hw
  intro n
  induction n with
  | zero =>
    intro c M hR hc hn H
    have hg := g144_ok hR hw
    rcases ntd_2 hR.1 H with ⟨_, r1, r2⟩ | ⟨a1, _⟩
    · subst r2
      exact ⟨r1, hR.1, FZ.refl _, fun x h1 h2 => by omega, fun _ _ _ => rfl⟩
    · exact absurd (Int32.le_iff_toInt_le.mpr (by omega)) a1
  | succ n ih =>
    intro c M hR hc hn H
    have hg := g144_ok hR hw
    have hcin : inC P c := ⟨hc, by omega⟩
    have e1 : (c + 1).toInt = c.toInt + 1 := i32_p1 (by omega)
    rcases ntd_2 hR.1 H with ⟨a1, _⟩ | ⟨_, _, H⟩
    · have := Int32.le_iff_toInt_le.mp a1
      omega
    · rw [g150_ok hR hw hcin, nar_bI] at H
      have hF : FZ noF (fun a => a = 652) noO M (wI M 652 c.toNatClampNeg (bI (wrnB (T 0) P c))) := FZ.wI (W := fun a => a = 652) rfl
      have len : (zrw M 652).length = 256 := (hR.1.1.row qa_652 qw_80).2
      have ec : c.toNatClampNeg = c.toInt.toNat := cl_n (by omega)
      obtain ⟨r1, r2, r3, r4, r5⟩ := ih (c + 1) _ (hR.fz hR.1.ki hF (fun _ _ _ q => q) (fun a ha q => by omega)) (by omega) (by omega) H
      refine ⟨r1, r2, hF.trans r3, fun x h1 h2 => ?_, fun x h1 h2 => ?_⟩
      · by_cases hx : x = c
        · rw [hx, r5 c hc (by omega)]
          exact rN_wI_eq (by rw [ec]; omega)
        · have hne : x.toInt ≠ c.toInt := fun q => hx (Int32.toInt_inj.mp q)
          exact r4 x (by omega) h2
      · rw [r5 x h1 (by omega)]
        have ex : x.toNatClampNeg = x.toInt.toNat := cl_n (by omega)
        exact rN_wI_ne (fun q => by rw [ex, ec] at q; omega)
theorem ntd_ok {P0 : PK} (h : RTR T P P0 M) (H : Ev none e 220 0 [some (.ref 633), some (.ref 652), none] [] M v M' 0 0) : v = none ∧ RTR T P P0 M' ∧ FZ noF (fun a => a = 652) noO M M' ∧ ∀ x, inC P x → rI M' 652 x = bI (wrnB (T 0) P x) := by
  have z0 : (0 : Int32).toInt = 0 := rfl
  obtain ⟨r1, r2, r3, r4, _⟩ := ntd_l h.2.1.1 (clsP P) 0 M h.1 (by decide) (by omega) (ntd_0 h.1.1 H)
  exact ⟨r1, h.nt r2 r3 (by decide), r3, fun x hx => r4 x (by have := hx.1; omega) (by have := hx.1; have := hx.2; omega)⟩
theorem nte_l (hw : wh4 P) : ∀ (n : Nat) (c : Int32) (M : Mem), RST T P M → 0 ≤ c.toInt → c.toInt + (n : Int) = (clsP P : Int) → Ev none e 220 2 [some (.ref 633), some (.ref 653), some (.int c)] [] M v M' 0 0 → v = none ∧ SQ M' ∧ FZ noF (fun a => a = 653) noO M M' ∧ (∀ x : Int32, c.toInt ≤ x.toInt → x.toInt < (clsP P : Int) → rI M' 653 x = bI (wrnB (T 0) P x)) ∧ ∀ x : Int32, 0 ≤ x.toInt → x.toInt < c.toInt → rI M' 653 x = rI M 653 x := by
  obtain ⟨_, c256, _⟩ := cls_int hw
  intro n
  induction n with
  | zero =>
    intro c M hR hc hn H
    have hg := g144_ok hR hw
    rcases nte_2 hR.1 H with ⟨_, r1, r2⟩ | ⟨a1, _⟩
    · subst r2
      exact ⟨r1, hR.1, FZ.refl _, fun x h1 h2 => by omega, fun _ _ _ => rfl⟩
    · exact absurd (Int32.le_iff_toInt_le.mpr (by omega)) a1
  | succ n ih =>
    intro c M hR hc hn H
    have hg := g144_ok hR hw
    have hcin : inC P c := ⟨hc, by omega⟩
    have e1 : (c + 1).toInt = c.toInt + 1 := i32_p1 (by omega)
    rcases nte_2 hR.1 H with ⟨a1, _⟩ | ⟨_, _, H⟩
    · have := Int32.le_iff_toInt_le.mp a1
      omega
    · rw [g150_ok hR hw hcin, nar_bI] at H
      have hF : FZ noF (fun a => a = 653) noO M (wI M 653 c.toNatClampNeg (bI (wrnB (T 0) P c))) := FZ.wI (W := fun a => a = 653) rfl
      have len : (zrw M 653).length = 256 := (hR.1.1.row qa_653 qw_81).2
      have ec : c.toNatClampNeg = c.toInt.toNat := cl_n (by omega)
      obtain ⟨r1, r2, r3, r4, r5⟩ := ih (c + 1) _ (hR.fz hR.1.ki hF (fun _ _ _ q => q) (fun a ha q => by omega)) (by omega) (by omega) H
      refine ⟨r1, r2, hF.trans r3, fun x h1 h2 => ?_, fun x h1 h2 => ?_⟩
      · by_cases hx : x = c
        · rw [hx, r5 c hc (by omega)]
          exact rN_wI_eq (by rw [ec]; omega)
        · have hne : x.toInt ≠ c.toInt := fun q => hx (Int32.toInt_inj.mp q)
          exact r4 x (by omega) h2
      · rw [r5 x h1 (by omega)]
        have ex : x.toNatClampNeg = x.toInt.toNat := cl_n (by omega)
        exact rN_wI_ne (fun q => by rw [ex, ec] at q; omega)
theorem nte_ok {P0 : PK} (h : RTR T P P0 M) (H : Ev none e 220 0 [some (.ref 633), some (.ref 653), none] [] M v M' 0 0) : v = none ∧ RTR T P P0 M' ∧ FZ noF (fun a => a = 653) noO M M' ∧ ∀ x, inC P x → rI M' 653 x = bI (wrnB (T 0) P x) := by
  have z0 : (0 : Int32).toInt = 0 := rfl
  obtain ⟨r1, r2, r3, r4, _⟩ := nte_l h.2.1.1 (clsP P) 0 M h.1 (by decide) (by omega) (nte_0 h.1.1 H)
  exact ⟨r1, h.nt r2 r3 (by decide), r3, fun x hx => r4 x (by have := hx.1; omega) (by have := hx.1; have := hx.2; omega)⟩
theorem inq_l {R : PK} (hR : RST T P M) (hw : wh4 P) (hb : ∀ x, inC P x → rI M 651 x = bI (wrnB (T 0) R x)) : ∀ (n : Nat) (c : Int32), 0 ≤ c.toInt → c.toInt + (n : Int) = (clsP P : Int) → Ev none e 221 2 [some (.ref 633), some (.ref 651), some (.int c)] [] M v M' 0 0 → M' = M ∧ v = some (.int (bI (samB (T 0) R P n c))) := by
  obtain ⟨_, c256, _⟩ := cls_int hw
  have hg := g144_ok hR hw
  intro n
  induction n with
  | zero =>
    intro c hc hn H
    rcases inq_2 hR.1 H with ⟨_, r1, r2⟩ | ⟨a1, _⟩ | ⟨a1, _⟩
    · exact ⟨r2, r1⟩
    all_goals exact absurd (Int32.le_iff_toInt_le.mpr (by omega)) a1
  | succ n ih =>
    intro c hc hn H
    have hcin : inC P c := ⟨hc, by omega⟩
    have e1 : (c + 1).toInt = c.toInt + 1 := i32_p1 (by omega)
    have inj : ∀ x y : Bool, bI x = bI y ↔ x = y := by decide
    unfold samB
    rcases inq_2 hR.1 H with ⟨a1, _⟩ | ⟨_, a2, _, H⟩ | ⟨_, a2, _, r1, r2⟩
    · have := Int32.le_iff_toInt_le.mp a1
      omega
    · rw [hb c hcin, g150_ok hR hw hcin, inj] at a2
      rw [if_pos a2]
      exact ih (c + 1) (by omega) (by omega) H
    · rw [hb c hcin, g150_ok hR hw hcin, inj] at a2
      rw [if_neg a2]
      exact ⟨r2, r1⟩
/-- rests -/
theorem rrs_l {P0 : PK} (hn : t.toInt = (n : Int)) (k40 : k.toInt ≤ 40) : ∀ (r : Nat) (wz f : Int32) (P : PK) (M : Mem), RTR T P P0 M → wz.toInt + (r : Int) = k.toInt + 1 → 1 ≤ wz.toInt → Ev none e 223 38 [some (.ref 633), some (.int k), some (.int t), some (.int (-1)), some (.int wz)] [] M v M' 0 0 → v = some (.int (restL T n r wz P)) ∧ RST T P0 M' := by
  have uk := i32_any k
  have tm : (-1 : Int32).toInt = -1 := rfl
  have z0 : (0 : Int32).toInt = 0 := rfl
  intro r
  induction r with
  | zero =>
    intro wz f P M h hw h1 H
    rcases rrs_38 h.1.1 H with ⟨_, e1, v1, M1, _, H1, H⟩ | ⟨a1, _⟩ | ⟨a1, _⟩
    · obtain ⟨rv, q1, _⟩ := h.bk H1
      rw [rv] at H
      obtain ⟨r1, r2⟩ := rrs_85 q1.1 H
      exact ⟨r1, r2 ▸ q1⟩
    all_goals exact absurd (Int32.lt_iff_toInt_lt.mpr (by omega)) a1
  | succ r ih =>
    intro wz f P M h hw h1 H
    rcases rrs_38 h.1.1 H with ⟨a1, _⟩ | ⟨_, a1, _⟩ | ⟨_, _, e1, v1, M1, _, H1, H⟩
    · have := Int32.lt_iff_toInt_lt.mp a1
      omega
    · have := Int32.le_iff_toInt_le.mp a1
      omega
    · obtain ⟨rv, q1, q2, q3⟩ := ntb_ok h H1
      rw [rv] at H
      obtain ⟨e2, v2, M2, _, H2, H⟩ := rrs_56 q1.1.1 H
      obtain ⟨rv2, s1, s2⟩ := rgo_ok q1 hn H2
      rw [rv2] at H
      obtain ⟨e3, v3, M3, _, H3, H⟩ := rrs_61 s1.1.1 H
      have hcl := wks_cls (T := T) (t := n) h.2.1 h.2.2.1
      have hw2 := s1.2.1.1
      have hb : ∀ x, inC (wksP T n P) x → rI M2 651 x = bI (wrnB (T 0) P x) := fun x hx => by
        have hx2 : inC P x := ⟨hx.1, by rw [← hcl]; exact hx.2⟩
        have : rI M2 651 x = rI M1 651 x := s2.rn (by unfold rkW; decide)
        rw [this]
        exact q3 x hx2
      obtain ⟨rm, rv3⟩ := inq_l s1.1 hw2 hb (clsP (wksP T n P)) 0 (by decide) (by omega) (inq_0 s1.1.1 H3)
      rw [rv3, rm] at H
      have e1' : (wz + 1).toInt = wz.toInt + 1 := i32_p1 (by omega)
      have es : samB (T 0) P (wksP T n P) (clsP (wksP T n P)) 0 = samN (T 0) P (wksP T n P) := by unfold samN; rw [hcl]
      rw [es] at H
      unfold restL
      rcases rrs_69 s1.1.1 H with ⟨a1, H⟩ | ⟨a1, H⟩
      · rw [bI_0] at a1
        rw [if_neg (by rw [a1]; decide)]
        exact ih (wz + 1) f _ M2 s1 (by omega) (by omega) H
      · rw [bI_0, Bool.not_eq_false] at a1
        rw [if_pos a1]
        have hg : ∀ (cc : Prop), (∃ e1 v1 M1, e = e1 + 1 ∧ Ev none e1 154 0 [some (.ref 633), none] [] M2 v1 M1 0 0 ∧ Ev none e 223 85 [some (.ref 633), some (.int k), some (.int t), some (.int wz), some (.int (wz + 1))] (v1.toList ++ []) M1 v M' 0 0) → v = some (.int wz) ∧ RST T P0 M' := fun _ ⟨e4, v4, M4, _, H4, H⟩ => by
          obtain ⟨rv4, u1, _⟩ := s1.bk H4
          rw [rv4] at H
          obtain ⟨r1, r2⟩ := rrs_85 u1.1 H
          exact ⟨r1, r2 ▸ u1⟩
        rcases rrs_38 s1.1.1 H with ⟨_, H⟩ | ⟨_, _, H⟩ | ⟨_, a2, _⟩
        · exact hg True H
        · exact hg True H
        · exact absurd (Int32.le_iff_toInt_le.mpr (by omega)) a2
def rstN (k t : Int32) : Prop := ¬ inX k 1 40 ∨ ¬ inX t 1 200
theorem rrests_ok (hR : RST T P M) (hD : okD P) (hK : okK P) (hb : ∃ b, zI M 633 42 = bI b) (H : Ev none e 223 0 [some (.ref 633), some (.int k), some (.int t), none, none] [] M v M' 0 0) : (rstN k t ∧ v = some (.int (-2)) ∧ RST T P M') ∨ (¬ rstN k t ∧ v = some (.int (restL T t.toInt.toNat k.toInt.toNat 1 P)) ∧ RST T P M') := by
  have h0 := hR.w0 0 (by decide) 0
  have hb0 : ∃ b, zI (wF M 633 0 0) 633 42 = bI b := by
    obtain ⟨b, hb⟩ := hb
    exact ⟨b, by rw [fI_wF_ne (by decide)]; exact hb⟩
  unfold rstN
  rcases rrs_0 hR.1 H with ⟨a1, r1, r2⟩ | ⟨_, a1, r1, r2⟩ | ⟨a1, a2, e1, v1, M1, _, H1, H⟩
  · rw [g140_R] at a1
    exact Or.inl ⟨Or.inl a1, r1, r2 ▸ h0⟩
  · rw [g140_R] at a1
    exact Or.inl ⟨Or.inr a1, r1, r2 ▸ h0⟩
  · rw [g140_R, Classical.not_not] at a1 a2
    obtain ⟨rv, q1, _⟩ := RTR.mk0 h0 hD hK hb0 H1
    rw [rv] at H
    have t1 : (1 : Int32).toInt = 1 := rfl
    unfold inX at a1 a2
    obtain ⟨r1, r2⟩ := rrs_l (n := t.toInt.toNat) (k := k) (by omega) a1.2 k.toInt.toNat 1 0 P M1 q1 (by omega) (by decide) (rrs_33 q1.1.1 H)
    refine Or.inr ⟨fun q => ?_, r1, r2⟩
    unfold inX at q
    omega
end RTRI
