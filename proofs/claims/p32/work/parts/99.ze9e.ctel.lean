/-! THE CLASS'S tell, tellings -/
section CTEL
variable {e k i j m n r : Nat} {W : Nat → List Nat} {L : ROWq} {l : List Nat} {P : PK} {M M0 M1 M' : Mem} {v : Option Value} {tz y : Int32} {b : Bool} {p : Nat → Nat}
theorem LEF.no (h : LEF L M) (hF : FZ noF (fun a => a = 238 ∨ a = 239 ∨ a = 240) noO M M') : LEF L M' := ⟨fun c hc => by rw [hF.rn (by omega)]; exact h.1 c hc, by rw [hF.fi (fun q => q)]; exact h.2⟩
theorem teW_of (hF : FZ noF (fun a => a = 238 ∨ a = 239 ∨ a = 240) noO M M') : FZ teF teW noO M M' := hF.more (fun _ _ q => q.elim) (fun a q => by unfold teW; omega) (fun _ q => q)
/-- what is taken n times -/
theorem sb_n {t : Int} : sbR (sbR L (ocN (W i)) (n : Int)) (ocN (W i)) t = sbR L (ocN (W i)) ((n : Int) + t) := sbR_sb
theorem sb_rng (hL : ∀ c, c < 256 → 0 ≤ L c ∧ L c ≤ 4000000) (hl : (W i).length ≤ 200) (hn : n ≤ 10) : ∀ c, c < 256 → -10000000 ≤ sbR L (ocN (W i)) (n : Int) c ∧ sbR L (ocN (W i)) (n : Int) c ≤ 10000000 := fun c hc => by
  obtain ⟨h0, h1⟩ := hL c hc
  have h2 : ocN (W i) c ≤ 200 := Nat.le_trans cn_le hl
  have h3 : (n : Int) * (ocN (W i) c : Int) ≤ 10 * 200 := Int.mul_le_mul (by omega) (by omega) (by omega) (by decide)
  have h4 : 0 ≤ (n : Int) * (ocN (W i) c : Int) := Int.mul_nonneg (by omega) (by omega)
  show -10000000 ≤ L c - (n : Int) * (ocN (W i) c : Int) ∧ L c - (n : Int) * (ocN (W i) c : Int) ≤ 10000000
  omega
theorem sb_sum (hW : ∀ y, y ∈ W i → y < 256) (hL : ∀ c, c < 256 → 0 ≤ L c ∧ L c ≤ 4000000) (hl : (W i).length ≤ 200) (hn : n ≤ 10) : -1000000 ≤ suI (sbR L (ocN (W i)) (n : Int)) 256 ∧ suI (sbR L (ocN (W i)) (n : Int)) 256 ≤ 1100000000 := by
  have h1 := (suI_ge 256 (fun c hc => (hL c hc).1)).1
  have h2 := suI_le 256 4000000 (fun c hc => (hL c hc).2)
  have h3 : (n : Int) * ((W i).length : Int) ≤ 10 * 200 := Int.mul_le_mul (by omega) (by omega) (by omega) (by decide)
  have h4 : 0 ≤ (n : Int) * ((W i).length : Int) := Int.mul_nonneg (by omega) (by omega)
  rw [suI_sub, cn_sum hW]
  have : ((256 : Nat) : Int) * 4000000 = 1024000000 := by decide
  omega
/-- what was taken comes back -/
theorem tel_b (k5 : k ≤ 5) (hi : i < k) (hL : ∀ c, c < 256 → 0 ≤ L c ∧ L c ≤ 4000000) {fz bz : Int32} : ∀ (n : Nat) (M : Mem), n ≤ 10 → SNO W k M → LEF (sbR L (ocN (W i)) (n : Int)) M → Ev none e 44 110 [some (.ref 229), some (.int (nI i)), some (.int fz), some (.int bz), some (.int (nI n))] [] M v M' 0 0 → v = some (.int fz) ∧ SQ M' ∧ FZ teF (fun a => a = 237) noO M M' ∧ LEF L M' := by
  have t0 : (0 : Int32).toInt = 0 := rfl
  intro n
  induction n with
  | zero =>
    intro M hn hS hF H
    rcases tel_110 hS.1 H with ⟨_, r1, r2⟩ | ⟨a1, _⟩
    · rw [r2]
      refine ⟨r1, hS.1, FZ.refl _, ?_⟩
      have e : sbR L (ocN (W i)) ((0 : Nat) : Int) = L := sbR_0
      rw [e] at hF
      exact hF
    · exact absurd (by decide) a1
  | succ n ih =>
    intro M hn hS hF H
    have tn : (nI (n + 1)).toInt = ((n + 1 : Nat) : Int) := nI_toInt (by omega)
    rcases tel_110 hS.1 H with ⟨a1, _⟩ | ⟨_, e1, v1, M1, _, H1, H⟩
    · have := Int32.le_iff_toInt_le.mp a1
      rw [tn] at this
      omega
    · have l200 := (hS.2.2.2 i hi).1.2
      have tm1 : (-1 : Int32).toInt = -1 := rfl
      obtain ⟨b2, q1, q2, q3, q4, _⟩ := tak_ok k5 hi hS hF (Or.inr tm1) (sb_rng hL l200 (by omega)) (sb_sum (hS.lt hi) hL l200 (by omega)) H1
      rw [q1] at H
      have H := tel_121 q2 H
      rw [show nI (n + 1) + Int32.ofInt (-1) = nI n from Int32.toInt_inj.mp (by rw [i32_m1e (by omega), tn, nI_toInt (by omega)]; omega)] at H
      rw [tm1, sb_n, show ((n + 1 : Nat) : Int) + -1 = (n : Int) by omega] at q4
      have F1 : FZ teF teW noO M M1 := q3.more (fun _ _ q => q) (fun a q => by have q : a = 237 := q; unfold teW; omega) (fun _ q => q)
      obtain ⟨w1, w2, w3, w4⟩ := ih M1 (by omega) (hS.fz q2 F1 k5) q4 H
      exact ⟨w1, w2, q3.trans w3, w4⟩
/-- tell -/
def TEL (W : Nat → List Nat) (k r i e : Nat) : Prop := ∀ (L : ROWq) (p : Nat → Nat) (M M' : Mem) (v : Option Value) (e' : Nat), SNO W k M → LEF L M → (∀ c, c < 256 → 0 ≤ L c ∧ L c ≤ 4000000) → (∀ j, j < i → (rN M 238 j).toInt = (p j : Int)) → Ev none e' 44 0 [some (.ref 229), some (.int (nI i)), none, none, none] [] M v M' 0 0 → ∃ f : Int32, v = some (.int f) ∧ f.toInt = (ndN W r i L : Int) ∧ SQ M' ∧ FZ teF teW noO M M' ∧ LEF L M' ∧ (∀ j, j < i → rN M' 238 j = rN M 238 j) ∧ mnS (fun t => (∀ j, j < i → t j = p j) ∧ gdTl W r i L t) k (lwI M) (lwI M') ∧ mxS (fun t => (∀ j, j < i → t j = p j) ∧ gdTl W r i L t) k (hgI M) (hgI M')
theorem tel_z (k5 : k ≤ 5) : TEL W k 0 k e := by
  intro L p M M' v e' hS hL h0 hp H
  have ek := hS.2.1
  have tk : (nI k).toInt = (k : Int) := nI_toInt (by omega)
  have t0 : (0 : Int32).toInt = 0 := rfl
  have zi : zI M 229 4 = 0 ↔ zroB L 256 = true := by
    rw [zroB_iff]
    have h1 := suI_ge 256 (fun c hc => (h0 c hc).1)
    constructor
    · intro q c hc
      have h2 := hL.2
      rw [q, t0] at h2
      have := h1.2 c hc
      have := (h0 c hc).1
      omega
    · intro q
      exact Int32.toInt_inj.mp (by rw [hL.2, suI_0 q]; rfl)
  have yes : zI M 229 4 = 0 → ∀ (e1 : Nat) (v1 : Option Value) (M1 : Mem), Ev none e1 47 0 [some (.ref 229), none] [] M v1 M1 0 0 → Ev none e' 44 24 [some (.ref 229), some (.int (nI k)), none, none, none] (v1.toList ++ []) M1 v M' 0 0 → ∃ f : Int32, v = some (.int f) ∧ f.toInt = (ndN W 0 k L : Int) ∧ SQ M' ∧ FZ teF teW noO M M' ∧ LEF L M' ∧ (∀ j, j < k → rN M' 238 j = rN M 238 j) ∧ mnS (fun t => (∀ j, j < k → t j = p j) ∧ gdTl W 0 k L t) k (lwI M) (lwI M') ∧ mxS (fun t => (∀ j, j < k → t j = p j) ∧ gdTl W 0 k L t) k (hgI M) (hgI M') := fun hz e1 v1 M1 H1 H => by
    have hzb := zi.mp hz
    obtain ⟨r1, r2, r3, r4, r5⟩ := not_ok k5 hS hp H1
    rw [r1] at H
    obtain ⟨q1, q2⟩ := tel_24 r2 H
    have F : FZ noF (fun a => a = 238 ∨ a = 239 ∨ a = 240) noO M M1 := r3.more (fun _ _ q => q) (fun a q => by omega) (fun _ q => q)
    rw [q2]
    have hall := (zroB_iff 256).mp hzb
    refine ⟨1, q1, ?_, r2, teW_of F, hL.no F, fun j _ => r3.rn (by omega), fun j hj => ?_, fun j hj => ?_⟩
    · show _ = ((if zroB L 256 = true then 1 else 0 : Nat) : Int)
      rw [if_pos hzb]
      rfl
    · obtain ⟨a1, a2, a3⟩ := r4 j hj
      refine ⟨a1, fun t ht => a2 t ht.1, ?_⟩
      rcases a3 with q | ⟨t, q, w⟩
      · exact Or.inl q
      · exact Or.inr ⟨t, ⟨q, hall⟩, w⟩
    · obtain ⟨a1, a2, a3⟩ := r5 j hj
      refine ⟨a1, fun t ht => a2 t ht.1, ?_⟩
      rcases a3 with q | ⟨t, q, w⟩
      · exact Or.inl q
      · exact Or.inr ⟨t, ⟨q, hall⟩, w⟩
  have no : ¬ zI M 229 4 = 0 → v = some (.int 0) → M' = M → ∃ f : Int32, v = some (.int f) ∧ f.toInt = (ndN W 0 k L : Int) ∧ SQ M' ∧ FZ teF teW noO M M' ∧ LEF L M' ∧ (∀ j, j < k → rN M' 238 j = rN M 238 j) ∧ mnS (fun t => (∀ j, j < k → t j = p j) ∧ gdTl W 0 k L t) k (lwI M) (lwI M') ∧ mxS (fun t => (∀ j, j < k → t j = p j) ∧ gdTl W 0 k L t) k (hgI M) (hgI M') := fun hz r1 r2 => by
    have hzb : ¬ zroB L 256 = true := fun q => hz (zi.mpr q)
    have hn : ∀ t : Nat → Nat, ¬ ((∀ j, j < k → t j = p j) ∧ gdTl W 0 k L t) := fun t ht => hzb ((zroB_iff 256).mpr ht.2)
    rw [r2]
    refine ⟨0, r1, ?_, hS.1, FZ.refl _, hL, fun _ _ => rfl, mnS.refl hn, mxS.refl hn⟩
    show _ = ((if zroB L 256 = true then 1 else 0 : Nat) : Int)
    rw [if_neg hzb]
    rfl
  have hle : zI M 229 2 ≤ nI k := Int32.le_iff_toInt_le.mpr (by rw [ek]; exact Int.le_refl _)
  rcases tel_0 hS.1 H with ⟨_, a2, e1, v1, M1, _, H1, H⟩ | ⟨_, a2, r1, r2⟩ | ⟨a1, _⟩ | ⟨a1, _⟩ | ⟨a1, _⟩
  · exact yes a2 e1 v1 M1 H1 H
  · exact no a2 r1 r2
  all_goals exact absurd hle a1
/-- nothing to tell where something is below 0 -/
theorem nd_neg {c : Nat} (hc : c < 256) (h : L c < 0) : ndN W r i L = 0 ∧ ∀ t, ¬ gdTl W r i L t := by
  have h1 : ∀ t, ¬ gdTl W r i L t := fun t ht => by
    have := gd_ge r i L ht c hc
    omega
  exact ⟨nd_0 h1, h1⟩
theorem tel_l (k5 : k ≤ 5) (hk : i + r + 1 = k) (IH : TEL W k r (i + 1) e) (h0 : ∀ c, c < 256 → 0 ≤ L c ∧ L c ≤ 4000000) (hp : ∀ j, j < i → (rN M0 238 j).toInt = (p j : Int)) : ∀ (q n : Nat) (M : Mem) (b : Bool) (f : Int32), n + q = 10 → SNO W k M → FZ teF teW noO M0 M → LEF (sbR L (ocN (W i)) (n : Int)) M → (b = true → ∀ c, c < 256 → 0 ≤ sbR L (ocN (W i)) (n : Int) c) → (b = false → ∃ c, c < 256 ∧ sbR L (ocN (W i)) (n : Int) c < 0) → (n ≠ 0 → rN M 238 i = nI n) → (n = 0 → b = true) → f.toInt = (suN (fun d => ndN W r (i + 1) (sbR L (ocN (W i)) (d : Int))) n : Int) → (∀ j, j < i → rN M 238 j = rN M0 238 j) → mnS (fun t => ((∀ j, j < i → t j = p j) ∧ gdTl W (r + 1) i L t) ∧ t i < n) k (lwI M0) (lwI M) → mxS (fun t => ((∀ j, j < i → t j = p j) ∧ gdTl W (r + 1) i L t) ∧ t i < n) k (hgI M0) (hgI M) → Ev none e 44 36 [some (.ref 229), some (.int (nI i)), some (.int f), some (.int (bI b)), some (.int (nI n))] [] M v M' 0 0 → ∃ f : Int32, v = some (.int f) ∧ f.toInt = (ndN W (r + 1) i L : Int) ∧ SQ M' ∧ FZ teF teW noO M0 M' ∧ LEF L M' ∧ (∀ j, j < i → rN M' 238 j = rN M0 238 j) ∧ mnS (fun t => (∀ j, j < i → t j = p j) ∧ gdTl W (r + 1) i L t) k (lwI M0) (lwI M') ∧ mxS (fun t => (∀ j, j < i → t j = p j) ∧ gdTl W (r + 1) i L t) k (hgI M0) (hgI M') := by
  have hi : i < k := by omega
  have ti : (nI i).toInt = (i : Int) := nI_toInt (by omega)
  have t9 : (9 : Int32).toInt = 9 := rfl
  -- behind the loop
  have done : ∀ (n : Nat) (M : Mem) (b : Bool) (f : Int32), n ≤ 10 → n ≠ 0 → SNO W k M → FZ teF teW noO M0 M → LEF (sbR L (ocN (W i)) (n : Int)) M → (n = 10 ∨ ∃ c, c < 256 ∧ sbR L (ocN (W i)) (n : Int) c < 0) → rN M 238 i = nI n → f.toInt = (suN (fun d => ndN W r (i + 1) (sbR L (ocN (W i)) (d : Int))) n : Int) → (∀ j, j < i → rN M 238 j = rN M0 238 j) → mnS (fun t => ((∀ j, j < i → t j = p j) ∧ gdTl W (r + 1) i L t) ∧ t i < n) k (lwI M0) (lwI M) → mxS (fun t => ((∀ j, j < i → t j = p j) ∧ gdTl W (r + 1) i L t) ∧ t i < n) k (hgI M0) (hgI M) → Ev none e 44 110 [some (.ref 229), some (.int (nI i)), some (.int f), some (.int (bI b)), some (.int (rI M 238 (nI i)))] [] M v M' 0 0 → ∃ f : Int32, v = some (.int f) ∧ f.toInt = (ndN W (r + 1) i L : Int) ∧ SQ M' ∧ FZ teF teW noO M0 M' ∧ LEF L M' ∧ (∀ j, j < i → rN M' 238 j = rN M0 238 j) ∧ mnS (fun t => (∀ j, j < i → t j = p j) ∧ gdTl W (r + 1) i L t) k (lwI M0) (lwI M') ∧ mxS (fun t => (∀ j, j < i → t j = p j) ∧ gdTl W (r + 1) i L t) k (hgI M0) (hgI M') := fun n M b f hn n0 hS hF hL hx ht hf hj hm hM H => by
    rw [rI_n ti, ht] at H
    obtain ⟨w1, w2, w3, w4⟩ := tel_b k5 hi h0 n M hn hS hL H
    -- from n on nothing is told
    have none_ : ∀ d, n ≤ d → d < 10 → ndN W r (i + 1) (sbR L (ocN (W i)) (d : Int)) = 0 ∧ ∀ t, ¬ gdTl W r (i + 1) (sbR L (ocN (W i)) (d : Int)) t := fun d h1 h2 => by
      rcases hx with q | ⟨c, c1, c2⟩
      · omega
      · refine nd_neg c1 ?_
        have a : L c - (n : Int) * (ocN (W i) c : Int) < 0 := c2
        have b : (n : Int) * (ocN (W i) c : Int) ≤ (d : Int) * (ocN (W i) c : Int) := Int.mul_le_mul_of_nonneg_right (by omega) (by omega)
        show L c - (d : Int) * (ocN (W i) c : Int) < 0
        omega
    have eS : ∀ t, ((∀ j, j < i → t j = p j) ∧ gdTl W (r + 1) i L t) ↔ (((∀ j, j < i → t j = p j) ∧ gdTl W (r + 1) i L t) ∧ t i < n) ∨ False := fun t => by
      constructor
      · intro h
        refine Or.inl ⟨h, ?_⟩
        by_cases q : t i < n
        · exact q
        · exact absurd h.2.2 ((none_ (t i) (by omega) (by have := h.2.1; omega)).2 t)
      · rintro (h | h)
        · exact h.1
        · exact h.elim
    have lw : lwI M' = lwI M := funext (fun j => by unfold lwI; rw [w3.rn (by decide)])
    have hg : hgI M' = hgI M := funext (fun j => by unfold hgI; rw [w3.rn (by decide)])
    refine ⟨f, w1, ?_, w2, hF.trans (w3.more (fun _ _ q => q) (fun a q => by have q : a = 237 := q; unfold teW; omega) (fun _ q => q)), w4, fun j h => (w3.rn (by decide)).trans (hj j h), ?_, ?_⟩
    · rw [hf]
      show _ = ((suN (fun d => ndN W r (i + 1) (sbR L (ocN (W i)) (d : Int))) 10 : Nat) : Int)
      rw [suN_cut 10 n hn (fun c h1 h2 => (none_ c h1 h2).1)]
    · rw [lw]
      exact hm.step (mnS.refl (S := fun _ => False) (fun _ q => q)) eS
    · rw [hg]
      exact hM.step (mxS.refl (S := fun _ => False) (fun _ q => q)) eS
  intro q
  induction q with
  | zero =>
    intro n M b f hq hS hF hL hb hb2 ht hn0 hf hj hm hM H
    have en : n = 10 := by omega
    subst en
    rcases tel_36 hS.1 H with ⟨_, _, H⟩ | ⟨a1, _⟩ | ⟨a1, _⟩
    · exact done 10 M b f (Nat.le_refl _) (by decide) hS hF hL (Or.inl rfl) (ht (by decide)) hf hj hm hM H
    all_goals exact absurd (by decide) a1
  | succ q ih =>
    intro n M b f hq hS hF hL hb hb2 ht hn0 hf hj hm hM H
    have tn : (nI n).toInt = (n : Int) := nI_toInt (by omega)
    rcases tel_36 hS.1 H with ⟨a1, _⟩ | ⟨_, a2, _, H⟩ | ⟨_, a2, _, e1, v1, M1, _, H1, H⟩
    · have := Int32.lt_iff_toInt_lt.mp a1
      rw [tn] at this
      omega
    · rw [bI_0] at a2
      have n0 : n ≠ 0 := fun z => by
        have := hn0 z
        rw [a2] at this
        cases this
      exact done n M b f (by omega) n0 hS hF hL (Or.inr (hb2 a2)) (ht n0) hf hj hm hM H
    · rw [bI_0, Bool.not_eq_false] at a2
      have hpos := hb a2
      rw [cl_n ti] at H1
      rw [nI_p1 (by omega)] at H1
      have l200 := (hS.2.2.2 i hi).1.2
      have len8 : (zrw M 238).length = 5 := (hS.1.1.row qa_238 qw_51).2
      have Fa : FZ noF (fun a => a = 238 ∨ a = 239 ∨ a = 240) noO M (wI M 238 i (nI n)) := FZ.wI (Or.inl rfl)
      have Sa := hS.fz hS.1.ki (teW_of Fa) k5
      have La := hL.no Fa
      have ra : rN (wI M 238 i (nI n)) 238 i = nI n := rN_wI_eq (by omega)
      have ro : ∀ j, j ≠ i → rN (wI M 238 i (nI n)) 238 j = rN M 238 j := fun j h => rN_wI_ne (fun q => h q.2)
      obtain ⟨rv, rm⟩ := men_ok k5 Sa La (by omega) H1
      rw [rm, rv] at H
      -- behind what the rest told
      have go1 : ∀ (e1 : Nat) (M2 : Mem) (f2 : Int32) (v1 : Option Value) (M1 : Mem), f2.toInt = (suN (fun d => ndN W r (i + 1) (sbR L (ocN (W i)) (d : Int))) (n + 1) : Int) → SNO W k M2 → FZ teF teW noO M0 M2 → LEF (sbR L (ocN (W i)) (n : Int)) M2 → (∀ j, j < i → rN M2 238 j = rN M0 238 j) → mnS (fun t => ((∀ j, j < i → t j = p j) ∧ gdTl W (r + 1) i L t) ∧ t i < n + 1) k (lwI M0) (lwI M2) → mxS (fun t => ((∀ j, j < i → t j = p j) ∧ gdTl W (r + 1) i L t) ∧ t i < n + 1) k (hgI M0) (hgI M2) → Ev none e1 46 0 [some (.ref 229), some (.int (nI i)), some (.int 1), none, none, none] [] M2 v1 M1 0 0 → Ev none e 44 85 [some (.ref 229), some (.int (nI i)), some (.int f2), some (.int (bI b)), some (.int (nI n))] (v1.toList ++ []) M1 v M' 0 0 → ∃ f : Int32, v = some (.int f) ∧ f.toInt = (ndN W (r + 1) i L : Int) ∧ SQ M' ∧ FZ teF teW noO M0 M' ∧ LEF L M' ∧ (∀ j, j < i → rN M' 238 j = rN M0 238 j) ∧ mnS (fun t => (∀ j, j < i → t j = p j) ∧ gdTl W (r + 1) i L t) k (lwI M0) (lwI M') ∧ mxS (fun t => (∀ j, j < i → t j = p j) ∧ gdTl W (r + 1) i L t) k (hgI M0) (hgI M') := fun e1 M2 f2 v1 M1 hf2 S2 F2 L2 j2 m2 x2 H1 H => by
        obtain ⟨b2, q1, q2, q3, q4, q5⟩ := tak_ok k5 hi S2 L2 (Or.inl rfl) (sb_rng h0 l200 (by omega)) (sb_sum (S2.lt hi) h0 l200 (by omega)) H1
        have q5 := q5 rfl
        rw [q1] at H
        obtain ⟨_, H⟩ := tel_85 q2 H
        rw [cl_n ti, nI_p1 (by omega)] at H
        have t1 : (1 : Int32).toInt = 1 := rfl
        have ec : ((n : Int) + 1) = ((n + 1 : Nat) : Int) := by omega
        rw [t1, sb_n, ec] at q4
        rw [sb_n, ec] at q5
        have F3 : FZ teF teW noO M2 M1 := q3.more (fun _ _ q => q) (fun a q => by have q : a = 237 := q; unfold teW; omega) (fun _ q => q)
        have S3 := S2.fz q2 F3 k5
        have Fb : FZ noF (fun a => a = 238 ∨ a = 239 ∨ a = 240) noO M1 (wI M1 238 i (nI (n + 1))) := FZ.wI (Or.inl rfl)
        have S4 := S3.fz q2.ki (teW_of Fb) k5
        have len8 : (zrw M1 238).length = 5 := (q2.1.row qa_238 qw_51).2
        have lw : lwI (wI M1 238 i (nI (n + 1))) = lwI M2 := funext (fun j => by unfold lwI; rw [rN_wI_ne (fun q => absurd q.1 (by decide)), q3.rn (by decide)])
        have hg : hgI (wI M1 238 i (nI (n + 1))) = hgI M2 := funext (fun j => by unfold hgI; rw [rN_wI_ne (fun q => absurd q.1 (by decide)), q3.rn (by decide)])
        refine ih (n + 1) _ b2 f2 (by omega) S4 ((F2.trans F3).trans (teW_of Fb)) (q4.no Fb) (fun hb2 c hc => ?_) (fun hb2 => ?_) (fun _ => rN_wI_eq (by omega)) (fun z => absurd z (by omega)) hf2 (fun j h => by rw [rN_wI_ne (fun q => by omega), q3.rn (by decide)]; exact j2 j h) (by rw [lw]; exact m2) (by rw [hg]; exact x2) H
        · by_cases w : c ∈ W i
          · exact q5.mp hb2 c w
          · have : 0 ≤ L c - ((n + 1 : Nat) : Int) * (ocN (W i) c : Int) := by
              rw [cn_not w]
              have := (h0 c hc).1
              show 0 ≤ L c - ((n + 1 : Nat) : Int) * 0
              rw [Int.mul_zero]
              omega
            exact this
        · refine Classical.byContradiction (fun z => ?_)
          have : b2 = true := q5.mpr (fun y hy => by
            by_cases w : 0 ≤ sbR L (ocN (W i)) ((n + 1 : Nat) : Int) y
            · exact w
            · exact absurd ⟨y, S2.lt hi y hy, by omega⟩ z)
          rw [hb2] at this
          cases this
      have Fm := hF.trans (teW_of Fa)
      have lwa : lwI (wI M 238 i (nI n)) = lwI M := funext (fun j => by unfold lwI; rw [rN_wI_ne (fun q => absurd q.1 (by decide))])
      have hga : hgI (wI M 238 i (nI n)) = hgI M := funext (fun j => by unfold hgI; rw [rN_wI_ne (fun q => absurd q.1 (by decide))])
      have ja : ∀ j, j < i → rN (wI M 238 i (nI n)) 238 j = rN M0 238 j := fun j h => (ro j (by omega)).trans (hj j h)
      rcases tel_63 Sa.1 H with ⟨a3, e2, v2, M2, _, H2, H⟩ | ⟨a3, e2, v2, M2, _, H2, H⟩
      · -- the rest can't take all
        have hno : ∀ t, ¬ gdTl W r (i + 1) (sbR L (ocN (W i)) (n : Int)) t := fun t h => by
          rw [bI_0] at a3
          have a3 := of_decide_eq_false a3
          have hW : ∀ j, j < k → ∀ y ∈ W j, y < 256 := fun j hj => hS.lt hj
          refine a3 ?_
          -- the WAYS behind the last one matter for nothing
          have g := gd_sum' (W := W) (k := k) hW r (i + 1) _ (by omega) h
          rw [show k - (i + 1) = r by omega]
          exact g
        refine go1 e2 _ (f + 0) v2 M2 ?_ Sa Fm La ja ?_ ?_ H2 H
        · rw [show f + 0 = f from Int32.toInt_inj.mp (by rw [i32_add (by have := i32_any f; have : (0 : Int32).toInt = 0 := rfl; omega) (by have := i32_any f; have : (0 : Int32).toInt = 0 := rfl; omega)]; have : (0 : Int32).toInt = 0 := rfl; omega), hf]
          show _ = ((suN (fun d => ndN W r (i + 1) (sbR L (ocN (W i)) (d : Int))) n + ndN W r (i + 1) (sbR L (ocN (W i)) (n : Int)) : Nat) : Int)
          rw [nd_0 hno]
          rfl
        · rw [lwa]
          refine hm.step (mnS.refl (S := fun _ => False) (fun _ q => q)) (fun t => ⟨fun h => ?_, fun h => ?_⟩)
          · refine Or.inl ⟨h.1, ?_⟩
            by_cases z : t i = n
            · have := h.1.2.2
              rw [z] at this
              exact absurd this (hno t)
            · have := h.2
              omega
          · rcases h with h | h
            · exact ⟨h.1, by have := h.2; omega⟩
            · exact h.elim
        · rw [hga]
          refine hM.step (mxS.refl (S := fun _ => False) (fun _ q => q)) (fun t => ⟨fun h => ?_, fun h => ?_⟩)
          · refine Or.inl ⟨h.1, ?_⟩
            by_cases z : t i = n
            · have := h.1.2.2
              rw [z] at this
              exact absurd this (hno t)
            · have := h.2
              omega
          · rcases h with h | h
            · exact ⟨h.1, by have := h.2; omega⟩
            · exact h.elim
      · have up : ∀ c, c < 256 → 0 ≤ sbR L (ocN (W i)) (n : Int) c ∧ sbR L (ocN (W i)) (n : Int) c ≤ 4000000 := fun c hc => by
          refine ⟨hpos c hc, ?_⟩
          have h1 := (h0 c hc).2
          have h4 : 0 ≤ (n : Int) * (ocN (W i) c : Int) := Int.mul_nonneg (by omega) (by omega)
          show L c - (n : Int) * (ocN (W i) c : Int) ≤ 4000000
          omega
        have H2 : Ev none e2 44 0 [some (.ref 229), some (.int (nI (i + 1))), none, none, none] [] (wI M 238 i (nI n)) v2 M2 0 0 := by rw [← nI_p1 (by omega)]; exact H2
        obtain ⟨y, q1, q2, q3, q4, q5, q6, q7, q8⟩ := IH _ (fun j => if j = i then n else p j) _ _ _ e2 Sa La up (fun j hj2 => by
          by_cases z : j = i
          · rw [z, if_pos rfl, ra, tn]
          · rw [if_neg z, ro j z, hj j (by omega)]
            exact hp j (by omega)) H2
        rw [q1] at H
        obtain ⟨e3, v3, M3, _, H3, H⟩ := tel_73 q3 H
        have b1 := nd_le (W := W) r (i + 1) (sbR L (ocN (W i)) (n : Int))
        have b2 := suN_le (f := fun d => ndN W r (i + 1) (sbR L (ocN (W i)) (d : Int))) n (10 ^ r) (fun d _ => nd_le r (i + 1) _)
        have r4 : 10 ^ r ≤ 10 ^ 4 := Nat.pow_le_pow_right (by decide) (by omega)
        have r5 : n * 10 ^ r ≤ 10 * 10 ^ 4 := Nat.mul_le_mul (by omega) r4
        have r6 : (10 : Nat) ^ 4 = 10000 := rfl
        have eq : ∀ t : Nat → Nat, (((∀ j, j < i → t j = p j) ∧ gdTl W (r + 1) i L t) ∧ t i < n + 1) ↔ ((((∀ j, j < i → t j = p j) ∧ gdTl W (r + 1) i L t) ∧ t i < n) ∨ ((∀ j, j < i + 1 → t j = (if j = i then n else p j)) ∧ gdTl W r (i + 1) (sbR L (ocN (W i)) (n : Int)) t)) := fun t => by
          constructor
          · rintro ⟨⟨h1, h2⟩, h3⟩
            by_cases z : t i = n
            · refine Or.inr ⟨fun j hj2 => ?_, ?_⟩
              · by_cases w : j = i
                · rw [if_pos w, w, z]
                · rw [if_neg w]
                  exact h1 j (by omega)
              · have := h2.2
                rw [z] at this
                exact this
            · exact Or.inl ⟨⟨h1, h2⟩, by omega⟩
          · rintro (⟨h1, h3⟩ | ⟨h1, h2⟩)
            · exact ⟨h1, by omega⟩
            · have hti : t i = n := by
                have := h1 i (by omega)
                rw [if_pos rfl] at this
                exact this
              refine ⟨⟨fun j hj2 => ?_, ?_, ?_⟩, by omega⟩
              · have := h1 j (by omega)
                rw [if_neg (by omega)] at this
                exact this
              · omega
              · rw [hti]
                exact h2
        refine go1 e3 M2 (f + y) v3 M3 ?_ (Sa.fz q3 q4 k5) (Fm.trans q4) q5 (fun j h => (q6 j (by omega)).trans (ja j h)) ?_ ?_ H3 H
        · rw [i32_add (by omega) (by omega), hf, q2]
          show _ = ((suN (fun d => ndN W r (i + 1) (sbR L (ocN (W i)) (d : Int))) n + ndN W r (i + 1) (sbR L (ocN (W i)) (n : Int)) : Nat) : Int)
          omega
        · rw [lwa] at q7
          exact hm.step q7 eq
        · rw [hga] at q8
          exact hM.step q8 eq
theorem tel_s (k5 : k ≤ 5) (hk : i + r + 1 = k) (IH : ∀ e, TEL W k r (i + 1) e) : TEL W k (r + 1) i e := by
  intro L p M M' v e' hS hL h0 hp H
  have ek := hS.2.1
  have tk : (nI k).toInt = (k : Int) := nI_toInt (by omega)
  have ti : (nI i).toInt = (i : Int) := nI_toInt (by omega)
  have t5 : (5 : Int32).toInt = 5 := rfl
  have hgt : ¬ zI M 229 2 ≤ nI i := fun z => by
    have := Int32.le_iff_toInt_le.mp z
    rw [ek, tk, ti] at this
    omega
  have e0 : sbR L (ocN (W i)) ((0 : Nat) : Int) = L := sbR_0
  rcases tel_0 hS.1 H with ⟨a1, _⟩ | ⟨a1, _⟩ | ⟨_, _, H⟩ | ⟨_, a2, _⟩ | ⟨_, a2, _⟩
  · exact absurd a1 hgt
  · exact absurd a1 hgt
  · exact tel_l k5 hk (IH e') h0 hp 10 0 M true 0 rfl hS (FZ.refl _) (by rw [e0]; exact hL) (fun _ c hc => by rw [e0]; exact (h0 c hc).1) (fun q => by cases q) (fun q => absurd rfl q) (fun _ => rfl) rfl (fun _ _ => rfl) (mnS.refl (fun t q => absurd q.2 (Nat.not_lt_zero _))) (mxS.refl (fun t q => absurd q.2 (Nat.not_lt_zero _))) H
  all_goals exact absurd (Int32.lt_iff_toInt_lt.mpr (by rw [ti]; omega)) a2
theorem tel_ok (k5 : k ≤ 5) : ∀ (r i e : Nat), i + r = k → TEL W k r i e := by
  intro r
  induction r with
  | zero =>
    intro i e h
    have : i = k := by omega
    rw [this]
    exact tel_z k5
  | succ r ih => intro i e h; exact tel_s k5 (by omega) (fun e => ih (i + 1) e (by omega))
end CTEL
