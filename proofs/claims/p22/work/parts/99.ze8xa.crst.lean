/-! THE CLASS'S rests -/
section CRST
variable {e B n tt wn xn yn : Nat} {T : TS} {P P0 Q : PK} {PI : Nat → PK} {M M1 M' : Mem} {v : Option Value} {x y t w : Int32} {f g : Nat → Bool}
theorem ni_1 : ∀ c, c < 256 → (nI c &&& 1) = nI (c % 2) := by decide +kernel
theorem ctW_0 : ∀ (r i : Nat), ctW f r i = 0 ↔ ∀ t, t < r → f (i + t) = false := by
  intro r
  induction r with
  | zero => intro i; exact ⟨fun _ t ht => absurd ht (Nat.not_lt_zero t), fun _ => rfl⟩
  | succ r ih =>
    intro i
    unfold ctW
    constructor
    · intro h t ht
      have h1 : ctW f r (i + 1) = 0 := by omega
      have h2 : f i = false := by
        cases hf : f i with
        | false => rfl
        | true => rw [hf, if_pos rfl] at h; omega
      cases t with
      | zero => exact h2
      | succ t =>
        have q := (ih (i + 1)).mp h1 t (by omega)
        rw [show i + (t + 1) = i + 1 + t by omega]
        exact q
    · intro h
      have h0 := h 0 (by omega)
      rw [Nat.add_zero] at h0
      rw [h0, (ih (i + 1)).mpr (fun t ht => by
        rw [show i + 1 + t = i + (t + 1) by omega]
        exact h (t + 1) (by omega))]
      rfl
theorem samB_iff {q : TQ} : ∀ (r cn : Nat), cn + r ≤ 256 → (samB q P Q r (nI cn) = true ↔ ∀ k, cn ≤ k → k < cn + r → wrnB q P (nI k) = wrnB q Q (nI k)) := by
  intro r
  induction r with
  | zero => intro cn _; exact ⟨fun _ k h1 h2 => by omega, fun _ => rfl⟩
  | succ r ih =>
    intro cn hc
    unfold samB
    rw [nI_p1 (by omega)]
    by_cases h : wrnB q P (nI cn) = wrnB q Q (nI cn)
    · rw [if_pos h, ih (cn + 1) (by omega)]
      constructor
      · intro hk k h1 h2
        by_cases hq : k = cn
        · rw [hq]; exact h
        · exact hk k (by omega) (by omega)
      · intro hk k h1 h2
        exact hk k (by omega) (by omega)
    · rw [if_neg h]
      exact ⟨fun q => (by cases q), fun hk => absurd (hk cn (Nat.le_refl _) (by omega)) h⟩
theorem sam_ct (h : clsP P ≤ 256) (hQ : clsP Q = clsP P) : samN (T 0) P Q = true ↔ (ctW (fun c => nwB T P c && !nwB T Q c) 256 0 = 0 ∧ ctW (fun c => nwB T Q c && !nwB T P c) 256 0 = 0) := by
  have e : samN (T 0) P Q = samB (T 0) P Q (clsP P) (nI 0) := rfl
  rw [e, samB_iff (clsP P) 0 (by omega), ctW_0, ctW_0]
  constructor
  · intro hk
    have al : ∀ c, nwB T P c = nwB T Q c := fun c => by
      unfold nwB
      rw [hQ]
      by_cases q : c < clsP P
      · rw [hk c (Nat.zero_le _) (by omega)]
      · rw [decide_eq_false q, Bool.false_and, Bool.false_and]
    refine ⟨fun t _ => ?_, fun t _ => ?_⟩
    · rw [al]; cases nwB T Q (0 + t) <;> rfl
    · rw [al]; cases nwB T Q (0 + t) <;> rfl
  · rintro ⟨h1, h2⟩ k _ hk
    have a := h1 k (by omega)
    have b := h2 k (by omega)
    rw [Nat.zero_add] at a b hk
    have e1 : nwB T P k = wrnB (T 0) P (nI k) := by
      unfold nwB
      rw [decide_eq_true hk, Bool.true_and]
    have e2 : nwB T Q k = wrnB (T 0) Q (nI k) := by
      unfold nwB
      rw [hQ, decide_eq_true hk, Bool.true_and]
    rw [e1, e2] at a b
    cases hp : wrnB (T 0) P (nI k) <;> cases hq : wrnB (T 0) Q (nI k) <;> rw [hp, hq] at a b <;> simp at a b ⊢
theorem sum_0 {p q : Int32} (hp : 0 ≤ p.toInt) (hq : 0 ≤ q.toInt) (hp2 : p.toInt ≤ 256) (hq2 : q.toInt ≤ 256) : p + q = 0 ↔ p.toInt = 0 ∧ q.toInt = 0 := by
  have s : (p + q).toInt = p.toInt + q.toInt := i32_add (by omega) (by omega)
  constructor
  · intro h
    rw [h] at s
    have z : (0 : Int32).toInt = 0 := rfl
    omega
  · rintro ⟨a, b⟩
    exact Int32.toInt_inj.mp (by rw [s, a, b]; rfl)
theorem rsx_l (ht : t.toInt = (tt : Int)) (t200 : tt ≤ 200) (he : 8 ≤ e) : ∀ (r n : Nat) (nz : Int32) (B : Nat) (Q : PK) (M : Mem), TRI T P0 PI B (-1) [] Q M → INV M → KW M ((n + 1) % 2) (nwB T Q) → nz.toInt = (n : Int) → 1 ≤ n → nz.toInt + (r : Int) = w.toInt + 1 → w.toInt ≤ 40 → B + 60 * tt * r ≤ 100000000 → Ev none e 99 38 [some (.ref 0), some (.int w), some (.int t), some (.int nz)] [] M v M' 0 0 → v = some (.int (restL T tt r nz Q)) := by
  intro r
  induction r with
  | zero =>
    intro n nz B Q M h hI hK hz h1 hw w40 hB H
    rcases rsc_38 h.2.1.sq H with ⟨_, r1, r2⟩ | ⟨a1, _⟩
    · exact r1
    · exact absurd (Int32.lt_iff_toInt_lt.mpr (by omega)) a1
  | succ r ih =>
    intro n nz B Q M h hI hK hz h1 hw w40 hB H
    rcases rsc_38 h.2.1.sq H with ⟨a1, _⟩ | ⟨_, e1, v1, M1, he1, H1, H⟩
    · have := Int32.lt_iff_toInt_lt.mp a1
      omega
    · have hm : 60 * tt * (r + 1) = 60 * tt * r + 60 * tt := by rw [Nat.mul_add, Nat.mul_one]
      have n40 : n ≤ 40 := by omega
      have tz := hz
      have hz : nz = nI n := Int32.toInt_inj.mp (by rw [nI_toInt (by omega)]; exact tz)
      obtain ⟨I1, j1⟩ := onkJ hI (by omega) H1
      obtain ⟨rv, q1, _⟩ := onk_ok h (n := tt) (by omega) ht H1
      rw [rv] at H
      have hD := h.2.2.2.1
      have hKq := h.2.2.2.2.1
      obtain ⟨e2, v2, M2, he2, H2, H⟩ := rsc_48 q1.2.1.sq H
      rw [hz, ni_1 n (by omega)] at H2
      obtain ⟨rv2, I2, q2, k2, k3⟩ := keepX q1 I1 (by omega) (nI_toInt (show n % 2 < 2147483648 by omega)) (by omega) H2
      rw [rv2] at H
      have kQ : KW M2 ((n + 1) % 2) (nwB T Q) := ((hK.eq (fun j hj => j1 _)).eq (fun j hj => k3 _ (by omega)))
      obtain ⟨_, c256, _⟩ := cls_int hD.1
      have hcl : clsP (wksP T tt Q) = clsP Q := wks_cls hD hKq
      -- which of the two lies where
      obtain ⟨f0, f1, K0, K1, hs⟩ : ∃ f0 f1 : Nat → Bool, KW M2 0 f0 ∧ KW M2 1 f1 ∧ ((ctW (fun c => f0 c && !f1 c) 256 0 = 0 ∧ ctW (fun c => f1 c && !f0 c) 256 0 = 0) ↔ samN (T 0) Q (wksP T tt Q) = true) := by
        rcases Nat.mod_two_eq_zero_or_one n with q | q
        · have q2 : (n + 1) % 2 = 1 := by omega
          rw [q] at k2
          rw [q2] at kQ
          refine ⟨_, _, k2, kQ, ?_⟩
          rw [sam_ct c256 hcl]
          exact ⟨fun h => ⟨h.2, h.1⟩, fun h => ⟨h.2, h.1⟩⟩
        · have q2 : (n + 1) % 2 = 0 := by omega
          rw [q] at k2
          rw [q2] at kQ
          refine ⟨_, _, kQ, k2, ?_⟩
          rw [sam_ct c256 hcl]
      obtain ⟨e3, v3, M3, he3, H3, H⟩ := rsc_58 q2.2.1.sq H
      obtain ⟨rm3, p, rv3, hp⟩ := alone_ok q2.2.1.sq (xn := 0) (yn := 1) rfl (by decide) K0 rfl (by decide) K1 H3
      rw [rm3, rv3] at H
      obtain ⟨e4, v4, M4, he4, H4, H⟩ := rsc_67 q2.2.1.sq H
      obtain ⟨rm4, q4, rv4, hq⟩ := alone_ok q2.2.1.sq (xn := 1) (yn := 0) rfl (by decide) K1 rfl (by decide) K0 H4
      rw [rm4, rv4] at H
      have l1 := ctW_le (f := fun c => f0 c && !f1 c) 256 0
      have l2 := ctW_le (f := fun c => f1 c && !f0 c) 256 0
      have s0 := sum_0 (p := p) (q := q4) (by omega) (by omega) (by omega) (by omega)
      unfold restL
      rcases rsc_76 q2.2.1.sq H with ⟨b1, r1, _⟩ | ⟨b1, H⟩
      · rw [s0] at b1
        rw [if_pos (hs.mp ⟨by omega, by omega⟩)]
        exact r1
      · rw [if_neg (fun q => by
          obtain ⟨a, b⟩ := hs.mpr q
          exact b1 (s0.mpr ⟨by omega, by omega⟩))]
        refine ih (n + 1) (nz + 1) (B + 60 * tt) _ M2 q2 I2 ?_ (by rw [i32_p1 (by omega)]; omega) (by omega) (by rw [i32_p1 (by omega)]; omega) w40 (by omega) H
        have e2 : (n + 1 + 1) % 2 = n % 2 := by omega
        rw [e2]
        exact k2
theorem rests_ok (h : CST T P PI M) (hI : INV M) (he : 9 ≤ e) (H : Ev none e 99 0 [some (.ref 0), some (.int w), some (.int t), none] [] M v M' 0 0) : (rstN w t ∧ v = some (.int (-2)) ∧ CST T P PI M') ∨ (¬ rstN w t ∧ v = some (.int (restL T t.toInt.toNat w.toInt.toNat 1 P)) ∧ CST T P PI M') := by
  have hS := restsS_ok h hI he H
  unfold rstN
  rcases rsc_0 h.sq H with ⟨a1, r1, _⟩ | ⟨_, a1, r1, _⟩ | ⟨a1, a2, e1, v1, M1, he1, H1, H⟩
  · rw [g126_R] at a1
    exact Or.inl ⟨Or.inl a1, r1, hS⟩
  · rw [g126_R] at a1
    exact Or.inl ⟨Or.inr a1, r1, hS⟩
  · rw [g126_R, Classical.not_not] at a1 a2
    have w1 : 1 ≤ w.toInt := a1.1
    have w40 : w.toInt ≤ 40 := a1.2
    have t1 : 1 ≤ t.toInt := a2.1
    have t200 : t.toInt ≤ 200 := a2.2
    obtain ⟨rv, q1, _⟩ := opcT_ok h H1
    rw [rv] at H
    have I1 := opcI hI (by omega) H1
    obtain ⟨e2, v2, M2, he2, H2, H⟩ := rsc_28 q1.2.1.sq H
    obtain ⟨rv2, I2, q2, k2, _⟩ := keepX (xn := 0) q1 I1 (by omega) rfl (by decide) H2
    rw [rv2] at H
    have hb := h.ok.bud
    have hm : 60 * t.toInt.toNat * w.toInt.toNat ≤ 60 * 200 * 40 := Nat.mul_le_mul (Nat.mul_le_mul_left _ (by omega)) (by omega)
    have tz : (1 : Int32).toInt = 1 := rfl
    exact Or.inr ⟨fun q => q.elim (fun q => q a1) (fun q => q a2), rsx_l (T := T) (tt := t.toInt.toNat) (by omega) (by omega) (by omega) w.toInt.toNat 1 1 _ P M2 q2 I2 k2 rfl (Nat.le_refl _) (by omega) w40 (by omega) (rsc_36 q2.2.1.sq H), hS⟩
end CRST
