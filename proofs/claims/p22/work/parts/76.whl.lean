/-! LOOPS THAT END BECAUSE A ROW FALLS: 'while (more)' -/
noncomputable def flN (x : Nat) : Bool := !(Nat.ble 40 x && Nat.ble x 50)
/-- no flag of measures -/
noncomputable def cnN (c : CN) : Bool := c.2.2.2.2.1.all (fun f => flN f.1) && c.2.2.2.2.2.2.all (fun s => s.2.2.2.1.all (fun f => flN f.1))
noncomputable def tpN (t : TP) : Bool := t.2.2.1.all (fun f => flN f.1)
theorem flN_m {m m2 x : Nat} {vs : List Int} {M : Mem} (hx : flN x = true) (h : FLm m x vs M) : FLm m2 x vs M := by
  refine FLm_m ?_ h
  unfold flN at hx
  cases hb : Nat.ble 40 x && Nat.ble x 50 with
  | false => rfl
  | true => rw [hb] at hx; cases hx
theorem flOK_m {m m2 : Nat} {vs : List Value} {M : Mem} {f : FP} (hx : flN f.1 = true) (h : flOK (FLm m) vs M f) : flOK (FLm m2) vs M f := by
  obtain ⟨ys, h1, h2⟩ := h
  exact ⟨ys, h1, flN_m hx h2⟩
theorem csOK_m {m m2 : Nat} {ws : List Value} {v : Option Value} {M : Mem} {s : CS} (hx : s.2.2.2.1.all (fun f => flN f.1) = true) (h : csOK sT (FLm m) ws v M s) : csOK sT (FLm m2) ws v M s := by
  obtain ⟨h1, h2, hv, h3, h4, h5⟩ := h
  exact ⟨h1, h2, hv, h3, fun f hf => flOK_m (List.all_eq_true.mp hx f hf) (h4 f hf), h5⟩
theorem fin_m {m m2 : Nat} {c : CN} (hN : cnN c = true) {ws : List Value} {M M' : Mem} {w : Option Value} (h : Fin sT sG (FLm m) c ws M w M') : Fin sT sG (FLm m2) c ws M w M' := by
  obtain ⟨h1, h2, s, hs, h3⟩ := h
  exact ⟨h1, h2, s, hs, csOK_m (List.all_eq_true.mp (and_t hN).2 s hs) h3⟩
theorem cn_m {m m2 : Nat} {c : CN} (hN : cnN c = true) (h : cnOK sT sG (FLm m) c) : cnOK sT sG (FLm m2) c := by
  intro d M ws q hD hq hws hpre hT
  obtain ⟨hv, h1, h2⟩ := hpre
  obtain ⟨v, M', e1, e2, e3, s, hs, e4, e5⟩ := h d M ws q hD hq hws ⟨hv, h1, fun f hf => flOK_m (List.all_eq_true.mp (and_t hN).1 f hf) (h2 f hf)⟩ hT
  exact ⟨v, M', e1, e2, e3, s, hs, csOK_m (List.all_eq_true.mp (and_t hN).2 s hs) e4, e5⟩
theorem cnd_m {m m2 : Nat} {t : TP} (hN : tpN t = true) {md : Md} {ws : List Value} {M M' : Mem} {cl : Lo} (h : Cnd sT sG (FLm m) md ws M t cl M') : Cnd sT sG (FLm m2) md ws M t cl M' := by
  obtain ⟨ρ, π, h1, h2, h3, h4⟩ := h
  refine ⟨ρ, π, h1, h2, ⟨h3.1, fun x hx => ?_, h3.2.2⟩, h4⟩
  obtain ⟨vs, q1, q2⟩ := h3.2.1 x hx
  exact ⟨vs, q1, flN_m (List.all_eq_true.mp hN x hx) q2⟩
/-- .. with one more flag -/
def tpF (x : Nat) (t : TP) : TP := (t.1, t.2.1, (x, []) :: t.2.2.1, t.2.2.2)
/-- .. with ranks of 0 -/
def tpZ (t : TP) : TP := (t.1, t.2.1, t.2.2.1, t.2.2.2.1, t.2.2.2.2.1, t.2.2.2.2.2.1, t.2.2.2.2.2.2.1.map (fun _ => ([], .ofNat 0)), t.2.2.2.2.2.2.2)
theorem cnd_z {m : Nat} {t : TP} {md : Md} {ws : List Value} {M M' : Mem} {cl : Lo} : Cnd sT sG (FLm m) md ws M (tpZ t) cl M' ↔ Cnd sT sG (FLm m) md ws M t cl M' := Iff.rfl
theorem cnd_add {m x : Nat} {t : TP} {md : Md} {ws : List Value} {M M' : Mem} {cl : Lo} (hx : FLm m x [] M') (h : Cnd sT sG (FLm m) md ws M t cl M') : Cnd sT sG (FLm m) md ws M (tpF x t) cl M' := by
  obtain ⟨ρ, π, h1, h2, h3, h4⟩ := h
  refine ⟨ρ, π, h1, h2, ⟨h3.1, fun y hy => ?_, h3.2.2⟩, h4⟩
  rcases List.mem_cons.mp hy with rfl | hy
  · exact ⟨[], trivial, hx⟩
  · exact h3.2.1 y hy
theorem cnd_less {m x : Nat} {t : TP} {md : Md} {ws : List Value} {M M' : Mem} {cl : Lo} (h : Cnd sT sG (FLm m) md ws M (tpF x t) cl M') : FLm m x [] M' ∧ Cnd sT sG (FLm m) md ws M t cl M' := by
  obtain ⟨ρ, π, h1, h2, h3, h4⟩ := h
  refine ⟨?_, ρ, π, h1, h2, ⟨h3.1, fun y hy => h3.2.1 y (List.mem_cons_of_mem _ hy), h3.2.2⟩, h4⟩
  obtain ⟨vs, q1, q2⟩ := h3.2.1 (x, []) (List.mem_cons_self ..)
  cases vs with
  | nil => exact q2
  | cons _ _ => exact q1.elim
theorem cnd_T {m : Nat} {t : TP} {md : Md} {ws : List Value} {M M' : Mem} {cl : Lo} (h : Cnd sT sG (FLm m) md ws M t cl M') : TM sT sG M' := by
  obtain ⟨ρ, π, h1, h2, h3, h4⟩ := h
  exact h3.2.2.2.2.2
theorem ccW_V {Δ : List CN} (hΔ : ∀ c ∈ Δ, cnOK sT sG FL0 c) {n N h a fi : Nat} {f : Int32 → Nat} {c : CN} {P I : List (Nat × TP)} {tH t0 : TP} (hf : ∀ m M, FLm m fi [] M ↔ msP a f (fun s => s ≤ m) M) (hf2 : ∀ m M, FLm m (fi - 2) [] M ↔ msP a f (fun s => s < m) M) (ha : ∀ M, TM sT sG M → ∃ t l, gNth M a = some (.inl (t, .inl l))) (hc : (((!Nat.beq c.1 205 && ccE sT sG sU dp0 Δ n c (P ++ [(h, tH)])) && ((cnN c && Δ.all cnN) && (tpN tH && tpN t0))) && ((P.all (ccC sT sG sU dp0 Δ n N c (P ++ [(h, tH)])) && ccC sT sG sU dp0 Δ n N c [] (h, t0)) && ((h, tpF fi tH) :: I).all (ccC sT sG sU dp0 Δ n N c (((h, tpF fi tH) :: I) ++ [(h, t0), (h, tpF (fi - 2) (tpZ tH))])))) = true) : cnOK sT sG FL0 c := by
  obtain ⟨c1, c2⟩ := and_t hc
  obtain ⟨c1, c3⟩ := and_t c1
  obtain ⟨h205, hE⟩ := and_t c1
  obtain ⟨c3, c4⟩ := and_t c3
  obtain ⟨nc, nΔ⟩ := and_t c3
  obtain ⟨nH, n0⟩ := and_t c4
  obtain ⟨c2, cI⟩ := and_t c2
  obtain ⟨cP, c0⟩ := and_t c2
  have hΔm : ∀ m, ∀ c ∈ Δ, cnOK sT sG (FLm m) c := fun m c hm => cn_m (List.all_eq_true.mp nΔ c hm) (hΔ c hm)
  refine fin_cn h205 (fun d M ws q hD hq hws hpre hT => ?_)
  have r0 : ∀ cl M', Cnd sT sG FL0 c.2.2.2.2.2.1 ws M t0 cl M' → RF (Fin sT sG FL0 c ws M) [] d c.1 h cl [] M' := fun cl M' hc => main_V (A := [(h, t0)]) (cuts := []) (M := M) (ws := ws) sU_ok dp0_ok ct0_ok hΔ hD (Q := Fin sT sG FL0 c ws M) (fun _ _ h => h) (fun x hx => by cases List.mem_singleton.mp hx; exact c0) (fun x hx => by cases hx) (h, t0) (List.mem_singleton.mpr rfl) cl M' hc
  have rH : ∀ k cl M', msP a f (fun s => s < k) M' → Cnd sT sG FL0 c.2.2.2.2.2.1 ws M tH cl M' → RF (Fin sT sG FL0 c ws M) [] d c.1 h cl [] M' := by
    intro k
    induction k with
    | zero =>
      intro cl M' hm
      obtain ⟨t, l, e1, e2⟩ := hm
      exact absurd e2 (Nat.not_lt_zero _)
    | succ k ih =>
      intro cl M' hm hcd
      obtain ⟨t, l, e1, e2⟩ := hm
      obtain ⟨s, es⟩ : ∃ s, s = (l.map f).sum := ⟨_, rfl⟩
      refine main_V (A := (h, tpF fi tH) :: I) (cuts := ((h, tpF fi tH) :: I) ++ [(h, t0), (h, tpF (fi - 2) (tpZ tH))]) (M := M) (ws := ws) sU_ok (dpm_ok s) (ctm_ok s) (hΔm s) hD (Q := Fin sT sG FL0 c ws M) (fun _ _ h => fin_m nc h) (fun x hx => List.all_eq_true.mp cI x hx) (fun x hx => ?_) (h, tpF fi tH) (List.mem_cons_self ..) cl M' (cnd_add ((hf s M').mpr ⟨t, l, e1, by show (l.map f).sum ≤ s; omega⟩) (cnd_m nH hcd))
      rcases List.mem_append.mp hx with hx | hx
      · exact Or.inl hx
      · refine Or.inr (fun cl2 M2 hc2 => ?_)
        rcases List.mem_cons.mp hx with rfl | hx
        · exact r0 cl2 M2 (cnd_m n0 hc2)
        · cases List.mem_singleton.mp hx
          obtain ⟨q1, q2⟩ := cnd_less hc2
          obtain ⟨t2, l2, e3, e4⟩ := (hf2 s M2).mp q1
          have e2 : (l.map f).sum < k + 1 := e2
          have e4 : (l2.map f).sum < s := e4
          exact ih cl2 M2 ⟨t2, l2, e3, by show (l2.map f).sum < k; omega⟩ (cnd_m nH (cnd_z.mp q2))
  have rH2 : ∀ cl M', Cnd sT sG FL0 c.2.2.2.2.2.1 ws M tH cl M' → RF (Fin sT sG FL0 c ws M) [] d c.1 h cl [] M' := fun cl M' hcd => by
    obtain ⟨t, l, e1⟩ := ha M' (cnd_T hcd)
    exact rH _ cl M' ⟨t, l, e1, Nat.lt_succ_self _⟩ hcd
  have rP := main_V (A := P) (cuts := P ++ [(h, tH)]) (M := M) (ws := ws) sU_ok dp0_ok ct0_ok hΔ hD (Q := Fin sT sG FL0 c ws M) (fun _ _ h => h) (fun x hx => List.all_eq_true.mp cP x hx) (fun x hx => by
    rcases List.mem_append.mp hx with hx | hx
    · exact Or.inl hx
    · cases List.mem_singleton.mp hx
      exact Or.inr rH2)
  refine ent_V sU_ok dp0_ok ct0_ok hΔ hE hD hq hws hpre hT (fun _ _ h => h) (fun x hx => ?_)
  rcases List.mem_append.mp hx with hx | hx
  · exact rP x hx
  · cases List.mem_singleton.mp hx
    exact rH2
theorem fl_42 (m : Nat) (M : Mem) : FLm m 42 [] M ↔ msP 650 mB (fun s => s ≤ m) M := Iff.rfl
theorem fl_40 (m : Nat) (M : Mem) : FLm m (42 - 2) [] M ↔ msP 650 mB (fun s => s < m) M := Iff.rfl
theorem fl_46 (m : Nat) (M : Mem) : FLm m 46 [] M ↔ msP 654 mI (fun s => s ≤ m) M := Iff.rfl
theorem fl_44 (m : Nat) (M : Mem) : FLm m (46 - 2) [] M ↔ msP 654 mI (fun s => s < m) M := Iff.rfl
theorem fl_50 (m : Nat) (M : Mem) : FLm m 50 [] M ↔ msP 655 mI (fun s => s ≤ m) M := Iff.rfl
theorem fl_48 (m : Nat) (M : Mem) : FLm m (50 - 2) [] M ↔ msP 655 mI (fun s => s < m) M := Iff.rfl
set_option maxRecDepth 100000 in
theorem ha_mark (M : Mem) (hT : TM sT sG M) : ∃ t l, gNth M 650 = some (.inl (t, .inl l)) := by
  obtain ⟨l, h, _⟩ := hT.mrow (a := 650) (g := 78) (kd := 3) (n := 256) (lo := 0) (hi := 1) (by decide +kernel) (by decide +kernel)
  exact ⟨3, l, h⟩
set_option maxRecDepth 100000 in
theorem ha_costs (M : Mem) (hT : TM sT sG M) : ∃ t l, gNth M 654 = some (.inl (t, .inl l)) := by
  obtain ⟨l, h, _⟩ := hT.mrow (a := 654) (g := 82) (kd := 1) (n := 16384) (lo := -2147483648) (hi := 2147483647) (by decide +kernel) (by decide +kernel)
  exact ⟨1, l, h⟩
set_option maxRecDepth 100000 in
theorem ha_ways (M : Mem) (hT : TM sT sG M) : ∃ t l, gNth M 655 = some (.inl (t, .inl l)) := by
  obtain ⟨l, h, _⟩ := hT.mrow (a := 655) (g := 83) (kd := 1) (n := 256) (lo := -2147483648) (hi := 2147483647) (by decide +kernel) (by decide +kernel)
  exact ⟨1, l, h⟩
