/-! LOOPS THAT END BECAUSE A ROW FALLS: 'while (more)' -/
noncomputable def flN (x : Nat) : Bool := !(Nat.ble 40 x && Nat.ble x 50)
/-- no flag of measures -/
noncomputable def cnN (c : CN) : Bool := c.2.2.2.2.1.all (fun f => flN f.1) && c.2.2.2.2.2.2.all (fun s => s.2.2.2.1.all (fun f => flN f.1))
noncomputable def tpN (t : TP) : Bool := t.2.2.1.all (fun f => flN f.1)
theorem flN_m {m m2 x : Nat} {vs : List Int} {M : Mem} (hx : flN x = true) (h : FLm m x vs M) : FLm m2 x vs M := by
  refine FLm_m ?_ h
  unfold flN at hx
  cases hb : Nat.ble 40 x && Nat.ble x 50 with
  | false => rfl
  | true => rw [hb] at hx; cases hx
theorem flOK_m {m m2 : Nat} {vs : List Value} {M : Mem} {f : FP} (hx : flN f.1 = true) (h : flOK (FLm m) vs M f) : flOK (FLm m2) vs M f := by
  obtain ⟨ys, h1, h2⟩ := h
  exact ⟨ys, h1, flN_m hx h2⟩
theorem csOK_m {m m2 : Nat} {ws : List Value} {v : Option Value} {M : Mem} {s : CS} (hx : s.2.2.2.1.all (fun f => flN f.1) = true) (h : csOK sT (FLm m) ws v M s) : csOK sT (FLm m2) ws v M s := by
  obtain ⟨h1, h2, hv, h3, h4, h5⟩ := h
  exact ⟨h1, h2, hv, h3, fun f hf => flOK_m (List.all_eq_true.mp hx f hf) (h4 f hf), h5⟩
theorem fin_m {m m2 : Nat} {c : CN} (hN : cnN c = true) {ws : List Value} {M M' : Mem} {w : Option Value} (h : Fin sT sG (FLm m) c ws M w M') : Fin sT sG (FLm m2) c ws M w M' := by
  obtain ⟨h1, h2, s, hs, h3⟩ := h
  exact ⟨h1, h2, s, hs, csOK_m (List.all_eq_true.mp (and_t hN).2 s hs) h3⟩
theorem cn_m {m m2 : Nat} {c : CN} (hN : cnN c = true) (h : cnOK sT sG (FLm m) c) : cnOK sT sG (FLm m2) c := by
  intro d M ws q hD hq hws hpre hT
  obtain ⟨hv, h1, h2⟩ := hpre
  obtain ⟨v, M', e1, e2, e3, s, hs, e4, e5⟩ := h d M ws q hD hq hws ⟨hv, h1, fun f hf => flOK_m (List.all_eq_true.mp (and_t hN).1 f hf) (h2 f hf)⟩ hT
  exact ⟨v, M', e1, e2, e3, s, hs, csOK_m (List.all_eq_true.mp (and_t hN).2 s hs) e4, e5⟩
theorem cnd_m {m m2 : Nat} {t : TP} (hN : tpN t = true) {md : Md} {ws : List Value} {M M' : Mem} {cl : Lo} (h : Cnd sT sG (FLm m) md ws M t cl M') : Cnd sT sG (FLm m2) md ws M t cl M' := by
  obtain ⟨ρ, π, h1, h2, h3, h4⟩ := h
  refine ⟨ρ, π, h1, h2, ⟨h3.1, fun x hx => ?_, h3.2.2⟩, h4⟩
  obtain ⟨vs, q1, q2⟩ := h3.2.1 x hx
  exact ⟨vs, q1, flN_m (List.all_eq_true.mp hN x hx) q2⟩
/-- .. with one more flag -/
def tpF (x : Nat) (t : TP) : TP := (t.1, t.2.1, (x, []) :: t.2.2.1, t.2.2.2)
/-- .. with ranks of 0 -/
def tpZ (t : TP) : TP := (t.1, t.2.1, t.2.2.1, t.2.2.2.1, t.2.2.2.2.1, t.2.2.2.2.2.1, t.2.2.2.2.2.2.1.map (fun _ => ([], .ofNat 0)), t.2.2.2.2.2.2.2)
theorem cnd_z {m : Nat} {t : TP} {md : Md} {ws : List Value} {M M' : Mem} {cl : Lo} : Cnd sT sG (FLm m) md ws M (tpZ t) cl M' ↔ Cnd sT sG (FLm m) md ws M t cl M' := Iff.rfl
theorem cnd_add {m x : Nat} {t : TP} {md : Md} {ws : List Value} {M M' : Mem} {cl : Lo} (hx : FLm m x [] M') (h : Cnd sT sG (FLm m) md ws M t cl M') : Cnd sT sG (FLm m) md ws M (tpF x t) cl M' := by
  obtain ⟨ρ, π, h1, h2, h3, h4⟩ := h
  refine ⟨ρ, π, h1, h2, ⟨h3.1, fun y hy => ?_, h3.2.2⟩, h4⟩
  rcases List.mem_cons.mp hy with rfl | hy
  · exact ⟨[], trivial, hx⟩
  · exact h3.2.1 y hy
theorem cnd_less {m x : Nat} {t : TP} {md : Md} {ws : List Value} {M M' : Mem} {cl : Lo} (h : Cnd sT sG (FLm m) md ws M (tpF x t) cl M') : FLm m x [] M' ∧ Cnd sT sG (FLm m) md ws M t cl M' := by
  obtain ⟨ρ, π, h1, h2, h3, h4⟩ := h
  refine ⟨?_, ρ, π, h1, h2, ⟨h3.1, fun y hy => h3.2.1 y (List.mem_cons_of_mem _ hy), h3.2.2⟩, h4⟩
  obtain ⟨vs, q1, q2⟩ := h3.2.1 (x, []) (List.mem_cons_self ..)
  cases vs with
  | nil => exact q2
  | cons _ _ => exact q1.elim
theorem cnd_T {m : Nat} {t : TP} {md : Md} {ws : List Value} {M M' : Mem} {cl : Lo} (h : Cnd sT sG (FLm m) md ws M t cl M') : TM sT sG M' := by
  obtain ⟨ρ, π, h1, h2, h3, h4⟩ := h
  exact h3.2.2.2.2.2
theorem ccW_V {Δ : List CN} (hΔ : ∀ c ∈ Δ, cnOK sT sG FL0 c) {n N h a fi : Nat} {f : Int32 → Nat} {c : CN} {P I : List (Nat × TP)} {tH t0 : TP} (hf : ∀ m M, FLm m fi [] M ↔ msP a f (fun s => s ≤ m) M) (hf2 : ∀ m M, FLm m (fi - 2) [] M ↔ msP a f (fun s => s < m) M) (ha : ∀ M, TM sT sG M → ∃ t l, gNth M a = some (.inl (t, .inl l))) (hc : (((!Nat.beq c.1 205 && ccE sT sG sU dp0 Δ n c (P ++ [(h, tH)])) && ((cnN c && Δ.all cnN) && (tpN tH && tpN t0))) && ((P.all (ccC sT sG sU dp0 Δ n N c (P ++ [(h, tH)])) && ccC sT sG sU dp0 Δ n N c [] (h, t0)) && ((h, tpF fi tH) :: I).all (ccC sT sG sU dp0 Δ n N c (((h, tpF fi tH) :: I) ++ [(h, t0), (h, tpF (fi - 2) (tpZ tH))])))) = true) : cnOK sT sG FL0 c := by
  obtain ⟨c1, c2⟩ := and_t hc
  obtain ⟨c1, c3⟩ := and_t c1
  obtain ⟨h205, hE⟩ := and_t c1
  obtain ⟨c3, c4⟩ := and_t c3
  obtain ⟨nc, nΔ⟩ := and_t c3
  obtain ⟨nH, n0⟩ := and_t c4
  obtain ⟨c2, cI⟩ := and_t c2
  obtain ⟨cP, c0⟩ := and_t c2
  have hΔm : ∀ m, ∀ c ∈ Δ, cnOK sT sG (FLm m) c := fun m c hm => cn_m (List.all_eq_true.mp nΔ c hm) (hΔ c hm)
  refine fin_cn h205 (fun d M ws q hD hq hws hpre hT => ?_)
  have r0 : ∀ cl M', Cnd sT sG FL0 c.2.2.2.2.2.1 ws M t0 cl M' → RF (Fin sT sG FL0 c ws M) [] d c.1 h cl [] M' := fun cl M' hc => main_V (A := [(h, t0)]) (cuts := []) (M := M) (ws := ws) sU_ok dp0_ok ct0_ok hΔ hD (Q := Fin sT sG FL0 c ws M) (fun _ _ h => h) (fun x hx => by cases List.mem_singleton.mp hx; exact c0) (fun x hx => by cases hx) (h, t0) (List.mem_singleton.mpr rfl) cl M' hc
  have rH : ∀ k cl M', msP a f (fun s => s < k) M' → Cnd sT sG FL0 c.2.2.2.2.2.1 ws M tH cl M' → RF (Fin sT sG FL0 c ws M) [] d c.1 h cl [] M' := by
    intro k
    induction k with
    | zero =>
      intro cl M' hm
      obtain ⟨t, l, e1, e2⟩ := hm
      exact absurd e2 (Nat.not_lt_zero _)
    | succ k ih =>
      intro cl M' hm hcd
      obtain ⟨t, l, e1, e2⟩ := hm
      obtain ⟨s, es⟩ : ∃ s, s = (l.map f).sum := ⟨_, rfl⟩
      refine main_V (A := (h, tpF fi tH) :: I) (cuts := ((h, tpF fi tH) :: I) ++ [(h, t0), (h, tpF (fi - 2) (tpZ tH))]) (M := M) (ws := ws) sU_ok (dpm_ok s) (ctm_ok s) (hΔm s) hD (Q := Fin sT sG FL0 c ws M) (fun _ _ h => fin_m nc h) (fun x hx => List.all_eq_true.mp cI x hx) (fun x hx => ?_) (h, tpF fi tH) (List.mem_cons_self ..) cl M' (cnd_add ((hf s M').mpr ⟨t, l, e1, by show (l.map f).sum ≤ s; omega⟩) (cnd_m nH hcd))
      rcases List.mem_append.mp hx with hx | hx
      · exact Or.inl hx
      · refine Or.inr (fun cl2 M2 hc2 => ?_)
        rcases List.mem_cons.mp hx with rfl | hx
        · exact r0 cl2 M2 (cnd_m n0 hc2)
        · cases List.mem_singleton.mp hx
          obtain ⟨q1, q2⟩ := cnd_less hc2
          obtain ⟨t2, l2, e3, e4⟩ := (hf2 s M2).mp q1
          have e2 : (l.map f).sum < k + 1 := e2
          have e4 : (l2.map f).sum < s := e4
          exact ih cl2 M2 ⟨t2, l2, e3, by show (l2.map f).sum < k; omega⟩ (cnd_m nH (cnd_z.mp q2))
  have rH2 : ∀ cl M', Cnd sT sG FL0 c.2.2.2.2.2.1 ws M tH cl M' → RF (Fin sT sG FL0 c ws M) [] d c.1 h cl [] M' := fun cl M' hcd => by
    obtain ⟨t, l, e1⟩ := ha M' (cnd_T hcd)
    exact rH _ cl M' ⟨t, l, e1, Nat.lt_succ_self _⟩ hcd
  have rP := main_V (A := P) (cuts := P ++ [(h, tH)]) (M := M) (ws := ws) sU_ok dp0_ok ct0_ok hΔ hD (Q := Fin sT sG FL0 c ws M) (fun _ _ h => h) (fun x hx => List.all_eq_true.mp cP x hx) (fun x hx => by
    rcases List.mem_append.mp hx with hx | hx
    · exact Or.inl hx
    · cases List.mem_singleton.mp hx
      exact Or.inr rH2)
  refine ent_V sU_ok dp0_ok ct0_ok hΔ hE hD hq hws hpre hT (fun _ _ h => h) (fun x hx => ?_)
  rcases List.mem_append.mp hx with hx | hx
  · exact rP x hx
  · cases List.mem_singleton.mp hx
    exact rH2
theorem fl_42 (m : Nat) (M : Mem) : FLm m 42 [] M ↔ msP 650 mB (fun s => s ≤ m) M := Iff.rfl
theorem fl_40 (m : Nat) (M : Mem) : FLm m (42 - 2) [] M ↔ msP 650 mB (fun s => s < m) M := Iff.rfl
theorem fl_46 (m : Nat) (M : Mem) : FLm m 46 [] M ↔ msP 654 mI (fun s => s ≤ m) M := Iff.rfl
theorem fl_44 (m : Nat) (M : Mem) : FLm m (46 - 2) [] M ↔ msP 654 mI (fun s => s < m) M := Iff.rfl
theorem fl_50 (m : Nat) (M : Mem) : FLm m 50 [] M ↔ msP 655 mI (fun s => s ≤ m) M := Iff.rfl
theorem fl_48 (m : Nat) (M : Mem) : FLm m (50 - 2) [] M ↔ msP 655 mI (fun s => s < m) M := Iff.rfl
set_option maxRecDepth 100000 in
theorem ha_mark (M : Mem) (hT : TM sT sG M) : ∃ t l, gNth M 650 = some (.inl (t, .inl l)) := by
  obtain ⟨l, h, _⟩ := hT.mrow (a := 650) (g := 78) (kd := 3) (n := 256) (lo := 0) (hi := 1) (by decide +kernel) (by decide +kernel)
  exact ⟨3, l, h⟩
set_option maxRecDepth 100000 in
theorem ha_costs (M : Mem) (hT : TM sT sG M) : ∃ t l, gNth M 654 = some (.inl (t, .inl l)) := by
  obtain ⟨l, h, _⟩ := hT.mrow (a := 654) (g := 82) (kd := 1) (n := 16384) (lo := -2147483648) (hi := 2147483647) (by decide +kernel) (by decide +kernel)
  exact ⟨1, l, h⟩
set_option maxRecDepth 100000 in
theorem ha_ways (M : Mem) (hT : TM sT sG M) : ∃ t l, gNth M 655 = some (.inl (t, .inl l)) := by
  obtain ⟨l, h, _⟩ := hT.mrow (a := 655) (g := 83) (kd := 1) (n := 256) (lo := -2147483648) (hi := 2147483647) (by decide +kernel) (by decide +kernel)
  exact ⟨1, l, h⟩
/-! BY HAND: widen of the reference -/
theorem wd_0 {e : Nat} {M : Mem} {M' : Mem} {v : Option Value} {fr n : Int32}  (hz : Ev none (e + 3) 226 2 [some (.ref 633), some (.int fr), some (.int n), some (.int 1), none, none, none] [] M v M' 0 0) : Ev none (e + 3) 226 0 [some (.ref 633), some (.int fr), some (.int n), none, none, none, none] [] M v M' 0 0 := by
  refine Ev.step (pc' := 2) (ls' := [some (.ref 633), some (.int fr), some (.int n), some (.int 1), none, none, none]) (st' := []) (M1 := M) 2 (fun n => rfl) ?_
  exact hz
theorem wd_2 {e : Nat} {M : Mem} {M' : Mem} {v : Option Value} {fr mo n : Int32} {x4 x5 x6 : Option Value}  (hz : Ev none (e + 3) 226 (if mo = 0 then 133 else 6) [some (.ref 633), some (.int fr), some (.int n), some (.int mo), x4, x5, x6] [] M v M' 0 0) : Ev none (e + 3) 226 2 [some (.ref 633), some (.int fr), some (.int n), some (.int mo), x4, x5, x6] [] M v M' 0 0 := by
  refine Ev.step (pc' := (if mo = 0 then 133 else 6)) (ls' := [some (.ref 633), some (.int fr), some (.int n), some (.int mo), x4, x5, x6]) (st' := []) (M1 := M) 2 (fun n => rfl) ?_
  exact hz
theorem wd_133 {e : Nat} {M : Mem} {fr mo n : Int32} {x4 x5 x6 : Option Value}  : Ev none (e + 3) 226 133 [some (.ref 633), some (.int fr), some (.int n), some (.int mo), x4, x5, x6] [] M none M 0 0 := by
  exact Ev.ret (fun n => rfl)
theorem wd_6 {e : Nat} {M : Mem} {M' : Mem} {v : Option Value} {fr mo n : Int32} {x4 x5 x6 : Option Value}  (hz : Ev none (e + 3) 226 11 [some (.ref 633), some (.int fr), some (.int n), some (.int 0), some (.int 0), x5, x6] [] M v M' 0 0) : Ev none (e + 3) 226 6 [some (.ref 633), some (.int fr), some (.int n), some (.int mo), x4, x5, x6] [] M v M' 0 0 := by
  refine Ev.step (pc' := 11) (ls' := [some (.ref 633), some (.int fr), some (.int n), some (.int 0), some (.int 0), x5, x6]) (st' := []) (M1 := M) 4 (fun n => rfl) ?_
  exact hz
theorem wd_11 {e : Nat} {M : Mem} {M' : Mem} {v : Option Value} {c fr mo n : Int32} {x5 x6 : Option Value}  (hz : Ev none (e + 3) 226 (if n ≤ c then 130 else 17) [some (.ref 633), some (.int fr), some (.int n), some (.int mo), some (.int c), x5, x6] [] M v M' 0 0) : Ev none (e + 3) 226 11 [some (.ref 633), some (.int fr), some (.int n), some (.int mo), some (.int c), x5, x6] [] M v M' 0 0 := by
  refine Ev.step (pc' := (if n ≤ c then 130 else 17)) (ls' := [some (.ref 633), some (.int fr), some (.int n), some (.int mo), some (.int c), x5, x6]) (st' := []) (M1 := M) 3 (fun n => rfl) ?_
  exact hz
theorem wd_130 {e : Nat} {M : Mem} {M' : Mem} {v : Option Value} {c fr mo n : Int32} {x5 x6 : Option Value}  (hz : Ev none (e + 3) 226 2 [some (.ref 633), some (.int fr), some (.int n), some (.int mo), some (.int c), x5, x6] [] M v M' 0 0) : Ev none (e + 3) 226 130 [some (.ref 633), some (.int fr), some (.int n), some (.int mo), some (.int c), x5, x6] [] M v M' 0 0 := by
  refine Ev.step (pc' := 2) (ls' := [some (.ref 633), some (.int fr), some (.int n), some (.int mo), some (.int c), x5, x6]) (st' := []) (M1 := M) 1 (fun n => rfl) ?_
  exact hz
theorem wd_17 {e : Nat} {M : Mem} {M' : Mem} {v : Option Value} {c fr mo n : Int32} {x5 x6 : Option Value}  (hz : Ev none (e + 3) 226 20 [some (.ref 633), some (.int fr), some (.int n), some (.int mo), some (.int c), some (.int 0), x6] [] M v M' 0 0) : Ev none (e + 3) 226 17 [some (.ref 633), some (.int fr), some (.int n), some (.int mo), some (.int c), x5, x6] [] M v M' 0 0 := by
  refine Ev.step (pc' := 20) (ls' := [some (.ref 633), some (.int fr), some (.int n), some (.int mo), some (.int c), some (.int 0), x6]) (st' := []) (M1 := M) 2 (fun n => rfl) ?_
  exact hz
theorem wd_20 {e : Nat} {M : Mem} {M' : Mem} {v : Option Value} {c d fr mo n : Int32} {x6 : Option Value}  (hz : Ev none (e + 3) 226 (if 8 ≤ d then 124 else 27) [some (.ref 633), some (.int fr), some (.int n), some (.int mo), some (.int c), some (.int d), x6] [] M v M' 0 0) : Ev none (e + 3) 226 20 [some (.ref 633), some (.int fr), some (.int n), some (.int mo), some (.int c), some (.int d), x6] [] M v M' 0 0 := by
  refine Ev.step (pc' := (if 8 ≤ d then 124 else 27)) (ls' := [some (.ref 633), some (.int fr), some (.int n), some (.int mo), some (.int c), some (.int d), x6]) (st' := []) (M1 := M) 3 (fun n => rfl) ?_
  exact hz
theorem wd_124 {e : Nat} {M : Mem} {M' : Mem} {v : Option Value} {c d fr mo n : Int32} {x6 : Option Value}  (hz : Ev none (e + 3) 226 11 [some (.ref 633), some (.int fr), some (.int n), some (.int mo), some (.int (c + 1)), some (.int d), x6] [] M v M' 0 0) : Ev none (e + 3) 226 124 [some (.ref 633), some (.int fr), some (.int n), some (.int mo), some (.int c), some (.int d), x6] [] M v M' 0 0 := by
  refine Ev.step (pc' := 11) (ls' := [some (.ref 633), some (.int fr), some (.int n), some (.int mo), some (.int (c + 1)), some (.int d), x6]) (st' := []) (M1 := M) 2 (fun n => rfl) ?_
  exact hz
theorem wd_27 {e : Nat} {M : Mem} {M' : Mem} {v : Option Value} {c d fr mo n : Int32} {x6 : Option Value}  (hz : Ev none (e + 3) 226 30 [some (.ref 633), some (.int fr), some (.int n), some (.int mo), some (.int c), some (.int d), x6] [.int c, .ref 633] M v M' 0 0) : Ev none (e + 3) 226 27 [some (.ref 633), some (.int fr), some (.int n), some (.int mo), some (.int c), some (.int d), x6] [] M v M' 0 0 := by
  refine Ev.step (pc' := 30) (ls' := [some (.ref 633), some (.int fr), some (.int n), some (.int mo), some (.int c), some (.int d), x6]) (st' := [.int c, .ref 633]) (M1 := M) 2 (fun n => rfl) ?_
  exact hz
theorem wd_33 {e : Nat} {M : Mem} {M' : Mem} {v : Option Value} {c d fr mo n z : Int32} {x6 : Option Value}  (hz : Ev none (e + 3) 226 (if z = 0 then 124 else 36) [some (.ref 633), some (.int fr), some (.int n), some (.int mo), some (.int c), some (.int d), x6] [] M v M' 0 0) : Ev none (e + 3) 226 33 [some (.ref 633), some (.int fr), some (.int n), some (.int mo), some (.int c), some (.int d), x6] [.int z] M v M' 0 0 := by
  refine Ev.step (pc' := (if z = 0 then 124 else 36)) (ls' := [some (.ref 633), some (.int fr), some (.int n), some (.int mo), some (.int c), some (.int d), x6]) (st' := []) (M1 := M) 1 (fun n => rfl) ?_
  exact hz
theorem wd_36 {e : Nat} {M : Mem} {M' : Mem} {v : Option Value} {c d fr mo n : Int32} {x6 : Option Value}  (hz : Ev none (e + 3) 226 41 [some (.ref 633), some (.int fr), some (.int n), some (.int mo), some (.int c), some (.int d), x6] [.int d, .int c, .ref 633] M v M' 0 0) : Ev none (e + 3) 226 36 [some (.ref 633), some (.int fr), some (.int n), some (.int mo), some (.int c), some (.int d), x6] [] M v M' 0 0 := by
  refine Ev.step (pc' := 41) (ls' := [some (.ref 633), some (.int fr), some (.int n), some (.int mo), some (.int c), some (.int d), x6]) (st' := [.int d, .int c, .ref 633]) (M1 := M) 3 (fun n => rfl) ?_
  exact hz
theorem wd_44 {e : Nat} {M : Mem} {M' : Mem} {v : Option Value} {c d fr mo n z : Int32} {x6 : Option Value}  (hz : Ev none (e + 3) 226 (if z < 0 then 118 else 51) [some (.ref 633), some (.int fr), some (.int n), some (.int mo), some (.int c), some (.int d), some (.int z)] [] M v M' 0 0) : Ev none (e + 3) 226 44 [some (.ref 633), some (.int fr), some (.int n), some (.int mo), some (.int c), some (.int d), x6] [.int z] M v M' 0 0 := by
  refine Ev.step (pc' := (if z < 0 then 118 else 51)) (ls' := [some (.ref 633), some (.int fr), some (.int n), some (.int mo), some (.int c), some (.int d), some (.int z)]) (st' := []) (M1 := M) 3 (fun n => rfl) ?_
  exact hz
theorem wd_51 {e : Nat} {M : Mem} {M' : Mem} {v : Option Value} {c d fr mo n o : Int32}  (hz : Ev none (e + 3) 226 54 [some (.ref 633), some (.int fr), some (.int n), some (.int mo), some (.int c), some (.int d), some (.int o)] [.int o, .ref 633] M v M' 0 0) : Ev none (e + 3) 226 51 [some (.ref 633), some (.int fr), some (.int n), some (.int mo), some (.int c), some (.int d), some (.int o)] [] M v M' 0 0 := by
  refine Ev.step (pc' := 54) (ls' := [some (.ref 633), some (.int fr), some (.int n), some (.int mo), some (.int c), some (.int d), some (.int o)]) (st' := [.int o, .ref 633]) (M1 := M) 2 (fun n => rfl) ?_
  exact hz
theorem wd_57 {e : Nat} {M : Mem} {M' : Mem} {v : Option Value} {c d fr mo n o z : Int32}  (hz : Ev none (e + 3) 226 (if z = 0 then 118 else 60) [some (.ref 633), some (.int fr), some (.int n), some (.int mo), some (.int c), some (.int d), some (.int o)] [] M v M' 0 0) : Ev none (e + 3) 226 57 [some (.ref 633), some (.int fr), some (.int n), some (.int mo), some (.int c), some (.int d), some (.int o)] [.int z] M v M' 0 0 := by
  refine Ev.step (pc' := (if z = 0 then 118 else 60)) (ls' := [some (.ref 633), some (.int fr), some (.int n), some (.int mo), some (.int c), some (.int d), some (.int o)]) (st' := []) (M1 := M) 1 (fun n => rfl) ?_
  exact hz
theorem wd_60 {e : Nat} {M : Mem} {M' : Mem} {v : Option Value} {vs : List Value} {c d fr mo n o y1 : Int32} {l654 : List Int32} (hM : gNth M 633 = some (.inr (11, vs))) (v47 : gNth vs 47 = some (.ref 654)) (r654 : gNth M 654 = some (.inl (1, .inl l654))) (g1 : gAt l654 (fr + o) = some y1) (hz : Ev none (e + 3) 226 72 [some (.ref 633), some (.int fr), some (.int n), some (.int mo), some (.int c), some (.int d), some (.int o)] [.int c, .ref 633, .int y1] M v M' 0 0) : Ev none (e + 3) 226 60 [some (.ref 633), some (.int fr), some (.int n), some (.int mo), some (.int c), some (.int d), some (.int o)] [] M v M' 0 0 := by
  refine Ev.step (pc' := 61) (ls' := [some (.ref 633), some (.int fr), some (.int n), some (.int mo), some (.int c), some (.int d), some (.int o)]) (st' := [.ref 633]) (M1 := M) 1 (fun n => rfl) ?_
  refine Ev.step 1 (gs_3 rfl rfl (gf_g rfl hM v47)) ?_
  refine Ev.step (pc' := 68) (ls' := [some (.ref 633), some (.int fr), some (.int n), some (.int mo), some (.int c), some (.int d), some (.int o)]) (st' := [.int (fr + o), .ref 654]) (M1 := M) 3 (fun n => rfl) ?_
  refine Ev.step 1 (gs_3 rfl rfl (ia_g r654 g1)) ?_
  refine Ev.step (pc' := 72) (ls' := [some (.ref 633), some (.int fr), some (.int n), some (.int mo), some (.int c), some (.int d), some (.int o)]) (st' := [.int c, .ref 633, .int y1]) (M1 := M) 2 (fun n => rfl) ?_
  exact hz
theorem wd_75 {e : Nat} {M : Mem} {M' : Mem} {v : Option Value} {vs : List Value} {c d fr mo n o x y1 z : Int32} {l654 : List Int32} (hM : gNth M 633 = some (.inr (11, vs))) (v47 : gNth vs 47 = some (.ref 654)) (r654 : gNth M 654 = some (.inl (1, .inl l654))) (g1 : gAt l654 (fr + c) = some y1) (hz : Ev none (e + 3) 226 (if (x + z) < y1 then 91 else 88) [some (.ref 633), some (.int fr), some (.int n), some (.int mo), some (.int c), some (.int d), some (.int o)] [] M v M' 0 0) : Ev none (e + 3) 226 75 [some (.ref 633), some (.int fr), some (.int n), some (.int mo), some (.int c), some (.int d), some (.int o)] [.int z, .int x] M v M' 0 0 := by
  refine Ev.step (pc' := 77) (ls' := [some (.ref 633), some (.int fr), some (.int n), some (.int mo), some (.int c), some (.int d), some (.int o)]) (st' := [.ref 633, .int (x + z)]) (M1 := M) 2 (fun n => rfl) ?_
  refine Ev.step 1 (gs_3 rfl rfl (gf_g rfl hM v47)) ?_
  refine Ev.step (pc' := 84) (ls' := [some (.ref 633), some (.int fr), some (.int n), some (.int mo), some (.int c), some (.int d), some (.int o)]) (st' := [.int (fr + c), .ref 654, .int (x + z)]) (M1 := M) 3 (fun n => rfl) ?_
  refine Ev.step 1 (gs_3 rfl rfl (ia_g r654 g1)) ?_
  refine Ev.step (pc' := (if (x + z) < y1 then 91 else 88)) (ls' := [some (.ref 633), some (.int fr), some (.int n), some (.int mo), some (.int c), some (.int d), some (.int o)]) (st' := []) (M1 := M) 1 (fun n => rfl) ?_
  exact hz
theorem wd_88 {e : Nat} {M : Mem} {M' : Mem} {v : Option Value} {c d fr mo n o : Int32}  (hz : Ev none (e + 3) 226 118 [some (.ref 633), some (.int fr), some (.int n), some (.int mo), some (.int c), some (.int d), some (.int o)] [] M v M' 0 0) : Ev none (e + 3) 226 88 [some (.ref 633), some (.int fr), some (.int n), some (.int mo), some (.int c), some (.int d), some (.int o)] [] M v M' 0 0 := by
  refine Ev.step (pc' := 118) (ls' := [some (.ref 633), some (.int fr), some (.int n), some (.int mo), some (.int c), some (.int d), some (.int o)]) (st' := []) (M1 := M) 1 (fun n => rfl) ?_
  exact hz
theorem wd_91 {e : Nat} {M : Mem} {M' : Mem} {v : Option Value} {vs : List Value} {c d fr mo n o y1 : Int32} {l654 : List Int32} (hM : gNth M 633 = some (.inr (11, vs))) (v47 : gNth vs 47 = some (.ref 654)) (r654 : gNth M 654 = some (.inl (1, .inl l654))) (g1 : gAt l654 (fr + o) = some y1) (hz : Ev none (e + 3) 226 111 [some (.ref 633), some (.int fr), some (.int n), some (.int mo), some (.int c), some (.int d), some (.int o)] [.int c, .ref 633, .int y1, .int (fr + c), .ref 654] M v M' 0 0) : Ev none (e + 3) 226 91 [some (.ref 633), some (.int fr), some (.int n), some (.int mo), some (.int c), some (.int d), some (.int o)] [] M v M' 0 0 := by
  refine Ev.step (pc' := 92) (ls' := [some (.ref 633), some (.int fr), some (.int n), some (.int mo), some (.int c), some (.int d), some (.int o)]) (st' := [.ref 633]) (M1 := M) 1 (fun n => rfl) ?_
  refine Ev.step 1 (gs_3 rfl rfl (gf_g rfl hM v47)) ?_
  refine Ev.step (pc' := 100) (ls' := [some (.ref 633), some (.int fr), some (.int n), some (.int mo), some (.int c), some (.int d), some (.int o)]) (st' := [.ref 633, .int (fr + c), .ref 654]) (M1 := M) 4 (fun n => rfl) ?_
  refine Ev.step 1 (gs_3 rfl rfl (gf_g rfl hM v47)) ?_
  refine Ev.step (pc' := 107) (ls' := [some (.ref 633), some (.int fr), some (.int n), some (.int mo), some (.int c), some (.int d), some (.int o)]) (st' := [.int (fr + o), .ref 654, .int (fr + c), .ref 654]) (M1 := M) 3 (fun n => rfl) ?_
  refine Ev.step 1 (gs_3 rfl rfl (ia_g r654 g1)) ?_
  refine Ev.step (pc' := 111) (ls' := [some (.ref 633), some (.int fr), some (.int n), some (.int mo), some (.int c), some (.int d), some (.int o)]) (st' := [.int c, .ref 633, .int y1, .int (fr + c), .ref 654]) (M1 := M) 2 (fun n => rfl) ?_
  exact hz
theorem wd_114 {e : Nat} {M : Mem} {M' : Mem} {v : Option Value} {c d fr mo n o x y1 z : Int32} {l654 : List Int32} (r654 : gNth M 654 = some (.inl (1, .inl l654))) (g1 : gAt l654 (fr + c) = some y1) (hz : Ev none (e + 3) 226 118 [some (.ref 633), some (.int fr), some (.int n), some (.int 1), some (.int c), some (.int d), some (.int o)] [] (gPut M 654 (.inl (1, .inl (gPut l654 (fr + c).toNatClampNeg (x + z))))) v M' 0 0) : Ev none (e + 3) 226 114 [some (.ref 633), some (.int fr), some (.int n), some (.int mo), some (.int c), some (.int d), some (.int o)] [.int z, .int x, .int (fr + c), .ref 654] M v M' 0 0 := by
  refine Ev.step (pc' := 115) (ls' := [some (.ref 633), some (.int fr), some (.int n), some (.int mo), some (.int c), some (.int d), some (.int o)]) (st' := [.int (x + z), .int (fr + c), .ref 654]) (M1 := M) 1 (fun n => rfl) ?_
  refine Ev.step 1 (gs_4 rfl rfl (is_g r654 g1)) ?_
  refine Ev.step (pc' := 118) (ls' := [some (.ref 633), some (.int fr), some (.int n), some (.int 1), some (.int c), some (.int d), some (.int o)]) (st' := []) (M1 := (gPut M 654 (.inl (1, .inl (gPut l654 (fr + c).toNatClampNeg (x + z)))))) 2 (fun n => rfl) ?_
  exact hz
theorem wd_118 {e : Nat} {M : Mem} {M' : Mem} {v : Option Value} {c d fr mo n : Int32} {x6 : Option Value}  (hz : Ev none (e + 3) 226 20 [some (.ref 633), some (.int fr), some (.int n), some (.int mo), some (.int c), some (.int (d + 1)), x6] [] M v M' 0 0) : Ev none (e + 3) 226 118 [some (.ref 633), some (.int fr), some (.int n), some (.int mo), some (.int c), some (.int d), x6] [] M v M' 0 0 := by
  refine Ev.step (pc' := 20) (ls' := [some (.ref 633), some (.int fr), some (.int n), some (.int mo), some (.int c), some (.int (d + 1)), x6]) (st' := []) (M1 := M) 2 (fun n => rfl) ?_
  exact hz
theorem be_0 {e : Nat} {M : Mem} {M' : Mem} {v : Option Value} {c : Int32}  (hz : Ev none (e + 1) 148 3 [some (.ref 633), some (.int c)] [.int 0, .int c, .ref 633] M v M' 0 0) : Ev none (e + 1) 148 0 [some (.ref 633), some (.int c)] [] M v M' 0 0 := by
  refine Ev.step (pc' := 3) (ls' := [some (.ref 633), some (.int c)]) (st' := [.int 0, .int c, .ref 633]) (M1 := M) 3 (fun n => rfl) ?_
  exact hz
theorem cal_be {M : Mem} {vs : List Value} {a0 : Int32} {rest : List Value} (hM : gNth M 633 = some (.inr (11, vs))) (hr : gRoom rest = true) : gCal (.invokevirtual 158) 11 (.int a0 :: .ref 633 :: rest) M = some (.inr (148, [some (.ref 633), some (.int a0)], rest)) := by
  show @cond (Option ((List Value × Mem) ⊕ (Nat × Lo × List Value))) (true && gRecv M (.ref 633) 11 && gRoom rest && true) (some (.inr (148, [some (.ref 633), some (.int a0)], rest))) none = _
  rw [recv_ok hM, hr]
  rfl
theorem cal_bs {M : Mem} {vs : List Value} {a0 a1 : Int32} {rest : List Value} (hM : gNth M 633 = some (.inr (11, vs))) (hr : gRoom rest = true) : gCal (.invokevirtual 380) 11 (.int a1 :: .int a0 :: .ref 633 :: rest) M = some (.inr (194, [some (.ref 633), some (.int a0), some (.int a1), none, none], rest)) := by
  show @cond (Option ((List Value × Mem) ⊕ (Nat × Lo × List Value))) (true && gRecv M (.ref 633) 11 && gRoom rest && true) (some (.inr (194, [some (.ref 633), some (.int a0), some (.int a1), none, none], rest))) none = _
  rw [recv_ok hM, hr]
  rfl
theorem cal_pr {M : Mem} {vs : List Value} {a0 : Int32} {rest : List Value} (hM : gNth M 633 = some (.inr (11, vs))) (hr : gRoom rest = true) : gCal (.invokevirtual 463) 11 (.int a0 :: .ref 633 :: rest) M = some (.inr (224, [some (.ref 633), some (.int a0)], rest)) := by
  show @cond (Option ((List Value × Mem) ⊕ (Nat × Lo × List Value))) (true && gRecv M (.ref 633) 11 && gRoom rest && true) (some (.inr (224, [some (.ref 633), some (.int a0)], rest))) none = _
  rw [recv_ok hM, hr]
  rfl
theorem be_6 {e : Nat} {M : Mem} {M' : Mem} {v : Option Value} {c z : Int32}  (hz : Ev none e 148 (if z = 3 then 25 else 10) [some (.ref 633), some (.int c)] [] M v M' 0 0) : Ev none e 148 6 [some (.ref 633), some (.int c)] [.int z] M v M' 0 0 := by
  refine Ev.step (pc' := (if z = 3 then 25 else 10)) (ls' := [some (.ref 633), some (.int c)]) (st' := []) (M1 := M) 2 (fun n => rfl) ?_
  exact hz
theorem be_10 {e : Nat} {M : Mem} {M' : Mem} {v : Option Value} {c : Int32}  (hz : Ev none (e + 1) 148 13 [some (.ref 633), some (.int c)] [.int 0, .int c, .ref 633] M v M' 0 0) : Ev none (e + 1) 148 10 [some (.ref 633), some (.int c)] [] M v M' 0 0 := by
  refine Ev.step (pc' := 13) (ls' := [some (.ref 633), some (.int c)]) (st' := [.int 0, .int c, .ref 633]) (M1 := M) 3 (fun n => rfl) ?_
  exact hz
theorem be_16 {e : Nat} {M : Mem} {M' : Mem} {v : Option Value} {c z : Int32}  (hz : Ev none e 148 (if z = 6 then 25 else 21) [some (.ref 633), some (.int c)] [] M v M' 0 0) : Ev none e 148 16 [some (.ref 633), some (.int c)] [.int z] M v M' 0 0 := by
  refine Ev.step (pc' := (if z = 6 then 25 else 21)) (ls' := [some (.ref 633), some (.int c)]) (st' := []) (M1 := M) 2 (fun n => rfl) ?_
  exact hz
theorem be_21 {e : Nat} {M : Mem} {c : Int32}  : Ev none e 148 21 [some (.ref 633), some (.int c)] [] M (some (.int 1)) M 0 0 := by
  refine Ev.step (pc' := 26) (ls' := [some (.ref 633), some (.int c)]) (st' := [.int 1]) (M1 := M) 2 (fun n => rfl) ?_
  exact Ev.ret (fun n => rfl)
theorem be_25 {e : Nat} {M : Mem} {c : Int32}  : Ev none e 148 25 [some (.ref 633), some (.int c)] [] M (some (.int 0)) M 0 0 := by
  refine Ev.step (pc' := 26) (ls' := [some (.ref 633), some (.int c)]) (st' := [.int 0]) (M1 := M) 1 (fun n => rfl) ?_
  exact Ev.ret (fun n => rfl)
theorem ev_bears {M : Mem} {e : Nat} {vs : List Value} {l : List Int32} {c y : Int32} (hM : gNth M 633 = some (.inr (11, vs))) (h5 : gNth vs 5 = some (.ref 635)) (hs : gNth M 635 = some (.inl (1, .inl l))) (hy : gAt l (522 + 7 * c + 0) = some y) : Ev none (e + 1) 148 0 [some (.ref 633), some (.int c)] [] M (some (.int (if y = 3 then 0 else if y = 6 then 0 else 1))) M 0 0 := by
  refine be_0 (Ev.call0 (fun n => gs_7 rfl rfl (cal_of hM rfl)) (ev_of hM h5 hs hy) (be_6 ?_))
  by_cases h0 : y = 3
  · rw [if_pos h0, if_pos h0]
    exact be_25
  · rw [if_neg h0, if_neg h0]
    refine be_10 (Ev.call0 (fun n => gs_7 rfl rfl (cal_of hM rfl)) (ev_of hM h5 hs hy) (be_16 ?_))
    by_cases h2 : y = 6
    · rw [if_pos h2, if_pos h2]
      exact be_25
    · rw [if_neg h2, if_neg h2]
      exact be_21
/-- a cell's kind -/
theorem cell_k {M : Mem} (hT : TM sT sG M) {l : List Int32} (sl : l.length = 2314) {c : Int32} (c1 : 0 ≤ c.toInt) (c2 : c.toInt ≤ 255) : ∃ y, gAt l (522 + 7 * c + 0) = some y := by
  have e0 : (0 : Int32).toInt = 0 := rfl
  have ec := i32_cell (c := c) (k := 0) c1 c2 (by decide) (by decide)
  obtain ⟨kn, hkn⟩ : ∃ kn : Nat, (522 + 7 * c + 0 : Int32).toInt = (kn : Int) := ⟨(522 + 7 * c.toInt).toNat, by omega⟩
  obtain ⟨y, y1, y2⟩ := at_c (l := l) hkn (by omega)
  exact ⟨y, y1⟩
set_option maxRecDepth 100000 in
theorem rw_82 : rwB 82 1 16384 (-2147483648) 2147483647 = true := by decide +kernel
set_option maxRecDepth 100000 in
theorem mf_82 : mfB 47 82 = true := by decide +kernel
set_option maxRecDepth 100000 in
theorem sU_82 : gNth sU 82 = some (some 654) := by decide +kernel
set_option maxRecDepth 100000 in
theorem sT_654 : gNth sT 654 = some 82 := by decide +kernel
noncomputable def costB : Bool := match gNth sG 82 with
  | some (.inr (1, 16384, .inl sg)) => (List.range 16384).all (fun j => match sgAt sg j with
    | some p => decide (p.1 ≤ -2147483648) && decide (2147483647 ≤ p.2)
    | _ => false)
  | _ => false
set_option maxRecDepth 100000 in
/-- all of the costs may be any number -/
theorem costs_put {M : Mem} (hT : TM sT sG M) {l : List Int32} (hM : gNth M 654 = some (.inl (1, .inl l))) (i : Nat) (y : Int32) : TM sT sG (gPut M 654 (.inl (1, .inl (gPut l i y)))) ∧ Frm sT [(1082, 0)] M (gPut M 654 (.inl (1, .inl (gPut l i y)))) := by
  refine ⟨?_, Frm.row hM sT_654 (List.mem_singleton.mpr rfl)⟩
  obtain ⟨l2, h1, h2, _⟩ := hT.mrow sT_654 rw_82
  cases h1.symm.trans hM
  refine hT.put (fun g2 t w1 w2 => ?_)
  rw [sT_654] at w1
  cases w1
  have hB : costB = true := by decide +kernel
  unfold costB at hB
  rw [w2] at hB
  split at hB
  · rename_i sg e
    cases e
    refine ct_mk (by decide) (by rw [put_len]; exact h2) (fun j x hj => ?_)
    have hj2 := gNth_lt _ _ _ hj
    rw [put_len, h2] at hj2
    have h4 := List.all_eq_true.mp hB j (List.mem_range.mpr hj2)
    cases hp : sgAt sg j with
    | none => rw [hp] at h4; cases h4
    | some p =>
      rw [hp] at h4
      obtain ⟨h5, h6⟩ := and_t h4
      have h5 := of_decide_eq_true h5
      have h6 := of_decide_eq_true h6
      have := i32_lt x
      exact ⟨p, rfl, by omega, by omega⟩
  · cases hB
/-- what stands while it widens -/
def WdS (s : Nat) (M0 : Mem) (mo : Int32) (M : Mem) : Prop := TM sT sG M ∧ Frm sT [(1082, 0)] M0 M ∧ msP 654 mI (fun x => (mo = 0 ∧ x ≤ s) ∨ (mo = 1 ∧ x < s)) M
def WdQ (M0 : Mem) (v : Option Value) (M : Mem) : Prop := v = none ∧ TM sT sG M ∧ Frm sT [(1082, 0)] M0 M
section WDN
variable {fr n : Int32} {M0 : Mem} {e : Nat}
abbrev WdF (fr n : Int32) (M0 : Mem) (e pc : Nat) (mo : Int32) (x4 x5 x6 : Option Value) (M : Mem) : Prop := RF (WdQ M0) [] (e + 3) 226 pc [some (.ref 633), some (.int fr), some (.int n), some (.int mo), x4, x5, x6] [] M
/-- one way d -/
theorem wd_body {s : Nat} {mo c d : Int32} {x6 : Option Value} {M : Mem} (f0 : 0 ≤ fr.toInt) (f1 : fr.toInt ≤ 16128) (c0 : 0 ≤ c.toInt) (c1 : c.toInt ≤ 255) (h : WdS s M0 mo M) (hE : ∀ x6, WdF fr n M0 e 124 mo (some (.int c)) (some (.int d)) x6 M) (hD : ∀ mo x6 M, WdS s M0 mo M → WdF fr n M0 e 118 mo (some (.int c)) (some (.int d)) x6 M) : WdF fr n M0 e 27 mo (some (.int c)) (some (.int d)) x6 M := by
  obtain ⟨hT, hF, hm⟩ := id h
  obtain ⟨vs, l, hM, h5, hs, sl⟩ := hT.s_all
  obtain ⟨vs9, hM9, hv⟩ := hT.mfld
  cases hM.symm.trans hM9
  obtain ⟨l6, r6, l6l, _⟩ := hT.mrow sT_654 rw_82
  have h47 := hv 47 82 654 mf_82 sU_82
  obtain ⟨kc, hkc⟩ := cell_k hT sl c0 c1
  obtain ⟨vs2, l2, w, hh, m1, m2, m3, m4, m5, w1, w2, h1, h2⟩ := hT.s_ref
  cases hM.symm.trans m1
  cases hs.symm.trans m3
  have hw : ¬ w = 0 := by
    intro hz
    rw [hz] at w1
    exact absurd w1 (by decide)
  refine RF.pre (fun v M' hz => wd_27 (Ev.call0 (fun n => gs_7 rfl rfl (cal_be hM rfl)) (ev_bears hM h5 hs hkc) (wd_33 hz))) ?_
  obtain ⟨z, ez⟩ : ∃ z : Int32, z = if kc = 3 then 0 else if kc = 6 then 0 else 1 := ⟨_, rfl⟩
  rw [← ez]
  by_cases hz0 : z = 0
  · rw [if_pos hz0]
    exact hE _
  rw [if_neg hz0]
  refine RF.pre (fun v M' hz => wd_36 (Ev.call0 (fun n => gs_7 rfl rfl (cal_bs hM rfl)) (ev_beside (e := e) hM h5 hs m4 m5 hw) (wd_44 hz))) ?_
  obtain ⟨o, eo⟩ : ∃ o, o = besI w hh c d := ⟨_, rfl⟩
  have ho := besI_in (c := c) (d := d) w1 w2 h1 h2
  rw [← eo] at ho ⊢
  by_cases o0 : o < 0
  · rw [if_pos o0]
    exact hD _ _ _ h
  rw [if_neg o0]
  have ho : 0 ≤ o.toInt ∧ o.toInt ≤ 255 := by
    rcases ho with ho | ho
    · rw [ho] at o0
      exact absurd (by decide) o0
    · exact ho
  obtain ⟨ko, hko⟩ := cell_k hT sl ho.1 ho.2
  refine RF.pre (fun v M' hz => wd_51 (Ev.call0 (fun n => gs_7 rfl rfl (cal_be hM rfl)) (ev_bears hM h5 hs hko) (wd_57 hz))) ?_
  obtain ⟨z2, ez2⟩ : ∃ z : Int32, z = if ko = 3 then 0 else if ko = 6 then 0 else 1 := ⟨_, rfl⟩
  rw [← ez2]
  by_cases hz2 : z2 = 0
  · rw [if_pos hz2]
    exact hD _ _ _ h
  rw [if_neg hz2]
  have eo2 : (fr + o).toInt = fr.toInt + o.toInt := i32_add (by omega) (by omega)
  have ec2 : (fr + c).toInt = fr.toInt + c.toInt := i32_add (by omega) (by omega)
  obtain ⟨xo, xo1, xo2⟩ := at_c (l := l6) (j := fr + o) (kn := (fr.toInt + o.toInt).toNat) (by omega) (by omega)
  obtain ⟨xc, xc1, xc2⟩ := at_c (l := l6) (j := fr + c) (kn := (fr.toInt + c.toInt).toNat) (by omega) (by omega)
  refine RF.pre (fun v M' hz => wd_60 hM h47 r6 xo1 (Ev.call0 (fun n => gs_7 rfl rfl (cal_pr hM rfl)) (ev_price (e := e) hM h5 hs hkc) (wd_75 hM h47 r6 xc1 hz))) ?_
  obtain ⟨nv, env⟩ : ∃ nv, nv = xo + prI kc := ⟨_, rfl⟩
  rw [← env]
  by_cases hlt : nv < xc
  · rw [if_pos hlt]
    refine RF.pre (fun v M' hz => wd_91 hM h47 r6 xo1 (Ev.call0 (fun n => gs_7 rfl rfl (cal_pr hM rfl)) (ev_price (e := e) hM h5 hs hkc) (wd_114 r6 xc1 hz))) ?_
    rw [← env]
    obtain ⟨p1, p2⟩ := costs_put hT r6 (fr + c).toNatClampNeg nv
    refine hD _ _ _ ⟨p1, hF.trans p2, ?_⟩
    have ecl : (fr + c).toNatClampNeg = (fr.toInt + c.toInt).toNat := cl_n (by omega)
    rw [ecl]
    refine msP.put (f := mI) (P := fun x => (mo = 0 ∧ x ≤ s) ∨ (mo = 1 ∧ x < s)) r6 xc2 (fun a b h1 h2 => ?_) hm
    have := (mI_lt (x := nv) (y := xc)).2 (Int32.lt_iff_toInt_lt.mp hlt)
    refine Or.inr ⟨rfl, ?_⟩
    rcases h1 with ⟨_, h1⟩ | ⟨_, h1⟩ <;> omega
  · rw [if_neg hlt]
    exact RF.pre (fun v M' hz => wd_88 hz) (hD _ _ _ h)
/-- the ways from d on -/
theorem wd_dl {s : Nat} {c : Int32} (f0 : 0 ≤ fr.toInt) (f1 : fr.toInt ≤ 16128) (c0 : 0 ≤ c.toInt) (c1 : c.toInt ≤ 255) (hE : ∀ mo x5 x6 M, WdS s M0 mo M → WdF fr n M0 e 11 mo (some (.int (c + 1))) x5 x6 M) : ∀ (j : Nat) (d mo : Int32) (x6 : Option Value) (M : Mem), WdS s M0 mo M → 0 ≤ d.toInt → d.toInt + (j : Int) = 8 → WdF fr n M0 e 20 mo (some (.int c)) (some (.int d)) x6 M := by
  intro j
  induction j with
  | zero =>
    intro d mo x6 M h d0 hj
    refine RF.pre (fun v M' hz => wd_20 hz) ?_
    rw [if_pos (by rw [Int32.le_iff_toInt_le]; show (8 : Int) ≤ d.toInt; omega)]
    exact RF.pre (fun v M' hz => wd_124 hz) (hE _ _ _ _ h)
  | succ j ih =>
    intro d mo x6 M h d0 hj
    refine RF.pre (fun v M' hz => wd_20 hz) ?_
    rw [if_neg (by rw [Int32.le_iff_toInt_le]; show ¬ (8 : Int) ≤ d.toInt; omega)]
    have e1 : (d + 1).toInt = d.toInt + 1 := i32_p1 (by omega)
    exact wd_body f0 f1 c0 c1 h (fun x6 => RF.pre (fun v M' hz => wd_124 hz) (hE _ _ _ _ h)) (fun mo x6 M h => RF.pre (fun v M' hz => wd_118 hz) (ih (d + 1) mo x6 M h (by omega) (by omega)))
/-- the cells from c on -/
theorem wd_cl {s : Nat} (f0 : 0 ≤ fr.toInt) (f1 : fr.toInt ≤ 16128) (n1 : n.toInt ≤ 256) (hE : ∀ mo x4 x5 x6 M, WdS s M0 mo M → WdF fr n M0 e 2 mo x4 x5 x6 M) : ∀ (j : Nat) (c mo : Int32) (x5 x6 : Option Value) (M : Mem), WdS s M0 mo M → 0 ≤ c.toInt → n.toInt ≤ c.toInt + (j : Int) → WdF fr n M0 e 11 mo (some (.int c)) x5 x6 M := by
  intro j
  induction j with
  | zero =>
    intro c mo x5 x6 M h c0 hj
    refine RF.pre (fun v M' hz => wd_11 hz) ?_
    rw [if_pos (by rw [Int32.le_iff_toInt_le]; omega)]
    exact RF.pre (fun v M' hz => wd_130 hz) (hE _ _ _ _ _ h)
  | succ j ih =>
    intro c mo x5 x6 M h c0 hj
    refine RF.pre (fun v M' hz => wd_11 hz) ?_
    by_cases hn : n ≤ c
    · rw [if_pos hn]
      exact RF.pre (fun v M' hz => wd_130 hz) (hE _ _ _ _ _ h)
    rw [if_neg hn]
    rw [Int32.le_iff_toInt_le] at hn
    have e1 : (c + 1).toInt = c.toInt + 1 := i32_p1 (by omega)
    refine RF.pre (fun v M' hz => wd_17 hz) (wd_dl f0 f1 c0 (by omega) (fun mo x5 x6 M h => ih (c + 1) mo x5 x6 M h (by omega) (by omega)) 8 0 mo x6 M h (by decide) (by decide))
/-- again and again -/
theorem wd_wl (f0 : 0 ≤ fr.toInt) (f1 : fr.toInt ≤ 16128) (n1 : n.toInt ≤ 256) : ∀ (k : Nat) (mo : Int32) (x4 x5 x6 : Option Value) (M : Mem), (mo = 0 ∨ (mo = 1 ∧ msP 654 mI (fun x => x < k) M)) → TM sT sG M → Frm sT [(1082, 0)] M0 M → WdF fr n M0 e 2 mo x4 x5 x6 M := by
  intro k
  have fin : ∀ (x4 x5 x6 : Option Value) (M : Mem), TM sT sG M → Frm sT [(1082, 0)] M0 M → WdF fr n M0 e 2 0 x4 x5 x6 M := by
    intro x4 x5 x6 M hT hF
    refine RF.pre (fun v M' hz => wd_2 hz) ?_
    rw [if_pos rfl]
    exact ⟨none, M, wd_133, rfl, hT, hF⟩
  induction k with
  | zero =>
    intro mo x4 x5 x6 M h hT hF
    rcases h with rfl | ⟨_, t, l, _, h⟩
    · exact fin _ _ _ _ hT hF
    · exact absurd h (Nat.not_lt_zero _)
  | succ k ih =>
    intro mo x4 x5 x6 M h hT hF
    rcases h with rfl | ⟨rfl, t, l, e1, h⟩
    · exact fin _ _ _ _ hT hF
    refine RF.pre (fun v M' hz => wd_2 hz) ?_
    rw [if_neg (by decide)]
    refine RF.pre (fun v M' hz => wd_6 hz) ?_
    refine wd_cl (s := k) f0 f1 n1 (fun mo x4 x5 x6 M h => ?_) 256 0 0 x5 x6 M ⟨hT, hF, t, l, e1, Or.inl ⟨rfl, by omega⟩⟩ (by decide) (by show n.toInt ≤ 0 + 256; omega)
    obtain ⟨q1, q2, t2, l2, q3, q4⟩ := h
    refine ih mo x4 x5 x6 M ?_ q1 q2
    rcases q4 with ⟨h4, _⟩ | ⟨h4, h5⟩
    · exact Or.inl h4
    · exact Or.inr ⟨h4, t2, l2, q3, h5⟩
end WDN
def kX11_widen : CN := (226, 3, [.inr 1900, .inl (.ofNat 0, .ofNat 16128), .inl (.ofNat 0, .ofNat 256)], [], [], [(1082, 0)], [(none, [], [], [], [])])
set_option maxRecDepth 100000 in
theorem mR_226 : (gNth mRs 226).map (fun q => q.2.2.2.1) = some 7 := by decide +kernel
theorem kX11_widen_ok : cnOK sT sG FL0 kX11_widen := by
  intro d M ws q hd hq ha _ hT
  have hm := mR_226
  have hq' : gNth mRs 226 = some q := hq
  rw [hq'] at hm
  have hm : q.2.2.2.1 = 7 := Option.some.inj hm
  obtain ⟨e, rfl⟩ : ∃ e, d = e + 3 := ⟨d - 3, by have : 3 ≤ d := hd; omega⟩
  rcases ws with _ | ⟨a, _ | ⟨b, _ | ⟨b2, _ | ⟨b3, r⟩⟩⟩⟩
  · exact ha.elim
  · exact ha.2.elim
  · exact ha.2.2.elim
  · obtain ⟨k1, ⟨fr, rfl, c1, c2⟩, ⟨n, rfl, d1, d2⟩, _⟩ := ha
    have k1 : a = .ref 633 := k1
    subst k1
    have c1 : 0 ≤ fr.toInt := c1
    have c2 : fr.toInt ≤ 16128 := c2
    have d2 : n.toInt ≤ 256 := d2
    obtain ⟨t, l, e1⟩ := ha_costs M hT
    rw [hm]
    obtain ⟨v, M', q1, rfl, q3, q4⟩ := wd_wl (fr := fr) (n := n) (M0 := M) (e := e) c1 c2 d2 ((l.map mI).sum + 1) 1 none none none M (Or.inr ⟨rfl, t, l, e1, Nat.lt_succ_self _⟩) hT (Frm.refl M)
    exact ⟨none, M', wd_0 q1, q3, q4, _, List.mem_cons_self .., ⟨trivial, fun q hq => (by cases hq), [], trivial, fun f hf => (by cases hf), fun q hq => (by cases hq)⟩, cn_D rfl⟩
  · exact ha.2.2.2.elim
/-! BY HAND: s is laid aside, laid back, kept -/
theorem la_0 {e : Nat} {M : Mem} {M' : Mem} {v : Option Value} {x1 : Option Value}  (hz : Ev none e 153 2 [some (.ref 633), some (.int 0)] [] M v M' 0 0) : Ev none e 153 0 [some (.ref 633), x1] [] M v M' 0 0 := by
  refine Ev.step (pc' := 2) (ls' := [some (.ref 633), some (.int 0)]) (st' := []) (M1 := M) 2 (fun n => rfl) ?_
  exact hz
theorem la_2 {e : Nat} {M : Mem} {M' : Mem} {v : Option Value} {i : Int32}  (hz : Ev none e 153 (if 2314 ≤ i then 27 else 9) [some (.ref 633), some (.int i)] [] M v M' 0 0) : Ev none e 153 2 [some (.ref 633), some (.int i)] [] M v M' 0 0 := by
  refine Ev.step (pc' := (if 2314 ≤ i then 27 else 9)) (ls' := [some (.ref 633), some (.int i)]) (st' := []) (M1 := M) 3 (fun n => rfl) ?_
  exact hz
theorem la_9 {e : Nat} {M : Mem} {M' : Mem} {v : Option Value} {vs : List Value} {i y1 y2 : Int32} {l635 l637 : List Int32} (hM : gNth M 633 = some (.inr (11, vs))) (v7 : gNth vs 7 = some (.ref 637)) (v5 : gNth vs 5 = some (.ref 635)) (r635 : gNth M 635 = some (.inl (1, .inl l635))) (g1 : gAt l635 i = some y1) (r637 : gNth M 637 = some (.inl (1, .inl l637))) (g2 : gAt l637 i = some y2) (hz : Ev none e 153 2 [some (.ref 633), some (.int (i + 1))] [] (gPut M 637 (.inl (1, .inl (gPut l637 i.toNatClampNeg y1)))) v M' 0 0) : Ev none e 153 9 [some (.ref 633), some (.int i)] [] M v M' 0 0 := by
  refine Ev.step (pc' := 10) (ls' := [some (.ref 633), some (.int i)]) (st' := [.ref 633]) (M1 := M) 1 (fun n => rfl) ?_
  refine Ev.step 1 (gs_3 rfl rfl (gf_g rfl hM v7)) ?_
  refine Ev.step (pc' := 15) (ls' := [some (.ref 633), some (.int i)]) (st' := [.ref 633, .int i, .ref 637]) (M1 := M) 2 (fun n => rfl) ?_
  refine Ev.step 1 (gs_3 rfl rfl (gf_g rfl hM v5)) ?_
  refine Ev.step (pc' := 19) (ls' := [some (.ref 633), some (.int i)]) (st' := [.int i, .ref 635, .int i, .ref 637]) (M1 := M) 1 (fun n => rfl) ?_
  refine Ev.step 1 (gs_3 rfl rfl (ia_g r635 g1)) ?_
  refine Ev.step 1 (gs_4 rfl rfl (is_g r637 g2)) ?_
  refine Ev.step (pc' := 2) (ls' := [some (.ref 633), some (.int (i + 1))]) (st' := []) (M1 := (gPut M 637 (.inl (1, .inl (gPut l637 i.toNatClampNeg y1))))) 2 (fun n => rfl) ?_
  exact hz
theorem la_27 {e : Nat} {M : Mem} {i : Int32}  : Ev none e 153 27 [some (.ref 633), some (.int i)] [] M none M 0 0 := by
  exact Ev.ret (fun n => rfl)
theorem lb_0 {e : Nat} {M : Mem} {M' : Mem} {v : Option Value} {x1 : Option Value}  (hz : Ev none e 154 2 [some (.ref 633), some (.int 0)] [] M v M' 0 0) : Ev none e 154 0 [some (.ref 633), x1] [] M v M' 0 0 := by
  refine Ev.step (pc' := 2) (ls' := [some (.ref 633), some (.int 0)]) (st' := []) (M1 := M) 2 (fun n => rfl) ?_
  exact hz
theorem lb_2 {e : Nat} {M : Mem} {M' : Mem} {v : Option Value} {i : Int32}  (hz : Ev none e 154 (if 2314 ≤ i then 27 else 9) [some (.ref 633), some (.int i)] [] M v M' 0 0) : Ev none e 154 2 [some (.ref 633), some (.int i)] [] M v M' 0 0 := by
  refine Ev.step (pc' := (if 2314 ≤ i then 27 else 9)) (ls' := [some (.ref 633), some (.int i)]) (st' := []) (M1 := M) 3 (fun n => rfl) ?_
  exact hz
theorem lb_9 {e : Nat} {M : Mem} {M' : Mem} {v : Option Value} {vs : List Value} {i y1 y2 : Int32} {l635 l637 : List Int32} (hM : gNth M 633 = some (.inr (11, vs))) (v5 : gNth vs 5 = some (.ref 635)) (v7 : gNth vs 7 = some (.ref 637)) (r637 : gNth M 637 = some (.inl (1, .inl l637))) (g1 : gAt l637 i = some y1) (r635 : gNth M 635 = some (.inl (1, .inl l635))) (g2 : gAt l635 i = some y2) (hz : Ev none e 154 2 [some (.ref 633), some (.int (i + 1))] [] (gPut M 635 (.inl (1, .inl (gPut l635 i.toNatClampNeg y1)))) v M' 0 0) : Ev none e 154 9 [some (.ref 633), some (.int i)] [] M v M' 0 0 := by
  refine Ev.step (pc' := 10) (ls' := [some (.ref 633), some (.int i)]) (st' := [.ref 633]) (M1 := M) 1 (fun n => rfl) ?_
  refine Ev.step 1 (gs_3 rfl rfl (gf_g rfl hM v5)) ?_
  refine Ev.step (pc' := 15) (ls' := [some (.ref 633), some (.int i)]) (st' := [.ref 633, .int i, .ref 635]) (M1 := M) 2 (fun n => rfl) ?_
  refine Ev.step 1 (gs_3 rfl rfl (gf_g rfl hM v7)) ?_
  refine Ev.step (pc' := 19) (ls' := [some (.ref 633), some (.int i)]) (st' := [.int i, .ref 637, .int i, .ref 635]) (M1 := M) 1 (fun n => rfl) ?_
  refine Ev.step 1 (gs_3 rfl rfl (ia_g r637 g1)) ?_
  refine Ev.step 1 (gs_4 rfl rfl (is_g r635 g2)) ?_
  refine Ev.step (pc' := 2) (ls' := [some (.ref 633), some (.int (i + 1))]) (st' := []) (M1 := (gPut M 635 (.inl (1, .inl (gPut l635 i.toNatClampNeg y1))))) 2 (fun n => rfl) ?_
  exact hz
theorem lb_27 {e : Nat} {M : Mem} {i : Int32}  : Ev none e 154 27 [some (.ref 633), some (.int i)] [] M none M 0 0 := by
  exact Ev.ret (fun n => rfl)
theorem im_5 {e : Nat} {M : Mem} {M' : Mem} {v : Option Value} {k : Int32} {x1 : Option Value}  (hz : Ev none (e + 1) 246 8 [some (.ref 633), some (.int k), x1] [.int 2, .int 0, .int k] M v M' 0 0) : Ev none (e + 1) 246 5 [some (.ref 633), some (.int k), x1] [] M v M' 0 0 := by
  refine Ev.step (pc' := 8) (ls' := [some (.ref 633), some (.int k), x1]) (st' := [.int 2, .int 0, .int k]) (M1 := M) 3 (fun n => rfl) ?_
  exact hz
theorem im_11 {e : Nat} {M : Mem} {M' : Mem} {v : Option Value} {k z : Int32} {x1 : Option Value}  (hz : Ev none (e + 1) 246 (if z = 0 then 14 else 16) [some (.ref 633), some (.int k), x1] [] M v M' 0 0) : Ev none (e + 1) 246 11 [some (.ref 633), some (.int k), x1] [.int z] M v M' 0 0 := by
  refine Ev.step (pc' := (if z = 0 then 14 else 16)) (ls' := [some (.ref 633), some (.int k), x1]) (st' := []) (M1 := M) 1 (fun n => rfl) ?_
  exact hz
theorem im_14 {e : Nat} {M : Mem} {k : Int32} {x1 : Option Value}  : Ev none (e + 1) 246 14 [some (.ref 633), some (.int k), x1] [] M (some (.int 0)) M 0 0 := by
  refine Ev.step (pc' := 15) (ls' := [some (.ref 633), some (.int k), x1]) (st' := [.int 0]) (M1 := M) 1 (fun n => rfl) ?_
  exact Ev.ret (fun n => rfl)
theorem im_16 {e : Nat} {M : Mem} {M' : Mem} {v : Option Value} {k : Int32} {x1 : Option Value}  (hz : Ev none (e + 1) 246 18 [some (.ref 633), some (.int k), some (.int 0)] [] M v M' 0 0) : Ev none (e + 1) 246 16 [some (.ref 633), some (.int k), x1] [] M v M' 0 0 := by
  refine Ev.step (pc' := 18) (ls' := [some (.ref 633), some (.int k), some (.int 0)]) (st' := []) (M1 := M) 2 (fun n => rfl) ?_
  exact hz
theorem im_18 {e : Nat} {M : Mem} {M' : Mem} {v : Option Value} {i k : Int32}  (hz : Ev none (e + 1) 246 (if 2314 ≤ i then 49 else 25) [some (.ref 633), some (.int k), some (.int i)] [] M v M' 0 0) : Ev none (e + 1) 246 18 [some (.ref 633), some (.int k), some (.int i)] [] M v M' 0 0 := by
  refine Ev.step (pc' := (if 2314 ≤ i then 49 else 25)) (ls' := [some (.ref 633), some (.int k), some (.int i)]) (st' := []) (M1 := M) 3 (fun n => rfl) ?_
  exact hz
theorem im_25 {e : Nat} {M : Mem} {M' : Mem} {v : Option Value} {vs : List Value} {i k y1 y2 : Int32} {l635 l636 : List Int32} (hM : gNth M 633 = some (.inr (11, vs))) (v6 : gNth vs 6 = some (.ref 636)) (v5 : gNth vs 5 = some (.ref 635)) (r635 : gNth M 635 = some (.inl (1, .inl l635))) (g1 : gAt l635 i = some y1) (r636 : gNth M 636 = some (.inl (1, .inl l636))) (g2 : gAt l636 ((2314 * k) + i) = some y2) (hz : Ev none (e + 1) 246 18 [some (.ref 633), some (.int k), some (.int (i + 1))] [] (gPut M 636 (.inl (1, .inl (gPut l636 ((2314 * k) + i).toNatClampNeg y1)))) v M' 0 0) : Ev none (e + 1) 246 25 [some (.ref 633), some (.int k), some (.int i)] [] M v M' 0 0 := by
  refine Ev.step (pc' := 26) (ls' := [some (.ref 633), some (.int k), some (.int i)]) (st' := [.ref 633]) (M1 := M) 1 (fun n => rfl) ?_
  refine Ev.step 1 (gs_3 rfl rfl (gf_g rfl hM v6)) ?_
  refine Ev.step (pc' := 37) (ls' := [some (.ref 633), some (.int k), some (.int i)]) (st' := [.ref 633, .int ((2314 * k) + i), .ref 636]) (M1 := M) 6 (fun n => rfl) ?_
  refine Ev.step 1 (gs_3 rfl rfl (gf_g rfl hM v5)) ?_
  refine Ev.step (pc' := 41) (ls' := [some (.ref 633), some (.int k), some (.int i)]) (st' := [.int i, .ref 635, .int ((2314 * k) + i), .ref 636]) (M1 := M) 1 (fun n => rfl) ?_
  refine Ev.step 1 (gs_3 rfl rfl (ia_g r635 g1)) ?_
  refine Ev.step 1 (gs_4 rfl rfl (is_g r636 g2)) ?_
  refine Ev.step (pc' := 18) (ls' := [some (.ref 633), some (.int k), some (.int (i + 1))]) (st' := []) (M1 := (gPut M 636 (.inl (1, .inl (gPut l636 ((2314 * k) + i).toNatClampNeg y1))))) 2 (fun n => rfl) ?_
  exact hz
theorem im_49 {e : Nat} {M : Mem} {vs : List Value} {i k y1 : Int32} {l638 : List Int32} (hM : gNth M 633 = some (.inr (11, vs))) (v8 : gNth vs 8 = some (.ref 638)) (r638 : gNth M 638 = some (.inl (3, .inl l638))) (g1 : gAt l638 k = some y1) : Ev none (e + 1) 246 49 [some (.ref 633), some (.int k), some (.int i)] [] M (some (.int 1)) (gPut M 638 (.inl (3, .inl (gPut l638 k.toNatClampNeg (vp_nar .boolean 1))))) 0 0 := by
  refine Ev.step (pc' := 50) (ls' := [some (.ref 633), some (.int k), some (.int i)]) (st' := [.ref 633]) (M1 := M) 1 (fun n => rfl) ?_
  refine Ev.step 1 (gs_3 rfl rfl (gf_g rfl hM v8)) ?_
  refine Ev.step (pc' := 55) (ls' := [some (.ref 633), some (.int k), some (.int i)]) (st' := [.int 1, .int k, .ref 638]) (M1 := M) 2 (fun n => rfl) ?_
  refine Ev.step 1 (gs_4 rfl rfl (bs_g r638 g1)) ?_
  refine Ev.step (pc' := 57) (ls' := [some (.ref 633), some (.int k), some (.int i)]) (st' := [.int 1]) (M1 := (gPut M 638 (.inl (3, .inl (gPut l638 k.toNatClampNeg (vp_nar .boolean 1)))))) 1 (fun n => rfl) ?_
  exact Ev.ret (fun n => rfl)
theorem re_5 {e : Nat} {M : Mem} {M' : Mem} {v : Option Value} {k : Int32} {x1 : Option Value}  (hz : Ev none (e + 1) 247 8 [some (.ref 633), some (.int k), x1] [.int 2, .int 0, .int k] M v M' 0 0) : Ev none (e + 1) 247 5 [some (.ref 633), some (.int k), x1] [] M v M' 0 0 := by
  refine Ev.step (pc' := 8) (ls' := [some (.ref 633), some (.int k), x1]) (st' := [.int 2, .int 0, .int k]) (M1 := M) 3 (fun n => rfl) ?_
  exact hz
theorem re_11 {e : Nat} {M : Mem} {M' : Mem} {v : Option Value} {k z : Int32} {x1 : Option Value}  (hz : Ev none (e + 1) 247 (if z = 0 then 23 else 14) [some (.ref 633), some (.int k), x1] [] M v M' 0 0) : Ev none (e + 1) 247 11 [some (.ref 633), some (.int k), x1] [.int z] M v M' 0 0 := by
  refine Ev.step (pc' := (if z = 0 then 23 else 14)) (ls' := [some (.ref 633), some (.int k), x1]) (st' := []) (M1 := M) 1 (fun n => rfl) ?_
  exact hz
theorem re_14 {e : Nat} {M : Mem} {M' : Mem} {v : Option Value} {vs : List Value} {k y1 : Int32} {l638 : List Int32} {x1 : Option Value} (hM : gNth M 633 = some (.inr (11, vs))) (v8 : gNth vs 8 = some (.ref 638)) (r638 : gNth M 638 = some (.inl (3, .inl l638))) (g1 : gAt l638 k = some y1) (hz : Ev none (e + 1) 247 (if y1 = 0 then 23 else 25) [some (.ref 633), some (.int k), x1] [] M v M' 0 0) : Ev none (e + 1) 247 14 [some (.ref 633), some (.int k), x1] [] M v M' 0 0 := by
  refine Ev.step (pc' := 15) (ls' := [some (.ref 633), some (.int k), x1]) (st' := [.ref 633]) (M1 := M) 1 (fun n => rfl) ?_
  refine Ev.step 1 (gs_3 rfl rfl (gf_g rfl hM v8)) ?_
  refine Ev.step (pc' := 19) (ls' := [some (.ref 633), some (.int k), x1]) (st' := [.int k, .ref 638]) (M1 := M) 1 (fun n => rfl) ?_
  refine Ev.step 1 (gs_3 rfl rfl (ba_g r638 g1)) ?_
  refine Ev.step (pc' := (if y1 = 0 then 23 else 25)) (ls' := [some (.ref 633), some (.int k), x1]) (st' := []) (M1 := M) 1 (fun n => rfl) ?_
  exact hz
theorem re_23 {e : Nat} {M : Mem} {k : Int32} {x1 : Option Value}  : Ev none (e + 1) 247 23 [some (.ref 633), some (.int k), x1] [] M (some (.int 0)) M 0 0 := by
  refine Ev.step (pc' := 24) (ls' := [some (.ref 633), some (.int k), x1]) (st' := [.int 0]) (M1 := M) 1 (fun n => rfl) ?_
  exact Ev.ret (fun n => rfl)
theorem re_25 {e : Nat} {M : Mem} {M' : Mem} {v : Option Value} {k : Int32} {x1 : Option Value}  (hz : Ev none (e + 1) 247 27 [some (.ref 633), some (.int k), some (.int 0)] [] M v M' 0 0) : Ev none (e + 1) 247 25 [some (.ref 633), some (.int k), x1] [] M v M' 0 0 := by
  refine Ev.step (pc' := 27) (ls' := [some (.ref 633), some (.int k), some (.int 0)]) (st' := []) (M1 := M) 2 (fun n => rfl) ?_
  exact hz
theorem re_27 {e : Nat} {M : Mem} {M' : Mem} {v : Option Value} {i k : Int32}  (hz : Ev none (e + 1) 247 (if 2314 ≤ i then 58 else 34) [some (.ref 633), some (.int k), some (.int i)] [] M v M' 0 0) : Ev none (e + 1) 247 27 [some (.ref 633), some (.int k), some (.int i)] [] M v M' 0 0 := by
  refine Ev.step (pc' := (if 2314 ≤ i then 58 else 34)) (ls' := [some (.ref 633), some (.int k), some (.int i)]) (st' := []) (M1 := M) 3 (fun n => rfl) ?_
  exact hz
theorem re_34 {e : Nat} {M : Mem} {M' : Mem} {v : Option Value} {vs : List Value} {i k y1 y2 : Int32} {l635 l636 : List Int32} (hM : gNth M 633 = some (.inr (11, vs))) (v5 : gNth vs 5 = some (.ref 635)) (v6 : gNth vs 6 = some (.ref 636)) (r636 : gNth M 636 = some (.inl (1, .inl l636))) (g1 : gAt l636 ((2314 * k) + i) = some y1) (r635 : gNth M 635 = some (.inl (1, .inl l635))) (g2 : gAt l635 i = some y2) (hz : Ev none (e + 1) 247 27 [some (.ref 633), some (.int k), some (.int (i + 1))] [] (gPut M 635 (.inl (1, .inl (gPut l635 i.toNatClampNeg y1)))) v M' 0 0) : Ev none (e + 1) 247 34 [some (.ref 633), some (.int k), some (.int i)] [] M v M' 0 0 := by
  refine Ev.step (pc' := 35) (ls' := [some (.ref 633), some (.int k), some (.int i)]) (st' := [.ref 633]) (M1 := M) 1 (fun n => rfl) ?_
  refine Ev.step 1 (gs_3 rfl rfl (gf_g rfl hM v5)) ?_
  refine Ev.step (pc' := 40) (ls' := [some (.ref 633), some (.int k), some (.int i)]) (st' := [.ref 633, .int i, .ref 635]) (M1 := M) 2 (fun n => rfl) ?_
  refine Ev.step 1 (gs_3 rfl rfl (gf_g rfl hM v6)) ?_
  refine Ev.step (pc' := 50) (ls' := [some (.ref 633), some (.int k), some (.int i)]) (st' := [.int ((2314 * k) + i), .ref 636, .int i, .ref 635]) (M1 := M) 5 (fun n => rfl) ?_
  refine Ev.step 1 (gs_3 rfl rfl (ia_g r636 g1)) ?_
  refine Ev.step 1 (gs_4 rfl rfl (is_g r635 g2)) ?_
  refine Ev.step (pc' := 27) (ls' := [some (.ref 633), some (.int k), some (.int (i + 1))]) (st' := []) (M1 := (gPut M 635 (.inl (1, .inl (gPut l635 i.toNatClampNeg y1))))) 2 (fun n => rfl) ?_
  exact hz
theorem re_58 {e : Nat} {M : Mem} {i k : Int32}  : Ev none (e + 1) 247 58 [some (.ref 633), some (.int k), some (.int i)] [] M (some (.int 1)) M 0 0 := by
  refine Ev.step (pc' := 59) (ls' := [some (.ref 633), some (.int k), some (.int i)]) (st' := [.int 1]) (M1 := M) 1 (fun n => rfl) ?_
  exact Ev.ret (fun n => rfl)
theorem sS_eq : gNth sG 63 = some (.inr (1, 2314, .inl sS)) := rfl
set_option maxRecDepth 100000 in
theorem rw_65 : rwB 65 1 2314 (-2147483648) 2147483647 = true := by decide +kernel
set_option maxRecDepth 100000 in
theorem rw_64 : rwB 64 1 6942 (-2147483648) 2147483647 = true := by decide +kernel
set_option maxRecDepth 100000 in
theorem rw_66 : rwB 66 3 3 0 1 = true := by decide +kernel
set_option maxRecDepth 100000 in
theorem mf_cp : (mfB 7 65 && mfB 6 64 && mfB 8 66) = true := by decide +kernel
set_option maxRecDepth 100000 in
theorem sU_cp : gNth sU 65 = some (some 637) ∧ gNth sU 64 = some (some 636) ∧ gNth sU 66 = some (some 638) := by refine ⟨?_, ?_, ?_⟩ <;> decide +kernel
/-- s and the rows that it is laid into -/
theorem TM.cp {M : Mem} (hT : TM sT sG M) : ∃ vs s la lk lb, gNth M 633 = some (.inr (11, vs)) ∧ gNth vs 5 = some (.ref 635) ∧ gNth vs 7 = some (.ref 637) ∧ gNth vs 6 = some (.ref 636) ∧ gNth vs 8 = some (.ref 638) ∧ gNth M 635 = some (.inl (1, .inl s)) ∧ s.length = 2314 ∧ gNth M 637 = some (.inl (1, .inl la)) ∧ la.length = 2314 ∧ gNth M 636 = some (.inl (1, .inl lk)) ∧ lk.length = 6942 ∧ gNth M 638 = some (.inl (3, .inl lb)) ∧ lb.length = 3 ∧ ∀ j x, gNth lb j = some x → 0 ≤ x.toInt ∧ x.toInt ≤ 1 := by
  obtain ⟨vs, s, hM, h5, hs, sl⟩ := hT.s_all
  obtain ⟨vs9, hM9, hv⟩ := hT.mfld
  cases hM.symm.trans hM9
  obtain ⟨h, a3⟩ := and_t mf_cp
  obtain ⟨a1, a2⟩ := and_t h
  obtain ⟨u1, u2, u3⟩ := sU_cp
  obtain ⟨g1, g2, g3, _⟩ := sT_more
  obtain ⟨la, b1, b2, _⟩ := hT.mrow g1 rw_65
  obtain ⟨lk, c1, c2, _⟩ := hT.mrow g2 rw_64
  obtain ⟨lb, d1, d2, d3⟩ := hT.mrow g3 rw_66
  exact ⟨vs, s, la, lk, lb, hM, h5, hv _ _ _ a1 u1, hv _ _ _ a2 u2, hv _ _ _ a3 u3, hs, sl, b1, b2, c1, c2, d1, d2, d3⟩
/-- a copy under way: n places from off on are those of src from so on -/
def CpP (l l0 src : List Int32) (off so n : Nat) : Prop := l.length = l0.length ∧ ∀ i, gNth l i = if off ≤ i ∧ i < off + n then gNth src (so + (i - off)) else gNth l0 i
theorem CpP.zero (l src : List Int32) (off so : Nat) : CpP l l src off so 0 := ⟨rfl, fun i => by rw [if_neg (by omega)]⟩
theorem CpP.step {l l0 src : List Int32} {off so n : Nat} {y : Int32} (h : CpP l l0 src off so n) (hy : gNth src (so + n) = some y) (hl : off + n < l.length) : CpP (gPut l (off + n) y) l0 src off so (n + 1) := by
  refine ⟨by rw [put_len]; exact h.1, fun i => ?_⟩
  rw [nth_put]
  by_cases hi : i = off + n
  · subst hi
    rw [if_pos ⟨rfl, hl⟩, if_pos (by omega), ← hy]
    congr 1
    omega
  · rw [if_neg (fun q => hi q.1), h.2 i]
    by_cases hc : off ≤ i ∧ i < off + n
    · rw [if_pos hc, if_pos (by omega)]
    · rw [if_neg hc, if_neg (by omega)]
theorem CpP.all {l l0 src : List Int32} (h : CpP l l0 src 0 0 2314) (hl : l0.length = 2314) (hs : src.length = 2314) : l = src := by
  refine nthx (fun i => ?_)
  rw [h.2 i]
  by_cases hc : i < 2314
  · rw [if_pos (by omega)]
    congr 1
    omega
  · rw [if_neg (by omega), nth_eq, nth_eq, List.getElem?_eq_none_iff.mpr (by omega), List.getElem?_eq_none_iff.mpr (by omega)]
/-- s as it stands is good -/
theorem TM.good {M : Mem} (hT : TM sT sG M) {l : List Int32} (hM : gNth M 635 = some (.inl (1, .inl l))) (h : evS l ∧ dsS l) : goodS l := by
  obtain ⟨e1, e2, e3⟩ := hT.at sT_635 sS_eq
  rw [hM] at e2
  cases e2
  obtain ⟨l', e5, l1, l2⟩ := ct_int (by decide) e3
  cases e5
  exact ⟨l1, l2, h.1, h.2⟩
theorem TM.s_p {M : Mem} (hT : TM sT sG M) {l : List Int32} (hM : gNth M 635 = some (.inl (1, .inl l))) {i : Nat} {y : Int32} {p : Iv} (hp : sgAt sS i = some p) (h1 : p.1 ≤ y.toInt) (h2 : y.toInt ≤ p.2) : TM sT sG (gPut M 635 (.inl (1, .inl (gPut l i y)))) := by
  obtain ⟨e1, e2, e3⟩ := hT.at sT_635 sS_eq
  rw [hM] at e2
  cases e2
  obtain ⟨l', e5, l1, l2⟩ := ct_int (by decide) e3
  cases e5
  refine hT.put (fun g2 t w1 w2 => ?_)
  rw [sT_635] at w1
  cases w1
  rw [sS_eq] at w2
  cases w2
  refine ct_mk (by decide) (by rw [put_len]; exact l1) (fun j x hj => ?_)
  rw [nth_put] at hj
  split at hj
  · rename_i hc
    cases hj
    obtain ⟨rfl, _⟩ := hc
    exact ⟨p, hp, h1, h2⟩
  · exact l2 j x hj
theorem i32_any (x : Int32) : -2147483648 ≤ x.toInt ∧ x.toInt ≤ 2147483647 := by
  have := i32_lt x
  omega
section LA
variable {M0 : Mem} {e : Nat} {s l0 : List Int32}
set_option maxRecDepth 100000 in
theorem la_loop : ∀ (j inn : Nat) (M : Mem) (i : Int32) (l : List Int32), TM sT sG M → Frm sT [(1065, 0)] M0 M → gNth M 635 = some (.inl (1, .inl s)) → gNth M 637 = some (.inl (1, .inl l)) → CpP l l0 s 0 0 inn → i.toInt = (inn : Int) → inn + j = 2314 → ∃ MF lF, Ev none e 153 2 [some (.ref 633), some (.int i)] [] M none MF 0 0 ∧ TM sT sG MF ∧ Frm sT [(1065, 0)] M0 MF ∧ gNth MF 637 = some (.inl (1, .inl lF)) ∧ CpP lF l0 s 0 0 2314 := by
  intro j
  have o : (2314 : Int32).toInt = 2314 := rfl
  induction j with
  | zero =>
    intro inn M i l hT hF hs ha hc hi hj
    refine ⟨M, l, la_2 ?_, hT, hF, ha, by rw [← show inn = 2314 by omega]; exact hc⟩
    rw [if_pos (by rw [Int32.le_iff_toInt_le, o]; omega)]
    exact la_27
  | succ j ih =>
    intro inn M i l hT hF hs ha hc hi hj
    obtain ⟨vs, s2, la, lk, lb, hM, h5, h7, _, _, hs2, sl, ha2, al, _⟩ := hT.cp
    cases hs.symm.trans hs2
    cases ha.symm.trans ha2
    obtain ⟨y, y1, y2⟩ := at_c (l := s) hi (by omega)
    obtain ⟨z, z1, z2⟩ := at_c (l := l) hi (by omega)
    have p1 : TM sT sG (gPut M 637 (.inl (1, .inl (gPut l inn y)))) := hT.putrow (n := 2314) (lo := -2147483648) (hi := 2147483647) sT_more.1 (by decide +kernel) (by rw [put_len]; exact al) (fun _ x _ => i32_any x)
    have e1 : (i + 1).toInt = i.toInt + 1 := i32_p1 (by omega)
    have hcs := hc.step (y := y) (by rw [Nat.zero_add]; exact y2) (by omega)
    rw [Nat.zero_add] at hcs
    obtain ⟨MF, lF, q1, q2⟩ := ih (inn + 1) _ (i + 1) (gPut l inn y) p1 (hF.trans (Frm.row ha sT_more.1 (List.mem_singleton.mpr rfl))) (by rw [nth_put, if_neg (fun q => absurd q.1 (by decide))]; exact hs) (by rw [nth_put, if_pos ⟨rfl, gNth_lt _ _ _ ha⟩]) hcs (by omega) (by omega)
    refine ⟨MF, lF, la_2 ?_, q2⟩
    rw [if_neg (by rw [Int32.le_iff_toInt_le, o]; omega)]
    refine la_9 hM h7 h5 hs y1 ha z1 ?_
    rw [cl_n hi]
    exact q1
theorem lb_loop {la : List Int32} (hg : goodS la) : ∀ (j inn : Nat) (M : Mem) (i : Int32) (l : List Int32), TM sT sG M → Frm sT [(1063, 0)] M0 M → gNth M 637 = some (.inl (1, .inl la)) → gNth M 635 = some (.inl (1, .inl l)) → CpP l l0 la 0 0 inn → i.toInt = (inn : Int) → inn + j = 2314 → ∃ MF lF, Ev none e 154 2 [some (.ref 633), some (.int i)] [] M none MF 0 0 ∧ TM sT sG MF ∧ Frm sT [(1063, 0)] M0 MF ∧ gNth MF 635 = some (.inl (1, .inl lF)) ∧ CpP lF l0 la 0 0 2314 := by
  intro j
  have o : (2314 : Int32).toInt = 2314 := rfl
  induction j with
  | zero =>
    intro inn M i l hT hF ha hs hc hi hj
    refine ⟨M, l, lb_2 ?_, hT, hF, hs, by rw [← show inn = 2314 by omega]; exact hc⟩
    rw [if_pos (by rw [Int32.le_iff_toInt_le, o]; omega)]
    exact lb_27
  | succ j ih =>
    intro inn M i l hT hF ha hs hc hi hj
    obtain ⟨vs, s2, la2, lk, lb, hM, h5, h7, _, _, hs2, sl, ha2, al, _⟩ := hT.cp
    cases hs.symm.trans hs2
    cases ha.symm.trans ha2
    obtain ⟨y, y1, y2⟩ := at_c (l := la) hi (by omega)
    obtain ⟨z, z1, z2⟩ := at_c (l := l) hi (by omega)
    obtain ⟨p, t1, t2, t3⟩ := hg.2.1 _ _ y2
    have p1 := hT.s_p hs t1 t2 t3
    have e1 : (i + 1).toInt = i.toInt + 1 := i32_p1 (by omega)
    have hcs := hc.step (y := y) (by rw [Nat.zero_add]; exact y2) (by omega)
    rw [Nat.zero_add] at hcs
    obtain ⟨MF, lF, q1, q2⟩ := ih (inn + 1) _ (i + 1) (gPut l inn y) p1 (hF.trans (Frm.row hs sT_635 (List.mem_singleton.mpr rfl))) (by rw [nth_put, if_neg (fun q => absurd q.1 (by decide))]; exact ha) (by rw [nth_put, if_pos ⟨rfl, gNth_lt _ _ _ hs⟩]) hcs (by omega) (by omega)
    refine ⟨MF, lF, lb_2 ?_, q2⟩
    rw [if_neg (by rw [Int32.le_iff_toInt_le, o]; omega)]
    refine lb_9 hM h5 h7 ha y1 hs z1 ?_
    rw [cl_n hi]
    exact q1
end LA
def kX11_layAside : CN := (153, 0, [.inr 1900], [], [(28, [])], [(1065, 0)], [(none, [], [], [(30, [])], [])])
def kX11_layBack : CN := (154, 0, [.inr 1900], [], [(30, [])], [(1063, 0)], [(none, [], [], [(28, [])], [])])
set_option maxRecDepth 100000 in
theorem mR_153 : (gNth mRs 153).map (fun q => q.2.2.2.1) = some 2 := by decide +kernel
set_option maxRecDepth 100000 in
theorem mR_154 : (gNth mRs 154).map (fun q => q.2.2.2.1) = some 2 := by decide +kernel
theorem kX11_layAside_ok : cnOK sT sG FL0 kX11_layAside := by
  intro d M ws q hd hq ha hp hT
  have hm := mR_153
  have hq' : gNth mRs 153 = some q := hq
  rw [hq'] at hm
  have hm : q.2.2.2.1 = 2 := Option.some.inj hm
  rcases ws with _ | ⟨a, _ | ⟨b, r⟩⟩
  · exact ha.elim
  · have k1 : a = .ref 633 := ha.1
    subst k1
    obtain ⟨hv, hv0, hfl⟩ := hp
    obtain ⟨y28, z28, h28⟩ := hfl (28, []) (List.mem_cons_self ..)
    obtain ⟨t2, l2, p1, p2⟩ := fl0_28 h28
    obtain ⟨vs, s, la, lk, lb, hM, h5, h7, _, _, hs, sl, ha2, al, _⟩ := hT.cp
    have hsl : l2 = s := by cases p1.symm.trans hs; rfl
    subst hsl
    have hg := hT.good hs p2
    obtain ⟨MF, lF, q1, q2, q3, q4, q5⟩ := la_loop (M0 := M) (e := d) (s := l2) (l0 := la) 2314 0 M 0 la hT (Frm.refl M) hs ha2 (CpP.zero _ _ _ _) rfl rfl
    have hlF := q5.all al sl
    subst hlF
    rw [hm]
    refine ⟨none, MF, la_0 q1, q2, q3, _, List.mem_cons_self .., ⟨trivial, fun q hq => (by cases hq), [], trivial, fun f hf => ?_, fun q hq => (by cases hq)⟩, cn_D rfl⟩
    cases List.mem_singleton.mp hf
    exact ⟨[], trivial, (show FL0 30 [] MF from ⟨1, _, q4, hg⟩)⟩
  · exact ha.2.elim
theorem kX11_layBack_ok : cnOK sT sG FL0 kX11_layBack := by
  intro d M ws q hd hq ha hp hT
  have hm := mR_154
  have hq' : gNth mRs 154 = some q := hq
  rw [hq'] at hm
  have hm : q.2.2.2.1 = 2 := Option.some.inj hm
  rcases ws with _ | ⟨a, _ | ⟨b, r⟩⟩
  · exact ha.elim
  · have k1 : a = .ref 633 := ha.1
    subst k1
    obtain ⟨hv, hv0, hfl⟩ := hp
    obtain ⟨y28, z28, h28⟩ := hfl (30, []) (List.mem_cons_self ..)
    obtain ⟨t2, l2, p1, p2⟩ := fl0_30 h28
    obtain ⟨vs, s, la, lk, lb, hM, h5, h7, _, _, hs, sl, ha2, al, _⟩ := hT.cp
    have hsl : l2 = la := by cases p1.symm.trans ha2; rfl
    subst hsl
    obtain ⟨MF, lF, q1, q2, q3, q4, q5⟩ := lb_loop (M0 := M) (e := d) (l0 := s) p2 2314 0 M 0 s hT (Frm.refl M) ha2 hs (CpP.zero _ _ _ _) rfl rfl
    have hlF := q5.all sl al
    subst hlF
    rw [hm]
    refine ⟨none, MF, lb_0 q1, q2, q3, _, List.mem_cons_self .., ⟨trivial, fun q hq => (by cases hq), [], trivial, fun f hf => ?_, fun q hq => (by cases hq)⟩, cn_D rfl⟩
    cases List.mem_singleton.mp hf
    exact ⟨[], trivial, (show FL0 28 [] MF from ⟨1, _, q4, p2.2.2⟩)⟩
  · exact ha.2.elim
/-! BY HAND: image and restore of the reference -/
theorem pf_i {M : Mem} {vs : List Value} {ix k ty : Nat} {st : List Value} {ini : Bool} {y : Int32} (ho : gOwn fRs 11 ix = some (11, k, ty)) (hM : gNth M 633 = some (.inr (11, vs))) (hl : k < vs.length) (hf : gFin 11 k = false) (ht : fits (gTy 11 k) (.int y) = true) : gGet (.putfield ix) none 11 ini (.int y :: .ref 633 :: st) M = some (st, gPut M 633 (.inr (11, gPut vs k (.int y)))) := by
  show (match gOwn fRs 11 ix, gNth M 633 with
    | some (ci, k, _), some (.inr (c, fs)) => match Nat.beq c ci && Nat.blt k fs.length && (!gFin ci k || (ini && Nat.beq 11 ci)) && fits (gTy ci k) (.int y) with
      | true => some (st, gPut M 633 (.inr (c, gPut fs k (.int y))))
      | _ => none
    | _, _ => none) = _
  rw [ho, hM]
  show (match Nat.beq 11 11 && Nat.blt k vs.length && (!gFin 11 k || (ini && Nat.beq 11 11)) && fits (gTy 11 k) (.int y) with
      | true => some (st, gPut M 633 (.inr (11, gPut vs k (.int y))))
      | _ => none) = _
  rw [hf, ht, show Nat.blt k vs.length = true from Nat.ble_eq_true_of_le hl]
  rfl
noncomputable def fldB (k : Nat) (lo hi : Int) : Bool := match gNth sG 61 with
  | some (.inl (11, fs)) => Nat.beq fs.length 63 && (match gNth fs k with
    | some (.inl (a, b)) => decide (a = lo) && decide (b = hi)
    | _ => false)
  | _ => false
/-- a field of the Model that is an int: its range; written -/
theorem TM.fint {M : Mem} (hT : TM sT sG M) {k : Nat} {lo hi : Int} (hB : fldB k lo hi = true) : ∃ vs y, gNth M 633 = some (.inr (11, vs)) ∧ vs.length = 63 ∧ gNth vs k = some (.int y) ∧ lo ≤ y.toInt ∧ y.toInt ≤ hi ∧ ∀ z : Int32, lo ≤ z.toInt → z.toInt ≤ hi → TM sT sG (gPut M 633 (.inr (11, gPut vs k (.int z)))) := by
  unfold fldB at hB
  split at hB
  rotate_left
  · cases hB
  rename_i fs e
  obtain ⟨b1, b2⟩ := and_t hB
  split at b2
  rotate_left
  · cases b2
  rename_i a b e2
  obtain ⟨b3, b4⟩ := and_t b2
  cases of_decide_eq_true b3
  cases of_decide_eq_true b4
  obtain ⟨ee, c1, c2⟩ := hT.at sT_633 e
  obtain ⟨vs, rfl, v1, v2⟩ := c2
  obtain ⟨v, w1, y, rfl, y1, y2⟩ := v2 k _ e2
  refine ⟨vs, y, c1, v1.trans (Nat.eq_of_beq_eq_true b1), w1, y1, y2, fun z z1 z2 => hT.put (fun g2 t q1 q2 => ?_)⟩
  rw [sT_633] at q1
  cases q1
  rw [e] at q2
  cases q2
  refine ⟨_, rfl, by rw [put_len]; exact v1, fun j ft hj => ?_⟩
  rw [nth_put]
  by_cases hjk : j = k
  · subst hjk
    rw [e2] at hj
    cases hj
    rw [if_pos ⟨rfl, gNth_lt _ _ _ w1⟩]
    exact ⟨_, rfl, z, rfl, z1, z2⟩
  · rw [if_neg (fun q => hjk q.1)]
    exact v2 j ft hj
set_option maxRecDepth 100000 in
theorem fB_0 : fldB 0 (-2147483648) 2147483647 = true := by decide +kernel
/-- thrown = 0 -/
theorem TM.thr {M : Mem} (hT : TM sT sG M) : ∃ vs, gNth M 633 = some (.inr (11, vs)) ∧ vs.length = 63 ∧ TM sT sG (gPut M 633 (.inr (11, gPut vs 0 (.int 0)))) := by
  obtain ⟨vs, y, h1, h2, _, _, _, h3⟩ := hT.fint fB_0
  exact ⟨vs, h1, h2, h3 0 (by decide) (by decide)⟩
theorem im_0 {e : Nat} {M : Mem} {M' : Mem} {v : Option Value} {vs : List Value} {k : Int32} {x1 : Option Value} (hM : gNth M 633 = some (.inr (11, vs))) (hlen : vs.length = 63) (hz : Ev none (e + 1) 246 8 [some (.ref 633), some (.int k), x1] [.int 2, .int 0, .int k] (gPut M 633 (.inr (11, gPut vs 0 (.int 0)))) v M' 0 0) : Ev none (e + 1) 246 0 [some (.ref 633), some (.int k), x1] [] M v M' 0 0 := by
  refine Ev.step (pc' := 2) (ls' := [some (.ref 633), some (.int k), x1]) (st' := [.int 0, .ref 633]) (M1 := M) 2 (fun n => rfl) ?_
  refine Ev.step 1 (gs_4 rfl rfl (pf_i rfl hM (by rw [hlen]; decide) rfl rfl)) ?_
  refine Ev.step (pc' := 8) (ls' := [some (.ref 633), some (.int k), x1]) (st' := [.int 2, .int 0, .int k]) (M1 := (gPut M 633 (.inr (11, gPut vs 0 (.int 0))))) 3 (fun n => rfl) ?_
  exact hz
theorem re_0 {e : Nat} {M : Mem} {M' : Mem} {v : Option Value} {vs : List Value} {k : Int32} {x1 : Option Value} (hM : gNth M 633 = some (.inr (11, vs))) (hlen : vs.length = 63) (hz : Ev none (e + 1) 247 8 [some (.ref 633), some (.int k), x1] [.int 2, .int 0, .int k] (gPut M 633 (.inr (11, gPut vs 0 (.int 0)))) v M' 0 0) : Ev none (e + 1) 247 0 [some (.ref 633), some (.int k), x1] [] M v M' 0 0 := by
  refine Ev.step (pc' := 2) (ls' := [some (.ref 633), some (.int k), x1]) (st' := [.int 0, .ref 633]) (M1 := M) 2 (fun n => rfl) ?_
  refine Ev.step 1 (gs_4 rfl rfl (pf_i rfl hM (by rw [hlen]; decide) rfl rfl)) ?_
  refine Ev.step (pc' := 8) (ls' := [some (.ref 633), some (.int k), x1]) (st' := [.int 2, .int 0, .int k]) (M1 := (gPut M 633 (.inr (11, gPut vs 0 (.int 0))))) 3 (fun n => rfl) ?_
  exact hz
section IM
variable {M0 : Mem} {e : Nat} {s l0 : List Int32} {k : Int32} {kn : Nat}
theorem i32_kept {k i : Int32} {kn inn : Nat} (hk : k.toInt = (kn : Int)) (hi : i.toInt = (inn : Int)) (k2 : kn ≤ 2) (i2 : inn ≤ 2314) : (2314 * k + i).toInt = ((2314 * kn + inn : Nat) : Int) := by
  have o : (2314 : Int32).toInt = 2314 := rfl
  have d1 : (2314 * k).toInt = 2314 * k.toInt := by
    rw [i32_mul (by rw [o]; omega) (by rw [o]; omega), o]
  rw [i32_add (by rw [d1]; omega) (by rw [d1]; omega), d1]
  omega
set_option maxRecDepth 100000 in
theorem im_loop (hk : k.toInt = (kn : Int)) (k2 : kn ≤ 2) : ∀ (j inn : Nat) (M : Mem) (i : Int32) (l : List Int32), TM sT sG M → Frm sT [(11, 0), (1064, 0), (1066, 0)] M0 M → gNth M 635 = some (.inl (1, .inl s)) → gNth M 636 = some (.inl (1, .inl l)) → CpP l l0 s (2314 * kn) 0 inn → i.toInt = (inn : Int) → inn + j = 2314 → ∃ M1 lF, (∀ v M', Ev none (e + 1) 246 49 [some (.ref 633), some (.int k), some (.int 2314)] [] M1 v M' 0 0 → Ev none (e + 1) 246 18 [some (.ref 633), some (.int k), some (.int i)] [] M v M' 0 0) ∧ TM sT sG M1 ∧ Frm sT [(11, 0), (1064, 0), (1066, 0)] M0 M1 ∧ gNth M1 636 = some (.inl (1, .inl lF)) ∧ CpP lF l0 s (2314 * kn) 0 2314 ∧ gNth M1 638 = gNth M 638 := by
  intro j
  have o : (2314 : Int32).toInt = 2314 := rfl
  induction j with
  | zero =>
    intro inn M i l hT hF hs ha hc hi hj
    have hi2 : i = 2314 := Int32.toInt_inj.mp (by rw [o]; omega)
    subst hi2
    refine ⟨M, l, fun v M' hz => im_18 ?_, hT, hF, ha, (by
      have h9 : inn = 2314 := by omega
      subst h9
      exact hc), rfl⟩
    rw [if_pos (by rw [Int32.le_iff_toInt_le]; omega)]
    exact hz
  | succ j ih =>
    intro inn M i l hT hF hs ha hc hi hj
    obtain ⟨vs, s2, la, lk, lb, hM, h5, _, h6, _, hs2, sl, _, _, ha2, al, _⟩ := hT.cp
    cases hs.symm.trans hs2
    cases ha.symm.trans ha2
    obtain ⟨y, y1, y2⟩ := at_c (l := s) hi (by omega)
    have hik := i32_kept (k := k) (i := i) hk hi k2 (by omega)
    obtain ⟨z, z1, z2⟩ := at_c (l := l) hik (by omega)
    have p1 : TM sT sG (gPut M 636 (.inl (1, .inl (gPut l (2314 * kn + inn) y)))) := hT.putrow (n := 6942) (lo := -2147483648) (hi := 2147483647) sT_more.2.1 (by decide +kernel) (by rw [put_len]; exact al) (fun _ x _ => i32_any x)
    have e1 : (i + 1).toInt = i.toInt + 1 := i32_p1 (by omega)
    have hcs := hc.step (y := y) (by rw [Nat.zero_add]; exact y2) (by omega)
    obtain ⟨M1, lF, q1, q2, q3, q4, q5, q6⟩ := ih (inn + 1) _ (i + 1) _ p1 (hF.trans (Frm.row ha sT_more.2.1 (by decide))) (by rw [nth_put, if_neg (fun q => absurd q.1 (by decide))]; exact hs) (by rw [nth_put, if_pos ⟨rfl, gNth_lt _ _ _ ha⟩]) hcs (by omega) (by omega)
    refine ⟨M1, lF, fun v M' hz => im_18 ?_, q2, q3, q4, q5, by rw [q6, nth_put, if_neg (fun q => absurd q.1 (by decide))]⟩
    rw [if_neg (by rw [Int32.le_iff_toInt_le, o]; omega)]
    refine im_25 hM h6 h5 hs y1 ha z1 ?_
    rw [cl_n hik]
    exact q1 v M' hz
theorem re_loop {lk l2 : List Int32} (hg : goodS l2) (hk : k.toInt = (kn : Int)) (k2 : kn ≤ 2) (hsl : ∀ i : Nat, i < 2314 → gNth lk (2314 * kn + i) = gNth l2 i) (hkl : lk.length = 6942) : ∀ (j inn : Nat) (M : Mem) (i : Int32) (l : List Int32), TM sT sG M → Frm sT [(11, 0), (1063, 0)] M0 M → gNth M 636 = some (.inl (1, .inl lk)) → gNth M 635 = some (.inl (1, .inl l)) → CpP l l0 l2 0 0 inn → i.toInt = (inn : Int) → inn + j = 2314 → ∃ MF lF, Ev none (e + 1) 247 27 [some (.ref 633), some (.int k), some (.int i)] [] M (some (.int 1)) MF 0 0 ∧ TM sT sG MF ∧ Frm sT [(11, 0), (1063, 0)] M0 MF ∧ gNth MF 635 = some (.inl (1, .inl lF)) ∧ CpP lF l0 l2 0 0 2314 := by
  intro j
  have o : (2314 : Int32).toInt = 2314 := rfl
  induction j with
  | zero =>
    intro inn M i l hT hF ha hs hc hi hj
    refine ⟨M, l, re_27 ?_, hT, hF, hs, by rw [← show inn = 2314 by omega]; exact hc⟩
    rw [if_pos (by rw [Int32.le_iff_toInt_le, o]; omega)]
    exact re_58
  | succ j ih =>
    intro inn M i l hT hF ha hs hc hi hj
    obtain ⟨vs, s2, la, lk2, lb, hM, h5, _, h6, _, hs2, sl, _, _, ha2, al, _⟩ := hT.cp
    cases hs.symm.trans hs2
    cases ha.symm.trans ha2
    have hik := i32_kept (k := k) (i := i) hk hi k2 (by omega)
    obtain ⟨y, y1, y2⟩ := at_c (l := lk) hik (by omega)
    rw [hsl inn (by omega)] at y2
    obtain ⟨z, z1, z2⟩ := at_c (l := l) hi (by omega)
    obtain ⟨p, t1, t2, t3⟩ := hg.2.1 _ _ y2
    have p1 := hT.s_p hs t1 t2 t3
    have e1 : (i + 1).toInt = i.toInt + 1 := i32_p1 (by omega)
    have hcs := hc.step (y := y) (by rw [Nat.zero_add]; exact y2) (by omega)
    rw [Nat.zero_add] at hcs
    obtain ⟨MF, lF, q1, q2⟩ := ih (inn + 1) _ (i + 1) (gPut l inn y) p1 (hF.trans (Frm.row hs sT_635 (by decide))) (by rw [nth_put, if_neg (fun q => absurd q.1 (by decide))]; exact ha) (by rw [nth_put, if_pos ⟨rfl, gNth_lt _ _ _ hs⟩]) hcs (by omega) (by omega)
    refine ⟨MF, lF, re_27 ?_, q2⟩
    rw [if_neg (by rw [Int32.le_iff_toInt_le, o]; omega)]
    refine re_34 hM h5 h6 ha y1 hs z1 ?_
    rw [cl_n hi]
    exact q1
end IM
def kX11_image : CN := (246, 1, [.inr 1900, .inl (.negSucc 2147483647, .ofNat 2147483647)], [], [(28, []), (32, [])], [(11, 0), (1064, 0), (1066, 0)], [(some (.inl (.ofNat 0, .ofNat 0)), [(1, (.negSucc 2147483647, .negSucc 0))], [], [(32, [])], []), (some (.inl (.ofNat 0, .ofNat 0)), [(1, (.ofNat 3, .ofNat 2147483647))], [], [(32, [])], []), (some (.inl (.ofNat 1, .ofNat 1)), [(1, (.ofNat 0, .ofNat 2))], [], [(32, [])], [])])
def kX11_restore : CN := (247, 1, [.inr 1900, .inl (.negSucc 2147483647, .ofNat 2147483647)], [], [(28, []), (32, [])], [(11, 0), (1063, 0)], [(some (.inl (.ofNat 0, .ofNat 1)), [], [], [(28, [])], [])])
set_option maxRecDepth 100000 in
theorem mR_246 : (gNth mRs 246).map (fun q => q.2.2.2.1) = some 3 := by decide +kernel
set_option maxRecDepth 100000 in
theorem mR_247 : (gNth mRs 247).map (fun q => q.2.2.2.1) = some 3 := by decide +kernel
theorem isin_01 (x lo hi : Int32) : (if x < lo then (0 : Int32) else if hi < x then 0 else 1) = 0 ∨ (lo ≤ x ∧ x ≤ hi ∧ (if x < lo then (0 : Int32) else if hi < x then 0 else 1) = 1) := by
  by_cases h1 : x < lo
  · rw [if_pos h1]; exact Or.inl rfl
  · rw [if_neg h1]
    by_cases h2 : hi < x
    · rw [if_pos h2]; exact Or.inl rfl
    · rw [if_neg h2]
      rw [Int32.lt_iff_toInt_lt] at h1 h2
      exact Or.inr ⟨Int32.le_iff_toInt_le.mpr (by omega), Int32.le_iff_toInt_le.mpr (by omega), rfl⟩
theorem kX11_image_ok : cnOK sT sG FL0 kX11_image := by
  intro d M ws q hd hq ha hp hT
  have hm := mR_246
  have hq' : gNth mRs 246 = some q := hq
  rw [hq'] at hm
  have hm : q.2.2.2.1 = 3 := Option.some.inj hm
  obtain ⟨e, rfl⟩ : ∃ e, d = e + 1 := ⟨d - 1, by have : 1 ≤ d := hd; omega⟩
  rcases ws with _ | ⟨a, _ | ⟨b, _ | ⟨b2, r⟩⟩⟩
  · exact ha.elim
  · exact ha.2.elim
  · obtain ⟨k1, ⟨k, rfl, _, _⟩, _⟩ := ha
    have k1 : a = .ref 633 := k1
    subst k1
    obtain ⟨hv, hv0, hfl⟩ := hp
    obtain ⟨y28, z28, h28⟩ := hfl (28, []) (List.mem_cons_self ..)
    obtain ⟨y32, z32, h32⟩ := hfl (32, []) (List.mem_cons_of_mem _ (List.mem_cons_self ..))
    obtain ⟨vs, hM, hlen, hT1⟩ := hT.thr
    obtain ⟨M1, e1⟩ : ∃ M1, M1 = gPut M 633 (.inr (11, gPut vs 0 (.int 0))) := ⟨_, rfl⟩
    rw [← e1] at hT1
    have hF1 : Frm sT [(11, 0), (1064, 0), (1066, 0)] M M1 := by rw [e1]; exact Frm.fld hM (by decide)
    have h28 := dp0_frm 0 28 _ _ _ _ hF1 (by decide) h28
    have h32 := dp0_frm 0 32 _ _ _ _ (show Frm sT [(11, 0)] M M1 by rw [e1]; exact Frm.fld hM (by decide)) (by decide) h32
    obtain ⟨t2, l2, p1, p2⟩ := fl0_28 h28
    obtain ⟨t3, t4, l3, l4, p3, p4, p5⟩ := fl0_32 h32
    obtain ⟨vs2, s, la, lk, lb, hM2, h5, h7, h6, h8, hs, sl, ha2, al, hk2, kl, hb2, bl, bx⟩ := hT1.cp
    have hsl : l2 = s := by cases p1.symm.trans hs; rfl
    subst hsl
    have hsl : l3 = lk := by cases p3.symm.trans hk2; rfl
    subst hsl
    have hsl : l4 = lb := by cases p4.symm.trans hb2; rfl
    subst hsl
    have hg := hT1.good hs p2
    rw [hm]
    rcases isin_01 k 0 2 with hz | ⟨k0, k2, hz⟩
    · have kb := i32_lt k
      have hs9 : k.toInt < 0 ∨ 2 < k.toInt := by
        by_cases h1 : k < 0
        · exact Or.inl (by rw [Int32.lt_iff_toInt_lt] at h1; exact h1)
        · by_cases h2 : 2 < k
          · exact Or.inr (by rw [Int32.lt_iff_toInt_lt] at h2; exact h2)
          · rw [if_neg h1, if_neg h2] at hz
            cases hz
      have hcs : ∀ s ∈ kX11_image.2.2.2.2.2.2, (∀ q ∈ s.2.1, ∃ x : Int32, gNth [Value.ref 633, .int k] q.1 = some (.int x) ∧ q.2.1 ≤ x.toInt ∧ x.toInt ≤ q.2.2) → s.1 = some (.inl (.ofNat 0, .ofNat 0)) → s.2.2.1 = [] → s.2.2.2.1 = [(32, [])] → s.2.2.2.2 = [] → csOK sT FL0 [.ref 633, .int k] (some (.int 0)) M1 s := by
        intro s hs g1 g2 g3 g4 g5
        refine ⟨by rw [g2]; exact ⟨0, rfl, by decide, by decide⟩, g1, [], by rw [g3]; trivial, fun f hf => ?_, fun q hq => (by rw [g5] at hq; cases hq)⟩
        rw [g4] at hf
        cases List.mem_singleton.mp hf
        exact ⟨[], trivial, h32⟩
      rcases hs9 with hs9 | hs9
      · exact ⟨some (.int 0), M1, im_0 hM hlen (by rw [← e1]; exact Ev.call0 (fun n => rfl) ev_isin (im_11 (by rw [if_pos hz]; exact im_14))), hT1, hF1, _, List.mem_cons_self .., hcs _ (List.mem_cons_self ..) (fun q hq => by cases List.mem_singleton.mp hq; exact ⟨k, rfl, by show (-2147483648 : Int) ≤ k.toInt; omega, by show k.toInt ≤ (-1 : Int); omega⟩) rfl rfl rfl rfl, cn_D rfl⟩
      · exact ⟨some (.int 0), M1, im_0 hM hlen (by rw [← e1]; exact Ev.call0 (fun n => rfl) ev_isin (im_11 (by rw [if_pos hz]; exact im_14))), hT1, hF1, _, List.mem_cons_of_mem _ (List.mem_cons_self ..), hcs _ (List.mem_cons_of_mem _ (List.mem_cons_self ..)) (fun q hq => by cases List.mem_singleton.mp hq; exact ⟨k, rfl, by show (3 : Int) ≤ k.toInt; omega, by show k.toInt ≤ (2147483647 : Int); omega⟩) rfl rfl rfl rfl, cn_D rfl⟩
    · rw [Int32.le_iff_toInt_le] at k0 k2
      have o2 : (2 : Int32).toInt = 2 := rfl
      have o0 : (0 : Int32).toInt = 0 := rfl
      obtain ⟨kn, hkn⟩ : ∃ kn : Nat, k.toInt = (kn : Int) := ⟨k.toInt.toNat, by omega⟩
      obtain ⟨M2, lF, q1, q2, q3, q4, q5, q6⟩ := im_loop (M0 := M) (e := e) (s := l2) (l0 := l3) hkn (by omega) 2314 0 M1 0 l3 hT1 hF1 hs hk2 (CpP.zero _ _ _ _) rfl rfl
      obtain ⟨vs3, _, _, lk3, lb3, hM3, _, _, _, h83, _, _, _, _, hk3, _, hb3, bl3, bx3⟩ := q2.cp
      rw [hb2] at q6
      have hsl : lb3 = l4 := by cases hb3.symm.trans q6; rfl
      subst hsl
      obtain ⟨y, y1, y2⟩ := at_c (l := lb3) hkn (by omega)
      have hnar : vp_nar .boolean 1 = 1 := rfl
      have hT3 : TM sT sG (gPut M2 638 (.inl (3, .inl (gPut lb3 kn 1)))) := q2.putrow (n := 3) (lo := 0) (hi := 1) sT_more.2.2.1 (by decide +kernel) (by rw [put_len]; exact bl3) (fun j x hj => by
        rw [nth_put] at hj
        split at hj
        · cases hj; decide
        · exact bx3 j x hj)
      refine ⟨some (.int 1), gPut M2 638 (.inl (3, .inl (gPut lb3 kn 1))), im_0 hM hlen (by rw [← e1]; exact Ev.call0 (fun n => rfl) ev_isin (im_11 (by rw [hz, if_neg (by decide)]; exact im_16 (q1 _ _ (by
        have h := im_49 (e := e) (k := k) (i := 2314) hM3 h83 hb3 y1
        rw [hnar, cl_n hkn] at h
        exact h))))), hT3, q3.trans (Frm.row hb3 sT_more.2.2.1 (by decide)), _, List.mem_cons_of_mem _ (List.mem_cons_of_mem _ (List.mem_cons_self ..)), ⟨⟨1, rfl, by decide, by decide⟩, fun q hq => (by cases List.mem_singleton.mp hq; exact ⟨k, rfl, by show (0 : Int) ≤ k.toInt; omega, by show k.toInt ≤ (2 : Int); omega⟩), [], trivial, fun f hf => ?_, fun q hq => (by cases hq)⟩, cn_D rfl⟩
      cases List.mem_singleton.mp hf
      refine ⟨[], trivial, (show FL0 32 [] _ from ⟨1, 3, lF, gPut lb3 kn 1, by rw [nth_put, if_neg (fun q => absurd q.1 (by decide))]; exact q4, by rw [nth_put, if_pos ⟨rfl, gNth_lt _ _ _ hb3⟩], fun kk b hb hb0 => ?_⟩)⟩
      by_cases hkk : kk = kn
      · subst hkk
        refine ⟨l2, hg, fun i hi => ?_⟩
        rw [q5.2, if_pos (by omega)]
        congr 1
        omega
      · rw [nth_put, if_neg (fun q => hkk q.1)] at hb
        obtain ⟨l9, g9, s9⟩ := p5 kk b hb hb0
        refine ⟨l9, g9, fun i hi => ?_⟩
        rw [q5.2, if_neg (by omega)]
        exact s9 i hi
  · exact ha.2.2.elim
theorem kX11_restore_ok : cnOK sT sG FL0 kX11_restore := by
  intro d M ws q hd hq ha hp hT
  have hm := mR_247
  have hq' : gNth mRs 247 = some q := hq
  rw [hq'] at hm
  have hm : q.2.2.2.1 = 3 := Option.some.inj hm
  obtain ⟨e, rfl⟩ : ∃ e, d = e + 1 := ⟨d - 1, by have : 1 ≤ d := hd; omega⟩
  rcases ws with _ | ⟨a, _ | ⟨b, _ | ⟨b2, r⟩⟩⟩
  · exact ha.elim
  · exact ha.2.elim
  · obtain ⟨k1, ⟨k, rfl, _, _⟩, _⟩ := ha
    have k1 : a = .ref 633 := k1
    subst k1
    obtain ⟨hv, hv0, hfl⟩ := hp
    obtain ⟨y28, z28, h28⟩ := hfl (28, []) (List.mem_cons_self ..)
    obtain ⟨y32, z32, h32⟩ := hfl (32, []) (List.mem_cons_of_mem _ (List.mem_cons_self ..))
    obtain ⟨vs, hM, hlen, hT1⟩ := hT.thr
    obtain ⟨M1, e1⟩ : ∃ M1, M1 = gPut M 633 (.inr (11, gPut vs 0 (.int 0))) := ⟨_, rfl⟩
    rw [← e1] at hT1
    have hF1 : Frm sT [(11, 0), (1063, 0)] M M1 := by rw [e1]; exact Frm.fld hM (by decide)
    have hF0 : Frm sT [(11, 0)] M M1 := by rw [e1]; exact Frm.fld hM (by decide)
    have h28 := dp0_frm 0 28 _ _ _ _ hF0 (by decide) h28
    have h32 := dp0_frm 0 32 _ _ _ _ hF0 (by decide) h32
    obtain ⟨t2, l2, p1, p2⟩ := fl0_28 h28
    obtain ⟨t3, t4, l3, l4, p3, p4, p5⟩ := fl0_32 h32
    obtain ⟨vs2, s, la, lk, lb, hM2, h5, h7, h6, h8, hs, sl, ha2, al, hk2, kl, hb2, bl, bx⟩ := hT1.cp
    have hsl : l3 = lk := by cases p3.symm.trans hk2; rfl
    subst hsl
    have hsl : l4 = lb := by cases p4.symm.trans hb2; rfl
    subst hsl
    rw [hm]
    have none_ : (∀ v M', Ev none (e + 1) 247 23 [some (.ref 633), some (.int k), none] [] M1 v M' 0 0 → Ev none (e + 1) 247 0 (gPad 3 (gArgs [.ref 633, .int k])) [] M v M' 0 0) → ∃ v M', Ev none (e + 1) kX11_restore.1 0 (gPad 3 (gArgs [.ref 633, .int k])) [] M v M' 0 0 ∧ TM sT sG M' ∧ Frm sT kX11_restore.2.2.2.2.2.1 M M' ∧ ∃ s ∈ kX11_restore.2.2.2.2.2.2, csOK sT FL0 [.ref 633, .int k] v M' s ∧ dlOK kX11_restore.1 M M' := by
      intro h
      refine ⟨some (.int 0), M1, h _ _ re_23, hT1, hF1, _, List.mem_cons_self .., ⟨⟨0, rfl, by decide, by decide⟩, fun q hq => (by cases hq), [], trivial, fun f hf => ?_, fun q hq => (by cases hq)⟩, cn_D rfl⟩
      cases List.mem_singleton.mp hf
      exact ⟨[], trivial, h28⟩
    rcases isin_01 k 0 2 with hz | ⟨k0, k2, hz⟩
    · exact none_ (fun v M' h => re_0 hM hlen (by rw [← e1]; exact Ev.call0 (fun n => rfl) ev_isin (re_11 (by rw [if_pos hz]; exact h))))
    · rw [Int32.le_iff_toInt_le] at k0 k2
      have o2 : (2 : Int32).toInt = 2 := rfl
      have o0 : (0 : Int32).toInt = 0 := rfl
      obtain ⟨kn, hkn⟩ : ∃ kn : Nat, k.toInt = (kn : Int) := ⟨k.toInt.toNat, by omega⟩
      obtain ⟨y, y1, y2⟩ := at_c (l := l4) hkn (by omega)
      by_cases hy : y = 0
      · exact none_ (fun v M' h => re_0 hM hlen (by rw [← e1]; exact Ev.call0 (fun n => rfl) ev_isin (re_11 (by rw [hz, if_neg (by decide)]; exact re_14 hM2 h8 hb2 y1 (by rw [if_pos hy]; exact h)))))
      · obtain ⟨l9, g9, s9⟩ := p5 kn y y2 hy
        obtain ⟨MF, lF, q1, q2, q3, q4, q5⟩ := re_loop (M0 := M) (e := e) (l0 := s) g9 hkn (by omega) s9 kl 2314 0 M1 0 s hT1 hF1 hk2 hs (CpP.zero _ _ _ _) rfl rfl
        have hlF := q5.all sl g9.1
        subst hlF
        refine ⟨some (.int 1), MF, re_0 hM hlen (by rw [← e1]; exact Ev.call0 (fun n => rfl) ev_isin (re_11 (by rw [hz, if_neg (by decide)]; exact re_14 hM2 h8 hb2 y1 (by rw [if_neg hy]; exact re_25 q1)))), q2, q3, _, List.mem_cons_self .., ⟨⟨1, rfl, by decide, by decide⟩, fun q hq => (by cases hq), [], trivial, fun f hf => ?_, fun q hq => (by cases hq)⟩, cn_D rfl⟩
        cases List.mem_singleton.mp hf
        exact ⟨[], trivial, (show FL0 28 [] MF from ⟨1, _, q4, g9.2.2⟩)⟩
  · exact ha.2.2.elim
/-! BY HAND: door of the reference -/
theorem ce_0 {e : Nat} {M : Mem} {vs : List Value} {y1 y2 : Int32} {l635 : List Int32} (hM : gNth M 633 = some (.inr (11, vs))) (v5 : gNth vs 5 = some (.ref 635)) (r635 : gNth M 635 = some (.inl (1, .inl l635))) (g1 : gAt l635 0 = some y1) (g2 : gAt l635 1 = some y2) : Ev none e 144 0 [some (.ref 633)] [] M (some (.int (y1 * y2))) M 0 0 := by
  refine Ev.step (pc' := 1) (ls' := [some (.ref 633)]) (st' := [.ref 633]) (M1 := M) 1 (fun n => rfl) ?_
  refine Ev.step 1 (gs_3 rfl rfl (gf_g rfl hM v5)) ?_
  refine Ev.step (pc' := 5) (ls' := [some (.ref 633)]) (st' := [.int 0, .ref 635]) (M1 := M) 1 (fun n => rfl) ?_
  refine Ev.step 1 (gs_3 rfl rfl (ia_g r635 g1)) ?_
  refine Ev.step (pc' := 7) (ls' := [some (.ref 633)]) (st' := [.ref 633, .int y1]) (M1 := M) 1 (fun n => rfl) ?_
  refine Ev.step 1 (gs_3 rfl rfl (gf_g rfl hM v5)) ?_
  refine Ev.step (pc' := 11) (ls' := [some (.ref 633)]) (st' := [.int 1, .ref 635, .int y1]) (M1 := M) 1 (fun n => rfl) ?_
  refine Ev.step 1 (gs_3 rfl rfl (ia_g r635 g2)) ?_
  refine Ev.step (pc' := 13) (ls' := [some (.ref 633)]) (st' := [.int (y1 * y2)]) (M1 := M) 1 (fun n => rfl) ?_
  exact Ev.ret (fun n => rfl)
theorem ic_0 {e : Nat} {M : Mem} {M' : Mem} {v : Option Value} {c : Int32}  (hz : Ev none (e + 1) 145 3 [some (.ref 633), some (.int c)] [.ref 633, .int 0, .int c] M v M' 0 0) : Ev none (e + 1) 145 0 [some (.ref 633), some (.int c)] [] M v M' 0 0 := by
  refine Ev.step (pc' := 3) (ls' := [some (.ref 633), some (.int c)]) (st' := [.ref 633, .int 0, .int c]) (M1 := M) 3 (fun n => rfl) ?_
  exact hz
theorem ic_6 {e : Nat} {M : Mem} {M' : Mem} {v : Option Value} {c z : Int32}  (hz : Ev none (e + 1) 145 8 [some (.ref 633), some (.int c)] [.int (z - 1), .int 0, .int c] M v M' 0 0) : Ev none (e + 1) 145 6 [some (.ref 633), some (.int c)] [.int z, .int 0, .int c] M v M' 0 0 := by
  refine Ev.step (pc' := 8) (ls' := [some (.ref 633), some (.int c)]) (st' := [.int (z - 1), .int 0, .int c]) (M1 := M) 2 (fun n => rfl) ?_
  exact hz
theorem ic_11z {e : Nat} {M : Mem} {c : Int32}  : Ev none (e + 1) 145 11 [some (.ref 633), some (.int c)] [.int 0] M (some (.int 0)) M 0 0 := by
  exact Ev.ret (fun n => rfl)
theorem ic_11o {e : Nat} {M : Mem} {c : Int32}  : Ev none (e + 1) 145 11 [some (.ref 633), some (.int c)] [.int 1] M (some (.int 1)) M 0 0 := by
  exact Ev.ret (fun n => rfl)
theorem da_0 {e : Nat} {M : Mem} {M' : Mem} {v : Option Value} {c : Int32} {x1 : Option Value}  (hz : Ev none e 157 2 [some (.ref 633), some (.int c), some (.int 0)] [] M v M' 0 0) : Ev none e 157 0 [some (.ref 633), some (.int c), x1] [] M v M' 0 0 := by
  refine Ev.step (pc' := 2) (ls' := [some (.ref 633), some (.int c), some (.int 0)]) (st' := []) (M1 := M) 2 (fun n => rfl) ?_
  exact hz
theorem da_2 {e : Nat} {M : Mem} {M' : Mem} {v : Option Value} {vs : List Value} {c d y1 : Int32} {l635 : List Int32} (hM : gNth M 633 = some (.inr (11, vs))) (v5 : gNth vs 5 = some (.ref 635)) (r635 : gNth M 635 = some (.inl (1, .inl l635))) (g1 : gAt l635 2 = some y1) (hz : Ev none e 157 (if y1 ≤ d then 32 else 12) [some (.ref 633), some (.int c), some (.int d)] [] M v M' 0 0) : Ev none e 157 2 [some (.ref 633), some (.int c), some (.int d)] [] M v M' 0 0 := by
  refine Ev.step (pc' := 4) (ls' := [some (.ref 633), some (.int c), some (.int d)]) (st' := [.ref 633, .int d]) (M1 := M) 2 (fun n => rfl) ?_
  refine Ev.step 1 (gs_3 rfl rfl (gf_g rfl hM v5)) ?_
  refine Ev.step (pc' := 8) (ls' := [some (.ref 633), some (.int c), some (.int d)]) (st' := [.int 2, .ref 635, .int d]) (M1 := M) 1 (fun n => rfl) ?_
  refine Ev.step 1 (gs_3 rfl rfl (ia_g r635 g1)) ?_
  refine Ev.step (pc' := (if y1 ≤ d then 32 else 12)) (ls' := [some (.ref 633), some (.int c), some (.int d)]) (st' := []) (M1 := M) 1 (fun n => rfl) ?_
  exact hz
theorem da_12 {e : Nat} {M : Mem} {M' : Mem} {v : Option Value} {vs : List Value} {c d y1 : Int32} {l635 : List Int32} (hM : gNth M 633 = some (.inr (11, vs))) (v5 : gNth vs 5 = some (.ref 635)) (r635 : gNth M 635 = some (.inl (1, .inl l635))) (g1 : gAt l635 (3 + d) = some y1) (hz : Ev none e 157 (if y1 = c then 24 else 26) [some (.ref 633), some (.int c), some (.int d)] [] M v M' 0 0) : Ev none e 157 12 [some (.ref 633), some (.int c), some (.int d)] [] M v M' 0 0 := by
  refine Ev.step (pc' := 13) (ls' := [some (.ref 633), some (.int c), some (.int d)]) (st' := [.ref 633]) (M1 := M) 1 (fun n => rfl) ?_
  refine Ev.step 1 (gs_3 rfl rfl (gf_g rfl hM v5)) ?_
  refine Ev.step (pc' := 19) (ls' := [some (.ref 633), some (.int c), some (.int d)]) (st' := [.int (3 + d), .ref 635]) (M1 := M) 3 (fun n => rfl) ?_
  refine Ev.step 1 (gs_3 rfl rfl (ia_g r635 g1)) ?_
  refine Ev.step (pc' := (if y1 = c then 24 else 26)) (ls' := [some (.ref 633), some (.int c), some (.int d)]) (st' := []) (M1 := M) 2 (fun n => rfl) ?_
  exact hz
theorem da_24 {e : Nat} {M : Mem} {c d : Int32}  : Ev none e 157 24 [some (.ref 633), some (.int c), some (.int d)] [] M (some (.int 1)) M 0 0 := by
  refine Ev.step (pc' := 25) (ls' := [some (.ref 633), some (.int c), some (.int d)]) (st' := [.int 1]) (M1 := M) 1 (fun n => rfl) ?_
  exact Ev.ret (fun n => rfl)
theorem da_26 {e : Nat} {M : Mem} {M' : Mem} {v : Option Value} {c d : Int32}  (hz : Ev none e 157 2 [some (.ref 633), some (.int c), some (.int (d + 1))] [] M v M' 0 0) : Ev none e 157 26 [some (.ref 633), some (.int c), some (.int d)] [] M v M' 0 0 := by
  refine Ev.step (pc' := 2) (ls' := [some (.ref 633), some (.int c), some (.int (d + 1))]) (st' := []) (M1 := M) 2 (fun n => rfl) ?_
  exact hz
theorem da_32 {e : Nat} {M : Mem} {c d : Int32}  : Ev none e 157 32 [some (.ref 633), some (.int c), some (.int d)] [] M (some (.int 0)) M 0 0 := by
  refine Ev.step (pc' := 33) (ls' := [some (.ref 633), some (.int c), some (.int d)]) (st' := [.int 0]) (M1 := M) 1 (fun n => rfl) ?_
  exact Ev.ret (fun n => rfl)
theorem dr_0 {e : Nat} {M : Mem} {M' : Mem} {v : Option Value} {vs : List Value} {c : Int32} (hM : gNth M 633 = some (.inr (11, vs))) (hlen : vs.length = 63) (hz : Ev none (e + 2) 156 5 [some (.ref 633), some (.int c)] [] (gPut M 633 (.inr (11, gPut vs 0 (.int 0)))) v M' 0 0) : Ev none (e + 2) 156 0 [some (.ref 633), some (.int c)] [] M v M' 0 0 := by
  refine Ev.step (pc' := 2) (ls' := [some (.ref 633), some (.int c)]) (st' := [.int 0, .ref 633]) (M1 := M) 2 (fun n => rfl) ?_
  refine Ev.step 1 (gs_4 rfl rfl (pf_i rfl hM (by rw [hlen]; decide) rfl rfl)) ?_
  exact hz
theorem dr_5 {e : Nat} {M : Mem} {M' : Mem} {v : Option Value} {vs : List Value} {c y1 : Int32} {l635 : List Int32} (hM : gNth M 633 = some (.inr (11, vs))) (v5 : gNth vs 5 = some (.ref 635)) (r635 : gNth M 635 = some (.inl (1, .inl l635))) (g1 : gAt l635 2 = some y1) (hz : Ev none (e + 2) 156 (if y1 = 9 then 40 else 16) [some (.ref 633), some (.int c)] [] M v M' 0 0) : Ev none (e + 2) 156 5 [some (.ref 633), some (.int c)] [] M v M' 0 0 := by
  refine Ev.step (pc' := 6) (ls' := [some (.ref 633), some (.int c)]) (st' := [.ref 633]) (M1 := M) 1 (fun n => rfl) ?_
  refine Ev.step 1 (gs_3 rfl rfl (gf_g rfl hM v5)) ?_
  refine Ev.step (pc' := 10) (ls' := [some (.ref 633), some (.int c)]) (st' := [.int 2, .ref 635]) (M1 := M) 1 (fun n => rfl) ?_
  refine Ev.step 1 (gs_3 rfl rfl (ia_g r635 g1)) ?_
  refine Ev.step (pc' := (if y1 = 9 then 40 else 16)) (ls' := [some (.ref 633), some (.int c)]) (st' := []) (M1 := M) 2 (fun n => rfl) ?_
  exact hz
theorem dr_16 {e : Nat} {M : Mem} {M' : Mem} {v : Option Value} {c : Int32}  (hz : Ev none (e + 2) 156 18 [some (.ref 633), some (.int c)] [.int c, .ref 633] M v M' 0 0) : Ev none (e + 2) 156 16 [some (.ref 633), some (.int c)] [] M v M' 0 0 := by
  refine Ev.step (pc' := 18) (ls' := [some (.ref 633), some (.int c)]) (st' := [.int c, .ref 633]) (M1 := M) 2 (fun n => rfl) ?_
  exact hz
theorem dr_24 {e : Nat} {M : Mem} {M' : Mem} {v : Option Value} {c : Int32}  (hz : Ev none (e + 2) 156 26 [some (.ref 633), some (.int c)] [.int c, .ref 633] M v M' 0 0) : Ev none (e + 2) 156 24 [some (.ref 633), some (.int c)] [] M v M' 0 0 := by
  refine Ev.step (pc' := 26) (ls' := [some (.ref 633), some (.int c)]) (st' := [.int c, .ref 633]) (M1 := M) 2 (fun n => rfl) ?_
  exact hz
theorem dr_32 {e : Nat} {M : Mem} {M' : Mem} {v : Option Value} {c : Int32}  (hz : Ev none (e + 2) 156 34 [some (.ref 633), some (.int c)] [.int c, .ref 633] M v M' 0 0) : Ev none (e + 2) 156 32 [some (.ref 633), some (.int c)] [] M v M' 0 0 := by
  refine Ev.step (pc' := 34) (ls' := [some (.ref 633), some (.int c)]) (st' := [.int c, .ref 633]) (M1 := M) 2 (fun n => rfl) ?_
  exact hz
theorem dr_40 {e : Nat} {M : Mem} {c : Int32}  : Ev none (e + 2) 156 40 [some (.ref 633), some (.int c)] [] M (some (.int (-1))) M 0 0 := by
  refine Ev.step (pc' := 41) (ls' := [some (.ref 633), some (.int c)]) (st' := [.int (-1)]) (M1 := M) 1 (fun n => rfl) ?_
  exact Ev.ret (fun n => rfl)
theorem dr_42 {e : Nat} {M : Mem} {M' : Mem} {v : Option Value} {vs : List Value} {c y1 y2 : Int32} {l635 : List Int32} (hM : gNth M 633 = some (.inr (11, vs))) (v5 : gNth vs 5 = some (.ref 635)) (r635 : gNth M 635 = some (.inl (1, .inl l635))) (g1 : gAt l635 2 = some y1) (g2 : gAt l635 (3 + y1) = some y2) (hz : Ev none (e + 2) 156 56 [some (.ref 633), some (.int c)] [] (gPut M 635 (.inl (1, .inl (gPut l635 (3 + y1).toNatClampNeg c)))) v M' 0 0) : Ev none (e + 2) 156 42 [some (.ref 633), some (.int c)] [] M v M' 0 0 := by
  refine Ev.step (pc' := 43) (ls' := [some (.ref 633), some (.int c)]) (st' := [.ref 633]) (M1 := M) 1 (fun n => rfl) ?_
  refine Ev.step 1 (gs_3 rfl rfl (gf_g rfl hM v5)) ?_
  refine Ev.step (pc' := 48) (ls' := [some (.ref 633), some (.int c)]) (st' := [.ref 633, .int 3, .ref 635]) (M1 := M) 2 (fun n => rfl) ?_
  refine Ev.step 1 (gs_3 rfl rfl (gf_g rfl hM v5)) ?_
  refine Ev.step (pc' := 52) (ls' := [some (.ref 633), some (.int c)]) (st' := [.int 2, .ref 635, .int 3, .ref 635]) (M1 := M) 1 (fun n => rfl) ?_
  refine Ev.step 1 (gs_3 rfl rfl (ia_g r635 g1)) ?_
  refine Ev.step (pc' := 55) (ls' := [some (.ref 633), some (.int c)]) (st' := [.int c, .int (3 + y1), .ref 635]) (M1 := M) 2 (fun n => rfl) ?_
  refine Ev.step 1 (gs_4 rfl rfl (is_g r635 g2)) ?_
  exact hz
theorem dr_56 {e : Nat} {M : Mem} {M' : Mem} {v : Option Value} {vs : List Value} {c y1 : Int32} {l635 : List Int32} (hM : gNth M 633 = some (.inr (11, vs))) (v5 : gNth vs 5 = some (.ref 635)) (r635 : gNth M 635 = some (.inl (1, .inl l635))) (g1 : gAt l635 2 = some y1) (hz : Ev none (e + 2) 156 66 [some (.ref 633), some (.int c)] [] (gPut M 635 (.inl (1, .inl (gPut l635 (2 : Int32).toNatClampNeg (y1 + 1))))) v M' 0 0) : Ev none (e + 2) 156 56 [some (.ref 633), some (.int c)] [] M v M' 0 0 := by
  refine Ev.step (pc' := 57) (ls' := [some (.ref 633), some (.int c)]) (st' := [.ref 633]) (M1 := M) 1 (fun n => rfl) ?_
  refine Ev.step 1 (gs_3 rfl rfl (gf_g rfl hM v5)) ?_
  refine Ev.step (pc' := 62) (ls' := [some (.ref 633), some (.int c)]) (st' := [.int 2, .ref 635, .int 2, .ref 635]) (M1 := M) 2 (fun n => rfl) ?_
  refine Ev.step 1 (gs_3 rfl rfl (ia_g r635 g1)) ?_
  refine Ev.step (pc' := 65) (ls' := [some (.ref 633), some (.int c)]) (st' := [.int (y1 + 1), .int 2, .ref 635]) (M1 := M) 2 (fun n => rfl) ?_
  refine Ev.step 1 (gs_4 rfl rfl (is_g r635 g1)) ?_
  exact hz
theorem dr_66 {e : Nat} {M : Mem} {vs : List Value} {c y1 : Int32} {l635 : List Int32} (hM : gNth M 633 = some (.inr (11, vs))) (v5 : gNth vs 5 = some (.ref 635)) (r635 : gNth M 635 = some (.inl (1, .inl l635))) (g1 : gAt l635 2 = some y1) : Ev none (e + 2) 156 66 [some (.ref 633), some (.int c)] [] M (some (.int (y1 - 1))) M 0 0 := by
  refine Ev.step (pc' := 67) (ls' := [some (.ref 633), some (.int c)]) (st' := [.ref 633]) (M1 := M) 1 (fun n => rfl) ?_
  refine Ev.step 1 (gs_3 rfl rfl (gf_g rfl hM v5)) ?_
  refine Ev.step (pc' := 71) (ls' := [some (.ref 633), some (.int c)]) (st' := [.int 2, .ref 635]) (M1 := M) 1 (fun n => rfl) ?_
  refine Ev.step 1 (gs_3 rfl rfl (ia_g r635 g1)) ?_
  refine Ev.step (pc' := 74) (ls' := [some (.ref 633), some (.int c)]) (st' := [.int (y1 - 1)]) (M1 := M) 2 (fun n => rfl) ?_
  exact Ev.ret (fun n => rfl)
theorem dr_21 {e : Nat} {M : Mem} {M' : Mem} {v : Option Value} {c z : Int32}  (hz : Ev none (e + 2) 156 (if z = 0 then 40 else 24) [some (.ref 633), some (.int c)] [] M v M' 0 0) : Ev none (e + 2) 156 21 [some (.ref 633), some (.int c)] [.int z] M v M' 0 0 := by
  refine Ev.step (pc' := (if z = 0 then 40 else 24)) (ls' := [some (.ref 633), some (.int c)]) (st' := []) (M1 := M) 1 (fun n => rfl) ?_
  exact hz
theorem dr_29 {e : Nat} {M : Mem} {M' : Mem} {v : Option Value} {c z : Int32}  (hz : Ev none (e + 2) 156 (if z = 0 then 40 else 32) [some (.ref 633), some (.int c)] [] M v M' 0 0) : Ev none (e + 2) 156 29 [some (.ref 633), some (.int c)] [.int z] M v M' 0 0 := by
  refine Ev.step (pc' := (if z = 0 then 40 else 32)) (ls' := [some (.ref 633), some (.int c)]) (st' := []) (M1 := M) 1 (fun n => rfl) ?_
  exact hz
theorem dr_37 {e : Nat} {M : Mem} {M' : Mem} {v : Option Value} {c z : Int32}  (hz : Ev none (e + 2) 156 (if z = 0 then 42 else 40) [some (.ref 633), some (.int c)] [] M v M' 0 0) : Ev none (e + 2) 156 37 [some (.ref 633), some (.int c)] [.int z] M v M' 0 0 := by
  refine Ev.step (pc' := (if z = 0 then 42 else 40)) (ls' := [some (.ref 633), some (.int c)]) (st' := []) (M1 := M) 1 (fun n => rfl) ?_
  exact hz
theorem cal_ce {M : Mem} {vs : List Value} {rest : List Value} (hM : gNth M 633 = some (.inr (11, vs))) (hr : gRoom rest = true) : gCal (.invokevirtual 128) 11 (.ref 633 :: rest) M = some (.inr (144, [some (.ref 633)], rest)) := by
  show @cond (Option ((List Value × Mem) ⊕ (Nat × Lo × List Value))) (true && gRecv M (.ref 633) 11 && gRoom rest && true) (some (.inr (144, [some (.ref 633)], rest))) none = _
  rw [recv_ok hM, hr]
  rfl
theorem cal_ic {M : Mem} {vs : List Value} {a0 : Int32} {rest : List Value} (hM : gNth M 633 = some (.inr (11, vs))) (hr : gRoom rest = true) : gCal (.invokevirtual 155) 11 (.int a0 :: .ref 633 :: rest) M = some (.inr (145, [some (.ref 633), some (.int a0)], rest)) := by
  show @cond (Option ((List Value × Mem) ⊕ (Nat × Lo × List Value))) (true && gRecv M (.ref 633) 11 && gRoom rest && true) (some (.inr (145, [some (.ref 633), some (.int a0)], rest))) none = _
  rw [recv_ok hM, hr]
  rfl
theorem cal_da {M : Mem} {vs : List Value} {a0 : Int32} {rest : List Value} (hM : gNth M 633 = some (.inr (11, vs))) (hr : gRoom rest = true) : gCal (.invokevirtual 161) 11 (.int a0 :: .ref 633 :: rest) M = some (.inr (157, [some (.ref 633), some (.int a0), none], rest)) := by
  show @cond (Option ((List Value × Mem) ⊕ (Nat × Lo × List Value))) (true && gRecv M (.ref 633) 11 && gRoom rest && true) (some (.inr (157, [some (.ref 633), some (.int a0), none], rest))) none = _
  rw [recv_ok hM, hr]
  rfl
theorem ev_cells {M : Mem} {e : Nat} {vs : List Value} {l : List Int32} {w h : Int32} (hM : gNth M 633 = some (.inr (11, vs))) (h5 : gNth vs 5 = some (.ref 635)) (hs : gNth M 635 = some (.inl (1, .inl l))) (h0 : gAt l 0 = some w) (h1 : gAt l 1 = some h) : Ev none e 144 0 [some (.ref 633)] [] M (some (.int (w * h))) M 0 0 := ce_0 hM h5 hs h0 h1
theorem ev_isCell {M : Mem} {e : Nat} {vs : List Value} {l : List Int32} {w h c : Int32} (hM : gNth M 633 = some (.inr (11, vs))) (h5 : gNth vs 5 = some (.ref 635)) (hs : gNth M 635 = some (.inl (1, .inl l))) (h0 : gAt l 0 = some w) (h1 : gAt l 1 = some h) : Ev none (e + 1) 145 0 [some (.ref 633), some (.int c)] [] M (some (.int (if c < 0 then 0 else if w * h - 1 < c then 0 else 1))) M 0 0 := by
  refine ic_0 (Ev.call0 (fun n => gs_7 rfl rfl (cal_ce hM rfl)) (ev_cells hM h5 hs h0 h1) (ic_6 (Ev.call0 (fun n => rfl) ev_isin ?_)))
  by_cases c1 : c < 0
  · rw [if_pos c1]
    exact ic_11z
  · rw [if_neg c1]
    by_cases c2 : w * h - 1 < c
    · rw [if_pos c2]
      exact ic_11z
    · rw [if_neg c2]
      exact ic_11o
theorem ev_isDoorAt {M : Mem} {e : Nat} {vs : List Value} {l : List Int32} {n c : Int32} (hM : gNth M 633 = some (.inr (11, vs))) (h5 : gNth vs 5 = some (.ref 635)) (hs : gNth M 635 = some (.inl (1, .inl l))) (sl : l.length = 2314) (h2 : gAt l 2 = some n) (n0 : 0 ≤ n.toInt) (n9 : n.toInt ≤ 9) : ∃ r : Int32, Ev none e 157 0 [some (.ref 633), some (.int c), none] [] M (some (.int r)) M 0 0 ∧ (r = 0 → ∀ (i : Nat) y, (i : Int) < n.toInt → gNth l (3 + i) = some y → y ≠ c) := by
  have main : ∀ (j dn : Nat) (d : Int32), d.toInt = (dn : Int) → n.toInt ≤ dn + (j : Int) → dn ≤ 9 → (∀ (i : Nat) y, i < dn → gNth l (3 + i) = some y → y ≠ c) → ∃ r : Int32, Ev none e 157 2 [some (.ref 633), some (.int c), some (.int d)] [] M (some (.int r)) M 0 0 ∧ (r = 0 → ∀ (i : Nat) y, (i : Int) < n.toInt → gNth l (3 + i) = some y → y ≠ c) := by
    intro j
    have fin : ∀ (dn : Nat) (d : Int32), d.toInt = (dn : Int) → n ≤ d → (∀ (i : Nat) y, i < dn → gNth l (3 + i) = some y → y ≠ c) → ∃ r : Int32, Ev none e 157 2 [some (.ref 633), some (.int c), some (.int d)] [] M (some (.int r)) M 0 0 ∧ (r = 0 → ∀ (i : Nat) y, (i : Int) < n.toInt → gNth l (3 + i) = some y → y ≠ c) := by
      intro dn d hd hle ho
      refine ⟨0, da_2 hM h5 hs h2 (by rw [if_pos hle]; exact da_32), fun _ i y hi hy => ho i y ?_ hy⟩
      rw [Int32.le_iff_toInt_le] at hle
      omega
    induction j with
    | zero =>
      intro dn d hd hn _ ho
      exact fin dn d hd (by rw [Int32.le_iff_toInt_le]; omega) ho
    | succ j ih =>
      intro dn d hd hn d9 ho
      by_cases hle : n ≤ d
      · exact fin dn d hd hle ho
      have hlt : d.toInt < n.toInt := by rw [Int32.le_iff_toInt_le] at hle; omega
      have o3 : (3 : Int32).toInt = 3 := rfl
      have e3 : (3 + d).toInt = ((3 + dn : Nat) : Int) := by
        rw [i32_add (by rw [o3]; omega) (by rw [o3]; omega), o3]
        omega
      obtain ⟨y, y1, y2⟩ := at_c (l := l) e3 (by omega)
      by_cases hy : y = c
      · exact ⟨1, da_2 hM h5 hs h2 (by rw [if_neg hle]; exact da_12 hM h5 hs y1 (by rw [if_pos hy]; exact da_24)), fun h => absurd h (by decide)⟩
      · have e1 : (d + 1).toInt = d.toInt + 1 := i32_p1 (by omega)
        obtain ⟨r, q1, q2⟩ := ih (dn + 1) (d + 1) (by omega) (by omega) (by omega) (fun i z hi hz => by
          by_cases hid : i = dn
          · subst hid
            cases y2.symm.trans hz
            exact hy
          · exact ho i z (by omega) hz)
        exact ⟨r, da_2 hM h5 hs h2 (by rw [if_neg hle]; exact da_12 hM h5 hs y1 (by rw [if_neg hy]; exact da_26 q1)), q2⟩
  obtain ⟨r, q1, q2⟩ := main 9 0 0 rfl (by omega) (by omega) (fun i y hi => by omega)
  exact ⟨r, da_0 q1, q2⟩
set_option maxRecDepth 100000 in
theorem sB_2 : sB 2 0 9 = true := by decide +kernel
set_option maxRecDepth 100000 in
theorem sB_d : ((List.range 9).all (fun i => sB (3 + i) 0 255)) = true := by decide +kernel
/-- a new door -/
theorem dsS.add {l : List Int32} (h : dsS l) (hl : l.length = 2314) {w hh n c : Int32} (h0 : gNth l 0 = some w) (h1 : gNth l 1 = some hh) (h2 : gNth l 2 = some n) {nn : Nat} (hn : n.toInt = (nn : Int)) (n8 : nn ≤ 8) (c2 : c.toInt < w.toInt * hh.toInt) (hc : ∀ (i : Nat) y, (i : Int) < n.toInt → gNth l (3 + i) = some y → y ≠ c) {n2 : Int32} (e2 : n2.toInt = n.toInt + 1) : dsS (gPut (gPut l (3 + nn) c) 2 n2) := by
  obtain ⟨_, hd⟩ := h w hh n h0 h1 h2
  intro w' h' n' q0 q1 q2
  rw [nth_put, if_neg (by omega), nth_put, if_neg (by omega)] at q0 q1
  rw [nth_put, if_pos ⟨rfl, by rw [put_len]; omega⟩] at q2
  cases h0.symm.trans q0
  cases h1.symm.trans q1
  cases q2
  refine ⟨by omega, fun i j hi hj => ?_⟩
  have get : ∀ i : Nat, (i : Int) < n2.toInt → ∃ a : Int32, gNth (gPut (gPut l (3 + nn) c) 2 n2) (3 + i) = some a ∧ a.toInt < w.toInt * hh.toInt ∧ ((i = nn ∧ a = c) ∨ (i < nn ∧ gNth l (3 + i) = some a)) := by
    intro i hi
    by_cases hin : i = nn
    · subst hin
      exact ⟨c, by rw [nth_put, if_neg (by omega), nth_put, if_pos ⟨rfl, by omega⟩], c2, Or.inl ⟨rfl, rfl⟩⟩
    · obtain ⟨a, b, a1, b1, a2, _⟩ := hd i i (by omega) (by omega)
      exact ⟨a, by rw [nth_put, if_neg (by omega), nth_put, if_neg (by omega)]; exact a1, a2, Or.inr ⟨by omega, a1⟩⟩
  obtain ⟨a, a1, a2, a3⟩ := get i hi
  obtain ⟨b, b1, b2, b3⟩ := get j hj
  refine ⟨a, b, a1, b1, a2, fun hij => ?_⟩
  rcases a3 with ⟨rfl, rfl⟩ | ⟨a3, a4⟩
  · rcases b3 with ⟨rfl, rfl⟩ | ⟨b3, b4⟩
    · exact absurd rfl hij
    · exact fun e => hc j b (by omega) b4 e.symm
  · rcases b3 with ⟨rfl, rfl⟩ | ⟨b3, b4⟩
    · exact hc i a (by omega) a4
    · obtain ⟨x, y, x1, y1, _, xy⟩ := hd i j (by omega) (by omega)
      cases a4.symm.trans x1
      cases b4.symm.trans y1
      exact xy hij
def kX11_door : CN := (156, 2, [.inr 1900, .inl (.negSucc 2147483647, .ofNat 2147483647)], [], [(28, [])], [(11, 0), (1063, 0)], [(some (.inl (.negSucc 0, .ofNat 8)), [], [], [(28, [])], [])])
set_option maxRecDepth 100000 in
theorem mR_156 : (gNth mRs 156).map (fun q => q.2.2.2.1) = some 2 := by decide +kernel
theorem kX11_door_ok : cnOK sT sG FL0 kX11_door := by
  intro d M ws q hd hq ha hp hT
  have hm := mR_156
  have hq' : gNth mRs 156 = some q := hq
  rw [hq'] at hm
  have hm : q.2.2.2.1 = 2 := Option.some.inj hm
  obtain ⟨e, rfl⟩ : ∃ e, d = e + 2 := ⟨d - 2, by have : 2 ≤ d := hd; omega⟩
  rcases ws with _ | ⟨a, _ | ⟨b, _ | ⟨b2, r⟩⟩⟩
  · exact ha.elim
  · exact ha.2.elim
  · obtain ⟨k1, ⟨c, rfl, _, _⟩, _⟩ := ha
    have k1 : a = .ref 633 := k1
    subst k1
    obtain ⟨hv, hv0, hfl⟩ := hp
    obtain ⟨y28, z28, h28⟩ := hfl (28, []) (List.mem_cons_self ..)
    obtain ⟨vs, hM, hlen, hT1⟩ := hT.thr
    obtain ⟨M1, e1⟩ : ∃ M1, M1 = gPut M 633 (.inr (11, gPut vs 0 (.int 0))) := ⟨_, rfl⟩
    rw [← e1] at hT1
    have hF1 : Frm sT [(11, 0), (1063, 0)] M M1 := by rw [e1]; exact Frm.fld hM (by decide)
    have hF0 : Frm sT [(11, 0)] M M1 := by rw [e1]; exact Frm.fld hM (by decide)
    have h28 := dp0_frm 0 28 _ _ _ _ hF0 (by decide) h28
    obtain ⟨t2, l2, p1, p2, p3⟩ := fl0_28 h28
    obtain ⟨vs1, l, w, hh, m1, m2, m3, m4, m5, w1, w2, h1, h2⟩ := hT1.s_ref
    obtain ⟨vs1', l', m1', _, m3', sl⟩ := hT1.s_all
    have el : l' = l := by cases m3.symm.trans m3'; rfl
    subst el
    have el : l2 = l' := by cases p1.symm.trans m3; rfl
    subst el
    have none_ : (∀ v M', Ev none (e + 2) 156 40 [some (.ref 633), some (.int c)] [] M1 v M' 0 0 → Ev none (e + 2) 156 0 (gPad 2 (gArgs [.ref 633, .int c])) [] M v M' 0 0) → ∃ v M', Ev none (e + 2) kX11_door.1 0 (gPad 2 (gArgs [.ref 633, .int c])) [] M v M' 0 0 ∧ TM sT sG M' ∧ Frm sT kX11_door.2.2.2.2.2.1 M M' ∧ ∃ s ∈ kX11_door.2.2.2.2.2.2, csOK sT FL0 [.ref 633, .int c] v M' s ∧ dlOK kX11_door.1 M M' := by
      intro h
      refine ⟨some (.int (-1)), M1, h _ _ dr_40, hT1, hF1, _, List.mem_cons_self .., ⟨⟨-1, rfl, by decide, by decide⟩, fun q hq => (by cases hq), [], trivial, fun f hf => ?_, fun q hq => (by cases hq)⟩, cn_D rfl⟩
      cases List.mem_singleton.mp hf
      exact ⟨[], trivial, h28⟩
    rw [hm]
    have g0 : gNth l2 0 = some w := m4
    have g1 : gNth l2 1 = some hh := m5
    obtain ⟨n, n1, n2⟩ := at_c (l := l2) (j := 2) (kn := 2) rfl (by omega)
    obtain ⟨n0, n9⟩ := hT1.s_in m3 sB_2 n2
    by_cases hn9 : n = 9
    · exact none_ (fun v M' h => dr_0 hM hlen (by rw [← e1]; exact dr_5 m1 m2 m3 n1 (by rw [if_pos hn9]; exact h)))
    have n8 : n.toInt ≤ 8 := by
      rcases Int.lt_or_le n.toInt 9 with h | h
      · omega
      · exact absurd (Int32.toInt_inj.mp (show n.toInt = (9 : Int32).toInt from by show n.toInt = 9; omega)) hn9
    have cc := ev_isCell (e := e) (c := c) m1 m2 m3 m4 m5
    rcases isin_01 c 0 (w * hh - 1) with hz | ⟨c0, c9, hz⟩
    · rw [hz] at cc
      exact none_ (fun v M' h => dr_0 hM hlen (by rw [← e1]; exact dr_5 m1 m2 m3 n1 (by rw [if_neg hn9]; exact dr_16 (Ev.call0 (fun n => gs_7 rfl rfl (cal_ic m1 rfl)) cc (dr_21 (by rw [if_pos rfl]; exact h))))))
    rw [hz] at cc
    rw [Int32.le_iff_toInt_le] at c0 c9
    have o0 : (0 : Int32).toInt = 0 := rfl
    have b1 : w.toInt * hh.toInt ≤ 256 := by
      have := Int.mul_le_mul w2 h2 (by omega) (by omega)
      omega
    have b0 : 16 ≤ w.toInt * hh.toInt := by
      have := Int.mul_le_mul w1 h1 (by omega) (by omega)
      omega
    have wh : (w * hh).toInt = w.toInt * hh.toInt := i32_mul (by omega) (by omega)
    have wh1 : (w * hh - 1).toInt = w.toInt * hh.toInt - 1 := by rw [i32_m1 (by omega), wh]
    obtain ⟨kc, hkc⟩ := cell_k hT1 sl (c := c) (by omega) (by omega)
    have bb := ev_bears (e := e) m1 m2 m3 hkc
    obtain ⟨z, ez⟩ : ∃ z : Int32, z = if kc = 3 then 0 else if kc = 6 then 0 else 1 := ⟨_, rfl⟩
    rw [← ez] at bb
    by_cases hz0 : z = 0
    · exact none_ (fun v M' h => dr_0 hM hlen (by rw [← e1]; exact dr_5 m1 m2 m3 n1 (by rw [if_neg hn9]; exact dr_16 (Ev.call0 (fun n => gs_7 rfl rfl (cal_ic m1 rfl)) cc (dr_21 (by rw [if_neg (by decide)]; exact dr_24 (Ev.call0 (fun n => gs_7 rfl rfl (cal_be m1 rfl)) bb (dr_29 (by rw [if_pos hz0]; exact h)))))))))
    obtain ⟨r, dd, hr⟩ := ev_isDoorAt (e := e + 1) (c := c) m1 m2 m3 sl n1 n0 n9
    by_cases hr0 : ¬ r = 0
    · exact none_ (fun v M' h => dr_0 hM hlen (by rw [← e1]; exact dr_5 m1 m2 m3 n1 (by rw [if_neg hn9]; exact dr_16 (Ev.call0 (fun n => gs_7 rfl rfl (cal_ic m1 rfl)) cc (dr_21 (by rw [if_neg (by decide)]; exact dr_24 (Ev.call0 (fun n => gs_7 rfl rfl (cal_be m1 rfl)) bb (dr_29 (by rw [if_neg hz0]; exact dr_32 (Ev.call0 (fun n => gs_7 rfl rfl (cal_da m1 rfl)) dd (dr_37 (by rw [if_neg hr0]; exact h))))))))))))
    have hr0 : r = 0 := Decidable.not_not.mp hr0
    obtain ⟨nn, hnn⟩ : ∃ nn : Nat, n.toInt = (nn : Int) := ⟨n.toInt.toNat, by omega⟩
    have o3 : (3 : Int32).toInt = 3 := rfl
    have e3 : (3 + n).toInt = ((3 + nn : Nat) : Int) := by
      rw [i32_add (by rw [o3]; omega) (by rw [o3]; omega), o3]
      omega
    obtain ⟨y, y1, y2⟩ := at_c (l := l2) e3 (by omega)
    obtain ⟨n2', en2⟩ : ∃ n2', n2' = n + 1 := ⟨_, rfl⟩
    have dn2 : n2'.toInt = n.toInt + 1 := by rw [en2]; exact i32_p1 (by omega)
    have hB3 := List.all_eq_true.mp sB_d nn (List.mem_range.mpr (by omega))
    have hT2 := hT1.s_1 m3 hB3 (y := c) (by omega) (by omega)
    have m3b : gNth (gPut M1 635 (.inl (1, .inl (gPut l2 (3 + nn) c)))) 635 = some (.inl (1, .inl (gPut l2 (3 + nn) c))) := by
      rw [nth_put, if_pos ⟨rfl, gNth_lt _ _ _ m3⟩]
    have hT3 := hT2.s_1 m3b sB_2 (y := n2') (by omega) (by omega)
    have m3c : gNth (gPut (gPut M1 635 (.inl (1, .inl (gPut l2 (3 + nn) c)))) 635 (.inl (1, .inl (gPut (gPut l2 (3 + nn) c) 2 n2')))) 635 = some (.inl (1, .inl (gPut (gPut l2 (3 + nn) c) 2 n2'))) := by
      rw [nth_put, if_pos ⟨rfl, gNth_lt _ _ _ m3b⟩]
    have hMb : ∀ {x : AE}, gNth (gPut M1 635 x) 633 = some (.inr (11, vs1)) := fun {x} => by rw [nth_put, if_neg (fun q => absurd q.1 (by decide))]; exact m1
    have hMc : ∀ {x y : AE}, gNth (gPut (gPut M1 635 x) 635 y) 633 = some (.inr (11, vs1)) := fun {x y} => by rw [nth_put, if_neg (fun q => absurd q.1 (by decide))]; exact hMb
    have n1b : gAt (gPut l2 (3 + nn) c) 2 = some n := by
      rw [at_nn (kn := 2) rfl, nth_put, if_neg (by omega)]
      exact n2
    have n1c : gAt (gPut (gPut l2 (3 + nn) c) 2 n2') 2 = some n2' := by
      rw [at_nn (kn := 2) rfl, nth_put, if_pos ⟨rfl, by rw [put_len]; omega⟩]
    have d3 : (n2' - 1).toInt = n.toInt := by rw [i32_m1 (by omega), dn2]; omega
    refine ⟨some (.int (n2' - 1)), _, dr_0 hM hlen (by rw [← e1]; exact dr_5 m1 m2 m3 n1 (by rw [if_neg hn9]; exact dr_16 (Ev.call0 (fun n => gs_7 rfl rfl (cal_ic m1 rfl)) cc (dr_21 (by rw [if_neg (by decide)]; exact dr_24 (Ev.call0 (fun n => gs_7 rfl rfl (cal_be m1 rfl)) bb (dr_29 (by rw [if_neg hz0]; exact dr_32 (Ev.call0 (fun n => gs_7 rfl rfl (cal_da m1 rfl)) dd (dr_37 (by rw [if_pos hr0]; exact dr_42 m1 m2 m3 n1 y1 (by
      rw [cl_n e3]
      refine dr_56 hMb m2 m3b n1b ?_
      rw [← en2, cl_n (kn := 2) rfl]
      exact dr_66 hMc m2 m3c n1c)))))))))))), hT3, (hF1.trans (Frm.row m3 sT_635 (by decide))).trans (Frm.row m3b sT_635 (by decide)), _, List.mem_cons_self .., ⟨⟨_, rfl, by show (-1 : Int) ≤ _; omega, by show _ ≤ (8 : Int); omega⟩, fun q hq => (by cases hq), [], trivial, fun f hf => ?_, fun q hq => (by cases hq)⟩, cn_D rfl⟩
    cases List.mem_singleton.mp hf
    exact ⟨[], trivial, (show FL0 28 [] _ from ⟨1, _, m3c, (p2.put (Or.inl (by omega))).put (Or.inl (by omega)), p3.add sl g0 g1 n2 hnn (by omega) (by omega) (hr hr0) dn2⟩)⟩
  · exact ha.2.2.elim
/-! BY HAND: shortest of the reference -/
theorem iw_0 {e : Nat} {M : Mem} {M' : Mem} {v : Option Value} {c : Int32}  (hz : Ev none (e + 1) 150 3 [some (.ref 633), some (.int c)] [.int 3, .int c, .ref 633] M v M' 0 0) : Ev none (e + 1) 150 0 [some (.ref 633), some (.int c)] [] M v M' 0 0 := by
  refine Ev.step (pc' := 3) (ls' := [some (.ref 633), some (.int c)]) (st' := [.int 3, .int c, .ref 633]) (M1 := M) 3 (fun n => rfl) ?_
  exact hz
theorem iw_6 {e : Nat} {M : Mem} {M' : Mem} {v : Option Value} {vs : List Value} {c f28 z : Int32} (hM : gNth M 633 = some (.inr (11, vs))) (v28 : gNth vs 28 = some (.int f28)) (hz : Ev none (e + 1) 150 (if z < f28 then 17 else 13) [some (.ref 633), some (.int c)] [] M v M' 0 0) : Ev none (e + 1) 150 6 [some (.ref 633), some (.int c)] [.int z] M v M' 0 0 := by
  refine Ev.step (pc' := 7) (ls' := [some (.ref 633), some (.int c)]) (st' := [.ref 633, .int z]) (M1 := M) 1 (fun n => rfl) ?_
  refine Ev.step 1 (gs_3 rfl rfl (gf_g rfl hM v28)) ?_
  refine Ev.step (pc' := (if z < f28 then 17 else 13)) (ls' := [some (.ref 633), some (.int c)]) (st' := []) (M1 := M) 1 (fun n => rfl) ?_
  exact hz
theorem iw_13 {e : Nat} {M : Mem} {c : Int32}  : Ev none (e + 1) 150 13 [some (.ref 633), some (.int c)] [] M (some (.int 1)) M 0 0 := by
  refine Ev.step (pc' := 18) (ls' := [some (.ref 633), some (.int c)]) (st' := [.int 1]) (M1 := M) 2 (fun n => rfl) ?_
  exact Ev.ret (fun n => rfl)
theorem iw_17 {e : Nat} {M : Mem} {c : Int32}  : Ev none (e + 1) 150 17 [some (.ref 633), some (.int c)] [] M (some (.int 0)) M 0 0 := by
  refine Ev.step (pc' := 18) (ls' := [some (.ref 633), some (.int c)]) (st' := [.int 0]) (M1 := M) 1 (fun n => rfl) ?_
  exact Ev.ret (fun n => rfl)
theorem sho_0 {e : Nat} {M : Mem} {M' : Mem} {v : Option Value} {a b f : Int32}  (hz : Ev none (e + 3) 227 3 [some (.ref 633), some (.int a), some (.int b), some (.int f), some (.int 0), none, none, none, none] [] M v M' 0 0) : Ev none (e + 3) 227 0 [some (.ref 633), some (.int a), some (.int b), some (.int f), none, none, none, none, none] [] M v M' 0 0 := by
  refine Ev.step (pc' := 3) (ls' := [some (.ref 633), some (.int a), some (.int b), some (.int f), some (.int 0), none, none, none, none]) (st' := []) (M1 := M) 2 (fun n => rfl) ?_
  exact hz
theorem sh_3 {e : Nat} {M : Mem} {M' : Mem} {v : Option Value} {a b c f : Int32} {x5 x6 x7 x8 : Option Value}  (hz : Ev none (e + 3) 227 6 [some (.ref 633), some (.int a), some (.int b), some (.int f), some (.int c), x5, x6, x7, x8] [.ref 633, .int c] M v M' 0 0) : Ev none (e + 3) 227 3 [some (.ref 633), some (.int a), some (.int b), some (.int f), some (.int c), x5, x6, x7, x8] [] M v M' 0 0 := by
  refine Ev.step (pc' := 6) (ls' := [some (.ref 633), some (.int a), some (.int b), some (.int f), some (.int c), x5, x6, x7, x8]) (st' := [.ref 633, .int c]) (M1 := M) 2 (fun n => rfl) ?_
  exact hz
theorem sh_9 {e : Nat} {M : Mem} {M' : Mem} {v : Option Value} {a b c f z : Int32} {x5 x6 x7 x8 : Option Value}  (hz : Ev none (e + 3) 227 (if z ≤ c then 28 else 12) [some (.ref 633), some (.int a), some (.int b), some (.int f), some (.int c), x5, x6, x7, x8] [] M v M' 0 0) : Ev none (e + 3) 227 9 [some (.ref 633), some (.int a), some (.int b), some (.int f), some (.int c), x5, x6, x7, x8] [.int z, .int c] M v M' 0 0 := by
  refine Ev.step (pc' := (if z ≤ c then 28 else 12)) (ls' := [some (.ref 633), some (.int a), some (.int b), some (.int f), some (.int c), x5, x6, x7, x8]) (st' := []) (M1 := M) 1 (fun n => rfl) ?_
  exact hz
theorem sh_12 {e : Nat} {M : Mem} {M' : Mem} {v : Option Value} {vs : List Value} {a b c f y1 : Int32} {l655 : List Int32} {x5 x6 x7 x8 : Option Value} (hM : gNth M 633 = some (.inr (11, vs))) (v48 : gNth vs 48 = some (.ref 655)) (r655 : gNth M 655 = some (.inl (1, .inl l655))) (g1 : gAt l655 c = some y1) (hz : Ev none (e + 3) 227 3 [some (.ref 633), some (.int a), some (.int b), some (.int f), some (.int (c + 1)), x5, x6, x7, x8] [] (gPut M 655 (.inl (1, .inl (gPut l655 c.toNatClampNeg 10000000)))) v M' 0 0) : Ev none (e + 3) 227 12 [some (.ref 633), some (.int a), some (.int b), some (.int f), some (.int c), x5, x6, x7, x8] [] M v M' 0 0 := by
  refine Ev.step (pc' := 13) (ls' := [some (.ref 633), some (.int a), some (.int b), some (.int f), some (.int c), x5, x6, x7, x8]) (st' := [.ref 633]) (M1 := M) 1 (fun n => rfl) ?_
  refine Ev.step 1 (gs_3 rfl rfl (gf_g rfl hM v48)) ?_
  refine Ev.step (pc' := 21) (ls' := [some (.ref 633), some (.int a), some (.int b), some (.int f), some (.int c), x5, x6, x7, x8]) (st' := [.int 10000000, .int c, .ref 655]) (M1 := M) 2 (fun n => rfl) ?_
  refine Ev.step 1 (gs_4 rfl rfl (is_g r655 g1)) ?_
  refine Ev.step (pc' := 3) (ls' := [some (.ref 633), some (.int a), some (.int b), some (.int f), some (.int (c + 1)), x5, x6, x7, x8]) (st' := []) (M1 := (gPut M 655 (.inl (1, .inl (gPut l655 c.toNatClampNeg 10000000))))) 2 (fun n => rfl) ?_
  exact hz
theorem sh_28 {e : Nat} {M : Mem} {M' : Mem} {v : Option Value} {vs : List Value} {a b c f y1 : Int32} {l655 : List Int32} {x5 x6 x7 x8 : Option Value} (hM : gNth M 633 = some (.inr (11, vs))) (v48 : gNth vs 48 = some (.ref 655)) (r655 : gNth M 655 = some (.inl (1, .inl l655))) (g1 : gAt l655 a = some y1) (hz : Ev none (e + 3) 227 38 [some (.ref 633), some (.int a), some (.int b), some (.int f), some (.int 1), x5, x6, x7, x8] [] (gPut M 655 (.inl (1, .inl (gPut l655 a.toNatClampNeg 0)))) v M' 0 0) : Ev none (e + 3) 227 28 [some (.ref 633), some (.int a), some (.int b), some (.int f), some (.int c), x5, x6, x7, x8] [] M v M' 0 0 := by
  refine Ev.step (pc' := 29) (ls' := [some (.ref 633), some (.int a), some (.int b), some (.int f), some (.int c), x5, x6, x7, x8]) (st' := [.ref 633]) (M1 := M) 1 (fun n => rfl) ?_
  refine Ev.step 1 (gs_3 rfl rfl (gf_g rfl hM v48)) ?_
  refine Ev.step (pc' := 34) (ls' := [some (.ref 633), some (.int a), some (.int b), some (.int f), some (.int c), x5, x6, x7, x8]) (st' := [.int 0, .int a, .ref 655]) (M1 := M) 2 (fun n => rfl) ?_
  refine Ev.step 1 (gs_4 rfl rfl (is_g r655 g1)) ?_
  refine Ev.step (pc' := 38) (ls' := [some (.ref 633), some (.int a), some (.int b), some (.int f), some (.int 1), x5, x6, x7, x8]) (st' := []) (M1 := (gPut M 655 (.inl (1, .inl (gPut l655 a.toNatClampNeg 0))))) 2 (fun n => rfl) ?_
  exact hz
theorem sh_38 {e : Nat} {M : Mem} {M' : Mem} {v : Option Value} {a b f mo : Int32} {x5 x6 x7 x8 : Option Value}  (hz : Ev none (e + 3) 227 (if mo = 0 then 201 else 43) [some (.ref 633), some (.int a), some (.int b), some (.int f), some (.int mo), x5, x6, x7, x8] [] M v M' 0 0) : Ev none (e + 3) 227 38 [some (.ref 633), some (.int a), some (.int b), some (.int f), some (.int mo), x5, x6, x7, x8] [] M v M' 0 0 := by
  refine Ev.step (pc' := (if mo = 0 then 201 else 43)) (ls' := [some (.ref 633), some (.int a), some (.int b), some (.int f), some (.int mo), x5, x6, x7, x8]) (st' := []) (M1 := M) 2 (fun n => rfl) ?_
  exact hz
theorem sh_201 {e : Nat} {M : Mem} {vs : List Value} {a b f mo y1 : Int32} {l655 : List Int32} {x5 x6 x7 x8 : Option Value} (hM : gNth M 633 = some (.inr (11, vs))) (v48 : gNth vs 48 = some (.ref 655)) (r655 : gNth M 655 = some (.inl (1, .inl l655))) (g1 : gAt l655 b = some y1) : Ev none (e + 3) 227 201 [some (.ref 633), some (.int a), some (.int b), some (.int f), some (.int mo), x5, x6, x7, x8] [] M (some (.int y1)) M 0 0 := by
  refine Ev.step (pc' := 202) (ls' := [some (.ref 633), some (.int a), some (.int b), some (.int f), some (.int mo), x5, x6, x7, x8]) (st' := [.ref 633]) (M1 := M) 1 (fun n => rfl) ?_
  refine Ev.step 1 (gs_3 rfl rfl (gf_g rfl hM v48)) ?_
  refine Ev.step (pc' := 206) (ls' := [some (.ref 633), some (.int a), some (.int b), some (.int f), some (.int mo), x5, x6, x7, x8]) (st' := [.int b, .ref 655]) (M1 := M) 1 (fun n => rfl) ?_
  refine Ev.step 1 (gs_3 rfl rfl (ia_g r655 g1)) ?_
  exact Ev.ret (fun n => rfl)
theorem sh_43 {e : Nat} {M : Mem} {M' : Mem} {v : Option Value} {a b f mo : Int32} {x5 x6 x7 x8 : Option Value}  (hz : Ev none (e + 3) 227 49 [some (.ref 633), some (.int a), some (.int b), some (.int f), some (.int 0), some (.int 0), x6, x7, x8] [] M v M' 0 0) : Ev none (e + 3) 227 43 [some (.ref 633), some (.int a), some (.int b), some (.int f), some (.int mo), x5, x6, x7, x8] [] M v M' 0 0 := by
  refine Ev.step (pc' := 49) (ls' := [some (.ref 633), some (.int a), some (.int b), some (.int f), some (.int 0), some (.int 0), x6, x7, x8]) (st' := []) (M1 := M) 4 (fun n => rfl) ?_
  exact hz
theorem sh_49 {e : Nat} {M : Mem} {M' : Mem} {v : Option Value} {a b c f mo : Int32} {x6 x7 x8 : Option Value}  (hz : Ev none (e + 3) 227 52 [some (.ref 633), some (.int a), some (.int b), some (.int f), some (.int mo), some (.int c), x6, x7, x8] [.ref 633, .int c] M v M' 0 0) : Ev none (e + 3) 227 49 [some (.ref 633), some (.int a), some (.int b), some (.int f), some (.int mo), some (.int c), x6, x7, x8] [] M v M' 0 0 := by
  refine Ev.step (pc' := 52) (ls' := [some (.ref 633), some (.int a), some (.int b), some (.int f), some (.int mo), some (.int c), x6, x7, x8]) (st' := [.ref 633, .int c]) (M1 := M) 2 (fun n => rfl) ?_
  exact hz
theorem sh_55 {e : Nat} {M : Mem} {M' : Mem} {v : Option Value} {a b c f mo z : Int32} {x6 x7 x8 : Option Value}  (hz : Ev none (e + 3) 227 (if z ≤ c then 198 else 58) [some (.ref 633), some (.int a), some (.int b), some (.int f), some (.int mo), some (.int c), x6, x7, x8] [] M v M' 0 0) : Ev none (e + 3) 227 55 [some (.ref 633), some (.int a), some (.int b), some (.int f), some (.int mo), some (.int c), x6, x7, x8] [.int z, .int c] M v M' 0 0 := by
  refine Ev.step (pc' := (if z ≤ c then 198 else 58)) (ls' := [some (.ref 633), some (.int a), some (.int b), some (.int f), some (.int mo), some (.int c), x6, x7, x8]) (st' := []) (M1 := M) 1 (fun n => rfl) ?_
  exact hz
theorem sh_198 {e : Nat} {M : Mem} {M' : Mem} {v : Option Value} {a b c f mo : Int32} {x6 x7 x8 : Option Value}  (hz : Ev none (e + 3) 227 38 [some (.ref 633), some (.int a), some (.int b), some (.int f), some (.int mo), some (.int c), x6, x7, x8] [] M v M' 0 0) : Ev none (e + 3) 227 198 [some (.ref 633), some (.int a), some (.int b), some (.int f), some (.int mo), some (.int c), x6, x7, x8] [] M v M' 0 0 := by
  refine Ev.step (pc' := 38) (ls' := [some (.ref 633), some (.int a), some (.int b), some (.int f), some (.int mo), some (.int c), x6, x7, x8]) (st' := []) (M1 := M) 1 (fun n => rfl) ?_
  exact hz
theorem sh_58 {e : Nat} {M : Mem} {M' : Mem} {v : Option Value} {a b c f mo : Int32} {x6 x7 x8 : Option Value}  (hz : Ev none (e + 3) 227 61 [some (.ref 633), some (.int a), some (.int b), some (.int f), some (.int mo), some (.int c), x6, x7, x8] [.int c, .ref 633] M v M' 0 0) : Ev none (e + 3) 227 58 [some (.ref 633), some (.int a), some (.int b), some (.int f), some (.int mo), some (.int c), x6, x7, x8] [] M v M' 0 0 := by
  refine Ev.step (pc' := 61) (ls' := [some (.ref 633), some (.int a), some (.int b), some (.int f), some (.int mo), some (.int c), x6, x7, x8]) (st' := [.int c, .ref 633]) (M1 := M) 2 (fun n => rfl) ?_
  exact hz
theorem sh_64 {e : Nat} {M : Mem} {M' : Mem} {v : Option Value} {a b c f mo z : Int32} {x6 x7 x8 : Option Value}  (hz : Ev none (e + 3) 227 (if z = 0 then 192 else 67) [some (.ref 633), some (.int a), some (.int b), some (.int f), some (.int mo), some (.int c), x6, x7, x8] [] M v M' 0 0) : Ev none (e + 3) 227 64 [some (.ref 633), some (.int a), some (.int b), some (.int f), some (.int mo), some (.int c), x6, x7, x8] [.int z] M v M' 0 0 := by
  refine Ev.step (pc' := (if z = 0 then 192 else 67)) (ls' := [some (.ref 633), some (.int a), some (.int b), some (.int f), some (.int mo), some (.int c), x6, x7, x8]) (st' := []) (M1 := M) 1 (fun n => rfl) ?_
  exact hz
theorem sh_67 {e : Nat} {M : Mem} {M' : Mem} {v : Option Value} {a b c f mo : Int32} {x6 x7 x8 : Option Value}  (hz : Ev none (e + 3) 227 (if f = 0 then 104 else 71) [some (.ref 633), some (.int a), some (.int b), some (.int f), some (.int mo), some (.int c), x6, x7, x8] [] M v M' 0 0) : Ev none (e + 3) 227 67 [some (.ref 633), some (.int a), some (.int b), some (.int f), some (.int mo), some (.int c), x6, x7, x8] [] M v M' 0 0 := by
  refine Ev.step (pc' := (if f = 0 then 104 else 71)) (ls' := [some (.ref 633), some (.int a), some (.int b), some (.int f), some (.int mo), some (.int c), x6, x7, x8]) (st' := []) (M1 := M) 2 (fun n => rfl) ?_
  exact hz
theorem sh_71 {e : Nat} {M : Mem} {M' : Mem} {v : Option Value} {a b c f mo : Int32} {x6 x7 x8 : Option Value}  (hz : Ev none (e + 3) 227 (if c = a then 104 else 77) [some (.ref 633), some (.int a), some (.int b), some (.int f), some (.int mo), some (.int c), x6, x7, x8] [] M v M' 0 0) : Ev none (e + 3) 227 71 [some (.ref 633), some (.int a), some (.int b), some (.int f), some (.int mo), some (.int c), x6, x7, x8] [] M v M' 0 0 := by
  refine Ev.step (pc' := (if c = a then 104 else 77)) (ls' := [some (.ref 633), some (.int a), some (.int b), some (.int f), some (.int mo), some (.int c), x6, x7, x8]) (st' := []) (M1 := M) 3 (fun n => rfl) ?_
  exact hz
theorem sh_77 {e : Nat} {M : Mem} {M' : Mem} {v : Option Value} {a b c f mo : Int32} {x6 x7 x8 : Option Value}  (hz : Ev none (e + 3) 227 (if c = b then 104 else 83) [some (.ref 633), some (.int a), some (.int b), some (.int f), some (.int mo), some (.int c), x6, x7, x8] [] M v M' 0 0) : Ev none (e + 3) 227 77 [some (.ref 633), some (.int a), some (.int b), some (.int f), some (.int mo), some (.int c), x6, x7, x8] [] M v M' 0 0 := by
  refine Ev.step (pc' := (if c = b then 104 else 83)) (ls' := [some (.ref 633), some (.int a), some (.int b), some (.int f), some (.int mo), some (.int c), x6, x7, x8]) (st' := []) (M1 := M) 3 (fun n => rfl) ?_
  exact hz
theorem sh_83 {e : Nat} {M : Mem} {M' : Mem} {v : Option Value} {a b c f mo : Int32} {x6 x7 x8 : Option Value}  (hz : Ev none (e + 3) 227 86 [some (.ref 633), some (.int a), some (.int b), some (.int f), some (.int mo), some (.int c), x6, x7, x8] [.int c, .ref 633] M v M' 0 0) : Ev none (e + 3) 227 83 [some (.ref 633), some (.int a), some (.int b), some (.int f), some (.int mo), some (.int c), x6, x7, x8] [] M v M' 0 0 := by
  refine Ev.step (pc' := 86) (ls' := [some (.ref 633), some (.int a), some (.int b), some (.int f), some (.int mo), some (.int c), x6, x7, x8]) (st' := [.int c, .ref 633]) (M1 := M) 2 (fun n => rfl) ?_
  exact hz
theorem sh_89 {e : Nat} {M : Mem} {M' : Mem} {v : Option Value} {a b c f mo z : Int32} {x6 x7 x8 : Option Value}  (hz : Ev none (e + 3) 227 (if z = 0 then 104 else 92) [some (.ref 633), some (.int a), some (.int b), some (.int f), some (.int mo), some (.int c), x6, x7, x8] [] M v M' 0 0) : Ev none (e + 3) 227 89 [some (.ref 633), some (.int a), some (.int b), some (.int f), some (.int mo), some (.int c), x6, x7, x8] [.int z] M v M' 0 0 := by
  refine Ev.step (pc' := (if z = 0 then 104 else 92)) (ls' := [some (.ref 633), some (.int a), some (.int b), some (.int f), some (.int mo), some (.int c), x6, x7, x8]) (st' := []) (M1 := M) 1 (fun n => rfl) ?_
  exact hz
theorem sh_92 {e : Nat} {M : Mem} {M' : Mem} {v : Option Value} {a b c f mo : Int32} {x6 x7 x8 : Option Value}  (hz : Ev none (e + 3) 227 95 [some (.ref 633), some (.int a), some (.int b), some (.int f), some (.int mo), some (.int c), x6, x7, x8] [.int c, .ref 633] M v M' 0 0) : Ev none (e + 3) 227 92 [some (.ref 633), some (.int a), some (.int b), some (.int f), some (.int mo), some (.int c), x6, x7, x8] [] M v M' 0 0 := by
  refine Ev.step (pc' := 95) (ls' := [some (.ref 633), some (.int a), some (.int b), some (.int f), some (.int mo), some (.int c), x6, x7, x8]) (st' := [.int c, .ref 633]) (M1 := M) 2 (fun n => rfl) ?_
  exact hz
theorem sh_98 {e : Nat} {M : Mem} {M' : Mem} {v : Option Value} {a b c f mo z : Int32} {x6 x7 x8 : Option Value}  (hz : Ev none (e + 3) 227 (if z = 0 then 101 else 104) [some (.ref 633), some (.int a), some (.int b), some (.int f), some (.int mo), some (.int c), x6, x7, x8] [] M v M' 0 0) : Ev none (e + 3) 227 98 [some (.ref 633), some (.int a), some (.int b), some (.int f), some (.int mo), some (.int c), x6, x7, x8] [.int z] M v M' 0 0 := by
  refine Ev.step (pc' := (if z = 0 then 101 else 104)) (ls' := [some (.ref 633), some (.int a), some (.int b), some (.int f), some (.int mo), some (.int c), x6, x7, x8]) (st' := []) (M1 := M) 1 (fun n => rfl) ?_
  exact hz
theorem sh_101 {e : Nat} {M : Mem} {M' : Mem} {v : Option Value} {a b c f mo : Int32} {x6 x7 x8 : Option Value}  (hz : Ev none (e + 3) 227 192 [some (.ref 633), some (.int a), some (.int b), some (.int f), some (.int mo), some (.int c), x6, x7, x8] [] M v M' 0 0) : Ev none (e + 3) 227 101 [some (.ref 633), some (.int a), some (.int b), some (.int f), some (.int mo), some (.int c), x6, x7, x8] [] M v M' 0 0 := by
  refine Ev.step (pc' := 192) (ls' := [some (.ref 633), some (.int a), some (.int b), some (.int f), some (.int mo), some (.int c), x6, x7, x8]) (st' := []) (M1 := M) 1 (fun n => rfl) ?_
  exact hz
theorem sh_104 {e : Nat} {M : Mem} {M' : Mem} {v : Option Value} {a b c f mo : Int32} {x6 x7 x8 : Option Value}  (hz : Ev none (e + 3) 227 107 [some (.ref 633), some (.int a), some (.int b), some (.int f), some (.int mo), some (.int c), some (.int 0), x7, x8] [] M v M' 0 0) : Ev none (e + 3) 227 104 [some (.ref 633), some (.int a), some (.int b), some (.int f), some (.int mo), some (.int c), x6, x7, x8] [] M v M' 0 0 := by
  refine Ev.step (pc' := 107) (ls' := [some (.ref 633), some (.int a), some (.int b), some (.int f), some (.int mo), some (.int c), some (.int 0), x7, x8]) (st' := []) (M1 := M) 2 (fun n => rfl) ?_
  exact hz
theorem sh_107 {e : Nat} {M : Mem} {M' : Mem} {v : Option Value} {a b c d f mo : Int32} {x7 x8 : Option Value}  (hz : Ev none (e + 3) 227 (if 8 ≤ d then 192 else 114) [some (.ref 633), some (.int a), some (.int b), some (.int f), some (.int mo), some (.int c), some (.int d), x7, x8] [] M v M' 0 0) : Ev none (e + 3) 227 107 [some (.ref 633), some (.int a), some (.int b), some (.int f), some (.int mo), some (.int c), some (.int d), x7, x8] [] M v M' 0 0 := by
  refine Ev.step (pc' := (if 8 ≤ d then 192 else 114)) (ls' := [some (.ref 633), some (.int a), some (.int b), some (.int f), some (.int mo), some (.int c), some (.int d), x7, x8]) (st' := []) (M1 := M) 3 (fun n => rfl) ?_
  exact hz
theorem sh_192 {e : Nat} {M : Mem} {M' : Mem} {v : Option Value} {a b c f mo : Int32} {x6 x7 x8 : Option Value}  (hz : Ev none (e + 3) 227 49 [some (.ref 633), some (.int a), some (.int b), some (.int f), some (.int mo), some (.int (c + 1)), x6, x7, x8] [] M v M' 0 0) : Ev none (e + 3) 227 192 [some (.ref 633), some (.int a), some (.int b), some (.int f), some (.int mo), some (.int c), x6, x7, x8] [] M v M' 0 0 := by
  refine Ev.step (pc' := 49) (ls' := [some (.ref 633), some (.int a), some (.int b), some (.int f), some (.int mo), some (.int (c + 1)), x6, x7, x8]) (st' := []) (M1 := M) 2 (fun n => rfl) ?_
  exact hz
theorem sh_114 {e : Nat} {M : Mem} {M' : Mem} {v : Option Value} {a b c d f mo : Int32} {x7 x8 : Option Value}  (hz : Ev none (e + 3) 227 119 [some (.ref 633), some (.int a), some (.int b), some (.int f), some (.int mo), some (.int c), some (.int d), x7, x8] [.int d, .int c, .ref 633] M v M' 0 0) : Ev none (e + 3) 227 114 [some (.ref 633), some (.int a), some (.int b), some (.int f), some (.int mo), some (.int c), some (.int d), x7, x8] [] M v M' 0 0 := by
  refine Ev.step (pc' := 119) (ls' := [some (.ref 633), some (.int a), some (.int b), some (.int f), some (.int mo), some (.int c), some (.int d), x7, x8]) (st' := [.int d, .int c, .ref 633]) (M1 := M) 3 (fun n => rfl) ?_
  exact hz
theorem sh_122 {e : Nat} {M : Mem} {M' : Mem} {v : Option Value} {a b c d f mo z : Int32} {x7 x8 : Option Value}  (hz : Ev none (e + 3) 227 (if 0 ≤ z then 135 else 129) [some (.ref 633), some (.int a), some (.int b), some (.int f), some (.int mo), some (.int c), some (.int d), some (.int z), x8] [] M v M' 0 0) : Ev none (e + 3) 227 122 [some (.ref 633), some (.int a), some (.int b), some (.int f), some (.int mo), some (.int c), some (.int d), x7, x8] [.int z] M v M' 0 0 := by
  refine Ev.step (pc' := (if 0 ≤ z then 135 else 129)) (ls' := [some (.ref 633), some (.int a), some (.int b), some (.int f), some (.int mo), some (.int c), some (.int d), some (.int z), x8]) (st' := []) (M1 := M) 3 (fun n => rfl) ?_
  exact hz
theorem sh_129 {e : Nat} {M : Mem} {M' : Mem} {v : Option Value} {a b c d f mo o : Int32} {x8 : Option Value}  (hz : Ev none (e + 3) 227 157 [some (.ref 633), some (.int a), some (.int b), some (.int f), some (.int mo), some (.int c), some (.int d), some (.int o), x8] [.int 10000000] M v M' 0 0) : Ev none (e + 3) 227 129 [some (.ref 633), some (.int a), some (.int b), some (.int f), some (.int mo), some (.int c), some (.int d), some (.int o), x8] [] M v M' 0 0 := by
  refine Ev.step (pc' := 157) (ls' := [some (.ref 633), some (.int a), some (.int b), some (.int f), some (.int mo), some (.int c), some (.int d), some (.int o), x8]) (st' := [.int 10000000]) (M1 := M) 2 (fun n => rfl) ?_
  exact hz
theorem sh_135 {e : Nat} {M : Mem} {M' : Mem} {v : Option Value} {vs : List Value} {a b c d f mo o y1 : Int32} {l655 : List Int32} {x8 : Option Value} (hM : gNth M 633 = some (.inr (11, vs))) (v48 : gNth vs 48 = some (.ref 655)) (r655 : gNth M 655 = some (.inl (1, .inl l655))) (g1 : gAt l655 o = some y1) (hz : Ev none (e + 3) 227 (if (d - d / 2 * 2) = 0 then 149 else 154) [some (.ref 633), some (.int a), some (.int b), some (.int f), some (.int mo), some (.int c), some (.int d), some (.int o), x8] [.int y1] M v M' 0 0) : Ev none (e + 3) 227 135 [some (.ref 633), some (.int a), some (.int b), some (.int f), some (.int mo), some (.int c), some (.int d), some (.int o), x8] [] M v M' 0 0 := by
  refine Ev.step (pc' := 136) (ls' := [some (.ref 633), some (.int a), some (.int b), some (.int f), some (.int mo), some (.int c), some (.int d), some (.int o), x8]) (st' := [.ref 633]) (M1 := M) 1 (fun n => rfl) ?_
  refine Ev.step 1 (gs_3 rfl rfl (gf_g rfl hM v48)) ?_
  refine Ev.step (pc' := 141) (ls' := [some (.ref 633), some (.int a), some (.int b), some (.int f), some (.int mo), some (.int c), some (.int d), some (.int o), x8]) (st' := [.int o, .ref 655]) (M1 := M) 1 (fun n => rfl) ?_
  refine Ev.step 1 (gs_3 rfl rfl (ia_g r655 g1)) ?_
  refine Ev.step (pc' := 145) (ls' := [some (.ref 633), some (.int a), some (.int b), some (.int f), some (.int mo), some (.int c), some (.int d), some (.int o), x8]) (st' := [.int 2, .int d, .int y1]) (M1 := M) 2 (fun n => rfl) ?_
  refine Ev.step (pc' := (if (d - d / 2 * 2) = 0 then 149 else 154)) (ls' := [some (.ref 633), some (.int a), some (.int b), some (.int f), some (.int mo), some (.int c), some (.int d), some (.int o), x8]) (st' := [.int y1]) (M1 := M) 2 (fun n => rfl) ?_
  exact hz
theorem sh_149 {e : Nat} {M : Mem} {M' : Mem} {v : Option Value} {a b c d f mo o y : Int32} {x8 : Option Value}  (hz : Ev none (e + 3) 227 157 [some (.ref 633), some (.int a), some (.int b), some (.int f), some (.int mo), some (.int c), some (.int d), some (.int o), x8] [.int (y + 10)] M v M' 0 0) : Ev none (e + 3) 227 149 [some (.ref 633), some (.int a), some (.int b), some (.int f), some (.int mo), some (.int c), some (.int d), some (.int o), x8] [.int y] M v M' 0 0 := by
  refine Ev.step (pc' := 157) (ls' := [some (.ref 633), some (.int a), some (.int b), some (.int f), some (.int mo), some (.int c), some (.int d), some (.int o), x8]) (st' := [.int (y + 10)]) (M1 := M) 3 (fun n => rfl) ?_
  exact hz
theorem sh_154 {e : Nat} {M : Mem} {M' : Mem} {v : Option Value} {a b c d f mo o y : Int32} {x8 : Option Value}  (hz : Ev none (e + 3) 227 157 [some (.ref 633), some (.int a), some (.int b), some (.int f), some (.int mo), some (.int c), some (.int d), some (.int o), x8] [.int (y + 14)] M v M' 0 0) : Ev none (e + 3) 227 154 [some (.ref 633), some (.int a), some (.int b), some (.int f), some (.int mo), some (.int c), some (.int d), some (.int o), x8] [.int y] M v M' 0 0 := by
  refine Ev.step (pc' := 157) (ls' := [some (.ref 633), some (.int a), some (.int b), some (.int f), some (.int mo), some (.int c), some (.int d), some (.int o), x8]) (st' := [.int (y + 14)]) (M1 := M) 2 (fun n => rfl) ?_
  exact hz
theorem sh_157 {e : Nat} {M : Mem} {M' : Mem} {v : Option Value} {vs : List Value} {a b c d f mo o y y1 : Int32} {l655 : List Int32} {x8 : Option Value} (hM : gNth M 633 = some (.inr (11, vs))) (v48 : gNth vs 48 = some (.ref 655)) (r655 : gNth M 655 = some (.inl (1, .inl l655))) (g1 : gAt l655 c = some y1) (hz : Ev none (e + 3) 227 (if y < y1 then 174 else 171) [some (.ref 633), some (.int a), some (.int b), some (.int f), some (.int mo), some (.int c), some (.int d), some (.int o), some (.int y)] [] M v M' 0 0) : Ev none (e + 3) 227 157 [some (.ref 633), some (.int a), some (.int b), some (.int f), some (.int mo), some (.int c), some (.int d), some (.int o), x8] [.int y] M v M' 0 0 := by
  refine Ev.step (pc' := 162) (ls' := [some (.ref 633), some (.int a), some (.int b), some (.int f), some (.int mo), some (.int c), some (.int d), some (.int o), some (.int y)]) (st' := [.ref 633, .int y]) (M1 := M) 3 (fun n => rfl) ?_
  refine Ev.step 1 (gs_3 rfl rfl (gf_g rfl hM v48)) ?_
  refine Ev.step (pc' := 167) (ls' := [some (.ref 633), some (.int a), some (.int b), some (.int f), some (.int mo), some (.int c), some (.int d), some (.int o), some (.int y)]) (st' := [.int c, .ref 655, .int y]) (M1 := M) 1 (fun n => rfl) ?_
  refine Ev.step 1 (gs_3 rfl rfl (ia_g r655 g1)) ?_
  refine Ev.step (pc' := (if y < y1 then 174 else 171)) (ls' := [some (.ref 633), some (.int a), some (.int b), some (.int f), some (.int mo), some (.int c), some (.int d), some (.int o), some (.int y)]) (st' := []) (M1 := M) 1 (fun n => rfl) ?_
  exact hz
theorem sh_171 {e : Nat} {M : Mem} {M' : Mem} {v : Option Value} {a b c d f mo o vv : Int32}  (hz : Ev none (e + 3) 227 186 [some (.ref 633), some (.int a), some (.int b), some (.int f), some (.int mo), some (.int c), some (.int d), some (.int o), some (.int vv)] [] M v M' 0 0) : Ev none (e + 3) 227 171 [some (.ref 633), some (.int a), some (.int b), some (.int f), some (.int mo), some (.int c), some (.int d), some (.int o), some (.int vv)] [] M v M' 0 0 := by
  refine Ev.step (pc' := 186) (ls' := [some (.ref 633), some (.int a), some (.int b), some (.int f), some (.int mo), some (.int c), some (.int d), some (.int o), some (.int vv)]) (st' := []) (M1 := M) 1 (fun n => rfl) ?_
  exact hz
theorem sh_174 {e : Nat} {M : Mem} {M' : Mem} {v : Option Value} {vs : List Value} {a b c d f mo o vv y1 : Int32} {l655 : List Int32} (hM : gNth M 633 = some (.inr (11, vs))) (v48 : gNth vs 48 = some (.ref 655)) (r655 : gNth M 655 = some (.inl (1, .inl l655))) (g1 : gAt l655 c = some y1) (hz : Ev none (e + 3) 227 186 [some (.ref 633), some (.int a), some (.int b), some (.int f), some (.int 1), some (.int c), some (.int d), some (.int o), some (.int vv)] [] (gPut M 655 (.inl (1, .inl (gPut l655 c.toNatClampNeg vv)))) v M' 0 0) : Ev none (e + 3) 227 174 [some (.ref 633), some (.int a), some (.int b), some (.int f), some (.int mo), some (.int c), some (.int d), some (.int o), some (.int vv)] [] M v M' 0 0 := by
  refine Ev.step (pc' := 175) (ls' := [some (.ref 633), some (.int a), some (.int b), some (.int f), some (.int mo), some (.int c), some (.int d), some (.int o), some (.int vv)]) (st' := [.ref 633]) (M1 := M) 1 (fun n => rfl) ?_
  refine Ev.step 1 (gs_3 rfl rfl (gf_g rfl hM v48)) ?_
  refine Ev.step (pc' := 182) (ls' := [some (.ref 633), some (.int a), some (.int b), some (.int f), some (.int mo), some (.int c), some (.int d), some (.int o), some (.int vv)]) (st' := [.int vv, .int c, .ref 655]) (M1 := M) 2 (fun n => rfl) ?_
  refine Ev.step 1 (gs_4 rfl rfl (is_g r655 g1)) ?_
  refine Ev.step (pc' := 186) (ls' := [some (.ref 633), some (.int a), some (.int b), some (.int f), some (.int 1), some (.int c), some (.int d), some (.int o), some (.int vv)]) (st' := []) (M1 := (gPut M 655 (.inl (1, .inl (gPut l655 c.toNatClampNeg vv))))) 2 (fun n => rfl) ?_
  exact hz
theorem sh_186 {e : Nat} {M : Mem} {M' : Mem} {v : Option Value} {a b c d f mo o vv : Int32}  (hz : Ev none (e + 3) 227 107 [some (.ref 633), some (.int a), some (.int b), some (.int f), some (.int mo), some (.int c), some (.int (d + 1)), some (.int o), some (.int vv)] [] M v M' 0 0) : Ev none (e + 3) 227 186 [some (.ref 633), some (.int a), some (.int b), some (.int f), some (.int mo), some (.int c), some (.int d), some (.int o), some (.int vv)] [] M v M' 0 0 := by
  refine Ev.step (pc' := 107) (ls' := [some (.ref 633), some (.int a), some (.int b), some (.int f), some (.int mo), some (.int c), some (.int (d + 1)), some (.int o), some (.int vv)]) (st' := []) (M1 := M) 2 (fun n => rfl) ?_
  exact hz
theorem cal_gr2 {M : Mem} {vs : List Value} {a0 : Int32} {rest : List Value} (hM : gNth M 633 = some (.inr (11, vs))) (hr : gRoom rest = true) : gCal (.invokevirtual 356) 11 (.int a0 :: .ref 633 :: rest) M = some (.inr (149, [some (.ref 633), some (.int a0)], rest)) := by
  show @cond (Option ((List Value × Mem) ⊕ (Nat × Lo × List Value))) (true && gRecv M (.ref 633) 11 && gRoom rest && true) (some (.inr (149, [some (.ref 633), some (.int a0)], rest))) none = _
  rw [recv_ok hM, hr]
  rfl
theorem cal_iw {M : Mem} {vs : List Value} {a0 : Int32} {rest : List Value} (hM : gNth M 633 = some (.inr (11, vs))) (hr : gRoom rest = true) : gCal (.invokevirtual 140) 11 (.int a0 :: .ref 633 :: rest) M = some (.inr (150, [some (.ref 633), some (.int a0)], rest)) := by
  show @cond (Option ((List Value × Mem) ⊕ (Nat × Lo × List Value))) (true && gRecv M (.ref 633) 11 && gRoom rest && true) (some (.inr (150, [some (.ref 633), some (.int a0)], rest))) none = _
  rw [recv_ok hM, hr]
  rfl
set_option maxRecDepth 100000 in
theorem rw_83 : rwB 83 1 256 0 10000000 = true := by decide +kernel
set_option maxRecDepth 100000 in
theorem mf_83 : mfB 48 83 = true := by decide +kernel
set_option maxRecDepth 100000 in
theorem sU_83 : gNth sU 83 = some (some 655) := by decide +kernel
set_option maxRecDepth 100000 in
theorem sT_655 : gNth sT 655 = some 83 := by decide +kernel
set_option maxRecDepth 100000 in
theorem fB_28 : fldB 28 (-2147483648) 2147483647 = true := by decide +kernel
theorem cell_w {l : List Int32} (sl : l.length = 2314) {c : Int32} (c1 : 0 ≤ c.toInt) (c2 : c.toInt ≤ 255) : ∃ y, gAt l (522 + 7 * c + 3) = some y := by
  have e3 : (3 : Int32).toInt = 3 := rfl
  have ec := i32_cell (c := c) (k := 3) c1 c2 (by decide) (by decide)
  obtain ⟨kn, hkn⟩ : ∃ kn : Nat, (522 + 7 * c + 3 : Int32).toInt = (kn : Int) := ⟨(525 + 7 * c.toInt).toNat, by omega⟩
  obtain ⟨y, y1, y2⟩ := at_c (l := l) hkn (by omega)
  exact ⟨y, y1⟩
theorem ev_isWorn {M : Mem} {e : Nat} {vs : List Value} {l : List Int32} {c y : Int32} (hT : TM sT sG M) (hM : gNth M 633 = some (.inr (11, vs))) (h5 : gNth vs 5 = some (.ref 635)) (hs : gNth M 635 = some (.inl (1, .inl l))) (hy : gAt l (522 + 7 * c + 3) = some y) : ∃ r : Int32, Ev none (e + 1) 150 0 [some (.ref 633), some (.int c)] [] M (some (.int r)) M 0 0 := by
  obtain ⟨vs2, f, h1, _, h3, _⟩ := hT.fint fB_28
  cases hM.symm.trans h1
  by_cases hf : y < f
  · exact ⟨0, iw_0 (Ev.call0 (fun n => gs_7 rfl rfl (cal_of hM rfl)) (ev_of hM h5 hs hy) (iw_6 hM h3 (by rw [if_pos hf]; exact iw_17)))⟩
  · exact ⟨1, iw_0 (Ev.call0 (fun n => gs_7 rfl rfl (cal_of hM rfl)) (ev_of hM h5 hs hy) (iw_6 hM h3 (by rw [if_neg hf]; exact iw_13)))⟩
set_option maxRecDepth 100000 in
theorem ways_put {M : Mem} (hT : TM sT sG M) {l : List Int32} (hM : gNth M 655 = some (.inl (1, .inl l))) (i : Nat) {y : Int32} (h0 : 0 ≤ y.toInt) (h1 : y.toInt ≤ 10000000) : TM sT sG (gPut M 655 (.inl (1, .inl (gPut l i y)))) := by
  obtain ⟨l2, q1, q2, q3⟩ := hT.mrow sT_655 rw_83
  cases q1.symm.trans hM
  refine hT.putrow (n := 256) (lo := 0) (hi := 10000000) sT_655 (by decide +kernel) (by rw [put_len]; exact q2) (fun j x hj => ?_)
  rw [nth_put] at hj
  split at hj
  · cases hj
    exact ⟨h0, h1⟩
  · exact q3 j x hj
section SHN
variable {a b f w hh : Int32} {M0 : Mem} {e bn : Nat} {l0 : List Int32} {P : Prop}
/-- what stands while the ways are found -/
def ShS (P : Prop) (bn : Nat) (l0 : List Int32) (M0 : Mem) (M : Mem) (R : Nat → Prop) (B : Prop) : Prop := TM sT sG M ∧ Frm sT [(1083, 0)] M0 M ∧ gNth M 635 = some (.inl (1, .inl l0)) ∧ ∃ l, gNth M 655 = some (.inl (1, .inl l)) ∧ R (l.map mI).sum ∧ (P → B → ∀ y, gNth l bn = some y → 1 ≤ y.toInt)
def ShQ (P : Prop) (M0 : Mem) (v : Option Value) (M : Mem) : Prop := ∃ r : Int32, v = some (.int r) ∧ TM sT sG M ∧ Frm sT [(1083, 0)] M0 M ∧ (P → 1 ≤ r.toInt)
abbrev ShF (P : Prop) (a b f : Int32) (M0 : Mem) (e pc : Nat) (mo : Int32) (x5 x6 x7 x8 : Option Value) (M : Mem) : Prop := RF (ShQ P M0) [] (e + 3) 227 pc [some (.ref 633), some (.int a), some (.int b), some (.int f), some (.int mo), x5, x6, x7, x8] [] M
abbrev rk (mo : Int32) (s : Nat) (x : Nat) : Prop := (mo = 0 ∧ x ≤ s) ∨ (mo = 1 ∧ x < s)
theorem ShS.env {M : Mem} {R : Nat → Prop} {B : Prop} (h : ShS P bn l0 M0 M R B) : ∃ vs l, gNth M 633 = some (.inr (11, vs)) ∧ gNth vs 5 = some (.ref 635) ∧ gNth vs 48 = some (.ref 655) ∧ l0.length = 2314 ∧ gNth M 655 = some (.inl (1, .inl l)) ∧ l.length = 256 ∧ (∀ j x, gNth l j = some x → 0 ≤ x.toInt ∧ x.toInt ≤ 10000000) ∧ R (l.map mI).sum ∧ (P → B → ∀ y, gNth l bn = some y → 1 ≤ y.toInt) := by
  obtain ⟨hT, _, hs, l, h1, h2, h3⟩ := h
  obtain ⟨vs, l9, hM, h5, hs9, sl⟩ := hT.s_all
  cases hs.symm.trans hs9
  obtain ⟨vs9, hM9, hv⟩ := hT.mfld
  cases hM.symm.trans hM9
  obtain ⟨l2, q1, q2, q3⟩ := hT.mrow sT_655 rw_83
  cases h1.symm.trans q1
  exact ⟨vs, l, hM, h5, hv _ _ _ mf_83 sU_83, sl, h1, q2, q3, h2, h3⟩
theorem ShS.put {M : Mem} {R R2 : Nat → Prop} {B B2 : Prop} (h : ShS P bn l0 M0 M R B) {l : List Int32} (hl : gNth M 655 = some (.inl (1, .inl l))) {i : Nat} {v y : Int32} (hy : gNth l i = some y) (v0 : 0 ≤ v.toInt) (v1 : v.toInt ≤ 10000000) (hR : ∀ s s2, R s → s2 + mI y = s + mI v → R2 s2) (hB : P → B2 → (i = bn → 1 ≤ v.toInt) ∧ (i ≠ bn → B)) : ShS P bn l0 M0 (gPut M 655 (.inl (1, .inl (gPut l i v)))) R2 B2 := by
  obtain ⟨hT, hF, hs, l2, h1, h2, h3⟩ := h
  cases hl.symm.trans h1
  refine ⟨ways_put hT hl i v0 v1, hF.trans (Frm.row hl sT_655 (List.mem_singleton.mpr rfl)), by rw [nth_put, if_neg (fun q => absurd q.1 (by decide))]; exact hs, _, by rw [nth_put, if_pos ⟨rfl, gNth_lt _ _ _ hl⟩], hR _ _ h2 (sum_put _ _ hy), fun hp hb z hz => ?_⟩
  obtain ⟨q1, q2⟩ := hB hp hb
  rw [nth_put] at hz
  by_cases hi : bn = i ∧ i < l.length
  · rw [if_pos hi] at hz
    cases hz
    exact q1 hi.1.symm
  · rw [if_neg hi] at hz
    refine h3 hp (q2 (fun e => hi ⟨e.symm, gNth_lt _ _ _ hy⟩)) z hz
theorem wh_in (h0 : gAt l0 0 = some w) (h1 : gAt l0 1 = some hh) (w1 : 4 ≤ w.toInt) (w2 : w.toInt ≤ 16) (k1 : 4 ≤ hh.toInt) (k2 : hh.toInt ≤ 16) : (w * hh).toInt = w.toInt * hh.toInt ∧ 16 ≤ w.toInt * hh.toInt ∧ w.toInt * hh.toInt ≤ 256 := by
  have b1 : w.toInt * hh.toInt ≤ 16 * 16 := Int.mul_le_mul w2 k2 (by omega) (by omega)
  have b0 : 4 * 4 ≤ w.toInt * hh.toInt := Int.mul_le_mul w1 k1 (by omega) (by omega)
  exact ⟨i32_mul (by omega) (by omega), by omega, by omega⟩
/-- one way d -/
theorem sh_body (h0 : gAt l0 0 = some w) (h1 : gAt l0 1 = some hh) (w1 : 4 ≤ w.toInt) (w2 : w.toInt ≤ 16) (k1 : 4 ≤ hh.toInt) (k2 : hh.toInt ≤ 16) {s : Nat} {mo c d : Int32} {x7 x8 : Option Value} {M : Mem} (c0 : 0 ≤ c.toInt) (c1 : c.toInt ≤ 255) (h : ShS P bn l0 M0 M (rk mo s) True) (hD : ∀ mo x7 x8 M, ShS P bn l0 M0 M (rk mo s) True → ShF P a b f M0 e 107 mo (some (.int c)) (some (.int (d + 1))) x7 x8 M) : ShF P a b f M0 e 114 mo (some (.int c)) (some (.int d)) x7 x8 M := by
  obtain ⟨vs, l, hM, h5, h48, sl, hl, ll, lr, hR, hB⟩ := h.env
  obtain ⟨hT, hF, hs, _⟩ := id h
  have hw : ¬ w = 0 := by
    intro hz
    rw [hz] at w1
    exact absurd w1 (by decide)
  refine RF.pre (fun v M' hz => sh_114 (Ev.call0 (fun n => gs_7 rfl rfl (cal_bs hM rfl)) (ev_beside (e := e) hM h5 hs h0 h1 hw) (sh_122 hz))) ?_
  obtain ⟨o, eo⟩ : ∃ o, o = besI w hh c d := ⟨_, rfl⟩
  have ho := besI_in (c := c) (d := d) w1 w2 k1 k2
  rw [← eo] at ho ⊢
  obtain ⟨cn, hcn⟩ : ∃ cn : Nat, c.toInt = (cn : Int) := ⟨c.toInt.toNat, by omega⟩
  obtain ⟨xc, xc1, xc2⟩ := at_c (l := l) hcn (by omega)
  obtain ⟨r1, r2⟩ := lr _ _ xc2
  have last : ∀ (nv : Int32) (x8 : Option Value), 1 ≤ nv.toInt → nv.toInt ≤ 10000014 → RF (ShQ P M0) [] (e + 3) 227 157 [some (.ref 633), some (.int a), some (.int b), some (.int f), some (.int mo), some (.int c), some (.int d), some (.int o), x8] [.int nv] M := by
    intro nv x8 n0 n1
    refine RF.pre (fun v M' hz => sh_157 hM h48 hl xc1 hz) ?_
    by_cases hlt : nv < xc
    · rw [if_pos hlt]
      rw [Int32.lt_iff_toInt_lt] at hlt
      refine RF.pre (fun v M' hz => sh_174 hM h48 hl xc1 hz) ?_
      rw [cl_n hcn]
      refine RF.pre (fun v M' hz => sh_186 hz) (hD 1 _ _ _ (h.put hl xc2 (by omega) (by omega) (fun s2 s3 q1 q2 => ?_) (fun _ _ => ⟨fun _ => n0, fun _ => trivial⟩)))
      have := (mI_lt (x := nv) (y := xc)).2 hlt
      refine Or.inr ⟨rfl, ?_⟩
      rcases q1 with ⟨_, q1⟩ | ⟨_, q1⟩ <;> omega
    · rw [if_neg hlt]
      exact RF.pre (fun v M' hz => sh_171 (sh_186 hz)) (hD _ _ _ _ h)
  by_cases o0 : (0 : Int32) ≤ o
  · rw [if_pos o0]
    have ho : 0 ≤ o.toInt ∧ o.toInt ≤ 255 := by
      rcases ho with ho | ho
      · rw [ho] at o0
        exact absurd o0 (by decide)
      · exact ho
    obtain ⟨on, hon⟩ : ∃ on : Nat, o.toInt = (on : Int) := ⟨o.toInt.toNat, by omega⟩
    obtain ⟨xo, xo1, xo2⟩ := at_c (l := l) hon (by omega)
    obtain ⟨t1, t2⟩ := lr _ _ xo2
    refine RF.pre (fun v M' hz => sh_135 hM h48 hl xo1 hz) ?_
    have o10 : (10 : Int32).toInt = 10 := rfl
    have o14 : (14 : Int32).toInt = 14 := rfl
    by_cases hd : d - d / 2 * 2 = 0
    · rw [if_pos hd]
      have e1 : (xo + 10).toInt = xo.toInt + 10 := by rw [i32_add (by rw [o10]; omega) (by rw [o10]; omega), o10]
      exact RF.pre (fun v M' hz => sh_149 hz) (last (xo + 10) _ (by omega) (by omega))
    · rw [if_neg hd]
      have e1 : (xo + 14).toInt = xo.toInt + 14 := by rw [i32_add (by rw [o14]; omega) (by rw [o14]; omega), o14]
      exact RF.pre (fun v M' hz => sh_154 hz) (last (xo + 14) _ (by omega) (by omega))
  · rw [if_neg o0]
    exact RF.pre (fun v M' hz => sh_129 hz) (last 10000000 _ (by decide) (by decide))
theorem sh_dl (h0 : gAt l0 0 = some w) (h1 : gAt l0 1 = some hh) (w1 : 4 ≤ w.toInt) (w2 : w.toInt ≤ 16) (k1 : 4 ≤ hh.toInt) (k2 : hh.toInt ≤ 16) {s : Nat} {c : Int32} (c0 : 0 ≤ c.toInt) (c1 : c.toInt ≤ 255) (hE : ∀ mo x6 x7 x8 M, ShS P bn l0 M0 M (rk mo s) True → ShF P a b f M0 e 192 mo (some (.int c)) x6 x7 x8 M) : ∀ (j : Nat) (d mo : Int32) (x7 x8 : Option Value) (M : Mem), ShS P bn l0 M0 M (rk mo s) True → 0 ≤ d.toInt → d.toInt + (j : Int) = 8 → ShF P a b f M0 e 107 mo (some (.int c)) (some (.int d)) x7 x8 M := by
  intro j
  induction j with
  | zero =>
    intro d mo x7 x8 M h d0 hj
    refine RF.pre (fun v M' hz => sh_107 hz) ?_
    rw [if_pos (by rw [Int32.le_iff_toInt_le]; show (8 : Int) ≤ d.toInt; omega)]
    exact hE _ _ _ _ _ h
  | succ j ih =>
    intro d mo x7 x8 M h d0 hj
    refine RF.pre (fun v M' hz => sh_107 hz) ?_
    rw [if_neg (by rw [Int32.le_iff_toInt_le]; show ¬ (8 : Int) ≤ d.toInt; omega)]
    have e1 : (d + 1).toInt = d.toInt + 1 := i32_p1 (by omega)
    exact sh_body h0 h1 w1 w2 k1 k2 c0 c1 h (fun mo x7 x8 M h => ih (d + 1) mo x7 x8 M h (by omega) (by omega))
/-- a cell -/
theorem sh_cell (h0 : gAt l0 0 = some w) (h1 : gAt l0 1 = some hh) (w1 : 4 ≤ w.toInt) (w2 : w.toInt ≤ 16) (k1 : 4 ≤ hh.toInt) (k2 : hh.toInt ≤ 16) {s : Nat} {mo c : Int32} {x6 x7 x8 : Option Value} {M : Mem} (c0 : 0 ≤ c.toInt) (c1 : c.toInt ≤ 255) (h : ShS P bn l0 M0 M (rk mo s) True) (hE : ∀ mo x6 x7 x8 M, ShS P bn l0 M0 M (rk mo s) True → ShF P a b f M0 e 192 mo (some (.int c)) x6 x7 x8 M) : ShF P a b f M0 e 58 mo (some (.int c)) x6 x7 x8 M := by
  obtain ⟨vs, l, hM, h5, h48, sl, hl, ll, lr, hR, hB⟩ := h.env
  obtain ⟨hT, hF, hs, _⟩ := id h
  obtain ⟨kc, hkc⟩ := cell_k hT sl c0 c1
  obtain ⟨kw, hkw⟩ := cell_w sl c0 c1
  have go_ : ShF P a b f M0 e 104 mo (some (.int c)) x6 x7 x8 M := RF.pre (fun v M' hz => sh_104 hz) (sh_dl h0 h1 w1 w2 k1 k2 c0 c1 hE 8 0 mo _ _ M h (by decide) (by decide))
  refine RF.pre (fun v M' hz => sh_58 (Ev.call0 (fun n => gs_7 rfl rfl (cal_be hM rfl)) (ev_bears hM h5 hs hkc) (sh_64 hz))) ?_
  obtain ⟨z, ez⟩ : ∃ z : Int32, z = if kc = 3 then 0 else if kc = 6 then 0 else 1 := ⟨_, rfl⟩
  rw [← ez]
  by_cases hz0 : z = 0
  · rw [if_pos hz0]
    exact hE _ _ _ _ _ h
  rw [if_neg hz0]
  refine RF.pre (fun v M' hz => sh_67 hz) ?_
  by_cases hf : f = 0
  · rw [if_pos hf]; exact go_
  rw [if_neg hf]
  refine RF.pre (fun v M' hz => sh_71 hz) ?_
  by_cases ha : c = a
  · rw [if_pos ha]; exact go_
  rw [if_neg ha]
  refine RF.pre (fun v M' hz => sh_77 hz) ?_
  by_cases hb : c = b
  · rw [if_pos hb]; exact go_
  rw [if_neg hb]
  refine RF.pre (fun v M' hz => sh_83 (Ev.call0 (fun n => gs_7 rfl rfl (cal_gr2 hM rfl)) (ev_green (e := e + 1) hM h5 hs hkc) (sh_89 hz))) ?_
  obtain ⟨z2, ez2⟩ : ∃ z : Int32, z = if kc = 0 then 1 else if kc = 2 then 1 else 0 := ⟨_, rfl⟩
  rw [← ez2]
  by_cases hz2 : z2 = 0
  · rw [if_pos hz2]; exact go_
  rw [if_neg hz2]
  obtain ⟨r, hr⟩ := ev_isWorn (e := e + 1) hT hM h5 hs hkw
  refine RF.pre (fun v M' hz => sh_92 (Ev.call0 (fun n => gs_7 rfl rfl (cal_iw hM rfl)) hr (sh_98 hz))) ?_
  by_cases hr0 : r = 0
  · rw [if_pos hr0]
    exact RF.pre (fun v M' hz => sh_101 hz) (hE _ _ _ _ _ h)
  · rw [if_neg hr0]; exact go_
theorem sh_cl (h0 : gAt l0 0 = some w) (h1 : gAt l0 1 = some hh) (w1 : 4 ≤ w.toInt) (w2 : w.toInt ≤ 16) (k1 : 4 ≤ hh.toInt) (k2 : hh.toInt ≤ 16) {s : Nat} (hE : ∀ mo x5 x6 x7 x8 M, ShS P bn l0 M0 M (rk mo s) True → ShF P a b f M0 e 38 mo x5 x6 x7 x8 M) : ∀ (j : Nat) (c mo : Int32) (x6 x7 x8 : Option Value) (M : Mem), ShS P bn l0 M0 M (rk mo s) True → 0 ≤ c.toInt → 256 ≤ c.toInt + (j : Int) → ShF P a b f M0 e 49 mo (some (.int c)) x6 x7 x8 M := by
  intro j
  obtain ⟨wh, b0, b1⟩ := wh_in h0 h1 w1 w2 k1 k2
  have head : ∀ (c mo : Int32) (x6 x7 x8 : Option Value) (M : Mem), ShS P bn l0 M0 M (rk mo s) True → (¬ w * hh ≤ c → ShF P a b f M0 e 58 mo (some (.int c)) x6 x7 x8 M) → ShF P a b f M0 e 49 mo (some (.int c)) x6 x7 x8 M := by
    intro c mo x6 x7 x8 M h hn
    obtain ⟨vs, l, hM, h5, h48, sl, hl, ll, lr, hR, hB⟩ := h.env
    obtain ⟨hT, hF, hs, _⟩ := id h
    refine RF.pre (fun v M' hz => sh_49 (Ev.call0 (fun n => gs_7 rfl rfl (cal_ce hM rfl)) (ev_cells hM h5 hs h0 h1) (sh_55 hz))) ?_
    by_cases hle : w * hh ≤ c
    · rw [if_pos hle]
      exact RF.pre (fun v M' hz => sh_198 hz) (hE _ _ _ _ _ _ h)
    · rw [if_neg hle]
      exact hn hle
  induction j with
  | zero =>
    intro c mo x6 x7 x8 M h c0 hj
    exact head c mo x6 x7 x8 M h (fun hn => absurd (by rw [Int32.le_iff_toInt_le]; omega) hn)
  | succ j ih =>
    intro c mo x6 x7 x8 M h c0 hj
    refine head c mo x6 x7 x8 M h (fun hn => ?_)
    rw [Int32.le_iff_toInt_le] at hn
    have e1 : (c + 1).toInt = c.toInt + 1 := i32_p1 (by omega)
    exact sh_cell h0 h1 w1 w2 k1 k2 c0 (by omega) h (fun mo x6 x7 x8 M h => RF.pre (fun v M' hz => sh_192 hz) (ih (c + 1) mo x6 x7 x8 M h (by omega) (by omega)))
theorem sh_wl (h0 : gAt l0 0 = some w) (h1 : gAt l0 1 = some hh) (w1 : 4 ≤ w.toInt) (w2 : w.toInt ≤ 16) (k1 : 4 ≤ hh.toInt) (k2 : hh.toInt ≤ 16) (hbn : b.toInt = (bn : Int)) (b255 : bn ≤ 255) : ∀ (k : Nat) (mo : Int32) (x5 x6 x7 x8 : Option Value) (M : Mem), ShS P bn l0 M0 M (fun x => mo = 0 ∨ (mo = 1 ∧ x < k)) True → ShF P a b f M0 e 38 mo x5 x6 x7 x8 M := by
  intro k
  have fin : ∀ (x5 x6 x7 x8 : Option Value) (M : Mem) (R : Nat → Prop), ShS P bn l0 M0 M R True → ShF P a b f M0 e 38 0 x5 x6 x7 x8 M := by
    intro x5 x6 x7 x8 M R h
    obtain ⟨vs, l, hM, h5, h48, sl, hl, ll, lr, hR, hB⟩ := h.env
    obtain ⟨y, y1, y2⟩ := at_c (l := l) hbn (by omega)
    refine RF.pre (fun v M' hz => sh_38 hz) ?_
    rw [if_pos rfl]
    exact ⟨some (.int y), M, sh_201 hM h48 hl y1, y, rfl, h.1, h.2.1, fun hp => hB hp trivial y y2⟩
  induction k with
  | zero =>
    intro mo x5 x6 x7 x8 M h
    obtain ⟨hT, hF, hs, l, hl, hR, hB⟩ := id h
    rcases hR with rfl | ⟨_, hR⟩
    · exact fin _ _ _ _ _ _ h
    · exact absurd hR (Nat.not_lt_zero _)
  | succ k ih =>
    intro mo x5 x6 x7 x8 M h
    obtain ⟨hT, hF, hs, l, hl, hR, hB⟩ := id h
    rcases hR with rfl | ⟨rfl, hR⟩
    · exact fin _ _ _ _ _ _ h
    refine RF.pre (fun v M' hz => sh_38 hz) ?_
    rw [if_neg (by decide)]
    refine RF.pre (fun v M' hz => sh_43 hz) ?_
    refine sh_cl (s := k) h0 h1 w1 w2 k1 k2 (fun mo x5 x6 x7 x8 M h => ?_) 256 0 0 x6 x7 x8 M ⟨hT, hF, hs, l, hl, Or.inl ⟨rfl, by omega⟩, hB⟩ (by decide) (by decide)
    obtain ⟨hT, hF, hs, l, hl, hR, hB⟩ := h
    refine ih mo x5 x6 x7 x8 M ⟨hT, hF, hs, l, hl, ?_, hB⟩
    rcases hR with ⟨q, _⟩ | ⟨q1, q2⟩
    · exact Or.inl q
    · exact Or.inr ⟨q1, q2⟩
theorem sh_init (h0 : gAt l0 0 = some w) (h1 : gAt l0 1 = some hh) (w1 : 4 ≤ w.toInt) (w2 : w.toInt ≤ 16) (k1 : 4 ≤ hh.toInt) (k2 : hh.toInt ≤ 16) (ha : 0 ≤ a.toInt) (ha2 : a.toInt ≤ 255) (hbn : b.toInt = (bn : Int)) (b255 : bn ≤ 255) (hP : P → a ≠ b ∧ b.toInt < w.toInt * hh.toInt) : ∀ (j cn : Nat) (c : Int32) (x5 x6 x7 x8 : Option Value) (M : Mem), ShS P bn l0 M0 M (fun _ => True) (bn < cn) → c.toInt = (cn : Int) → 256 ≤ cn + j → cn ≤ 256 → RF (ShQ P M0) [] (e + 3) 227 3 [some (.ref 633), some (.int a), some (.int b), some (.int f), some (.int c), x5, x6, x7, x8] [] M := by
  intro j
  obtain ⟨wh, b0, b1⟩ := wh_in h0 h1 w1 w2 k1 k2
  have head : ∀ (cn : Nat) (c : Int32) (x5 x6 x7 x8 : Option Value) (M : Mem), ShS P bn l0 M0 M (fun _ => True) (bn < cn) → c.toInt = (cn : Int) → (¬ w * hh ≤ c → RF (ShQ P M0) [] (e + 3) 227 12 [some (.ref 633), some (.int a), some (.int b), some (.int f), some (.int c), x5, x6, x7, x8] [] M) → RF (ShQ P M0) [] (e + 3) 227 3 [some (.ref 633), some (.int a), some (.int b), some (.int f), some (.int c), x5, x6, x7, x8] [] M := by
    intro cn c x5 x6 x7 x8 M h hcn hn
    obtain ⟨vs, l, hM, h5, h48, sl, hl, ll, lr, hR, hB⟩ := h.env
    obtain ⟨hT, hF, hs, _⟩ := id h
    refine RF.pre (fun v M' hz => sh_3 (Ev.call0 (fun n => gs_7 rfl rfl (cal_ce hM rfl)) (ev_cells hM h5 hs h0 h1) (sh_9 hz))) ?_
    by_cases hle : w * hh ≤ c
    · rw [if_pos hle]
      rw [Int32.le_iff_toInt_le] at hle
      obtain ⟨an, han⟩ : ∃ an : Nat, a.toInt = (an : Int) := ⟨a.toInt.toNat, by omega⟩
      obtain ⟨ya, ya1, ya2⟩ := at_c (l := l) han (by omega)
      refine RF.pre (fun v M' hz => sh_28 hM h48 hl ya1 hz) ?_
      rw [cl_n han]
      have hput := h.put hl ya2 (v := 0) (R2 := fun _ => True) (B2 := True) (by decide) (by decide) (fun _ _ _ _ => trivial) (fun hp _ => ⟨fun e => absurd (Int32.toInt_inj.mp (show a.toInt = b.toInt by omega)) (hP hp).1, fun _ => by have := (hP hp).2; omega⟩)
      obtain ⟨q1, q2, q3, l5, q4, q5, q6⟩ := hput
      exact sh_wl h0 h1 w1 w2 k1 k2 hbn b255 ((l5.map mI).sum + 1) 1 _ _ _ _ _ ⟨q1, q2, q3, l5, q4, Or.inr ⟨rfl, Nat.lt_succ_self _⟩, q6⟩
    · rw [if_neg hle]
      exact hn hle
  induction j with
  | zero =>
    intro cn c x5 x6 x7 x8 M h hcn hj hle
    exact head cn c x5 x6 x7 x8 M h hcn (fun hn => absurd (by rw [Int32.le_iff_toInt_le]; omega) hn)
  | succ j ih =>
    intro cn c x5 x6 x7 x8 M h hcn hj hle
    refine head cn c x5 x6 x7 x8 M h hcn (fun hn => ?_)
    rw [Int32.le_iff_toInt_le] at hn
    obtain ⟨vs, l, hM, h5, h48, sl, hl, ll, lr, hR, hB⟩ := h.env
    obtain ⟨y, y1, y2⟩ := at_c (l := l) hcn (by omega)
    have e1 : (c + 1).toInt = c.toInt + 1 := i32_p1 (by omega)
    refine RF.pre (fun v M' hz => sh_12 hM h48 hl y1 hz) ?_
    rw [cl_n hcn]
    exact ih (cn + 1) (c + 1) x5 x6 x7 x8 _ (h.put hl y2 (v := 10000000) (by decide) (by decide) (fun _ _ _ _ => trivial) (fun _ hb => ⟨fun _ => by decide, fun hne => by omega⟩)) (by omega) (by omega) (by omega)
end SHN
/-- shortest, with what it answers -/
theorem ev_shortest {M : Mem} {e : Nat} {a b f : Int32} (hT : TM sT sG M) (a0 : 0 ≤ a.toInt) (a1 : a.toInt ≤ 255) (b0 : 0 ≤ b.toInt) (b1 : b.toInt ≤ 255) : ∃ (r : Int32) (MF : Mem), Ev none (e + 3) 227 0 [some (.ref 633), some (.int a), some (.int b), some (.int f), none, none, none, none, none] [] M (some (.int r)) MF 0 0 ∧ TM sT sG MF ∧ Frm sT [(1083, 0)] M MF ∧ (a ≠ b → (∀ l w h, gNth M 635 = some (.inl (1, .inl l)) → gNth l 0 = some w → gNth l 1 = some h → b.toInt < w.toInt * h.toInt) → 1 ≤ r.toInt) := by
  obtain ⟨vs, l, w, hh, m1, m2, m3, m4, m5, w1, w2, h1, h2⟩ := hT.s_ref
  obtain ⟨lw, q1, q2, q3⟩ := hT.mrow sT_655 rw_83
  obtain ⟨bn, hbn⟩ : ∃ bn : Nat, b.toInt = (bn : Int) := ⟨b.toInt.toNat, by omega⟩
  obtain ⟨v, MF, r1, r, rfl, r2, r3, r4⟩ := sh_init (a := a) (b := b) (f := f) (e := e) (M0 := M) (bn := bn) (P := a ≠ b ∧ b.toInt < w.toInt * hh.toInt) m4 m5 w1 w2 h1 h2 a0 a1 hbn (by omega) (fun h => h) 256 0 0 none none none none M ⟨hT, Frm.refl M, m3, lw, q1, trivial, fun _ h => absurd h (Nat.not_lt_zero _)⟩ rfl (by omega) (by omega)
  exact ⟨r, MF, sho_0 r1, r2, r3, fun hab hb => r4 ⟨hab, hb l w hh m3 m4 m5⟩⟩
/-! BY HAND: longer of the reference -/
theorem id_0 {e : Nat} {M : Mem} {M' : Mem} {v : Option Value} {vs : List Value} {a y1 : Int32} {l635 : List Int32} (hM : gNth M 633 = some (.inr (11, vs))) (v5 : gNth vs 5 = some (.ref 635)) (r635 : gNth M 635 = some (.inl (1, .inl l635))) (g1 : gAt l635 2 = some y1) (hz : Ev none (e + 1) 152 10 [some (.ref 633), some (.int a)] [.int (y1 - 1), .int 0, .int a] M v M' 0 0) : Ev none (e + 1) 152 0 [some (.ref 633), some (.int a)] [] M v M' 0 0 := by
  refine Ev.step (pc' := 3) (ls' := [some (.ref 633), some (.int a)]) (st' := [.ref 633, .int 0, .int a]) (M1 := M) 3 (fun n => rfl) ?_
  refine Ev.step 1 (gs_3 rfl rfl (gf_g rfl hM v5)) ?_
  refine Ev.step (pc' := 7) (ls' := [some (.ref 633), some (.int a)]) (st' := [.int 2, .ref 635, .int 0, .int a]) (M1 := M) 1 (fun n => rfl) ?_
  refine Ev.step 1 (gs_3 rfl rfl (ia_g r635 g1)) ?_
  refine Ev.step (pc' := 10) (ls' := [some (.ref 633), some (.int a)]) (st' := [.int (y1 - 1), .int 0, .int a]) (M1 := M) 2 (fun n => rfl) ?_
  exact hz
theorem id_13z {e : Nat} {M : Mem} {a : Int32}  : Ev none (e + 1) 152 13 [some (.ref 633), some (.int a)] [.int 0] M (some (.int 0)) M 0 0 := by
  exact Ev.ret (fun n => rfl)
theorem id_13o {e : Nat} {M : Mem} {a : Int32}  : Ev none (e + 1) 152 13 [some (.ref 633), some (.int a)] [.int 1] M (some (.int 1)) M 0 0 := by
  exact Ev.ret (fun n => rfl)
theorem lg_0 {e : Nat} {M : Mem} {M' : Mem} {v : Option Value} {vs : List Value} {a b : Int32} (hM : gNth M 633 = some (.inr (11, vs))) (hlen : vs.length = 63) (hz : Ev none (e + 4) 228 5 [some (.ref 633), some (.int a), some (.int b), none, none] [] (gPut M 633 (.inr (11, gPut vs 0 (.int 0)))) v M' 0 0) : Ev none (e + 4) 228 0 [some (.ref 633), some (.int a), some (.int b), none, none] [] M v M' 0 0 := by
  refine Ev.step (pc' := 2) (ls' := [some (.ref 633), some (.int a), some (.int b), none, none]) (st' := [.int 0, .ref 633]) (M1 := M) 2 (fun n => rfl) ?_
  refine Ev.step 1 (gs_4 rfl rfl (pf_i rfl hM (by rw [hlen]; decide) rfl rfl)) ?_
  exact hz
theorem lg_5 {e : Nat} {M : Mem} {M' : Mem} {v : Option Value} {a b : Int32}  (hz : Ev none (e + 4) 228 7 [some (.ref 633), some (.int a), some (.int b), none, none] [.int a, .ref 633] M v M' 0 0) : Ev none (e + 4) 228 5 [some (.ref 633), some (.int a), some (.int b), none, none] [] M v M' 0 0 := by
  refine Ev.step (pc' := 7) (ls' := [some (.ref 633), some (.int a), some (.int b), none, none]) (st' := [.int a, .ref 633]) (M1 := M) 2 (fun n => rfl) ?_
  exact hz
theorem lg_10 {e : Nat} {M : Mem} {M' : Mem} {v : Option Value} {a b z : Int32}  (hz : Ev none (e + 4) 228 (if z = 0 then 26 else 13) [some (.ref 633), some (.int a), some (.int b), none, none] [] M v M' 0 0) : Ev none (e + 4) 228 10 [some (.ref 633), some (.int a), some (.int b), none, none] [.int z] M v M' 0 0 := by
  refine Ev.step (pc' := (if z = 0 then 26 else 13)) (ls' := [some (.ref 633), some (.int a), some (.int b), none, none]) (st' := []) (M1 := M) 1 (fun n => rfl) ?_
  exact hz
theorem lg_13 {e : Nat} {M : Mem} {M' : Mem} {v : Option Value} {a b : Int32}  (hz : Ev none (e + 4) 228 15 [some (.ref 633), some (.int a), some (.int b), none, none] [.int b, .ref 633] M v M' 0 0) : Ev none (e + 4) 228 13 [some (.ref 633), some (.int a), some (.int b), none, none] [] M v M' 0 0 := by
  refine Ev.step (pc' := 15) (ls' := [some (.ref 633), some (.int a), some (.int b), none, none]) (st' := [.int b, .ref 633]) (M1 := M) 2 (fun n => rfl) ?_
  exact hz
theorem lg_18 {e : Nat} {M : Mem} {M' : Mem} {v : Option Value} {a b z : Int32}  (hz : Ev none (e + 4) 228 (if z = 0 then 26 else 21) [some (.ref 633), some (.int a), some (.int b), none, none] [] M v M' 0 0) : Ev none (e + 4) 228 18 [some (.ref 633), some (.int a), some (.int b), none, none] [.int z] M v M' 0 0 := by
  refine Ev.step (pc' := (if z = 0 then 26 else 21)) (ls' := [some (.ref 633), some (.int a), some (.int b), none, none]) (st' := []) (M1 := M) 1 (fun n => rfl) ?_
  exact hz
theorem lg_21 {e : Nat} {M : Mem} {M' : Mem} {v : Option Value} {a b : Int32}  (hz : Ev none (e + 4) 228 (if a = b then 26 else 29) [some (.ref 633), some (.int a), some (.int b), none, none] [] M v M' 0 0) : Ev none (e + 4) 228 21 [some (.ref 633), some (.int a), some (.int b), none, none] [] M v M' 0 0 := by
  refine Ev.step (pc' := (if a = b then 26 else 29)) (ls' := [some (.ref 633), some (.int a), some (.int b), none, none]) (st' := []) (M1 := M) 3 (fun n => rfl) ?_
  exact hz
theorem lg_26 {e : Nat} {M : Mem} {a b : Int32}  : Ev none (e + 4) 228 26 [some (.ref 633), some (.int a), some (.int b), none, none] [] M (some (.int (-2))) M 0 0 := by
  refine Ev.step (pc' := 28) (ls' := [some (.ref 633), some (.int a), some (.int b), none, none]) (st' := [.int (-2)]) (M1 := M) 1 (fun n => rfl) ?_
  exact Ev.ret (fun n => rfl)
theorem lg_29 {e : Nat} {M : Mem} {M' : Mem} {v : Option Value} {vs : List Value} {a b y1 y2 : Int32} {l635 : List Int32} (hM : gNth M 633 = some (.inr (11, vs))) (v5 : gNth vs 5 = some (.ref 635)) (r635 : gNth M 635 = some (.inl (1, .inl l635))) (g1 : gAt l635 (3 + a) = some y1) (g2 : gAt l635 (3 + b) = some y2) (hz : Ev none (e + 4) 228 47 [some (.ref 633), some (.int a), some (.int b), none, none] [.int 0, .int y2, .int y1, .ref 633] M v M' 0 0) : Ev none (e + 4) 228 29 [some (.ref 633), some (.int a), some (.int b), none, none] [] M v M' 0 0 := by
  refine Ev.step (pc' := 31) (ls' := [some (.ref 633), some (.int a), some (.int b), none, none]) (st' := [.ref 633, .ref 633]) (M1 := M) 2 (fun n => rfl) ?_
  refine Ev.step 1 (gs_3 rfl rfl (gf_g rfl hM v5)) ?_
  refine Ev.step (pc' := 37) (ls' := [some (.ref 633), some (.int a), some (.int b), none, none]) (st' := [.int (3 + a), .ref 635, .ref 633]) (M1 := M) 3 (fun n => rfl) ?_
  refine Ev.step 1 (gs_3 rfl rfl (ia_g r635 g1)) ?_
  refine Ev.step (pc' := 39) (ls' := [some (.ref 633), some (.int a), some (.int b), none, none]) (st' := [.ref 633, .int y1, .ref 633]) (M1 := M) 1 (fun n => rfl) ?_
  refine Ev.step 1 (gs_3 rfl rfl (gf_g rfl hM v5)) ?_
  refine Ev.step (pc' := 45) (ls' := [some (.ref 633), some (.int a), some (.int b), none, none]) (st' := [.int (3 + b), .ref 635, .int y1, .ref 633]) (M1 := M) 3 (fun n => rfl) ?_
  refine Ev.step 1 (gs_3 rfl rfl (ia_g r635 g2)) ?_
  refine Ev.step (pc' := 47) (ls' := [some (.ref 633), some (.int a), some (.int b), none, none]) (st' := [.int 0, .int y2, .int y1, .ref 633]) (M1 := M) 1 (fun n => rfl) ?_
  exact hz
theorem lg_50 {e : Nat} {M : Mem} {M' : Mem} {v : Option Value} {vs : List Value} {a b x y1 y2 : Int32} {l635 : List Int32} (hM : gNth M 633 = some (.inr (11, vs))) (v5 : gNth vs 5 = some (.ref 635)) (r635 : gNth M 635 = some (.inl (1, .inl l635))) (g1 : gAt l635 (3 + a) = some y1) (g2 : gAt l635 (3 + b) = some y2) (hz : Ev none (e + 4) 228 69 [some (.ref 633), some (.int a), some (.int b), some (.int x), none] [.int 1, .int y2, .int y1, .ref 633] M v M' 0 0) : Ev none (e + 4) 228 50 [some (.ref 633), some (.int a), some (.int b), none, none] [.int x] M v M' 0 0 := by
  refine Ev.step (pc' := 53) (ls' := [some (.ref 633), some (.int a), some (.int b), some (.int x), none]) (st' := [.ref 633, .ref 633]) (M1 := M) 3 (fun n => rfl) ?_
  refine Ev.step 1 (gs_3 rfl rfl (gf_g rfl hM v5)) ?_
  refine Ev.step (pc' := 59) (ls' := [some (.ref 633), some (.int a), some (.int b), some (.int x), none]) (st' := [.int (3 + a), .ref 635, .ref 633]) (M1 := M) 3 (fun n => rfl) ?_
  refine Ev.step 1 (gs_3 rfl rfl (ia_g r635 g1)) ?_
  refine Ev.step (pc' := 61) (ls' := [some (.ref 633), some (.int a), some (.int b), some (.int x), none]) (st' := [.ref 633, .int y1, .ref 633]) (M1 := M) 1 (fun n => rfl) ?_
  refine Ev.step 1 (gs_3 rfl rfl (gf_g rfl hM v5)) ?_
  refine Ev.step (pc' := 67) (ls' := [some (.ref 633), some (.int a), some (.int b), some (.int x), none]) (st' := [.int (3 + b), .ref 635, .int y1, .ref 633]) (M1 := M) 3 (fun n => rfl) ?_
  refine Ev.step 1 (gs_3 rfl rfl (ia_g r635 g2)) ?_
  refine Ev.step (pc' := 69) (ls' := [some (.ref 633), some (.int a), some (.int b), some (.int x), none]) (st' := [.int 1, .int y2, .int y1, .ref 633]) (M1 := M) 1 (fun n => rfl) ?_
  exact hz
theorem lg_51 {e : Nat} {M : Mem} {M' : Mem} {v : Option Value} {vs : List Value} {a b x y1 y2 : Int32} {l635 : List Int32} (hM : gNth M 633 = some (.inr (11, vs))) (v5 : gNth vs 5 = some (.ref 635)) (r635 : gNth M 635 = some (.inl (1, .inl l635))) (g1 : gAt l635 (3 + a) = some y1) (g2 : gAt l635 (3 + b) = some y2) (hz : Ev none (e + 4) 228 69 [some (.ref 633), some (.int a), some (.int b), some (.int x), none] [.int 1, .int y2, .int y1, .ref 633] M v M' 0 0) : Ev none (e + 4) 228 51 [some (.ref 633), some (.int a), some (.int b), some (.int x), none] [] M v M' 0 0 := by
  refine Ev.step (pc' := 53) (ls' := [some (.ref 633), some (.int a), some (.int b), some (.int x), none]) (st' := [.ref 633, .ref 633]) (M1 := M) 2 (fun n => rfl) ?_
  refine Ev.step 1 (gs_3 rfl rfl (gf_g rfl hM v5)) ?_
  refine Ev.step (pc' := 59) (ls' := [some (.ref 633), some (.int a), some (.int b), some (.int x), none]) (st' := [.int (3 + a), .ref 635, .ref 633]) (M1 := M) 3 (fun n => rfl) ?_
  refine Ev.step 1 (gs_3 rfl rfl (ia_g r635 g1)) ?_
  refine Ev.step (pc' := 61) (ls' := [some (.ref 633), some (.int a), some (.int b), some (.int x), none]) (st' := [.ref 633, .int y1, .ref 633]) (M1 := M) 1 (fun n => rfl) ?_
  refine Ev.step 1 (gs_3 rfl rfl (gf_g rfl hM v5)) ?_
  refine Ev.step (pc' := 67) (ls' := [some (.ref 633), some (.int a), some (.int b), some (.int x), none]) (st' := [.int (3 + b), .ref 635, .int y1, .ref 633]) (M1 := M) 3 (fun n => rfl) ?_
  refine Ev.step 1 (gs_3 rfl rfl (ia_g r635 g2)) ?_
  refine Ev.step (pc' := 69) (ls' := [some (.ref 633), some (.int a), some (.int b), some (.int x), none]) (st' := [.int 1, .int y2, .int y1, .ref 633]) (M1 := M) 1 (fun n => rfl) ?_
  exact hz
theorem lg_72 {e : Nat} {M : Mem} {M' : Mem} {v : Option Value} {a b x y : Int32}  (hz : Ev none (e + 4) 228 74 [some (.ref 633), some (.int a), some (.int b), some (.int x), some (.int y)] [] M v M' 0 0) : Ev none (e + 4) 228 72 [some (.ref 633), some (.int a), some (.int b), some (.int x), none] [.int y] M v M' 0 0 := by
  refine Ev.step (pc' := 74) (ls' := [some (.ref 633), some (.int a), some (.int b), some (.int x), some (.int y)]) (st' := []) (M1 := M) 1 (fun n => rfl) ?_
  exact hz
theorem lg_74 {e : Nat} {M : Mem} {M' : Mem} {v : Option Value} {a b x y : Int32}  (hz : Ev none (e + 4) 228 (if 10000000 ≤ x then 89 else 81) [some (.ref 633), some (.int a), some (.int b), some (.int x), some (.int y)] [] M v M' 0 0) : Ev none (e + 4) 228 74 [some (.ref 633), some (.int a), some (.int b), some (.int x), some (.int y)] [] M v M' 0 0 := by
  refine Ev.step (pc' := (if 10000000 ≤ x then 89 else 81)) (ls' := [some (.ref 633), some (.int a), some (.int b), some (.int x), some (.int y)]) (st' := []) (M1 := M) 3 (fun n => rfl) ?_
  exact hz
theorem lg_81 {e : Nat} {M : Mem} {M' : Mem} {v : Option Value} {a b x y : Int32}  (hz : Ev none (e + 4) 228 (if y < 10000000 then 93 else 89) [some (.ref 633), some (.int a), some (.int b), some (.int x), some (.int y)] [] M v M' 0 0) : Ev none (e + 4) 228 81 [some (.ref 633), some (.int a), some (.int b), some (.int x), some (.int y)] [] M v M' 0 0 := by
  refine Ev.step (pc' := (if y < 10000000 then 93 else 89)) (ls' := [some (.ref 633), some (.int a), some (.int b), some (.int x), some (.int y)]) (st' := []) (M1 := M) 3 (fun n => rfl) ?_
  exact hz
theorem lg_89 {e : Nat} {M : Mem} {a b x y : Int32}  : Ev none (e + 4) 228 89 [some (.ref 633), some (.int a), some (.int b), some (.int x), some (.int y)] [] M (some (.int (-1))) M 0 0 := by
  refine Ev.step (pc' := 100) (ls' := [some (.ref 633), some (.int a), some (.int b), some (.int x), some (.int y)]) (st' := [.int (-1)]) (M1 := M) 2 (fun n => rfl) ?_
  exact Ev.ret (fun n => rfl)
theorem lg_93 {e : Nat} {M : Mem} {a b x y : Int32} (nz99 : ¬ x = 0) : Ev none (e + 4) 228 93 [some (.ref 633), some (.int a), some (.int b), some (.int x), some (.int y)] [] M (some (.int ((100 * y) / x))) M 0 0 := by
  refine Ev.step (pc' := 99) (ls' := [some (.ref 633), some (.int a), some (.int b), some (.int x), some (.int y)]) (st' := [.int x, .int (100 * y)]) (M1 := M) 4 (fun n => rfl) ?_
  refine Ev.step 1 (gs_0 (st' := [.int ((100 * y) / x)]) rfl rfl (show (if x = 0 then none else some _) = _ by rw [if_neg nz99])) ?_
  exact Ev.ret (fun n => rfl)
theorem cal_id {M : Mem} {vs : List Value} {a0 : Int32} {rest : List Value} (hM : gNth M 633 = some (.inr (11, vs))) (hr : gRoom rest = true) : gCal (.invokevirtual 340) 11 (.int a0 :: .ref 633 :: rest) M = some (.inr (152, [some (.ref 633), some (.int a0)], rest)) := by
  show @cond (Option ((List Value × Mem) ⊕ (Nat × Lo × List Value))) (true && gRecv M (.ref 633) 11 && gRoom rest && true) (some (.inr (152, [some (.ref 633), some (.int a0)], rest))) none = _
  rw [recv_ok hM, hr]
  rfl
theorem cal_sh {M : Mem} {vs : List Value} {a0 a1 a2 : Int32} {rest : List Value} (hM : gNth M 633 = some (.inr (11, vs))) (hr : gRoom rest = true) : gCal (.invokevirtual 469) 11 (.int a2 :: .int a1 :: .int a0 :: .ref 633 :: rest) M = some (.inr (227, [some (.ref 633), some (.int a0), some (.int a1), some (.int a2), none, none, none, none, none], rest)) := by
  show @cond (Option ((List Value × Mem) ⊕ (Nat × Lo × List Value))) (true && gRecv M (.ref 633) 11 && gRoom rest && true) (some (.inr (227, [some (.ref 633), some (.int a0), some (.int a1), some (.int a2), none, none, none, none, none], rest))) none = _
  rw [recv_ok hM, hr]
  rfl
theorem ev_isDoor {M : Mem} {e : Nat} {vs : List Value} {l : List Int32} {n a : Int32} (hM : gNth M 633 = some (.inr (11, vs))) (h5 : gNth vs 5 = some (.ref 635)) (hs : gNth M 635 = some (.inl (1, .inl l))) (h2 : gAt l 2 = some n) : Ev none (e + 1) 152 0 [some (.ref 633), some (.int a)] [] M (some (.int (if a < 0 then 0 else if n - 1 < a then 0 else 1))) M 0 0 := by
  refine id_0 hM h5 hs h2 (Ev.call0 (fun n => rfl) ev_isin ?_)
  by_cases c1 : a < 0
  · rw [if_pos c1]
    exact id_13z
  · rw [if_neg c1]
    by_cases c2 : n - 1 < a
    · rw [if_pos c2]
      exact id_13z
    · rw [if_neg c2]
      exact id_13o
def kX11_longer : CN := (228, 4, [.inr 1900, .inl (.negSucc 2147483647, .ofNat 2147483647), .inl (.negSucc 2147483647, .ofNat 2147483647)], [], [(28, [])], [(11, 0), (1083, 0)], [(some (.inl (.negSucc 2147483647, .ofNat 2147483647)), [], [], [], [])])
set_option maxRecDepth 100000 in
theorem mR_228 : (gNth mRs 228).map (fun q => q.2.2.2.1) = some 5 := by decide +kernel
theorem kX11_longer_ok : cnOK sT sG FL0 kX11_longer := by
  intro d M ws q hd hq ha hp hT
  have hm := mR_228
  have hq' : gNth mRs 228 = some q := hq
  rw [hq'] at hm
  have hm : q.2.2.2.1 = 5 := Option.some.inj hm
  obtain ⟨e, rfl⟩ : ∃ e, d = e + 4 := ⟨d - 4, by have : 4 ≤ d := hd; omega⟩
  rcases ws with _ | ⟨z0, _ | ⟨z1, _ | ⟨z2, _ | ⟨z3, r⟩⟩⟩⟩
  · exact ha.elim
  · exact ha.2.elim
  · exact ha.2.2.elim
  · obtain ⟨k1, ⟨a, rfl, _, _⟩, ⟨b, rfl, _, _⟩, _⟩ := ha
    have k1 : z0 = .ref 633 := k1
    subst k1
    obtain ⟨hv, hv0, hfl⟩ := hp
    obtain ⟨y28, z28, h28⟩ := hfl (28, []) (List.mem_cons_self ..)
    obtain ⟨vs, hM, hlen, hT1⟩ := hT.thr
    obtain ⟨M1, e1⟩ : ∃ M1, M1 = gPut M 633 (.inr (11, gPut vs 0 (.int 0))) := ⟨_, rfl⟩
    rw [← e1] at hT1
    have hF1 : Frm sT [(11, 0), (1083, 0)] M M1 := by rw [e1]; exact Frm.fld hM (by decide)
    have hF0 : Frm sT [(11, 0)] M M1 := by rw [e1]; exact Frm.fld hM (by decide)
    have h28 := dp0_frm 0 28 _ _ _ _ hF0 (by decide) h28
    obtain ⟨t2, l2, p1, p2, p3⟩ := fl0_28 h28
    obtain ⟨vs1, l, w, hh, m1, m2, m3, m4, m5, w1, w2, h1, h2⟩ := hT1.s_ref
    obtain ⟨vs1', l', m1', _, m3', sl⟩ := hT1.s_all
    have el : l' = l := by cases m3.symm.trans m3'; rfl
    subst el
    have el : l2 = l' := by cases p1.symm.trans m3; rfl
    subst el
    obtain ⟨n, n1, n2⟩ := at_c (l := l2) (j := 2) (kn := 2) rfl (by omega)
    obtain ⟨n0, n9⟩ := hT1.s_in m3 sB_2 n2
    rw [hm]
    have fin : ∀ (r : Int32) (M2 : Mem), TM sT sG M2 → Frm sT [(1083, 0)] M1 M2 → Ev none (e + 4) 228 5 [some (.ref 633), some (.int a), some (.int b), none, none] [] M1 (some (.int r)) M2 0 0 → ∃ v M', Ev none (e + 4) kX11_longer.1 0 (gPad 5 (gArgs [.ref 633, .int a, .int b])) [] M v M' 0 0 ∧ TM sT sG M' ∧ Frm sT kX11_longer.2.2.2.2.2.1 M M' ∧ ∃ s ∈ kX11_longer.2.2.2.2.2.2, csOK sT FL0 [.ref 633, .int a, .int b] v M' s ∧ dlOK kX11_longer.1 M M' := by
      intro r M2 q1 q2 q3
      obtain ⟨r1, r2⟩ := i32_any r
      refine ⟨some (.int r), M2, lg_0 hM hlen (by rw [← e1]; exact q3), q1, hF1.trans (q2.more (by decide)), _, List.mem_cons_self .., ⟨⟨r, rfl, r1, r2⟩, fun q hq => (by cases hq), [], trivial, fun f hf => (by cases hf), fun q hq => (by cases hq)⟩, cn_D rfl⟩
    have da := ev_isDoor (e := e + 2) (a := a) m1 m2 m3 n1
    rcases isin_01 a 0 (n - 1) with hz | ⟨a0, a9, hz⟩
    · rw [hz] at da
      exact fin (-2) M1 hT1 (Frm.refl _) (lg_5 (Ev.call0 (fun n => gs_7 rfl rfl (cal_id m1 rfl)) da (lg_10 (by rw [if_pos rfl]; exact lg_26))))
    rw [hz] at da
    have db := ev_isDoor (e := e + 2) (a := b) m1 m2 m3 n1
    rcases isin_01 b 0 (n - 1) with hz | ⟨b0, b9, hz⟩
    · rw [hz] at db
      exact fin (-2) M1 hT1 (Frm.refl _) (lg_5 (Ev.call0 (fun n => gs_7 rfl rfl (cal_id m1 rfl)) da (lg_10 (by rw [if_neg (by decide)]; exact lg_13 (Ev.call0 (fun n => gs_7 rfl rfl (cal_id m1 rfl)) db (lg_18 (by rw [if_pos rfl]; exact lg_26)))))))
    rw [hz] at db
    by_cases hab : a = b
    · exact fin (-2) M1 hT1 (Frm.refl _) (lg_5 (Ev.call0 (fun n => gs_7 rfl rfl (cal_id m1 rfl)) da (lg_10 (by rw [if_neg (by decide)]; exact lg_13 (Ev.call0 (fun n => gs_7 rfl rfl (cal_id m1 rfl)) db (lg_18 (by rw [if_neg (by decide)]; exact lg_21 (by rw [if_pos hab]; exact lg_26))))))))
    have o0 : (0 : Int32).toInt = 0 := rfl
    rw [Int32.le_iff_toInt_le] at a0 a9 b0 b9
    have dn : (n - 1).toInt = n.toInt - 1 := i32_m1 (by omega)
    obtain ⟨an, han⟩ : ∃ an : Nat, a.toInt = (an : Int) := ⟨a.toInt.toNat, by omega⟩
    obtain ⟨bn, hbn⟩ : ∃ bn : Nat, b.toInt = (bn : Int) := ⟨b.toInt.toNat, by omega⟩
    obtain ⟨_, hd⟩ := p3 w hh n m4 m5 n2
    obtain ⟨xa, xb, xa1, xb1, _, xab⟩ := hd an bn (by omega) (by omega)
    obtain ⟨_, xb9, _, xb2, xbc, _⟩ := hd bn an (by omega) (by omega)
    have hxb : xb.toInt < w.toInt * hh.toInt := by
      obtain ⟨u1, u2, u3, u4, u5, _⟩ := hd bn bn (by omega) (by omega)
      cases u3.symm.trans xb1
      exact u5
    have hne : xa ≠ xb := xab (fun e => hab (Int32.toInt_inj.mp (by omega)))
    obtain ⟨xa2, xa3⟩ := hT1.s_in m3 (List.all_eq_true.mp sB_d an (List.mem_range.mpr (by omega))) xa1
    obtain ⟨xb3, xb4⟩ := hT1.s_in m3 (List.all_eq_true.mp sB_d bn (List.mem_range.mpr (by omega))) xb1
    have o3 : (3 : Int32).toInt = 3 := rfl
    have e3a : (3 + a).toInt = ((3 + an : Nat) : Int) := by
      rw [i32_add (by rw [o3]; omega) (by rw [o3]; omega), o3]
      omega
    have e3b : (3 + b).toInt = ((3 + bn : Nat) : Int) := by
      rw [i32_add (by rw [o3]; omega) (by rw [o3]; omega), o3]
      omega
    have ga : gAt l2 (3 + a) = some xa := by rw [at_nn e3a]; exact xa1
    have gb : gAt l2 (3 + b) = some xb := by rw [at_nn e3b]; exact xb1
    obtain ⟨x, M2, s1, s2, s3, s4⟩ := ev_shortest (e := e) (a := xa) (b := xb) (f := 0) hT1 xa2 xa3 xb3 xb4
    have hx : 1 ≤ x.toInt := s4 hne (fun l9 w9 h9 q1 q2 q3 => by
      cases q1.symm.trans m3
      cases q2.symm.trans m4
      cases q3.symm.trans m5
      exact hxb)
    obtain ⟨vs2, l9, m1b, m2b, m3b, _⟩ := s2.s_all
    have hl9 := row_frm s3 sT_635 (by decide) m3
    have el : l9 = l2 := by cases hl9.symm.trans m3b; rfl
    subst el
    obtain ⟨y, M3, u1, u2, u3, _⟩ := ev_shortest (e := e) (a := xa) (b := xb) (f := 1) s2 xa2 xa3 xb3 xb4
    have tail : ∀ r : Int32, Ev none (e + 4) 228 74 [some (.ref 633), some (.int a), some (.int b), some (.int x), some (.int y)] [] M3 (some (.int r)) M3 0 0 → ∃ v M', Ev none (e + 4) kX11_longer.1 0 (gPad 5 (gArgs [.ref 633, .int a, .int b])) [] M v M' 0 0 ∧ TM sT sG M' ∧ Frm sT kX11_longer.2.2.2.2.2.1 M M' ∧ ∃ s ∈ kX11_longer.2.2.2.2.2.2, csOK sT FL0 [.ref 633, .int a, .int b] v M' s ∧ dlOK kX11_longer.1 M M' := fun r h => fin r M3 u2 (s3.trans u3) (lg_5 (Ev.call0 (fun n => gs_7 rfl rfl (cal_id m1 rfl)) da (lg_10 (by rw [if_neg (by decide)]; exact lg_13 (Ev.call0 (fun n => gs_7 rfl rfl (cal_id m1 rfl)) db (lg_18 (by rw [if_neg (by decide)]; exact lg_21 (by rw [if_neg hab]; exact lg_29 m1 m2 m3 ga gb (Ev.call0 (fun n => gs_7 rfl rfl (cal_sh m1 rfl)) s1 (lg_50 m1b m2b m3b ga gb (Ev.call0 (fun n => gs_7 rfl rfl (cal_sh m1b rfl)) u1 (lg_72 h))))))))))))
    by_cases c1 : (10000000 : Int32) ≤ x
    · exact tail (-1) (lg_74 (by rw [if_pos c1]; exact lg_89))
    by_cases c2 : y < 10000000
    · exact tail _ (lg_74 (by rw [if_neg c1]; exact lg_81 (by rw [if_pos c2]; exact lg_93 (fun h => by rw [h] at hx; exact absurd hx (by decide)))))
    · exact tail (-1) (lg_74 (by rw [if_neg c1]; exact lg_81 (by rw [if_neg c2]; exact lg_89)))
  · exact ha.2.2.2.elim
/-! CERTIFICATES (by program) -/
def kX11_rests : CN := (223, 10, [.inr 1900, .inl (.negSucc 2147483647, .ofNat 2147483647), .inl (.negSucc 2147483647, .ofNat 2147483647)], [], [(24, []), (28, [])], [(11, 0), (11, 34), (11, 35), (11, 36), (11, 37), (11, 38), (11, 39), (11, 41), (11, 42), (1063, 0), (1065, 0), (1077, 0), (1079, 0)], [(some (.inl (.negSucc 1, .ofNat 40)), [], [], [(28, [])], [])])
def kX11_rests_t : List (Nat × TP) := [(38, ([.inr (.inl (.inl 633)), .inl ([(0, .ofNat 1)], .ofNat 0), .inl ([(1, .ofNat 1)], .ofNat 0), .inl ([(2, .ofNat 1)], .ofNat 0), .inl ([(3, .ofNat 1)], .ofNat 0)], [], [(24, []), (28, []), (30, [])], [(.ofNat 1, .ofNat 40), (.ofNat 1, .ofNat 200), (.negSucc 0, .ofNat 40), (.ofNat 1, .ofNat 41)], [], [], [([], .ofNat 1), ([(3, .negSucc 0)], .ofNat 42)], [.inr (.inr 0), .inr (.inr 0), .inr (.inr 0)], []))]
set_option maxRecDepth 100000 in
theorem kX11_rests_ok : cnOK sT sG FL0 kX11_rests := ccM_V (Δ := [kX11_layAside, kX11_note, kX11_go, kX11_isNoted, kX11_layBack]) (n := 65) (N := 2) (cuts := kX11_rests_t) sU_ok dp0_ok ct0_ok (cons_ok kX11_layAside_ok (cons_ok kX11_note_ok (cons_ok kX11_go_ok (cons_ok kX11_isNoted_ok (cons_ok kX11_layBack_ok nil_ok))))) (by decide +kernel)
def kX11_turns : CN := (229, 10, [.inr 1900, .inl (.negSucc 2147483647, .ofNat 2147483647), .inl (.negSucc 2147483647, .ofNat 2147483647), .inl (.negSucc 2147483647, .ofNat 2147483647), .inl (.negSucc 2147483647, .ofNat 2147483647)], [], [(24, []), (28, [])], [(11, 0), (11, 34), (11, 35), (11, 36), (11, 37), (11, 38), (11, 39), (11, 41), (11, 42), (1063, 0), (1065, 0), (1070, 0), (1077, 0)], [(some (.inl (.negSucc 1, .ofNat 9)), [], [], [(28, [])], [])])
def kX11_turns_t : List (Nat × TP) := [(47, ([.inr (.inl (.inl 633)), .inl ([(0, .ofNat 1)], .ofNat 0), .inl ([(1, .ofNat 1)], .ofNat 0), .inl ([(2, .ofNat 1)], .ofNat 0), .inl ([(3, .ofNat 1)], .ofNat 0), .inl ([(4, .ofNat 1)], .ofNat 0), .inl ([(5, .ofNat 1)], .ofNat 0), .inr (.inr 0), .inr (.inr 0), .inr (.inr 0)], [], [(24, []), (28, [])], [(.ofNat 0, .ofNat 5), (.ofNat 1, .ofNat 4), (.ofNat 1, .ofNat 100), (.negSucc 2147483647, .ofNat 2147483647), (.negSucc 0, .ofNat 111), (.ofNat 16, .ofNat 112)], [], [], [([], .ofNat 2), ([(5, .negSucc 0)], .ofNat 113), ([], .ofNat 99), ([], .ofNat 0)], [.inr (.inr 0), .inr (.inr 0), .inr (.inr 0), .inr (.inr 0), .inr (.inr 0)], [])), (127, ([.inr (.inl (.inl 633)), .inr (.inr 0), .inl ([(0, .ofNat 1)], .ofNat 0), .inl ([(1, .ofNat 1)], .ofNat 0), .inl ([(2, .ofNat 1)], .ofNat 0), .inl ([(3, .ofNat 1)], .ofNat 0), .inl ([(4, .ofNat 1)], .ofNat 0), .inl ([(5, .ofNat 1)], .ofNat 0), .inl ([(6, .ofNat 1)], .ofNat 0), .inr (.inr 0)], [], [(24, []), (28, [])], [(.ofNat 1, .ofNat 4), (.ofNat 1, .ofNat 100), (.negSucc 2147483647, .ofNat 2147483647), (.ofNat 0, .ofNat 111), (.negSucc 2147483647, .ofNat 2147483647), (.negSucc 0, .ofNat 9), (.ofNat 0, .ofNat 10)], [], [], [([], .ofNat 1), ([(6, .negSucc 0)], .ofNat 11), ([], .ofNat 99), ([], .ofNat 0)], [.inr (.inr 0), .inr (.inr 0), .inr (.inr 0), .inr (.inr 0), .inr (.inr 0)], [])), (155, ([.inr (.inl (.inl 633)), .inr (.inr 0), .inl ([(0, .ofNat 1)], .ofNat 0), .inl ([(1, .ofNat 1)], .ofNat 0), .inl ([(2, .ofNat 1)], .ofNat 0), .inl ([(3, .ofNat 1)], .ofNat 0), .inl ([(4, .ofNat 1)], .ofNat 0), .inl ([(5, .ofNat 1)], .ofNat 0), .inl ([(6, .ofNat 1)], .ofNat 0), .inl ([(7, .ofNat 1)], .ofNat 0)], [], [(24, []), (28, []), (30, [])], [(.ofNat 1, .ofNat 4), (.ofNat 1, .ofNat 100), (.negSucc 2147483647, .ofNat 2147483647), (.ofNat 0, .ofNat 111), (.negSucc 2147483647, .ofNat 2147483647), (.negSucc 0, .negSucc 0), (.ofNat 0, .ofNat 9), (.ofNat 0, .ofNat 4)], [], [], [([], .ofNat 1), ([(6, .negSucc 0)], .ofNat 11), ([], .ofNat 1), ([(7, .negSucc 0)], .ofNat 5)], [.inr (.inr 0), .inr (.inr 0), .inr (.inr 0), .inr (.inr 0), .inr (.inr 0)], []))]
set_option maxRecDepth 100000 in
theorem kX11_turns_ok : cnOK sT sG FL0 kX11_turns := ccM_V (Δ := [kX11_layAside, kX11_go, kX11_wornMany, kX11_layBack]) (n := 91) (N := 4) (cuts := kX11_turns_t) sU_ok dp0_ok ct0_ok (cons_ok kX11_layAside_ok (cons_ok kX11_go_ok (cons_ok kX11_wornMany_ok (cons_ok kX11_layBack_ok nil_ok)))) (by decide +kernel)
def kX11_pave : CN := (230, 10, [.inr 1900, .inl (.ofNat 1, .ofNat 20), .inl (.ofNat 1, .ofNat 20), .inl (.ofNat 1, .ofNat 200)], [], [(24, []), (28, [])], [(11, 34), (11, 35), (11, 36), (11, 37), (11, 38), (11, 39), (11, 41), (11, 42), (11, 49), (11, 50), (11, 51), (1063, 0), (1065, 0), (1077, 0), (1080, 0), (1081, 0)], [(none, [], [], [(28, [])], [])])
def kX11_pave_t : List (Nat × TP) := [(7, ([.inr (.inl (.inl 633)), .inl ([(0, .ofNat 1)], .ofNat 0), .inl ([(1, .ofNat 1)], .ofNat 0), .inl ([(2, .ofNat 1)], .ofNat 0), .inl ([(3, .ofNat 1)], .ofNat 0)], [], [(24, []), (28, []), (30, [])], [(.ofNat 1, .ofNat 20), (.ofNat 1, .ofNat 20), (.ofNat 1, .ofNat 200), (.ofNat 1, .ofNat 21)], [], [], [([], .ofNat 2), ([(3, .negSucc 0)], .ofNat 22)], [.inr (.inr 0), .inr (.inr 0), .inr (.inr 0), .inr (.inr 0)], [])), (64, ([.inr (.inl (.inl 633)), .inr (.inr 0), .inr (.inr 0), .inr (.inr 0), .inl ([(0, .ofNat 1)], .ofNat 0)], [], [(24, []), (28, []), (30, [])], [(.ofNat 0, .ofNat 256)], [], [], [([], .ofNat 1), ([(0, .negSucc 0)], .ofNat 257)], [.inr (.inr 0), .inr (.inr 0), .inr (.inr 0), .inr (.inr 0)], []))]
set_option maxRecDepth 100000 in
theorem kX11_pave_ok : cnOK sT sG FL0 kX11_pave := ccM_V (Δ := [kX11_layAside, kX11_go, kX11_note, kX11_note__1, kX11_note__2, kX11_layBack]) (n := 260) (N := 2) (cuts := kX11_pave_t) sU_ok dp0_ok ct0_ok (cons_ok kX11_layAside_ok (cons_ok kX11_go_ok (cons_ok kX11_note_ok (cons_ok kX11_note__1_ok (cons_ok kX11_note__2_ok (cons_ok kX11_layBack_ok nil_ok)))))) (by decide +kernel)
def kX11_paved : CN := (231, 11, [.inr 1900, .inl (.negSucc 2147483647, .ofNat 2147483647), .inl (.negSucc 2147483647, .ofNat 2147483647), .inl (.negSucc 2147483647, .ofNat 2147483647), .inl (.negSucc 2147483647, .ofNat 2147483647)], [], [(24, []), (28, [])], [(11, 0), (11, 34), (11, 35), (11, 36), (11, 37), (11, 38), (11, 39), (11, 41), (11, 42), (11, 49), (11, 50), (11, 51), (1063, 0), (1065, 0), (1077, 0), (1080, 0), (1081, 0)], [(some (.inl (.negSucc 2147483647, .ofNat 2147483647)), [], [], [(28, [])], [])])
def kX11_paved_t : List (Nat × TP) := []
set_option maxRecDepth 100000 in
theorem kX11_paved_ok : cnOK sT sG FL0 kX11_paved := ccM_V (Δ := [kX11_pave]) (n := 128) (N := 0) (cuts := kX11_paved_t) sU_ok dp0_ok ct0_ok (cons_ok kX11_pave_ok nil_ok) (by decide +kernel)
def kX11_wait : CN := (232, 11, [.inr 1900, .inl (.negSucc 2147483647, .ofNat 2147483647), .inl (.negSucc 2147483647, .ofNat 2147483647)], [], [(24, []), (28, [])], [(11, 0), (11, 34), (11, 35), (11, 36), (11, 37), (11, 38), (11, 39), (11, 41), (11, 42), (11, 49), (11, 50), (11, 51), (1063, 0), (1065, 0), (1077, 0), (1080, 0), (1081, 0)], [(some (.inl (.negSucc 0, .ofNat 20)), [], [], [(28, [])], [])])
def kX11_wait_t : List (Nat × TP) := [(36, ([.inr (.inl (.inl 633)), .inl ([(0, .ofNat 1)], .ofNat 0), .inl ([(1, .ofNat 1)], .ofNat 0), .inl ([(2, .ofNat 1)], .ofNat 0), .inl ([(3, .ofNat 1)], .ofNat 0), .inl ([(4, .ofNat 1)], .ofNat 0), .inr (.inr 0)], [], [(24, []), (28, [])], [(.ofNat 1, .ofNat 20), (.ofNat 1, .ofNat 200), (.negSucc 0, .ofNat 20), (.negSucc 2147483647, .ofNat 2147483647), (.ofNat 1, .ofNat 21)], [], [], [([], .ofNat 1), ([(4, .negSucc 0)], .ofNat 22)], [.inr (.inr 0), .inr (.inr 0), .inr (.inr 0)], []))]
set_option maxRecDepth 100000 in
theorem kX11_wait_ok : cnOK sT sG FL0 kX11_wait := ccM_V (Δ := [kX11_pave]) (n := 65) (N := 2) (cuts := kX11_wait_t) sU_ok dp0_ok ct0_ok (cons_ok kX11_pave_ok nil_ok) (by decide +kernel)
def kX11_isTrod : CN := (233, 9, [.inr 1900, .inl (.negSucc 0, .ofNat 255), .inl (.negSucc 0, .ofNat 255), .inl (.ofNat 1, .ofNat 100)], [], [(24, []), (28, [])], [(11, 34), (11, 35), (11, 36), (11, 37), (11, 38), (11, 39), (11, 41), (11, 42), (1063, 0), (1065, 0), (1077, 0)], [(some (.inl (.ofNat 0, .ofNat 1)), [], [], [(28, [])], [])])
def kX11_isTrod_t : List (Nat × TP) := [(34, ([.inr (.inl (.inl 633)), .inr (.inr 0), .inr (.inr 0), .inl ([(0, .ofNat 1)], .ofNat 0), .inl ([(1, .ofNat 1)], .ofNat 0)], [], [(24, []), (28, []), (30, [])], [(.ofNat 1, .ofNat 100), (.ofNat 0, .ofNat 100)], [], [], [([], .ofNat 1), ([(1, .negSucc 0)], .ofNat 101)], [.inr (.inr 0), .inr (.inr 0), .inr (.inr 0), .inr (.inr 0)], []))]
set_option maxRecDepth 100000 in
theorem kX11_isTrod_ok : cnOK sT sG FL0 kX11_isTrod := ccM_V (Δ := [kX11_layAside, kX11_tick, kX11_layBack, kX11_of]) (n := 430) (N := 2) (cuts := kX11_isTrod_t) sU_ok dp0_ok ct0_ok (cons_ok kX11_layAside_ok (cons_ok kX11_tick_ok (cons_ok kX11_layBack_ok (cons_ok kX11_of_ok nil_ok)))) (by decide +kernel)
def kX11_fences : CN := (235, 10, [.inr 1900, .inl (.negSucc 2147483647, .ofNat 2147483647), .inl (.negSucc 2147483647, .ofNat 2147483647)], [], [(24, []), (28, [])], [(11, 0), (11, 2), (11, 3), (11, 4), (11, 34), (11, 35), (11, 36), (11, 37), (11, 38), (11, 39), (11, 40), (11, 41), (11, 42), (11, 53), (1063, 0), (1065, 0), (1077, 0), (1084, 0)], [(some (.inl (.negSucc 1, .ofNat 2)), [], [(.inl 633, 11, 2, .inl (.ofNat 0, .ofNat 0))], [(28, [])], [])])
def kX11_fences_t : List (Nat × TP) := [(45, ([.inr (.inl (.inl 633)), .inl ([(0, .ofNat 1)], .ofNat 0), .inl ([(1, .ofNat 1)], .ofNat 0), .inl ([(2, .ofNat 1)], .ofNat 0), .inr (.inr 0), .inr (.inr 0)], [(.inl 633, 11, 3, .inl ([(3, .ofNat 1)], .ofNat 0)), (.inl 633, 11, 2, .inl ([(4, .ofNat 1)], .ofNat 0)), (.inl 633, 11, 4, .inl ([(5, .ofNat 1)], .ofNat 0))], [(24, []), (28, [])], [(.ofNat 0, .ofNat 255), (.ofNat 1, .ofNat 100), (.ofNat 0, .ofNat 12), (.ofNat 1, .ofNat 12), (.ofNat 0, .ofNat 0), (.ofNat 0, .ofNat 0)], [], [], [([], .ofNat 3), ([(2, .negSucc 0)], .ofNat 13), ([], .ofNat 99), ([], .ofNat 0)], [.inr (.inr 0), .inr (.inr 0), .inr (.inr 0)], [])), (140, ([.inr (.inl (.inl 633)), .inr (.inr 0), .inl ([(0, .ofNat 1)], .ofNat 0), .inl ([(1, .ofNat 1)], .ofNat 0), .inl ([(2, .ofNat 1)], .ofNat 0), .inr (.inr 0)], [(.inl 633, 11, 4, .inl ([(3, .ofNat 1)], .ofNat 0)), (.inl 633, 11, 2, .inl ([(4, .ofNat 1)], .ofNat 0)), (.inl 633, 11, 3, .inl ([(5, .ofNat 1)], .ofNat 0))], [(24, []), (28, [])], [(.ofNat 1, .ofNat 100), (.negSucc 0, .ofNat 1), (.ofNat 0, .ofNat 12), (.ofNat 0, .ofNat 0), (.ofNat 0, .ofNat 0), (.ofNat 1, .ofNat 12)], [], [], [([], .ofNat 2), ([(2, .negSucc 0)], .ofNat 13), ([], .ofNat 99), ([], .ofNat 0)], [.inr (.inr 0), .inr (.inr 0), .inr (.inr 0)], [])), (190, ([.inr (.inl (.inl 633)), .inr (.inr 0), .inl ([(0, .ofNat 1)], .ofNat 0), .inl ([(1, .ofNat 1)], .ofNat 0), .inl ([(2, .ofNat 1)], .ofNat 0), .inr (.inr 0)], [(.inl 633, 11, 3, .inl ([(3, .ofNat 1)], .ofNat 0)), (.inl 633, 11, 2, .inl ([(4, .ofNat 1)], .ofNat 0)), (.inl 633, 11, 4, .inl ([(5, .ofNat 1)], .ofNat 0))], [(24, []), (28, [])], [(.ofNat 1, .ofNat 100), (.negSucc 0, .ofNat 2), (.ofNat 0, .ofNat 12), (.ofNat 1, .ofNat 12), (.ofNat 0, .ofNat 0), (.ofNat 0, .ofNat 0)], [], [], [([], .ofNat 1), ([(2, .negSucc 0)], .ofNat 13), ([], .ofNat 99), ([], .ofNat 0)], [.inr (.inr 0), .inr (.inr 0), .inr (.inr 0)], [])), (209, ([.inr (.inl (.inl 633)), .inr (.inr 0), .inl ([(0, .ofNat 1)], .ofNat 0), .inl ([(1, .ofNat 1)], .ofNat 0), .inl ([(2, .ofNat 1)], .ofNat 0), .inl ([(3, .ofNat 1)], .ofNat 0)], [(.inl 633, 11, 4, .inl ([(4, .ofNat 1)], .ofNat 0)), (.inl 633, 11, 2, .inl ([(5, .ofNat 1)], .ofNat 0)), (.inl 633, 11, 3, .inl ([(6, .ofNat 1)], .ofNat 0))], [(24, []), (28, [])], [(.ofNat 1, .ofNat 100), (.negSucc 0, .ofNat 2), (.ofNat 0, .ofNat 11), (.ofNat 1, .ofNat 12), (.ofNat 0, .ofNat 0), (.ofNat 0, .ofNat 0), (.ofNat 1, .ofNat 12)], [], [], [([], .ofNat 1), ([(2, .negSucc 0)], .ofNat 13), ([], .ofNat 1), ([(3, .negSucc 0)], .ofNat 13)], [.inr (.inr 0), .inr (.inr 0), .inr (.inr 0)], []))]
set_option maxRecDepth 100000 in
theorem kX11_fences_ok : cnOK sT sG FL0 kX11_fences := ccM_V (Δ := [kX11_octet, kX11_isDoorAt, kX11_isWalkerAt, kX11_isTrod, kX11_of]) (n := 137) (N := 4) (cuts := kX11_fences_t) sU_ok dp0_ok ct0_ok (cons_ok kX11_octet_ok (cons_ok kX11_isDoorAt_ok (cons_ok kX11_isWalkerAt_ok (cons_ok kX11_isTrod_ok (cons_ok kX11_of_ok nil_ok))))) (by decide +kernel)
def kX11_lasts : CN := (237, 10, [.inr 1900, .inl (.negSucc 2147483647, .ofNat 2147483647), .inl (.negSucc 2147483647, .ofNat 2147483647), .inl (.negSucc 2147483647, .ofNat 2147483647), .inl (.negSucc 2147483647, .ofNat 2147483647)], [], [(24, []), (28, [])], [(11, 0), (11, 34), (11, 35), (11, 36), (11, 37), (11, 38), (11, 39), (11, 41), (11, 42), (1063, 0), (1065, 0), (1077, 0)], [(some (.inl (.negSucc 1, .ofNat 40)), [], [], [(28, [])], [])])
def kX11_lasts_t : List (Nat × TP) := [(81, ([.inr (.inl (.inl 633)), .inr (.inr 0), .inl ([(0, .ofNat 1)], .ofNat 0), .inl ([(1, .ofNat 1)], .ofNat 0), .inl ([(2, .ofNat 1)], .ofNat 0), .inl ([(3, .ofNat 1)], .ofNat 0), .inl ([(4, .ofNat 1)], .ofNat 0)], [], [(24, []), (28, []), (30, [])], [(.ofNat 0, .ofNat 255), (.ofNat 1, .ofNat 40), (.ofNat 1, .ofNat 200), (.negSucc 0, .ofNat 40), (.ofNat 1, .ofNat 41)], [], [], [([], .ofNat 1), ([(4, .negSucc 0)], .ofNat 42)], [.inr (.inr 0), .inr (.inr 0), .inr (.inr 0), .inr (.inr 0), .inr (.inr 0)], []))]
set_option maxRecDepth 100000 in
theorem kX11_lasts_ok : cnOK sT sG FL0 kX11_lasts := ccM_V (Δ := [kX11_layAside, kX11_go, kX11_layBack, kX11_of]) (n := 197) (N := 2) (cuts := kX11_lasts_t) sU_ok dp0_ok ct0_ok (cons_ok kX11_layAside_ok (cons_ok kX11_go_ok (cons_ok kX11_layBack_ok (cons_ok kX11_of_ok nil_ok)))) (by decide +kernel)
def kX11_spread : CN := (219, 3, [.inr 1900], [], [], [(1078, 0)], [(none, [], [], [], [])])
def kX11_spread_I : List (Nat × TP) := [(10, ([.inr (.inl (.inl 633)), .inl ([(0, .ofNat 1)], .ofNat 0), .inl ([(1, .ofNat 1)], .ofNat 0), .inr (.inr 0)], [], [(42, [])], [(.ofNat 0, .ofNat 0), (.ofNat 0, .ofNat 256)], [], [], [([], .ofNat 1), ([], .ofNat 0), ([], .ofNat 1), ([(1, .negSucc 0)], .ofNat 257), ([], .ofNat 99), ([], .ofNat 0)], [.inr (.inr 0)], [])), (10, ([.inr (.inl (.inl 633)), .inl ([(0, .ofNat 1)], .ofNat 0), .inl ([(1, .ofNat 1)], .ofNat 0), .inr (.inr 0)], [], [(40, []), (42, [])], [(.ofNat 1, .ofNat 1), (.ofNat 1, .ofNat 256)], [], [], [([], .ofNat 1), ([], .ofNat 0), ([], .ofNat 1), ([(1, .negSucc 0)], .ofNat 257), ([], .ofNat 99), ([], .ofNat 0)], [.inr (.inr 0)], [])), (40, ([.inr (.inl (.inl 633)), .inl ([(0, .ofNat 1)], .ofNat 0), .inl ([(1, .ofNat 1)], .ofNat 0), .inl ([(2, .ofNat 1)], .ofNat 0)], [], [(42, [])], [(.ofNat 0, .ofNat 0), (.ofNat 0, .ofNat 255), (.ofNat 0, .ofNat 8), (.ofNat 0, .ofNat 0)], [], [], [([], .ofNat 1), ([], .ofNat 0), ([], .ofNat 1), ([(1, .negSucc 0)], .ofNat 257), ([], .ofNat 1), ([(2, .negSucc 0)], .ofNat 9)], [.inr (.inr 0)], [(650, ([(1, .ofNat 1)], .ofNat 0), .inl ([(3, .ofNat 1)], .ofNat 0))])), (40, ([.inr (.inl (.inl 633)), .inl ([(0, .ofNat 1)], .ofNat 0), .inl ([(1, .ofNat 1)], .ofNat 0), .inl ([(2, .ofNat 1)], .ofNat 0)], [], [(40, []), (42, [])], [(.ofNat 0, .ofNat 0), (.ofNat 0, .ofNat 255), (.ofNat 1, .ofNat 8), (.ofNat 1, .ofNat 1)], [], [], [([], .ofNat 1), ([], .ofNat 0), ([], .ofNat 1), ([(1, .negSucc 0)], .ofNat 257), ([], .ofNat 1), ([(2, .negSucc 0)], .ofNat 9)], [.inr (.inr 0)], [(650, ([(1, .ofNat 1)], .ofNat 0), .inl ([(3, .ofNat 1)], .ofNat 0))])), (40, ([.inr (.inl (.inl 633)), .inl ([(0, .ofNat 1)], .ofNat 0), .inl ([(1, .ofNat 1)], .ofNat 0), .inl ([(2, .ofNat 1)], .ofNat 0)], [], [(40, []), (42, [])], [(.ofNat 1, .ofNat 1), (.ofNat 1, .ofNat 255), (.ofNat 0, .ofNat 8), (.ofNat 0, .ofNat 1)], [], [], [([], .ofNat 1), ([], .ofNat 0), ([], .ofNat 1), ([(1, .negSucc 0)], .ofNat 257), ([], .ofNat 1), ([(2, .negSucc 0)], .ofNat 9)], [.inr (.inr 0)], [(650, ([(1, .ofNat 1)], .ofNat 0), .inl ([(3, .ofNat 1)], .ofNat 0))]))]
def kX11_spread_P : List (Nat × TP) := []
def kX11_spread_H : TP := ([.inr (.inl (.inl 633)), .inl ([(0, .ofNat 1)], .ofNat 0), .inr (.inr 0), .inr (.inr 0)], [], [], [(.ofNat 1, .ofNat 1)], [], [], [([], .ofNat 1), ([], .ofNat 0), ([], .ofNat 99), ([], .ofNat 0), ([], .ofNat 0), ([], .ofNat 0)], [.inr (.inr 0)], [])
def kX11_spread_Z : TP := ([.inr (.inl (.inl 633)), .inl ([(0, .ofNat 1)], .ofNat 0), .inr (.inr 0), .inr (.inr 0)], [], [], [(.ofNat 0, .ofNat 0)], [], [], [([], .ofNat 0), ([], .ofNat 0), ([], .ofNat 0), ([], .ofNat 0), ([], .ofNat 0), ([], .ofNat 0)], [.inr (.inr 0)], [])
set_option maxRecDepth 100000 in
theorem kX11_spread_ok : cnOK sT sG FL0 kX11_spread := ccW_V (Δ := [kX11_beside, kX11_of]) (cons_ok kX11_beside_ok (cons_ok kX11_of_ok nil_ok)) (n := 84) (N := 6) (h := 2) (a := 650) (fi := 42) (f := mB) (P := kX11_spread_P) (I := kX11_spread_I) (tH := kX11_spread_H) (t0 := kX11_spread_Z) fl_42 fl_40 ha_mark (by decide +kernel)
def kX11_pieces : CN := (218, 4, [.inr 1900], [], [], [(11, 0), (1078, 0)], [(some (.inl (.ofNat 0, .ofNat 256)), [], [], [], [])])
def kX11_pieces_t : List (Nat × TP) := [(7, ([.inr (.inl (.inl 633)), .inl ([(0, .ofNat 1)], .ofNat 0), .inr (.inr 0)], [], [], [(.ofNat 0, .ofNat 256)], [], [], [([], .ofNat 2), ([(0, .negSucc 0)], .ofNat 257)], [.inr (.inr 0)], [])), (32, ([.inr (.inl (.inl 633)), .inl ([(0, .ofNat 1)], .ofNat 0), .inl ([(1, .ofNat 1)], .ofNat 0)], [], [], [(.ofNat 0, .ofNat 256), (.ofNat 0, .ofNat 256)], [], [([(1, .ofNat 1), (0, .negSucc 0)], .ofNat 0)], [([], .ofNat 1), ([(1, .negSucc 0)], .ofNat 257)], [.inr (.inr 0)], []))]
set_option maxRecDepth 100000 in
theorem kX11_pieces_ok : cnOK sT sG FL0 kX11_pieces := ccM_V (Δ := [kX11_spread, kX11_of]) (n := 61) (N := 2) (cuts := kX11_pieces_t) sU_ok dp0_ok ct0_ok (cons_ok kX11_spread_ok (cons_ok kX11_of_ok nil_ok)) (by decide +kernel)
def kX11_least : CN := (225, 4, [.inr 1900], [], [], [(11, 0), (11, 2), (11, 3), (11, 4), (1082, 0)], [(some (.inl (.negSucc 2147483647, .ofNat 9999999)), [], [(.inl 633, 11, 2, .inl (.ofNat 0, .ofNat 0))], [], [])])
def kX11_least_t : List (Nat × TP) := [(27, ([.inr (.inl (.inl 633)), .inl ([(0, .ofNat 1)], .ofNat 0), .inr (.inr 0), .inr (.inr 0), .inr (.inr 0), .inr (.inr 0), .inr (.inr 0), .inr (.inr 0)], [(.inl 633, 11, 3, .inl ([(1, .ofNat 1)], .ofNat 0)), (.inl 633, 11, 2, .inl ([(2, .ofNat 1)], .ofNat 0)), (.inl 633, 11, 4, .inl ([(3, .ofNat 1)], .ofNat 0))], [], [(.ofNat 0, .ofNat 6), (.ofNat 2, .ofNat 6), (.ofNat 0, .ofNat 0), (.ofNat 0, .ofNat 0)], [], [], [([], .ofNat 3), ([(0, .negSucc 0)], .ofNat 7), ([], .ofNat 99), ([], .ofNat 0), ([], .ofNat 0), ([], .ofNat 0)], [.inr (.inr 0)], [])), (52, ([.inr (.inl (.inl 633)), .inl ([(0, .ofNat 1)], .ofNat 0), .inl ([(1, .ofNat 1)], .ofNat 0), .inr (.inr 0), .inr (.inr 0), .inr (.inr 0), .inr (.inr 0), .inr (.inr 0)], [(.inl 633, 11, 4, .inl ([(2, .ofNat 1)], .ofNat 0)), (.inl 633, 11, 2, .inl ([(3, .ofNat 1)], .ofNat 0)), (.inl 633, 11, 3, .inl ([(4, .ofNat 1)], .ofNat 0))], [], [(.ofNat 0, .ofNat 5), (.ofNat 0, .ofNat 5), (.ofNat 0, .ofNat 0), (.ofNat 0, .ofNat 0), (.ofNat 2, .ofNat 6)], [], [], [([], .ofNat 3), ([(0, .negSucc 0)], .ofNat 7), ([], .ofNat 1), ([(1, .negSucc 0)], .ofNat 6), ([], .ofNat 99), ([], .ofNat 0)], [.inr (.inr 0)], [])), (101, ([.inr (.inl (.inl 633)), .inl ([(0, .ofNat 1)], .ofNat 0), .inl ([(1, .ofNat 1)], .ofNat 0), .inl ([(2, .ofNat 1)], .ofNat 0), .inr (.inr 0), .inr (.inr 0), .inr (.inr 0), .inr (.inr 0)], [(.inl 633, 11, 4, .inl ([(3, .ofNat 1)], .ofNat 0)), (.inl 633, 11, 2, .inl ([(4, .ofNat 1)], .ofNat 0)), (.inl 633, 11, 3, .inl ([(5, .ofNat 1)], .ofNat 0))], [], [(.ofNat 16, .ofNat 256), (.ofNat 3, .ofNat 63), (.ofNat 1, .ofNat 64), (.ofNat 0, .ofNat 0), (.ofNat 0, .ofNat 0), (.ofNat 2, .ofNat 6)], [], [], [([], .ofNat 2), ([(2, .negSucc 0)], .ofNat 65), ([], .ofNat 99), ([], .ofNat 0), ([], .ofNat 0), ([], .ofNat 0)], [.inr (.inr 0)], [])), (109, ([.inr (.inl (.inl 633)), .inl ([(0, .ofNat 1)], .ofNat 0), .inl ([(1, .ofNat 1)], .ofNat 0), .inl ([(2, .ofNat 1)], .ofNat 0), .inl ([(3, .ofNat 1)], .ofNat 0), .inr (.inr 0), .inr (.inr 0), .inr (.inr 0)], [(.inl 633, 11, 3, .inl ([(4, .ofNat 1)], .ofNat 0)), (.inl 633, 11, 2, .inl ([(5, .ofNat 1)], .ofNat 0)), (.inl 633, 11, 4, .inl ([(6, .ofNat 1)], .ofNat 0))], [], [(.ofNat 16, .ofNat 256), (.ofNat 3, .ofNat 63), (.ofNat 1, .ofNat 63), (.ofNat 0, .ofNat 256), (.ofNat 2, .ofNat 6), (.ofNat 0, .ofNat 0), (.ofNat 0, .ofNat 0)], [], [([(1, .ofNat 1), (2, .negSucc 0)], .ofNat 0)], [([], .ofNat 2), ([(2, .negSucc 0)], .ofNat 65), ([], .ofNat 1), ([(3, .negSucc 0)], .ofNat 257), ([], .ofNat 99), ([], .ofNat 0)], [.inr (.inr 0)], [])), (123, ([.inr (.inl (.inl 633)), .inl ([(0, .ofNat 1)], .ofNat 0), .inl ([(1, .ofNat 1)], .ofNat 0), .inl ([(2, .ofNat 1)], .ofNat 0), .inl ([(3, .ofNat 1)], .ofNat 0), .inl ([(4, .ofNat 1)], .ofNat 0), .inl ([(5, .ofNat 1)], .ofNat 0), .inr (.inr 0)], [(.inl 633, 11, 4, .inl ([(6, .ofNat 1)], .ofNat 0)), (.inl 633, 11, 2, .inl ([(7, .ofNat 1)], .ofNat 0)), (.inl 633, 11, 3, .inl ([(8, .ofNat 1)], .ofNat 0))], [], [(.ofNat 16, .ofNat 256), (.ofNat 3, .ofNat 63), (.ofNat 1, .ofNat 63), (.ofNat 0, .ofNat 255), (.ofNat 1, .ofNat 10000000), (.ofNat 0, .ofNat 6), (.ofNat 0, .ofNat 0), (.ofNat 0, .ofNat 0), (.ofNat 2, .ofNat 6)], [], [([(0, .ofNat 1), (3, .negSucc 0)], .negSucc 0), ([(1, .ofNat 1), (2, .negSucc 0)], .ofNat 0)], [([], .ofNat 2), ([(2, .negSucc 0)], .ofNat 65), ([], .ofNat 1), ([(3, .negSucc 0)], .ofNat 257), ([], .ofNat 2), ([(5, .negSucc 0)], .ofNat 7)], [.inr (.inr 0)], [])), (179, ([.inr (.inl (.inl 633)), .inl ([(0, .ofNat 1)], .ofNat 0), .inl ([(1, .ofNat 1)], .ofNat 0), .inl ([(2, .ofNat 1)], .ofNat 0), .inl ([(3, .ofNat 1)], .ofNat 0), .inl ([(4, .ofNat 1)], .ofNat 0), .inl ([(5, .ofNat 1)], .ofNat 0), .inr (.inr 0)], [(.inl 633, 11, 3, .inl ([(6, .ofNat 1)], .ofNat 0)), (.inl 633, 11, 2, .inl ([(7, .ofNat 1)], .ofNat 0)), (.inl 633, 11, 4, .inl ([(8, .ofNat 1)], .ofNat 0))], [], [(.ofNat 16, .ofNat 256), (.ofNat 3, .ofNat 63), (.ofNat 1, .ofNat 63), (.ofNat 0, .ofNat 255), (.negSucc 2147483647, .ofNat 10000000), (.ofNat 0, .ofNat 62), (.ofNat 2, .ofNat 6), (.ofNat 0, .ofNat 0), (.ofNat 0, .ofNat 0)], [], [([(1, .ofNat 1), (2, .negSucc 0)], .ofNat 0)], [([], .ofNat 2), ([(2, .negSucc 0)], .ofNat 65), ([], .ofNat 1), ([(3, .negSucc 0)], .ofNat 257), ([], .ofNat 1), ([(5, .ofNat 1)], .ofNat 0)], [.inr (.inr 0)], [])), (297, ([.inr (.inl (.inl 633)), .inl ([(0, .ofNat 1)], .ofNat 0), .inl ([(1, .ofNat 1)], .ofNat 0), .inl ([(2, .ofNat 1)], .ofNat 0), .inl ([(3, .ofNat 1)], .ofNat 0), .inr (.inr 0), .inr (.inr 0), .inr (.inr 0)], [(.inl 633, 11, 3, .inl ([(4, .ofNat 1)], .ofNat 0)), (.inl 633, 11, 2, .inl ([(5, .ofNat 1)], .ofNat 0)), (.inl 633, 11, 4, .inl ([(6, .ofNat 1)], .ofNat 0))], [], [(.ofNat 16, .ofNat 256), (.ofNat 3, .ofNat 63), (.negSucc 2147483647, .ofNat 2147483647), (.ofNat 0, .ofNat 256), (.ofNat 2, .ofNat 6), (.ofNat 0, .ofNat 0), (.ofNat 0, .ofNat 0)], [], [], [([], .ofNat 1), ([(3, .negSucc 0)], .ofNat 257), ([], .ofNat 99), ([], .ofNat 0), ([], .ofNat 0), ([], .ofNat 0)], [.inr (.inr 0)], []))]
set_option maxRecDepth 100000 in
theorem kX11_least_ok : cnOK sT sG FL0 kX11_least := ccM_V (Δ := [kX11_octet, kX11_price, kX11_widen]) (n := 69) (N := 6) (cuts := kX11_least_t) sU_ok dp0_ok ct0_ok (cons_ok kX11_octet_ok (cons_ok kX11_price_ok (cons_ok kX11_widen_ok nil_ok))) (by decide +kernel)
