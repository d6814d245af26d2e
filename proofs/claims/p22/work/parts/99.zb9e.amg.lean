/-! AMONG, exactly -/
theorem lt31 {k : Nat} (h : k ≤ 2000) : k < 2 ^ 31 := Nat.lt_of_le_of_lt h (by decide)
noncomputable def amG (w : List Int32) : List Int32 → Nat → Int32 → Int32 → Int32
  | [], j, sm, ix => if sm ≠ 0 ∧ j = w.length then ix else -1
  | c :: r, j, sm, ix => if c = 32 then (if sm ≠ 0 ∧ j = w.length then ix else amG w r 0 1 (ix + 1)) else amG w r (j + 1) (if sm ≠ 0 ∧ w[j]? = some c then 1 else 0) ix
theorem amG_u {w : List Int32} : ∀ (u r : List Int32) (j : Nat) (sm ix : Int32), (∀ c ∈ u, c ≠ 32) → amG w (u ++ 32 :: r) j sm ix = if sm ≠ 0 ∧ w.drop j = u ∧ j ≤ w.length then ix else amG w r 0 1 (ix + 1) := by
  intro u
  induction u with
  | nil =>
    intro r j sm ix _
    show (if (32 : Int32) = 32 then (if sm ≠ 0 ∧ j = w.length then ix else amG w r 0 1 (ix + 1)) else _) = _
    rw [if_pos rfl]
    congr 1
    refine propext (and_congr Iff.rfl ⟨fun q => ⟨?_, by omega⟩, fun q => ?_⟩)
    · rw [q]
      exact List.drop_length
    · have := congrArg List.length q.1
      rw [List.length_drop] at this
      have q2 := q.2
      have : w.length - j = 0 := this
      omega
  | cons c u ih =>
    intro r j sm ix hu
    have hc : ¬ c = 32 := hu c List.mem_cons_self
    show (if c = 32 then _ else amG w (u ++ 32 :: r) (j + 1) (if sm ≠ 0 ∧ w[j]? = some c then 1 else 0) ix) = _
    rw [if_neg hc, ih r (j + 1) _ ix (fun x hx => hu x (List.mem_cons_of_mem _ hx))]
    congr 1
    refine propext ⟨fun q => ?_, fun q => ?_⟩
    · obtain ⟨q1, q2, q3⟩ := q
      by_cases h : sm ≠ 0 ∧ w[j]? = some c
      · refine ⟨h.1, ?_, by omega⟩
        rw [List.drop_eq_getElem_cons (by omega), q2]
        congr 1
        have h2 := h.2
        rw [List.getElem?_eq_getElem (by omega)] at h2
        exact Option.some.inj h2
      · rw [if_neg h] at q1
        exact absurd rfl q1
    · obtain ⟨q1, q2, q3⟩ := q
      have hl := congrArg List.length q2
      rw [List.length_drop, List.length_cons] at hl
      have hj : j < w.length := by omega
      rw [List.drop_eq_getElem_cons hj] at q2
      have h1 := (List.cons.inj q2).1
      have h2 := (List.cons.inj q2).2
      rw [if_pos ⟨q1, by rw [List.getElem?_eq_getElem hj, h1]⟩]
      exact ⟨by decide, h2, by omega⟩
theorem amG_e {w : List Int32} : ∀ (u : List Int32) (j : Nat) (sm ix : Int32), (∀ c ∈ u, c ≠ 32) → amG w u j sm ix = if sm ≠ 0 ∧ w.drop j = u ∧ j ≤ w.length then ix else -1 := by
  intro u
  induction u with
  | nil =>
    intro j sm ix _
    show (if sm ≠ 0 ∧ j = w.length then ix else -1) = _
    congr 1
    refine propext (and_congr Iff.rfl ⟨fun q => ⟨?_, by omega⟩, fun q => ?_⟩)
    · rw [q]
      exact List.drop_length
    · have := congrArg List.length q.1
      rw [List.length_drop] at this
      have q2 := q.2
      have : w.length - j = 0 := this
      omega
  | cons c u ih =>
    intro j sm ix hu
    have hc : ¬ c = 32 := hu c List.mem_cons_self
    show (if c = 32 then _ else amG w u (j + 1) (if sm ≠ 0 ∧ w[j]? = some c then 1 else 0) ix) = _
    rw [if_neg hc, ih (j + 1) _ ix (fun x hx => hu x (List.mem_cons_of_mem _ hx))]
    congr 1
    refine propext ⟨fun q => ?_, fun q => ?_⟩
    · obtain ⟨q1, q2, q3⟩ := q
      by_cases h : sm ≠ 0 ∧ w[j]? = some c
      · refine ⟨h.1, ?_, by omega⟩
        rw [List.drop_eq_getElem_cons (by omega), q2]
        congr 1
        have h2 := h.2
        rw [List.getElem?_eq_getElem (by omega)] at h2
        exact Option.some.inj h2
      · rw [if_neg h] at q1
        exact absurd rfl q1
    · obtain ⟨q1, q2, q3⟩ := q
      have hl := congrArg List.length q2
      rw [List.length_drop, List.length_cons] at hl
      have hj : j < w.length := by omega
      rw [List.drop_eq_getElem_cons hj] at q2
      have h1 := (List.cons.inj q2).1
      have h2 := (List.cons.inj q2).2
      rw [if_pos ⟨q1, by rw [List.getElem?_eq_getElem hj, h1]⟩]
      exact ⟨by decide, h2, by omega⟩
def jnW : List (List Int32) → List Int32
  | [] => []
  | u :: r => match r with
    | [] => u
    | _ :: _ => u ++ 32 :: jnW r
theorem amG_ws {w : List Int32} : ∀ (ws : List (List Int32)) (ix : Int32), ws ≠ [] → (∀ u ∈ ws, ∀ c ∈ u, c ≠ 32) → amG w (jnW ws) 0 1 ix = ixF w ws ix := by
  intro ws
  induction ws with
  | nil => intro ix h; exact absurd rfl h
  | cons u r ih =>
    intro ix _ hu
    have hd : ∀ y : List Int32, ((1 : Int32) ≠ 0 ∧ w.drop 0 = y ∧ 0 ≤ w.length) ↔ w = y := fun y => ⟨fun q => q.2.1, fun q => ⟨by decide, q, Nat.zero_le _⟩⟩
    cases r with
    | nil =>
      show amG w u 0 1 ix = if w = u then ix else -1
      rw [amG_e u 0 1 ix (hu u List.mem_cons_self)]
      congr 1
      exact propext (hd u)
    | cons u2 r =>
      show amG w (u ++ 32 :: jnW (u2 :: r)) 0 1 ix = if w = u then ix else ixF w (u2 :: r) (ix + 1)
      rw [amG_u u _ 0 1 ix (hu u List.mem_cons_self), ih (ix + 1) (List.cons_ne_nil _ _) (fun x hx => hu x (List.mem_cons_of_mem _ hx))]
      congr 1
      exact propext (hd u)
section AMG
variable {e : Nat} {M M' : Mem} {v : Option Value}
theorem cI_at {k i : Nat} {z : Int32} (hz : z.toInt = (i : Int)) (hi : i < (gTx k).length) : cI k z = (gTx k)[i] := by
  obtain ⟨y, y1, y2⟩ := at_c (l := gTx k) hz hi
  unfold cI
  rw [y1]
  rw [nth_eq, List.getElem?_eq_getElem hi] at y2
  exact (Option.some.inj y2).symm
theorem amq_loop {aw : Nat} {w : List Int32} {st ln : Int32} {s0 : Nat} (hS : SQ M) (hlen : (gTx (aw - 10)).length ≤ 1000) (hst : st.toInt = (s0 : Int)) (hs0 : s0 ≤ 440) (hln : ln.toInt = (w.length : Int)) (hwl : w.length ≤ 440) (hw : ∀ j, j < w.length → w[j]? = some (rN M 2 (s0 + j))) : ∀ (r : List Int32) (i q : Nat) (iz qz sm ix : Int32), (gTx (aw - 10)).drop i = r → i ≤ (gTx (aw - 10)).length → q ≤ i → iz.toInt = (i : Int) → qz.toInt = (q : Int) → Ev none e 32 44 [some (.ref 3), some (.retAddr aw), some (.int st), some (.int ln), some (.int ix), some (.int qz), some (.int sm), some (.int iz)] [] M v M' 0 0 → v = some (.int (amG w r (i - q) sm ix)) ∧ M' = M := by
  have hle : (Int32.ofNat (gTx (aw - 10)).length).toInt = ((gTx (aw - 10)).length : Int) := nI_toInt (lt31 (by omega))
  intro r
  induction r with
  | nil =>
    intro i q iz qz sm ix hr hi hq hiz hqz H
    have hil : i = (gTx (aw - 10)).length := by
      have := congrArg List.length hr
      rw [List.length_drop] at this
      have : (gTx (aw - 10)).length - i = 0 := this
      omega
    have e1 : iz = Int32.ofNat (gTx (aw - 10)).length := Int32.toInt_inj.mp (by omega)
    have n1 : ¬ Int32.ofNat (gTx (aw - 10)).length < iz := fun x => by rw [Int32.lt_iff_toInt_lt] at x; omega
    have hz1 : (iz + 1).toInt = iz.toInt + 1 := i32_p1 (by omega)
    have hsub : (iz - qz).toInt = ((i - q : Nat) : Int) := by rw [i32_sub (by omega) (by omega)]; omega
    have out : ∀ {ix2 qz2 sm2 : Int32}, Ev none e 32 44 [some (.ref 3), some (.retAddr aw), some (.int st), some (.int ln), some (.int ix2), some (.int qz2), some (.int sm2), some (.int (iz + 1))] [] M v M' 0 0 → v = some (.int (-1)) ∧ M' = M := fun {ix2 qz2 sm2} H => by
      rcases amq_44 hS H with ⟨_, h⟩ | ⟨h, _⟩ | ⟨h, _⟩ | ⟨h, _⟩ | ⟨h, _⟩ | ⟨h, _⟩ | ⟨h, _⟩ | ⟨h, _⟩ | ⟨h, _⟩ | ⟨h, _⟩ | ⟨h, _⟩
      · exact h
      all_goals exact absurd (by rw [Int32.lt_iff_toInt_lt]; omega) h
    show v = some (.int (if sm ≠ 0 ∧ i - q = w.length then ix else -1)) ∧ M' = M
    rcases amq_44 hS H with ⟨h, _⟩ | ⟨_, _, h3, H⟩ | ⟨_, _, h3, h4, h5, h6⟩ | ⟨_, _, h3, h4, H⟩ | ⟨_, h, _⟩ | ⟨_, h, _⟩ | ⟨_, h, _⟩ | ⟨_, h, _⟩ | ⟨_, h, _⟩ | ⟨_, h, _⟩ | ⟨_, h, _⟩
    · exact absurd h n1
    · rw [if_neg (fun x => x.1 h3)]
      exact out H
    · rw [if_pos ⟨h3, by rw [h4] at hsub; omega⟩]
      exact ⟨h5, h6⟩
    · rw [if_neg (fun x => h4 (Int32.toInt_inj.mp (by omega)))]
      exact out H
    all_goals exact absurd e1 h
  | cons c r ih =>
    intro i q iz qz sm ix hr hi hq hiz hqz H
    have hil : i < (gTx (aw - 10)).length := by
      have := congrArg List.length hr
      rw [List.length_drop, List.length_cons] at this
      omega
    rw [List.drop_eq_getElem_cons hil] at hr
    have hc : (gTx (aw - 10))[i] = c := (List.cons.inj hr).1
    have hr2 := (List.cons.inj hr).2
    have e1 : ¬ iz = Int32.ofNat (gTx (aw - 10)).length := fun x => by rw [x] at hiz; omega
    have n1 : ¬ Int32.ofNat (gTx (aw - 10)).length < iz := fun x => by rw [Int32.lt_iff_toInt_lt] at x; omega
    have hz1 : (iz + 1).toInt = ((i + 1 : Nat) : Int) := by rw [i32_p1 (by omega)]; omega
    have hsub : (iz - qz).toInt = ((i - q : Nat) : Int) := by rw [i32_sub (by omega) (by omega)]; omega
    have hcI : cI (aw - 10) iz = c := (cI_at hiz hil).trans hc
    have o1 : (32 : Int32).toInt = 32 := rfl
    have sp : c = 32 → ¬ (sm ≠ 0 ∧ i - q = w.length) → Ev none e 32 44 [some (.ref 3), some (.retAddr aw), some (.int st), some (.int ln), some (.int (ix + 1)), some (.int (iz + 1)), some (.int 1), some (.int (iz + 1))] [] M v M' 0 0 → v = some (.int (amG w (c :: r) (i - q) sm ix)) ∧ M' = M := fun x1 x2 H => by
      show v = some (.int (if c = 32 then (if sm ≠ 0 ∧ i - q = w.length then ix else amG w r 0 1 (ix + 1)) else _)) ∧ M' = M
      rw [if_pos x1, if_neg x2]
      have h := ih (i + 1) (i + 1) _ _ _ _ hr2 (by omega) (Nat.le_refl _) hz1 hz1 H
      rw [Nat.sub_self] at h
      exact h
    have ch : ∀ {s2 : Int32}, ¬ c = 32 → (if sm ≠ 0 ∧ w[i - q]? = some c then (1 : Int32) else 0) = s2 → Ev none e 32 44 [some (.ref 3), some (.retAddr aw), some (.int st), some (.int ln), some (.int ix), some (.int qz), some (.int s2), some (.int (iz + 1))] [] M v M' 0 0 → v = some (.int (amG w (c :: r) (i - q) sm ix)) ∧ M' = M := fun {s2} x1 x2 H => by
      show v = some (.int (if c = 32 then _ else amG w r (i - q + 1) (if sm ≠ 0 ∧ w[i - q]? = some c then 1 else 0) ix)) ∧ M' = M
      rw [if_neg x1, x2]
      have h := ih (i + 1) q _ _ _ _ hr2 (by omega) (by omega) hz1 hqz H
      rw [show i + 1 - q = i - q + 1 from by omega] at h
      exact h
    have wn : ln ≤ iz - qz → w[i - q]? ≠ some c := fun x => by
      rw [Int32.le_iff_toInt_le] at x
      rw [List.getElem?_eq_none (by omega)]
      exact fun y => by cases y
    have ws : ¬ ln ≤ iz - qz → w[i - q]? = some (rI M 2 ((st + iz) - qz)) := fun x => by
      rw [Int32.le_iff_toInt_le] at x
      have a1 : (st + iz).toInt = st.toInt + iz.toInt := i32_add (by omega) (by omega)
      have a2 : ((st + iz) - qz).toInt = ((s0 + (i - q) : Nat) : Int) := by rw [i32_sub (by omega) (by omega)]; omega
      rw [rI_n a2]
      exact hw _ (by omega)
    rcases amq_44 hS H with ⟨h, _⟩ | ⟨_, h, _⟩ | ⟨_, h, _⟩ | ⟨_, h, _⟩ | ⟨_, _, h3, h4, H⟩ | ⟨_, _, h3, h4, h5, h6, h7⟩ | ⟨_, _, h3, h4, h5, H⟩ | ⟨_, _, h3, h4, H⟩ | ⟨_, _, h3, h4, h5, H⟩ | ⟨_, _, h3, h4, h5, h6, H⟩ | ⟨_, _, h3, h4, h5, h6, H⟩
    · exact absurd h n1
    · exact absurd h e1
    · exact absurd h e1
    · exact absurd h e1
    · rw [hcI] at h3
      exact sp h3 (fun x => x.1 h4) H
    · rw [hcI] at h3
      show v = some (.int (if c = 32 then (if sm ≠ 0 ∧ i - q = w.length then ix else amG w r 0 1 (ix + 1)) else _)) ∧ M' = M
      rw [if_pos h3, if_pos ⟨h4, by rw [h5] at hsub; omega⟩]
      exact ⟨h6, h7⟩
    · rw [hcI] at h3
      exact sp h3 (fun x => h5 (Int32.toInt_inj.mp (by omega))) H
    · rw [hcI] at h3
      exact ch h3 (by rw [if_neg (fun x => x.1 h4)]) H
    · rw [hcI] at h3
      exact ch h3 (by rw [if_neg (fun x => wn h5 x.2)]) H
    · rw [hcI] at h3 h6
      exact ch h3 (by rw [if_pos ⟨h4, by rw [ws h5, ← h6]⟩]) H
    · rw [hcI] at h3 h6
      exact ch h3 (if_neg (fun x => h6 (Option.some.inj ((ws h5).symm.trans x.2)).symm)) H
end AMG
