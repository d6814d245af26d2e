/-! THE CLASS'S READER between its methods: the tokens left -/
def bdT (n : Nat) (ts : List Tok) : Prop := ∀ t ∈ ts, t.2.1 ≤ t.2.2.1 ∧ t.2.2.1 ≤ n
/-- these tokens are left -/
def CTk (n : Nat) (M : Mem) (ts : List Tok) : Prop := ∃ (TL : List Tok) (k : Nat), ts = TL.drop k ∧ wfT ts ∧ bdT n ts ∧ (zI M 3 6).toInt = (k : Int) ∧ (zI M 3 5).toInt = (TL.length : Int) ∧ TL.length ≤ 401 ∧ TArr M TL 0 ∧ zI M 3 7 = (hdT ts).1
theorem wfT.ne {ts : List Tok} (h : wfT ts) : ∃ r, ts = hdT ts :: r := by
  cases ts with
  | nil => exact h.elim
  | cons t r => exact ⟨r, rfl⟩
section CST
variable {e n : Nat} {M M' : Mem} {v : Option Value} {ts : List Tok}
theorem CTk.frm {F : List (Nat × Nat)} {W : List Nat} (h : CTk n M ts) (hF : FA F W M M') (h1 : (3, 5) ∉ F) (h2 : (3, 6) ∉ F) (h3 : (3, 7) ∉ F) (h4 : 4 ∉ W) (h5 : 5 ∉ W) (h6 : 6 ∉ W) (h7 : 7 ∉ W) : CTk n M' ts := by
  obtain ⟨TL, k, a1, a2, a3, a4, a5, a6, a7, a8⟩ := h
  refine ⟨TL, k, a1, a2, a3, by rw [hF.fi h2]; exact a4, by rw [hF.fi h1]; exact a5, a6, fun j t hj => ?_, by rw [hF.fi h3]; exact a8⟩
  rw [hF.rn h4, hF.rn h5, hF.rn h6, hF.rn h7]
  exact a7 j t hj
/-- the token looked at, as the rows hold it -/
theorem CTk.at (h : CTk n M ts) : rI M 4 (zI M 3 6) = (hdT ts).1 ∧ (rI M 5 (zI M 3 6)).toInt = ((hdT ts).2.1 : Int) ∧ (rI M 6 (zI M 3 6)).toInt = ((hdT ts).2.2.1 : Int) ∧ ((hdT ts).1 = 3 → rI M 7 (zI M 3 6) = (hdT ts).2.2.2) ∧ zI M 3 7 = (hdT ts).1 ∧ (hdT ts).2.1 ≤ (hdT ts).2.2.1 ∧ (hdT ts).2.2.1 ≤ n := by
  obtain ⟨TL, k, a1, a2, a3, a4, a5, a6, a7, a8⟩ := h
  obtain ⟨r, hr⟩ := a2.ne
  have hk : TL[k]? = some (hdT ts) := by
    have h1 : (TL.drop k)[0]? = some (hdT ts) := by
      rw [← a1, hr]
      rfl
    rw [List.getElem?_drop] at h1
    exact h1
  obtain ⟨b1, b2, b3, b4⟩ := a7 k _ hk
  rw [Nat.zero_add] at b1 b2 b3 b4
  rw [rI_n a4, rI_n a4, rI_n a4, rI_n a4]
  obtain ⟨c1, c2⟩ := a3 (hdT ts) (by rw [hr]; exact List.mem_cons_self)
  exact ⟨b1, b2, b3, b4, a8, c1, c2⟩
theorem slS_get {B : Nat → Int32} {p k j : Nat} (h : j < k) : (slS B p k)[j]? = some (B (p + j)) := by
  unfold slS
  rw [List.getElem?_map, List.getElem?_range h]
  rfl
theorem ixF_nil : ∀ (ws : List (List Int32)) (i : Int32), (∀ u ∈ ws, u ≠ []) → ixF [] ws i = -1 := by
  intro ws
  induction ws with
  | nil => intro i _; rfl
  | cons u r ih =>
    intro i h
    show (if [] = u then i else ixF [] r (i + 1)) = -1
    rw [if_neg (fun q => h u List.mem_cons_self q.symm)]
    exact ih (i + 1) (fun x hx => h x (List.mem_cons_of_mem _ hx))
theorem amq_all {aw : Nat} {ws : List (List Int32)} (hS : SQ M) (hn2 : n ≤ 440) (hT : CTk n M ts) (hx : gTx (aw - 10) = jnW ws) (hl : (jnW ws).length ≤ 1000) (h0 : ws ≠ []) (h1 : ∀ u ∈ ws, u ≠ []) (h2 : ∀ u ∈ ws, ∀ c ∈ u, c ≠ 32) (H : Ev none e 32 0 [some (.ref 3), some (.retAddr aw), none, none, none, none, none, none] [] M v M' 0 0) : v = some (.int (ixF (wdS (bC M) (hdT ts)) ws 0)) ∧ M' = M := by
  obtain ⟨c1, c2, c3, c4, c5, c6, c7⟩ := hT.at
  rcases amq_0 hS H with ⟨g1, H⟩ | ⟨g1, g2, g3⟩
  · rw [c5] at g1
    have hw : wdS (bC M) (hdT ts) = slS (bC M) (hdT ts).2.1 ((hdT ts).2.2.1 - (hdT ts).2.1) := by
      unfold wdS
      rw [if_pos g1]
    rw [hw]
    have h := amq_loop (w := slS (bC M) (hdT ts).2.1 ((hdT ts).2.2.1 - (hdT ts).2.1)) (s0 := (hdT ts).2.1) hS (by rw [hx]; exact hl) c2 (by omega) (by rw [i32_sub (by omega) (by omega), slS_len]; omega) (by rw [slS_len]; omega) (fun j hj => by rw [slS_len] at hj; exact slS_get hj) (gTx (aw - 10)) 0 0 0 0 1 0 rfl (Nat.zero_le _) (Nat.le_refl _) rfl rfl H
    rw [hx, amG_ws ws 0 h0 h2] at h
    exact h
  · rw [c5] at g1
    have hw : wdS (bC M) (hdT ts) = [] := by
      unfold wdS
      rw [if_neg g1]
    rw [hw, ixF_nil ws 0 h1]
    exact ⟨g2, g3⟩
end CST
