/-! FRAMES: what may have changed, cell by cell -/
def FA (F : List (Nat × Nat)) (W : List Nat) (M M' : Mem) : Prop := (∀ a k, (a, k) ∉ F → fV M' a k = fV M a k) ∧ (∀ b, b ∉ W → zrw M' b = zrw M b) ∧ ∀ b, roL M' b = roL M b
section FRA
variable {F G : List (Nat × Nat)} {W V : List Nat} {M M1 M2 : Mem} {a b k j i : Nat} {x : Int32} {z : Int64}
theorem FA.refl (M : Mem) : FA F W M M := ⟨fun _ _ _ => rfl, fun _ _ => rfl, fun _ => rfl⟩
theorem FA.trans (h1 : FA F W M M1) (h2 : FA F W M1 M2) : FA F W M M2 := ⟨fun a k h => (h2.1 a k h).trans (h1.1 a k h), fun b h => (h2.2.1 b h).trans (h1.2.1 b h), fun b => (h2.2.2 b).trans (h1.2.2 b)⟩
theorem FA.more (h : FA F W M M1) (hF : ∀ q ∈ F, q ∈ G) (hW : ∀ q ∈ W, q ∈ V) : FA G V M M1 := ⟨fun a k q => h.1 a k (fun r => q (hF _ r)), fun b q => h.2.1 b (fun r => q (hW _ r)), h.2.2⟩
theorem FA.fi (h : FA F W M M1) (hn : (a, k) ∉ F) : zI M1 a k = zI M a k := by unfold zI; rw [h.1 a k hn]
theorem FA.fr (h : FA F W M M1) (hn : (a, k) ∉ F) : fR M1 a k = fR M a k := by unfold fR; rw [h.1 a k hn]
theorem FA.fl (h : FA F W M M1) (hn : (a, k) ∉ F) : fL M1 a k = fL M a k := by unfold fL; rw [h.1 a k hn]
theorem FA.rn (h : FA F W M M1) (hn : b ∉ W) : rN M1 b j = rN M b j := by unfold rN; rw [h.2.1 b hn]
theorem FA.on (h : FA F W M M1) : oN M1 b j = oN M b j := by unfold oN; rw [h.2.2 b]
theorem roL_wI : roL (wI M a j x) b = roL M b := by
  unfold wI
  split
  · rename_i hM
    unfold roL
    rw [nth_put]
    by_cases hb : b = a ∧ a < M.length
    · rw [if_pos hb, hb.1, hM]
    · rw [if_neg hb]
  · rfl
theorem roL_wF : roL (wF M a k x) b = roL M b := by
  unfold wF
  split
  · rename_i c vs hM
    split
    · unfold roL
      rw [nth_put]
      by_cases hb : b = a ∧ a < M.length
      · rw [if_pos hb, hb.1, hM]
      · rw [if_neg hb]
    · rfl
  · rfl
theorem roL_wG : roL (wG M a k z) b = roL M b := by
  unfold wG
  split
  · rename_i c vs hM
    split
    · unfold roL
      rw [nth_put]
      by_cases hb : b = a ∧ a < M.length
      · rw [if_pos hb, hb.1, hM]
      · rw [if_neg hb]
    · rfl
  · rfl
theorem roL_wR {r : Nat} : roL (wR M a k r) b = roL M b := by
  unfold wR
  split
  · rename_i hM
    unfold roL
    rw [nth_put]
    by_cases hb : b = a ∧ a < M.length
    · rw [if_pos hb, hb.1, hM]
    · rw [if_neg hb]
  · rfl
theorem FA.wI (h : a ∈ W) : FA F W M (wI M a j x) := ⟨fun _ _ _ => fV_wI, fun b hb => rwL_wI_ne (fun q => hb (q ▸ h)), fun _ => roL_wI⟩
theorem FA.wF (h : (a, k) ∈ F) : FA F W M (wF M a k x) := ⟨fun b i hb => fV_wF_ne (fun q => hb (by rw [q.1, q.2]; exact h)), fun _ _ => rwL_wF, fun _ => roL_wF⟩
theorem FA.wG (h : (a, k) ∈ F) : FA F W M (wG M a k z) := ⟨fun b i hb => fV_wG_ne (fun q => hb (by rw [q.1, q.2]; exact h)), fun _ _ => rwL_wG, fun _ => roL_wG⟩
theorem FA.wR {r : Nat} (h : (a, k) ∈ F) : FA F W M (wR M a k r) := ⟨fun b i hb => fV_wR_ne (fun q => hb (by rw [q.1, q.2]; exact h)), fun _ _ => rwL_wR, fun _ => roL_wR⟩
end FRA
/-! FRAMES of the reference's reading: what is read goes into the places behind those of its texts -/
def lowQ (b j : Nat) : Prop := (640 ≤ b ∧ b ≤ 644 ∧ j < 112) ∨ (645 ≤ b ∧ b ≤ 647 ∧ j < 1400) ∨ (b = 639 ∧ j < 7)
def FB (F : List (Nat × Nat)) (W : List Nat) (M M' : Mem) : Prop := FA F W M M' ∧ ∀ b j, lowQ b j → rN M' b j = rN M b j
section FRB
variable {F G : List (Nat × Nat)} {W V : List Nat} {M M1 M2 M' : Mem} {a b k j i : Nat} {x : Int32} {z : Int64}
theorem FB.refl (M : Mem) : FB F W M M := ⟨FA.refl M, fun _ _ _ => rfl⟩
theorem FB.trans (h1 : FB F W M M1) (h2 : FB F W M1 M2) : FB F W M M2 := ⟨h1.1.trans h2.1, fun b j h => (h2.2 b j h).trans (h1.2 b j h)⟩
theorem FB.more (h : FB F W M M1) (hF : ∀ q ∈ F, q ∈ G) (hW : ∀ q ∈ W, q ∈ V) : FB G V M M1 := ⟨h.1.more hF hW, h.2⟩
theorem FB.fi (h : FB F W M M1) (hn : (a, k) ∉ F) : zI M1 a k = zI M a k := h.1.fi hn
theorem FB.fr (h : FB F W M M1) (hn : (a, k) ∉ F) : fR M1 a k = fR M a k := h.1.fr hn
theorem FB.fl (h : FB F W M M1) (hn : (a, k) ∉ F) : fL M1 a k = fL M a k := h.1.fl hn
theorem FB.rn (h : FB F W M M1) (hn : b ∉ W) : rN M1 b j = rN M b j := h.1.rn hn
theorem FB.on (h : FB F W M M1) : oN M1 b j = oN M b j := h.1.on
theorem FB.wI (h : a ∈ W) (hl : ¬ lowQ a j := by unfold lowQ; omega) : FB F W M (wI M a j x) := ⟨FA.wI h, fun b i hb => rN_wI_ne (fun q => hl (by rw [← q.1, ← q.2]; exact hb))⟩
theorem FB.wF (h : (a, k) ∈ F) : FB F W M (wF M a k x) := ⟨FA.wF h, fun _ _ _ => rN_wF⟩
theorem FB.wG (h : (a, k) ∈ F) : FB F W M (wG M a k z) := ⟨FA.wG h, fun _ _ _ => rN_wG⟩
end FRB
/-! THE TEXT, in itself: bytes, tokens -/
noncomputable def smI (c : Int32) : Int32 := if c < 97 then 0 else (if 122 < c then 0 else 1)
noncomputable def dgI (c : Int32) : Int32 := if c < 48 then 0 else (if 57 < c then 0 else 1)
/-- how many letters and digits stand from a place on -/
noncomputable def rlS (B : Nat → Int32) : Nat → Nat → Nat
  | 0, _ => 0
  | f + 1, p => if smI (B p) = 0 ∧ dgI (B p) = 0 then 0 else rlS B f (p + 1) + 1
abbrev Acc : Type := Int32 × Int32 × Int32
/-- letters, digits, value: one byte more -/
noncomputable def cs1 (c : Int32) (a : Acc) : Acc := if smI c = 0 then (a.1, a.2.1 + 1, if 3 < a.2.1 + 1 then a.2.2 else ((10 * a.2.2) + c) - 48) else (a.1 + 1, a.2.1, a.2.2)
noncomputable def cfS (B : Nat → Int32) : Nat → Nat → Acc → Acc
  | 0, _, a => a
  | k + 1, p, a => cfS B k (p + 1) (cs1 (B p) a)
noncomputable def sgS (c : Int32) : Int32 := if c = 59 ∨ c = 40 ∨ c = 41 ∨ c = 60 ∨ c = 61 ∨ c = 62 then c else 1
noncomputable def tyA (a : Acc) : Int32 := if a.2.1 = 0 ∧ ¬ 6 < a.1 then 2 else if a.1 = 0 ∧ ¬ 3 < a.2.1 then 3 else 1
/-- a token: its type (0 the end, 1 none, 2 a word, 3 a number, else a sign's byte), where it begins, where it stops, its value -/
abbrev Tok : Type := Int32 × Nat × Nat × Int32
noncomputable def tokS (B : Nat → Int32) (n p : Nat) : Tok := if rlS B (n - p) p = 0 then (sgS (B p), p, p + 1, 0) else (tyA (cfS B (rlS B (n - p) p) p (0, 0, 0)), p, p + rlS B (n - p) p, (cfS B (rlS B (n - p) p) p (0, 0, 0)).2.2)
noncomputable def mn4 (n : Nat) : Nat := if 400 < n then 400 else n
noncomputable def tsS (B : Nat → Int32) (n : Nat) : Nat → Nat → List Tok
  | 0, _ => []
  | f + 1, p => if mn4 n ≤ p then [(0, mn4 n, mn4 n, 0)] else if B p = 32 ∨ B p = 10 then tsS B n f (p + 1) else if (tokS B n p).1 = 1 then [tokS B n p] else tokS B n p :: tsS B n f (tokS B n p).2.2.1
theorem tokS_at {B : Nat → Int32} {n p : Nat} : (tokS B n p).2.1 = p := by
  unfold tokS
  split <;> rfl
theorem tokS_lt {B : Nat → Int32} {n p : Nat} : p < (tokS B n p).2.2.1 := by
  unfold tokS
  split
  · show p < p + 1
    omega
  · show p < p + _
    omega
theorem rlS_le {B : Nat → Int32} : ∀ f p, rlS B f p ≤ f := by
  intro f
  induction f with
  | zero => intro p; exact Nat.le_refl _
  | succ f ih =>
    intro p
    unfold rlS
    split
    · omega
    · have := ih (p + 1)
      omega
theorem tokS_le {B : Nat → Int32} {n p : Nat} (h : p < n) : (tokS B n p).2.2.1 ≤ n := by
  have := rlS_le (B := B) (n - p) p
  unfold tokS
  split
  · show p + 1 ≤ n
    omega
  · show p + _ ≤ n
    omega
theorem mn4_le {n : Nat} : mn4 n ≤ n := by
  unfold mn4
  split <;> omega
theorem tsS_f {B : Nat → Int32} {n : Nat} : ∀ f g p, p ≤ n → n < f + p → n < g + p → tsS B n f p = tsS B n g p := by
  intro f
  induction f with
  | zero => intro g p h0 h1 h2; omega
  | succ f ih =>
    intro g p h0 h1 h2
    cases g with
    | zero => omega
    | succ g =>
      unfold tsS
      by_cases h3 : mn4 n ≤ p
      · rw [if_pos h3, if_pos h3]
      · rw [if_neg h3, if_neg h3]
        have hm := mn4_le (n := n)
        by_cases h4 : B p = 32 ∨ B p = 10
        · rw [if_pos h4, if_pos h4]
          exact ih g (p + 1) (by omega) (by omega) (by omega)
        · rw [if_neg h4, if_neg h4]
          have h5 := tokS_lt (B := B) (n := n) (p := p)
          have h6 := tokS_le (B := B) (n := n) (p := p) (by omega)
          rw [ih g (tokS B n p).2.2.1 h6 (by omega) (by omega)]
/-- the tokens from a place on -/
noncomputable def tlS (B : Nat → Int32) (n p : Nat) : List Tok := tsS B n (n + 1 - p) p
theorem tlS_end {B : Nat → Int32} {n p : Nat} (h0 : p ≤ n) (h : mn4 n ≤ p) : tlS B n p = [(0, mn4 n, mn4 n, 0)] := by
  unfold tlS
  obtain ⟨f, hf⟩ : ∃ f, n + 1 - p = f + 1 := ⟨n - p, by omega⟩
  rw [hf]
  unfold tsS
  rw [if_pos h]
theorem tlS_bl {B : Nat → Int32} {n p : Nat} (h : ¬ mn4 n ≤ p) (hb : B p = 32 ∨ B p = 10) : tlS B n p = tlS B n (p + 1) := by
  have hm := mn4_le (n := n)
  unfold tlS
  obtain ⟨f, hf⟩ : ∃ f, n + 1 - p = f + 1 := ⟨n - p, by omega⟩
  rw [hf, tsS_f (n + 1 - (p + 1)) f (p + 1) (by omega) (by omega) (by omega)]
  conv => lhs; unfold tsS
  rw [if_neg h, if_pos hb]
theorem tlS_no {B : Nat → Int32} {n p : Nat} (h : ¬ mn4 n ≤ p) (hb : ¬ (B p = 32 ∨ B p = 10)) (h1 : (tokS B n p).1 = 1) : tlS B n p = [tokS B n p] := by
  have hm := mn4_le (n := n)
  unfold tlS
  obtain ⟨f, hf⟩ : ∃ f, n + 1 - p = f + 1 := ⟨n - p, by omega⟩
  rw [hf]
  unfold tsS
  rw [if_neg h, if_neg hb, if_pos h1]
theorem tlS_tok {B : Nat → Int32} {n p : Nat} (h : ¬ mn4 n ≤ p) (hb : ¬ (B p = 32 ∨ B p = 10)) (h1 : ¬ (tokS B n p).1 = 1) : tlS B n p = tokS B n p :: tlS B n (tokS B n p).2.2.1 := by
  have hm := mn4_le (n := n)
  have h5 := tokS_lt (B := B) (n := n) (p := p)
  have h6 := tokS_le (B := B) (n := n) (p := p) (by omega)
  unfold tlS
  obtain ⟨f, hf⟩ : ∃ f, n + 1 - p = f + 1 := ⟨n - p, by omega⟩
  rw [hf, tsS_f (n + 1 - (tokS B n p).2.2.1) f _ h6 (by omega) (by omega)]
  conv => lhs; unfold tsS
  rw [if_neg h, if_neg hb, if_neg h1]
theorem tlS_ne {B : Nat → Int32} {n : Nat} : ∀ j p, p ≤ n → n - p = j → tlS B n p ≠ [] := by
  intro j
  induction j with
  | zero =>
    intro p h0 h1
    have hm := mn4_le (n := n)
    rw [tlS_end h0 (by omega)]
    exact List.cons_ne_nil _ _
  | succ j ih =>
    intro p h0 h1
    by_cases h : mn4 n ≤ p
    · rw [tlS_end h0 h]
      exact List.cons_ne_nil _ _
    · by_cases hb : B p = 32 ∨ B p = 10
      · rw [tlS_bl h hb]
        exact ih (p + 1) (by omega) (by omega)
      · by_cases h1 : (tokS B n p).1 = 1
        · rw [tlS_no h hb h1]
          exact List.cons_ne_nil _ _
        · rw [tlS_tok h hb h1]
          exact List.cons_ne_nil _ _
/-- only the bytes below n count -/
theorem rlS_cg {B A : Nat → Int32} {n : Nat} (h : ∀ k, k < n → B k = A k) : ∀ f p, p + f ≤ n → rlS B f p = rlS A f p := by
  intro f
  induction f with
  | zero => intro p _; rfl
  | succ f ih =>
    intro p hp
    unfold rlS
    rw [h p (by omega), ih (p + 1) (by omega)]
theorem cfS_cg {B A : Nat → Int32} {n : Nat} (h : ∀ k, k < n → B k = A k) : ∀ f p a, p + f ≤ n → cfS B f p a = cfS A f p a := by
  intro f
  induction f with
  | zero => intro p a _; rfl
  | succ f ih =>
    intro p a hp
    unfold cfS
    rw [h p (by omega), ih (p + 1) _ (by omega)]
theorem tokS_cg {B A : Nat → Int32} {n p : Nat} (h : ∀ k, k < n → B k = A k) (hp : p < n) : tokS B n p = tokS A n p := by
  unfold tokS
  have h1 := rlS_cg h (n - p) p (by omega)
  have h2 := rlS_le (B := A) (n - p) p
  rw [h1, h p hp, cfS_cg h (rlS A (n - p) p) p _ (by omega)]
theorem tlS_cg {B A : Nat → Int32} {n : Nat} (h : ∀ k, k < n → B k = A k) : ∀ m p, n - p ≤ m → p ≤ n → tlS B n p = tlS A n p := by
  intro m
  induction m with
  | zero =>
    intro p h1 h2
    have hm := mn4_le (n := n)
    rw [tlS_end h2 (by omega), tlS_end h2 (by omega)]
  | succ m ih =>
    intro p h1 h2
    have hm := mn4_le (n := n)
    by_cases hq : mn4 n ≤ p
    · rw [tlS_end h2 hq, tlS_end h2 hq]
    · have hp : p < n := by omega
      by_cases hb : B p = 32 ∨ B p = 10
      · rw [tlS_bl hq hb, tlS_bl hq (by rw [← h p hp]; exact hb)]
        exact ih (p + 1) (by omega) (by omega)
      · have hb2 : ¬ (A p = 32 ∨ A p = 10) := by
          rw [← h p hp]
          exact hb
        have ht := tokS_cg h hp
        have h3 := tokS_lt (B := A) (n := n) (p := p)
        have h4 := tokS_le (B := A) (n := n) (p := p) hp
        by_cases h1 : (tokS B n p).1 = 1
        · rw [tlS_no hq hb h1, tlS_no hq hb2 (by rw [← ht]; exact h1), ht]
        · rw [tlS_tok hq hb h1, tlS_tok hq hb2 (by rw [← ht]; exact h1), ht, ih _ (by omega) h4]
/-! THE CLASS'S READER: pieces (made by gcl.py) -/
noncomputable def G_126 (M : Mem) (x : Int32) (y : Int32) (z : Int32) : Int32 := if x < y then 0 else (if z < x then 0 else 1)
theorem g_126 {e : Nat} {M M' : Mem} {v : Option Value} {x y z : Int32} (hS : SQ M) (H : Ev none e 126 0 [some (.int x), some (.int y), some (.int z)] [] M v M' 0 0) : v = some (.int (G_126 M x y z)) ∧ M' = M := by
  unfold G_126
  have H : Ev none e 126 (if x < y then 14 else 5) [some (.int x), some (.int y), some (.int z)] [] M v M' 0 0 := Ev.back 3 (fun n => rfl) H
  by_cases h1 : x < y
  · rw [if_pos h1] at H
    have H : Ev none e 126 15 [some (.int x), some (.int y), some (.int z)] [.int 0] M v M' 0 0 := Ev.back 1 (fun n => rfl) H
    obtain ⟨p1, p2⟩ := Ev.retz rfl rfl H
    exact ⟨by rw [if_pos h1]; exact p1, p2⟩
  · rw [if_neg h1] at H
    have H : Ev none e 126 (if z < x then 14 else 10) [some (.int x), some (.int y), some (.int z)] [] M v M' 0 0 := Ev.back 3 (fun n => rfl) H
    by_cases h2 : z < x
    · rw [if_pos h2] at H
      have H : Ev none e 126 15 [some (.int x), some (.int y), some (.int z)] [.int 0] M v M' 0 0 := Ev.back 1 (fun n => rfl) H
      obtain ⟨p1, p2⟩ := Ev.retz rfl rfl H
      exact ⟨by rw [if_neg h1, if_pos h2]; exact p1, p2⟩
    · rw [if_neg h2] at H
      have H : Ev none e 126 15 [some (.int x), some (.int y), some (.int z)] [.int 1] M v M' 0 0 := Ev.back 2 (fun n => rfl) H
      obtain ⟨p1, p2⟩ := Ev.retz rfl rfl H
      exact ⟨by rw [if_neg h1, if_neg h2]; exact p1, p2⟩
noncomputable def G_30 (M : Mem) (k : Int32) : Int32 := if (rI M 2 k) = 59 then rI M 2 k else (if (rI M 2 k) = 40 then rI M 2 k else (if (rI M 2 k) = 41 then rI M 2 k else (if (rI M 2 k) = 60 then rI M 2 k else (if (rI M 2 k) = 61 then rI M 2 k else (if (rI M 2 k) = 62 then rI M 2 k else 1)))))
theorem g_30 {e : Nat} {M M' : Mem} {v : Option Value} {k : Int32} (hS : SQ M) (H : Ev none e 30 0 [some (.ref 3), some (.int k), none, none] [] M v M' 0 0) : v = some (.int (G_30 M k)) ∧ M' = M := by
  unfold G_30
  have H : Ev none e 30 1 [some (.ref 3), some (.int k), none, none] [.ref 3] M v M' 0 0 := Ev.back 1 (fun n => rfl) H
  have H : Ev none e 30 4 [some (.ref 3), some (.int k), none, none] [.ref 1] M v M' 0 0 := Ev.back 1 (gs_3 rfl rfl (gf_u hS.1 qa_3 qr_3_0 qu_1 rfl)) H
  have H : Ev none e 30 7 [some (.ref 3), some (.int k), none, none] [.ref 2] M v M' 0 0 := Ev.back 1 (gs_3 rfl rfl (gf_u hS.1 qa_1 qr_1_0 qu_2 rfl)) H
  have H : Ev none e 30 8 [some (.ref 3), some (.int k), none, none] [.int k, .ref 2] M v M' 0 0 := Ev.back 1 (fun n => rfl) H
  obtain ⟨b1, H⟩ := Ev.ial rfl rfl hS.1 qa_2 qw_2 H
  have H : Ev none e 30 9 [some (.ref 3), some (.int k), none, none] [.int (rI M 2 k)] M v M' 0 0 := H
  have H : Ev none e 30 (if (rI M 2 k) = 59 then 46 else 16) [some (.ref 3), some (.int k), some (.int (rI M 2 k)), none] [] M v M' 0 0 := Ev.back 4 (fun n => rfl) H
  by_cases h2 : (rI M 2 k) = 59
  · rw [if_pos h2] at H
    have H : Ev none e 30 (if 1 = 0 then 60 else 56) [some (.ref 3), some (.int k), some (.int (rI M 2 k)), some (.int 1)] [] M v M' 0 0 := Ev.back 5 (fun n => rfl) H
    rw [if_neg (by decide)] at H
    have H : Ev none e 30 61 [some (.ref 3), some (.int k), some (.int (rI M 2 k)), some (.int 1)] [.int (rI M 2 k)] M v M' 0 0 := Ev.back 2 (fun n => rfl) H
    obtain ⟨p1, p2⟩ := Ev.retz rfl rfl H
    exact ⟨by rw [if_pos h2]; exact p1, p2⟩
  · rw [if_neg h2] at H
    have H : Ev none e 30 (if (rI M 2 k) = 40 then 46 else 22) [some (.ref 3), some (.int k), some (.int (rI M 2 k)), none] [] M v M' 0 0 := Ev.back 3 (fun n => rfl) H
    by_cases h3 : (rI M 2 k) = 40
    · rw [if_pos h3] at H
      have H : Ev none e 30 (if 1 = 0 then 60 else 56) [some (.ref 3), some (.int k), some (.int (rI M 2 k)), some (.int 1)] [] M v M' 0 0 := Ev.back 5 (fun n => rfl) H
      rw [if_neg (by decide)] at H
      have H : Ev none e 30 61 [some (.ref 3), some (.int k), some (.int (rI M 2 k)), some (.int 1)] [.int (rI M 2 k)] M v M' 0 0 := Ev.back 2 (fun n => rfl) H
      obtain ⟨p1, p2⟩ := Ev.retz rfl rfl H
      exact ⟨by rw [if_neg h2, if_pos h3]; exact p1, p2⟩
    · rw [if_neg h3] at H
      have H : Ev none e 30 (if (rI M 2 k) = 41 then 46 else 28) [some (.ref 3), some (.int k), some (.int (rI M 2 k)), none] [] M v M' 0 0 := Ev.back 3 (fun n => rfl) H
      by_cases h4 : (rI M 2 k) = 41
      · rw [if_pos h4] at H
        have H : Ev none e 30 (if 1 = 0 then 60 else 56) [some (.ref 3), some (.int k), some (.int (rI M 2 k)), some (.int 1)] [] M v M' 0 0 := Ev.back 5 (fun n => rfl) H
        rw [if_neg (by decide)] at H
        have H : Ev none e 30 61 [some (.ref 3), some (.int k), some (.int (rI M 2 k)), some (.int 1)] [.int (rI M 2 k)] M v M' 0 0 := Ev.back 2 (fun n => rfl) H
        obtain ⟨p1, p2⟩ := Ev.retz rfl rfl H
        exact ⟨by rw [if_neg h2, if_neg h3, if_pos h4]; exact p1, p2⟩
      · rw [if_neg h4] at H
        have H : Ev none e 30 (if (rI M 2 k) = 60 then 46 else 34) [some (.ref 3), some (.int k), some (.int (rI M 2 k)), none] [] M v M' 0 0 := Ev.back 3 (fun n => rfl) H
        by_cases h5 : (rI M 2 k) = 60
        · rw [if_pos h5] at H
          have H : Ev none e 30 (if 1 = 0 then 60 else 56) [some (.ref 3), some (.int k), some (.int (rI M 2 k)), some (.int 1)] [] M v M' 0 0 := Ev.back 5 (fun n => rfl) H
          rw [if_neg (by decide)] at H
          have H : Ev none e 30 61 [some (.ref 3), some (.int k), some (.int (rI M 2 k)), some (.int 1)] [.int (rI M 2 k)] M v M' 0 0 := Ev.back 2 (fun n => rfl) H
          obtain ⟨p1, p2⟩ := Ev.retz rfl rfl H
          exact ⟨by rw [if_neg h2, if_neg h3, if_neg h4, if_pos h5]; exact p1, p2⟩
        · rw [if_neg h5] at H
          have H : Ev none e 30 (if (rI M 2 k) = 61 then 46 else 40) [some (.ref 3), some (.int k), some (.int (rI M 2 k)), none] [] M v M' 0 0 := Ev.back 3 (fun n => rfl) H
          by_cases h6 : (rI M 2 k) = 61
          · rw [if_pos h6] at H
            have H : Ev none e 30 (if 1 = 0 then 60 else 56) [some (.ref 3), some (.int k), some (.int (rI M 2 k)), some (.int 1)] [] M v M' 0 0 := Ev.back 5 (fun n => rfl) H
            rw [if_neg (by decide)] at H
            have H : Ev none e 30 61 [some (.ref 3), some (.int k), some (.int (rI M 2 k)), some (.int 1)] [.int (rI M 2 k)] M v M' 0 0 := Ev.back 2 (fun n => rfl) H
            obtain ⟨p1, p2⟩ := Ev.retz rfl rfl H
            exact ⟨by rw [if_neg h2, if_neg h3, if_neg h4, if_neg h5, if_pos h6]; exact p1, p2⟩
          · rw [if_neg h6] at H
            have H : Ev none e 30 (if (rI M 2 k) = 62 then 46 else 50) [some (.ref 3), some (.int k), some (.int (rI M 2 k)), none] [] M v M' 0 0 := Ev.back 3 (fun n => rfl) H
            by_cases h7 : (rI M 2 k) = 62
            · rw [if_pos h7] at H
              have H : Ev none e 30 (if 1 = 0 then 60 else 56) [some (.ref 3), some (.int k), some (.int (rI M 2 k)), some (.int 1)] [] M v M' 0 0 := Ev.back 5 (fun n => rfl) H
              rw [if_neg (by decide)] at H
              have H : Ev none e 30 61 [some (.ref 3), some (.int k), some (.int (rI M 2 k)), some (.int 1)] [.int (rI M 2 k)] M v M' 0 0 := Ev.back 2 (fun n => rfl) H
              obtain ⟨p1, p2⟩ := Ev.retz rfl rfl H
              exact ⟨by rw [if_neg h2, if_neg h3, if_neg h4, if_neg h5, if_neg h6, if_pos h7]; exact p1, p2⟩
            · rw [if_neg h7] at H
              have H : Ev none e 30 (if 0 = 0 then 60 else 56) [some (.ref 3), some (.int k), some (.int (rI M 2 k)), some (.int 0)] [] M v M' 0 0 := Ev.back 4 (fun n => rfl) H
              rw [if_pos (by decide)] at H
              have H : Ev none e 30 61 [some (.ref 3), some (.int k), some (.int (rI M 2 k)), some (.int 0)] [.int 1] M v M' 0 0 := Ev.back 1 (fun n => rfl) H
              obtain ⟨p1, p2⟩ := Ev.retz rfl rfl H
              exact ⟨by rw [if_neg h2, if_neg h3, if_neg h4, if_neg h5, if_neg h6, if_neg h7]; exact p1, p2⟩
theorem ta_0 {e : Nat} {M M' : Mem} {v : Option Value} {aq : Int32} (hS : SQ M) (H : Ev none e 29 0 [some (.ref 3), some (.int aq), none, none, none, none, none] [] M v M' 0 0) : Ev none e 29 10 [some (.ref 3), some (.int aq), some (.int 0), some (.int 0), some (.int 0), some (.int aq), none] [] M v M' 0 0 := by
  have H : Ev none e 29 10 [some (.ref 3), some (.int aq), some (.int 0), some (.int 0), some (.int 0), some (.int aq), none] [] M v M' 0 0 := Ev.back 8 (fun n => rfl) H
  have HF := H
  exact HF
theorem ta_10 {e : Nat} {M M' : Mem} {v : Option Value} {aq L D V z : Int32} {c0 : Option Value} (hS : SQ M) (H : Ev none e 29 10 [some (.ref 3), some (.int aq), some (.int L), some (.int D), some (.int V), some (.int z), c0] [] M v M' 0 0) : ((zI M 1 1) ≤ z ∧ Ev none e 29 96 [some (.ref 3), some (.int aq), some (.int L), some (.int D), some (.int V), some (.int z), c0] [] M v M' 0 0) ∨ (¬ ((zI M 1 1) ≤ z) ∧ (G_126 M (rI M 2 z) 97 122) = 0 ∧ (G_126 M (rI M 2 z) 48 57) = 0 ∧ Ev none e 29 96 [some (.ref 3), some (.int aq), some (.int L), some (.int D), some (.int V), some (.int z), some (.int (rI M 2 z))] [] M v M' 0 0) ∨ (¬ ((zI M 1 1) ≤ z) ∧ (G_126 M (rI M 2 z) 97 122) = 0 ∧ ¬ ((G_126 M (rI M 2 z) 48 57) = 0) ∧ 3 < (D + 1) ∧ Ev none e 29 10 [some (.ref 3), some (.int aq), some (.int L), some (.int (D + 1)), some (.int V), some (.int (z + 1)), some (.int (rI M 2 z))] [] M v M' 0 0) ∨ (¬ ((zI M 1 1) ≤ z) ∧ (G_126 M (rI M 2 z) 97 122) = 0 ∧ ¬ ((G_126 M (rI M 2 z) 48 57) = 0) ∧ ¬ (3 < (D + 1)) ∧ Ev none e 29 10 [some (.ref 3), some (.int aq), some (.int L), some (.int (D + 1)), some (.int (((10 * V) + (rI M 2 z)) - 48)), some (.int (z + 1)), some (.int (rI M 2 z))] [] M v M' 0 0) ∨ (¬ ((zI M 1 1) ≤ z) ∧ ¬ ((G_126 M (rI M 2 z) 97 122) = 0) ∧ Ev none e 29 10 [some (.ref 3), some (.int aq), some (.int (L + 1)), some (.int D), some (.int V), some (.int (z + 1)), some (.int (rI M 2 z))] [] M v M' 0 0) := by
  have H : Ev none e 29 13 [some (.ref 3), some (.int aq), some (.int L), some (.int D), some (.int V), some (.int z), c0] [.ref 3, .int z] M v M' 0 0 := Ev.back 2 (fun n => rfl) H
  have H : Ev none e 29 16 [some (.ref 3), some (.int aq), some (.int L), some (.int D), some (.int V), some (.int z), c0] [.ref 1, .int z] M v M' 0 0 := Ev.back 1 (gs_3 rfl rfl (gf_u hS.1 qa_3 qr_3_0 qu_1 rfl)) H
  have H : Ev none e 29 19 [some (.ref 3), some (.int aq), some (.int L), some (.int D), some (.int V), some (.int z), c0] [.int (zI M 1 1), .int z] M v M' 0 0 := Ev.back 1 (gs_3 rfl rfl (gf_i hS.1 qa_1 qi_1_1 rfl)) H
  have H : Ev none e 29 (if (zI M 1 1) ≤ z then 96 else 22) [some (.ref 3), some (.int aq), some (.int L), some (.int D), some (.int V), some (.int z), c0] [] M v M' 0 0 := Ev.back 1 (fun n => rfl) H
  by_cases h1 : (zI M 1 1) ≤ z
  · rw [if_pos h1] at H
    have HF := H
    exact Or.inl ⟨h1, HF⟩
  · rw [if_neg h1] at H
    have H : Ev none e 29 23 [some (.ref 3), some (.int aq), some (.int L), some (.int D), some (.int V), some (.int z), c0] [.ref 3] M v M' 0 0 := Ev.back 1 (fun n => rfl) H
    have H : Ev none e 29 26 [some (.ref 3), some (.int aq), some (.int L), some (.int D), some (.int V), some (.int z), c0] [.ref 1] M v M' 0 0 := Ev.back 1 (gs_3 rfl rfl (gf_u hS.1 qa_3 qr_3_0 qu_1 rfl)) H
    have H : Ev none e 29 29 [some (.ref 3), some (.int aq), some (.int L), some (.int D), some (.int V), some (.int z), c0] [.ref 2] M v M' 0 0 := Ev.back 1 (gs_3 rfl rfl (gf_u hS.1 qa_1 qr_1_0 qu_2 rfl)) H
    have H : Ev none e 29 31 [some (.ref 3), some (.int aq), some (.int L), some (.int D), some (.int V), some (.int z), c0] [.int z, .ref 2] M v M' 0 0 := Ev.back 1 (fun n => rfl) H
    obtain ⟨b2, H⟩ := Ev.ial rfl rfl hS.1 qa_2 qw_2 H
    have H : Ev none e 29 32 [some (.ref 3), some (.int aq), some (.int L), some (.int D), some (.int V), some (.int z), c0] [.int (rI M 2 z)] M v M' 0 0 := H
    have H : Ev none e 29 40 [some (.ref 3), some (.int aq), some (.int L), some (.int D), some (.int V), some (.int z), some (.int (rI M 2 z))] [.int 122, .int 97, .int (rI M 2 z)] M v M' 0 0 := Ev.back 4 (fun n => rfl) H
    obtain ⟨e1, rfl⟩ := Ev.dpos rfl rfl H
    obtain ⟨vK3, MK3, K3, H⟩ := Ev.callb (fun n => rfl) H
    obtain ⟨pK3, qK3⟩ := g_126 hS K3
    rw [pK3, qK3] at H
    have H : Ev none (e1 + 1) 29 43 [some (.ref 3), some (.int aq), some (.int L), some (.int D), some (.int V), some (.int z), some (.int (rI M 2 z))] [.int (G_126 M (rI M 2 z) 97 122)] M v M' 0 0 := H
    have H : Ev none (e1 + 1) 29 (if (G_126 M (rI M 2 z) 97 122) = 0 then 52 else 46) [some (.ref 3), some (.int aq), some (.int L), some (.int D), some (.int V), some (.int z), some (.int (rI M 2 z))] [] M v M' 0 0 := Ev.back 1 (fun n => rfl) H
    by_cases h4 : (G_126 M (rI M 2 z) 97 122) = 0
    · rw [if_pos h4] at H
      have H : Ev none (e1 + 1) 29 58 [some (.ref 3), some (.int aq), some (.int L), some (.int D), some (.int V), some (.int z), some (.int (rI M 2 z))] [.int 57, .int 48, .int (rI M 2 z)] M v M' 0 0 := Ev.back 3 (fun n => rfl) H
      obtain ⟨vK5, MK5, K5, H⟩ := Ev.callb (fun n => rfl) H
      obtain ⟨pK5, qK5⟩ := g_126 hS K5
      rw [pK5, qK5] at H
      have H : Ev none (e1 + 1) 29 61 [some (.ref 3), some (.int aq), some (.int L), some (.int D), some (.int V), some (.int z), some (.int (rI M 2 z))] [.int (G_126 M (rI M 2 z) 48 57)] M v M' 0 0 := H
      have H : Ev none (e1 + 1) 29 (if (G_126 M (rI M 2 z) 48 57) = 0 then 96 else 64) [some (.ref 3), some (.int aq), some (.int L), some (.int D), some (.int V), some (.int z), some (.int (rI M 2 z))] [] M v M' 0 0 := Ev.back 1 (fun n => rfl) H
      by_cases h6 : (G_126 M (rI M 2 z) 48 57) = 0
      · rw [if_pos h6] at H
        have HF := H
        exact Or.inr (Or.inl ⟨h1, h4, h6, HF⟩)
      · rw [if_neg h6] at H
        have H : Ev none (e1 + 1) 29 (if 3 < (D + 1) then 86 else 72) [some (.ref 3), some (.int aq), some (.int L), some (.int (D + 1)), some (.int V), some (.int z), some (.int (rI M 2 z))] [] M v M' 0 0 := Ev.back 4 (fun n => rfl) H
        by_cases h7 : 3 < (D + 1)
        · rw [if_pos h7] at H
          have H : Ev none (e1 + 1) 29 10 [some (.ref 3), some (.int aq), some (.int L), some (.int (D + 1)), some (.int V), some (.int (z + 1)), some (.int (rI M 2 z))] [] M v M' 0 0 := Ev.back 4 (fun n => rfl) H
          have HF := H
          exact Or.inr (Or.inr (Or.inl ⟨h1, h4, h6, h7, HF⟩))
        · rw [if_neg h7] at H
          have H : Ev none (e1 + 1) 29 10 [some (.ref 3), some (.int aq), some (.int L), some (.int (D + 1)), some (.int (((10 * V) + (rI M 2 z)) - 48)), some (.int (z + 1)), some (.int (rI M 2 z))] [] M v M' 0 0 := Ev.back 11 (fun n => rfl) H
          have HF := H
          exact Or.inr (Or.inr (Or.inr (Or.inl ⟨h1, h4, h6, h7, HF⟩)))
    · rw [if_neg h4] at H
      have H : Ev none (e1 + 1) 29 10 [some (.ref 3), some (.int aq), some (.int (L + 1)), some (.int D), some (.int V), some (.int (z + 1)), some (.int (rI M 2 z))] [] M v M' 0 0 := Ev.back 4 (fun n => rfl) H
      have HF := H
      exact Or.inr (Or.inr (Or.inr (Or.inr (⟨h1, h4, HF⟩))))
theorem ta_96 {e : Nat} {M M' : Mem} {v : Option Value} {aq L D V z : Int32} {c0 : Option Value} (hS : SQ M) (H : Ev none e 29 96 [some (.ref 3), some (.int aq), some (.int L), some (.int D), some (.int V), some (.int z), c0] [] M v M' 0 0) : (z = aq ∧ (0 ≤ (zI M 3 5).toInt ∧ (zI M 3 5).toInt < 401) ∧ (0 ≤ (zI M 3 5).toInt ∧ (zI M 3 5).toInt < 401) ∧ (0 ≤ (zI M 3 5).toInt ∧ (zI M 3 5).toInt < 401) ∧ (0 ≤ (zI M 3 5).toInt ∧ (zI M 3 5).toInt < 401) ∧ v = some (.int (aq + 1)) ∧ M' = (wI (wI (wI (wI M 4 ((zI M 3 5).toNatClampNeg) (G_30 M aq)) 5 ((zI M 3 5).toNatClampNeg) aq) 6 ((zI M 3 5).toNatClampNeg) (aq + 1)) 7 ((zI M 3 5).toNatClampNeg) V)) ∨ (¬ (z = aq) ∧ D = 0 ∧ 6 < L ∧ L = 0 ∧ 3 < D ∧ (0 ≤ (zI M 3 5).toInt ∧ (zI M 3 5).toInt < 401) ∧ (0 ≤ (zI M 3 5).toInt ∧ (zI M 3 5).toInt < 401) ∧ (0 ≤ (zI M 3 5).toInt ∧ (zI M 3 5).toInt < 401) ∧ (0 ≤ (zI M 3 5).toInt ∧ (zI M 3 5).toInt < 401) ∧ v = some (.int z) ∧ M' = (wI (wI (wI (wI M 4 ((zI M 3 5).toNatClampNeg) 1) 5 ((zI M 3 5).toNatClampNeg) aq) 6 ((zI M 3 5).toNatClampNeg) z) 7 ((zI M 3 5).toNatClampNeg) V)) ∨ (¬ (z = aq) ∧ D = 0 ∧ 6 < L ∧ L = 0 ∧ ¬ (3 < D) ∧ (0 ≤ (zI M 3 5).toInt ∧ (zI M 3 5).toInt < 401) ∧ (0 ≤ (zI M 3 5).toInt ∧ (zI M 3 5).toInt < 401) ∧ (0 ≤ (zI M 3 5).toInt ∧ (zI M 3 5).toInt < 401) ∧ (0 ≤ (zI M 3 5).toInt ∧ (zI M 3 5).toInt < 401) ∧ v = some (.int z) ∧ M' = (wI (wI (wI (wI M 4 ((zI M 3 5).toNatClampNeg) 3) 5 ((zI M 3 5).toNatClampNeg) aq) 6 ((zI M 3 5).toNatClampNeg) z) 7 ((zI M 3 5).toNatClampNeg) V)) ∨ (¬ (z = aq) ∧ D = 0 ∧ 6 < L ∧ ¬ (L = 0) ∧ (0 ≤ (zI M 3 5).toInt ∧ (zI M 3 5).toInt < 401) ∧ (0 ≤ (zI M 3 5).toInt ∧ (zI M 3 5).toInt < 401) ∧ (0 ≤ (zI M 3 5).toInt ∧ (zI M 3 5).toInt < 401) ∧ (0 ≤ (zI M 3 5).toInt ∧ (zI M 3 5).toInt < 401) ∧ v = some (.int z) ∧ M' = (wI (wI (wI (wI M 4 ((zI M 3 5).toNatClampNeg) 1) 5 ((zI M 3 5).toNatClampNeg) aq) 6 ((zI M 3 5).toNatClampNeg) z) 7 ((zI M 3 5).toNatClampNeg) V)) ∨ (¬ (z = aq) ∧ D = 0 ∧ ¬ (6 < L) ∧ (0 ≤ (zI M 3 5).toInt ∧ (zI M 3 5).toInt < 401) ∧ (0 ≤ (zI M 3 5).toInt ∧ (zI M 3 5).toInt < 401) ∧ (0 ≤ (zI M 3 5).toInt ∧ (zI M 3 5).toInt < 401) ∧ (0 ≤ (zI M 3 5).toInt ∧ (zI M 3 5).toInt < 401) ∧ v = some (.int z) ∧ M' = (wI (wI (wI (wI M 4 ((zI M 3 5).toNatClampNeg) 2) 5 ((zI M 3 5).toNatClampNeg) aq) 6 ((zI M 3 5).toNatClampNeg) z) 7 ((zI M 3 5).toNatClampNeg) V)) ∨ (¬ (z = aq) ∧ ¬ (D = 0) ∧ L = 0 ∧ 3 < D ∧ (0 ≤ (zI M 3 5).toInt ∧ (zI M 3 5).toInt < 401) ∧ (0 ≤ (zI M 3 5).toInt ∧ (zI M 3 5).toInt < 401) ∧ (0 ≤ (zI M 3 5).toInt ∧ (zI M 3 5).toInt < 401) ∧ (0 ≤ (zI M 3 5).toInt ∧ (zI M 3 5).toInt < 401) ∧ v = some (.int z) ∧ M' = (wI (wI (wI (wI M 4 ((zI M 3 5).toNatClampNeg) 1) 5 ((zI M 3 5).toNatClampNeg) aq) 6 ((zI M 3 5).toNatClampNeg) z) 7 ((zI M 3 5).toNatClampNeg) V)) ∨ (¬ (z = aq) ∧ ¬ (D = 0) ∧ L = 0 ∧ ¬ (3 < D) ∧ (0 ≤ (zI M 3 5).toInt ∧ (zI M 3 5).toInt < 401) ∧ (0 ≤ (zI M 3 5).toInt ∧ (zI M 3 5).toInt < 401) ∧ (0 ≤ (zI M 3 5).toInt ∧ (zI M 3 5).toInt < 401) ∧ (0 ≤ (zI M 3 5).toInt ∧ (zI M 3 5).toInt < 401) ∧ v = some (.int z) ∧ M' = (wI (wI (wI (wI M 4 ((zI M 3 5).toNatClampNeg) 3) 5 ((zI M 3 5).toNatClampNeg) aq) 6 ((zI M 3 5).toNatClampNeg) z) 7 ((zI M 3 5).toNatClampNeg) V)) ∨ (¬ (z = aq) ∧ ¬ (D = 0) ∧ ¬ (L = 0) ∧ (0 ≤ (zI M 3 5).toInt ∧ (zI M 3 5).toInt < 401) ∧ (0 ≤ (zI M 3 5).toInt ∧ (zI M 3 5).toInt < 401) ∧ (0 ≤ (zI M 3 5).toInt ∧ (zI M 3 5).toInt < 401) ∧ (0 ≤ (zI M 3 5).toInt ∧ (zI M 3 5).toInt < 401) ∧ v = some (.int z) ∧ M' = (wI (wI (wI (wI M 4 ((zI M 3 5).toNatClampNeg) 1) 5 ((zI M 3 5).toNatClampNeg) aq) 6 ((zI M 3 5).toNatClampNeg) z) 7 ((zI M 3 5).toNatClampNeg) V)) := by
  have H : Ev none e 29 (if z = aq then 105 else 120) [some (.ref 3), some (.int aq), some (.int L), some (.int D), some (.int V), some (.int z), some (.int 1)] [] M v M' 0 0 := Ev.back 5 (fun n => rfl) H
  by_cases h1 : z = aq
  · rw [if_pos h1] at H
    have H : Ev none e 29 107 [some (.ref 3), some (.int aq), some (.int L), some (.int D), some (.int V), some (.int z), some (.int 1)] [.int aq, .ref 3] M v M' 0 0 := Ev.back 2 (fun n => rfl) H
    obtain ⟨e1, rfl⟩ := Ev.dpos rfl rfl H
    obtain ⟨vK2, MK2, K2, H⟩ := Ev.callb (fun n => gs_7 rfl rfl (show gCal (.invokevirtual 99) 3 (.int aq :: .ref 3 :: []) M = some (.inr (30, [some (.ref 3), some (.int aq), none, none], [])) from by show @cond (Option ((List Value × Mem) ⊕ (Nat × Lo × List Value))) (true && gRecv M (.ref 3) 3 && gRoom [] && true) (some (.inr (30, [some (.ref 3), some (.int aq), none, none], []))) none = _; rw [recv_s hS.1 qa_3 qo_3]; rfl)) H
    obtain ⟨pK2, qK2⟩ := g_30 hS K2
    rw [pK2, qK2] at H
    have H : Ev none (e1 + 1) 29 110 [some (.ref 3), some (.int aq), some (.int L), some (.int D), some (.int V), some (.int z), some (.int 1)] [.int (G_30 M aq)] M v M' 0 0 := H
    have H : Ev none (e1 + 1) 29 149 [some (.ref 3), some (.int aq), some (.int L), some (.int D), some (.int V), some (.int (aq + 1)), some (.int (G_30 M aq))] [.ref 3] M v M' 0 0 := Ev.back 7 (fun n => rfl) H
    have H : Ev none (e1 + 1) 29 152 [some (.ref 3), some (.int aq), some (.int L), some (.int D), some (.int V), some (.int (aq + 1)), some (.int (G_30 M aq))] [.ref 4] M v M' 0 0 := Ev.back 1 (gs_3 rfl rfl (gf_u hS.1 qa_3 qr_3_1 qu_4 rfl)) H
    have H : Ev none (e1 + 1) 29 153 [some (.ref 3), some (.int aq), some (.int L), some (.int D), some (.int V), some (.int (aq + 1)), some (.int (G_30 M aq))] [.ref 3, .ref 4] M v M' 0 0 := Ev.back 1 (fun n => rfl) H
    have H : Ev none (e1 + 1) 29 156 [some (.ref 3), some (.int aq), some (.int L), some (.int D), some (.int V), some (.int (aq + 1)), some (.int (G_30 M aq))] [.int (zI M 3 5), .ref 4] M v M' 0 0 := Ev.back 1 (gs_3 rfl rfl (gf_i hS.1 qa_3 qi_3_5 rfl)) H
    have H : Ev none (e1 + 1) 29 158 [some (.ref 3), some (.int aq), some (.int L), some (.int D), some (.int V), some (.int (aq + 1)), some (.int (G_30 M aq))] [.int (G_30 M aq), .int (zI M 3 5), .ref 4] M v M' 0 0 := Ev.back 1 (fun n => rfl) H
    obtain ⟨b3, H⟩ := Ev.ias rfl rfl hS.1 qa_4 qw_4 H
    obtain ⟨N4, eN4⟩ : ∃ N, N = (wI M 4 ((zI M 3 5).toNatClampNeg) (G_30 M aq)) := ⟨_, rfl⟩
    have hN4 : SQ N4 := by rw [eN4]; exact hS.ki
    have H : Ev none (e1 + 1) 29 159 [some (.ref 3), some (.int aq), some (.int L), some (.int D), some (.int V), some (.int (aq + 1)), some (.int (G_30 M aq))] [] N4 v M' 0 0 := by rw [eN4]; exact H
    have H : Ev none (e1 + 1) 29 160 [some (.ref 3), some (.int aq), some (.int L), some (.int D), some (.int V), some (.int (aq + 1)), some (.int (G_30 M aq))] [.ref 3] N4 v M' 0 0 := Ev.back 1 (fun n => rfl) H
    have H : Ev none (e1 + 1) 29 163 [some (.ref 3), some (.int aq), some (.int L), some (.int D), some (.int V), some (.int (aq + 1)), some (.int (G_30 M aq))] [.ref 5] N4 v M' 0 0 := Ev.back 1 (gs_3 rfl rfl (gf_u hN4.1 qa_3 qr_3_2 qu_5 rfl)) H
    have H : Ev none (e1 + 1) 29 164 [some (.ref 3), some (.int aq), some (.int L), some (.int D), some (.int V), some (.int (aq + 1)), some (.int (G_30 M aq))] [.ref 3, .ref 5] N4 v M' 0 0 := Ev.back 1 (fun n => rfl) H
    have H : Ev none (e1 + 1) 29 167 [some (.ref 3), some (.int aq), some (.int L), some (.int D), some (.int V), some (.int (aq + 1)), some (.int (G_30 M aq))] [.int (zI N4 3 5), .ref 5] N4 v M' 0 0 := Ev.back 1 (gs_3 rfl rfl (gf_i hN4.1 qa_3 qi_3_5 rfl)) H
    rw [show zI N4 3 5 = zI M 3 5 from by rw [eN4]; exact fI_wI] at H
    have H : Ev none (e1 + 1) 29 168 [some (.ref 3), some (.int aq), some (.int L), some (.int D), some (.int V), some (.int (aq + 1)), some (.int (G_30 M aq))] [.int aq, .int (zI M 3 5), .ref 5] N4 v M' 0 0 := Ev.back 1 (fun n => rfl) H
    obtain ⟨b5, H⟩ := Ev.ias rfl rfl hN4.1 qa_5 qw_5 H
    obtain ⟨N6, eN6⟩ : ∃ N, N = (wI N4 5 ((zI M 3 5).toNatClampNeg) aq) := ⟨_, rfl⟩
    have hN6 : SQ N6 := by rw [eN6]; exact hN4.ki
    have H : Ev none (e1 + 1) 29 169 [some (.ref 3), some (.int aq), some (.int L), some (.int D), some (.int V), some (.int (aq + 1)), some (.int (G_30 M aq))] [] N6 v M' 0 0 := by rw [eN6]; exact H
    have H : Ev none (e1 + 1) 29 170 [some (.ref 3), some (.int aq), some (.int L), some (.int D), some (.int V), some (.int (aq + 1)), some (.int (G_30 M aq))] [.ref 3] N6 v M' 0 0 := Ev.back 1 (fun n => rfl) H
    have H : Ev none (e1 + 1) 29 173 [some (.ref 3), some (.int aq), some (.int L), some (.int D), some (.int V), some (.int (aq + 1)), some (.int (G_30 M aq))] [.ref 6] N6 v M' 0 0 := Ev.back 1 (gs_3 rfl rfl (gf_u hN6.1 qa_3 qr_3_3 qu_6 rfl)) H
    have H : Ev none (e1 + 1) 29 174 [some (.ref 3), some (.int aq), some (.int L), some (.int D), some (.int V), some (.int (aq + 1)), some (.int (G_30 M aq))] [.ref 3, .ref 6] N6 v M' 0 0 := Ev.back 1 (fun n => rfl) H
    have H : Ev none (e1 + 1) 29 177 [some (.ref 3), some (.int aq), some (.int L), some (.int D), some (.int V), some (.int (aq + 1)), some (.int (G_30 M aq))] [.int (zI N6 3 5), .ref 6] N6 v M' 0 0 := Ev.back 1 (gs_3 rfl rfl (gf_i hN6.1 qa_3 qi_3_5 rfl)) H
    rw [(show zI N6 3 5 = zI N4 3 5 from by rw [eN6]; exact fI_wI).trans (show zI N4 3 5 = zI M 3 5 from by rw [eN4]; exact fI_wI)] at H
    have H : Ev none (e1 + 1) 29 179 [some (.ref 3), some (.int aq), some (.int L), some (.int D), some (.int V), some (.int (aq + 1)), some (.int (G_30 M aq))] [.int (aq + 1), .int (zI M 3 5), .ref 6] N6 v M' 0 0 := Ev.back 1 (fun n => rfl) H
    obtain ⟨b7, H⟩ := Ev.ias rfl rfl hN6.1 qa_6 qw_6 H
    obtain ⟨N8, eN8⟩ : ∃ N, N = (wI N6 6 ((zI M 3 5).toNatClampNeg) (aq + 1)) := ⟨_, rfl⟩
    have hN8 : SQ N8 := by rw [eN8]; exact hN6.ki
    have H : Ev none (e1 + 1) 29 180 [some (.ref 3), some (.int aq), some (.int L), some (.int D), some (.int V), some (.int (aq + 1)), some (.int (G_30 M aq))] [] N8 v M' 0 0 := by rw [eN8]; exact H
    have H : Ev none (e1 + 1) 29 181 [some (.ref 3), some (.int aq), some (.int L), some (.int D), some (.int V), some (.int (aq + 1)), some (.int (G_30 M aq))] [.ref 3] N8 v M' 0 0 := Ev.back 1 (fun n => rfl) H
    have H : Ev none (e1 + 1) 29 184 [some (.ref 3), some (.int aq), some (.int L), some (.int D), some (.int V), some (.int (aq + 1)), some (.int (G_30 M aq))] [.ref 7] N8 v M' 0 0 := Ev.back 1 (gs_3 rfl rfl (gf_u hN8.1 qa_3 qr_3_4 qu_7 rfl)) H
    have H : Ev none (e1 + 1) 29 185 [some (.ref 3), some (.int aq), some (.int L), some (.int D), some (.int V), some (.int (aq + 1)), some (.int (G_30 M aq))] [.ref 3, .ref 7] N8 v M' 0 0 := Ev.back 1 (fun n => rfl) H
    have H : Ev none (e1 + 1) 29 188 [some (.ref 3), some (.int aq), some (.int L), some (.int D), some (.int V), some (.int (aq + 1)), some (.int (G_30 M aq))] [.int (zI N8 3 5), .ref 7] N8 v M' 0 0 := Ev.back 1 (gs_3 rfl rfl (gf_i hN8.1 qa_3 qi_3_5 rfl)) H
    rw [((show zI N8 3 5 = zI N6 3 5 from by rw [eN8]; exact fI_wI).trans (show zI N6 3 5 = zI N4 3 5 from by rw [eN6]; exact fI_wI)).trans (show zI N4 3 5 = zI M 3 5 from by rw [eN4]; exact fI_wI)] at H
    have H : Ev none (e1 + 1) 29 190 [some (.ref 3), some (.int aq), some (.int L), some (.int D), some (.int V), some (.int (aq + 1)), some (.int (G_30 M aq))] [.int V, .int (zI M 3 5), .ref 7] N8 v M' 0 0 := Ev.back 1 (fun n => rfl) H
    obtain ⟨b9, H⟩ := Ev.ias rfl rfl hN8.1 qa_7 qw_7 H
    obtain ⟨N10, eN10⟩ : ∃ N, N = (wI N8 7 ((zI M 3 5).toNatClampNeg) V) := ⟨_, rfl⟩
    have hN10 : SQ N10 := by rw [eN10]; exact hN8.ki
    have H : Ev none (e1 + 1) 29 191 [some (.ref 3), some (.int aq), some (.int L), some (.int D), some (.int V), some (.int (aq + 1)), some (.int (G_30 M aq))] [] N10 v M' 0 0 := by rw [eN10]; exact H
    have H : Ev none (e1 + 1) 29 193 [some (.ref 3), some (.int aq), some (.int L), some (.int D), some (.int V), some (.int (aq + 1)), some (.int (G_30 M aq))] [.int (aq + 1)] N10 v M' 0 0 := Ev.back 1 (fun n => rfl) H
    obtain ⟨z1, z2⟩ := Ev.retz rfl rfl H
    subst eN4 eN6 eN8 eN10
    exact Or.inl ⟨h1, b3, b5, b7, b9, z1, z2⟩
  · rw [if_neg h1] at H
    have H : Ev none e 29 (if D = 0 then 124 else 136) [some (.ref 3), some (.int aq), some (.int L), some (.int D), some (.int V), some (.int z), some (.int 1)] [] M v M' 0 0 := Ev.back 2 (fun n => rfl) H
    by_cases h11 : D = 0
    · rw [if_pos h11] at H
      have H : Ev none e 29 (if 6 < L then 136 else 130) [some (.ref 3), some (.int aq), some (.int L), some (.int D), some (.int V), some (.int z), some (.int 1)] [] M v M' 0 0 := Ev.back 3 (fun n => rfl) H
      by_cases h12 : 6 < L
      · rw [if_pos h12] at H
        have H : Ev none e 29 (if L = 0 then 140 else 148) [some (.ref 3), some (.int aq), some (.int L), some (.int D), some (.int V), some (.int z), some (.int 1)] [] M v M' 0 0 := Ev.back 2 (fun n => rfl) H
        by_cases h13 : L = 0
        · rw [if_pos h13] at H
          have H : Ev none e 29 (if 3 < D then 148 else 145) [some (.ref 3), some (.int aq), some (.int L), some (.int D), some (.int V), some (.int z), some (.int 1)] [] M v M' 0 0 := Ev.back 3 (fun n => rfl) H
          by_cases h14 : 3 < D
          · rw [if_pos h14] at H
            have H : Ev none e 29 149 [some (.ref 3), some (.int aq), some (.int L), some (.int D), some (.int V), some (.int z), some (.int 1)] [.ref 3] M v M' 0 0 := Ev.back 1 (fun n => rfl) H
            have H : Ev none e 29 152 [some (.ref 3), some (.int aq), some (.int L), some (.int D), some (.int V), some (.int z), some (.int 1)] [.ref 4] M v M' 0 0 := Ev.back 1 (gs_3 rfl rfl (gf_u hS.1 qa_3 qr_3_1 qu_4 rfl)) H
            have H : Ev none e 29 153 [some (.ref 3), some (.int aq), some (.int L), some (.int D), some (.int V), some (.int z), some (.int 1)] [.ref 3, .ref 4] M v M' 0 0 := Ev.back 1 (fun n => rfl) H
            have H : Ev none e 29 156 [some (.ref 3), some (.int aq), some (.int L), some (.int D), some (.int V), some (.int z), some (.int 1)] [.int (zI M 3 5), .ref 4] M v M' 0 0 := Ev.back 1 (gs_3 rfl rfl (gf_i hS.1 qa_3 qi_3_5 rfl)) H
            have H : Ev none e 29 158 [some (.ref 3), some (.int aq), some (.int L), some (.int D), some (.int V), some (.int z), some (.int 1)] [.int 1, .int (zI M 3 5), .ref 4] M v M' 0 0 := Ev.back 1 (fun n => rfl) H
            obtain ⟨b15, H⟩ := Ev.ias rfl rfl hS.1 qa_4 qw_4 H
            obtain ⟨N16, eN16⟩ : ∃ N, N = (wI M 4 ((zI M 3 5).toNatClampNeg) 1) := ⟨_, rfl⟩
            have hN16 : SQ N16 := by rw [eN16]; exact hS.ki
            have H : Ev none e 29 159 [some (.ref 3), some (.int aq), some (.int L), some (.int D), some (.int V), some (.int z), some (.int 1)] [] N16 v M' 0 0 := by rw [eN16]; exact H
            have H : Ev none e 29 160 [some (.ref 3), some (.int aq), some (.int L), some (.int D), some (.int V), some (.int z), some (.int 1)] [.ref 3] N16 v M' 0 0 := Ev.back 1 (fun n => rfl) H
            have H : Ev none e 29 163 [some (.ref 3), some (.int aq), some (.int L), some (.int D), some (.int V), some (.int z), some (.int 1)] [.ref 5] N16 v M' 0 0 := Ev.back 1 (gs_3 rfl rfl (gf_u hN16.1 qa_3 qr_3_2 qu_5 rfl)) H
            have H : Ev none e 29 164 [some (.ref 3), some (.int aq), some (.int L), some (.int D), some (.int V), some (.int z), some (.int 1)] [.ref 3, .ref 5] N16 v M' 0 0 := Ev.back 1 (fun n => rfl) H
            have H : Ev none e 29 167 [some (.ref 3), some (.int aq), some (.int L), some (.int D), some (.int V), some (.int z), some (.int 1)] [.int (zI N16 3 5), .ref 5] N16 v M' 0 0 := Ev.back 1 (gs_3 rfl rfl (gf_i hN16.1 qa_3 qi_3_5 rfl)) H
            rw [show zI N16 3 5 = zI M 3 5 from by rw [eN16]; exact fI_wI] at H
            have H : Ev none e 29 168 [some (.ref 3), some (.int aq), some (.int L), some (.int D), some (.int V), some (.int z), some (.int 1)] [.int aq, .int (zI M 3 5), .ref 5] N16 v M' 0 0 := Ev.back 1 (fun n => rfl) H
            obtain ⟨b17, H⟩ := Ev.ias rfl rfl hN16.1 qa_5 qw_5 H
            obtain ⟨N18, eN18⟩ : ∃ N, N = (wI N16 5 ((zI M 3 5).toNatClampNeg) aq) := ⟨_, rfl⟩
            have hN18 : SQ N18 := by rw [eN18]; exact hN16.ki
            have H : Ev none e 29 169 [some (.ref 3), some (.int aq), some (.int L), some (.int D), some (.int V), some (.int z), some (.int 1)] [] N18 v M' 0 0 := by rw [eN18]; exact H
            have H : Ev none e 29 170 [some (.ref 3), some (.int aq), some (.int L), some (.int D), some (.int V), some (.int z), some (.int 1)] [.ref 3] N18 v M' 0 0 := Ev.back 1 (fun n => rfl) H
            have H : Ev none e 29 173 [some (.ref 3), some (.int aq), some (.int L), some (.int D), some (.int V), some (.int z), some (.int 1)] [.ref 6] N18 v M' 0 0 := Ev.back 1 (gs_3 rfl rfl (gf_u hN18.1 qa_3 qr_3_3 qu_6 rfl)) H
            have H : Ev none e 29 174 [some (.ref 3), some (.int aq), some (.int L), some (.int D), some (.int V), some (.int z), some (.int 1)] [.ref 3, .ref 6] N18 v M' 0 0 := Ev.back 1 (fun n => rfl) H
            have H : Ev none e 29 177 [some (.ref 3), some (.int aq), some (.int L), some (.int D), some (.int V), some (.int z), some (.int 1)] [.int (zI N18 3 5), .ref 6] N18 v M' 0 0 := Ev.back 1 (gs_3 rfl rfl (gf_i hN18.1 qa_3 qi_3_5 rfl)) H
            rw [(show zI N18 3 5 = zI N16 3 5 from by rw [eN18]; exact fI_wI).trans (show zI N16 3 5 = zI M 3 5 from by rw [eN16]; exact fI_wI)] at H
            have H : Ev none e 29 179 [some (.ref 3), some (.int aq), some (.int L), some (.int D), some (.int V), some (.int z), some (.int 1)] [.int z, .int (zI M 3 5), .ref 6] N18 v M' 0 0 := Ev.back 1 (fun n => rfl) H
            obtain ⟨b19, H⟩ := Ev.ias rfl rfl hN18.1 qa_6 qw_6 H
            obtain ⟨N20, eN20⟩ : ∃ N, N = (wI N18 6 ((zI M 3 5).toNatClampNeg) z) := ⟨_, rfl⟩
            have hN20 : SQ N20 := by rw [eN20]; exact hN18.ki
            have H : Ev none e 29 180 [some (.ref 3), some (.int aq), some (.int L), some (.int D), some (.int V), some (.int z), some (.int 1)] [] N20 v M' 0 0 := by rw [eN20]; exact H
            have H : Ev none e 29 181 [some (.ref 3), some (.int aq), some (.int L), some (.int D), some (.int V), some (.int z), some (.int 1)] [.ref 3] N20 v M' 0 0 := Ev.back 1 (fun n => rfl) H
            have H : Ev none e 29 184 [some (.ref 3), some (.int aq), some (.int L), some (.int D), some (.int V), some (.int z), some (.int 1)] [.ref 7] N20 v M' 0 0 := Ev.back 1 (gs_3 rfl rfl (gf_u hN20.1 qa_3 qr_3_4 qu_7 rfl)) H
            have H : Ev none e 29 185 [some (.ref 3), some (.int aq), some (.int L), some (.int D), some (.int V), some (.int z), some (.int 1)] [.ref 3, .ref 7] N20 v M' 0 0 := Ev.back 1 (fun n => rfl) H
            have H : Ev none e 29 188 [some (.ref 3), some (.int aq), some (.int L), some (.int D), some (.int V), some (.int z), some (.int 1)] [.int (zI N20 3 5), .ref 7] N20 v M' 0 0 := Ev.back 1 (gs_3 rfl rfl (gf_i hN20.1 qa_3 qi_3_5 rfl)) H
            rw [((show zI N20 3 5 = zI N18 3 5 from by rw [eN20]; exact fI_wI).trans (show zI N18 3 5 = zI N16 3 5 from by rw [eN18]; exact fI_wI)).trans (show zI N16 3 5 = zI M 3 5 from by rw [eN16]; exact fI_wI)] at H
            have H : Ev none e 29 190 [some (.ref 3), some (.int aq), some (.int L), some (.int D), some (.int V), some (.int z), some (.int 1)] [.int V, .int (zI M 3 5), .ref 7] N20 v M' 0 0 := Ev.back 1 (fun n => rfl) H
            obtain ⟨b21, H⟩ := Ev.ias rfl rfl hN20.1 qa_7 qw_7 H
            obtain ⟨N22, eN22⟩ : ∃ N, N = (wI N20 7 ((zI M 3 5).toNatClampNeg) V) := ⟨_, rfl⟩
            have hN22 : SQ N22 := by rw [eN22]; exact hN20.ki
            have H : Ev none e 29 191 [some (.ref 3), some (.int aq), some (.int L), some (.int D), some (.int V), some (.int z), some (.int 1)] [] N22 v M' 0 0 := by rw [eN22]; exact H
            have H : Ev none e 29 193 [some (.ref 3), some (.int aq), some (.int L), some (.int D), some (.int V), some (.int z), some (.int 1)] [.int z] N22 v M' 0 0 := Ev.back 1 (fun n => rfl) H
            obtain ⟨z1, z2⟩ := Ev.retz rfl rfl H
            subst eN16 eN18 eN20 eN22
            exact Or.inr (Or.inl ⟨h1, h11, h12, h13, h14, b15, b17, b19, b21, z1, z2⟩)
          · rw [if_neg h14] at H
            have H : Ev none e 29 149 [some (.ref 3), some (.int aq), some (.int L), some (.int D), some (.int V), some (.int z), some (.int 3)] [.ref 3] M v M' 0 0 := Ev.back 3 (fun n => rfl) H
            have H : Ev none e 29 152 [some (.ref 3), some (.int aq), some (.int L), some (.int D), some (.int V), some (.int z), some (.int 3)] [.ref 4] M v M' 0 0 := Ev.back 1 (gs_3 rfl rfl (gf_u hS.1 qa_3 qr_3_1 qu_4 rfl)) H
            have H : Ev none e 29 153 [some (.ref 3), some (.int aq), some (.int L), some (.int D), some (.int V), some (.int z), some (.int 3)] [.ref 3, .ref 4] M v M' 0 0 := Ev.back 1 (fun n => rfl) H
            have H : Ev none e 29 156 [some (.ref 3), some (.int aq), some (.int L), some (.int D), some (.int V), some (.int z), some (.int 3)] [.int (zI M 3 5), .ref 4] M v M' 0 0 := Ev.back 1 (gs_3 rfl rfl (gf_i hS.1 qa_3 qi_3_5 rfl)) H
            have H : Ev none e 29 158 [some (.ref 3), some (.int aq), some (.int L), some (.int D), some (.int V), some (.int z), some (.int 3)] [.int 3, .int (zI M 3 5), .ref 4] M v M' 0 0 := Ev.back 1 (fun n => rfl) H
            obtain ⟨b23, H⟩ := Ev.ias rfl rfl hS.1 qa_4 qw_4 H
            obtain ⟨N24, eN24⟩ : ∃ N, N = (wI M 4 ((zI M 3 5).toNatClampNeg) 3) := ⟨_, rfl⟩
            have hN24 : SQ N24 := by rw [eN24]; exact hS.ki
            have H : Ev none e 29 159 [some (.ref 3), some (.int aq), some (.int L), some (.int D), some (.int V), some (.int z), some (.int 3)] [] N24 v M' 0 0 := by rw [eN24]; exact H
            have H : Ev none e 29 160 [some (.ref 3), some (.int aq), some (.int L), some (.int D), some (.int V), some (.int z), some (.int 3)] [.ref 3] N24 v M' 0 0 := Ev.back 1 (fun n => rfl) H
            have H : Ev none e 29 163 [some (.ref 3), some (.int aq), some (.int L), some (.int D), some (.int V), some (.int z), some (.int 3)] [.ref 5] N24 v M' 0 0 := Ev.back 1 (gs_3 rfl rfl (gf_u hN24.1 qa_3 qr_3_2 qu_5 rfl)) H
            have H : Ev none e 29 164 [some (.ref 3), some (.int aq), some (.int L), some (.int D), some (.int V), some (.int z), some (.int 3)] [.ref 3, .ref 5] N24 v M' 0 0 := Ev.back 1 (fun n => rfl) H
            have H : Ev none e 29 167 [some (.ref 3), some (.int aq), some (.int L), some (.int D), some (.int V), some (.int z), some (.int 3)] [.int (zI N24 3 5), .ref 5] N24 v M' 0 0 := Ev.back 1 (gs_3 rfl rfl (gf_i hN24.1 qa_3 qi_3_5 rfl)) H
            rw [show zI N24 3 5 = zI M 3 5 from by rw [eN24]; exact fI_wI] at H
            have H : Ev none e 29 168 [some (.ref 3), some (.int aq), some (.int L), some (.int D), some (.int V), some (.int z), some (.int 3)] [.int aq, .int (zI M 3 5), .ref 5] N24 v M' 0 0 := Ev.back 1 (fun n => rfl) H
            obtain ⟨b25, H⟩ := Ev.ias rfl rfl hN24.1 qa_5 qw_5 H
            obtain ⟨N26, eN26⟩ : ∃ N, N = (wI N24 5 ((zI M 3 5).toNatClampNeg) aq) := ⟨_, rfl⟩
            have hN26 : SQ N26 := by rw [eN26]; exact hN24.ki
            have H : Ev none e 29 169 [some (.ref 3), some (.int aq), some (.int L), some (.int D), some (.int V), some (.int z), some (.int 3)] [] N26 v M' 0 0 := by rw [eN26]; exact H
            have H : Ev none e 29 170 [some (.ref 3), some (.int aq), some (.int L), some (.int D), some (.int V), some (.int z), some (.int 3)] [.ref 3] N26 v M' 0 0 := Ev.back 1 (fun n => rfl) H
            have H : Ev none e 29 173 [some (.ref 3), some (.int aq), some (.int L), some (.int D), some (.int V), some (.int z), some (.int 3)] [.ref 6] N26 v M' 0 0 := Ev.back 1 (gs_3 rfl rfl (gf_u hN26.1 qa_3 qr_3_3 qu_6 rfl)) H
            have H : Ev none e 29 174 [some (.ref 3), some (.int aq), some (.int L), some (.int D), some (.int V), some (.int z), some (.int 3)] [.ref 3, .ref 6] N26 v M' 0 0 := Ev.back 1 (fun n => rfl) H
            have H : Ev none e 29 177 [some (.ref 3), some (.int aq), some (.int L), some (.int D), some (.int V), some (.int z), some (.int 3)] [.int (zI N26 3 5), .ref 6] N26 v M' 0 0 := Ev.back 1 (gs_3 rfl rfl (gf_i hN26.1 qa_3 qi_3_5 rfl)) H
            rw [(show zI N26 3 5 = zI N24 3 5 from by rw [eN26]; exact fI_wI).trans (show zI N24 3 5 = zI M 3 5 from by rw [eN24]; exact fI_wI)] at H
            have H : Ev none e 29 179 [some (.ref 3), some (.int aq), some (.int L), some (.int D), some (.int V), some (.int z), some (.int 3)] [.int z, .int (zI M 3 5), .ref 6] N26 v M' 0 0 := Ev.back 1 (fun n => rfl) H
            obtain ⟨b27, H⟩ := Ev.ias rfl rfl hN26.1 qa_6 qw_6 H
            obtain ⟨N28, eN28⟩ : ∃ N, N = (wI N26 6 ((zI M 3 5).toNatClampNeg) z) := ⟨_, rfl⟩
            have hN28 : SQ N28 := by rw [eN28]; exact hN26.ki
            have H : Ev none e 29 180 [some (.ref 3), some (.int aq), some (.int L), some (.int D), some (.int V), some (.int z), some (.int 3)] [] N28 v M' 0 0 := by rw [eN28]; exact H
            have H : Ev none e 29 181 [some (.ref 3), some (.int aq), some (.int L), some (.int D), some (.int V), some (.int z), some (.int 3)] [.ref 3] N28 v M' 0 0 := Ev.back 1 (fun n => rfl) H
            have H : Ev none e 29 184 [some (.ref 3), some (.int aq), some (.int L), some (.int D), some (.int V), some (.int z), some (.int 3)] [.ref 7] N28 v M' 0 0 := Ev.back 1 (gs_3 rfl rfl (gf_u hN28.1 qa_3 qr_3_4 qu_7 rfl)) H
            have H : Ev none e 29 185 [some (.ref 3), some (.int aq), some (.int L), some (.int D), some (.int V), some (.int z), some (.int 3)] [.ref 3, .ref 7] N28 v M' 0 0 := Ev.back 1 (fun n => rfl) H
            have H : Ev none e 29 188 [some (.ref 3), some (.int aq), some (.int L), some (.int D), some (.int V), some (.int z), some (.int 3)] [.int (zI N28 3 5), .ref 7] N28 v M' 0 0 := Ev.back 1 (gs_3 rfl rfl (gf_i hN28.1 qa_3 qi_3_5 rfl)) H
            rw [((show zI N28 3 5 = zI N26 3 5 from by rw [eN28]; exact fI_wI).trans (show zI N26 3 5 = zI N24 3 5 from by rw [eN26]; exact fI_wI)).trans (show zI N24 3 5 = zI M 3 5 from by rw [eN24]; exact fI_wI)] at H
            have H : Ev none e 29 190 [some (.ref 3), some (.int aq), some (.int L), some (.int D), some (.int V), some (.int z), some (.int 3)] [.int V, .int (zI M 3 5), .ref 7] N28 v M' 0 0 := Ev.back 1 (fun n => rfl) H
            obtain ⟨b29, H⟩ := Ev.ias rfl rfl hN28.1 qa_7 qw_7 H
            obtain ⟨N30, eN30⟩ : ∃ N, N = (wI N28 7 ((zI M 3 5).toNatClampNeg) V) := ⟨_, rfl⟩
            have hN30 : SQ N30 := by rw [eN30]; exact hN28.ki
            have H : Ev none e 29 191 [some (.ref 3), some (.int aq), some (.int L), some (.int D), some (.int V), some (.int z), some (.int 3)] [] N30 v M' 0 0 := by rw [eN30]; exact H
            have H : Ev none e 29 193 [some (.ref 3), some (.int aq), some (.int L), some (.int D), some (.int V), some (.int z), some (.int 3)] [.int z] N30 v M' 0 0 := Ev.back 1 (fun n => rfl) H
            obtain ⟨z1, z2⟩ := Ev.retz rfl rfl H
            subst eN24 eN26 eN28 eN30
            exact Or.inr (Or.inr (Or.inl ⟨h1, h11, h12, h13, h14, b23, b25, b27, b29, z1, z2⟩))
        · rw [if_neg h13] at H
          have H : Ev none e 29 149 [some (.ref 3), some (.int aq), some (.int L), some (.int D), some (.int V), some (.int z), some (.int 1)] [.ref 3] M v M' 0 0 := Ev.back 1 (fun n => rfl) H
          have H : Ev none e 29 152 [some (.ref 3), some (.int aq), some (.int L), some (.int D), some (.int V), some (.int z), some (.int 1)] [.ref 4] M v M' 0 0 := Ev.back 1 (gs_3 rfl rfl (gf_u hS.1 qa_3 qr_3_1 qu_4 rfl)) H
          have H : Ev none e 29 153 [some (.ref 3), some (.int aq), some (.int L), some (.int D), some (.int V), some (.int z), some (.int 1)] [.ref 3, .ref 4] M v M' 0 0 := Ev.back 1 (fun n => rfl) H
          have H : Ev none e 29 156 [some (.ref 3), some (.int aq), some (.int L), some (.int D), some (.int V), some (.int z), some (.int 1)] [.int (zI M 3 5), .ref 4] M v M' 0 0 := Ev.back 1 (gs_3 rfl rfl (gf_i hS.1 qa_3 qi_3_5 rfl)) H
          have H : Ev none e 29 158 [some (.ref 3), some (.int aq), some (.int L), some (.int D), some (.int V), some (.int z), some (.int 1)] [.int 1, .int (zI M 3 5), .ref 4] M v M' 0 0 := Ev.back 1 (fun n => rfl) H
          obtain ⟨b31, H⟩ := Ev.ias rfl rfl hS.1 qa_4 qw_4 H
          obtain ⟨N32, eN32⟩ : ∃ N, N = (wI M 4 ((zI M 3 5).toNatClampNeg) 1) := ⟨_, rfl⟩
          have hN32 : SQ N32 := by rw [eN32]; exact hS.ki
          have H : Ev none e 29 159 [some (.ref 3), some (.int aq), some (.int L), some (.int D), some (.int V), some (.int z), some (.int 1)] [] N32 v M' 0 0 := by rw [eN32]; exact H
          have H : Ev none e 29 160 [some (.ref 3), some (.int aq), some (.int L), some (.int D), some (.int V), some (.int z), some (.int 1)] [.ref 3] N32 v M' 0 0 := Ev.back 1 (fun n => rfl) H
          have H : Ev none e 29 163 [some (.ref 3), some (.int aq), some (.int L), some (.int D), some (.int V), some (.int z), some (.int 1)] [.ref 5] N32 v M' 0 0 := Ev.back 1 (gs_3 rfl rfl (gf_u hN32.1 qa_3 qr_3_2 qu_5 rfl)) H
          have H : Ev none e 29 164 [some (.ref 3), some (.int aq), some (.int L), some (.int D), some (.int V), some (.int z), some (.int 1)] [.ref 3, .ref 5] N32 v M' 0 0 := Ev.back 1 (fun n => rfl) H
          have H : Ev none e 29 167 [some (.ref 3), some (.int aq), some (.int L), some (.int D), some (.int V), some (.int z), some (.int 1)] [.int (zI N32 3 5), .ref 5] N32 v M' 0 0 := Ev.back 1 (gs_3 rfl rfl (gf_i hN32.1 qa_3 qi_3_5 rfl)) H
          rw [show zI N32 3 5 = zI M 3 5 from by rw [eN32]; exact fI_wI] at H
          have H : Ev none e 29 168 [some (.ref 3), some (.int aq), some (.int L), some (.int D), some (.int V), some (.int z), some (.int 1)] [.int aq, .int (zI M 3 5), .ref 5] N32 v M' 0 0 := Ev.back 1 (fun n => rfl) H
          obtain ⟨b33, H⟩ := Ev.ias rfl rfl hN32.1 qa_5 qw_5 H
          obtain ⟨N34, eN34⟩ : ∃ N, N = (wI N32 5 ((zI M 3 5).toNatClampNeg) aq) := ⟨_, rfl⟩
          have hN34 : SQ N34 := by rw [eN34]; exact hN32.ki
          have H : Ev none e 29 169 [some (.ref 3), some (.int aq), some (.int L), some (.int D), some (.int V), some (.int z), some (.int 1)] [] N34 v M' 0 0 := by rw [eN34]; exact H
          have H : Ev none e 29 170 [some (.ref 3), some (.int aq), some (.int L), some (.int D), some (.int V), some (.int z), some (.int 1)] [.ref 3] N34 v M' 0 0 := Ev.back 1 (fun n => rfl) H
          have H : Ev none e 29 173 [some (.ref 3), some (.int aq), some (.int L), some (.int D), some (.int V), some (.int z), some (.int 1)] [.ref 6] N34 v M' 0 0 := Ev.back 1 (gs_3 rfl rfl (gf_u hN34.1 qa_3 qr_3_3 qu_6 rfl)) H
          have H : Ev none e 29 174 [some (.ref 3), some (.int aq), some (.int L), some (.int D), some (.int V), some (.int z), some (.int 1)] [.ref 3, .ref 6] N34 v M' 0 0 := Ev.back 1 (fun n => rfl) H
          have H : Ev none e 29 177 [some (.ref 3), some (.int aq), some (.int L), some (.int D), some (.int V), some (.int z), some (.int 1)] [.int (zI N34 3 5), .ref 6] N34 v M' 0 0 := Ev.back 1 (gs_3 rfl rfl (gf_i hN34.1 qa_3 qi_3_5 rfl)) H
          rw [(show zI N34 3 5 = zI N32 3 5 from by rw [eN34]; exact fI_wI).trans (show zI N32 3 5 = zI M 3 5 from by rw [eN32]; exact fI_wI)] at H
          have H : Ev none e 29 179 [some (.ref 3), some (.int aq), some (.int L), some (.int D), some (.int V), some (.int z), some (.int 1)] [.int z, .int (zI M 3 5), .ref 6] N34 v M' 0 0 := Ev.back 1 (fun n => rfl) H
          obtain ⟨b35, H⟩ := Ev.ias rfl rfl hN34.1 qa_6 qw_6 H
          obtain ⟨N36, eN36⟩ : ∃ N, N = (wI N34 6 ((zI M 3 5).toNatClampNeg) z) := ⟨_, rfl⟩
          have hN36 : SQ N36 := by rw [eN36]; exact hN34.ki
          have H : Ev none e 29 180 [some (.ref 3), some (.int aq), some (.int L), some (.int D), some (.int V), some (.int z), some (.int 1)] [] N36 v M' 0 0 := by rw [eN36]; exact H
          have H : Ev none e 29 181 [some (.ref 3), some (.int aq), some (.int L), some (.int D), some (.int V), some (.int z), some (.int 1)] [.ref 3] N36 v M' 0 0 := Ev.back 1 (fun n => rfl) H
          have H : Ev none e 29 184 [some (.ref 3), some (.int aq), some (.int L), some (.int D), some (.int V), some (.int z), some (.int 1)] [.ref 7] N36 v M' 0 0 := Ev.back 1 (gs_3 rfl rfl (gf_u hN36.1 qa_3 qr_3_4 qu_7 rfl)) H
          have H : Ev none e 29 185 [some (.ref 3), some (.int aq), some (.int L), some (.int D), some (.int V), some (.int z), some (.int 1)] [.ref 3, .ref 7] N36 v M' 0 0 := Ev.back 1 (fun n => rfl) H
          have H : Ev none e 29 188 [some (.ref 3), some (.int aq), some (.int L), some (.int D), some (.int V), some (.int z), some (.int 1)] [.int (zI N36 3 5), .ref 7] N36 v M' 0 0 := Ev.back 1 (gs_3 rfl rfl (gf_i hN36.1 qa_3 qi_3_5 rfl)) H
          rw [((show zI N36 3 5 = zI N34 3 5 from by rw [eN36]; exact fI_wI).trans (show zI N34 3 5 = zI N32 3 5 from by rw [eN34]; exact fI_wI)).trans (show zI N32 3 5 = zI M 3 5 from by rw [eN32]; exact fI_wI)] at H
          have H : Ev none e 29 190 [some (.ref 3), some (.int aq), some (.int L), some (.int D), some (.int V), some (.int z), some (.int 1)] [.int V, .int (zI M 3 5), .ref 7] N36 v M' 0 0 := Ev.back 1 (fun n => rfl) H
          obtain ⟨b37, H⟩ := Ev.ias rfl rfl hN36.1 qa_7 qw_7 H
          obtain ⟨N38, eN38⟩ : ∃ N, N = (wI N36 7 ((zI M 3 5).toNatClampNeg) V) := ⟨_, rfl⟩
          have hN38 : SQ N38 := by rw [eN38]; exact hN36.ki
          have H : Ev none e 29 191 [some (.ref 3), some (.int aq), some (.int L), some (.int D), some (.int V), some (.int z), some (.int 1)] [] N38 v M' 0 0 := by rw [eN38]; exact H
          have H : Ev none e 29 193 [some (.ref 3), some (.int aq), some (.int L), some (.int D), some (.int V), some (.int z), some (.int 1)] [.int z] N38 v M' 0 0 := Ev.back 1 (fun n => rfl) H
          obtain ⟨z1, z2⟩ := Ev.retz rfl rfl H
          subst eN32 eN34 eN36 eN38
          exact Or.inr (Or.inr (Or.inr (Or.inl ⟨h1, h11, h12, h13, b31, b33, b35, b37, z1, z2⟩)))
      · rw [if_neg h12] at H
        have H : Ev none e 29 149 [some (.ref 3), some (.int aq), some (.int L), some (.int D), some (.int V), some (.int z), some (.int 2)] [.ref 3] M v M' 0 0 := Ev.back 4 (fun n => rfl) H
        have H : Ev none e 29 152 [some (.ref 3), some (.int aq), some (.int L), some (.int D), some (.int V), some (.int z), some (.int 2)] [.ref 4] M v M' 0 0 := Ev.back 1 (gs_3 rfl rfl (gf_u hS.1 qa_3 qr_3_1 qu_4 rfl)) H
        have H : Ev none e 29 153 [some (.ref 3), some (.int aq), some (.int L), some (.int D), some (.int V), some (.int z), some (.int 2)] [.ref 3, .ref 4] M v M' 0 0 := Ev.back 1 (fun n => rfl) H
        have H : Ev none e 29 156 [some (.ref 3), some (.int aq), some (.int L), some (.int D), some (.int V), some (.int z), some (.int 2)] [.int (zI M 3 5), .ref 4] M v M' 0 0 := Ev.back 1 (gs_3 rfl rfl (gf_i hS.1 qa_3 qi_3_5 rfl)) H
        have H : Ev none e 29 158 [some (.ref 3), some (.int aq), some (.int L), some (.int D), some (.int V), some (.int z), some (.int 2)] [.int 2, .int (zI M 3 5), .ref 4] M v M' 0 0 := Ev.back 1 (fun n => rfl) H
        obtain ⟨b39, H⟩ := Ev.ias rfl rfl hS.1 qa_4 qw_4 H
        obtain ⟨N40, eN40⟩ : ∃ N, N = (wI M 4 ((zI M 3 5).toNatClampNeg) 2) := ⟨_, rfl⟩
        have hN40 : SQ N40 := by rw [eN40]; exact hS.ki
        have H : Ev none e 29 159 [some (.ref 3), some (.int aq), some (.int L), some (.int D), some (.int V), some (.int z), some (.int 2)] [] N40 v M' 0 0 := by rw [eN40]; exact H
        have H : Ev none e 29 160 [some (.ref 3), some (.int aq), some (.int L), some (.int D), some (.int V), some (.int z), some (.int 2)] [.ref 3] N40 v M' 0 0 := Ev.back 1 (fun n => rfl) H
        have H : Ev none e 29 163 [some (.ref 3), some (.int aq), some (.int L), some (.int D), some (.int V), some (.int z), some (.int 2)] [.ref 5] N40 v M' 0 0 := Ev.back 1 (gs_3 rfl rfl (gf_u hN40.1 qa_3 qr_3_2 qu_5 rfl)) H
        have H : Ev none e 29 164 [some (.ref 3), some (.int aq), some (.int L), some (.int D), some (.int V), some (.int z), some (.int 2)] [.ref 3, .ref 5] N40 v M' 0 0 := Ev.back 1 (fun n => rfl) H
        have H : Ev none e 29 167 [some (.ref 3), some (.int aq), some (.int L), some (.int D), some (.int V), some (.int z), some (.int 2)] [.int (zI N40 3 5), .ref 5] N40 v M' 0 0 := Ev.back 1 (gs_3 rfl rfl (gf_i hN40.1 qa_3 qi_3_5 rfl)) H
        rw [show zI N40 3 5 = zI M 3 5 from by rw [eN40]; exact fI_wI] at H
        have H : Ev none e 29 168 [some (.ref 3), some (.int aq), some (.int L), some (.int D), some (.int V), some (.int z), some (.int 2)] [.int aq, .int (zI M 3 5), .ref 5] N40 v M' 0 0 := Ev.back 1 (fun n => rfl) H
        obtain ⟨b41, H⟩ := Ev.ias rfl rfl hN40.1 qa_5 qw_5 H
        obtain ⟨N42, eN42⟩ : ∃ N, N = (wI N40 5 ((zI M 3 5).toNatClampNeg) aq) := ⟨_, rfl⟩
        have hN42 : SQ N42 := by rw [eN42]; exact hN40.ki
        have H : Ev none e 29 169 [some (.ref 3), some (.int aq), some (.int L), some (.int D), some (.int V), some (.int z), some (.int 2)] [] N42 v M' 0 0 := by rw [eN42]; exact H
        have H : Ev none e 29 170 [some (.ref 3), some (.int aq), some (.int L), some (.int D), some (.int V), some (.int z), some (.int 2)] [.ref 3] N42 v M' 0 0 := Ev.back 1 (fun n => rfl) H
        have H : Ev none e 29 173 [some (.ref 3), some (.int aq), some (.int L), some (.int D), some (.int V), some (.int z), some (.int 2)] [.ref 6] N42 v M' 0 0 := Ev.back 1 (gs_3 rfl rfl (gf_u hN42.1 qa_3 qr_3_3 qu_6 rfl)) H
        have H : Ev none e 29 174 [some (.ref 3), some (.int aq), some (.int L), some (.int D), some (.int V), some (.int z), some (.int 2)] [.ref 3, .ref 6] N42 v M' 0 0 := Ev.back 1 (fun n => rfl) H
        have H : Ev none e 29 177 [some (.ref 3), some (.int aq), some (.int L), some (.int D), some (.int V), some (.int z), some (.int 2)] [.int (zI N42 3 5), .ref 6] N42 v M' 0 0 := Ev.back 1 (gs_3 rfl rfl (gf_i hN42.1 qa_3 qi_3_5 rfl)) H
        rw [(show zI N42 3 5 = zI N40 3 5 from by rw [eN42]; exact fI_wI).trans (show zI N40 3 5 = zI M 3 5 from by rw [eN40]; exact fI_wI)] at H
        have H : Ev none e 29 179 [some (.ref 3), some (.int aq), some (.int L), some (.int D), some (.int V), some (.int z), some (.int 2)] [.int z, .int (zI M 3 5), .ref 6] N42 v M' 0 0 := Ev.back 1 (fun n => rfl) H
        obtain ⟨b43, H⟩ := Ev.ias rfl rfl hN42.1 qa_6 qw_6 H
        obtain ⟨N44, eN44⟩ : ∃ N, N = (wI N42 6 ((zI M 3 5).toNatClampNeg) z) := ⟨_, rfl⟩
        have hN44 : SQ N44 := by rw [eN44]; exact hN42.ki
        have H : Ev none e 29 180 [some (.ref 3), some (.int aq), some (.int L), some (.int D), some (.int V), some (.int z), some (.int 2)] [] N44 v M' 0 0 := by rw [eN44]; exact H
        have H : Ev none e 29 181 [some (.ref 3), some (.int aq), some (.int L), some (.int D), some (.int V), some (.int z), some (.int 2)] [.ref 3] N44 v M' 0 0 := Ev.back 1 (fun n => rfl) H
        have H : Ev none e 29 184 [some (.ref 3), some (.int aq), some (.int L), some (.int D), some (.int V), some (.int z), some (.int 2)] [.ref 7] N44 v M' 0 0 := Ev.back 1 (gs_3 rfl rfl (gf_u hN44.1 qa_3 qr_3_4 qu_7 rfl)) H
        have H : Ev none e 29 185 [some (.ref 3), some (.int aq), some (.int L), some (.int D), some (.int V), some (.int z), some (.int 2)] [.ref 3, .ref 7] N44 v M' 0 0 := Ev.back 1 (fun n => rfl) H
        have H : Ev none e 29 188 [some (.ref 3), some (.int aq), some (.int L), some (.int D), some (.int V), some (.int z), some (.int 2)] [.int (zI N44 3 5), .ref 7] N44 v M' 0 0 := Ev.back 1 (gs_3 rfl rfl (gf_i hN44.1 qa_3 qi_3_5 rfl)) H
        rw [((show zI N44 3 5 = zI N42 3 5 from by rw [eN44]; exact fI_wI).trans (show zI N42 3 5 = zI N40 3 5 from by rw [eN42]; exact fI_wI)).trans (show zI N40 3 5 = zI M 3 5 from by rw [eN40]; exact fI_wI)] at H
        have H : Ev none e 29 190 [some (.ref 3), some (.int aq), some (.int L), some (.int D), some (.int V), some (.int z), some (.int 2)] [.int V, .int (zI M 3 5), .ref 7] N44 v M' 0 0 := Ev.back 1 (fun n => rfl) H
        obtain ⟨b45, H⟩ := Ev.ias rfl rfl hN44.1 qa_7 qw_7 H
        obtain ⟨N46, eN46⟩ : ∃ N, N = (wI N44 7 ((zI M 3 5).toNatClampNeg) V) := ⟨_, rfl⟩
        have hN46 : SQ N46 := by rw [eN46]; exact hN44.ki
        have H : Ev none e 29 191 [some (.ref 3), some (.int aq), some (.int L), some (.int D), some (.int V), some (.int z), some (.int 2)] [] N46 v M' 0 0 := by rw [eN46]; exact H
        have H : Ev none e 29 193 [some (.ref 3), some (.int aq), some (.int L), some (.int D), some (.int V), some (.int z), some (.int 2)] [.int z] N46 v M' 0 0 := Ev.back 1 (fun n => rfl) H
        obtain ⟨z1, z2⟩ := Ev.retz rfl rfl H
        subst eN40 eN42 eN44 eN46
        exact Or.inr (Or.inr (Or.inr (Or.inr (Or.inl ⟨h1, h11, h12, b39, b41, b43, b45, z1, z2⟩))))
    · rw [if_neg h11] at H
      have H : Ev none e 29 (if L = 0 then 140 else 148) [some (.ref 3), some (.int aq), some (.int L), some (.int D), some (.int V), some (.int z), some (.int 1)] [] M v M' 0 0 := Ev.back 2 (fun n => rfl) H
      by_cases h47 : L = 0
      · rw [if_pos h47] at H
        have H : Ev none e 29 (if 3 < D then 148 else 145) [some (.ref 3), some (.int aq), some (.int L), some (.int D), some (.int V), some (.int z), some (.int 1)] [] M v M' 0 0 := Ev.back 3 (fun n => rfl) H
        by_cases h48 : 3 < D
        · rw [if_pos h48] at H
          have H : Ev none e 29 149 [some (.ref 3), some (.int aq), some (.int L), some (.int D), some (.int V), some (.int z), some (.int 1)] [.ref 3] M v M' 0 0 := Ev.back 1 (fun n => rfl) H
          have H : Ev none e 29 152 [some (.ref 3), some (.int aq), some (.int L), some (.int D), some (.int V), some (.int z), some (.int 1)] [.ref 4] M v M' 0 0 := Ev.back 1 (gs_3 rfl rfl (gf_u hS.1 qa_3 qr_3_1 qu_4 rfl)) H
          have H : Ev none e 29 153 [some (.ref 3), some (.int aq), some (.int L), some (.int D), some (.int V), some (.int z), some (.int 1)] [.ref 3, .ref 4] M v M' 0 0 := Ev.back 1 (fun n => rfl) H
          have H : Ev none e 29 156 [some (.ref 3), some (.int aq), some (.int L), some (.int D), some (.int V), some (.int z), some (.int 1)] [.int (zI M 3 5), .ref 4] M v M' 0 0 := Ev.back 1 (gs_3 rfl rfl (gf_i hS.1 qa_3 qi_3_5 rfl)) H
          have H : Ev none e 29 158 [some (.ref 3), some (.int aq), some (.int L), some (.int D), some (.int V), some (.int z), some (.int 1)] [.int 1, .int (zI M 3 5), .ref 4] M v M' 0 0 := Ev.back 1 (fun n => rfl) H
          obtain ⟨b49, H⟩ := Ev.ias rfl rfl hS.1 qa_4 qw_4 H
          obtain ⟨N50, eN50⟩ : ∃ N, N = (wI M 4 ((zI M 3 5).toNatClampNeg) 1) := ⟨_, rfl⟩
          have hN50 : SQ N50 := by rw [eN50]; exact hS.ki
          have H : Ev none e 29 159 [some (.ref 3), some (.int aq), some (.int L), some (.int D), some (.int V), some (.int z), some (.int 1)] [] N50 v M' 0 0 := by rw [eN50]; exact H
          have H : Ev none e 29 160 [some (.ref 3), some (.int aq), some (.int L), some (.int D), some (.int V), some (.int z), some (.int 1)] [.ref 3] N50 v M' 0 0 := Ev.back 1 (fun n => rfl) H
          have H : Ev none e 29 163 [some (.ref 3), some (.int aq), some (.int L), some (.int D), some (.int V), some (.int z), some (.int 1)] [.ref 5] N50 v M' 0 0 := Ev.back 1 (gs_3 rfl rfl (gf_u hN50.1 qa_3 qr_3_2 qu_5 rfl)) H
          have H : Ev none e 29 164 [some (.ref 3), some (.int aq), some (.int L), some (.int D), some (.int V), some (.int z), some (.int 1)] [.ref 3, .ref 5] N50 v M' 0 0 := Ev.back 1 (fun n => rfl) H
          have H : Ev none e 29 167 [some (.ref 3), some (.int aq), some (.int L), some (.int D), some (.int V), some (.int z), some (.int 1)] [.int (zI N50 3 5), .ref 5] N50 v M' 0 0 := Ev.back 1 (gs_3 rfl rfl (gf_i hN50.1 qa_3 qi_3_5 rfl)) H
          rw [show zI N50 3 5 = zI M 3 5 from by rw [eN50]; exact fI_wI] at H
          have H : Ev none e 29 168 [some (.ref 3), some (.int aq), some (.int L), some (.int D), some (.int V), some (.int z), some (.int 1)] [.int aq, .int (zI M 3 5), .ref 5] N50 v M' 0 0 := Ev.back 1 (fun n => rfl) H
          obtain ⟨b51, H⟩ := Ev.ias rfl rfl hN50.1 qa_5 qw_5 H
          obtain ⟨N52, eN52⟩ : ∃ N, N = (wI N50 5 ((zI M 3 5).toNatClampNeg) aq) := ⟨_, rfl⟩
          have hN52 : SQ N52 := by rw [eN52]; exact hN50.ki
          have H : Ev none e 29 169 [some (.ref 3), some (.int aq), some (.int L), some (.int D), some (.int V), some (.int z), some (.int 1)] [] N52 v M' 0 0 := by rw [eN52]; exact H
          have H : Ev none e 29 170 [some (.ref 3), some (.int aq), some (.int L), some (.int D), some (.int V), some (.int z), some (.int 1)] [.ref 3] N52 v M' 0 0 := Ev.back 1 (fun n => rfl) H
          have H : Ev none e 29 173 [some (.ref 3), some (.int aq), some (.int L), some (.int D), some (.int V), some (.int z), some (.int 1)] [.ref 6] N52 v M' 0 0 := Ev.back 1 (gs_3 rfl rfl (gf_u hN52.1 qa_3 qr_3_3 qu_6 rfl)) H
          have H : Ev none e 29 174 [some (.ref 3), some (.int aq), some (.int L), some (.int D), some (.int V), some (.int z), some (.int 1)] [.ref 3, .ref 6] N52 v M' 0 0 := Ev.back 1 (fun n => rfl) H
          have H : Ev none e 29 177 [some (.ref 3), some (.int aq), some (.int L), some (.int D), some (.int V), some (.int z), some (.int 1)] [.int (zI N52 3 5), .ref 6] N52 v M' 0 0 := Ev.back 1 (gs_3 rfl rfl (gf_i hN52.1 qa_3 qi_3_5 rfl)) H
          rw [(show zI N52 3 5 = zI N50 3 5 from by rw [eN52]; exact fI_wI).trans (show zI N50 3 5 = zI M 3 5 from by rw [eN50]; exact fI_wI)] at H
          have H : Ev none e 29 179 [some (.ref 3), some (.int aq), some (.int L), some (.int D), some (.int V), some (.int z), some (.int 1)] [.int z, .int (zI M 3 5), .ref 6] N52 v M' 0 0 := Ev.back 1 (fun n => rfl) H
          obtain ⟨b53, H⟩ := Ev.ias rfl rfl hN52.1 qa_6 qw_6 H
          obtain ⟨N54, eN54⟩ : ∃ N, N = (wI N52 6 ((zI M 3 5).toNatClampNeg) z) := ⟨_, rfl⟩
          have hN54 : SQ N54 := by rw [eN54]; exact hN52.ki
          have H : Ev none e 29 180 [some (.ref 3), some (.int aq), some (.int L), some (.int D), some (.int V), some (.int z), some (.int 1)] [] N54 v M' 0 0 := by rw [eN54]; exact H
          have H : Ev none e 29 181 [some (.ref 3), some (.int aq), some (.int L), some (.int D), some (.int V), some (.int z), some (.int 1)] [.ref 3] N54 v M' 0 0 := Ev.back 1 (fun n => rfl) H
          have H : Ev none e 29 184 [some (.ref 3), some (.int aq), some (.int L), some (.int D), some (.int V), some (.int z), some (.int 1)] [.ref 7] N54 v M' 0 0 := Ev.back 1 (gs_3 rfl rfl (gf_u hN54.1 qa_3 qr_3_4 qu_7 rfl)) H
          have H : Ev none e 29 185 [some (.ref 3), some (.int aq), some (.int L), some (.int D), some (.int V), some (.int z), some (.int 1)] [.ref 3, .ref 7] N54 v M' 0 0 := Ev.back 1 (fun n => rfl) H
          have H : Ev none e 29 188 [some (.ref 3), some (.int aq), some (.int L), some (.int D), some (.int V), some (.int z), some (.int 1)] [.int (zI N54 3 5), .ref 7] N54 v M' 0 0 := Ev.back 1 (gs_3 rfl rfl (gf_i hN54.1 qa_3 qi_3_5 rfl)) H
          rw [((show zI N54 3 5 = zI N52 3 5 from by rw [eN54]; exact fI_wI).trans (show zI N52 3 5 = zI N50 3 5 from by rw [eN52]; exact fI_wI)).trans (show zI N50 3 5 = zI M 3 5 from by rw [eN50]; exact fI_wI)] at H
          have H : Ev none e 29 190 [some (.ref 3), some (.int aq), some (.int L), some (.int D), some (.int V), some (.int z), some (.int 1)] [.int V, .int (zI M 3 5), .ref 7] N54 v M' 0 0 := Ev.back 1 (fun n => rfl) H
          obtain ⟨b55, H⟩ := Ev.ias rfl rfl hN54.1 qa_7 qw_7 H
          obtain ⟨N56, eN56⟩ : ∃ N, N = (wI N54 7 ((zI M 3 5).toNatClampNeg) V) := ⟨_, rfl⟩
          have hN56 : SQ N56 := by rw [eN56]; exact hN54.ki
          have H : Ev none e 29 191 [some (.ref 3), some (.int aq), some (.int L), some (.int D), some (.int V), some (.int z), some (.int 1)] [] N56 v M' 0 0 := by rw [eN56]; exact H
          have H : Ev none e 29 193 [some (.ref 3), some (.int aq), some (.int L), some (.int D), some (.int V), some (.int z), some (.int 1)] [.int z] N56 v M' 0 0 := Ev.back 1 (fun n => rfl) H
          obtain ⟨z1, z2⟩ := Ev.retz rfl rfl H
          subst eN50 eN52 eN54 eN56
          exact Or.inr (Or.inr (Or.inr (Or.inr (Or.inr (Or.inl ⟨h1, h11, h47, h48, b49, b51, b53, b55, z1, z2⟩)))))
        · rw [if_neg h48] at H
          have H : Ev none e 29 149 [some (.ref 3), some (.int aq), some (.int L), some (.int D), some (.int V), some (.int z), some (.int 3)] [.ref 3] M v M' 0 0 := Ev.back 3 (fun n => rfl) H
          have H : Ev none e 29 152 [some (.ref 3), some (.int aq), some (.int L), some (.int D), some (.int V), some (.int z), some (.int 3)] [.ref 4] M v M' 0 0 := Ev.back 1 (gs_3 rfl rfl (gf_u hS.1 qa_3 qr_3_1 qu_4 rfl)) H
          have H : Ev none e 29 153 [some (.ref 3), some (.int aq), some (.int L), some (.int D), some (.int V), some (.int z), some (.int 3)] [.ref 3, .ref 4] M v M' 0 0 := Ev.back 1 (fun n => rfl) H
          have H : Ev none e 29 156 [some (.ref 3), some (.int aq), some (.int L), some (.int D), some (.int V), some (.int z), some (.int 3)] [.int (zI M 3 5), .ref 4] M v M' 0 0 := Ev.back 1 (gs_3 rfl rfl (gf_i hS.1 qa_3 qi_3_5 rfl)) H
          have H : Ev none e 29 158 [some (.ref 3), some (.int aq), some (.int L), some (.int D), some (.int V), some (.int z), some (.int 3)] [.int 3, .int (zI M 3 5), .ref 4] M v M' 0 0 := Ev.back 1 (fun n => rfl) H
          obtain ⟨b57, H⟩ := Ev.ias rfl rfl hS.1 qa_4 qw_4 H
          obtain ⟨N58, eN58⟩ : ∃ N, N = (wI M 4 ((zI M 3 5).toNatClampNeg) 3) := ⟨_, rfl⟩
          have hN58 : SQ N58 := by rw [eN58]; exact hS.ki
          have H : Ev none e 29 159 [some (.ref 3), some (.int aq), some (.int L), some (.int D), some (.int V), some (.int z), some (.int 3)] [] N58 v M' 0 0 := by rw [eN58]; exact H
          have H : Ev none e 29 160 [some (.ref 3), some (.int aq), some (.int L), some (.int D), some (.int V), some (.int z), some (.int 3)] [.ref 3] N58 v M' 0 0 := Ev.back 1 (fun n => rfl) H
          have H : Ev none e 29 163 [some (.ref 3), some (.int aq), some (.int L), some (.int D), some (.int V), some (.int z), some (.int 3)] [.ref 5] N58 v M' 0 0 := Ev.back 1 (gs_3 rfl rfl (gf_u hN58.1 qa_3 qr_3_2 qu_5 rfl)) H
          have H : Ev none e 29 164 [some (.ref 3), some (.int aq), some (.int L), some (.int D), some (.int V), some (.int z), some (.int 3)] [.ref 3, .ref 5] N58 v M' 0 0 := Ev.back 1 (fun n => rfl) H
          have H : Ev none e 29 167 [some (.ref 3), some (.int aq), some (.int L), some (.int D), some (.int V), some (.int z), some (.int 3)] [.int (zI N58 3 5), .ref 5] N58 v M' 0 0 := Ev.back 1 (gs_3 rfl rfl (gf_i hN58.1 qa_3 qi_3_5 rfl)) H
          rw [show zI N58 3 5 = zI M 3 5 from by rw [eN58]; exact fI_wI] at H
          have H : Ev none e 29 168 [some (.ref 3), some (.int aq), some (.int L), some (.int D), some (.int V), some (.int z), some (.int 3)] [.int aq, .int (zI M 3 5), .ref 5] N58 v M' 0 0 := Ev.back 1 (fun n => rfl) H
          obtain ⟨b59, H⟩ := Ev.ias rfl rfl hN58.1 qa_5 qw_5 H
          obtain ⟨N60, eN60⟩ : ∃ N, N = (wI N58 5 ((zI M 3 5).toNatClampNeg) aq) := ⟨_, rfl⟩
          have hN60 : SQ N60 := by rw [eN60]; exact hN58.ki
          have H : Ev none e 29 169 [some (.ref 3), some (.int aq), some (.int L), some (.int D), some (.int V), some (.int z), some (.int 3)] [] N60 v M' 0 0 := by rw [eN60]; exact H
          have H : Ev none e 29 170 [some (.ref 3), some (.int aq), some (.int L), some (.int D), some (.int V), some (.int z), some (.int 3)] [.ref 3] N60 v M' 0 0 := Ev.back 1 (fun n => rfl) H
          have H : Ev none e 29 173 [some (.ref 3), some (.int aq), some (.int L), some (.int D), some (.int V), some (.int z), some (.int 3)] [.ref 6] N60 v M' 0 0 := Ev.back 1 (gs_3 rfl rfl (gf_u hN60.1 qa_3 qr_3_3 qu_6 rfl)) H
          have H : Ev none e 29 174 [some (.ref 3), some (.int aq), some (.int L), some (.int D), some (.int V), some (.int z), some (.int 3)] [.ref 3, .ref 6] N60 v M' 0 0 := Ev.back 1 (fun n => rfl) H
          have H : Ev none e 29 177 [some (.ref 3), some (.int aq), some (.int L), some (.int D), some (.int V), some (.int z), some (.int 3)] [.int (zI N60 3 5), .ref 6] N60 v M' 0 0 := Ev.back 1 (gs_3 rfl rfl (gf_i hN60.1 qa_3 qi_3_5 rfl)) H
          rw [(show zI N60 3 5 = zI N58 3 5 from by rw [eN60]; exact fI_wI).trans (show zI N58 3 5 = zI M 3 5 from by rw [eN58]; exact fI_wI)] at H
          have H : Ev none e 29 179 [some (.ref 3), some (.int aq), some (.int L), some (.int D), some (.int V), some (.int z), some (.int 3)] [.int z, .int (zI M 3 5), .ref 6] N60 v M' 0 0 := Ev.back 1 (fun n => rfl) H
          obtain ⟨b61, H⟩ := Ev.ias rfl rfl hN60.1 qa_6 qw_6 H
          obtain ⟨N62, eN62⟩ : ∃ N, N = (wI N60 6 ((zI M 3 5).toNatClampNeg) z) := ⟨_, rfl⟩
          have hN62 : SQ N62 := by rw [eN62]; exact hN60.ki
          have H : Ev none e 29 180 [some (.ref 3), some (.int aq), some (.int L), some (.int D), some (.int V), some (.int z), some (.int 3)] [] N62 v M' 0 0 := by rw [eN62]; exact H
          have H : Ev none e 29 181 [some (.ref 3), some (.int aq), some (.int L), some (.int D), some (.int V), some (.int z), some (.int 3)] [.ref 3] N62 v M' 0 0 := Ev.back 1 (fun n => rfl) H
          have H : Ev none e 29 184 [some (.ref 3), some (.int aq), some (.int L), some (.int D), some (.int V), some (.int z), some (.int 3)] [.ref 7] N62 v M' 0 0 := Ev.back 1 (gs_3 rfl rfl (gf_u hN62.1 qa_3 qr_3_4 qu_7 rfl)) H
          have H : Ev none e 29 185 [some (.ref 3), some (.int aq), some (.int L), some (.int D), some (.int V), some (.int z), some (.int 3)] [.ref 3, .ref 7] N62 v M' 0 0 := Ev.back 1 (fun n => rfl) H
          have H : Ev none e 29 188 [some (.ref 3), some (.int aq), some (.int L), some (.int D), some (.int V), some (.int z), some (.int 3)] [.int (zI N62 3 5), .ref 7] N62 v M' 0 0 := Ev.back 1 (gs_3 rfl rfl (gf_i hN62.1 qa_3 qi_3_5 rfl)) H
          rw [((show zI N62 3 5 = zI N60 3 5 from by rw [eN62]; exact fI_wI).trans (show zI N60 3 5 = zI N58 3 5 from by rw [eN60]; exact fI_wI)).trans (show zI N58 3 5 = zI M 3 5 from by rw [eN58]; exact fI_wI)] at H
          have H : Ev none e 29 190 [some (.ref 3), some (.int aq), some (.int L), some (.int D), some (.int V), some (.int z), some (.int 3)] [.int V, .int (zI M 3 5), .ref 7] N62 v M' 0 0 := Ev.back 1 (fun n => rfl) H
          obtain ⟨b63, H⟩ := Ev.ias rfl rfl hN62.1 qa_7 qw_7 H
          obtain ⟨N64, eN64⟩ : ∃ N, N = (wI N62 7 ((zI M 3 5).toNatClampNeg) V) := ⟨_, rfl⟩
          have hN64 : SQ N64 := by rw [eN64]; exact hN62.ki
          have H : Ev none e 29 191 [some (.ref 3), some (.int aq), some (.int L), some (.int D), some (.int V), some (.int z), some (.int 3)] [] N64 v M' 0 0 := by rw [eN64]; exact H
          have H : Ev none e 29 193 [some (.ref 3), some (.int aq), some (.int L), some (.int D), some (.int V), some (.int z), some (.int 3)] [.int z] N64 v M' 0 0 := Ev.back 1 (fun n => rfl) H
          obtain ⟨z1, z2⟩ := Ev.retz rfl rfl H
          subst eN58 eN60 eN62 eN64
          exact Or.inr (Or.inr (Or.inr (Or.inr (Or.inr (Or.inr (Or.inl ⟨h1, h11, h47, h48, b57, b59, b61, b63, z1, z2⟩))))))
      · rw [if_neg h47] at H
        have H : Ev none e 29 149 [some (.ref 3), some (.int aq), some (.int L), some (.int D), some (.int V), some (.int z), some (.int 1)] [.ref 3] M v M' 0 0 := Ev.back 1 (fun n => rfl) H
        have H : Ev none e 29 152 [some (.ref 3), some (.int aq), some (.int L), some (.int D), some (.int V), some (.int z), some (.int 1)] [.ref 4] M v M' 0 0 := Ev.back 1 (gs_3 rfl rfl (gf_u hS.1 qa_3 qr_3_1 qu_4 rfl)) H
        have H : Ev none e 29 153 [some (.ref 3), some (.int aq), some (.int L), some (.int D), some (.int V), some (.int z), some (.int 1)] [.ref 3, .ref 4] M v M' 0 0 := Ev.back 1 (fun n => rfl) H
        have H : Ev none e 29 156 [some (.ref 3), some (.int aq), some (.int L), some (.int D), some (.int V), some (.int z), some (.int 1)] [.int (zI M 3 5), .ref 4] M v M' 0 0 := Ev.back 1 (gs_3 rfl rfl (gf_i hS.1 qa_3 qi_3_5 rfl)) H
        have H : Ev none e 29 158 [some (.ref 3), some (.int aq), some (.int L), some (.int D), some (.int V), some (.int z), some (.int 1)] [.int 1, .int (zI M 3 5), .ref 4] M v M' 0 0 := Ev.back 1 (fun n => rfl) H
        obtain ⟨b65, H⟩ := Ev.ias rfl rfl hS.1 qa_4 qw_4 H
        obtain ⟨N66, eN66⟩ : ∃ N, N = (wI M 4 ((zI M 3 5).toNatClampNeg) 1) := ⟨_, rfl⟩
        have hN66 : SQ N66 := by rw [eN66]; exact hS.ki
        have H : Ev none e 29 159 [some (.ref 3), some (.int aq), some (.int L), some (.int D), some (.int V), some (.int z), some (.int 1)] [] N66 v M' 0 0 := by rw [eN66]; exact H
        have H : Ev none e 29 160 [some (.ref 3), some (.int aq), some (.int L), some (.int D), some (.int V), some (.int z), some (.int 1)] [.ref 3] N66 v M' 0 0 := Ev.back 1 (fun n => rfl) H
        have H : Ev none e 29 163 [some (.ref 3), some (.int aq), some (.int L), some (.int D), some (.int V), some (.int z), some (.int 1)] [.ref 5] N66 v M' 0 0 := Ev.back 1 (gs_3 rfl rfl (gf_u hN66.1 qa_3 qr_3_2 qu_5 rfl)) H
        have H : Ev none e 29 164 [some (.ref 3), some (.int aq), some (.int L), some (.int D), some (.int V), some (.int z), some (.int 1)] [.ref 3, .ref 5] N66 v M' 0 0 := Ev.back 1 (fun n => rfl) H
        have H : Ev none e 29 167 [some (.ref 3), some (.int aq), some (.int L), some (.int D), some (.int V), some (.int z), some (.int 1)] [.int (zI N66 3 5), .ref 5] N66 v M' 0 0 := Ev.back 1 (gs_3 rfl rfl (gf_i hN66.1 qa_3 qi_3_5 rfl)) H
        rw [show zI N66 3 5 = zI M 3 5 from by rw [eN66]; exact fI_wI] at H
        have H : Ev none e 29 168 [some (.ref 3), some (.int aq), some (.int L), some (.int D), some (.int V), some (.int z), some (.int 1)] [.int aq, .int (zI M 3 5), .ref 5] N66 v M' 0 0 := Ev.back 1 (fun n => rfl) H
        obtain ⟨b67, H⟩ := Ev.ias rfl rfl hN66.1 qa_5 qw_5 H
        obtain ⟨N68, eN68⟩ : ∃ N, N = (wI N66 5 ((zI M 3 5).toNatClampNeg) aq) := ⟨_, rfl⟩
        have hN68 : SQ N68 := by rw [eN68]; exact hN66.ki
        have H : Ev none e 29 169 [some (.ref 3), some (.int aq), some (.int L), some (.int D), some (.int V), some (.int z), some (.int 1)] [] N68 v M' 0 0 := by rw [eN68]; exact H
        have H : Ev none e 29 170 [some (.ref 3), some (.int aq), some (.int L), some (.int D), some (.int V), some (.int z), some (.int 1)] [.ref 3] N68 v M' 0 0 := Ev.back 1 (fun n => rfl) H
        have H : Ev none e 29 173 [some (.ref 3), some (.int aq), some (.int L), some (.int D), some (.int V), some (.int z), some (.int 1)] [.ref 6] N68 v M' 0 0 := Ev.back 1 (gs_3 rfl rfl (gf_u hN68.1 qa_3 qr_3_3 qu_6 rfl)) H
        have H : Ev none e 29 174 [some (.ref 3), some (.int aq), some (.int L), some (.int D), some (.int V), some (.int z), some (.int 1)] [.ref 3, .ref 6] N68 v M' 0 0 := Ev.back 1 (fun n => rfl) H
        have H : Ev none e 29 177 [some (.ref 3), some (.int aq), some (.int L), some (.int D), some (.int V), some (.int z), some (.int 1)] [.int (zI N68 3 5), .ref 6] N68 v M' 0 0 := Ev.back 1 (gs_3 rfl rfl (gf_i hN68.1 qa_3 qi_3_5 rfl)) H
        rw [(show zI N68 3 5 = zI N66 3 5 from by rw [eN68]; exact fI_wI).trans (show zI N66 3 5 = zI M 3 5 from by rw [eN66]; exact fI_wI)] at H
        have H : Ev none e 29 179 [some (.ref 3), some (.int aq), some (.int L), some (.int D), some (.int V), some (.int z), some (.int 1)] [.int z, .int (zI M 3 5), .ref 6] N68 v M' 0 0 := Ev.back 1 (fun n => rfl) H
        obtain ⟨b69, H⟩ := Ev.ias rfl rfl hN68.1 qa_6 qw_6 H
        obtain ⟨N70, eN70⟩ : ∃ N, N = (wI N68 6 ((zI M 3 5).toNatClampNeg) z) := ⟨_, rfl⟩
        have hN70 : SQ N70 := by rw [eN70]; exact hN68.ki
        have H : Ev none e 29 180 [some (.ref 3), some (.int aq), some (.int L), some (.int D), some (.int V), some (.int z), some (.int 1)] [] N70 v M' 0 0 := by rw [eN70]; exact H
        have H : Ev none e 29 181 [some (.ref 3), some (.int aq), some (.int L), some (.int D), some (.int V), some (.int z), some (.int 1)] [.ref 3] N70 v M' 0 0 := Ev.back 1 (fun n => rfl) H
        have H : Ev none e 29 184 [some (.ref 3), some (.int aq), some (.int L), some (.int D), some (.int V), some (.int z), some (.int 1)] [.ref 7] N70 v M' 0 0 := Ev.back 1 (gs_3 rfl rfl (gf_u hN70.1 qa_3 qr_3_4 qu_7 rfl)) H
        have H : Ev none e 29 185 [some (.ref 3), some (.int aq), some (.int L), some (.int D), some (.int V), some (.int z), some (.int 1)] [.ref 3, .ref 7] N70 v M' 0 0 := Ev.back 1 (fun n => rfl) H
        have H : Ev none e 29 188 [some (.ref 3), some (.int aq), some (.int L), some (.int D), some (.int V), some (.int z), some (.int 1)] [.int (zI N70 3 5), .ref 7] N70 v M' 0 0 := Ev.back 1 (gs_3 rfl rfl (gf_i hN70.1 qa_3 qi_3_5 rfl)) H
        rw [((show zI N70 3 5 = zI N68 3 5 from by rw [eN70]; exact fI_wI).trans (show zI N68 3 5 = zI N66 3 5 from by rw [eN68]; exact fI_wI)).trans (show zI N66 3 5 = zI M 3 5 from by rw [eN66]; exact fI_wI)] at H
        have H : Ev none e 29 190 [some (.ref 3), some (.int aq), some (.int L), some (.int D), some (.int V), some (.int z), some (.int 1)] [.int V, .int (zI M 3 5), .ref 7] N70 v M' 0 0 := Ev.back 1 (fun n => rfl) H
        obtain ⟨b71, H⟩ := Ev.ias rfl rfl hN70.1 qa_7 qw_7 H
        obtain ⟨N72, eN72⟩ : ∃ N, N = (wI N70 7 ((zI M 3 5).toNatClampNeg) V) := ⟨_, rfl⟩
        have hN72 : SQ N72 := by rw [eN72]; exact hN70.ki
        have H : Ev none e 29 191 [some (.ref 3), some (.int aq), some (.int L), some (.int D), some (.int V), some (.int z), some (.int 1)] [] N72 v M' 0 0 := by rw [eN72]; exact H
        have H : Ev none e 29 193 [some (.ref 3), some (.int aq), some (.int L), some (.int D), some (.int V), some (.int z), some (.int 1)] [.int z] N72 v M' 0 0 := Ev.back 1 (fun n => rfl) H
        obtain ⟨z1, z2⟩ := Ev.retz rfl rfl H
        subst eN66 eN68 eN70 eN72
        exact Or.inr (Or.inr (Or.inr (Or.inr (Or.inr (Or.inr (Or.inr (⟨h1, h11, h47, b65, b67, b69, b71, z1, z2⟩)))))))
theorem ft_0 {e : Nat} {M M' : Mem} {v : Option Value} (hS : SQ M) (H : Ev none e 28 0 [some (.ref 3), none, none, none, none] [] M v M' 0 0) : Ev none e 28 21 [some (.ref 3), some (.int (if 400 < (zI M 1 1) then 400 else (zI M 1 1))), some (.int 0), none, none] [] (wF M 3 5 0) v M' 0 0 := by
  have H : Ev none e 28 1 [some (.ref 3), none, none, none, none] [.ref 3] M v M' 0 0 := Ev.back 1 (fun n => rfl) H
  have H : Ev none e 28 4 [some (.ref 3), none, none, none, none] [.ref 1] M v M' 0 0 := Ev.back 1 (gs_3 rfl rfl (gf_u hS.1 qa_3 qr_3_0 qu_1 rfl)) H
  have H : Ev none e 28 7 [some (.ref 3), none, none, none, none] [.int (zI M 1 1)] M v M' 0 0 := Ev.back 1 (gs_3 rfl rfl (gf_i hS.1 qa_1 qi_1_1 rfl)) H
  have H : Ev none e 28 10 [some (.ref 3), none, none, none, none] [.int 400, .int (zI M 1 1)] M v M' 0 0 := Ev.back 1 (fun n => rfl) H
  obtain ⟨e1, rfl⟩ := Ev.dpos rfl rfl H
  have H : Ev none (e1 + 1) 28 18 [some (.ref 3), some (.int (if 400 < (zI M 1 1) then 400 else (zI M 1 1))), some (.int 0), none, none] [.int 0, .ref 3] M v M' 0 0 := Ev.back 6 (fun n => rfl) H
  obtain ⟨N2, eN2⟩ : ∃ N, N = (wF M 3 5 0) := ⟨_, rfl⟩
  have hN2 : SQ N2 := by rw [eN2]; exact hS.kf
  have H : Ev none (e1 + 1) 28 21 [some (.ref 3), some (.int (if 400 < (zI M 1 1) then 400 else (zI M 1 1))), some (.int 0), none, none] [] N2 v M' 0 0 := by rw [eN2]; exact Ev.pfi rfl rfl rfl hS.1 qa_3 qi_3_5 H
  have HF := H
  subst eN2
  exact HF
theorem ft_21 {e : Nat} {M M' : Mem} {v : Option Value} {E aq : Int32} {c0 c1 : Option Value} (hS : SQ M) (H : Ev none e 28 21 [some (.ref 3), some (.int E), some (.int aq), c0, c1] [] M v M' 0 0) : (E ≤ aq ∧ Ev none e 28 97 [some (.ref 3), some (.int E), some (.int aq), c0, c1] [] M v M' 0 0) ∨ (¬ (E ≤ aq) ∧ (rI M 2 aq) = 32 ∧ Ev none e 28 21 [some (.ref 3), some (.int E), some (.int (aq + 1)), some (.int (rI M 2 aq)), some (.int (aq + 1))] [] M v M' 0 0) ∨ (¬ (E ≤ aq) ∧ ¬ ((rI M 2 aq) = 32) ∧ (rI M 2 aq) = 10 ∧ Ev none e 28 21 [some (.ref 3), some (.int E), some (.int (aq + 1)), some (.int (rI M 2 aq)), some (.int (aq + 1))] [] M v M' 0 0) ∨ (¬ (E ≤ aq) ∧ ¬ ((rI M 2 aq) = 32) ∧ ¬ ((rI M 2 aq) = 10) ∧ (∃ e1 v1 M1, e = e1 + 1 ∧ Ev none e1 29 0 [some (.ref 3), some (.int aq), none, none, none, none, none] [] M v1 M1 0 0 ∧ Ev none e 28 60 [some (.ref 3), some (.int E), some (.int aq), some (.int (rI M 2 aq)), some (.int (aq + 1))] (v1.toList ++ [.int (aq + 1)]) M1 v M' 0 0)) := by
  have H : Ev none e 28 (if E ≤ aq then 97 else 26) [some (.ref 3), some (.int E), some (.int aq), c0, c1] [] M v M' 0 0 := Ev.back 3 (fun n => rfl) H
  by_cases h1 : E ≤ aq
  · rw [if_pos h1] at H
    have HF := H
    exact Or.inl ⟨h1, HF⟩
  · rw [if_neg h1] at H
    have H : Ev none e 28 27 [some (.ref 3), some (.int E), some (.int aq), c0, c1] [.ref 3] M v M' 0 0 := Ev.back 1 (fun n => rfl) H
    have H : Ev none e 28 30 [some (.ref 3), some (.int E), some (.int aq), c0, c1] [.ref 1] M v M' 0 0 := Ev.back 1 (gs_3 rfl rfl (gf_u hS.1 qa_3 qr_3_0 qu_1 rfl)) H
    have H : Ev none e 28 33 [some (.ref 3), some (.int E), some (.int aq), c0, c1] [.ref 2] M v M' 0 0 := Ev.back 1 (gs_3 rfl rfl (gf_u hS.1 qa_1 qr_1_0 qu_2 rfl)) H
    have H : Ev none e 28 34 [some (.ref 3), some (.int E), some (.int aq), c0, c1] [.int aq, .ref 2] M v M' 0 0 := Ev.back 1 (fun n => rfl) H
    obtain ⟨b2, H⟩ := Ev.ial rfl rfl hS.1 qa_2 qw_2 H
    have H : Ev none e 28 35 [some (.ref 3), some (.int E), some (.int aq), c0, c1] [.int (rI M 2 aq)] M v M' 0 0 := H
    have H : Ev none e 28 (if (rI M 2 aq) = 32 then 91 else 47) [some (.ref 3), some (.int E), some (.int aq), some (.int (rI M 2 aq)), some (.int (aq + 1))] [] M v M' 0 0 := Ev.back 8 (fun n => rfl) H
    by_cases h3 : (rI M 2 aq) = 32
    · rw [if_pos h3] at H
      have H : Ev none e 28 21 [some (.ref 3), some (.int E), some (.int (aq + 1)), some (.int (rI M 2 aq)), some (.int (aq + 1))] [] M v M' 0 0 := Ev.back 3 (fun n => rfl) H
      have HF := H
      exact Or.inr (Or.inl ⟨h1, h3, HF⟩)
    · rw [if_neg h3] at H
      have H : Ev none e 28 (if (rI M 2 aq) = 10 then 91 else 53) [some (.ref 3), some (.int E), some (.int aq), some (.int (rI M 2 aq)), some (.int (aq + 1))] [] M v M' 0 0 := Ev.back 3 (fun n => rfl) H
      by_cases h4 : (rI M 2 aq) = 10
      · rw [if_pos h4] at H
        have H : Ev none e 28 21 [some (.ref 3), some (.int E), some (.int (aq + 1)), some (.int (rI M 2 aq)), some (.int (aq + 1))] [] M v M' 0 0 := Ev.back 3 (fun n => rfl) H
        have HF := H
        exact Or.inr (Or.inr (Or.inl ⟨h1, h3, h4, HF⟩))
      · rw [if_neg h4] at H
        have H : Ev none e 28 57 [some (.ref 3), some (.int E), some (.int aq), some (.int (rI M 2 aq)), some (.int (aq + 1))] [.int aq, .ref 3, .int (aq + 1)] M v M' 0 0 := Ev.back 3 (fun n => rfl) H
        obtain ⟨e1, rfl⟩ := Ev.dpos rfl rfl H
        obtain ⟨vK5, MK5, K5, H⟩ := Ev.callb (fun n => gs_7 rfl rfl (show gCal (.invokevirtual 88) 3 (.int aq :: .ref 3 :: [.int (aq + 1)]) M = some (.inr (29, [some (.ref 3), some (.int aq), none, none, none, none, none], [.int (aq + 1)])) from by show @cond (Option ((List Value × Mem) ⊕ (Nat × Lo × List Value))) (true && gRecv M (.ref 3) 3 && gRoom [.int (aq + 1)] && true) (some (.inr (29, [some (.ref 3), some (.int aq), none, none, none, none, none], [.int (aq + 1)]))) none = _; rw [recv_s hS.1 qa_3 qo_3]; rfl)) H
        have K5 : Ev none e1 29 0 [some (.ref 3), some (.int aq), none, none, none, none, none] [] M vK5 MK5 0 0 := K5
        have HF := H
        exact Or.inr (Or.inr (Or.inr (⟨h1, h3, h4, ⟨e1, vK5, MK5, rfl, K5, HF⟩⟩)))
theorem ft_60 {e : Nat} {M M' : Mem} {v : Option Value} {E aq c nx y : Int32} (hS : SQ M) (H : Ev none e 28 60 [some (.ref 3), some (.int E), some (.int aq), some (.int c), some (.int nx)] [.int y, .int nx] M v M' 0 0) : ((rI M 4 (((zI M 3 5) + 1) - 1)) = 1 ∧ v = none ∧ M' = (wF M 3 5 ((zI M 3 5) + 1))) ∨ (¬ ((rI M 4 (((zI M 3 5) + 1) - 1)) = 1) ∧ Ev none e 28 21 [some (.ref 3), some (.int E), some (.int (if nx < y then y else nx)), some (.int c), some (.int (if nx < y then y else nx))] [] (wF M 3 5 ((zI M 3 5) + 1)) v M' 0 0) := by
  obtain ⟨e1, rfl⟩ := Ev.dpos rfl rfl H
  have H : Ev none (e1 + 1) 28 67 [some (.ref 3), some (.int E), some (.int aq), some (.int c), some (.int (if nx < y then y else nx))] [.ref 3, .ref 3] M v M' 0 0 := Ev.back 4 (fun n => rfl) H
  have H : Ev none (e1 + 1) 28 70 [some (.ref 3), some (.int E), some (.int aq), some (.int c), some (.int (if nx < y then y else nx))] [.int (zI M 3 5), .ref 3] M v M' 0 0 := Ev.back 1 (gs_3 rfl rfl (gf_i hS.1 qa_3 qi_3_5 rfl)) H
  have H : Ev none (e1 + 1) 28 72 [some (.ref 3), some (.int E), some (.int aq), some (.int c), some (.int (if nx < y then y else nx))] [.int ((zI M 3 5) + 1), .ref 3] M v M' 0 0 := Ev.back 2 (fun n => rfl) H
  obtain ⟨N2, eN2⟩ : ∃ N, N = (wF M 3 5 ((zI M 3 5) + 1)) := ⟨_, rfl⟩
  have hN2 : SQ N2 := by rw [eN2]; exact hS.kf
  have H : Ev none (e1 + 1) 28 75 [some (.ref 3), some (.int E), some (.int aq), some (.int c), some (.int (if nx < y then y else nx))] [] N2 v M' 0 0 := by rw [eN2]; exact Ev.pfi rfl rfl rfl hS.1 qa_3 qi_3_5 H
  have H : Ev none (e1 + 1) 28 76 [some (.ref 3), some (.int E), some (.int aq), some (.int c), some (.int (if nx < y then y else nx))] [.ref 3] N2 v M' 0 0 := Ev.back 1 (fun n => rfl) H
  have H : Ev none (e1 + 1) 28 79 [some (.ref 3), some (.int E), some (.int aq), some (.int c), some (.int (if nx < y then y else nx))] [.ref 4] N2 v M' 0 0 := Ev.back 1 (gs_3 rfl rfl (gf_u hN2.1 qa_3 qr_3_1 qu_4 rfl)) H
  have H : Ev none (e1 + 1) 28 80 [some (.ref 3), some (.int E), some (.int aq), some (.int c), some (.int (if nx < y then y else nx))] [.ref 3, .ref 4] N2 v M' 0 0 := Ev.back 1 (fun n => rfl) H
  have H : Ev none (e1 + 1) 28 83 [some (.ref 3), some (.int E), some (.int aq), some (.int c), some (.int (if nx < y then y else nx))] [.int (zI N2 3 5), .ref 4] N2 v M' 0 0 := Ev.back 1 (gs_3 rfl rfl (gf_i hN2.1 qa_3 qi_3_5 rfl)) H
  rw [show zI N2 3 5 = (zI M 3 5) + 1 from by rw [eN2]; exact fI_wF_eq hS.1 qa_3 qi_3_5] at H
  have H : Ev none (e1 + 1) 28 85 [some (.ref 3), some (.int E), some (.int aq), some (.int c), some (.int (if nx < y then y else nx))] [.int (((zI M 3 5) + 1) - 1), .ref 4] N2 v M' 0 0 := Ev.back 2 (fun n => rfl) H
  obtain ⟨b3, H⟩ := Ev.ial rfl rfl hN2.1 qa_4 qw_4 H
  have H : Ev none (e1 + 1) 28 86 [some (.ref 3), some (.int E), some (.int aq), some (.int c), some (.int (if nx < y then y else nx))] [.int (rI N2 4 (((zI M 3 5) + 1) - 1))] N2 v M' 0 0 := H
  rw [show rI N2 4 (((zI M 3 5) + 1) - 1) = rI M 4 (((zI M 3 5) + 1) - 1) from by rw [eN2]; exact rN_wF] at H
  have H : Ev none (e1 + 1) 28 (if (rI M 4 (((zI M 3 5) + 1) - 1)) = 1 then 90 else 91) [some (.ref 3), some (.int E), some (.int aq), some (.int c), some (.int (if nx < y then y else nx))] [] N2 v M' 0 0 := Ev.back 2 (fun n => rfl) H
  by_cases h4 : (rI M 4 (((zI M 3 5) + 1) - 1)) = 1
  · rw [if_pos h4] at H
    obtain ⟨z1, z2⟩ := Ev.retb (fun n => rfl) H
    subst eN2
    exact Or.inl ⟨h4, z1, z2⟩
  · rw [if_neg h4] at H
    have H : Ev none (e1 + 1) 28 21 [some (.ref 3), some (.int E), some (.int (if nx < y then y else nx)), some (.int c), some (.int (if nx < y then y else nx))] [] N2 v M' 0 0 := Ev.back 3 (fun n => rfl) H
    have HF := H
    subst eN2
    exact Or.inr (⟨h4, HF⟩)
theorem ft_97 {e : Nat} {M M' : Mem} {v : Option Value} {E aq : Int32} {c0 c1 : Option Value} (hS : SQ M) (H : Ev none e 28 97 [some (.ref 3), some (.int E), some (.int aq), c0, c1] [] M v M' 0 0) : (0 ≤ (zI M 3 5).toInt ∧ (zI M 3 5).toInt < 401) ∧ (0 ≤ (zI M 3 5).toInt ∧ (zI M 3 5).toInt < 401) ∧ (0 ≤ (zI M 3 5).toInt ∧ (zI M 3 5).toInt < 401) ∧ v = none ∧ M' = (wF (wI (wI (wI M 4 ((zI M 3 5).toNatClampNeg) 0) 5 ((zI M 3 5).toNatClampNeg) E) 6 ((zI M 3 5).toNatClampNeg) E) 3 5 ((zI M 3 5) + 1)) := by
  have H : Ev none e 28 98 [some (.ref 3), some (.int E), some (.int aq), c0, c1] [.ref 3] M v M' 0 0 := Ev.back 1 (fun n => rfl) H
  have H : Ev none e 28 101 [some (.ref 3), some (.int E), some (.int aq), c0, c1] [.ref 4] M v M' 0 0 := Ev.back 1 (gs_3 rfl rfl (gf_u hS.1 qa_3 qr_3_1 qu_4 rfl)) H
  have H : Ev none e 28 102 [some (.ref 3), some (.int E), some (.int aq), c0, c1] [.ref 3, .ref 4] M v M' 0 0 := Ev.back 1 (fun n => rfl) H
  have H : Ev none e 28 105 [some (.ref 3), some (.int E), some (.int aq), c0, c1] [.int (zI M 3 5), .ref 4] M v M' 0 0 := Ev.back 1 (gs_3 rfl rfl (gf_i hS.1 qa_3 qi_3_5 rfl)) H
  have H : Ev none e 28 106 [some (.ref 3), some (.int E), some (.int aq), c0, c1] [.int 0, .int (zI M 3 5), .ref 4] M v M' 0 0 := Ev.back 1 (fun n => rfl) H
  obtain ⟨b1, H⟩ := Ev.ias rfl rfl hS.1 qa_4 qw_4 H
  obtain ⟨N2, eN2⟩ : ∃ N, N = (wI M 4 ((zI M 3 5).toNatClampNeg) 0) := ⟨_, rfl⟩
  have hN2 : SQ N2 := by rw [eN2]; exact hS.ki
  have H : Ev none e 28 107 [some (.ref 3), some (.int E), some (.int aq), c0, c1] [] N2 v M' 0 0 := by rw [eN2]; exact H
  have H : Ev none e 28 108 [some (.ref 3), some (.int E), some (.int aq), c0, c1] [.ref 3] N2 v M' 0 0 := Ev.back 1 (fun n => rfl) H
  have H : Ev none e 28 111 [some (.ref 3), some (.int E), some (.int aq), c0, c1] [.ref 5] N2 v M' 0 0 := Ev.back 1 (gs_3 rfl rfl (gf_u hN2.1 qa_3 qr_3_2 qu_5 rfl)) H
  have H : Ev none e 28 112 [some (.ref 3), some (.int E), some (.int aq), c0, c1] [.ref 3, .ref 5] N2 v M' 0 0 := Ev.back 1 (fun n => rfl) H
  have H : Ev none e 28 115 [some (.ref 3), some (.int E), some (.int aq), c0, c1] [.int (zI N2 3 5), .ref 5] N2 v M' 0 0 := Ev.back 1 (gs_3 rfl rfl (gf_i hN2.1 qa_3 qi_3_5 rfl)) H
  rw [show zI N2 3 5 = zI M 3 5 from by rw [eN2]; exact fI_wI] at H
  have H : Ev none e 28 116 [some (.ref 3), some (.int E), some (.int aq), c0, c1] [.int E, .int (zI M 3 5), .ref 5] N2 v M' 0 0 := Ev.back 1 (fun n => rfl) H
  obtain ⟨b3, H⟩ := Ev.ias rfl rfl hN2.1 qa_5 qw_5 H
  obtain ⟨N4, eN4⟩ : ∃ N, N = (wI N2 5 ((zI M 3 5).toNatClampNeg) E) := ⟨_, rfl⟩
  have hN4 : SQ N4 := by rw [eN4]; exact hN2.ki
  have H : Ev none e 28 117 [some (.ref 3), some (.int E), some (.int aq), c0, c1] [] N4 v M' 0 0 := by rw [eN4]; exact H
  have H : Ev none e 28 118 [some (.ref 3), some (.int E), some (.int aq), c0, c1] [.ref 3] N4 v M' 0 0 := Ev.back 1 (fun n => rfl) H
  have H : Ev none e 28 121 [some (.ref 3), some (.int E), some (.int aq), c0, c1] [.ref 6] N4 v M' 0 0 := Ev.back 1 (gs_3 rfl rfl (gf_u hN4.1 qa_3 qr_3_3 qu_6 rfl)) H
  have H : Ev none e 28 122 [some (.ref 3), some (.int E), some (.int aq), c0, c1] [.ref 3, .ref 6] N4 v M' 0 0 := Ev.back 1 (fun n => rfl) H
  have H : Ev none e 28 125 [some (.ref 3), some (.int E), some (.int aq), c0, c1] [.int (zI N4 3 5), .ref 6] N4 v M' 0 0 := Ev.back 1 (gs_3 rfl rfl (gf_i hN4.1 qa_3 qi_3_5 rfl)) H
  rw [(show zI N4 3 5 = zI N2 3 5 from by rw [eN4]; exact fI_wI).trans (show zI N2 3 5 = zI M 3 5 from by rw [eN2]; exact fI_wI)] at H
  have H : Ev none e 28 126 [some (.ref 3), some (.int E), some (.int aq), c0, c1] [.int E, .int (zI M 3 5), .ref 6] N4 v M' 0 0 := Ev.back 1 (fun n => rfl) H
  obtain ⟨b5, H⟩ := Ev.ias rfl rfl hN4.1 qa_6 qw_6 H
  obtain ⟨N6, eN6⟩ : ∃ N, N = (wI N4 6 ((zI M 3 5).toNatClampNeg) E) := ⟨_, rfl⟩
  have hN6 : SQ N6 := by rw [eN6]; exact hN4.ki
  have H : Ev none e 28 127 [some (.ref 3), some (.int E), some (.int aq), c0, c1] [] N6 v M' 0 0 := by rw [eN6]; exact H
  have H : Ev none e 28 129 [some (.ref 3), some (.int E), some (.int aq), c0, c1] [.ref 3, .ref 3] N6 v M' 0 0 := Ev.back 2 (fun n => rfl) H
  have H : Ev none e 28 132 [some (.ref 3), some (.int E), some (.int aq), c0, c1] [.int (zI N6 3 5), .ref 3] N6 v M' 0 0 := Ev.back 1 (gs_3 rfl rfl (gf_i hN6.1 qa_3 qi_3_5 rfl)) H
  rw [((show zI N6 3 5 = zI N4 3 5 from by rw [eN6]; exact fI_wI).trans (show zI N4 3 5 = zI N2 3 5 from by rw [eN4]; exact fI_wI)).trans (show zI N2 3 5 = zI M 3 5 from by rw [eN2]; exact fI_wI)] at H
  have H : Ev none e 28 134 [some (.ref 3), some (.int E), some (.int aq), c0, c1] [.int ((zI M 3 5) + 1), .ref 3] N6 v M' 0 0 := Ev.back 2 (fun n => rfl) H
  obtain ⟨N8, eN8⟩ : ∃ N, N = (wF N6 3 5 ((zI M 3 5) + 1)) := ⟨_, rfl⟩
  have hN8 : SQ N8 := by rw [eN8]; exact hN6.kf
  have H : Ev none e 28 137 [some (.ref 3), some (.int E), some (.int aq), c0, c1] [] N8 v M' 0 0 := by rw [eN8]; exact Ev.pfi rfl rfl rfl hN6.1 qa_3 qi_3_5 H
  obtain ⟨z1, z2⟩ := Ev.retb (fun n => rfl) H
  subst eN2 eN4 eN6 eN8
  exact ⟨b1, b3, b5, z1, z2⟩
/-! THE CLASS'S TOKENS -/
noncomputable def bC (M : Mem) : Nat → Int32 := fun k => rN M 2 k
theorem rI_n {M : Mem} {a : Nat} {z : Int32} {p : Nat} (h : z.toInt = (p : Int)) : rI M a z = rN M a p := by
  unfold rI
  rw [cl_n h]
theorem sg_ok {M : Mem} {k : Int32} : G_30 M k = sgS (rI M 2 k) := by
  unfold G_30 sgS
  by_cases h1 : rI M 2 k = 59
  · rw [if_pos h1, if_pos (Or.inl h1)]
  rw [if_neg h1]
  by_cases h2 : rI M 2 k = 40
  · rw [if_pos h2, if_pos (Or.inr (Or.inl h2))]
  rw [if_neg h2]
  by_cases h3 : rI M 2 k = 41
  · rw [if_pos h3, if_pos (Or.inr (Or.inr (Or.inl h3)))]
  rw [if_neg h3]
  by_cases h4 : rI M 2 k = 60
  · rw [if_pos h4, if_pos (Or.inr (Or.inr (Or.inr (Or.inl h4))))]
  rw [if_neg h4]
  by_cases h5 : rI M 2 k = 61
  · rw [if_pos h5, if_pos (Or.inr (Or.inr (Or.inr (Or.inr (Or.inl h5)))))]
  rw [if_neg h5]
  by_cases h6 : rI M 2 k = 62
  · rw [if_pos h6, if_pos (Or.inr (Or.inr (Or.inr (Or.inr (Or.inr h6)))))]
  rw [if_neg h6, if_neg]
  rintro (q | q | q | q | q | q)
  · exact h1 q
  · exact h2 q
  · exact h3 q
  · exact h4 q
  · exact h5 q
  · exact h6 q
section CTK
variable {e : Nat} {M M' : Mem} {v : Option Value}
theorem ta_loop {n : Nat} {aq : Int32} (hS : SQ M) (hn : (zI M 1 1).toInt = (n : Int)) (hn2 : n ≤ 440) : ∀ (f p : Nat) (z : Int32) (a : Acc) (c0 : Option Value), p + f = n → z.toInt = (p : Int) → Ev none e 29 10 [some (.ref 3), some (.int aq), some (.int a.1), some (.int a.2.1), some (.int a.2.2), some (.int z), c0] [] M v M' 0 0 → ∃ (z2 : Int32) (c2 : Option Value), z2.toInt = ((p + rlS (bC M) f p : Nat) : Int) ∧ Ev none e 29 96 [some (.ref 3), some (.int aq), some (.int (cfS (bC M) (rlS (bC M) f p) p a).1), some (.int (cfS (bC M) (rlS (bC M) f p) p a).2.1), some (.int (cfS (bC M) (rlS (bC M) f p) p a).2.2), some (.int z2), c2] [] M v M' 0 0 := by
  intro f
  induction f with
  | zero =>
    intro p z a c0 hf hz H
    have hle : zI M 1 1 ≤ z := Int32.le_iff_toInt_le.mpr (by omega)
    rcases ta_10 hS H with ⟨h1, H⟩ | ⟨h1, _⟩ | ⟨h1, _⟩ | ⟨h1, _⟩ | ⟨h1, _⟩
    · exact ⟨z, c0, hz, H⟩
    all_goals exact absurd hle h1
  | succ f ih =>
    intro p z a c0 hf hz H
    have hle : ¬ zI M 1 1 ≤ z := fun q => by have := Int32.le_iff_toInt_le.mp q; omega
    have hb : rI M 2 z = bC M p := rI_n hz
    have hz1 : (z + 1).toInt = ((p + 1 : Nat) : Int) := by rw [i32_p1 (by omega)]; omega
    have key : ∀ a2 : Acc, (smI (bC M p) = 0 ∧ dgI (bC M p) = 0 → False) → cs1 (bC M p) a = a2 → Ev none e 29 10 [some (.ref 3), some (.int aq), some (.int a2.1), some (.int a2.2.1), some (.int a2.2.2), some (.int (z + 1)), some (.int (rI M 2 z))] [] M v M' 0 0 → ∃ (z2 : Int32) (c2 : Option Value), z2.toInt = ((p + rlS (bC M) (f + 1) p : Nat) : Int) ∧ Ev none e 29 96 [some (.ref 3), some (.int aq), some (.int (cfS (bC M) (rlS (bC M) (f + 1) p) p a).1), some (.int (cfS (bC M) (rlS (bC M) (f + 1) p) p a).2.1), some (.int (cfS (bC M) (rlS (bC M) (f + 1) p) p a).2.2), some (.int z2), c2] [] M v M' 0 0 := by
      intro a2 hx ha2 H
      obtain ⟨z2, c2, g1, g2⟩ := ih (p + 1) (z + 1) a2 _ (by omega) hz1 H
      have hr : rlS (bC M) (f + 1) p = rlS (bC M) f (p + 1) + 1 := by
        conv => lhs; unfold rlS
        rw [if_neg hx]
      refine ⟨z2, c2, by rw [hr, g1]; congr 1; omega, ?_⟩
      rw [hr]
      show Ev none e 29 96 [some (.ref 3), some (.int aq), some (.int (cfS (bC M) (rlS (bC M) f (p + 1)) (p + 1) (cs1 (bC M p) a)).1), some (.int (cfS (bC M) (rlS (bC M) f (p + 1)) (p + 1) (cs1 (bC M p) a)).2.1), some (.int (cfS (bC M) (rlS (bC M) f (p + 1)) (p + 1) (cs1 (bC M p) a)).2.2), some (.int z2), c2] [] M v M' 0 0
      rw [ha2]
      exact g2
    have e1 : G_126 M (rI M 2 z) 97 122 = smI (bC M p) := by rw [hb]; rfl
    have e2 : G_126 M (rI M 2 z) 48 57 = dgI (bC M p) := by rw [hb]; rfl
    rcases ta_10 hS H with ⟨h1, H⟩ | ⟨h1, h2, h3, H⟩ | ⟨h1, h2, h3, h4, H⟩ | ⟨h1, h2, h3, h4, H⟩ | ⟨h1, h2, H⟩
    · exact absurd h1 hle
    · rw [e1] at h2
      rw [e2] at h3
      have hr : rlS (bC M) (f + 1) p = 0 := by
        unfold rlS
        rw [if_pos ⟨h2, h3⟩]
      rw [hr]
      exact ⟨z, _, hz, H⟩
    · rw [e1] at h2
      rw [e2] at h3
      refine key (a.1, a.2.1 + 1, a.2.2) (fun q => h3 q.2) ?_ H
      unfold cs1
      rw [if_pos h2, if_pos h4]
    · rw [e1] at h2
      rw [e2] at h3
      refine key (a.1, a.2.1 + 1, ((10 * a.2.2) + bC M p) - 48) (fun q => h3 q.2) ?_ (by rw [← hb]; exact H)
      unfold cs1
      rw [if_pos h2, if_neg h4]
    · rw [e1] at h2
      refine key (a.1 + 1, a.2.1, a.2.2) (fun q => h2 q.1) ?_ H
      unfold cs1
      rw [if_neg h2]
theorem ta_all {n p : Nat} {aq : Int32} (hS : SQ M) (hn : (zI M 1 1).toInt = (n : Int)) (hn2 : n ≤ 440) (hp : aq.toInt = (p : Int)) (hlt : p < n) (H : Ev none e 29 0 [some (.ref 3), some (.int aq), none, none, none, none, none] [] M v M' 0 0) : ∃ z : Int32, z.toInt = ((tokS (bC M) n p).2.2.1 : Int) ∧ v = some (.int z) ∧ (0 ≤ (zI M 3 5).toInt ∧ (zI M 3 5).toInt < 401) ∧ M' = wI (wI (wI (wI M 4 ((zI M 3 5).toNatClampNeg) (tokS (bC M) n p).1) 5 ((zI M 3 5).toNatClampNeg) aq) 6 ((zI M 3 5).toNatClampNeg) z) 7 ((zI M 3 5).toNatClampNeg) (tokS (bC M) n p).2.2.2 := by
  have H := ta_0 hS H
  obtain ⟨z2, c2, hz2, H⟩ := ta_loop hS hn hn2 (n - p) p aq (0, 0, 0) none (by omega) hp H
  have hb : rI M 2 aq = bC M p := rI_n hp
  have hq1 : (aq + 1).toInt = ((p + 1 : Nat) : Int) := by rw [i32_p1 (by omega)]; omega
  have hrl := rlS_le (B := bC M) (n - p) p
  by_cases hk : rlS (bC M) (n - p) p = 0
  · have hT : tokS (bC M) n p = (sgS (bC M p), p, p + 1, 0) := by
      unfold tokS
      rw [if_pos hk]
    rw [hk] at hz2 H
    have hzz : z2 = aq := Int32.toInt_inj.mp (by omega)
    rw [hT]
    rcases ta_96 hS H with ⟨h1, b1, b2, b3, b4, h2, h3⟩ | ⟨h1, _⟩ | ⟨h1, _⟩ | ⟨h1, _⟩ | ⟨h1, _⟩ | ⟨h1, _⟩ | ⟨h1, _⟩ | ⟨h1, _⟩
    · refine ⟨aq + 1, hq1, h2, b1, ?_⟩
      rw [h3, sg_ok, hb]
      rfl
    all_goals exact absurd hzz h1
  · have hT : tokS (bC M) n p = (tyA (cfS (bC M) (rlS (bC M) (n - p) p) p (0, 0, 0)), p, p + rlS (bC M) (n - p) p, (cfS (bC M) (rlS (bC M) (n - p) p) p (0, 0, 0)).2.2) := by
      unfold tokS
      rw [if_neg hk]
    rw [hT]
    have hzz : ¬ z2 = aq := fun q => by rw [q] at hz2; omega
    generalize cfS (bC M) (rlS (bC M) (n - p) p) p (0, 0, 0) = a at H ⊢
    refine ⟨z2, hz2, ?_⟩
    unfold tyA
    rcases ta_96 hS H with ⟨h1, _⟩ | ⟨_, h2, h3, h4, _⟩ | ⟨_, h2, h3, h4, _⟩ | ⟨_, h2, h3, h4, b1, b2, b3, b4, r1, r2⟩ | ⟨_, h2, h3, b1, b2, b3, b4, r1, r2⟩ | ⟨_, h2, h3, h4, b1, b2, b3, b4, r1, r2⟩ | ⟨_, h2, h3, h4, b1, b2, b3, b4, r1, r2⟩ | ⟨_, h2, h3, b1, b2, b3, b4, r1, r2⟩
    · exact absurd h1 hzz
    · rw [h4] at h3
      exact absurd h3 (by decide)
    · rw [h4] at h3
      exact absurd h3 (by decide)
    · rw [if_neg (fun q => q.2 h3), if_neg (fun q => h4 q.1)]
      exact ⟨r1, b1, r2⟩
    · rw [if_pos ⟨h2, h3⟩]
      exact ⟨r1, b1, r2⟩
    · rw [if_neg (fun q => h2 q.1), if_neg (fun q => q.2 h4)]
      exact ⟨r1, b1, r2⟩
    · rw [if_neg (fun q => h2 q.1), if_pos ⟨h3, h4⟩]
      exact ⟨r1, b1, r2⟩
    · rw [if_neg (fun q => h2 q.1), if_neg (fun q => h3 q.1)]
      exact ⟨r1, b1, r2⟩
end CTK
/-! THE CLASS FINDS ITS TOKENS -/
def TArr (M : Mem) (ts : List Tok) (k0 : Nat) : Prop := ∀ j t, ts[j]? = some t → rN M 4 (k0 + j) = t.1 ∧ (rN M 5 (k0 + j)).toInt = (t.2.1 : Int) ∧ (rN M 6 (k0 + j)).toInt = (t.2.2.1 : Int) ∧ (t.1 = 3 → rN M 7 (k0 + j) = t.2.2.2)
section FND
variable {e : Nat} {M M' : Mem} {v : Option Value}
theorem tk_len (hS : SQ M) : (zrw M 4).length = 401 ∧ (zrw M 5).length = 401 ∧ (zrw M 6).length = 401 ∧ (zrw M 7).length = 401 :=
  ⟨(hS.1.row qa_4 qw_4).2, (hS.1.row qa_5 qw_5).2, (hS.1.row qa_6 qw_6).2, (hS.1.row qa_7 qw_7).2⟩
theorem four_w {kn : Nat} {t a z w : Int32} (hS : SQ M) (hk : kn < 401) : SQ (wI (wI (wI (wI M 4 kn t) 5 kn a) 6 kn z) 7 kn w) ∧ FA [(3, 5)] [4, 5, 6, 7] M (wI (wI (wI (wI M 4 kn t) 5 kn a) 6 kn z) 7 kn w) ∧ rN (wI (wI (wI (wI M 4 kn t) 5 kn a) 6 kn z) 7 kn w) 4 kn = t ∧ rN (wI (wI (wI (wI M 4 kn t) 5 kn a) 6 kn z) 7 kn w) 5 kn = a ∧ rN (wI (wI (wI (wI M 4 kn t) 5 kn a) 6 kn z) 7 kn w) 6 kn = z ∧ rN (wI (wI (wI (wI M 4 kn t) 5 kn a) 6 kn z) 7 kn w) 7 kn = w ∧ ∀ b j, j ≠ kn → rN (wI (wI (wI (wI M 4 kn t) 5 kn a) 6 kn z) 7 kn w) b j = rN M b j := by
  have s1 : SQ (wI M 4 kn t) := hS.ki
  have s2 : SQ (wI (wI M 4 kn t) 5 kn a) := s1.ki
  have s3 : SQ (wI (wI (wI M 4 kn t) 5 kn a) 6 kn z) := s2.ki
  refine ⟨s3.ki, (((FA.wI (by decide)).trans (FA.wI (by decide))).trans (FA.wI (by decide))).trans (FA.wI (by decide)), ?_, ?_, ?_, ?_, fun b j hj => ?_⟩
  · rw [rN_wI_ne (fun q => absurd q.1 (by decide)), rN_wI_ne (fun q => absurd q.1 (by decide)), rN_wI_ne (fun q => absurd q.1 (by decide)), rN_wI_eq (by rw [(tk_len hS).1]; exact hk)]
  · rw [rN_wI_ne (fun q => absurd q.1 (by decide)), rN_wI_ne (fun q => absurd q.1 (by decide)), rN_wI_eq (by rw [(tk_len s1).2.1]; exact hk)]
  · rw [rN_wI_ne (fun q => absurd q.1 (by decide)), rN_wI_eq (by rw [(tk_len s2).2.2.1]; exact hk)]
  · rw [rN_wI_eq (by rw [(tk_len s3).2.2.2]; exact hk)]
  · rw [rN_wI_ne (fun q => hj q.2), rN_wI_ne (fun q => hj q.2), rN_wI_ne (fun q => hj q.2), rN_wI_ne (fun q => hj q.2)]
theorem TArr.nil {k0 : Nat} : TArr M [] k0 := fun j t h => by cases h
theorem TArr.cons {t : Tok} {ts : List Tok} {k0 : Nat} (h1 : rN M 4 k0 = t.1 ∧ (rN M 5 k0).toInt = (t.2.1 : Int) ∧ (rN M 6 k0).toInt = (t.2.2.1 : Int) ∧ (t.1 = 3 → rN M 7 k0 = t.2.2.2)) (h2 : TArr M ts (k0 + 1)) : TArr M (t :: ts) k0 := by
  intro j u hu
  cases j with
  | zero => cases hu; exact h1
  | succ j =>
    have h3 := h2 j u hu
    rw [show k0 + 1 + j = k0 + (j + 1) from by omega] at h3
    exact h3
theorem ft_end {n p kn : Nat} {E aq : Int32} {c0 c1 : Option Value} (hE : E.toInt = (mn4 n : Int)) (hp : p ≤ n) (hle : mn4 n ≤ p) (hS : SQ M) (hk : (zI M 3 5).toInt = (kn : Int)) (H : Ev none e 28 97 [some (.ref 3), some (.int E), some (.int aq), c0, c1] [] M v M' 0 0) : v = none ∧ SQ M' ∧ FA [(3, 5)] [4, 5, 6, 7] M M' ∧ (zI M' 3 5).toInt = ((kn + (tlS (bC M) n p).length : Nat) : Int) ∧ TArr M' (tlS (bC M) n p) kn ∧ ∀ b, b ∈ [4, 5, 6, 7] → ∀ j, j < kn → rN M' b j = rN M b j := by
  obtain ⟨⟨b1, b2⟩, -, -, h1, h2⟩ := ft_97 hS H
  have hkn : (zI M 3 5).toNatClampNeg = kn := cl_n hk
  rw [hkn] at h2
  rw [tlS_end hp hle]
  have s1 : SQ (wI M 4 kn 0) := hS.ki
  have s2 : SQ (wI (wI M 4 kn 0) 5 kn E) := s1.ki
  have s3 : SQ (wI (wI (wI M 4 kn 0) 5 kn E) 6 kn E) := s2.ki
  have hk2 : (zI M 3 5 + 1).toInt = ((kn + 1 : Nat) : Int) := by rw [i32_p1 (by omega)]; omega
  subst h2
  refine ⟨h1, s3.kf, (((FA.wI (by decide)).trans (FA.wI (by decide))).trans (FA.wI (by decide))).trans (FA.wF (by decide)), ?_, TArr.cons ⟨?_, ?_, ?_, fun q => absurd q (show ¬ (0 : Int32) = 3 by decide)⟩ TArr.nil, fun b _ j hj => ?_⟩
  · rw [fI_wF_eq s3.1 qa_3 qi_3_5]
    exact hk2
  · rw [rN_wF, rN_wI_ne (fun q => absurd q.1 (by decide)), rN_wI_ne (fun q => absurd q.1 (by decide)), rN_wI_eq (by rw [(tk_len hS).1]; omega)]
  · rw [rN_wF, rN_wI_ne (fun q => absurd q.1 (by decide)), rN_wI_eq (by rw [(tk_len s1).2.1]; omega)]
    exact hE
  · rw [rN_wF, rN_wI_eq (by rw [(tk_len s2).2.2.1]; omega)]
    exact hE
  · rw [rN_wF, rN_wI_ne (fun q => by omega), rN_wI_ne (fun q => by omega), rN_wI_ne (fun q => by omega)]
theorem ft_loop {n : Nat} {E : Int32} (hn2 : n ≤ 440) (hE : E.toInt = (mn4 n : Int)) : ∀ (m p kn : Nat) (M : Mem) (aq : Int32) (c0 c1 : Option Value), n - p ≤ m → p ≤ n → aq.toInt = (p : Int) → SQ M → (zI M 1 1).toInt = (n : Int) → (zI M 3 5).toInt = (kn : Int) → Ev none e 28 21 [some (.ref 3), some (.int E), some (.int aq), c0, c1] [] M v M' 0 0 → v = none ∧ SQ M' ∧ FA [(3, 5)] [4, 5, 6, 7] M M' ∧ (zI M' 3 5).toInt = ((kn + (tlS (bC M) n p).length : Nat) : Int) ∧ TArr M' (tlS (bC M) n p) kn ∧ ∀ b, b ∈ [4, 5, 6, 7] → ∀ j, j < kn → rN M' b j = rN M b j := by
  intro m
  induction m with
  | zero =>
    intro p kn M aq c0 c1 hm hp haq hS hn hk H
    have hmn := mn4_le (n := n)
    have hle : E ≤ aq := Int32.le_iff_toInt_le.mpr (by omega)
    rcases ft_21 hS H with ⟨h1, H⟩ | ⟨h1, _⟩ | ⟨h1, _⟩ | ⟨h1, _⟩
    · exact ft_end hE hp (by omega) hS hk H
    all_goals exact absurd hle h1
  | succ m ih =>
    intro p kn M aq c0 c1 hm hp haq hS hn hk H
    have hmn := mn4_le (n := n)
    have hb : rI M 2 aq = bC M p := rI_n haq
    rcases ft_21 hS H with ⟨h1, H⟩ | ⟨h1, h2, H⟩ | ⟨h1, h2, h3, H⟩ | ⟨h1, h2, h3, e1, v1, M1, he, H1, H⟩
    · have h1 := Int32.le_iff_toInt_le.mp h1
      exact ft_end hE hp (by omega) hS hk H
    · have h1 : ¬ mn4 n ≤ p := fun q => h1 (Int32.le_iff_toInt_le.mpr (by omega))
      have hz1 : (aq + 1).toInt = ((p + 1 : Nat) : Int) := by rw [i32_p1 (by omega)]; omega
      rw [hb] at h2
      rw [tlS_bl h1 (Or.inl h2)]
      exact ih (p + 1) kn M _ _ _ (by omega) (by omega) hz1 hS hn hk H
    · have h1 : ¬ mn4 n ≤ p := fun q => h1 (Int32.le_iff_toInt_le.mpr (by omega))
      have hz1 : (aq + 1).toInt = ((p + 1 : Nat) : Int) := by rw [i32_p1 (by omega)]; omega
      rw [hb] at h3
      rw [tlS_bl h1 (Or.inr h3)]
      exact ih (p + 1) kn M _ _ _ (by omega) (by omega) hz1 hS hn hk H
    · have h1 : ¬ mn4 n ≤ p := fun q => h1 (Int32.le_iff_toInt_le.mpr (by omega))
      rw [hb] at h2 h3
      have hbl : ¬ (bC M p = 32 ∨ bC M p = 10) := fun q => q.elim h2 h3
      obtain ⟨z, hz, rfl, ⟨b1, b2⟩, hM1⟩ := ta_all hS hn hn2 haq (by omega) H1
      have hkn : (zI M 3 5).toNatClampNeg = kn := cl_n hk
      rw [hkn] at hM1
      obtain ⟨S1, F1, r4, r5, r6, r7, ro⟩ := four_w (kn := kn) (t := (tokS (bC M) n p).1) (a := aq) (z := z) (w := (tokS (bC M) n p).2.2.2) hS (by omega)
      rw [← hM1] at S1 F1 r4 r5 r6 r7 ro
      have hlt := tokS_lt (B := bC M) (n := n) (p := p)
      have hle := tokS_le (B := bC M) (n := n) (p := p) (by omega)
      have hk1 : zI M1 3 5 = zI M 3 5 := by rw [hM1]; exact fI_wI.trans (fI_wI.trans (fI_wI.trans fI_wI))
      have hz1 : (aq + 1).toInt = ((p + 1 : Nat) : Int) := by rw [i32_p1 (by omega)]; omega
      have hmx : (if aq + 1 < z then z else aq + 1) = z := by
        by_cases hq : aq + 1 < z
        · rw [if_pos hq]
        · rw [if_neg hq]
          rw [Int32.lt_iff_toInt_lt] at hq
          exact Int32.toInt_inj.mp (by omega)
      have hk2 : (zI M 3 5 + 1).toInt = ((kn + 1 : Nat) : Int) := by rw [i32_p1 (by omega)]; omega
      have hix : rI M1 4 ((zI M1 3 5 + 1) - 1) = (tokS (bC M) n p).1 := by
        rw [hk1, rI_n (p := kn) (by rw [i32_sub (by rw [hk2]; have o : (1 : Int32).toInt = 1 := rfl; omega) (by rw [hk2]; have o : (1 : Int32).toInt = 1 := rfl; omega), hk2]; have o : (1 : Int32).toInt = 1 := rfl; omega)]
        exact r4
      have S2 : SQ (wF M1 3 5 (zI M1 3 5 + 1)) := S1.kf
      have F2 : FA [(3, 5)] [4, 5, 6, 7] M (wF M1 3 5 (zI M1 3 5 + 1)) := F1.trans (FA.wF (by decide))
      have k2 : (zI (wF M1 3 5 (zI M1 3 5 + 1)) 3 5).toInt = ((kn + 1 : Nat) : Int) := by
        rw [fI_wF_eq S1.1 qa_3 qi_3_5, hk1]
        exact hk2
      have hbb : bC (wF M1 3 5 (zI M1 3 5 + 1)) = bC M := by
        funext k
        exact F2.rn (by decide)
      have hat : (tokS (bC M) n p).2.1 = p := tokS_at
      have H : Ev none e 28 60 [some (.ref 3), some (.int E), some (.int aq), some (.int (rI M 2 aq)), some (.int (aq + 1))] [.int z, .int (aq + 1)] M1 v M' 0 0 := H
      rcases ft_60 S1 H with ⟨h4, h5, h6⟩ | ⟨h4, H⟩
      · rw [hix] at h4
        rw [tlS_no h1 hbl h4]
        subst h6
        refine ⟨h5, S2, F2, by rw [k2]; rfl, TArr.cons ⟨by rw [rN_wF]; exact r4, by rw [rN_wF, r5, hat]; exact haq, by rw [rN_wF, r6]; exact hz, fun _ => by rw [rN_wF]; exact r7⟩ TArr.nil, fun b _ j hj => ?_⟩
        rw [rN_wF]
        exact ro b j (by omega)
      · rw [hix] at h4
        rw [tlS_tok h1 hbl h4]
        rw [hmx] at H
        obtain ⟨g1, g2, g3, g4, g5, g6⟩ := ih (tokS (bC M) n p).2.2.1 (kn + 1) _ z _ _ (by omega) hle hz S2 (by rw [fI_wF_ne (fun q => absurd q.1 (by decide)), hM1, fI_wI, fI_wI, fI_wI, fI_wI]; exact hn) k2 H
        rw [hbb] at g4 g5
        refine ⟨g1, g2, F2.trans g3, by rw [g4, List.length_cons]; congr 1; omega, TArr.cons ⟨?_, ?_, ?_, fun _ => ?_⟩ g5, fun b hb2 j hj => ?_⟩
        · rw [g6 4 (by decide) kn (by omega), rN_wF]; exact r4
        · rw [g6 5 (by decide) kn (by omega), rN_wF, r5, hat]; exact haq
        · rw [g6 6 (by decide) kn (by omega), rN_wF, r6]; exact hz
        · rw [g6 7 (by decide) kn (by omega), rN_wF]; exact r7
        · rw [g6 b hb2 j (by omega), rN_wF]
          exact ro b j (by omega)
theorem ft_all {n : Nat} (hS : SQ M) (hn : (zI M 1 1).toInt = (n : Int)) (hn2 : n ≤ 440) (H : Ev none e 28 0 [some (.ref 3), none, none, none, none] [] M v M' 0 0) : v = none ∧ SQ M' ∧ FA [(3, 5)] [4, 5, 6, 7] M M' ∧ (zI M' 3 5).toInt = ((tlS (bC M) n 0).length : Int) ∧ TArr M' (tlS (bC M) n 0) 0 := by
  have H := ft_0 hS H
  have hE : (if 400 < zI M 1 1 then 400 else zI M 1 1 : Int32).toInt = (mn4 n : Int) := by
    unfold mn4
    have o : (400 : Int32).toInt = 400 := rfl
    by_cases h : 400 < zI M 1 1
    · rw [if_pos h]
      rw [Int32.lt_iff_toInt_lt] at h
      rw [if_pos (by omega)]
      rfl
    · rw [if_neg h]
      rw [Int32.lt_iff_toInt_lt] at h
      rw [if_neg (by omega)]
      exact hn
  have S1 : SQ (wF M 3 5 0) := hS.kf
  have F1 : FA [(3, 5)] [4, 5, 6, 7] M (wF M 3 5 0) := FA.wF (by decide)
  have hbb : bC (wF M 3 5 0) = bC M := by
    funext k
    exact F1.rn (by decide)
  obtain ⟨g1, g2, g3, g4, g5, _⟩ := ft_loop hn2 hE n 0 0 _ 0 none none (by omega) (by omega) rfl S1 (by rw [fI_wF_ne (fun q => absurd q.1 (by decide))]; exact hn) (by rw [fI_wF_eq hS.1 qa_3 qi_3_5]; rfl) H
  rw [hbb] at g4 g5
  exact ⟨g1, g2, F1.trans g3, by rw [g4, Nat.zero_add], g5⟩
end FND
/-! THE REFERENCE'S READER: pieces (made by gre.py) -/
noncomputable def G_140 (M : Mem) (x : Int32) (y : Int32) (z : Int32) : Int32 := if x < y then 0 else (if z < x then 0 else 1)
theorem g_140 {e : Nat} {M M' : Mem} {v : Option Value} {x y z : Int32} (hS : SQ M) (H : Ev none e 140 0 [some (.int x), some (.int y), some (.int z)] [] M v M' 0 0) : v = some (.int (G_140 M x y z)) ∧ M' = M := by
  unfold G_140
  have H : Ev none e 140 (if x < y then 14 else 5) [some (.int x), some (.int y), some (.int z)] [] M v M' 0 0 := Ev.back 3 (fun n => rfl) H
  by_cases h1 : x < y
  · rw [if_pos h1] at H
    have H : Ev none e 140 15 [some (.int x), some (.int y), some (.int z)] [.int 0] M v M' 0 0 := Ev.back 1 (fun n => rfl) H
    obtain ⟨p1, p2⟩ := Ev.retz rfl rfl H
    exact ⟨by rw [if_pos h1]; exact p1, p2⟩
  · rw [if_neg h1] at H
    have H : Ev none e 140 (if z < x then 14 else 10) [some (.int x), some (.int y), some (.int z)] [] M v M' 0 0 := Ev.back 3 (fun n => rfl) H
    by_cases h2 : z < x
    · rw [if_pos h2] at H
      have H : Ev none e 140 15 [some (.int x), some (.int y), some (.int z)] [.int 0] M v M' 0 0 := Ev.back 1 (fun n => rfl) H
      obtain ⟨p1, p2⟩ := Ev.retz rfl rfl H
      exact ⟨by rw [if_neg h1, if_pos h2]; exact p1, p2⟩
    · rw [if_neg h2] at H
      have H : Ev none e 140 15 [some (.int x), some (.int y), some (.int z)] [.int 1] M v M' 0 0 := Ev.back 2 (fun n => rfl) H
      obtain ⟨p1, p2⟩ := Ev.retz rfl rfl H
      exact ⟨by rw [if_neg h1, if_neg h2]; exact p1, p2⟩
noncomputable def G_159 (M : Mem) : Int32 := if (zI M 633 3) ≤ (zI M 633 4) then (-1) else (rI M 634 (zI M 633 4)) &&& 255
theorem g_159 {e : Nat} {M M' : Mem} {v : Option Value} (hS : SQ M) (H : Ev none e 159 0 [some (.ref 633)] [] M v M' 0 0) : v = some (.int (G_159 M)) ∧ M' = M := by
  unfold G_159
  have H : Ev none e 159 1 [some (.ref 633)] [.ref 633] M v M' 0 0 := Ev.back 1 (fun n => rfl) H
  have H : Ev none e 159 4 [some (.ref 633)] [.int (zI M 633 4)] M v M' 0 0 := Ev.back 1 (gs_3 rfl rfl (gf_i hS.1 qa_633 qi_61_4 rfl)) H
  have H : Ev none e 159 5 [some (.ref 633)] [.ref 633, .int (zI M 633 4)] M v M' 0 0 := Ev.back 1 (fun n => rfl) H
  have H : Ev none e 159 8 [some (.ref 633)] [.int (zI M 633 3), .int (zI M 633 4)] M v M' 0 0 := Ev.back 1 (gs_3 rfl rfl (gf_i hS.1 qa_633 qi_61_3 rfl)) H
  have H : Ev none e 159 (if (zI M 633 3) ≤ (zI M 633 4) then 27 else 11) [some (.ref 633)] [] M v M' 0 0 := Ev.back 1 (fun n => rfl) H
  by_cases h1 : (zI M 633 3) ≤ (zI M 633 4)
  · rw [if_pos h1] at H
    have H : Ev none e 159 28 [some (.ref 633)] [.int (-1)] M v M' 0 0 := Ev.back 1 (fun n => rfl) H
    obtain ⟨p1, p2⟩ := Ev.retz rfl rfl H
    exact ⟨by rw [if_pos h1]; exact p1, p2⟩
  · rw [if_neg h1] at H
    have H : Ev none e 159 12 [some (.ref 633)] [.ref 633] M v M' 0 0 := Ev.back 1 (fun n => rfl) H
    have H : Ev none e 159 15 [some (.ref 633)] [.ref 634] M v M' 0 0 := Ev.back 1 (gs_3 rfl rfl (gf_u hS.1 qa_633 qr_61_1 qu_62 rfl)) H
    have H : Ev none e 159 16 [some (.ref 633)] [.ref 633, .ref 634] M v M' 0 0 := Ev.back 1 (fun n => rfl) H
    have H : Ev none e 159 19 [some (.ref 633)] [.int (zI M 633 4), .ref 634] M v M' 0 0 := Ev.back 1 (gs_3 rfl rfl (gf_i hS.1 qa_633 qi_61_4 rfl)) H
    obtain ⟨b2, H⟩ := Ev.bal rfl rfl hS.1 qa_634 qw_62 (Or.inl rfl) H
    have H : Ev none e 159 20 [some (.ref 633)] [.int (rI M 634 (zI M 633 4))] M v M' 0 0 := H
    have H : Ev none e 159 28 [some (.ref 633)] [.int ((rI M 634 (zI M 633 4)) &&& 255)] M v M' 0 0 := Ev.back 3 (fun n => rfl) H
    obtain ⟨p1, p2⟩ := Ev.retz rfl rfl H
    exact ⟨by rw [if_neg h1]; exact p1, p2⟩
noncomputable def G_160 (M : Mem) (c : Int32) : Int32 := if c < 97 then 0 else (if 122 < c then 0 else 1)
theorem g_160 {e : Nat} {M M' : Mem} {v : Option Value} {c : Int32} (hS : SQ M) (H : Ev none e 160 0 [some (.int c)] [] M v M' 0 0) : v = some (.int (G_160 M c)) ∧ M' = M := by
  unfold G_160
  have H : Ev none e 160 (if c < 97 then 16 else 6) [some (.int c)] [] M v M' 0 0 := Ev.back 3 (fun n => rfl) H
  by_cases h1 : c < 97
  · rw [if_pos h1] at H
    have H : Ev none e 160 17 [some (.int c)] [.int 0] M v M' 0 0 := Ev.back 1 (fun n => rfl) H
    obtain ⟨p1, p2⟩ := Ev.retz rfl rfl H
    exact ⟨by rw [if_pos h1]; exact p1, p2⟩
  · rw [if_neg h1] at H
    have H : Ev none e 160 (if 122 < c then 16 else 12) [some (.int c)] [] M v M' 0 0 := Ev.back 3 (fun n => rfl) H
    by_cases h2 : 122 < c
    · rw [if_pos h2] at H
      have H : Ev none e 160 17 [some (.int c)] [.int 0] M v M' 0 0 := Ev.back 1 (fun n => rfl) H
      obtain ⟨p1, p2⟩ := Ev.retz rfl rfl H
      exact ⟨by rw [if_neg h1, if_pos h2]; exact p1, p2⟩
    · rw [if_neg h2] at H
      have H : Ev none e 160 17 [some (.int c)] [.int 1] M v M' 0 0 := Ev.back 2 (fun n => rfl) H
      obtain ⟨p1, p2⟩ := Ev.retz rfl rfl H
      exact ⟨by rw [if_neg h1, if_neg h2]; exact p1, p2⟩
noncomputable def G_161 (M : Mem) (c : Int32) : Int32 := if c < 48 then 0 else (if 57 < c then 0 else 1)
theorem g_161 {e : Nat} {M M' : Mem} {v : Option Value} {c : Int32} (hS : SQ M) (H : Ev none e 161 0 [some (.int c)] [] M v M' 0 0) : v = some (.int (G_161 M c)) ∧ M' = M := by
  unfold G_161
  have H : Ev none e 161 (if c < 48 then 16 else 6) [some (.int c)] [] M v M' 0 0 := Ev.back 3 (fun n => rfl) H
  by_cases h1 : c < 48
  · rw [if_pos h1] at H
    have H : Ev none e 161 17 [some (.int c)] [.int 0] M v M' 0 0 := Ev.back 1 (fun n => rfl) H
    obtain ⟨p1, p2⟩ := Ev.retz rfl rfl H
    exact ⟨by rw [if_pos h1]; exact p1, p2⟩
  · rw [if_neg h1] at H
    have H : Ev none e 161 (if 57 < c then 16 else 12) [some (.int c)] [] M v M' 0 0 := Ev.back 3 (fun n => rfl) H
    by_cases h2 : 57 < c
    · rw [if_pos h2] at H
      have H : Ev none e 161 17 [some (.int c)] [.int 0] M v M' 0 0 := Ev.back 1 (fun n => rfl) H
      obtain ⟨p1, p2⟩ := Ev.retz rfl rfl H
      exact ⟨by rw [if_neg h1, if_pos h2]; exact p1, p2⟩
    · rw [if_neg h2] at H
      have H : Ev none e 161 17 [some (.int c)] [.int 1] M v M' 0 0 := Ev.back 2 (fun n => rfl) H
      obtain ⟨p1, p2⟩ := Ev.retz rfl rfl H
      exact ⟨by rw [if_neg h1, if_neg h2]; exact p1, p2⟩
theorem nx_0 {e : Nat} {M M' : Mem} {v : Option Value} (hS : SQ M) (H : Ev none e 162 0 [some (.ref 633), none, none, none] [] M v M' 0 0) : ((G_159 M) = 32 ∧ Ev none e 162 0 [some (.ref 633), none, none, none] [] (wF M 633 4 ((zI M 633 4) + 1)) v M' 0 0) ∨ (¬ ((G_159 M) = 32) ∧ (G_159 M) = 10 ∧ Ev none e 162 0 [some (.ref 633), none, none, none] [] (wF M 633 4 ((zI M 633 4) + 1)) v M' 0 0) ∨ (¬ ((G_159 M) = 32) ∧ ¬ ((G_159 M) = 10) ∧ Ev none e 162 31 [some (.ref 633), none, none, none] [] M v M' 0 0) := by
  have H : Ev none e 162 1 [some (.ref 633), none, none, none] [.ref 633] M v M' 0 0 := Ev.back 1 (fun n => rfl) H
  obtain ⟨e1, rfl⟩ := Ev.dpos rfl rfl H
  obtain ⟨vK1, MK1, K1, H⟩ := Ev.callb (fun n => gs_7 rfl rfl (show gCal (.invokevirtual 164) 11 (.ref 633 :: []) M = some (.inr (159, [some (.ref 633)], [])) from by show @cond (Option ((List Value × Mem) ⊕ (Nat × Lo × List Value))) (true && gRecv M (.ref 633) 11 && gRoom [] && true) (some (.inr (159, [some (.ref 633)], []))) none = _; rw [recv_s hS.1 qa_633 qo_61]; rfl)) H
  obtain ⟨pK1, qK1⟩ := g_159 hS K1
  rw [pK1, qK1] at H
  have H : Ev none (e1 + 1) 162 4 [some (.ref 633), none, none, none] [.int (G_159 M)] M v M' 0 0 := H
  have H : Ev none (e1 + 1) 162 (if (G_159 M) = 32 then 18 else 9) [some (.ref 633), none, none, none] [] M v M' 0 0 := Ev.back 2 (fun n => rfl) H
  by_cases h2 : (G_159 M) = 32
  · rw [if_pos h2] at H
    have H : Ev none (e1 + 1) 162 20 [some (.ref 633), none, none, none] [.ref 633, .ref 633] M v M' 0 0 := Ev.back 2 (fun n => rfl) H
    have H : Ev none (e1 + 1) 162 23 [some (.ref 633), none, none, none] [.int (zI M 633 4), .ref 633] M v M' 0 0 := Ev.back 1 (gs_3 rfl rfl (gf_i hS.1 qa_633 qi_61_4 rfl)) H
    have H : Ev none (e1 + 1) 162 25 [some (.ref 633), none, none, none] [.int ((zI M 633 4) + 1), .ref 633] M v M' 0 0 := Ev.back 2 (fun n => rfl) H
    obtain ⟨N4, eN4⟩ : ∃ N, N = (wF M 633 4 ((zI M 633 4) + 1)) := ⟨_, rfl⟩
    have hN4 : SQ N4 := by rw [eN4]; exact hS.kf
    have H : Ev none (e1 + 1) 162 28 [some (.ref 633), none, none, none] [] N4 v M' 0 0 := by rw [eN4]; exact Ev.pfi rfl rfl rfl hS.1 qa_633 qi_61_4 H
    have H : Ev none (e1 + 1) 162 0 [some (.ref 633), none, none, none] [] N4 v M' 0 0 := Ev.back 1 (fun n => rfl) H
    have HF := H
    subst eN4
    exact Or.inl ⟨h2, HF⟩
  · rw [if_neg h2] at H
    have H : Ev none (e1 + 1) 162 10 [some (.ref 633), none, none, none] [.ref 633] M v M' 0 0 := Ev.back 1 (fun n => rfl) H
    obtain ⟨vK5, MK5, K5, H⟩ := Ev.callb (fun n => gs_7 rfl rfl (show gCal (.invokevirtual 164) 11 (.ref 633 :: []) M = some (.inr (159, [some (.ref 633)], [])) from by show @cond (Option ((List Value × Mem) ⊕ (Nat × Lo × List Value))) (true && gRecv M (.ref 633) 11 && gRoom [] && true) (some (.inr (159, [some (.ref 633)], []))) none = _; rw [recv_s hS.1 qa_633 qo_61]; rfl)) H
    obtain ⟨pK5, qK5⟩ := g_159 hS K5
    rw [pK5, qK5] at H
    have H : Ev none (e1 + 1) 162 13 [some (.ref 633), none, none, none] [.int (G_159 M)] M v M' 0 0 := H
    have H : Ev none (e1 + 1) 162 (if (G_159 M) = 10 then 18 else 31) [some (.ref 633), none, none, none] [] M v M' 0 0 := Ev.back 2 (fun n => rfl) H
    by_cases h6 : (G_159 M) = 10
    · rw [if_pos h6] at H
      have H : Ev none (e1 + 1) 162 20 [some (.ref 633), none, none, none] [.ref 633, .ref 633] M v M' 0 0 := Ev.back 2 (fun n => rfl) H
      have H : Ev none (e1 + 1) 162 23 [some (.ref 633), none, none, none] [.int (zI M 633 4), .ref 633] M v M' 0 0 := Ev.back 1 (gs_3 rfl rfl (gf_i hS.1 qa_633 qi_61_4 rfl)) H
      have H : Ev none (e1 + 1) 162 25 [some (.ref 633), none, none, none] [.int ((zI M 633 4) + 1), .ref 633] M v M' 0 0 := Ev.back 2 (fun n => rfl) H
      obtain ⟨N8, eN8⟩ : ∃ N, N = (wF M 633 4 ((zI M 633 4) + 1)) := ⟨_, rfl⟩
      have hN8 : SQ N8 := by rw [eN8]; exact hS.kf
      have H : Ev none (e1 + 1) 162 28 [some (.ref 633), none, none, none] [] N8 v M' 0 0 := by rw [eN8]; exact Ev.pfi rfl rfl rfl hS.1 qa_633 qi_61_4 H
      have H : Ev none (e1 + 1) 162 0 [some (.ref 633), none, none, none] [] N8 v M' 0 0 := Ev.back 1 (fun n => rfl) H
      have HF := H
      subst eN8
      exact Or.inr (Or.inl ⟨h2, h6, HF⟩)
    · rw [if_neg h6] at H
      have HF := H
      exact Or.inr (Or.inr (⟨h2, h6, HF⟩))
theorem nx_31 {e : Nat} {M M' : Mem} {v : Option Value} (hS : SQ M) (H : Ev none e 162 31 [some (.ref 633), none, none, none] [] M v M' 0 0) : ((zI M 633 3) ≤ 400 ∧ 0 ≤ (G_159 (wF (wF M 633 23 (zI M 633 4)) 633 24 0)) ∧ Ev none e 162 92 [some (.ref 633), some (.int (G_159 (wF (wF M 633 23 (zI M 633 4)) 633 24 0))), none, none] [] (wF (wF M 633 23 (zI M 633 4)) 633 24 0) v M' 0 0) ∨ ((zI M 633 3) ≤ 400 ∧ ¬ (0 ≤ (G_159 (wF (wF M 633 23 (zI M 633 4)) 633 24 0))) ∧ v = none ∧ M' = (wF (wF (wF M 633 23 (zI M 633 4)) 633 24 0) 633 22 0)) ∨ (¬ ((zI M 633 3) ≤ 400) ∧ (zI M 633 4) < 400 ∧ 0 ≤ (G_159 (wF (wF M 633 23 (zI M 633 4)) 633 24 0)) ∧ Ev none e 162 92 [some (.ref 633), some (.int (G_159 (wF (wF M 633 23 (zI M 633 4)) 633 24 0))), none, none] [] (wF (wF M 633 23 (zI M 633 4)) 633 24 0) v M' 0 0) ∨ (¬ ((zI M 633 3) ≤ 400) ∧ (zI M 633 4) < 400 ∧ ¬ (0 ≤ (G_159 (wF (wF M 633 23 (zI M 633 4)) 633 24 0))) ∧ v = none ∧ M' = (wF (wF (wF M 633 23 (zI M 633 4)) 633 24 0) 633 22 0)) ∨ (¬ ((zI M 633 3) ≤ 400) ∧ ¬ ((zI M 633 4) < 400) ∧ v = none ∧ M' = (wF (wF (wF (wF M 633 23 (zI M 633 4)) 633 24 0) 633 23 400) 633 22 4)) := by
  have H : Ev none e 162 33 [some (.ref 633), none, none, none] [.ref 633, .ref 633] M v M' 0 0 := Ev.back 2 (fun n => rfl) H
  have H : Ev none e 162 36 [some (.ref 633), none, none, none] [.int (zI M 633 4), .ref 633] M v M' 0 0 := Ev.back 1 (gs_3 rfl rfl (gf_i hS.1 qa_633 qi_61_4 rfl)) H
  obtain ⟨N2, eN2⟩ : ∃ N, N = (wF M 633 23 (zI M 633 4)) := ⟨_, rfl⟩
  have hN2 : SQ N2 := by rw [eN2]; exact hS.kf
  have H : Ev none e 162 39 [some (.ref 633), none, none, none] [] N2 v M' 0 0 := by rw [eN2]; exact Ev.pfi rfl rfl rfl hS.1 qa_633 qi_61_23 H
  have H : Ev none e 162 41 [some (.ref 633), none, none, none] [.int 0, .ref 633] N2 v M' 0 0 := Ev.back 2 (fun n => rfl) H
  obtain ⟨N4, eN4⟩ : ∃ N, N = (wF N2 633 24 0) := ⟨_, rfl⟩
  have hN4 : SQ N4 := by rw [eN4]; exact hN2.kf
  have H : Ev none e 162 44 [some (.ref 633), none, none, none] [] N4 v M' 0 0 := by rw [eN4]; exact Ev.pfi rfl rfl rfl hN2.1 qa_633 qi_61_24 H
  have H : Ev none e 162 45 [some (.ref 633), none, none, none] [.ref 633] N4 v M' 0 0 := Ev.back 1 (fun n => rfl) H
  have H : Ev none e 162 48 [some (.ref 633), none, none, none] [.int (zI N4 633 3)] N4 v M' 0 0 := Ev.back 1 (gs_3 rfl rfl (gf_i hN4.1 qa_633 qi_61_3 rfl)) H
  rw [(show zI N4 633 3 = zI N2 633 3 from by rw [eN4]; exact fI_wF_ne (fun q => absurd q.2 (by decide))).trans (show zI N2 633 3 = zI M 633 3 from by rw [eN2]; exact fI_wF_ne (fun q => absurd q.2 (by decide)))] at H
  have H : Ev none e 162 (if (zI M 633 3) ≤ 400 then 77 else 54) [some (.ref 633), none, none, none] [] N4 v M' 0 0 := Ev.back 2 (fun n => rfl) H
  by_cases h5 : (zI M 633 3) ≤ 400
  · rw [if_pos h5] at H
    have H : Ev none e 162 78 [some (.ref 633), none, none, none] [.ref 633] N4 v M' 0 0 := Ev.back 1 (fun n => rfl) H
    obtain ⟨e1, rfl⟩ := Ev.dpos rfl rfl H
    obtain ⟨vK6, MK6, K6, H⟩ := Ev.callb (fun n => gs_7 rfl rfl (show gCal (.invokevirtual 164) 11 (.ref 633 :: []) N4 = some (.inr (159, [some (.ref 633)], [])) from by show @cond (Option ((List Value × Mem) ⊕ (Nat × Lo × List Value))) (true && gRecv N4 (.ref 633) 11 && gRoom [] && true) (some (.inr (159, [some (.ref 633)], []))) none = _; rw [recv_s hN4.1 qa_633 qo_61]; rfl)) H
    obtain ⟨pK6, qK6⟩ := g_159 hN4 K6
    rw [pK6, qK6] at H
    have H : Ev none (e1 + 1) 162 81 [some (.ref 633), none, none, none] [.int (G_159 N4)] N4 v M' 0 0 := H
    have H : Ev none (e1 + 1) 162 (if 0 ≤ (G_159 N4) then 92 else 86) [some (.ref 633), some (.int (G_159 N4)), none, none] [] N4 v M' 0 0 := Ev.back 3 (fun n => rfl) H
    by_cases h7 : 0 ≤ (G_159 N4)
    · rw [if_pos h7] at H
      have HF := H
      subst eN2 eN4
      exact Or.inl ⟨h5, h7, HF⟩
    · rw [if_neg h7] at H
      have H : Ev none (e1 + 1) 162 88 [some (.ref 633), some (.int (G_159 N4)), none, none] [.int 0, .ref 633] N4 v M' 0 0 := Ev.back 2 (fun n => rfl) H
      obtain ⟨N9, eN9⟩ : ∃ N, N = (wF N4 633 22 0) := ⟨_, rfl⟩
      have hN9 : SQ N9 := by rw [eN9]; exact hN4.kf
      have H : Ev none (e1 + 1) 162 91 [some (.ref 633), some (.int (G_159 N4)), none, none] [] N9 v M' 0 0 := by rw [eN9]; exact Ev.pfi rfl rfl rfl hN4.1 qa_633 qi_61_22 H
      obtain ⟨z1, z2⟩ := Ev.retb (fun n => rfl) H
      subst eN2 eN4 eN9
      exact Or.inr (Or.inl ⟨h5, h7, z1, z2⟩)
  · rw [if_neg h5] at H
    have H : Ev none e 162 55 [some (.ref 633), none, none, none] [.ref 633] N4 v M' 0 0 := Ev.back 1 (fun n => rfl) H
    have H : Ev none e 162 58 [some (.ref 633), none, none, none] [.int (zI N4 633 4)] N4 v M' 0 0 := Ev.back 1 (gs_3 rfl rfl (gf_i hN4.1 qa_633 qi_61_4 rfl)) H
    rw [(show zI N4 633 4 = zI N2 633 4 from by rw [eN4]; exact fI_wF_ne (fun q => absurd q.2 (by decide))).trans (show zI N2 633 4 = zI M 633 4 from by rw [eN2]; exact fI_wF_ne (fun q => absurd q.2 (by decide)))] at H
    have H : Ev none e 162 (if (zI M 633 4) < 400 then 77 else 64) [some (.ref 633), none, none, none] [] N4 v M' 0 0 := Ev.back 2 (fun n => rfl) H
    by_cases h10 : (zI M 633 4) < 400
    · rw [if_pos h10] at H
      have H : Ev none e 162 78 [some (.ref 633), none, none, none] [.ref 633] N4 v M' 0 0 := Ev.back 1 (fun n => rfl) H
      obtain ⟨e1, rfl⟩ := Ev.dpos rfl rfl H
      obtain ⟨vK11, MK11, K11, H⟩ := Ev.callb (fun n => gs_7 rfl rfl (show gCal (.invokevirtual 164) 11 (.ref 633 :: []) N4 = some (.inr (159, [some (.ref 633)], [])) from by show @cond (Option ((List Value × Mem) ⊕ (Nat × Lo × List Value))) (true && gRecv N4 (.ref 633) 11 && gRoom [] && true) (some (.inr (159, [some (.ref 633)], []))) none = _; rw [recv_s hN4.1 qa_633 qo_61]; rfl)) H
      obtain ⟨pK11, qK11⟩ := g_159 hN4 K11
      rw [pK11, qK11] at H
      have H : Ev none (e1 + 1) 162 81 [some (.ref 633), none, none, none] [.int (G_159 N4)] N4 v M' 0 0 := H
      have H : Ev none (e1 + 1) 162 (if 0 ≤ (G_159 N4) then 92 else 86) [some (.ref 633), some (.int (G_159 N4)), none, none] [] N4 v M' 0 0 := Ev.back 3 (fun n => rfl) H
      by_cases h12 : 0 ≤ (G_159 N4)
      · rw [if_pos h12] at H
        have HF := H
        subst eN2 eN4
        exact Or.inr (Or.inr (Or.inl ⟨h5, h10, h12, HF⟩))
      · rw [if_neg h12] at H
        have H : Ev none (e1 + 1) 162 88 [some (.ref 633), some (.int (G_159 N4)), none, none] [.int 0, .ref 633] N4 v M' 0 0 := Ev.back 2 (fun n => rfl) H
        obtain ⟨N14, eN14⟩ : ∃ N, N = (wF N4 633 22 0) := ⟨_, rfl⟩
        have hN14 : SQ N14 := by rw [eN14]; exact hN4.kf
        have H : Ev none (e1 + 1) 162 91 [some (.ref 633), some (.int (G_159 N4)), none, none] [] N14 v M' 0 0 := by rw [eN14]; exact Ev.pfi rfl rfl rfl hN4.1 qa_633 qi_61_22 H
        obtain ⟨z1, z2⟩ := Ev.retb (fun n => rfl) H
        subst eN2 eN4 eN14
        exact Or.inr (Or.inr (Or.inr (Or.inl ⟨h5, h10, h12, z1, z2⟩)))
    · rw [if_neg h10] at H
      have H : Ev none e 162 68 [some (.ref 633), none, none, none] [.int 400, .ref 633] N4 v M' 0 0 := Ev.back 2 (fun n => rfl) H
      obtain ⟨N16, eN16⟩ : ∃ N, N = (wF N4 633 23 400) := ⟨_, rfl⟩
      have hN16 : SQ N16 := by rw [eN16]; exact hN4.kf
      have H : Ev none e 162 71 [some (.ref 633), none, none, none] [] N16 v M' 0 0 := by rw [eN16]; exact Ev.pfi rfl rfl rfl hN4.1 qa_633 qi_61_23 H
      have H : Ev none e 162 73 [some (.ref 633), none, none, none] [.int 4, .ref 633] N16 v M' 0 0 := Ev.back 2 (fun n => rfl) H
      obtain ⟨N18, eN18⟩ : ∃ N, N = (wF N16 633 22 4) := ⟨_, rfl⟩
      have hN18 : SQ N18 := by rw [eN18]; exact hN16.kf
      have H : Ev none e 162 76 [some (.ref 633), none, none, none] [] N18 v M' 0 0 := by rw [eN18]; exact Ev.pfi rfl rfl rfl hN16.1 qa_633 qi_61_22 H
      obtain ⟨z1, z2⟩ := Ev.retb (fun n => rfl) H
      subst eN2 eN4 eN16 eN18
      exact Or.inr (Or.inr (Or.inr (Or.inr (⟨h5, h10, z1, z2⟩))))
theorem nx_92 {e : Nat} {M M' : Mem} {v : Option Value} {c : Int32} (hS : SQ M) (H : Ev none e 162 92 [some (.ref 633), some (.int c), none, none] [] M v M' 0 0) : ((G_160 M c) = 0 ∧ (G_161 M c) = 0 ∧ c = 59 ∧ v = none ∧ M' = (wF (wF (wF M 633 22 3) 633 25 c) 633 4 ((zI M 633 4) + 1))) ∨ ((G_160 M c) = 0 ∧ (G_161 M c) = 0 ∧ ¬ (c = 59) ∧ c = 40 ∧ v = none ∧ M' = (wF (wF (wF M 633 22 3) 633 25 c) 633 4 ((zI M 633 4) + 1))) ∨ ((G_160 M c) = 0 ∧ (G_161 M c) = 0 ∧ ¬ (c = 59) ∧ ¬ (c = 40) ∧ c = 41 ∧ v = none ∧ M' = (wF (wF (wF M 633 22 3) 633 25 c) 633 4 ((zI M 633 4) + 1))) ∨ ((G_160 M c) = 0 ∧ (G_161 M c) = 0 ∧ ¬ (c = 59) ∧ ¬ (c = 40) ∧ ¬ (c = 41) ∧ c < 60 ∧ v = none ∧ M' = (wF (wF (wF M 633 22 4) 633 25 c) 633 4 ((zI M 633 4) + 1))) ∨ ((G_160 M c) = 0 ∧ (G_161 M c) = 0 ∧ ¬ (c = 59) ∧ ¬ (c = 40) ∧ ¬ (c = 41) ∧ ¬ (c < 60) ∧ 62 < c ∧ v = none ∧ M' = (wF (wF (wF M 633 22 4) 633 25 c) 633 4 ((zI M 633 4) + 1))) ∨ ((G_160 M c) = 0 ∧ (G_161 M c) = 0 ∧ ¬ (c = 59) ∧ ¬ (c = 40) ∧ ¬ (c = 41) ∧ ¬ (c < 60) ∧ ¬ (62 < c) ∧ v = none ∧ M' = (wF (wF (wF M 633 22 3) 633 25 c) 633 4 ((zI M 633 4) + 1))) ∨ ((G_160 M c) = 0 ∧ ¬ ((G_161 M c) = 0) ∧ Ev none e 162 161 [some (.ref 633), some (.int c), none, none] [] M v M' 0 0) ∨ (¬ ((G_160 M c) = 0) ∧ Ev none e 162 161 [some (.ref 633), some (.int c), none, none] [] M v M' 0 0) := by
  have H : Ev none e 162 93 [some (.ref 633), some (.int c), none, none] [.int c] M v M' 0 0 := Ev.back 1 (fun n => rfl) H
  obtain ⟨e1, rfl⟩ := Ev.dpos rfl rfl H
  obtain ⟨vK1, MK1, K1, H⟩ := Ev.callb (fun n => rfl) H
  obtain ⟨pK1, qK1⟩ := g_160 hS K1
  rw [pK1, qK1] at H
  have H : Ev none (e1 + 1) 162 96 [some (.ref 633), some (.int c), none, none] [.int (G_160 M c)] M v M' 0 0 := H
  have H : Ev none (e1 + 1) 162 (if (G_160 M c) = 0 then 99 else 161) [some (.ref 633), some (.int c), none, none] [] M v M' 0 0 := Ev.back 1 (fun n => rfl) H
  by_cases h2 : (G_160 M c) = 0
  · rw [if_pos h2] at H
    have H : Ev none (e1 + 1) 162 100 [some (.ref 633), some (.int c), none, none] [.int c] M v M' 0 0 := Ev.back 1 (fun n => rfl) H
    obtain ⟨vK3, MK3, K3, H⟩ := Ev.callb (fun n => rfl) H
    obtain ⟨pK3, qK3⟩ := g_161 hS K3
    rw [pK3, qK3] at H
    have H : Ev none (e1 + 1) 162 103 [some (.ref 633), some (.int c), none, none] [.int (G_161 M c)] M v M' 0 0 := H
    have H : Ev none (e1 + 1) 162 (if (G_161 M c) = 0 then 106 else 161) [some (.ref 633), some (.int c), none, none] [] M v M' 0 0 := Ev.back 1 (fun n => rfl) H
    by_cases h4 : (G_161 M c) = 0
    · rw [if_pos h4] at H
      have H : Ev none (e1 + 1) 162 (if c = 59 then 137 else 113) [some (.ref 633), some (.int c), none, none] [.ref 633] M v M' 0 0 := Ev.back 4 (fun n => rfl) H
      by_cases h5 : c = 59
      · rw [if_pos h5] at H
        have H : Ev none (e1 + 1) 162 142 [some (.ref 633), some (.int c), none, none] [.int 3, .ref 633] M v M' 0 0 := Ev.back 2 (fun n => rfl) H
        obtain ⟨N7, eN7⟩ : ∃ N, N = (wF M 633 22 3) := ⟨_, rfl⟩
        have hN7 : SQ N7 := by rw [eN7]; exact hS.kf
        have H : Ev none (e1 + 1) 162 145 [some (.ref 633), some (.int c), none, none] [] N7 v M' 0 0 := by rw [eN7]; exact Ev.pfi rfl rfl rfl hS.1 qa_633 qi_61_22 H
        have H : Ev none (e1 + 1) 162 147 [some (.ref 633), some (.int c), none, none] [.int c, .ref 633] N7 v M' 0 0 := Ev.back 2 (fun n => rfl) H
        obtain ⟨N9, eN9⟩ : ∃ N, N = (wF N7 633 25 c) := ⟨_, rfl⟩
        have hN9 : SQ N9 := by rw [eN9]; exact hN7.kf
        have H : Ev none (e1 + 1) 162 150 [some (.ref 633), some (.int c), none, none] [] N9 v M' 0 0 := by rw [eN9]; exact Ev.pfi rfl rfl rfl hN7.1 qa_633 qi_61_25 H
        have H : Ev none (e1 + 1) 162 152 [some (.ref 633), some (.int c), none, none] [.ref 633, .ref 633] N9 v M' 0 0 := Ev.back 2 (fun n => rfl) H
        have H : Ev none (e1 + 1) 162 155 [some (.ref 633), some (.int c), none, none] [.int (zI N9 633 4), .ref 633] N9 v M' 0 0 := Ev.back 1 (gs_3 rfl rfl (gf_i hN9.1 qa_633 qi_61_4 rfl)) H
        rw [(show zI N9 633 4 = zI N7 633 4 from by rw [eN9]; exact fI_wF_ne (fun q => absurd q.2 (by decide))).trans (show zI N7 633 4 = zI M 633 4 from by rw [eN7]; exact fI_wF_ne (fun q => absurd q.2 (by decide)))] at H
        have H : Ev none (e1 + 1) 162 157 [some (.ref 633), some (.int c), none, none] [.int ((zI M 633 4) + 1), .ref 633] N9 v M' 0 0 := Ev.back 2 (fun n => rfl) H
        obtain ⟨N11, eN11⟩ : ∃ N, N = (wF N9 633 4 ((zI M 633 4) + 1)) := ⟨_, rfl⟩
        have hN11 : SQ N11 := by rw [eN11]; exact hN9.kf
        have H : Ev none (e1 + 1) 162 160 [some (.ref 633), some (.int c), none, none] [] N11 v M' 0 0 := by rw [eN11]; exact Ev.pfi rfl rfl rfl hN9.1 qa_633 qi_61_4 H
        obtain ⟨z1, z2⟩ := Ev.retb (fun n => rfl) H
        subst eN7 eN9 eN11
        exact Or.inl ⟨h2, h4, h5, z1, z2⟩
      · rw [if_neg h5] at H
        have H : Ev none (e1 + 1) 162 (if c = 40 then 137 else 119) [some (.ref 633), some (.int c), none, none] [.ref 633] M v M' 0 0 := Ev.back 3 (fun n => rfl) H
        by_cases h12 : c = 40
        · rw [if_pos h12] at H
          have H : Ev none (e1 + 1) 162 142 [some (.ref 633), some (.int c), none, none] [.int 3, .ref 633] M v M' 0 0 := Ev.back 2 (fun n => rfl) H
          obtain ⟨N14, eN14⟩ : ∃ N, N = (wF M 633 22 3) := ⟨_, rfl⟩
          have hN14 : SQ N14 := by rw [eN14]; exact hS.kf
          have H : Ev none (e1 + 1) 162 145 [some (.ref 633), some (.int c), none, none] [] N14 v M' 0 0 := by rw [eN14]; exact Ev.pfi rfl rfl rfl hS.1 qa_633 qi_61_22 H
          have H : Ev none (e1 + 1) 162 147 [some (.ref 633), some (.int c), none, none] [.int c, .ref 633] N14 v M' 0 0 := Ev.back 2 (fun n => rfl) H
          obtain ⟨N16, eN16⟩ : ∃ N, N = (wF N14 633 25 c) := ⟨_, rfl⟩
          have hN16 : SQ N16 := by rw [eN16]; exact hN14.kf
          have H : Ev none (e1 + 1) 162 150 [some (.ref 633), some (.int c), none, none] [] N16 v M' 0 0 := by rw [eN16]; exact Ev.pfi rfl rfl rfl hN14.1 qa_633 qi_61_25 H
          have H : Ev none (e1 + 1) 162 152 [some (.ref 633), some (.int c), none, none] [.ref 633, .ref 633] N16 v M' 0 0 := Ev.back 2 (fun n => rfl) H
          have H : Ev none (e1 + 1) 162 155 [some (.ref 633), some (.int c), none, none] [.int (zI N16 633 4), .ref 633] N16 v M' 0 0 := Ev.back 1 (gs_3 rfl rfl (gf_i hN16.1 qa_633 qi_61_4 rfl)) H
          rw [(show zI N16 633 4 = zI N14 633 4 from by rw [eN16]; exact fI_wF_ne (fun q => absurd q.2 (by decide))).trans (show zI N14 633 4 = zI M 633 4 from by rw [eN14]; exact fI_wF_ne (fun q => absurd q.2 (by decide)))] at H
          have H : Ev none (e1 + 1) 162 157 [some (.ref 633), some (.int c), none, none] [.int ((zI M 633 4) + 1), .ref 633] N16 v M' 0 0 := Ev.back 2 (fun n => rfl) H
          obtain ⟨N18, eN18⟩ : ∃ N, N = (wF N16 633 4 ((zI M 633 4) + 1)) := ⟨_, rfl⟩
          have hN18 : SQ N18 := by rw [eN18]; exact hN16.kf
          have H : Ev none (e1 + 1) 162 160 [some (.ref 633), some (.int c), none, none] [] N18 v M' 0 0 := by rw [eN18]; exact Ev.pfi rfl rfl rfl hN16.1 qa_633 qi_61_4 H
          obtain ⟨z1, z2⟩ := Ev.retb (fun n => rfl) H
          subst eN14 eN16 eN18
          exact Or.inr (Or.inl ⟨h2, h4, h5, h12, z1, z2⟩)
        · rw [if_neg h12] at H
          have H : Ev none (e1 + 1) 162 (if c = 41 then 137 else 125) [some (.ref 633), some (.int c), none, none] [.ref 633] M v M' 0 0 := Ev.back 3 (fun n => rfl) H
          by_cases h19 : c = 41
          · rw [if_pos h19] at H
            have H : Ev none (e1 + 1) 162 142 [some (.ref 633), some (.int c), none, none] [.int 3, .ref 633] M v M' 0 0 := Ev.back 2 (fun n => rfl) H
            obtain ⟨N21, eN21⟩ : ∃ N, N = (wF M 633 22 3) := ⟨_, rfl⟩
            have hN21 : SQ N21 := by rw [eN21]; exact hS.kf
            have H : Ev none (e1 + 1) 162 145 [some (.ref 633), some (.int c), none, none] [] N21 v M' 0 0 := by rw [eN21]; exact Ev.pfi rfl rfl rfl hS.1 qa_633 qi_61_22 H
            have H : Ev none (e1 + 1) 162 147 [some (.ref 633), some (.int c), none, none] [.int c, .ref 633] N21 v M' 0 0 := Ev.back 2 (fun n => rfl) H
            obtain ⟨N23, eN23⟩ : ∃ N, N = (wF N21 633 25 c) := ⟨_, rfl⟩
            have hN23 : SQ N23 := by rw [eN23]; exact hN21.kf
            have H : Ev none (e1 + 1) 162 150 [some (.ref 633), some (.int c), none, none] [] N23 v M' 0 0 := by rw [eN23]; exact Ev.pfi rfl rfl rfl hN21.1 qa_633 qi_61_25 H
            have H : Ev none (e1 + 1) 162 152 [some (.ref 633), some (.int c), none, none] [.ref 633, .ref 633] N23 v M' 0 0 := Ev.back 2 (fun n => rfl) H
            have H : Ev none (e1 + 1) 162 155 [some (.ref 633), some (.int c), none, none] [.int (zI N23 633 4), .ref 633] N23 v M' 0 0 := Ev.back 1 (gs_3 rfl rfl (gf_i hN23.1 qa_633 qi_61_4 rfl)) H
            rw [(show zI N23 633 4 = zI N21 633 4 from by rw [eN23]; exact fI_wF_ne (fun q => absurd q.2 (by decide))).trans (show zI N21 633 4 = zI M 633 4 from by rw [eN21]; exact fI_wF_ne (fun q => absurd q.2 (by decide)))] at H
            have H : Ev none (e1 + 1) 162 157 [some (.ref 633), some (.int c), none, none] [.int ((zI M 633 4) + 1), .ref 633] N23 v M' 0 0 := Ev.back 2 (fun n => rfl) H
            obtain ⟨N25, eN25⟩ : ∃ N, N = (wF N23 633 4 ((zI M 633 4) + 1)) := ⟨_, rfl⟩
            have hN25 : SQ N25 := by rw [eN25]; exact hN23.kf
            have H : Ev none (e1 + 1) 162 160 [some (.ref 633), some (.int c), none, none] [] N25 v M' 0 0 := by rw [eN25]; exact Ev.pfi rfl rfl rfl hN23.1 qa_633 qi_61_4 H
            obtain ⟨z1, z2⟩ := Ev.retb (fun n => rfl) H
            subst eN21 eN23 eN25
            exact Or.inr (Or.inr (Or.inl ⟨h2, h4, h5, h12, h19, z1, z2⟩))
          · rw [if_neg h19] at H
            have H : Ev none (e1 + 1) 162 (if c < 60 then 141 else 131) [some (.ref 633), some (.int c), none, none] [.ref 633] M v M' 0 0 := Ev.back 3 (fun n => rfl) H
            by_cases h26 : c < 60
            · rw [if_pos h26] at H
              have H : Ev none (e1 + 1) 162 142 [some (.ref 633), some (.int c), none, none] [.int 4, .ref 633] M v M' 0 0 := Ev.back 1 (fun n => rfl) H
              obtain ⟨N28, eN28⟩ : ∃ N, N = (wF M 633 22 4) := ⟨_, rfl⟩
              have hN28 : SQ N28 := by rw [eN28]; exact hS.kf
              have H : Ev none (e1 + 1) 162 145 [some (.ref 633), some (.int c), none, none] [] N28 v M' 0 0 := by rw [eN28]; exact Ev.pfi rfl rfl rfl hS.1 qa_633 qi_61_22 H
              have H : Ev none (e1 + 1) 162 147 [some (.ref 633), some (.int c), none, none] [.int c, .ref 633] N28 v M' 0 0 := Ev.back 2 (fun n => rfl) H
              obtain ⟨N30, eN30⟩ : ∃ N, N = (wF N28 633 25 c) := ⟨_, rfl⟩
              have hN30 : SQ N30 := by rw [eN30]; exact hN28.kf
              have H : Ev none (e1 + 1) 162 150 [some (.ref 633), some (.int c), none, none] [] N30 v M' 0 0 := by rw [eN30]; exact Ev.pfi rfl rfl rfl hN28.1 qa_633 qi_61_25 H
              have H : Ev none (e1 + 1) 162 152 [some (.ref 633), some (.int c), none, none] [.ref 633, .ref 633] N30 v M' 0 0 := Ev.back 2 (fun n => rfl) H
              have H : Ev none (e1 + 1) 162 155 [some (.ref 633), some (.int c), none, none] [.int (zI N30 633 4), .ref 633] N30 v M' 0 0 := Ev.back 1 (gs_3 rfl rfl (gf_i hN30.1 qa_633 qi_61_4 rfl)) H
              rw [(show zI N30 633 4 = zI N28 633 4 from by rw [eN30]; exact fI_wF_ne (fun q => absurd q.2 (by decide))).trans (show zI N28 633 4 = zI M 633 4 from by rw [eN28]; exact fI_wF_ne (fun q => absurd q.2 (by decide)))] at H
              have H : Ev none (e1 + 1) 162 157 [some (.ref 633), some (.int c), none, none] [.int ((zI M 633 4) + 1), .ref 633] N30 v M' 0 0 := Ev.back 2 (fun n => rfl) H
              obtain ⟨N32, eN32⟩ : ∃ N, N = (wF N30 633 4 ((zI M 633 4) + 1)) := ⟨_, rfl⟩
              have hN32 : SQ N32 := by rw [eN32]; exact hN30.kf
              have H : Ev none (e1 + 1) 162 160 [some (.ref 633), some (.int c), none, none] [] N32 v M' 0 0 := by rw [eN32]; exact Ev.pfi rfl rfl rfl hN30.1 qa_633 qi_61_4 H
              obtain ⟨z1, z2⟩ := Ev.retb (fun n => rfl) H
              subst eN28 eN30 eN32
              exact Or.inr (Or.inr (Or.inr (Or.inl ⟨h2, h4, h5, h12, h19, h26, z1, z2⟩)))
            · rw [if_neg h26] at H
              have H : Ev none (e1 + 1) 162 (if 62 < c then 141 else 137) [some (.ref 633), some (.int c), none, none] [.ref 633] M v M' 0 0 := Ev.back 3 (fun n => rfl) H
              by_cases h33 : 62 < c
              · rw [if_pos h33] at H
                have H : Ev none (e1 + 1) 162 142 [some (.ref 633), some (.int c), none, none] [.int 4, .ref 633] M v M' 0 0 := Ev.back 1 (fun n => rfl) H
                obtain ⟨N35, eN35⟩ : ∃ N, N = (wF M 633 22 4) := ⟨_, rfl⟩
                have hN35 : SQ N35 := by rw [eN35]; exact hS.kf
                have H : Ev none (e1 + 1) 162 145 [some (.ref 633), some (.int c), none, none] [] N35 v M' 0 0 := by rw [eN35]; exact Ev.pfi rfl rfl rfl hS.1 qa_633 qi_61_22 H
                have H : Ev none (e1 + 1) 162 147 [some (.ref 633), some (.int c), none, none] [.int c, .ref 633] N35 v M' 0 0 := Ev.back 2 (fun n => rfl) H
                obtain ⟨N37, eN37⟩ : ∃ N, N = (wF N35 633 25 c) := ⟨_, rfl⟩
                have hN37 : SQ N37 := by rw [eN37]; exact hN35.kf
                have H : Ev none (e1 + 1) 162 150 [some (.ref 633), some (.int c), none, none] [] N37 v M' 0 0 := by rw [eN37]; exact Ev.pfi rfl rfl rfl hN35.1 qa_633 qi_61_25 H
                have H : Ev none (e1 + 1) 162 152 [some (.ref 633), some (.int c), none, none] [.ref 633, .ref 633] N37 v M' 0 0 := Ev.back 2 (fun n => rfl) H
                have H : Ev none (e1 + 1) 162 155 [some (.ref 633), some (.int c), none, none] [.int (zI N37 633 4), .ref 633] N37 v M' 0 0 := Ev.back 1 (gs_3 rfl rfl (gf_i hN37.1 qa_633 qi_61_4 rfl)) H
                rw [(show zI N37 633 4 = zI N35 633 4 from by rw [eN37]; exact fI_wF_ne (fun q => absurd q.2 (by decide))).trans (show zI N35 633 4 = zI M 633 4 from by rw [eN35]; exact fI_wF_ne (fun q => absurd q.2 (by decide)))] at H
                have H : Ev none (e1 + 1) 162 157 [some (.ref 633), some (.int c), none, none] [.int ((zI M 633 4) + 1), .ref 633] N37 v M' 0 0 := Ev.back 2 (fun n => rfl) H
                obtain ⟨N39, eN39⟩ : ∃ N, N = (wF N37 633 4 ((zI M 633 4) + 1)) := ⟨_, rfl⟩
                have hN39 : SQ N39 := by rw [eN39]; exact hN37.kf
                have H : Ev none (e1 + 1) 162 160 [some (.ref 633), some (.int c), none, none] [] N39 v M' 0 0 := by rw [eN39]; exact Ev.pfi rfl rfl rfl hN37.1 qa_633 qi_61_4 H
                obtain ⟨z1, z2⟩ := Ev.retb (fun n => rfl) H
                subst eN35 eN37 eN39
                exact Or.inr (Or.inr (Or.inr (Or.inr (Or.inl ⟨h2, h4, h5, h12, h19, h26, h33, z1, z2⟩))))
              · rw [if_neg h33] at H
                have H : Ev none (e1 + 1) 162 142 [some (.ref 633), some (.int c), none, none] [.int 3, .ref 633] M v M' 0 0 := Ev.back 2 (fun n => rfl) H
                obtain ⟨N41, eN41⟩ : ∃ N, N = (wF M 633 22 3) := ⟨_, rfl⟩
                have hN41 : SQ N41 := by rw [eN41]; exact hS.kf
                have H : Ev none (e1 + 1) 162 145 [some (.ref 633), some (.int c), none, none] [] N41 v M' 0 0 := by rw [eN41]; exact Ev.pfi rfl rfl rfl hS.1 qa_633 qi_61_22 H
                have H : Ev none (e1 + 1) 162 147 [some (.ref 633), some (.int c), none, none] [.int c, .ref 633] N41 v M' 0 0 := Ev.back 2 (fun n => rfl) H
                obtain ⟨N43, eN43⟩ : ∃ N, N = (wF N41 633 25 c) := ⟨_, rfl⟩
                have hN43 : SQ N43 := by rw [eN43]; exact hN41.kf
                have H : Ev none (e1 + 1) 162 150 [some (.ref 633), some (.int c), none, none] [] N43 v M' 0 0 := by rw [eN43]; exact Ev.pfi rfl rfl rfl hN41.1 qa_633 qi_61_25 H
                have H : Ev none (e1 + 1) 162 152 [some (.ref 633), some (.int c), none, none] [.ref 633, .ref 633] N43 v M' 0 0 := Ev.back 2 (fun n => rfl) H
                have H : Ev none (e1 + 1) 162 155 [some (.ref 633), some (.int c), none, none] [.int (zI N43 633 4), .ref 633] N43 v M' 0 0 := Ev.back 1 (gs_3 rfl rfl (gf_i hN43.1 qa_633 qi_61_4 rfl)) H
                rw [(show zI N43 633 4 = zI N41 633 4 from by rw [eN43]; exact fI_wF_ne (fun q => absurd q.2 (by decide))).trans (show zI N41 633 4 = zI M 633 4 from by rw [eN41]; exact fI_wF_ne (fun q => absurd q.2 (by decide)))] at H
                have H : Ev none (e1 + 1) 162 157 [some (.ref 633), some (.int c), none, none] [.int ((zI M 633 4) + 1), .ref 633] N43 v M' 0 0 := Ev.back 2 (fun n => rfl) H
                obtain ⟨N45, eN45⟩ : ∃ N, N = (wF N43 633 4 ((zI M 633 4) + 1)) := ⟨_, rfl⟩
                have hN45 : SQ N45 := by rw [eN45]; exact hN43.kf
                have H : Ev none (e1 + 1) 162 160 [some (.ref 633), some (.int c), none, none] [] N45 v M' 0 0 := by rw [eN45]; exact Ev.pfi rfl rfl rfl hN43.1 qa_633 qi_61_4 H
                obtain ⟨z1, z2⟩ := Ev.retb (fun n => rfl) H
                subst eN41 eN43 eN45
                exact Or.inr (Or.inr (Or.inr (Or.inr (Or.inr (Or.inl ⟨h2, h4, h5, h12, h19, h26, h33, z1, z2⟩)))))
    · rw [if_neg h4] at H
      have HF := H
      exact Or.inr (Or.inr (Or.inr (Or.inr (Or.inr (Or.inr (Or.inl ⟨h2, h4, HF⟩))))))
  · rw [if_neg h2] at H
    have HF := H
    exact Or.inr (Or.inr (Or.inr (Or.inr (Or.inr (Or.inr (Or.inr (⟨h2, HF⟩)))))))
theorem nx_161 {e : Nat} {M M' : Mem} {v : Option Value} {c : Int32} (hS : SQ M) (H : Ev none e 162 161 [some (.ref 633), some (.int c), none, none] [] M v M' 0 0) : Ev none e 162 178 [some (.ref 633), some (.int c), some (.int (G_160 M c)), some (.int 1)] [] (wF (wG M 633 31 0) 633 25 0) v M' 0 0 := by
  have H : Ev none e 162 162 [some (.ref 633), some (.int c), none, none] [.int c] M v M' 0 0 := Ev.back 1 (fun n => rfl) H
  obtain ⟨e1, rfl⟩ := Ev.dpos rfl rfl H
  obtain ⟨vK1, MK1, K1, H⟩ := Ev.callb (fun n => rfl) H
  obtain ⟨pK1, qK1⟩ := g_160 hS K1
  rw [pK1, qK1] at H
  have H : Ev none (e1 + 1) 162 165 [some (.ref 633), some (.int c), none, none] [.int (G_160 M c)] M v M' 0 0 := H
  have H : Ev none (e1 + 1) 162 170 [some (.ref 633), some (.int c), some (.int (G_160 M c)), some (.int 1)] [.long 0, .ref 633] M v M' 0 0 := Ev.back 5 (fun n => rfl) H
  obtain ⟨N3, eN3⟩ : ∃ N, N = (wG M 633 31 0) := ⟨_, rfl⟩
  have hN3 : SQ N3 := by rw [eN3]; exact hS.kg
  have H : Ev none (e1 + 1) 162 173 [some (.ref 633), some (.int c), some (.int (G_160 M c)), some (.int 1)] [] N3 v M' 0 0 := by rw [eN3]; exact Ev.pfl rfl rfl rfl hS.1 qa_633 ql_61_31 H
  have H : Ev none (e1 + 1) 162 175 [some (.ref 633), some (.int c), some (.int (G_160 M c)), some (.int 1)] [.int 0, .ref 633] N3 v M' 0 0 := Ev.back 2 (fun n => rfl) H
  obtain ⟨N5, eN5⟩ : ∃ N, N = (wF N3 633 25 0) := ⟨_, rfl⟩
  have hN5 : SQ N5 := by rw [eN5]; exact hN3.kf
  have H : Ev none (e1 + 1) 162 178 [some (.ref 633), some (.int c), some (.int (G_160 M c)), some (.int 1)] [] N5 v M' 0 0 := by rw [eN5]; exact Ev.pfi rfl rfl rfl hN3.1 qa_633 qi_61_25 H
  have HF := H
  subst eN3 eN5
  exact HF
theorem nx_178 {e : Nat} {M M' : Mem} {v : Option Value} {c sm al : Int32} (hS : SQ M) (H : Ev none e 162 178 [some (.ref 633), some (.int c), some (.int sm), some (.int al)] [] M v M' 0 0) : ((G_160 M (G_159 M)) = 0 ∧ (G_161 M (G_159 M)) = 0 ∧ Ev none e 162 295 [some (.ref 633), some (.int c), some (.int sm), some (.int al)] [] M v M' 0 0) ∨ ((G_160 M (G_159 M)) = 0 ∧ ¬ ((G_161 M (G_159 M)) = 0) ∧ al = 0 ∧ Ev none e 162 219 [some (.ref 633), some (.int c), some (.int sm), some (.int 0)] [] M v M' 0 0) ∨ ((G_160 M (G_159 M)) = 0 ∧ ¬ ((G_161 M (G_159 M)) = 0) ∧ ¬ (al = 0) ∧ (G_160 M (G_159 M)) = sm ∧ Ev none e 162 219 [some (.ref 633), some (.int c), some (.int sm), some (.int 1)] [] M v M' 0 0) ∨ ((G_160 M (G_159 M)) = 0 ∧ ¬ ((G_161 M (G_159 M)) = 0) ∧ ¬ (al = 0) ∧ ¬ ((G_160 M (G_159 M)) = sm) ∧ Ev none e 162 219 [some (.ref 633), some (.int c), some (.int sm), some (.int 0)] [] M v M' 0 0) ∨ (¬ ((G_160 M (G_159 M)) = 0) ∧ al = 0 ∧ Ev none e 162 219 [some (.ref 633), some (.int c), some (.int sm), some (.int 0)] [] M v M' 0 0) ∨ (¬ ((G_160 M (G_159 M)) = 0) ∧ ¬ (al = 0) ∧ (G_160 M (G_159 M)) = sm ∧ Ev none e 162 219 [some (.ref 633), some (.int c), some (.int sm), some (.int 1)] [] M v M' 0 0) ∨ (¬ ((G_160 M (G_159 M)) = 0) ∧ ¬ (al = 0) ∧ ¬ ((G_160 M (G_159 M)) = sm) ∧ Ev none e 162 219 [some (.ref 633), some (.int c), some (.int sm), some (.int 0)] [] M v M' 0 0) := by
  have H : Ev none e 162 179 [some (.ref 633), some (.int c), some (.int sm), some (.int al)] [.ref 633] M v M' 0 0 := Ev.back 1 (fun n => rfl) H
  obtain ⟨e1, rfl⟩ := Ev.dpos rfl rfl H
  obtain ⟨vK1, MK1, K1, H⟩ := Ev.callb (fun n => gs_7 rfl rfl (show gCal (.invokevirtual 164) 11 (.ref 633 :: []) M = some (.inr (159, [some (.ref 633)], [])) from by show @cond (Option ((List Value × Mem) ⊕ (Nat × Lo × List Value))) (true && gRecv M (.ref 633) 11 && gRoom [] && true) (some (.inr (159, [some (.ref 633)], []))) none = _; rw [recv_s hS.1 qa_633 qo_61]; rfl)) H
  obtain ⟨pK1, qK1⟩ := g_159 hS K1
  rw [pK1, qK1] at H
  have H : Ev none (e1 + 1) 162 182 [some (.ref 633), some (.int c), some (.int sm), some (.int al)] [.int (G_159 M)] M v M' 0 0 := H
  obtain ⟨vK2, MK2, K2, H⟩ := Ev.callb (fun n => rfl) H
  obtain ⟨pK2, qK2⟩ := g_160 hS K2
  rw [pK2, qK2] at H
  have H : Ev none (e1 + 1) 162 185 [some (.ref 633), some (.int c), some (.int sm), some (.int al)] [.int (G_160 M (G_159 M))] M v M' 0 0 := H
  have H : Ev none (e1 + 1) 162 (if (G_160 M (G_159 M)) = 0 then 188 else 198) [some (.ref 633), some (.int c), some (.int sm), some (.int al)] [] M v M' 0 0 := Ev.back 1 (fun n => rfl) H
  by_cases h3 : (G_160 M (G_159 M)) = 0
  · rw [if_pos h3] at H
    have H : Ev none (e1 + 1) 162 189 [some (.ref 633), some (.int c), some (.int sm), some (.int al)] [.ref 633] M v M' 0 0 := Ev.back 1 (fun n => rfl) H
    obtain ⟨vK4, MK4, K4, H⟩ := Ev.callb (fun n => gs_7 rfl rfl (show gCal (.invokevirtual 164) 11 (.ref 633 :: []) M = some (.inr (159, [some (.ref 633)], [])) from by show @cond (Option ((List Value × Mem) ⊕ (Nat × Lo × List Value))) (true && gRecv M (.ref 633) 11 && gRoom [] && true) (some (.inr (159, [some (.ref 633)], []))) none = _; rw [recv_s hS.1 qa_633 qo_61]; rfl)) H
    obtain ⟨pK4, qK4⟩ := g_159 hS K4
    rw [pK4, qK4] at H
    have H : Ev none (e1 + 1) 162 192 [some (.ref 633), some (.int c), some (.int sm), some (.int al)] [.int (G_159 M)] M v M' 0 0 := H
    obtain ⟨vK5, MK5, K5, H⟩ := Ev.callb (fun n => rfl) H
    obtain ⟨pK5, qK5⟩ := g_161 hS K5
    rw [pK5, qK5] at H
    have H : Ev none (e1 + 1) 162 195 [some (.ref 633), some (.int c), some (.int sm), some (.int al)] [.int (G_161 M (G_159 M))] M v M' 0 0 := H
    have H : Ev none (e1 + 1) 162 (if (G_161 M (G_159 M)) = 0 then 295 else 198) [some (.ref 633), some (.int c), some (.int sm), some (.int al)] [] M v M' 0 0 := Ev.back 1 (fun n => rfl) H
    by_cases h6 : (G_161 M (G_159 M)) = 0
    · rw [if_pos h6] at H
      have HF := H
      exact Or.inl ⟨h3, h6, HF⟩
    · rw [if_neg h6] at H
      have H : Ev none (e1 + 1) 162 (if al = 0 then 217 else 202) [some (.ref 633), some (.int c), some (.int sm), some (.int al)] [] M v M' 0 0 := Ev.back 2 (fun n => rfl) H
      by_cases h7 : al = 0
      · rw [if_pos h7] at H
        have H : Ev none (e1 + 1) 162 219 [some (.ref 633), some (.int c), some (.int sm), some (.int 0)] [] M v M' 0 0 := Ev.back 2 (fun n => rfl) H
        have HF := H
        exact Or.inr (Or.inl ⟨h3, h6, h7, HF⟩)
      · rw [if_neg h7] at H
        have H : Ev none (e1 + 1) 162 203 [some (.ref 633), some (.int c), some (.int sm), some (.int al)] [.ref 633] M v M' 0 0 := Ev.back 1 (fun n => rfl) H
        obtain ⟨vK8, MK8, K8, H⟩ := Ev.callb (fun n => gs_7 rfl rfl (show gCal (.invokevirtual 164) 11 (.ref 633 :: []) M = some (.inr (159, [some (.ref 633)], [])) from by show @cond (Option ((List Value × Mem) ⊕ (Nat × Lo × List Value))) (true && gRecv M (.ref 633) 11 && gRoom [] && true) (some (.inr (159, [some (.ref 633)], []))) none = _; rw [recv_s hS.1 qa_633 qo_61]; rfl)) H
        obtain ⟨pK8, qK8⟩ := g_159 hS K8
        rw [pK8, qK8] at H
        have H : Ev none (e1 + 1) 162 206 [some (.ref 633), some (.int c), some (.int sm), some (.int al)] [.int (G_159 M)] M v M' 0 0 := H
        obtain ⟨vK9, MK9, K9, H⟩ := Ev.callb (fun n => rfl) H
        obtain ⟨pK9, qK9⟩ := g_160 hS K9
        rw [pK9, qK9] at H
        have H : Ev none (e1 + 1) 162 209 [some (.ref 633), some (.int c), some (.int sm), some (.int al)] [.int (G_160 M (G_159 M))] M v M' 0 0 := H
        have H : Ev none (e1 + 1) 162 (if (G_160 M (G_159 M)) = sm then 213 else 217) [some (.ref 633), some (.int c), some (.int sm), some (.int al)] [] M v M' 0 0 := Ev.back 2 (fun n => rfl) H
        by_cases h10 : (G_160 M (G_159 M)) = sm
        · rw [if_pos h10] at H
          have H : Ev none (e1 + 1) 162 219 [some (.ref 633), some (.int c), some (.int sm), some (.int 1)] [] M v M' 0 0 := Ev.back 3 (fun n => rfl) H
          have HF := H
          exact Or.inr (Or.inr (Or.inl ⟨h3, h6, h7, h10, HF⟩))
        · rw [if_neg h10] at H
          have H : Ev none (e1 + 1) 162 219 [some (.ref 633), some (.int c), some (.int sm), some (.int 0)] [] M v M' 0 0 := Ev.back 2 (fun n => rfl) H
          have HF := H
          exact Or.inr (Or.inr (Or.inr (Or.inl ⟨h3, h6, h7, h10, HF⟩)))
  · rw [if_neg h3] at H
    have H : Ev none (e1 + 1) 162 (if al = 0 then 217 else 202) [some (.ref 633), some (.int c), some (.int sm), some (.int al)] [] M v M' 0 0 := Ev.back 2 (fun n => rfl) H
    by_cases h11 : al = 0
    · rw [if_pos h11] at H
      have H : Ev none (e1 + 1) 162 219 [some (.ref 633), some (.int c), some (.int sm), some (.int 0)] [] M v M' 0 0 := Ev.back 2 (fun n => rfl) H
      have HF := H
      exact Or.inr (Or.inr (Or.inr (Or.inr (Or.inl ⟨h3, h11, HF⟩))))
    · rw [if_neg h11] at H
      have H : Ev none (e1 + 1) 162 203 [some (.ref 633), some (.int c), some (.int sm), some (.int al)] [.ref 633] M v M' 0 0 := Ev.back 1 (fun n => rfl) H
      obtain ⟨vK12, MK12, K12, H⟩ := Ev.callb (fun n => gs_7 rfl rfl (show gCal (.invokevirtual 164) 11 (.ref 633 :: []) M = some (.inr (159, [some (.ref 633)], [])) from by show @cond (Option ((List Value × Mem) ⊕ (Nat × Lo × List Value))) (true && gRecv M (.ref 633) 11 && gRoom [] && true) (some (.inr (159, [some (.ref 633)], []))) none = _; rw [recv_s hS.1 qa_633 qo_61]; rfl)) H
      obtain ⟨pK12, qK12⟩ := g_159 hS K12
      rw [pK12, qK12] at H
      have H : Ev none (e1 + 1) 162 206 [some (.ref 633), some (.int c), some (.int sm), some (.int al)] [.int (G_159 M)] M v M' 0 0 := H
      obtain ⟨vK13, MK13, K13, H⟩ := Ev.callb (fun n => rfl) H
      obtain ⟨pK13, qK13⟩ := g_160 hS K13
      rw [pK13, qK13] at H
      have H : Ev none (e1 + 1) 162 209 [some (.ref 633), some (.int c), some (.int sm), some (.int al)] [.int (G_160 M (G_159 M))] M v M' 0 0 := H
      have H : Ev none (e1 + 1) 162 (if (G_160 M (G_159 M)) = sm then 213 else 217) [some (.ref 633), some (.int c), some (.int sm), some (.int al)] [] M v M' 0 0 := Ev.back 2 (fun n => rfl) H
      by_cases h14 : (G_160 M (G_159 M)) = sm
      · rw [if_pos h14] at H
        have H : Ev none (e1 + 1) 162 219 [some (.ref 633), some (.int c), some (.int sm), some (.int 1)] [] M v M' 0 0 := Ev.back 3 (fun n => rfl) H
        have HF := H
        exact Or.inr (Or.inr (Or.inr (Or.inr (Or.inr (Or.inl ⟨h3, h11, h14, HF⟩)))))
      · rw [if_neg h14] at H
        have H : Ev none (e1 + 1) 162 219 [some (.ref 633), some (.int c), some (.int sm), some (.int 0)] [] M v M' 0 0 := Ev.back 2 (fun n => rfl) H
        have HF := H
        exact Or.inr (Or.inr (Or.inr (Or.inr (Or.inr (Or.inr (⟨h3, h11, h14, HF⟩))))))
theorem nx_219 {e : Nat} {M M' : Mem} {v : Option Value} {c sm al : Int32} (hS : SQ M) (H : Ev none e 162 219 [some (.ref 633), some (.int c), some (.int sm), some (.int al)] [] M v M' 0 0) : (6 ≤ (zI M 633 24) ∧ Ev none e 162 245 [some (.ref 633), some (.int c), some (.int sm), some (.int al)] [] M v M' 0 0) ∨ (¬ (6 ≤ (zI M 633 24)) ∧ Ev none e 162 245 [some (.ref 633), some (.int c), some (.int sm), some (.int al)] [] (wG M 633 31 (((fL M 633 31) <<< ((8 : Int32).toInt64 &&& 63)) ||| ((G_159 M).toInt64))) v M' 0 0) := by
  have H : Ev none e 162 220 [some (.ref 633), some (.int c), some (.int sm), some (.int al)] [.ref 633] M v M' 0 0 := Ev.back 1 (fun n => rfl) H
  have H : Ev none e 162 223 [some (.ref 633), some (.int c), some (.int sm), some (.int al)] [.int (zI M 633 24)] M v M' 0 0 := Ev.back 1 (gs_3 rfl rfl (gf_i hS.1 qa_633 qi_61_24 rfl)) H
  have H : Ev none e 162 (if 6 ≤ (zI M 633 24) then 245 else 228) [some (.ref 633), some (.int c), some (.int sm), some (.int al)] [] M v M' 0 0 := Ev.back 2 (fun n => rfl) H
  by_cases h1 : 6 ≤ (zI M 633 24)
  · rw [if_pos h1] at H
    have HF := H
    exact Or.inl ⟨h1, HF⟩
  · rw [if_neg h1] at H
    have H : Ev none e 162 230 [some (.ref 633), some (.int c), some (.int sm), some (.int al)] [.ref 633, .ref 633] M v M' 0 0 := Ev.back 2 (fun n => rfl) H
    have H : Ev none e 162 233 [some (.ref 633), some (.int c), some (.int sm), some (.int al)] [.long (fL M 633 31), .ref 633] M v M' 0 0 := Ev.back 1 (gs_3 rfl rfl (gf_l hS.1 qa_633 ql_61_31 rfl)) H
    have H : Ev none e 162 237 [some (.ref 633), some (.int c), some (.int sm), some (.int al)] [.ref 633, .long ((fL M 633 31) <<< ((8 : Int32).toInt64 &&& 63)), .ref 633] M v M' 0 0 := Ev.back 3 (fun n => rfl) H
    obtain ⟨e1, rfl⟩ := Ev.dpos rfl rfl H
    obtain ⟨vK2, MK2, K2, H⟩ := Ev.callb (fun n => gs_7 rfl rfl (show gCal (.invokevirtual 164) 11 (.ref 633 :: [.long ((fL M 633 31) <<< ((8 : Int32).toInt64 &&& 63)), .ref 633]) M = some (.inr (159, [some (.ref 633)], [.long ((fL M 633 31) <<< ((8 : Int32).toInt64 &&& 63)), .ref 633])) from by show @cond (Option ((List Value × Mem) ⊕ (Nat × Lo × List Value))) (true && gRecv M (.ref 633) 11 && gRoom [.long ((fL M 633 31) <<< ((8 : Int32).toInt64 &&& 63)), .ref 633] && true) (some (.inr (159, [some (.ref 633)], [.long ((fL M 633 31) <<< ((8 : Int32).toInt64 &&& 63)), .ref 633]))) none = _; rw [recv_s hS.1 qa_633 qo_61]; rfl)) H
    obtain ⟨pK2, qK2⟩ := g_159 hS K2
    rw [pK2, qK2] at H
    have H : Ev none (e1 + 1) 162 240 [some (.ref 633), some (.int c), some (.int sm), some (.int al)] [.int (G_159 M), .long ((fL M 633 31) <<< ((8 : Int32).toInt64 &&& 63)), .ref 633] M v M' 0 0 := H
    have H : Ev none (e1 + 1) 162 242 [some (.ref 633), some (.int c), some (.int sm), some (.int al)] [.long (((fL M 633 31) <<< ((8 : Int32).toInt64 &&& 63)) ||| ((G_159 M).toInt64)), .ref 633] M v M' 0 0 := Ev.back 2 (fun n => rfl) H
    obtain ⟨N4, eN4⟩ : ∃ N, N = (wG M 633 31 (((fL M 633 31) <<< ((8 : Int32).toInt64 &&& 63)) ||| ((G_159 M).toInt64))) := ⟨_, rfl⟩
    have hN4 : SQ N4 := by rw [eN4]; exact hS.kg
    have H : Ev none (e1 + 1) 162 245 [some (.ref 633), some (.int c), some (.int sm), some (.int al)] [] N4 v M' 0 0 := by rw [eN4]; exact Ev.pfl rfl rfl rfl hS.1 qa_633 ql_61_31 H
    have HF := H
    subst eN4
    exact Or.inr (⟨h1, HF⟩)
theorem nx_245 {e : Nat} {M M' : Mem} {v : Option Value} {c sm al : Int32} (hS : SQ M) (H : Ev none e 162 245 [some (.ref 633), some (.int c), some (.int sm), some (.int al)] [] M v M' 0 0) : (3 ≤ (zI M 633 24) ∧ Ev none e 162 272 [some (.ref 633), some (.int c), some (.int sm), some (.int al)] [] M v M' 0 0) ∨ (¬ (3 ≤ (zI M 633 24)) ∧ Ev none e 162 272 [some (.ref 633), some (.int c), some (.int sm), some (.int al)] [] (wF M 633 25 (((10 * (zI M 633 25)) + (G_159 M)) - 48)) v M' 0 0) := by
  have H : Ev none e 162 246 [some (.ref 633), some (.int c), some (.int sm), some (.int al)] [.ref 633] M v M' 0 0 := Ev.back 1 (fun n => rfl) H
  have H : Ev none e 162 249 [some (.ref 633), some (.int c), some (.int sm), some (.int al)] [.int (zI M 633 24)] M v M' 0 0 := Ev.back 1 (gs_3 rfl rfl (gf_i hS.1 qa_633 qi_61_24 rfl)) H
  have H : Ev none e 162 (if 3 ≤ (zI M 633 24) then 272 else 253) [some (.ref 633), some (.int c), some (.int sm), some (.int al)] [] M v M' 0 0 := Ev.back 2 (fun n => rfl) H
  by_cases h1 : 3 ≤ (zI M 633 24)
  · rw [if_pos h1] at H
    have HF := H
    exact Or.inl ⟨h1, HF⟩
  · rw [if_neg h1] at H
    have H : Ev none e 162 257 [some (.ref 633), some (.int c), some (.int sm), some (.int al)] [.ref 633, .int 10, .ref 633] M v M' 0 0 := Ev.back 3 (fun n => rfl) H
    have H : Ev none e 162 260 [some (.ref 633), some (.int c), some (.int sm), some (.int al)] [.int (zI M 633 25), .int 10, .ref 633] M v M' 0 0 := Ev.back 1 (gs_3 rfl rfl (gf_i hS.1 qa_633 qi_61_25 rfl)) H
    have H : Ev none e 162 262 [some (.ref 633), some (.int c), some (.int sm), some (.int al)] [.ref 633, .int (10 * (zI M 633 25)), .ref 633] M v M' 0 0 := Ev.back 2 (fun n => rfl) H
    obtain ⟨e1, rfl⟩ := Ev.dpos rfl rfl H
    obtain ⟨vK2, MK2, K2, H⟩ := Ev.callb (fun n => gs_7 rfl rfl (show gCal (.invokevirtual 164) 11 (.ref 633 :: [.int (10 * (zI M 633 25)), .ref 633]) M = some (.inr (159, [some (.ref 633)], [.int (10 * (zI M 633 25)), .ref 633])) from by show @cond (Option ((List Value × Mem) ⊕ (Nat × Lo × List Value))) (true && gRecv M (.ref 633) 11 && gRoom [.int (10 * (zI M 633 25)), .ref 633] && true) (some (.inr (159, [some (.ref 633)], [.int (10 * (zI M 633 25)), .ref 633]))) none = _; rw [recv_s hS.1 qa_633 qo_61]; rfl)) H
    obtain ⟨pK2, qK2⟩ := g_159 hS K2
    rw [pK2, qK2] at H
    have H : Ev none (e1 + 1) 162 265 [some (.ref 633), some (.int c), some (.int sm), some (.int al)] [.int (G_159 M), .int (10 * (zI M 633 25)), .ref 633] M v M' 0 0 := H
    have H : Ev none (e1 + 1) 162 269 [some (.ref 633), some (.int c), some (.int sm), some (.int al)] [.int (((10 * (zI M 633 25)) + (G_159 M)) - 48), .ref 633] M v M' 0 0 := Ev.back 3 (fun n => rfl) H
    obtain ⟨N4, eN4⟩ : ∃ N, N = (wF M 633 25 (((10 * (zI M 633 25)) + (G_159 M)) - 48)) := ⟨_, rfl⟩
    have hN4 : SQ N4 := by rw [eN4]; exact hS.kf
    have H : Ev none (e1 + 1) 162 272 [some (.ref 633), some (.int c), some (.int sm), some (.int al)] [] N4 v M' 0 0 := by rw [eN4]; exact Ev.pfi rfl rfl rfl hS.1 qa_633 qi_61_25 H
    have HF := H
    subst eN4
    exact Or.inr (⟨h1, HF⟩)
theorem nx_272 {e : Nat} {M M' : Mem} {v : Option Value} {c sm al : Int32} (hS : SQ M) (H : Ev none e 162 272 [some (.ref 633), some (.int c), some (.int sm), some (.int al)] [] M v M' 0 0) : Ev none e 162 178 [some (.ref 633), some (.int c), some (.int sm), some (.int al)] [] (wF (wF M 633 24 ((zI M 633 24) + 1)) 633 4 ((zI M 633 4) + 1)) v M' 0 0 := by
  have H : Ev none e 162 274 [some (.ref 633), some (.int c), some (.int sm), some (.int al)] [.ref 633, .ref 633] M v M' 0 0 := Ev.back 2 (fun n => rfl) H
  have H : Ev none e 162 277 [some (.ref 633), some (.int c), some (.int sm), some (.int al)] [.int (zI M 633 24), .ref 633] M v M' 0 0 := Ev.back 1 (gs_3 rfl rfl (gf_i hS.1 qa_633 qi_61_24 rfl)) H
  have H : Ev none e 162 279 [some (.ref 633), some (.int c), some (.int sm), some (.int al)] [.int ((zI M 633 24) + 1), .ref 633] M v M' 0 0 := Ev.back 2 (fun n => rfl) H
  obtain ⟨N2, eN2⟩ : ∃ N, N = (wF M 633 24 ((zI M 633 24) + 1)) := ⟨_, rfl⟩
  have hN2 : SQ N2 := by rw [eN2]; exact hS.kf
  have H : Ev none e 162 282 [some (.ref 633), some (.int c), some (.int sm), some (.int al)] [] N2 v M' 0 0 := by rw [eN2]; exact Ev.pfi rfl rfl rfl hS.1 qa_633 qi_61_24 H
  have H : Ev none e 162 284 [some (.ref 633), some (.int c), some (.int sm), some (.int al)] [.ref 633, .ref 633] N2 v M' 0 0 := Ev.back 2 (fun n => rfl) H
  have H : Ev none e 162 287 [some (.ref 633), some (.int c), some (.int sm), some (.int al)] [.int (zI N2 633 4), .ref 633] N2 v M' 0 0 := Ev.back 1 (gs_3 rfl rfl (gf_i hN2.1 qa_633 qi_61_4 rfl)) H
  rw [show zI N2 633 4 = zI M 633 4 from by rw [eN2]; exact fI_wF_ne (fun q => absurd q.2 (by decide))] at H
  have H : Ev none e 162 289 [some (.ref 633), some (.int c), some (.int sm), some (.int al)] [.int ((zI M 633 4) + 1), .ref 633] N2 v M' 0 0 := Ev.back 2 (fun n => rfl) H
  obtain ⟨N4, eN4⟩ : ∃ N, N = (wF N2 633 4 ((zI M 633 4) + 1)) := ⟨_, rfl⟩
  have hN4 : SQ N4 := by rw [eN4]; exact hN2.kf
  have H : Ev none e 162 292 [some (.ref 633), some (.int c), some (.int sm), some (.int al)] [] N4 v M' 0 0 := by rw [eN4]; exact Ev.pfi rfl rfl rfl hN2.1 qa_633 qi_61_4 H
  have H : Ev none e 162 178 [some (.ref 633), some (.int c), some (.int sm), some (.int al)] [] N4 v M' 0 0 := Ev.back 1 (fun n => rfl) H
  have HF := H
  subst eN2 eN4
  exact HF
theorem nx_295 {e : Nat} {M M' : Mem} {v : Option Value} {c sm al : Int32} (hS : SQ M) (H : Ev none e 162 295 [some (.ref 633), some (.int c), some (.int sm), some (.int al)] [] M v M' 0 0) : (al = 0 ∧ v = none ∧ M' = (wF M 633 22 4)) ∨ (¬ (al = 0) ∧ sm = 0 ∧ (zI M 633 24) ≤ 3 ∧ v = none ∧ M' = (wF M 633 22 2)) ∨ (¬ (al = 0) ∧ sm = 0 ∧ ¬ ((zI M 633 24) ≤ 3) ∧ v = none ∧ M' = (wF M 633 22 4)) ∨ (¬ (al = 0) ∧ ¬ (sm = 0) ∧ (zI M 633 24) ≤ 6 ∧ v = none ∧ M' = (wF M 633 22 1)) ∨ (¬ (al = 0) ∧ ¬ (sm = 0) ∧ ¬ ((zI M 633 24) ≤ 6) ∧ v = none ∧ M' = (wF M 633 22 4)) := by
  have H : Ev none e 162 (if al = 0 then 317 else 300) [some (.ref 633), some (.int c), some (.int sm), some (.int al)] [.ref 633] M v M' 0 0 := Ev.back 3 (fun n => rfl) H
  by_cases h1 : al = 0
  · rw [if_pos h1] at H
    have H : Ev none e 162 330 [some (.ref 633), some (.int c), some (.int sm), some (.int al)] [.int 4, .ref 633] M v M' 0 0 := Ev.back 2 (fun n => rfl) H
    obtain ⟨N3, eN3⟩ : ∃ N, N = (wF M 633 22 4) := ⟨_, rfl⟩
    have hN3 : SQ N3 := by rw [eN3]; exact hS.kf
    have H : Ev none e 162 333 [some (.ref 633), some (.int c), some (.int sm), some (.int al)] [] N3 v M' 0 0 := by rw [eN3]; exact Ev.pfi rfl rfl rfl hS.1 qa_633 qi_61_22 H
    obtain ⟨z1, z2⟩ := Ev.retb (fun n => rfl) H
    subst eN3
    exact Or.inl ⟨h1, z1, z2⟩
  · rw [if_neg h1] at H
    have H : Ev none e 162 301 [some (.ref 633), some (.int c), some (.int sm), some (.int al)] [.ref 633, .ref 633] M v M' 0 0 := Ev.back 1 (fun n => rfl) H
    have H : Ev none e 162 304 [some (.ref 633), some (.int c), some (.int sm), some (.int al)] [.int (zI M 633 24), .ref 633] M v M' 0 0 := Ev.back 1 (gs_3 rfl rfl (gf_i hS.1 qa_633 qi_61_24 rfl)) H
    have H : Ev none e 162 (if sm = 0 then 313 else 308) [some (.ref 633), some (.int c), some (.int sm), some (.int al)] [.int (zI M 633 24), .ref 633] M v M' 0 0 := Ev.back 2 (fun n => rfl) H
    by_cases h4 : sm = 0
    · rw [if_pos h4] at H
      have H : Ev none e 162 (if (zI M 633 24) ≤ 3 then 321 else 317) [some (.ref 633), some (.int c), some (.int sm), some (.int al)] [.ref 633] M v M' 0 0 := Ev.back 2 (fun n => rfl) H
      by_cases h5 : (zI M 633 24) ≤ 3
      · rw [if_pos h5] at H
        have H : Ev none e 162 (if sm = 0 then 329 else 325) [some (.ref 633), some (.int c), some (.int sm), some (.int al)] [.ref 633] M v M' 0 0 := Ev.back 2 (fun n => rfl) H
        rw [if_pos h4] at H
        have H : Ev none e 162 330 [some (.ref 633), some (.int c), some (.int sm), some (.int al)] [.int 2, .ref 633] M v M' 0 0 := Ev.back 1 (fun n => rfl) H
        obtain ⟨N7, eN7⟩ : ∃ N, N = (wF M 633 22 2) := ⟨_, rfl⟩
        have hN7 : SQ N7 := by rw [eN7]; exact hS.kf
        have H : Ev none e 162 333 [some (.ref 633), some (.int c), some (.int sm), some (.int al)] [] N7 v M' 0 0 := by rw [eN7]; exact Ev.pfi rfl rfl rfl hS.1 qa_633 qi_61_22 H
        obtain ⟨z1, z2⟩ := Ev.retb (fun n => rfl) H
        subst eN7
        exact Or.inr (Or.inl ⟨h1, h4, h5, z1, z2⟩)
      · rw [if_neg h5] at H
        have H : Ev none e 162 330 [some (.ref 633), some (.int c), some (.int sm), some (.int al)] [.int 4, .ref 633] M v M' 0 0 := Ev.back 2 (fun n => rfl) H
        obtain ⟨N9, eN9⟩ : ∃ N, N = (wF M 633 22 4) := ⟨_, rfl⟩
        have hN9 : SQ N9 := by rw [eN9]; exact hS.kf
        have H : Ev none e 162 333 [some (.ref 633), some (.int c), some (.int sm), some (.int al)] [] N9 v M' 0 0 := by rw [eN9]; exact Ev.pfi rfl rfl rfl hS.1 qa_633 qi_61_22 H
        obtain ⟨z1, z2⟩ := Ev.retb (fun n => rfl) H
        subst eN9
        exact Or.inr (Or.inr (Or.inl ⟨h1, h4, h5, z1, z2⟩))
    · rw [if_neg h4] at H
      have H : Ev none e 162 (if (zI M 633 24) ≤ 6 then 321 else 317) [some (.ref 633), some (.int c), some (.int sm), some (.int al)] [.ref 633] M v M' 0 0 := Ev.back 3 (fun n => rfl) H
      by_cases h10 : (zI M 633 24) ≤ 6
      · rw [if_pos h10] at H
        have H : Ev none e 162 (if sm = 0 then 329 else 325) [some (.ref 633), some (.int c), some (.int sm), some (.int al)] [.ref 633] M v M' 0 0 := Ev.back 2 (fun n => rfl) H
        rw [if_neg h4] at H
        have H : Ev none e 162 330 [some (.ref 633), some (.int c), some (.int sm), some (.int al)] [.int 1, .ref 633] M v M' 0 0 := Ev.back 2 (fun n => rfl) H
        obtain ⟨N12, eN12⟩ : ∃ N, N = (wF M 633 22 1) := ⟨_, rfl⟩
        have hN12 : SQ N12 := by rw [eN12]; exact hS.kf
        have H : Ev none e 162 333 [some (.ref 633), some (.int c), some (.int sm), some (.int al)] [] N12 v M' 0 0 := by rw [eN12]; exact Ev.pfi rfl rfl rfl hS.1 qa_633 qi_61_22 H
        obtain ⟨z1, z2⟩ := Ev.retb (fun n => rfl) H
        subst eN12
        exact Or.inr (Or.inr (Or.inr (Or.inl ⟨h1, h4, h10, z1, z2⟩)))
      · rw [if_neg h10] at H
        have H : Ev none e 162 330 [some (.ref 633), some (.int c), some (.int sm), some (.int al)] [.int 4, .ref 633] M v M' 0 0 := Ev.back 2 (fun n => rfl) H
        obtain ⟨N14, eN14⟩ : ∃ N, N = (wF M 633 22 4) := ⟨_, rfl⟩
        have hN14 : SQ N14 := by rw [eN14]; exact hS.kf
        have H : Ev none e 162 333 [some (.ref 633), some (.int c), some (.int sm), some (.int al)] [] N14 v M' 0 0 := by rw [eN14]; exact Ev.pfi rfl rfl rfl hS.1 qa_633 qi_61_22 H
        obtain ⟨z1, z2⟩ := Ev.retb (fun n => rfl) H
        subst eN14
        exact Or.inr (Or.inr (Or.inr (Or.inr (⟨h1, h4, h10, z1, z2⟩))))
/-! THE REFERENCE'S NEXT TOKEN -/
noncomputable def bR (M : Mem) : Nat → Int32 := fun k => rN M 634 k &&& 255
noncomputable def slS (B : Nat → Int32) (p k : Nat) : List Int32 := (List.range k).map (fun i => B (p + i))
theorem slS_succ {B : Nat → Int32} {p k : Nat} : slS B p (k + 1) = slS B p k ++ [B (p + k)] := by
  unfold slS
  rw [List.range_succ, List.map_append]
  rfl
theorem slS_len {B : Nat → Int32} {p k : Nat} : (slS B p k).length = k := by
  unfold slS
  rw [List.length_map, List.length_range]
noncomputable def pk1 (w : Int64) (c : Int32) : Int64 := (w <<< ((8 : Int32).toInt64 &&& 63)) ||| (c.toInt64)
noncomputable def pkF (l : List Int32) : Int64 := l.foldl pk1 0
/-- the reference's token is this one, and behind it come these -/
def RTk (B : Nat → Int32) (n : Nat) (M : Mem) (ts : List Tok) : Prop := match ts with
  | [] => False
  | t :: r => (zI M 633 23).toInt = (t.2.1 : Int) ∧ ((t.1 = 0 ∧ zI M 633 22 = (if 400 < n then 4 else 0)) ∨ (t.1 = 1 ∧ zI M 633 22 = 4) ∨ ((t.1 ≠ 0 ∧ t.1 ≠ 1) ∧ ((t.1 = 2 ∧ zI M 633 22 = 1 ∧ t.2.2.1 ≤ t.2.1 + 6 ∧ fL M 633 31 = pkF (slS B t.2.1 (t.2.2.1 - t.2.1))) ∨ (t.1 = 3 ∧ zI M 633 22 = 2 ∧ zI M 633 25 = t.2.2.2) ∨ ((t.1 = 59 ∨ t.1 = 40 ∨ t.1 = 41 ∨ t.1 = 60 ∨ t.1 = 61 ∨ t.1 = 62) ∧ zI M 633 22 = 3 ∧ zI M 633 25 = t.1)) ∧ t.2.2.1 ≤ n ∧ (zI M 633 4).toInt = (t.2.2.1 : Int) ∧ r = tlS B n t.2.2.1))
abbrev fN : List (Nat × Nat) := [(633, 4), (633, 22), (633, 23), (633, 24), (633, 25), (633, 31)]
section NXT
variable {e : Nat} {M M' : Mem} {v : Option Value} {n : Nat}
theorem peq_lt {p : Nat} (hn : (zI M 633 3).toInt = (n : Int)) (hp : (zI M 633 4).toInt = (p : Int)) (h : p < n) : G_159 M = bR M p := by
  unfold G_159
  rw [if_neg (fun q => by have := Int32.le_iff_toInt_le.mp q; omega), rI_n hp]
  rfl
theorem peq_ge {p : Nat} (hn : (zI M 633 3).toInt = (n : Int)) (hp : (zI M 633 4).toInt = (p : Int)) (h : n ≤ p) : G_159 M = -1 := by
  unfold G_159
  rw [if_pos (Int32.le_iff_toInt_le.mpr (by omega))]
theorem FB.bR {F : List (Nat × Nat)} {W : List Nat} (h : FB F W M M') (hn : 634 ∉ W) : bR M' = bR M := by
  funext k
  show rN M' 634 k &&& 255 = rN M 634 k &&& 255
  rw [h.rn hn]
/-- the class's count of a run, beside the reference's -/
def JQ (sm : Int32) (i : Nat) (a : Acc) (al nu sp : Int32) : Prop := a.1.toInt + a.2.1.toInt = (i : Int) ∧ 0 ≤ a.1.toInt ∧ 0 ≤ a.2.1.toInt ∧ sp.toInt = (i : Int) ∧ ((al = 1 ∧ (if sm = 0 then a.1 = 0 else a.2.1 = 0)) ∨ (al = 0 ∧ ¬ (if sm = 0 then a.1 = 0 else a.2.1 = 0))) ∧ (sm = 0 → a.1 = 0 → a.2.2 = nu) ∧ (1 ≤ i → (if sm = 0 then 1 ≤ a.2.1.toInt else 1 ≤ a.1.toInt))
theorem smI_01 (c : Int32) : smI c = 0 ∨ smI c = 1 := by
  unfold smI
  split
  · exact Or.inl rfl
  · split
    · exact Or.inl rfl
    · exact Or.inr rfl
theorem JQ.step {sm : Int32} {i : Nat} {a : Acc} {al nu sp c : Int32} (h : JQ sm i a al nu sp) (hi : i ≤ 440) (hs : sm = 0 ∨ sm = 1) (h0 : i = 0 → smI c = sm) : JQ sm (i + 1) (cs1 c a) (if al = 0 then 0 else if smI c = sm then 1 else 0) (if 3 ≤ sp then nu else ((10 * nu) + c) - 48) (sp + 1) := by
  obtain ⟨h1, h2, h3, h4, h5, h6, h8⟩ := h
  have o1 : (1 : Int32).toInt = 1 := rfl
  have z0 : (0 : Int32).toInt = 0 := rfl
  have l1 : (a.1 + 1).toInt = a.1.toInt + 1 := i32_p1 (by omega)
  have d1 : (a.2.1 + 1).toInt = a.2.1.toInt + 1 := i32_p1 (by omega)
  have s1 : (sp + 1).toInt = sp.toInt + 1 := i32_p1 (by omega)
  have hl0 : ¬ a.1 + 1 = 0 := fun q => by rw [q] at l1; omega
  have hd0 : ¬ a.2.1 + 1 = 0 := fun q => by rw [q] at d1; omega
  unfold cs1
  rcases smI_01 c with hc | hc
  · rw [if_pos hc]
    refine ⟨by dsimp only; omega, h2, by dsimp only; omega, by omega, ?_, fun q1 q2 => ?_, fun _ => ?_⟩
    · dsimp only
      rcases hs with rfl | rfl
      · rw [if_pos rfl, hc, if_pos rfl]
        rw [if_pos rfl] at h5
        rcases h5 with ⟨rfl, h5⟩ | ⟨rfl, h5⟩
        · exact Or.inl ⟨rfl, h5⟩
        · exact Or.inr ⟨rfl, h5⟩
      · rw [if_neg (by decide : ¬ (1 : Int32) = 0), hc, if_neg (by decide : ¬ (0 : Int32) = 1)]
        refine Or.inr ⟨?_, hd0⟩
        split <;> rfl
    · dsimp only at q2 ⊢
      have h7 := h6 q1 q2
      rw [h7]
      have hl : a.1.toInt = 0 := by rw [q2]; rfl
      have o3 : (3 : Int32).toInt = 3 := rfl
      by_cases hq : 3 ≤ sp
      · rw [if_pos hq, if_pos]
        rw [Int32.le_iff_toInt_le] at hq
        rw [Int32.lt_iff_toInt_lt]
        omega
      · rw [if_neg hq, if_neg]
        rw [Int32.le_iff_toInt_le] at hq
        rw [Int32.lt_iff_toInt_lt]
        omega
    · dsimp only
      rcases hs with rfl | rfl
      · rw [if_pos rfl]
        omega
      · rw [if_neg (by decide : ¬ (1 : Int32) = 0)]
        by_cases hi0 : i = 0
        · have h9 := h0 hi0
          rw [hc] at h9
          exact absurd h9 (by decide)
        · have h9 := h8 (by omega)
          rw [if_neg (by decide : ¬ (1 : Int32) = 0)] at h9
          exact h9
  · have hc0 : ¬ smI c = 0 := by rw [hc]; decide
    rw [if_neg hc0]
    refine ⟨by dsimp only; omega, by dsimp only; omega, h3, by omega, ?_, fun q1 q2 => absurd q2 hl0, fun _ => ?_⟩
    rotate_left
    · dsimp only
      rcases hs with rfl | rfl
      · rw [if_pos rfl]
        by_cases hi0 : i = 0
        · have h9 := h0 hi0
          rw [hc] at h9
          exact absurd h9 (by decide)
        · have h9 := h8 (by omega)
          rw [if_pos rfl] at h9
          exact h9
      · rw [if_neg (by decide : ¬ (1 : Int32) = 0)]
        omega
    dsimp only
    rcases hs with rfl | rfl
    · rw [if_pos rfl, hc, if_neg (by decide : ¬ (1 : Int32) = 0)]
      refine Or.inr ⟨?_, hl0⟩
      split <;> rfl
    · rw [if_neg (by decide : ¬ (1 : Int32) = 0), hc, if_pos rfl]
      rw [if_neg (by decide : ¬ (1 : Int32) = 0)] at h5
      rcases h5 with ⟨rfl, h5⟩ | ⟨rfl, h5⟩
      · exact Or.inl ⟨rfl, h5⟩
      · exact Or.inr ⟨rfl, h5⟩
/-- one byte of a run -/
theorem nx_byte2 {p p0 i : Nat} {c sm al : Int32} {a : Acc} (hS : SQ M) (hn : (zI M 633 3).toInt = (n : Int)) (hn2 : n ≤ 440) (hp : (zI M 633 4).toInt = (p : Int)) (hlt : p < n) (hpi : p = p0 + i) (hJ : JQ sm i a al (zI M 633 25) (zI M 633 24)) (hw : fL M 633 31 = pkF ((slS (bR M) p0 i).take 6)) (hs : sm = 0 ∨ sm = 1) (h0 : i = 0 → smI (bR M p) = sm) (H : Ev none e 162 219 [some (.ref 633), some (.int c), some (.int sm), some (.int (if al = 0 then 0 else if smI (bR M p) = sm then 1 else 0))] [] M v M' 0 0) : ∃ M1, Ev none e 162 178 [some (.ref 633), some (.int c), some (.int sm), some (.int (if al = 0 then 0 else if smI (bR M p) = sm then 1 else 0))] [] M1 v M' 0 0 ∧ SQ M1 ∧ FB fN [] M M1 ∧ (zI M1 633 4).toInt = ((p + 1 : Nat) : Int) ∧ JQ sm (i + 1) (cs1 (bR M p) a) (if al = 0 then 0 else if smI (bR M p) = sm then 1 else 0) (zI M1 633 25) (zI M1 633 24) ∧ fL M1 633 31 = pkF ((slS (bR M) p0 (i + 1)).take 6) ∧ zI M1 633 23 = zI M 633 23 := by
  have hsp := hJ.2.2.2.1
  have o6 : (6 : Int32).toInt = 6 := rfl
  have A : ∃ M1, Ev none e 162 245 [some (.ref 633), some (.int c), some (.int sm), some (.int (if al = 0 then 0 else if smI (bR M p) = sm then 1 else 0))] [] M1 v M' 0 0 ∧ SQ M1 ∧ FB fN [] M M1 ∧ fL M1 633 31 = pkF ((slS (bR M) p0 (i + 1)).take 6) ∧ zI M1 633 4 = zI M 633 4 ∧ zI M1 633 24 = zI M 633 24 ∧ zI M1 633 25 = zI M 633 25 ∧ zI M1 633 23 = zI M 633 23 := by
    rcases nx_219 hS H with ⟨h1, H⟩ | ⟨h1, H⟩
    · rw [Int32.le_iff_toInt_le] at h1
      refine ⟨M, H, hS, FB.refl M, ?_, rfl, rfl, rfl, rfl⟩
      rw [hw, slS_succ, List.take_append_of_le_length (by rw [slS_len]; omega)]
    · rw [Int32.le_iff_toInt_le] at h1
      refine ⟨_, H, hS.kg, FB.wG (by decide), ?_, fI_wG, fI_wG, fI_wG, fI_wG⟩
      rw [fL_wG_eq hS.1 qa_633 ql_61_31, hw, peq_lt hn hp hlt, slS_succ, List.take_of_length_le (by rw [slS_len]; omega), List.take_of_length_le (by rw [List.length_append, slS_len]; show i + 1 ≤ 6; omega)]
      unfold pkF
      rw [List.foldl_append, hpi]
      rfl
  obtain ⟨M1, H, S1, F1, w1, g1, g2, g3, g4⟩ := A
  have hn1 : (zI M1 633 3).toInt = (n : Int) := by rw [F1.fi (by decide)]; exact hn
  have hb1 : bR M1 = bR M := F1.bR (by decide)
  have B : ∃ M2, Ev none e 162 272 [some (.ref 633), some (.int c), some (.int sm), some (.int (if al = 0 then 0 else if smI (bR M p) = sm then 1 else 0))] [] M2 v M' 0 0 ∧ SQ M2 ∧ FB fN [] M M2 ∧ fL M2 633 31 = pkF ((slS (bR M) p0 (i + 1)).take 6) ∧ zI M2 633 4 = zI M 633 4 ∧ zI M2 633 24 = zI M 633 24 ∧ zI M2 633 25 = (if 3 ≤ zI M 633 24 then zI M 633 25 else ((10 * zI M 633 25) + bR M p) - 48) ∧ zI M2 633 23 = zI M 633 23 := by
    rcases nx_245 S1 H with ⟨h1, H⟩ | ⟨h1, H⟩
    · rw [g2] at h1
      exact ⟨M1, H, S1, F1, w1, g1, g2, by rw [if_pos h1]; exact g3, g4⟩
    · rw [g2] at h1
      refine ⟨_, H, S1.kf, F1.trans (FB.wF (by decide)), by rw [fL_wF]; exact w1, by rw [fI_wF_ne (fun q => absurd q.2 (by decide))]; exact g1, by rw [fI_wF_ne (fun q => absurd q.2 (by decide))]; exact g2, ?_, by rw [fI_wF_ne (fun q => absurd q.2 (by decide))]; exact g4⟩
      rw [fI_wF_eq S1.1 qa_633 qi_61_25, if_neg h1, g3, peq_lt hn1 (by rw [g1]; exact hp) hlt, hb1]
  obtain ⟨M2, H, S2, F2, w2, k1, k2, k3, k4⟩ := B
  have H := nx_272 S2 H
  have e24 : zI (wF (wF M2 633 24 ((zI M2 633 24) + 1)) 633 4 ((zI M2 633 4) + 1)) 633 24 = zI M 633 24 + 1 := by
    rw [fI_wF_ne (fun q => absurd q.2 (by decide)), fI_wF_eq S2.1 qa_633 qi_61_24, k2]
  have e25 : zI (wF (wF M2 633 24 ((zI M2 633 24) + 1)) 633 4 ((zI M2 633 4) + 1)) 633 25 = (if 3 ≤ zI M 633 24 then zI M 633 25 else ((10 * zI M 633 25) + bR M p) - 48) := by
    rw [fI_wF_ne (fun q => absurd q.2 (by decide)), fI_wF_ne (fun q => absurd q.2 (by decide)), k3]
  refine ⟨_, H, S2.kf.kf, (F2.trans (FB.wF (by decide))).trans (FB.wF (by decide)), ?_, ?_, by rw [fL_wF, fL_wF]; exact w2, by rw [fI_wF_ne (fun q => absurd q.2 (by decide)), fI_wF_ne (fun q => absurd q.2 (by decide))]; exact k4⟩
  · rw [fI_wF_eq S2.kf.1 qa_633 qi_61_4, k1, i32_p1 (by omega)]
    omega
  · rw [e24, e25]
    exact hJ.step (by omega) hs h0
/-- a run -/
theorem nx_loop {p0 : Nat} {c sm : Int32} (hn2 : n ≤ 440) (hs : sm = 0 ∨ sm = 1) : ∀ (f p i : Nat) (M : Mem) (al : Int32) (a : Acc), p + f = n → p = p0 + i → (i = 0 → smI (bR M p) = sm) → SQ M → (zI M 633 3).toInt = (n : Int) → (zI M 633 4).toInt = (p : Int) → JQ sm i a al (zI M 633 25) (zI M 633 24) → fL M 633 31 = pkF ((slS (bR M) p0 i).take 6) → Ev none e 162 178 [some (.ref 633), some (.int c), some (.int sm), some (.int al)] [] M v M' 0 0 → ∃ M1 al1, Ev none e 162 295 [some (.ref 633), some (.int c), some (.int sm), some (.int al1)] [] M1 v M' 0 0 ∧ SQ M1 ∧ FB fN [] M M1 ∧ (zI M1 633 4).toInt = ((p + rlS (bR M) f p : Nat) : Int) ∧ JQ sm (i + rlS (bR M) f p) (cfS (bR M) (rlS (bR M) f p) p a) al1 (zI M1 633 25) (zI M1 633 24) ∧ fL M1 633 31 = pkF ((slS (bR M) p0 (i + rlS (bR M) f p)).take 6) ∧ zI M1 633 23 = zI M 633 23 := by
  intro f
  induction f with
  | zero =>
    intro p i M al a hf hpi h0 hS hn hp hJ hw H
    have hpk := peq_ge hn hp (by omega)
    have e1 : G_160 M (G_159 M) = 0 := by rw [hpk]; rfl
    have e2 : G_161 M (G_159 M) = 0 := by rw [hpk]; rfl
    rcases nx_178 hS H with ⟨h1, h2, H⟩ | ⟨_, h2, _⟩ | ⟨_, h2, _⟩ | ⟨_, h2, _⟩ | ⟨h2, _⟩ | ⟨h2, _⟩ | ⟨h2, _⟩
    · exact ⟨M, al, H, hS, FB.refl M, hp, hJ, hw, rfl⟩
    · exact absurd e2 h2
    · exact absurd e2 h2
    · exact absurd e2 h2
    · exact absurd e1 h2
    · exact absurd e1 h2
    · exact absurd e1 h2
  | succ f ih =>
    intro p i M al a hf hpi h0 hS hn hp hJ hw H
    have hpk := peq_lt hn hp (by omega)
    have e1 : G_160 M (G_159 M) = smI (bR M p) := by rw [hpk]; rfl
    have e2 : G_161 M (G_159 M) = dgI (bR M p) := by rw [hpk]; rfl
    have key : ¬ (smI (bR M p) = 0 ∧ dgI (bR M p) = 0) → Ev none e 162 219 [some (.ref 633), some (.int c), some (.int sm), some (.int (if al = 0 then 0 else if smI (bR M p) = sm then 1 else 0))] [] M v M' 0 0 → ∃ M1 al1, Ev none e 162 295 [some (.ref 633), some (.int c), some (.int sm), some (.int al1)] [] M1 v M' 0 0 ∧ SQ M1 ∧ FB fN [] M M1 ∧ (zI M1 633 4).toInt = ((p + rlS (bR M) (f + 1) p : Nat) : Int) ∧ JQ sm (i + rlS (bR M) (f + 1) p) (cfS (bR M) (rlS (bR M) (f + 1) p) p a) al1 (zI M1 633 25) (zI M1 633 24) ∧ fL M1 633 31 = pkF ((slS (bR M) p0 (i + rlS (bR M) (f + 1) p)).take 6) ∧ zI M1 633 23 = zI M 633 23 := by
      intro hx H
      obtain ⟨M2, H, S2, F2, p2, J2, w2, q2⟩ := nx_byte2 hS hn hn2 hp (by omega) hpi hJ hw hs h0 H
      have hb2 : bR M2 = bR M := F2.bR (by decide)
      obtain ⟨M3, al3, H, S3, F3, p3, J3, w3, q3⟩ := ih (p + 1) (i + 1) M2 _ _ (by omega) (by omega) (fun q => absurd q (Nat.succ_ne_zero i)) S2 (by rw [F2.fi (by decide)]; exact hn) p2 J2 (by rw [hb2]; exact w2) H
      rw [hb2] at p3 J3 w3
      have hr : rlS (bR M) (f + 1) p = rlS (bR M) f (p + 1) + 1 := by
        conv => lhs; unfold rlS
        rw [if_neg hx]
      rw [hr]
      refine ⟨M3, al3, H, S3, F2.trans F3, by rw [p3]; congr 1; omega, ?_, ?_, q3.trans q2⟩
      · rw [show i + (rlS (bR M) f (p + 1) + 1) = i + 1 + rlS (bR M) f (p + 1) from by omega]
        exact J3
      · rw [show i + (rlS (bR M) f (p + 1) + 1) = i + 1 + rlS (bR M) f (p + 1) from by omega]
        exact w3
    rcases nx_178 hS H with ⟨h1, h2, H⟩ | ⟨h1, h2, h3, H⟩ | ⟨h1, h2, h3, h4, H⟩ | ⟨h1, h2, h3, h4, H⟩ | ⟨h1, h3, H⟩ | ⟨h1, h3, h4, H⟩ | ⟨h1, h3, h4, H⟩
    · rw [e1] at h1
      rw [e2] at h2
      have hr : rlS (bR M) (f + 1) p = 0 := by
        unfold rlS
        rw [if_pos ⟨h1, h2⟩]
      rw [hr]
      exact ⟨M, al, H, hS, FB.refl M, hp, hJ, hw, rfl⟩
    · rw [e2] at h2
      exact key (fun q => h2 q.2) (by rw [if_pos h3]; exact H)
    · rw [e2] at h2
      rw [e1] at h4
      exact key (fun q => h2 q.2) (by rw [if_neg h3, if_pos h4]; exact H)
    · rw [e2] at h2
      rw [e1] at h4
      exact key (fun q => h2 q.2) (by rw [if_neg h3, if_neg h4]; exact H)
    · rw [e1] at h1
      exact key (fun q => h1 q.1) (by rw [if_pos h3]; exact H)
    · rw [e1] at h1 h4
      exact key (fun q => h1 q.1) (by rw [if_neg h3, if_pos h4]; exact H)
    · rw [e1] at h1 h4
      exact key (fun q => h1 q.1) (by rw [if_neg h3, if_neg h4]; exact H)
/-- a token of letters and digits -/
theorem nx_word {p : Nat} {c : Int32} (hn2 : n ≤ 440) (hS : SQ M) (hn : (zI M 633 3).toInt = (n : Int)) (hp : (zI M 633 4).toInt = (p : Int)) (hlt : ¬ mn4 n ≤ p) (hc : c = bR M p) (hb : ¬ (bR M p = 32 ∨ bR M p = 10)) (ha : ¬ (smI (bR M p) = 0 ∧ dgI (bR M p) = 0)) (h23 : (zI M 633 23).toInt = (p : Int)) (h24 : zI M 633 24 = 0) (H : Ev none e 162 161 [some (.ref 633), some (.int c), none, none] [] M v M' 0 0) : v = none ∧ SQ M' ∧ FB fN [] M M' ∧ RTk (bR M) n M' (tlS (bR M) n p) := by
  have hmn := mn4_le (n := n)
  have H := nx_161 hS H
  have S1 : SQ (wF (wG M 633 31 0) 633 25 0) := hS.kg.kf
  have F1 : FB fN [] M (wF (wG M 633 31 0) 633 25 0) := (FB.wG (by decide)).trans (FB.wF (by decide))
  have hb1 : bR (wF (wG M 633 31 0) 633 25 0) = bR M := F1.bR (by decide)
  have e24 : zI (wF (wG M 633 31 0) 633 25 0) 633 24 = 0 := by rw [fI_wF_ne (fun q => absurd q.2 (by decide)), fI_wG]; exact h24
  have e25 : zI (wF (wG M 633 31 0) 633 25 0) 633 25 = 0 := fI_wF_eq hS.kg.1 qa_633 qi_61_25
  have e31 : fL (wF (wG M 633 31 0) 633 25 0) 633 31 = 0 := by rw [fL_wF]; exact fL_wG_eq hS.1 qa_633 ql_61_31
  have hsm : G_160 M c = smI (bR M p) := by rw [hc]; rfl
  rw [hsm] at H
  obtain ⟨M2, al, H, S2, F2, p2, J2, w2, q2⟩ := nx_loop (p0 := p) hn2 (smI_01 _) (n - p) p 0 _ 1 (0, 0, 0) (by omega) rfl (fun _ => by rw [hb1]) S1 (by rw [F1.fi (by decide)]; exact hn) (by rw [fI_wF_ne (fun q => absurd q.2 (by decide)), fI_wG]; exact hp) (by
    rw [e24, e25]
    exact ⟨rfl, by decide, by decide, rfl, Or.inl ⟨rfl, by split <;> rfl⟩, fun _ _ => rfl, fun q => absurd q (by omega)⟩) (by rw [e31]; rfl) H
  rw [hb1] at p2 J2 w2
  rw [Nat.zero_add] at J2 w2
  have hrl := rlS_le (B := bR M) (n - p) p
  have hr0 : rlS (bR M) (n - p) p ≠ 0 := by
    obtain ⟨f, hf⟩ : ∃ f, n - p = f + 1 := ⟨n - p - 1, by omega⟩
    rw [hf]
    unfold rlS
    rw [if_neg ha]
    exact Nat.succ_ne_zero _
  have hT : tokS (bR M) n p = (tyA (cfS (bR M) (rlS (bR M) (n - p) p) p (0, 0, 0)), p, p + rlS (bR M) (n - p) p, (cfS (bR M) (rlS (bR M) (n - p) p) p (0, 0, 0)).2.2) := by
    unfold tokS
    rw [if_neg hr0]
  have h23' : (zI M2 633 23).toInt = (p : Int) := by
    rw [q2, fI_wF_ne (fun q => absurd q.2 (by decide)), fI_wG]
    exact h23
  generalize hk : rlS (bR M) (n - p) p = k at *
  generalize cfS (bR M) k p (0, 0, 0) = a at *
  obtain ⟨j1, j2, j3, j4, j5, j6, j7⟩ := J2
  have j7 := j7 (by omega)
  have z0 : (0 : Int32).toInt = 0 := rfl
  have o3 : (3 : Int32).toInt = 3 := rfl
  have o6 : (6 : Int32).toInt = 6 := rfl
  have F3 : ∀ x, FB fN [] M (wF M2 633 22 x) := fun x => (F1.trans F2).trans (FB.wF (by decide))
  have g22 : ∀ x, zI (wF M2 633 22 x) 633 22 = x := fun x => fI_wF_eq S2.1 qa_633 qi_61_22
  have g23 : ∀ x, (zI (wF M2 633 22 x) 633 23).toInt = (p : Int) := fun x => by rw [fI_wF_ne (fun q => absurd q.2 (by decide))]; exact h23'
  have no : tyA a = 1 → zI M' 633 22 = 4 → (zI M' 633 23).toInt = (p : Int) → RTk (bR M) n M' (tlS (bR M) n p) := fun q1 q2 q3 => by
    have ht : (tokS (bR M) n p).1 = 1 := by rw [hT]; exact q1
    rw [tlS_no hlt hb ht]
    exact ⟨by rw [tokS_at]; exact q3, Or.inr (Or.inl ⟨ht, q2⟩)⟩
  have ye : tyA a ≠ 0 → tyA a ≠ 1 → (zI M' 633 23).toInt = (p : Int) → (zI M' 633 4).toInt = ((p + k : Nat) : Int) → ((tyA a = 2 ∧ zI M' 633 22 = 1 ∧ p + k ≤ p + 6 ∧ fL M' 633 31 = pkF (slS (bR M) p (p + k - p))) ∨ (tyA a = 3 ∧ zI M' 633 22 = 2 ∧ zI M' 633 25 = a.2.2)) → RTk (bR M) n M' (tlS (bR M) n p) := fun q0 q1 q2 q3 q4 => by
    have ht : ¬ (tokS (bR M) n p).1 = 1 := by rw [hT]; exact q1
    rw [tlS_tok hlt hb ht, hT]
    refine ⟨q2, Or.inr (Or.inr ⟨⟨q0, q1⟩, ?_, by dsimp only; omega, q3, rfl⟩)⟩
    rcases q4 with q4 | q4
    · exact Or.inl q4
    · exact Or.inr (Or.inl q4)
  have g4 : ∀ x, (zI (wF M2 633 22 x) 633 4).toInt = ((p + k : Nat) : Int) := fun x => by rw [fI_wF_ne (fun q => absurd q.2 (by decide))]; exact p2
  rcases nx_295 S2 H with ⟨h1, h2, rfl⟩ | ⟨h1, h2, h3, h4, rfl⟩ | ⟨h1, h2, h3, h4, rfl⟩ | ⟨h1, h2, h3, h4, rfl⟩ | ⟨h1, h2, h3, h4, rfl⟩
  · refine ⟨h2, S2.kf, F3 _, no ?_ (g22 _) (g23 _)⟩
    rcases j5 with ⟨q, _⟩ | ⟨_, q⟩
    · rw [h1] at q
      exact absurd q (by decide)
    unfold tyA
    rcases smI_01 (bR M p) with hs | hs
    · rw [hs, if_pos rfl] at j7 q
      rw [if_neg (fun r => by rw [r.1] at j7; omega), if_neg (fun r => q r.1)]
    · rw [hs, if_neg (by decide : ¬ (1 : Int32) = 0)] at j7 q
      rw [if_neg (fun r => q r.1), if_neg (fun r => by rw [r.1] at j7; omega)]
  · rw [h2, if_pos rfl] at j5 j7
    have hL : a.1 = 0 := j5.elim (fun q => q.2) (fun q => absurd q.1 h1)
    rw [Int32.le_iff_toInt_le] at h3
    have hL2 : a.1.toInt = 0 := by rw [hL]; rfl
    have ht : tyA a = 3 := by
      unfold tyA
      rw [if_neg (fun r => by rw [r.1] at j7; omega), if_pos ⟨hL, fun r => by rw [Int32.lt_iff_toInt_lt] at r; omega⟩]
    refine ⟨h4, S2.kf, F3 _, ye (by rw [ht]; decide) (by rw [ht]; decide) (g23 _) (g4 _) (Or.inr ⟨ht, g22 _, ?_⟩)⟩
    rw [fI_wF_ne (fun q => absurd q.2 (by decide))]
    exact (j6 h2 hL).symm
  · rw [h2, if_pos rfl] at j5 j7
    have hL : a.1 = 0 := j5.elim (fun q => q.2) (fun q => absurd q.1 h1)
    rw [Int32.le_iff_toInt_le] at h3
    have hL2 : a.1.toInt = 0 := by rw [hL]; rfl
    refine ⟨h4, S2.kf, F3 _, no ?_ (g22 _) (g23 _)⟩
    unfold tyA
    rw [if_neg (fun r => by rw [r.1] at j7; omega), if_neg (fun r => r.2 (by rw [Int32.lt_iff_toInt_lt]; omega))]
  · rw [if_neg h2] at j5 j7
    have hD : a.2.1 = 0 := j5.elim (fun q => q.2) (fun q => absurd q.1 h1)
    rw [Int32.le_iff_toInt_le] at h3
    have hD2 : a.2.1.toInt = 0 := by rw [hD]; rfl
    have ht : tyA a = 2 := by
      unfold tyA
      rw [if_pos ⟨hD, fun r => by rw [Int32.lt_iff_toInt_lt] at r; omega⟩]
    refine ⟨h4, S2.kf, F3 _, ye (by rw [ht]; decide) (by rw [ht]; decide) (g23 _) (g4 _) (Or.inl ⟨ht, g22 _, by omega, ?_⟩)⟩
    rw [fL_wF, w2, List.take_of_length_le (by rw [slS_len]; omega), Nat.add_sub_cancel_left]
  · rw [if_neg h2] at j5 j7
    have hD : a.2.1 = 0 := j5.elim (fun q => q.2) (fun q => absurd q.1 h1)
    rw [Int32.le_iff_toInt_le] at h3
    have hD2 : a.2.1.toInt = 0 := by rw [hD]; rfl
    refine ⟨h4, S2.kf, F3 _, no ?_ (g22 _) (g23 _)⟩
    unfold tyA
    rw [if_neg (fun r => r.2 (by rw [Int32.lt_iff_toInt_lt]; omega)), if_neg (fun r => by rw [r.1] at j7; omega)]
end NXT
