/-! THE REFERENCE'S line -/
def lawP : List (List Int32 × Int32) := [([119, 101, 97, 114], 0), ([103, 114, 111, 119], 1), ([108, 105, 110, 101], 2), ([109, 117, 100], 3), ([100, 114, 121], 4)]
theorem pk_law : lawP.map (fun q => (pkF q.1, q.2)) = [(2003132786, 0), (1735552887, 1), (1818848869, 2), (7173476, 3), (6582905, 4)] := by decide +kernel
theorem ok_law : ∀ q ∈ lawP, okBw q.1 = true := by decide +kernel
def habP : List (List Int32 × Int32) := [([119, 101, 105, 103, 104], 5), ([110, 101, 118, 101, 114], 6), ([115, 105, 103, 104, 116], 7)]
theorem pk_hab : habP.map (fun q => (pkF q.1, q.2)) = [(512802514792, 5), (474148660594, 6), (495689623668, 7)] := by decide +kernel
theorem ok_hab : ∀ q ∈ habP, okBw q.1 = true := by decide +kernel
def meaP : List (List Int32 × Int32) := [([103, 114, 101, 101, 110], 0), ([119, 101, 116], 1), ([99, 108, 105, 109, 98], 2), ([99, 114, 111, 119, 100], 3), ([116, 117, 114, 110], 4), ([99, 111, 109, 101], 5), ([108, 105, 110, 101], 6)]
theorem pk_mea : meaP.map (fun q => (pkF q.1, q.2)) = [(444300879214, 0), (7824756, 1), (427020610914, 2), (427121669988, 3), (1953854062, 4), (1668246885, 5), (1818848869, 6)] := by decide +kernel
theorem ok_mea : ∀ q ∈ meaP, okBw q.1 = true := by decide +kernel
theorem law_ix (w : List Int32) : ixF w lawW 0 = ixP w lawP := rfl
theorem mea_ix (w : List Int32) : ixF w meaW 0 = ixP w meaP := rfl
theorem hab_ix (w : List Int32) : (if ixF w habW 0 < 0 then (-1 : Int32) else 5 + ixF w habW 0) = ixP w habP := by
  unfold habW habP
  unfold ixF ixP
  by_cases h1 : w = [119, 101, 105, 103, 104]
  · rw [if_pos h1, if_pos h1]; decide
  · rw [if_neg h1, if_neg h1]
    unfold ixF ixP
    by_cases h2 : w = [110, 101, 118, 101, 114]
    · rw [if_pos h2, if_pos h2]; decide
    · rw [if_neg h2, if_neg h2]
      unfold ixF ixP
      by_cases h3 : w = [115, 105, 103, 104, 116]
      · rw [if_pos h3, if_pos h3]; decide
      · rw [if_neg h3, if_neg h3]
        unfold ixF ixP
        decide
theorem fls {B : Nat → Int32} {n : Nat} {M : Mem} {ts : List Tok} (h : RTk B n M ts) (hg : gdT B ts) : G_171 M = ixF (wdS B (hdT ts)) meaW 0 := by
  rw [mea_ix, ← h.ch hg meaP ok_mea, pk_mea]
  rfl
theorem fll {B : Nat → Int32} {n : Nat} {M : Mem} {ts : List Tok} {law : Bool} (h : RTk B n M ts) (hg : gdT B ts) : G_168 M (bif law then 1 else 0) = kdS B law (hdT ts) := by
  unfold kdS
  cases law
  · show G_168 M 0 = (if ixF (wdS B (hdT ts)) habW 0 < 0 then (-1 : Int32) else 5 + ixF (wdS B (hdT ts)) habW 0)
    unfold G_168
    rw [if_pos (show (0 : Int32) = 0 from rfl), hab_ix, ← h.ch hg habP ok_hab, pk_hab]
    rfl
  · show G_168 M 1 = ixF (wdS B (hdT ts)) lawW 0
    unfold G_168
    rw [if_neg (show ¬ (1 : Int32) = 0 by decide), law_ix, ← h.ch hg lawP ok_law, pk_law]
    rfl
/-- a number taken -/
noncomputable def tkR (s : Sg) (lo hi : Int32) : (Int32 × Nat) ⊕ Int32 := if (hdT s.1).1 ≠ 3 then .inl (1, (hdT s.1).2.1) else if (hdT s.1).2.2.2 < lo ∨ hi < (hdT s.1).2.2.2 then .inl (2, (hdT s.1).2.1) else .inr (hdT s.1).2.2.2
noncomputable def cndR (B : Nat → Int32) (C : Sg → PR) (s : Sg) (x : Int32) : PR := if x = 6 then C s else if (x = 0 ∨ x = 1 ∨ x = 5) ∧ wdS B (hdT s.1) = ifW then C (s.1.tail, s.2.1, s.2.2) else .inl s
/-- what a line's body comes to: the state, its measure, its number, from which step -/
abbrev PBd : Type := (Int32 × Nat) ⊕ (Sg × Int32 × Int32 × Nat)
noncomputable def cnR (B : Nat → Int32) (C : Sg → PR) (s : Sg) (x m nu : Int32) : PBd := match cndR B C s x with
  | .inr f => .inl f
  | .inl s2 => .inr (s2, m, nu, s.2.2.length)
noncomputable def nmR (B : Nat → Int32) (C : Sg → PR) (s : Sg) (x m : Int32) : PBd := match tkR s (if x = 2 then 1 else 0) (mostS x) with
  | .inl f => .inl f
  | .inr nu => cnR B C (s.1.tail, s.2.1, s.2.2) x m nu
noncomputable def bdR (B : Nat → Int32) (C : Sg → PR) (s : Sg) (x : Int32) : PBd := if x = 6 then cnR B C s 6 0 0 else if x = 5 then (if ixF (wdS B (hdT s.1)) meaW 0 < 0 then .inl (1, (hdT s.1).2.1) else nmR B C (s.1.tail, s.2.1, s.2.2) 5 (ixF (wdS B (hdT s.1)) meaW 0)) else nmR B C s x 0
noncomputable def enR (ls : List Lnq) (x : Int32) (r : PBd) : PLn := match r with
  | .inl f => .inr f
  | .inr q => endB q.1 ls x q.2.1 q.2.2.1 q.2.2.2
theorem cn_en {B : Nat → Int32} {C : Sg → PR} {s : Sg} {ls : List Lnq} {x m nu : Int32} : cndB B C s ls x m nu s.2.2.length = enR ls x (cnR B C s x m nu) := by
  unfold cndB cnR cndR
  by_cases h1 : x = 6
  · rw [if_pos h1, if_pos h1]
    cases C s <;> rfl
  · rw [if_neg h1, if_neg h1]
    by_cases h2 : (x = 0 ∨ x = 1 ∨ x = 5) ∧ wdS B (hdT s.1) = ifW
    · rw [if_pos h2, if_pos h2]
      cases C (s.1.tail, s.2.1, s.2.2) <;> rfl
    · rw [if_neg h2, if_neg h2]
      rfl
theorem nm_en {B : Nat → Int32} {C : Sg → PR} {s : Sg} {ls : List Lnq} {x m : Int32} (hg : (hdT s.1).1 = 3 → 0 ≤ (hdT s.1).2.2.2.toInt) : numB B C s ls x m = enR ls x (nmR B C s x m) := by
  unfold numB nmR tkR
  by_cases h1 : (hdT s.1).1 ≠ 3
  · rw [if_pos h1, if_pos h1]
    rfl
  · rw [if_neg h1, if_neg h1]
    have h0 := hg (Decidable.not_not.mp h1)
    have z0 : (0 : Int32).toInt = 0 := rfl
    have hc : (mostS x < (hdT s.1).2.2.2 ∨ (x = 2 ∧ (hdT s.1).2.2.2 < 1)) ↔ ((hdT s.1).2.2.2 < (if x = 2 then 1 else 0) ∨ mostS x < (hdT s.1).2.2.2) := by
      by_cases h2 : x = 2
      · rw [if_pos h2]
        exact ⟨fun q => q.elim Or.inr (fun q => Or.inl q.2), fun q => q.elim (fun q => Or.inr ⟨h2, q⟩) Or.inl⟩
      · rw [if_neg h2]
        refine ⟨fun q => q.elim Or.inr (fun q => absurd q.1 h2), fun q => q.elim (fun q => ?_) Or.inl⟩
        rw [Int32.lt_iff_toInt_lt] at q
        omega
    by_cases h2 : mostS x < (hdT s.1).2.2.2 ∨ (x = 2 ∧ (hdT s.1).2.2.2 < 1)
    · rw [if_pos h2, if_pos (hc.mp h2)]
      rfl
    · rw [if_neg h2, if_neg (fun q => h2 (hc.mpr q))]
      exact cn_en (s := (s.1.tail, s.2.1, s.2.2))
theorem bd_en {B : Nat → Int32} {C : Sg → PR} {s : Sg} {ls : List Lnq} {x : Int32} (hw : wfT s.1) (hg : gdT B s.1) : bodB B C s ls x = enR ls x (bdR B C s x) := by
  obtain ⟨r, hr⟩ := hw.ne
  unfold bodB bdR
  by_cases h1 : x = 6
  · rw [if_pos h1, if_pos h1, h1]
    exact cn_en
  · rw [if_neg h1, if_neg h1]
    by_cases h2 : x = 5
    · rw [if_pos h2, if_pos h2, h2]
      by_cases h3 : ixF (wdS B (hdT s.1)) meaW 0 < 0
      · rw [if_pos h3, if_pos h3]
        rfl
      · rw [if_neg h3, if_neg h3]
        refine nm_en (fun q => ?_)
        have hq : (hdT s.1.tail) ∈ s.1.tail := by
          cases ht : s.1.tail with
          | nil =>
            rw [ht] at q
            exact absurd q (show ¬ (0 : Int32) = 3 by decide)
          | cons a l => exact List.mem_cons_self
        exact (hg _ (List.mem_of_mem_tail hq)).2 q
    · rw [if_neg h2, if_neg h2]
      refine nm_en (fun q => (hg (hdT s.1) ?_).2 q)
      rw [hr]
      exact List.mem_cons_self
