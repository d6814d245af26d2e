/-! SOUNDNESS, the second third: the memory. A world: the cells of the abstract memory at B, B + 1, .. -/
def uWs : List (List Nat) := [[2057, 2059, 2061, 2063, 2065], [1237, 1239, 2001, 2003, 2005, 2007, 2009, 2011, 2013, 2015, 2017, 2019, 2021, 2023, 2025, 2027, 2029, 2031, 2033, 2035], [2214, 2216, 2218, 2220, 2222], [1074, 1076, 1078, 1080, 1082, 1084, 1086, 1088, 1090, 1092, 1094, 1096, 1098, 1100], [3008, 3010, 3012, 3014, 3016, 3018, 3020, 3022, 3024, 3026, 3028], [1046, 1048], [2124, 2126, 2128, 2130, 2132, 2134, 2136, 2138, 2140, 2142, 2144, 2146, 2148, 2150], [2177, 2179, 2181, 2183, 2185, 2187, 2189, 2191, 2193, 2195, 2197, 2199], [1165, 1167, 1169, 1171, 1173], [1134, 1136, 1138, 1140, 1142, 1144], [3048, 3050, 3052, 3054, 3056, 3058, 3060, 3062, 3064, 3066, 3068, 3070, 3072, 3074, 3076, 3078], [6123, 6125, 6127, 6129, 6131, 6133, 6135, 6137, 6139, 6141, 6143, 6145, 6147, 6149, 6151, 6153, 6155, 6157, 6159, 6161, 6163, 6165, 6167, 6169, 6171, 6173, 6175, 6177, 6179, 6181, 6183, 6185, 6187, 6189, 6191, 6193, 6195, 6197, 6199, 6201, 6203, 6205, 6207, 6209, 6211, 6213, 6215, 6217, 6219, 6221, 6223, 6225, 6227, 6229, 6231, 6233, 6235, 6237, 6239, 7001, 7003, 7005, 7007]]
noncomputable def ckU (ci : Nat) : Bool := match gNth gCL ci, gNth uWs ci with
  | some q, some l => (List.range q.2.2).all (fun k => match gNth l k with
    | some i => ckW i (u_lay q.1 q.2.1 k)
    | none => false)
  | _, _ => false
set_option maxRecDepth 100000 in
theorem ckUs : ((List.range 12).all ckU) = true := by decide +kernel
theorem u_in {ci : Nat} {q : vw_C} (hc : gNth gCL ci = some q) (h12 : ci < 12) : ∀ w ∈ u_ws q.1 q.2.1 q.2.2, w ∈ W0 := by
  intro w hw
  have h := List.all_eq_true.mp ckUs ci (List.mem_range.mpr h12)
  unfold ckU at h
  rw [hc] at h
  cases hl : gNth uWs ci with
  | none => rw [hl] at h; cases h
  | some l =>
    rw [hl] at h
    dsimp only at h
    obtain ⟨k, hk, rfl⟩ := List.mem_map.mp hw
    have h2 := List.all_eq_true.mp h k hk
    cases hi : gNth l k with
    | none => rw [hi] at h2; cases h2
    | some i =>
      rw [hi] at h2
      exact ckW_in h2
theorem look_in {α : Type} : ∀ (l : List (Nat × α)) (i : Nat) (v : α), gLook l i = some v → (i, v) ∈ l := by
  intro l
  induction l with
  | nil => intro i v h; cases h
  | cons x xs ih =>
    intro i v h
    have h' : cond (Nat.beq x.1 i) (some x.2) (gLook xs i) = some v := h
    cases hb : Nat.beq x.1 i with
    | true =>
      rw [hb] at h'
      cases h'
      obtain rfl := Nat.eq_of_beq_eq_true hb
      exact List.mem_cons_self
    | false =>
      rw [hb] at h'
      exact List.mem_cons_of_mem _ (ih i v h')
theorem own_in {α : Type} {t : List (List (Nat × α))} {chk : Nat → Nat × α → Bool} (hall : ((List.range 14).all fun o => (t.getD o []).all (chk o)) = true) (hl : t.length = 14) {o ix : Nat} {v : α} (h : gOwn t o ix = some v) : chk o (ix, v) = true := by
  unfold gOwn at h
  split at h
  · rename_i r hr
    have ho : o < 14 := hl ▸ (List.getElem?_eq_some_iff.mp hr).1
    have h1 := List.all_eq_true.mp hall o (List.mem_range.mpr ho)
    rw [List.getD_eq_getElem?_getD, hr] at h1
    exact List.all_eq_true.mp h1 _ (look_in r ix v h)
  · cases h
def gTyL (t : Nat) : FieldType := match t with
  | 0 => .byte | 1 => .int | 2 => .long | 3 => .boolean | 4 => .object "GrassPark$Land" | 5 => .object "GrassPark$Text" | 6 => .object "GrassPark$Walker" | 7 => .object "GrassPark$Wish" | _ => .array .int
def gTy2 (cy : Nat → ClassId) : List (ClassId × FieldType) := [(cy 0, gTyL 0), (cy 1, gTyL 1), (cy 2, gTyL 2), (cy 3, gTyL 3), (cy 4, gTyL 4), (cy 5, gTyL 5), (cy 6, gTyL 6), (cy 7, gTyL 7), (cy 8, gTyL 8)]
theorem gTy2_at (cy : Nat → ClassId) {t : Nat} (h : t ≤ 8) : (gTy2 cy)[t]? = some (cy t, gTyL t) := by
  rcases (show t = 0 ∨ t = 1 ∨ t = 2 ∨ t = 3 ∨ t = 4 ∨ t = 5 ∨ t = 6 ∨ t = 7 ∨ t = 8 by omega) with rfl | rfl | rfl | rfl | rfl | rfl | rfl | rfl | rfl <;> rfl
noncomputable def rE (B : Nat) (sa : Nat → Nat) (cy : Nat → ClassId) (e : AE) : va_E := match e with
  | .inl (t, .inl l) => .inl (cy t, l.length, .inl (fun i => (gNth l i).getD 0))
  | .inl (t, .inr (.inl l)) => .inl (cy t, l.length, .inr (.inl (fun i => (gNth l i).getD 0)))
  | .inl (t, .inr (.inr l)) => .inl (cy t, l.length, .inr (.inr (.inr (.inr (fun i => ((gNth l i).getD none).map (fun a => B + a))))))
  | .inr (c, vs) => .inr (c, vs.map (rV B sa))
noncomputable def wd (B : Nat) (sa : Nat → Nat) (cy : Nat → ClassId) (M : Mem) : va_W := M.mapIdx (fun i e => (B + i, rE B sa cy e))
theorem wd_get {B : Nat} {sa : Nat → Nat} {cy : Nat → ClassId} {M : Mem} {a : Nat} {e : AE} (h : gNth M a = some e) : (wd B sa cy M)[a]? = some (B + a, rE B sa cy e) := by
  rw [nth_eq] at h
  rw [wd, List.getElem?_mapIdx, h]
  rfl
theorem wd_set (B : Nat) (sa : Nat → Nat) (cy : Nat → ClassId) (M : Mem) (a : Nat) (e : AE) : (wd B sa cy M).set a (B + a, rE B sa cy e) = wd B sa cy (gPut M a e) := by
  apply List.ext_getElem?
  intro i
  rw [put_eq, wd, wd, List.getElem?_set, List.getElem?_mapIdx, List.getElem?_mapIdx, List.getElem?_set]
  by_cases h : a = i
  · subst h
    by_cases hl : a < M.length
    · simp [hl]
    · simp [hl]
  · simp [h]
theorem wd_app (B : Nat) (sa : Nat → Nat) (cy : Nat → ClassId) (M : Mem) (e : AE) : wd B sa cy M ++ [(B + M.length, rE B sa cy e)] = wd B sa cy (M ++ [e]) := by
  rw [wd, wd, List.mapIdx_append]
  simp
theorem wd_at {B : Nat} {sa : Nat → Nat} {cy : Nat → ClassId} {M : Mem} {k : Nat} {q : Nat × va_E} (h : (wd B sa cy M)[k]? = some q) : q.1 = B + k ∧ k < M.length := by
  rw [wd, List.getElem?_mapIdx] at h
  cases hm : M[k]? with
  | none => rw [hm] at h; cases h
  | some e =>
    rw [hm] at h
    cases h
    exact ⟨rfl, (List.getElem?_eq_some_iff.mp hm).1⟩
theorem wd_D (B : Nat) (sa : Nat → Nat) (cy : Nat → ClassId) (M : Mem) : va_D (fun q => B ≤ q) (wd B sa cy M) := by
  refine ⟨fun i j p q hi hj e => ?_, fun k q h => ?_⟩
  · have h1 := (wd_at hi).1
    have h2 := (wd_at hj).1
    omega
  · have h1 := (wd_at h).1
    show B ≤ q.1
    omega
theorem at_ok {α : Type} {l : List α} {j : Int32} {x : α} (h : gAt l j = some x) : vp_in j l.length ∧ gNth l j.toNatClampNeg = some x := by
  unfold gAt at h
  cases hd : decide (j < 0) with
  | true => rw [hd] at h; cases h
  | false =>
    rw [hd] at h
    have h2 : gNth l j.toNatClampNeg = some x := h
    refine ⟨fun q => ?_, h2⟩
    rcases q with q | q
    · exact absurd q (of_decide_eq_false hd)
    · have := gNth_lt _ _ _ h2
      omega
theorem up_i (l : List Int32) (k : Nat) (x : Int32) (h : k < l.length) : upd (fun i => (gNth l i).getD 0) k x = fun i => (gNth (gPut l k x) i).getD 0 := by
  funext i
  rw [nth_put]
  by_cases e : i = k
  · subst e
    simp [upd, h]
  · simp [upd, e]
theorem up_l (l : List Int64) (k : Nat) (x : Int64) (h : k < l.length) : vp_updL (fun i => (gNth l i).getD 0) k x = fun i => (gNth (gPut l k x) i).getD 0 := by
  funext i
  rw [nth_put]
  by_cases e : i = k
  · subst e
    simp [vp_updL, h]
  · simp [vp_updL, e]
theorem up_q (B : Nat) (l : List (Option Nat)) (k v : Nat) (h : k < l.length) : va_up (fun i => ((gNth l i).getD none).map (fun a => B + a)) k (some (B + v)) = fun i => ((gNth (gPut l k (some v)) i).getD none).map (fun a => B + a) := by
  funext i
  rw [nth_put]
  by_cases e : i = k
  · subst e
    simp [va_up, h]
  · simp [va_up, e]
/-- what a field may hold without being narrowed -/
theorem fit_nar {ty : FieldType} {v : Value} (ht : (match ty with
    | .int => true | .boolean => true | .long => true | .array _ => true | .object _ => true | _ => false) = true) (h : fits ty v = true) : narrow ty v = v := by
  cases ty with
  | boolean =>
    cases v with
    | int x =>
      have hx : x = 0 ∨ x = 1 := by
        have h' : (x == 0 || x == 1) = true := h
        simpa using h'
      rcases hx with rfl | rfl <;> rfl
    | _ => cases h
  | int => cases v <;> first | rfl | cases h
  | long => cases v <;> first | rfl | cases h
  | array t => cases v <;> first | rfl | cases h
  | object t => cases v <;> first | rfl | cases h
  | _ => cases ht
theorem fit_rV (B : Nat) (sa : Nat → Nat) {ty : FieldType} {v : Value} (h : fits ty v = true) : fits ty (rV B sa v) = true := by
  cases v with
  | ref a => cases ty <;> first | rfl | exact h
  | retAddr a => cases ty <;> cases h
  | _ => exact h
theorem rV_rf (B : Nat) (sa : Nat → Nat) (o : Option Nat) : rV B sa (va_rf o) = va_rf (o.map (fun a => B + a)) := by cases o <;> rfl
theorem ty_all {ci : Nat} {q : vw_C} {ty : Nat → FieldType} (hc : gNth gCL ci = some q) (ht : gNth gTys ci = some ty) : (∀ k, k < q.2.2 → parseFieldDescriptor (q.2.1 k).2.2.1 = some (ty k)) ∧ (∀ a, a < q.2.2 → ∀ b, b < q.2.2 → a ≠ b → (q.2.1 a).2.1 ≠ (q.2.1 b).2.1) ∧ ci < 12 := by
  match ci, hc, ht with
  | 0, hc, ht => cases hc; cases ht; exact ⟨tyX0_ok, nmX0, by decide⟩
  | 1, hc, ht => cases hc; cases ht; exact ⟨tyX1_ok, nmX1, by decide⟩
  | 2, hc, ht => cases hc; cases ht; exact ⟨tyX2_ok, nmX2, by decide⟩
  | 3, hc, ht => cases hc; cases ht; exact ⟨tyX3_ok, nmX3, by decide⟩
  | 4, hc, ht => cases hc; cases ht; exact ⟨tyX4_ok, nmX4, by decide⟩
  | 5, hc, ht => cases hc; cases ht; exact ⟨tyX5_ok, nmX5, by decide⟩
  | 6, hc, ht => cases hc; cases ht; exact ⟨tyX6_ok, nmX6, by decide⟩
  | 7, hc, ht => cases hc; cases ht; exact ⟨tyX7_ok, nmX7, by decide⟩
  | 8, hc, ht => cases hc; cases ht; exact ⟨tyX8_ok, nmX8, by decide⟩
  | 9, hc, ht => cases hc; cases ht; exact ⟨tyX9_ok, nmX9, by decide⟩
  | 10, hc, ht => cases hc; cases ht; exact ⟨tyX10_ok, nmX10, by decide⟩
  | 11, hc, ht => cases hc; cases ht; exact ⟨tyX11_ok, nmX11, by decide⟩
  | n + 12, hc, ht => cases ht
def gAOA (U : State) : Prop := (Cond.arrayOver (.array .int)).before #[] U = true
/-- the texts lie where sa says, the library's own statics hold what they held -/
def gTl : List Nat := [(gTx 0).length, (gTx 1).length, (gTx 2).length, (gTx 3).length, (gTx 4).length, (gTx 5).length, (gTx 6).length]
def gTxs : List (List Int32) := [gTx 0, gTx 1, gTx 2, gTx 3, gTx 4, gTx 5, gTx 6]
def InvS (B : Nat) (sa : Nat → Nat) (U : State) : Prop :=
  vk_S 7 gTl gTxs (fun k => sa (10 + k)) (fun k => sa (20 + k)) (fun a => B ≤ a) U U.heap ∧ (∀ k : Nat, k < 7 → vk_R "GrassPark$Reader" (gTi k) (gTt k) (sa (10 + k)) U) ∧ va_Z "java/lang/String" "COMPACT_STRINGS" "Z" (.int 1) (fun a => B ≤ a) U U.heap ∧ va_Zq "jdk/internal/util/Preconditions" "SIOOBE_FORMATTER" "Ljava/util/function/BiFunction;" (fun a => B ≤ a) U U.heap
/-- what stays true of every state: the classes, the nest mates' words, the rows that were there before -/
def Inv (B : Nat) (sa : Nat → Nat) (cy : Nat → ClassId) (dC : Nat → ClassId) (dI : Nat → Nat → Nat) (SA : Sta) (U : State) : Prop :=
  va_K (dC, dI) gCL (gTy2 cy) U ∧ (∀ w ∈ WN, va_Nw w U) ∧ (∀ (j : Nat) (l : List Int32), gSx SA j = some l → va_X (sa j) l.length (fun i => (gNth l i).getD 0) U U.heap ∧ sa j < B) ∧ (∀ j : Nat, 0 < j → j < 5 → va_Z (gStN j).1 (gStN j).2 "[I" (.ref (sa j)) (fun a => B ≤ a) U U.heap) ∧ B ≤ U.heap.size ∧ (∀ t : Nat, 4 ≤ t → t ≤ 7 → va_AO (gElN t) U) ∧ gAOA U ∧ InvS B sa U
theorem W.sz {p : Program} {l : Launch} {e : Env} {R : Room} {s : State} {m : MethodId} {args : Array Value} {below : List Frame} {meth : Method} {c : Code} {H : Heap} {locs : List Loc} {cells slots : Nat} {Q : State → Prop} {g : JFrame} (k : H.size ≤ s.heap.size + cells → W p l e R s m args below meth c H locs cells slots Q g) : W p l e R s m args below meth c H locs cells slots Q g := by
  intro T hT X
  have h := X.same
  exact k (by rw [← hT]; exact h.2.2.1) T hT X
