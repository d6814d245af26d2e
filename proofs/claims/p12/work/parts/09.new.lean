/-! SOUNDNESS: making cells, and calls taken as one step -/
theorem w0_aI : (.arrayClass .int : Cond) ∈ W0 := ckW_in (i := 1051) (by decide +kernel)
theorem w0_aJ : (.arrayClass .long : Cond) ∈ W0 := ckW_in (i := 2225) (by decide +kernel)
theorem w0_aZ : (.arrayClass .boolean : Cond) ∈ W0 := ckW_in (i := 3081) (by decide +kernel)
theorem w0_aB : (.arrayClass .byte : Cond) ∈ W0 := ckW_in (i := 4028) (by decide +kernel)
theorem w0_oI : (.instanceMethod objectInit : Cond) ∈ W0 := ckW_in (i := 1031) (by decide +kernel)
theorem w0_oC : (.code objectInit ⟨#[0xb1]⟩ 1 none : Cond) ∈ W0 := ckW_in (i := 1032) (by decide +kernel)
theorem w0_mI : (.initialized "java/lang/Math" : Cond) ∈ W0 := ckW_in (i := 1014) (by decide +kernel)
theorem w0_mAs : (.static Lib.Math.abs.name : Cond) ∈ W0 := ckW_in (i := 4126) (by decide +kernel)
theorem w0_mAc : (.code Lib.Math.abs.name Lib.Math.abs.code 1 (some .int) : Cond) ∈ W0 := ckW_in (i := 4127) (by decide +kernel)
theorem w0_mXs : (.static Lib.Math.max.name : Cond) ∈ W0 := ckW_in (i := 3158) (by decide +kernel)
theorem w0_mXc : (.code Lib.Math.max.name Lib.Math.max.code 2 (some .int) : Cond) ∈ W0 := ckW_in (i := 3159) (by decide +kernel)
theorem w0_mNs : (.static Lib.Math.min.name : Cond) ∈ W0 := ckW_in (i := 3146) (by decide +kernel)
theorem w0_mNc : (.code Lib.Math.min.name Lib.Math.min.code 2 (some .int) : Cond) ∈ W0 := ckW_in (i := 3147) (by decide +kernel)
theorem w0_yI : (.initialized "java/lang/System" : Cond) ∈ W0 := ckW_in (i := 1023) (by decide +kernel)
theorem w0_yS : (.static arraycopyName : Cond) ∈ W0 := ckW_in (i := 5002) (by decide +kernel)
theorem w0_yN : (.native arraycopyName : Cond) ∈ W0 := ckW_in (i := 5003) (by decide +kernel)
theorem w0_fI : (.initialized RJ7 : Cond) ∈ W0 := ckW_in (i := 1013) (by decide +kernel)
theorem w0_fS : (.static yJ7_fill_53178 : Cond) ∈ W0 := ckW_in (i := 3110) (by decide +kernel)
theorem w0_sI : (.initialized RJ0 : Cond) ∈ W0 := ckW_in (i := 1015) (by decide +kernel)
theorem w0_s1I : (.initialized RJ1 : Cond) ∈ W0 := ckW_in (i := 1016) (by decide +kernel)
theorem w0_s3I : (.initialized RJ3 : Cond) ∈ W0 := ckW_in (i := 1017) (by decide +kernel)
theorem w0_sLi : (.instanceMethod yJ0_length_8abf5 : Cond) ∈ W0 := ckW_in (i := 3175) (by decide +kernel)
theorem w0_sLs : (.selects RJ0 yJ0_length_8abf5 yJ0_length_8abf5 : Cond) ∈ W0 := ckW_in (i := 3176) (by decide +kernel)
theorem w0_sCi : (.instanceMethod yJ0_charAt_5068e : Cond) ∈ W0 := ckW_in (i := 3185) (by decide +kernel)
theorem w0_sCs : (.selects RJ0 yJ0_charAt_5068e yJ0_charAt_5068e : Cond) ∈ W0 := ckW_in (i := 3186) (by decide +kernel)
theorem w0_sDi : (.instanceMethod yJ0_coder_7d493 : Cond) ∈ W0 := ckW_in (i := 3179) (by decide +kernel)
theorem w0_sDs : (.selects RJ0 yJ0_coder_7d493 yJ0_coder_7d493 : Cond) ∈ W0 := ckW_in (i := 3180) (by decide +kernel)
theorem w0_sIi : (.instanceMethod yJ0_isLatin1_aae02 : Cond) ∈ W0 := ckW_in (i := 3189) (by decide +kernel)
theorem w0_sIs : (.selects RJ0 yJ0_isLatin1_aae02 yJ0_isLatin1_aae02 : Cond) ∈ W0 := ckW_in (i := 3190) (by decide +kernel)
theorem w0_sKs : (.static yJ0_checkIndex_df160 : Cond) ∈ W0 := ckW_in (i := 3196) (by decide +kernel)
theorem w0_s1Cs : (.static yJ1_charAt_3b067 : Cond) ∈ W0 := ckW_in (i := 3193) (by decide +kernel)
theorem w0_s3Ks : (.static yJ3_checkIndex_8e157 : Cond) ∈ W0 := ckW_in (i := 3201) (by decide +kernel)
theorem w0_sDl : (.methodLink RJ0 335 yJ0_coder_7d493 : Cond) ∈ W0 := ckW_in (i := 3178) (by decide +kernel)
theorem w0_sIl : (.methodLink RJ0 492 yJ0_isLatin1_aae02 : Cond) ∈ W0 := ckW_in (i := 3188) (by decide +kernel)
theorem w0_s1Cl : (.methodLink RJ0 495 yJ1_charAt_3b067 : Cond) ∈ W0 := ckW_in (i := 3192) (by decide +kernel)
theorem w0_sKl : (.methodLink RJ1 9 yJ0_checkIndex_df160 : Cond) ∈ W0 := ckW_in (i := 3195) (by decide +kernel)
theorem w0_s3Kl : (.methodLink RJ0 1059 yJ3_checkIndex_8e157 : Cond) ∈ W0 := ckW_in (i := 3200) (by decide +kernel)
theorem w0_sf38 : (.fieldLink RJ0 38 "java/lang/String" "COMPACT_STRINGS" "Z" : Cond) ∈ W0 := ckW_in (i := 3182) (by decide +kernel)
theorem w0_sf1053 : (.fieldLink RJ0 1053 "jdk/internal/util/Preconditions" "SIOOBE_FORMATTER" "Ljava/util/function/BiFunction;" : Cond) ∈ W0 := ckW_in (i := 3198) (by decide +kernel)
theorem w0_sf9 : (.fieldLink RJ0 9 "java/lang/String" "value" "[B" : Cond) ∈ W0 := ckW_in (i := 9009) (by decide +kernel)
theorem w0_sf15 : (.fieldLink RJ0 15 "java/lang/String" "coder" "B" : Cond) ∈ W0 := ckW_in (i := 9010) (by decide +kernel)
theorem w0_sLc : Cond.code yJ0_length_8abf5 cJ0_length_8abf5 1 (some .int) ∈ W0 := List.mem_filter.mpr ⟨gTb_in _ gTb_3 _ (gNth_mem _ 177 _ rfl), rfl⟩
theorem w0_sCc : Cond.code yJ0_charAt_5068e cJ0_charAt_5068e 2 (some .char) ∈ W0 := List.mem_filter.mpr ⟨gTb_in _ gTb_3 _ (gNth_mem _ 187 _ rfl), rfl⟩
theorem w0_sDc : Cond.code yJ0_coder_7d493 cJ0_coder_7d493 1 (some .byte) ∈ W0 := List.mem_filter.mpr ⟨gTb_in _ gTb_3 _ (gNth_mem _ 181 _ rfl), rfl⟩
theorem w0_sIc : Cond.code yJ0_isLatin1_aae02 cJ0_isLatin1_aae02 1 (some .boolean) ∈ W0 := List.mem_filter.mpr ⟨gTb_in _ gTb_3 _ (gNth_mem _ 191 _ rfl), rfl⟩
theorem w0_sKc : Cond.code yJ0_checkIndex_df160 cJ0_checkIndex_df160 2 none ∈ W0 := List.mem_filter.mpr ⟨gTb_in _ gTb_3 _ (gNth_mem _ 197 _ rfl), rfl⟩
theorem w0_s1Cc : Cond.code yJ1_charAt_3b067 cJ1_charAt_3b067 2 (some .char) ∈ W0 := List.mem_filter.mpr ⟨gTb_in _ gTb_3 _ (gNth_mem _ 194 _ rfl), rfl⟩
theorem w0_s3Kc : Cond.code yJ3_checkIndex_8e157 cJ3_checkIndex_8e157 3 (some .int) ∈ W0 := List.mem_filter.mpr ⟨gTb_in _ gTb_3 _ (gNth_mem _ 202 _ rfl), rfl⟩
theorem w0_fC : Cond.code yJ7_fill_53178 cJ7_fill_53178 4 none ∈ W0 := List.mem_filter.mpr ⟨gTb_in _ gTb_3 _ (gNth_mem _ 111 _ rfl), rfl⟩
def nWs : List (Nat × Nat) := [(2045, 1008), (1104, 1004), (2203, 1010), (1053, 1003), (2227, 1011), (1034, 1002), (2070, 1009), (2039, 1007), (1147, 1006), (1113, 1005), (1026, 1001), (6049, 1012)]
noncomputable def ckI2 (ci : Nat) : Bool := match gNth gCL ci, gNth nWs ci, gNth gTys ci with
  | some q, some w, some ty => ckW w.1 (.instantiable q.1 q.2.2) && ckW w.2 (.initialized q.1) && (List.range q.2.2).all (fun k => decide (gDv (ty k) = defaultValue (ty k)))
  | _, _, _ => false
theorem ckI2s : ((List.range 12).all ckI2) = true := by decide +kernel
theorem i2_ok {ci : Nat} {q : vw_C} {ty : Nat → FieldType} (hc : gNth gCL ci = some q) (ht : gNth gTys ci = some ty) (h12 : ci < 12) : Cond.instantiable q.1 q.2.2 ∈ W0 ∧ Cond.initialized q.1 ∈ W0 ∧ ∀ k, k < q.2.2 → gDv (ty k) = defaultValue (ty k) := by
  have h := List.all_eq_true.mp ckI2s ci (List.mem_range.mpr h12)
  unfold ckI2 at h
  rw [hc, ht] at h
  cases hw : gNth nWs ci with
  | none => rw [hw] at h; cases h
  | some w =>
    rw [hw] at h
    simp only [Bool.and_eq_true] at h
    obtain ⟨⟨h1, h2⟩, h3⟩ := h
    exact ⟨ckW_in h1, ckW_in h2, fun k hk => of_decide_eq_true (List.all_eq_true.mp h3 k (List.mem_range.mpr hk))⟩
theorem sz_ok {n : Int32} (h : gSz n = true) : ¬ n < 0 ∧ n.toNatClampNeg ≤ 60000 := by
  unfold gSz at h
  rw [Bool.and_eq_true, Bool.not_eq_true'] at h
  exact ⟨of_decide_eq_false h.1, Nat.le_of_ble_eq_true h.2⟩
theorem rep_nth {α : Type} (n : Nat) (v : α) (i : Nat) : gNth (gRep n v) i = if i < n then some v else none := by
  rw [nth_eq, rep_eq, List.getElem?_replicate]
theorem rep_len {α : Type} (n : Nat) (v : α) : (gRep n v).length = n := by rw [rep_eq, List.length_replicate]
theorem rep_i (n : Nat) : (fun i => (gNth (gRep n (0 : Int32)) i).getD 0) = fun _ => 0 := by
  funext i
  rw [rep_nth]
  split <;> rfl
theorem rep_l (n : Nat) : (fun i => (gNth (gRep n (0 : Int64)) i).getD 0) = fun _ => 0 := by
  funext i
  rw [rep_nth]
  split <;> rfl
theorem rep_q (B n : Nat) : (fun i => ((gNth (gRep n (none : Option Nat)) i).getD none).map (fun a => B + a)) = fun _ => none := by
  funext i
  rw [rep_nth]
  split <;> rfl
/-- a new cell lies behind the world -/
theorem fresh {B : Nat} {sa : Nat → Nat} {cy : Nat → ClassId} {D : va_G} {cl : List vw_C} {M : Mem} {q : Nat} {e : va_E} {H1 : Heap} (hP : va_P D cl (wd B sa cy M ++ [(q, e)]) H1) (hD : va_D (fun a => B ≤ a) (wd B sa cy M ++ [(q, e)])) (hz : H1.size ≤ B + M.length + 1) : q = B + M.length := by
  have hl : (wd B sa cy M).length = M.length := by rw [wd, List.length_mapIdx]
  have hk : (wd B sa cy M ++ [(q, e)])[M.length]? = some (q, e) := by
    rw [List.getElem?_append_right (by omega), hl]
    simp
  have h1 : B ≤ q := hD.2 _ _ hk
  have h2 : q < H1.size := (hP _ _ hk).lt
  rcases Nat.lt_or_ge q (B + M.length) with h3 | h3
  · have hi : q - B < M.length := by omega
    have hg : gNth M (q - B) = some (M[q - B]) := by rw [nth_eq, List.getElem?_eq_getElem hi]
    have h4 : (wd B sa cy M ++ [(q, e)])[q - B]? = some (B + (q - B), rE B sa cy (M[q - B])) := by
      rw [List.getElem?_append_left (by omega)]
      exact wd_get hg
    have h5 := hD.1 _ _ _ _ h4 hk (by show B + (q - B) = q; omega)
    omega
  · omega
section SNC
variable {p : Program} {l : Launch} {e : Env} {R : Room} {s : State} {m : MethodId} {args : Array Value} {below : List Frame} {meth : Method} {c : Code} {H : Heap} {locs : List Loc} {cells slots : Nat} {Q : State → Prop} {cc : ByteArray} {pc : Nat} {ls : Array Slot} {B : Nat} {sa : Nat → Nat} {cy : Nat → ClassId} {dC : Nat → ClassId} {dI : Nat → Nat → Nat} {SA : Sta}
/-- what comes behind the making of one cell -/
def Kn1 (p : Program) (l : Launch) (e : Env) (R : Room) (s : State) (m : MethodId) (args : Array Value) (below : List Frame) (meth : Method) (c : Code) (locs : List Loc) (B : Nat) (sa : Nat → Nat) (cy : Nat → ClassId) (dC : Nat → ClassId) (dI : Nat → Nat → Nat) (Q : State → Prop) (M' : Mem) (k n : Nat) (g : JFrame) : Prop :=
  ∀ H1 : Heap, va_P (dC, dI) gCL (wd B sa cy M') H1 → va_S (fun q => B ≤ q) s.heap H1 locs → W p l e R s m args below meth c H1 locs k n Q g
theorem new1 {M : Mem} {q n : Nat} {e0 : AE} {v : va_E} {H1 : Heap} {pc1 : Nat} {ls1 : Array Slot} {rest : List Value} (hv : v = rE B sa cy e0) (hsz : s.heap.size + cells = B + M.length) (hP : va_P (dC, dI) gCL (wd B sa cy M ++ [(q, v)]) H1) (hD : va_D (fun a => B ≤ a) (wd B sa cy M ++ [(q, v)])) (hS : va_S (fun q => B ≤ q) s.heap H1 locs)
    (k : Kn1 p l e R s m args below meth c locs B sa cy dC dI Q (M ++ [e0]) (cells + 1) n (F0 m pc1 ls1 (.ref (B + gLn M) :: rest))) : W p l e R s m args below meth c H1 locs (cells + 1) n Q (F0 m pc1 ls1 (.ref q :: rest)) := by
  refine W.sz (fun hz => ?_)
  have hq := fresh hP hD (by omega)
  subst hq
  subst hv
  rw [ln_eq] at k
  rw [wd_app] at hP
  exact k H1 hP hS
theorem ra_eq {t : Nat} (h8 : t ≤ 8) {x y : ClassId} (hx : va_RA s x (gTyL t)) (hy : va_RA s y (gTyL t)) : x = y := by
  rcases (show t = 0 ∨ t = 1 ∨ t = 2 ∨ t = 3 ∨ t = 4 ∨ t = 5 ∨ t = 6 ∨ t = 7 ∨ t = 8 by omega) with rfl | rfl | rfl | rfl | rfl | rfl | rfl | rfl | rfl
  case inr.inr.inr.inr.inl | inr.inr.inr.inr.inr.inl | inr.inr.inr.inr.inr.inr.inl | inr.inr.inr.inr.inr.inr.inr.inl =>
    obtain ⟨_, _, -, -, -, hx⟩ := hx
    obtain ⟨_, _, -, -, -, hy⟩ := hy
    exact Option.some.inj (hx.symm.trans hy)
  all_goals
    have hx' : s.vm.findClass _ = some x := hx
    have hy' : s.vm.findClass _ = some y := hy
    exact Option.some.inj (hx'.symm.trans hy')
theorem cy_eq {t : Nat} {cA : ClassId} {ty : FieldType} (h8 : t ≤ 8) (hty : gTyL t = ty) (hK : va_K (dC, dI) gCL (gTy2 cy) s) (hK1 : va_K (dC, dI) gCL (gTy2 cy ++ [(cA, ty)]) s) : cA = cy t := by
  have h1 := (hK1.2 9 (cA, ty) rfl).2
  have h2 := (hK.2 t _ (gTy2_at cy h8)).2
  subst hty
  exact ra_eq h8 h1 h2
set_option maxHeartbeats 4000000 in
theorem newarr_ok (hx : p.tables.exec = Jvm.exec) (hb : c.code = cc) (hts : ∀ w ∈ W0, w.before args s = true) (hI : Inv B sa cy dC dI SA s) {M : Mem} {rest : List Value} {aty : ArrayType} {t : Nat} (ht : gTag aty = some t) {n : Int32} (hn : gSz n = true) (hP : va_P (dC, dI) gCL (wd B sa cy M) H) (hS : va_S (fun q => B ≤ q) s.heap H locs) (hsz : s.heap.size + cells = B + M.length) (hc1 : cells + 1 ≤ R.cells) (hs1 : slots + n.toNatClampNeg ≤ R.slots) (hdg : decode cc pc = .ok (.newarray aty, 2))
    (k : Kn1 p l e R s m args below meth c locs B sa cy dC dI Q (M ++ [gZero t n.toNatClampNeg]) (cells + 1) (slots + n.toNatClampNeg) (F0 m (pc + 2) ls (.ref (B + gLn M) :: rest))) : W p l e R s m args below meth c H locs cells slots Q (F0 m pc ls (.int n :: rest)) := by
  have hK := hI.1
  have hD := wd_D B sa cy M
  have hA : ∀ q, s.heap.size ≤ q → B ≤ q := fun q h => Nat.le_trans hI.2.2.2.2.1 h
  obtain ⟨hn0, hnz⟩ := sz_ok hn
  cases aty
  case byte =>
    cases ht
    refine va_newa (atype := .byte) (ty := .byte) (a0 := (n.toNatClampNeg, .inl (fun _ => 0))) hx hb (hts _ w0_aB) rfl hK hP hD hS hA (fun _ => rfl) hn0 rfl (by show _ * 1 ≤ _; omega) hc1 hs1 hdg (fun q cA H1 hK1 hP1 hD1 hS1 => ?_)
    obtain rfl := cy_eq (t := 0) (by decide) rfl hK hK1
    exact new1 (by unfold gZero rE; simp only [rep_i, rep_len]) hsz hP1 hD1 hS1 k
  case int =>
    cases ht
    refine va_newa (atype := .int) (ty := .int) (a0 := (n.toNatClampNeg, .inl (fun _ => 0))) hx hb (hts _ w0_aI) rfl hK hP hD hS hA (fun _ => rfl) hn0 rfl (by show _ * 4 ≤ _; omega) hc1 hs1 hdg (fun q cA H1 hK1 hP1 hD1 hS1 => ?_)
    obtain rfl := cy_eq (t := 1) (by decide) rfl hK hK1
    exact new1 (by unfold gZero rE; simp only [rep_i, rep_len]) hsz hP1 hD1 hS1 k
  case long =>
    cases ht
    refine va_newa (atype := .long) (ty := .long) (a0 := (n.toNatClampNeg, .inr (.inl (fun _ => 0)))) hx hb (hts _ w0_aJ) rfl hK hP hD hS hA (fun _ => rfl) hn0 rfl (by show _ * 8 ≤ _; omega) hc1 hs1 hdg (fun q cA H1 hK1 hP1 hD1 hS1 => ?_)
    obtain rfl := cy_eq (t := 2) (by decide) rfl hK hK1
    exact new1 (by unfold gZero rE; simp only [rep_l, rep_len]) hsz hP1 hD1 hS1 k
  case boolean =>
    cases ht
    refine va_newa (atype := .boolean) (ty := .boolean) (a0 := (n.toNatClampNeg, .inl (fun _ => 0))) hx hb (hts _ w0_aZ) rfl hK hP hD hS hA (fun _ => rfl) hn0 rfl (by show _ * 1 ≤ _; omega) hc1 hs1 hdg (fun q cA H1 hK1 hP1 hD1 hS1 => ?_)
    obtain rfl := cy_eq (t := 3) (by decide) rfl hK hK1
    exact new1 (by unfold gZero rE; simp only [rep_i, rep_len]) hsz hP1 hD1 hS1 k
  all_goals cases ht
theorem seq_nth : ∀ (n b i : Nat), gNth (gSeq n b) i = if i < n then some (some (b + i)) else none := by
  intro n
  induction n with
  | zero => intro b i; rfl
  | succ n ih =>
    intro b i
    cases i with
    | zero => rfl
    | succ i =>
      show gNth (gSeq n (b + 1)) i = _
      rw [ih, show b + 1 + i = b + (i + 1) by omega]
      by_cases h : i < n
      · rw [if_pos h, if_pos (by omega)]
      · rw [if_neg h, if_neg (by omega)]
theorem seq_len : ∀ (n b : Nat), (gSeq n b).length = n := by
  intro n
  induction n with
  | zero => intro b; rfl
  | succ n ih => intro b; exact congrArg Nat.succ (ih (b + 1))
theorem out_cell (cA : ClassId) (N h0 : Nat) : ∀ i : Nat, Jvm.Free.Multi.outerC cA N h0 i = arrV cA N (fun j => va_rf (if j < i then some (h0 + 1 + j) else none)) := by
  intro i
  induction i with
  | zero =>
    show ({ cls := cA, slots := Array.replicate N .null, vm := .none } : Cell) = _
    rw [arrV_new]
    exact congrArg (arrV cA N) (funext fun j => by simp [va_rf])
  | succ i ih =>
    show (Jvm.Free.Multi.outerC cA N h0 i).setSlot i (.ref (h0 + 1 + i)) = _
    rw [ih, arrV_store]
    refine congrArg (arrV cA N) (funext fun j => ?_)
    rcases Nat.lt_trichotomy j i with h | h | h
    · simp [updV, Nat.ne_of_lt h, h, Nat.lt_succ_of_lt h]
    · subst h
      simp [updV, va_rf]
    · simp [updV, Nat.ne_of_gt h, show ¬ j < i by omega, show ¬ j < i + 1 by omega]
set_option maxHeartbeats 4000000 in
theorem mna_ok (hx : p.tables.exec = Jvm.exec) (hb : c.code = cc) {own : String} {ix : Nat} (hown : s.vm.findClass own = some m.cls) (hcl : (Cond.classLink own ix "[[I").before args s = true) (hts : ∀ w ∈ W0, w.before args s = true) (hI : Inv B sa cy dC dI SA s) {M : Mem} {rest : List Value} {n kk : Int32} (hn : gSz n = true) (hk : gSz kk = true) (hP : va_P (dC, dI) gCL (wd B sa cy M) H) (hS : va_S (fun q => B ≤ q) s.heap H locs) (hsz : s.heap.size + cells = B + M.length) (hc1 : cells + (1 + n.toNatClampNeg) ≤ R.cells) (hs1 : slots + (n.toNatClampNeg + n.toNatClampNeg * kk.toNatClampNeg) ≤ R.slots) (hdg : decode cc pc = .ok (.multianewarray ix 2, 4))
    (k : Kn1 p l e R s m args below meth c locs B sa cy dC dI Q (M ++ (.inl (8, .inr (.inr (gSeq n.toNatClampNeg (gLn M + 1)))) :: gRep n.toNatClampNeg (gZero 1 kk.toNatClampNeg))) (cells + (1 + n.toNatClampNeg)) (slots + (n.toNatClampNeg + n.toNatClampNeg * kk.toNatClampNeg)) (F0 m (pc + 4) ls (.ref (B + gLn M) :: rest))) : W p l e R s m args below meth c H locs cells slots Q (F0 m pc ls (.int kk :: .int n :: rest)) := by
  obtain ⟨hn0, hnz⟩ := sz_ok hn
  obtain ⟨hk0, hkz⟩ := sz_ok hk
  refine W.sz (fun hz => ?_)
  intro T hT Xs
  obtain ⟨vm₁, cA, comp, -, fA, fC, -, -, X', step⟩ := Xs.multianewarray2F (ty := .int) hx hown hcl hI.2.2.2.2.2.2.1 (hts _ w0_aI) (g := F0 m pc ls (.int kk :: .int n :: rest)) rfl (by rw [hb]; exact hdg) rfl hn0 hk0 (by omega) (by show _ * 4 ≤ _; omega) (by omega) rfl rfl hc1 hs1
  have hTh : (T.setVm vm₁).heap = H := hT
  obtain ⟨f1, f2, -, -⟩ := Jvm.Free.Multi.fill_facts (T.setVm vm₁) cA comp n.toNatClampNeg kk.toNatClampNeg (defaultValue .int) n.toNatClampNeg
  have f3 : ∀ x : Nat, x < H.size → (Jvm.Free.Multi.fill (T.setVm vm₁) cA comp n.toNatClampNeg kk.toNatClampNeg (defaultValue .int) n.toNatClampNeg).heap[x]? = H[x]? := fun x hx9 => by
    have h9 := Jvm.Free.Multi.fill_old (T.setVm vm₁) cA comp n.toNatClampNeg kk.toNatClampNeg (defaultValue .int) (a := x) (by rw [hTh]; exact hx9) n.toNatClampNeg
    rw [hTh] at h9
    exact h9
  have f4 : ∀ j : Nat, j < n.toNatClampNeg → (Jvm.Free.Multi.fill (T.setVm vm₁) cA comp n.toNatClampNeg kk.toNatClampNeg (defaultValue .int) n.toNatClampNeg).heap[H.size + 1 + j]? = some (Jvm.Free.Multi.innerC comp kk.toNatClampNeg (defaultValue .int)) := fun j hj => by
    have h9 := Jvm.Free.Multi.fill_inner (T.setVm vm₁) cA comp n.toNatClampNeg kk.toNatClampNeg (defaultValue .int) n.toNatClampNeg j hj
    rw [hTh] at h9
    exact h9
  rw [hTh] at f1 f2
  generalize hF : Jvm.Free.Multi.fill (T.setVm vm₁) cA comp n.toNatClampNeg kk.toNatClampNeg (defaultValue .int) n.toNatClampNeg = F at X' step f1 f2 f3 f4
  have hcA : cA = cy 8 := Option.some.inj (fA.symm.trans (hI.1.2 8 _ (gTy2_at cy (by decide))).2)
  have hco : comp = cy 1 := Option.some.inj (fC.symm.trans (hI.1.2 1 _ (gTy2_at cy (by decide))).2)
  subst hcA
  subst hco
  have hHs : H.size = B + M.length := by
    have h1 := hS.1
    rcases Nat.eq_zero_or_pos M.length with h0 | h0
    · have := hI.2.2.2.2.1
      omega
    · have hg : gNth M (M.length - 1) = some (M[M.length - 1]) := by rw [nth_eq, List.getElem?_eq_getElem (by omega)]
      have h2 : B + (M.length - 1) < H.size := (hP _ _ (wd_get hg)).lt
      omega
  rw [out_cell] at f2
  have hP1 : va_P (dC, dI) gCL (wd B sa cy (M ++ (.inl (8, .inr (.inr (gSeq n.toNatClampNeg (gLn M + 1)))) :: gRep n.toNatClampNeg (gZero 1 kk.toNatClampNeg)))) F.heap := by
    intro k9 q hq
    obtain ⟨hq1, hk9⟩ := wd_at hq
    rcases Nat.lt_trichotomy k9 M.length with h1 | h1 | h1
    · have hg : gNth M k9 = some (M[k9]) := by rw [nth_eq, List.getElem?_eq_getElem h1]
      have hw := wd_get (B := B) (sa := sa) (cy := cy) hg
      have hg2 : gNth (M ++ (.inl (8, .inr (.inr (gSeq n.toNatClampNeg (gLn M + 1)))) :: gRep n.toNatClampNeg (gZero 1 kk.toNatClampNeg))) k9 = some (M[k9]) := by rw [nth_eq, List.getElem?_append_left h1, List.getElem?_eq_getElem h1]
      have hw2 := wd_get (B := B) (sa := sa) (cy := cy) hg2
      rw [hq] at hw2
      cases hw2
      exact (hP _ _ hw).kept (f3 _ (hP _ _ hw).lt)
    · subst h1
      have hg2 : gNth (M ++ (.inl (8, .inr (.inr (gSeq n.toNatClampNeg (gLn M + 1)))) :: gRep n.toNatClampNeg (gZero 1 kk.toNatClampNeg))) M.length = some (.inl (8, .inr (.inr (gSeq n.toNatClampNeg (gLn M + 1))))) := by rw [nth_eq, List.getElem?_append_right (Nat.le_refl _)]; simp
      have hw2 := wd_get (B := B) (sa := sa) (cy := cy) hg2
      rw [hq] at hw2
      cases hw2
      show F.heap[B + M.length]? = some (vp_cell _ _)
      rw [← hHs, f2, vp_cell_q, seq_len]
      refine congrArg some (congrArg (arrV (cy 8) _) (funext fun j => ?_))
      rw [seq_nth, ln_eq]
      by_cases hj : j < n.toNatClampNeg
      · rw [if_pos hj, if_pos hj]
        show Value.ref (H.size + 1 + j) = Value.ref (B + (M.length + 1 + j))
        have e9 : H.size + 1 + j = B + (M.length + 1 + j) := by omega
        exact congrArg Value.ref e9
      · rw [if_neg hj, if_neg hj]
        rfl
    · have hl9 : k9 < M.length + (1 + n.toNatClampNeg) := by
        rw [List.length_append, List.length_cons, rep_len] at hk9
        omega
      have hg2 : gNth (M ++ (.inl (8, .inr (.inr (gSeq n.toNatClampNeg (gLn M + 1)))) :: gRep n.toNatClampNeg (gZero 1 kk.toNatClampNeg))) k9 = some (gZero 1 kk.toNatClampNeg) := by
        rw [nth_eq, List.getElem?_append_right (by omega), show k9 - M.length = (k9 - M.length - 1) + 1 by omega, List.getElem?_cons_succ, ← nth_eq, rep_nth, if_pos (by omega)]
      have hw2 := wd_get (B := B) (sa := sa) (cy := cy) hg2
      rw [hq] at hw2
      cases hw2
      show F.heap[B + k9]? = some (vp_cell _ _)
      have h9 := f4 (k9 - M.length - 1) (by omega)
      rw [show H.size + 1 + (k9 - M.length - 1) = B + k9 by omega] at h9
      rw [h9, rep_i, rep_len]
      show some (Jvm.Free.Multi.innerC (cy 1) kk.toNatClampNeg (defaultValue .int)) = some (arrV (cy 1) kk.toNatClampNeg (fun _ => Value.int 0))
      rw [← arrV_new]
      rfl
  have hS1 : va_S (fun q => B ≤ q) s.heap F.heap locs := ⟨by rw [f1]; have := hS.1; omega, fun x h1 h2 => (f3 x (Nat.lt_of_lt_of_le h1 hS.1)).trans (hS.2.1 x h1 h2), hS.2.2⟩
  have k9 := k F.heap hP1 hS1
  rw [ln_eq, ← hHs, show cells + (1 + n.toNatClampNeg) = cells + 1 + n.toNatClampNeg by omega, show slots + (n.toNatClampNeg + n.toNatClampNeg * kk.toNatClampNeg) = slots + n.toNatClampNeg + n.toNatClampNeg * kk.toNatClampNeg by omega] at k9
  obtain ⟨t, a1, b1⟩ := k9 F rfl X'
  refine ⟨t, step t ?_, b1⟩
  have e9 : T.heap.size = H.size := by rw [hT]
  rw [e9]
  exact a1
theorem va_AO.cls {t : Nat} (h4 : 4 ≤ t) (h7 : t ≤ 7) : gTyL t = .object (gElN t) := by
  rcases (show t = 4 ∨ t = 5 ∨ t = 6 ∨ t = 7 by omega) with rfl | rfl | rfl | rfl <;> rfl
theorem zero_q {t n : Nat} (h4 : 4 ≤ t) (h7 : t ≤ 7) : gZero t n = .inl (t, .inr (.inr (gRep n none))) := by
  rcases (show t = 4 ∨ t = 5 ∨ t = 6 ∨ t = 7 by omega) with rfl | rfl | rfl | rfl <;> rfl
set_option maxHeartbeats 4000000 in
theorem new_ok (hx : p.tables.exec = Jvm.exec) (hb : c.code = cc) {o : Nat} {own : String} (hoo : gNth ownR o = some own) (hown : s.vm.findClass own = some m.cls) (hts : ∀ w ∈ W0, w.before args s = true) (hI : Inv B sa cy dC dI SA s) {i : Instr} {M M' : Mem} {st st' : List Value} {c9 s9 : Nat} (hP : va_P (dC, dI) gCL (wd B sa cy M) H) (hS : va_S (fun q => B ≤ q) s.heap H locs) (hdg : decode cc pc = .ok (i, gLen i)) (h : gNew i o st M = some (st', M', c9, s9)) (hsz : s.heap.size + cells = B + M.length) (hcc : cells + c9 ≤ R.cells) (hss : slots + s9 ≤ R.slots)
    (k : Kn1 p l e R s m args below meth c locs B sa cy dC dI Q M' (cells + c9) (slots + s9) (F0 m (pc + gLen i) ls (st'.map (rV B sa)))) : W p l e R s m args below meth c H locs cells slots Q (F0 m pc ls (st.map (rV B sa))) := by
  have hK := hI.1
  have hD := wd_D B sa cy M
  have hA : ∀ q, s.heap.size ≤ q → B ≤ q := fun q h => Nat.le_trans hI.2.2.2.2.1 h
  cases i
  case new ix =>
    simp only [gNew] at h
    split at h
    · rename_i ci wi hr
      split at h
      · rename_i n9 hn9
        cases h
        have hc := own_in ckBs rfl hr
        simp only [ckB, hoo] at hc
        split at hc
        · rename_i own2 q n8 e1 e2 e3
          cases e1
          rw [hn9] at e3
          cases e3
          rw [Bool.and_eq_true] at hc
          have hnn := Nat.eq_of_beq_eq_true hc.2
          subst hnn
          have hty : ∃ ty, gNth gTys ci = some ty := by
            have h12 : ci < 12 := by
              have := gNth_lt _ _ _ hn9
              exact this
            match ci, h12 with
            | 0, _ => exact ⟨_, rfl⟩
            | 1, _ => exact ⟨_, rfl⟩
            | 2, _ => exact ⟨_, rfl⟩
            | 3, _ => exact ⟨_, rfl⟩
            | 4, _ => exact ⟨_, rfl⟩
            | 5, _ => exact ⟨_, rfl⟩
            | 6, _ => exact ⟨_, rfl⟩
            | 7, _ => exact ⟨_, rfl⟩
            | 8, _ => exact ⟨_, rfl⟩
            | 9, _ => exact ⟨_, rfl⟩
            | 10, _ => exact ⟨_, rfl⟩
            | 11, _ => exact ⟨_, rfl⟩
            | n + 12, h12 => omega
          obtain ⟨ty, hty⟩ := hty
          obtain ⟨t1, -, h12⟩ := ty_all e2 hty
          obtain ⟨i1, i2, i3⟩ := i2_ok e2 hty h12
          obtain ⟨C9, T9, N9⟩ := q
          have hcl : gCL[ci]? = some (C9, T9, N9) := by rw [← nth_eq]; exact e2
          have hdef : gDef ci = (List.range N9).map (fun k => gDv (ty k)) := by
            unfold gDef
            rw [hty, hn9]
          have hrv : ∀ t : FieldType, rV B sa (gDv t) = gDv t := fun t => by cases t <;> rfl
          have hmap : (gDef ci).map (rV B sa) = (List.range N9).map (fun k => gDv (ty k)) := by
            rw [hdef, List.map_map]
            exact List.map_congr_left (fun k _ => hrv _)
          refine va_new (ci := ci) (fs := (gDef ci).map (rV B sa)) (C := C9) (T := T9) (N := N9) hx hb hts (u_in e2 h12) ty t1 hown (hts _ (ckW_in hc.1)) (hts _ i1) (hts _ i2) hK hP hD hS hA hcl (fun j hj => ?_) hcc hss hdg (fun q H1 hP1 hD1 hS1 => ?_)
          · rw [hmap]
            unfold vp_V
            rw [List.getD_eq_getElem?_getD, List.getElem?_map, List.getElem?_range hj]
            exact (i3 j hj).symm
          · exact new1 (e0 := .inr (ci, gDef ci)) rfl hsz hP1 hD1 hS1 k
        · cases hc
      · cases h
    · cases h
  case newarray aty =>
    simp only [gNew] at h
    split at h
    · rename_i n r
      split at h
      · rename_i t ht
        cases hz : gSz n with
        | false => rw [hz] at h; cases h
        | true =>
          rw [hz] at h
          cases h
          exact newarr_ok hx hb hts hI ht hz hP hS hsz hcc hss hdg k
      · cases h
    · cases h
  case anewarray ix =>
    simp only [gNew] at h
    split at h
    · rename_i n r
      split at h
      · rename_i t wi hr
        cases hz : (gSz n && Nat.ble t 7) with
        | false => rw [hz] at h; cases h
        | true =>
          rw [hz] at h
          rw [Bool.and_eq_true] at hz
          have hc := own_in ckAs rfl hr
          obtain ⟨hn0, hnz⟩ := sz_ok hz.1
          have h7 : t ≤ 7 := Nat.le_of_ble_eq_true hz.2
          have ht8 : ¬ t = 8 := by omega
          simp only [ckA, hoo, ht8] at hc
          simp only [Bool.and_eq_true] at hc
          obtain ⟨⟨c1, c2⟩, c3⟩ := hc
          have h4 := Nat.le_of_ble_eq_true c2
          cases h
          refine va_newq hx hb hown (hts _ (ckW_in c1)) (hI.2.2.2.2.2.1 t h4 h7) hK hP hD hS hA hn0 rfl (by omega) hcc hss hdg (fun q cA H1 hK1 hP1 hD1 hS1 => ?_)
          obtain rfl := cy_eq (t := t) (by omega) (va_AO.cls h4 h7) hK hK1
          exact new1 (by rw [zero_q h4 h7]; unfold rE; simp only [rep_q, rep_len]) hsz hP1 hD1 hS1 k
      · cases h
    · cases h
  case multianewarray ix d9 =>
    simp only [gNew] at h
    split at h
    · rename_i kk n r
      split at h
      · rename_i t wi hr
        cases hz : (Nat.beq d9 2 && Nat.beq t 8 && gSz n && gSz kk) with
        | false => rw [hz] at h; cases h
        | true =>
          rw [hz] at h
          simp only [Bool.and_eq_true] at hz
          obtain ⟨⟨⟨z1, z2⟩, z3⟩, z4⟩ := hz
          obtain rfl := Nat.eq_of_beq_eq_true z1
          obtain rfl := Nat.eq_of_beq_eq_true z2
          cases h
          have hc := own_in ckAs rfl hr
          simp only [ckA, hoo] at hc
          exact mna_ok hx hb hown (hts _ (ckW_in hc)) hts hI z3 z4 hP hS hsz hcc hss hdg k
      · cases h
    · cases h
  all_goals (simp only [gNew] at h; cases h)
end SNC
