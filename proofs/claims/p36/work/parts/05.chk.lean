/-- the words of the tables that hold in every state later on -/
def W0 : List Cond := lw_tbl.filter goodWord
def gTb : List (List Cond) := [k2_sels lw_privs, tables_1_1, tables_1_2, tables_1_3, tables_1_4, tables_1_5, tables_1_6, tables_1_7, tables_1_8, tables_1_9]
theorem gNth_mem {α : Type} : ∀ (l : List α) (i : Nat) (v : α), gNth l i = some v → v ∈ l := by
  intro l
  induction l with
  | nil => intro i v h; cases h
  | cons x xs ih =>
    intro i v h
    cases i with
    | zero => cases h; exact List.mem_cons_self
    | succ i => exact List.mem_cons_of_mem _ (ih i v h)
theorem gTb_in : ∀ l ∈ gTb, ∀ w ∈ l, w ∈ lw_tbl := by
  have h : lw_tbl = k2_sels lw_privs ++ (tables_1_1 ++ (tables_1_2 ++ (tables_1_3 ++ (tables_1_4 ++ (tables_1_5 ++ (tables_1_6 ++ (tables_1_7 ++ (tables_1_8 ++ (tables_1_9))))))))) := rfl
  intro l hl w hw
  rw [h]
  simp only [List.mem_append]
  simp only [gTb, List.mem_cons, List.not_mem_nil, or_false] at hl
  rcases hl with rfl | rfl | rfl | rfl | rfl | rfl | rfl | rfl | rfl | rfl <;> simp [hw]
/-- the word at the place i of the tables (1000 times the number of the part, and the place in it) is w -/
noncomputable def ckW (i : Nat) (w : Cond) : Bool := (match gNth gTb (i / 1000) with
  | some l => (match gNth l (i % 1000) with
    | some v => decide (v = w)
    | none => false)
  | none => false) && goodWord w
theorem ckW_in {i : Nat} {w : Cond} (h : ckW i w = true) : w ∈ W0 := by
  rw [ckW, Bool.and_eq_true] at h
  obtain ⟨h1, h2⟩ := h
  cases hl : gNth gTb (i / 1000) with
  | none => rw [hl] at h1; cases h1
  | some l =>
    rw [hl] at h1
    dsimp only at h1
    cases hv : gNth l (i % 1000) with
    | none => rw [hv] at h1; cases h1
    | some v =>
      rw [hv] at h1
      dsimp only at h1
      obtain rfl := of_decide_eq_true h1
      exact List.mem_filter.mpr ⟨gTb_in l (gNth_mem _ _ _ hl) v (gNth_mem _ _ _ hv), h2⟩
theorem gNth_lt {α : Type} : ∀ (l : List α) (i : Nat) (v : α), gNth l i = some v → i < l.length := by
  intro l
  induction l with
  | nil => intro i v h; cases h
  | cons x xs ih =>
    intro i v h
    cases i with
    | zero => exact Nat.succ_pos _
    | succ i => exact Nat.succ_lt_succ (ih i v h)
/-- a method and the places of its words: its code, its class initialized, static or instance, selects -/
def mWs : List (Nat × Nat × Nat × Nat) := [(2048, 1008, 2047, 0), (4069, 1008, 4067, 4068), (4077, 1008, 4076, 20), (4107, 1008, 4105, 4106), (4124, 1008, 4122, 4123), (1107, 1004, 1106, 0), (3123, 1004, 3121, 3122), (3127, 1004, 3125, 3126), (4137, 1004, 4135, 4136), (3131, 1004, 3129, 3130), (4199, 1004, 4197, 4198), (5204, 1004, 5202, 5203), (3108, 1004, 3106, 3107), (5000, 1004, 4238, 4239), (2206, 1010, 2205, 0), (5015, 1010, 5013, 5014), (5086, 1010, 5084, 5085), (5024, 1010, 5022, 5023), (4216, 1010, 4214, 4215), (5058, 1010, 5056, 5057), (5062, 1010, 5061, 39), (5043, 1010, 5041, 5042), (5050, 1010, 5049, 38), (4223, 1010, 4222, 33), (4227, 1010, 4226, 34), (1056, 1003, 1055, 0), (3139, 1003, 3137, 3138), (3163, 1003, 3162, 5), (3144, 1003, 3143, 2), (3151, 1003, 3150, 3), (3156, 1003, 3155, 4), (3225, 1003, 3224, 8), (3173, 1003, 3172, 7), (3167, 1003, 3166, 6), (3229, 1003, 3228, 9), (3234, 1003, 3233, 10), (3239, 1003, 3238, 11), (4003, 1003, 4002, 12), (4007, 1003, 4006, 13), (4018, 1003, 4017, 15), (4014, 1003, 4013, 14), (2230, 1011, 2229, 0), (5147, 1011, 5145, 5146), (5152, 1011, 5150, 5151), (5158, 1011, 5157, 48), (5167, 1011, 5166, 50), (5171, 1011, 5170, 51), (5162, 1011, 5161, 49), (1037, 1002, 1036, 0), (3089, 1002, 3087, 3088), (2073, 1009, 2072, 0), (2078, 1009, 2076, 2077), (5070, 1009, 5068, 5069), (2042, 1007, 2041, 0), (4065, 1007, 4063, 4064), (4082, 1007, 4081, 21), (4147, 1007, 4145, 4146), (4181, 1007, 4179, 4180), (4087, 1007, 4085, 4086), (4091, 1007, 4090, 22), (4164, 1007, 4163, 31), (4168, 1007, 4167, 32), (4155, 1007, 4154, 29), (4176, 1007, 4174, 4175), (4159, 1007, 4158, 30), (5131, 1007, 5129, 5130), (4103, 1007, 4102, 23), (4112, 1007, 4111, 24), (4133, 1007, 4132, 27), (4143, 1007, 4142, 28), (4116, 1007, 4115, 25), (4120, 1007, 4119, 26), (1150, 1006, 1149, 0), (4099, 1006, 4097, 4098), (4151, 1006, 4149, 4150), (5011, 1006, 5009, 5010), (1116, 1005, 1115, 0), (5007, 1005, 5005, 5006), (4095, 1005, 4093, 4094), (1029, 1001, 1028, 0), (3085, 1001, 3083, 3084), (3093, 1001, 3091, 3092), (3097, 1001, 3095, 3096), (3101, 1001, 3100, 0), (3115, 1001, 3113, 3114), (3135, 1001, 3133, 3134), (4032, 1001, 4030, 4031), (4027, 1001, 4026, 16), (4036, 1001, 4034, 4035), (4040, 1001, 4038, 4039), (4053, 1001, 4051, 4052), (4061, 1001, 4059, 4060), (4172, 1001, 4170, 4171), (4185, 1001, 4183, 4184), (4190, 1001, 4188, 4189), (4195, 1001, 4193, 4194), (4204, 1001, 4202, 4203), (4208, 1001, 4206, 4207), (4212, 1001, 4210, 4211), (4232, 1001, 4230, 4231), (5035, 1001, 5033, 5034), (5039, 1001, 5038, 37), (5054, 1001, 5052, 5053), (5066, 1001, 5064, 5065), (5074, 1001, 5072, 5073), (5090, 1001, 5088, 5089), (5078, 1001, 5077, 40), (5082, 1001, 5081, 41), (5094, 1001, 5092, 5093), (5098, 1001, 5097, 42), (5102, 1001, 5101, 43), (5106, 1001, 5105, 44), (5110, 1001, 5109, 45), (5114, 1001, 5112, 5113), (5118, 1001, 5116, 5117), (5123, 1001, 5121, 5122), (5135, 1001, 5133, 5134), (5139, 1001, 5137, 5138), (5143, 1001, 5142, 47), (5176, 1001, 5174, 5175), (5180, 1001, 5178, 5179), (5184, 1001, 5183, 52), (5188, 1001, 5187, 53), (5192, 1001, 5190, 5191), (5196, 1001, 5194, 5195), (5200, 1001, 5198, 5199), (3104, 1001, 3103, 0), (3119, 1001, 3118, 1), (4048, 1001, 4047, 18), (4044, 1001, 4043, 17), (4057, 1001, 4056, 19), (6041, 1001, 6040, 55), (5127, 1001, 5126, 46), (4236, 1001, 4235, 35), (5020, 1001, 5019, 36), (8091, 1012, 8090, 111), (6045, 1012, 6043, 6044), (6050, 1012, 6048, 56), (6054, 1012, 6052, 6053), (7017, 1012, 7016, 57), (7020, 1012, 7019, 0), (7225, 1012, 7224, 0), (7024, 1012, 7023, 58), (6058, 1012, 6057, 0), (7040, 1012, 7039, 61), (7036, 1012, 7035, 60), (7048, 1012, 7047, 63), (7028, 1012, 7027, 59), (7044, 1012, 7043, 62), (8031, 1012, 8030, 101), (8019, 1012, 8018, 98), (8015, 1012, 8014, 97), (7193, 1012, 7192, 86), (8115, 1012, 8114, 113), (8131, 1012, 8130, 117), (7013, 1012, 7011, 7012), (7032, 1012, 7030, 7031), (7052, 1012, 7051, 64), (8079, 1012, 8078, 109), (7068, 1012, 7067, 67), (7071, 1012, 7070, 0), (7074, 1012, 7073, 0), (7064, 1012, 7063, 66), (7094, 1012, 7093, 70), (7121, 1012, 7120, 75), (7148, 1012, 7147, 79), (7173, 1012, 7172, 84), (7116, 1012, 7115, 74), (7082, 1012, 7081, 69), (7078, 1012, 7077, 68), (7102, 1012, 7101, 72), (7106, 1012, 7105, 73), (7098, 1012, 7097, 71), (7134, 1012, 7133, 78), (7156, 1012, 7155, 81), (7160, 1012, 7159, 82), (7163, 1012, 7162, 0), (7152, 1012, 7151, 80), (7167, 1012, 7166, 83), (7125, 1012, 7124, 76), (7129, 1012, 7128, 77), (7060, 1012, 7059, 65), (7177, 1012, 7176, 85), (7056, 1012, 7054, 7055), (7181, 1012, 7179, 7180), (7185, 1012, 7183, 7184), (8011, 1012, 8010, 96), (8007, 1012, 8006, 95), (8047, 1012, 8046, 105), (7202, 1012, 7201, 87), (7189, 1012, 7187, 7188), (7198, 1012, 7196, 7197), (7236, 1012, 7235, 0), (7239, 1012, 7238, 0), (7233, 1012, 7232, 93), (7222, 1012, 7221, 91), (7229, 1012, 7228, 92), (8027, 1012, 8026, 100), (8035, 1012, 8034, 102), (8039, 1012, 8038, 103), (8023, 1012, 8022, 99), (8003, 1012, 8002, 94), (7218, 1012, 7217, 90), (8043, 1012, 8042, 104), (7210, 1012, 7209, 88), (8051, 1012, 8050, 106), (7214, 1012, 7213, 89), (7206, 1012, 7204, 7205), (8059, 1012, 8058, 107), (8055, 1012, 8053, 8054), (8067, 1012, 8065, 8066), (8071, 1012, 8069, 8070), (8075, 1012, 8073, 8074), (8083, 1012, 8082, 110), (8087, 1012, 8085, 8086), (8095, 1012, 8093, 8094), (8063, 1012, 8062, 108), (8099, 1012, 8097, 8098), (8103, 1012, 8101, 8102), (8107, 1012, 8106, 112), (8119, 1012, 8118, 114), (8127, 1012, 8126, 116), (8123, 1012, 8122, 115), (8111, 1012, 8109, 8110), (8140, 1012, 8139, 118), (8135, 1012, 8133, 8134), (8144, 1012, 8143, 119), (8152, 1012, 8151, 120), (8148, 1012, 8146, 8147), (8156, 1012, 8154, 8155), (8164, 1012, 8163, 121), (8160, 1012, 8158, 8159), (8168, 1012, 8166, 8167), (8176, 1012, 8175, 122), (8180, 1012, 8179, 123), (8172, 1012, 8170, 8171), (8184, 1012, 8182, 8183), (8188, 1012, 8186, 8187), (8200, 1012, 8199, 125), (8196, 1012, 8195, 124), (8192, 1012, 8190, 8191), (8204, 1012, 8202, 8203), (8208, 1012, 8206, 8207), (8212, 1012, 8211, 126), (8216, 1012, 8214, 8215), (8220, 1012, 8218, 8219), (8224, 1012, 8222, 8223), (8228, 1012, 8226, 8227), (8232, 1012, 8230, 8231), (5028, 1024, 5027, 0), (0, 0, 0, 0)]
noncomputable def ckM (r : MR) (w : Nat × Nat × Nat × Nat) : Bool := match r with
  | (o, y, _, maxL, ret, np, kf, _) => ckW w.2.1 (.initialized y.cls) && decide (gNth ownR o = some y.cls) && decide (y.cls ≠ "java/lang/invoke/MethodHandle" ∧ y.cls ≠ "java/lang/invoke/VarHandle") && decide ((parseMethodDescriptor y.desc).map (fun d => d.parameters.length) = some np) && plainName y.cls && decide (maxL ≤ 20) && !Nat.beq o 12 && (match kf with
    | 0 => ckW w.2.2.1 (.static y)
    | 1 => ckW w.2.2.1 (.instanceMethod y) && ckW w.2.2.2 (.selects y.cls y y)
    | _ => ckW w.2.2.1 (.instanceMethod y) && decide (y.name = "<init>") && decide (ret = none) && Nat.beq kf 2) && (Nat.beq kf 2 || decide (y.name ≠ "<init>"))
def idLaw : Nat := 250
set_option maxRecDepth 100000 in
theorem ckMs_0 : ((List.range 21).all fun k => Nat.beq (0 + k) idLaw || (match gNth mRs (0 + k), gNth mWs (0 + k) with | some r, some w => ckM r w | _, _ => false)) = true := by decide +kernel
set_option maxRecDepth 100000 in
theorem ckMs_21 : ((List.range 21).all fun k => Nat.beq (21 + k) idLaw || (match gNth mRs (21 + k), gNth mWs (21 + k) with | some r, some w => ckM r w | _, _ => false)) = true := by decide +kernel
set_option maxRecDepth 100000 in
theorem ckMs_42 : ((List.range 21).all fun k => Nat.beq (42 + k) idLaw || (match gNth mRs (42 + k), gNth mWs (42 + k) with | some r, some w => ckM r w | _, _ => false)) = true := by decide +kernel
set_option maxRecDepth 100000 in
theorem ckMs_63 : ((List.range 21).all fun k => Nat.beq (63 + k) idLaw || (match gNth mRs (63 + k), gNth mWs (63 + k) with | some r, some w => ckM r w | _, _ => false)) = true := by decide +kernel
set_option maxRecDepth 100000 in
theorem ckMs_84 : ((List.range 21).all fun k => Nat.beq (84 + k) idLaw || (match gNth mRs (84 + k), gNth mWs (84 + k) with | some r, some w => ckM r w | _, _ => false)) = true := by decide +kernel
set_option maxRecDepth 100000 in
theorem ckMs_105 : ((List.range 21).all fun k => Nat.beq (105 + k) idLaw || (match gNth mRs (105 + k), gNth mWs (105 + k) with | some r, some w => ckM r w | _, _ => false)) = true := by decide +kernel
set_option maxRecDepth 100000 in
theorem ckMs_126 : ((List.range 21).all fun k => Nat.beq (126 + k) idLaw || (match gNth mRs (126 + k), gNth mWs (126 + k) with | some r, some w => ckM r w | _, _ => false)) = true := by decide +kernel
set_option maxRecDepth 100000 in
theorem ckMs_147 : ((List.range 21).all fun k => Nat.beq (147 + k) idLaw || (match gNth mRs (147 + k), gNth mWs (147 + k) with | some r, some w => ckM r w | _, _ => false)) = true := by decide +kernel
set_option maxRecDepth 100000 in
theorem ckMs_168 : ((List.range 21).all fun k => Nat.beq (168 + k) idLaw || (match gNth mRs (168 + k), gNth mWs (168 + k) with | some r, some w => ckM r w | _, _ => false)) = true := by decide +kernel
set_option maxRecDepth 100000 in
theorem ckMs_189 : ((List.range 21).all fun k => Nat.beq (189 + k) idLaw || (match gNth mRs (189 + k), gNth mWs (189 + k) with | some r, some w => ckM r w | _, _ => false)) = true := by decide +kernel
set_option maxRecDepth 100000 in
theorem ckMs_210 : ((List.range 21).all fun k => Nat.beq (210 + k) idLaw || (match gNth mRs (210 + k), gNth mWs (210 + k) with | some r, some w => ckM r w | _, _ => false)) = true := by decide +kernel
set_option maxRecDepth 100000 in
theorem ckMs_231 : ((List.range 20).all fun k => Nat.beq (231 + k) idLaw || (match gNth mRs (231 + k), gNth mWs (231 + k) with | some r, some w => ckM r w | _, _ => false)) = true := by decide +kernel
theorem ckMs {id : Nat} {r : MR} (h : gNth mRs id = some r) (hl : id ≠ idLaw) : ∃ w, ckM r w = true := by
  have hid : id < 251 := by
    have h1 : mRs.length = 251 := by decide +kernel
    have h2 := gNth_lt _ _ _ h
    omega
  have key : ∀ (a k : Nat), (Nat.beq (a + k) idLaw || (match gNth mRs (a + k), gNth mWs (a + k) with | some r, some w => ckM r w | _, _ => false)) = true → a + k = id → ∃ w, ckM r w = true := by
    intro a k hk e
    rw [e, h] at hk
    have hne : Nat.beq id idLaw = false := by
      cases hb : Nat.beq id idLaw with
      | false => rfl
      | true => exact absurd (Nat.eq_of_beq_eq_true hb) hl
    rw [hne, Bool.false_or] at hk
    cases hw : gNth mWs id with
    | none => rw [hw] at hk; cases hk
    | some w => rw [hw] at hk; exact ⟨w, hk⟩
  have go1 : ∀ (a n : Nat), ((List.range n).all fun k => Nat.beq (a + k) idLaw || (match gNth mRs (a + k), gNth mWs (a + k) with | some r, some w => ckM r w | _, _ => false)) = true → a ≤ id → id < a + n → ∃ w, ckM r w = true := by
    intro a n hall h1 h2
    exact key a (id - a) (List.all_eq_true.mp hall (id - a) (List.mem_range.mpr (by omega))) (by omega)
  by_cases h21 : id < 21
  · exact go1 0 21 ckMs_0 (by omega) (by omega)
  by_cases h42 : id < 42
  · exact go1 21 21 ckMs_21 (by omega) (by omega)
  by_cases h63 : id < 63
  · exact go1 42 21 ckMs_42 (by omega) (by omega)
  by_cases h84 : id < 84
  · exact go1 63 21 ckMs_63 (by omega) (by omega)
  by_cases h105 : id < 105
  · exact go1 84 21 ckMs_84 (by omega) (by omega)
  by_cases h126 : id < 126
  · exact go1 105 21 ckMs_105 (by omega) (by omega)
  by_cases h147 : id < 147
  · exact go1 126 21 ckMs_126 (by omega) (by omega)
  by_cases h168 : id < 168
  · exact go1 147 21 ckMs_147 (by omega) (by omega)
  by_cases h189 : id < 189
  · exact go1 168 21 ckMs_168 (by omega) (by omega)
  by_cases h210 : id < 210
  · exact go1 189 21 ckMs_189 (by omega) (by omega)
  by_cases h231 : id < 231
  · exact go1 210 21 ckMs_210 (by omega) (by omega)
  by_cases h251 : id < 251
  · exact go1 231 20 ckMs_231 (by omega) (by omega)
  omega
/-- the word of a method's code is one of the tables, but the law's own -/
def codeIn (r : MR) : Prop := r.1 = 12 ∨ Cond.code r.2.1 r.2.2.1 r.2.2.2.1 r.2.2.2.2.1 ∈ W0
theorem codeIn_of {r : MR} {l : List Cond} (hl : l ∈ gTb) {i : Nat} (h : gNth l i = some (Cond.code r.2.1 r.2.2.1 r.2.2.2.1 r.2.2.2.2.1)) : codeIn r := Or.inr (List.mem_filter.mpr ⟨gTb_in l hl _ (gNth_mem _ _ _ h), rfl⟩)
theorem gTb_0 : k2_sels lw_privs ∈ gTb := List.mem_cons_self
theorem gTb_1 : tables_1_1 ∈ gTb := List.mem_cons_of_mem _ (List.mem_cons_self)
theorem gTb_2 : tables_1_2 ∈ gTb := List.mem_cons_of_mem _ (List.mem_cons_of_mem _ (List.mem_cons_self))
theorem gTb_3 : tables_1_3 ∈ gTb := List.mem_cons_of_mem _ (List.mem_cons_of_mem _ (List.mem_cons_of_mem _ (List.mem_cons_self)))
theorem gTb_4 : tables_1_4 ∈ gTb := List.mem_cons_of_mem _ (List.mem_cons_of_mem _ (List.mem_cons_of_mem _ (List.mem_cons_of_mem _ (List.mem_cons_self))))
theorem gTb_5 : tables_1_5 ∈ gTb := List.mem_cons_of_mem _ (List.mem_cons_of_mem _ (List.mem_cons_of_mem _ (List.mem_cons_of_mem _ (List.mem_cons_of_mem _ (List.mem_cons_self)))))
theorem gTb_6 : tables_1_6 ∈ gTb := List.mem_cons_of_mem _ (List.mem_cons_of_mem _ (List.mem_cons_of_mem _ (List.mem_cons_of_mem _ (List.mem_cons_of_mem _ (List.mem_cons_of_mem _ (List.mem_cons_self))))))
theorem gTb_7 : tables_1_7 ∈ gTb := List.mem_cons_of_mem _ (List.mem_cons_of_mem _ (List.mem_cons_of_mem _ (List.mem_cons_of_mem _ (List.mem_cons_of_mem _ (List.mem_cons_of_mem _ (List.mem_cons_of_mem _ (List.mem_cons_self)))))))
theorem gTb_8 : tables_1_8 ∈ gTb := List.mem_cons_of_mem _ (List.mem_cons_of_mem _ (List.mem_cons_of_mem _ (List.mem_cons_of_mem _ (List.mem_cons_of_mem _ (List.mem_cons_of_mem _ (List.mem_cons_of_mem _ (List.mem_cons_of_mem _ (List.mem_cons_self))))))))
theorem gTb_9 : tables_1_9 ∈ gTb := List.mem_cons_of_mem _ (List.mem_cons_of_mem _ (List.mem_cons_of_mem _ (List.mem_cons_of_mem _ (List.mem_cons_of_mem _ (List.mem_cons_of_mem _ (List.mem_cons_of_mem _ (List.mem_cons_of_mem _ (List.mem_cons_of_mem _ (List.mem_cons_self)))))))))
set_option maxRecDepth 100000 in
theorem ckI_0 : codeIn ((0, yX0_init, cX0_init, 1, none, 0, 2, mT0) : MR) := codeIn_of gTb_2 (i := 48) rfl
set_option maxRecDepth 100000 in
theorem ckI_1 : codeIn ((0, yX0_shape, cX0_shape, 5, none, 2, 1, mT1) : MR) := codeIn_of gTb_4 (i := 69) rfl
set_option maxRecDepth 100000 in
theorem ckI_2 : codeIn ((0, yX0_at, cX0_at, 3, (some .int), 2, 1, mT2) : MR) := codeIn_of gTb_4 (i := 77) rfl
set_option maxRecDepth 100000 in
theorem ckI_3 : codeIn ((0, yX0_wayTo, cX0_wayTo, 4, (some .int), 2, 1, mT3) : MR) := codeIn_of gTb_4 (i := 107) rfl
set_option maxRecDepth 100000 in
theorem ckI_4 : codeIn ((0, yX0_distance, cX0_distance, 5, (some .int), 2, 1, mT4) : MR) := codeIn_of gTb_4 (i := 124) rfl
set_option maxRecDepth 100000 in
theorem ckI_5 : codeIn ((1, yX1_init, cX1_init, 2, none, 0, 2, mT5) : MR) := codeIn_of gTb_1 (i := 107) rfl
set_option maxRecDepth 100000 in
theorem ckI_6 : codeIn ((1, yX1_cells, cX1_cells, 1, (some .int), 0, 1, mT6) : MR) := codeIn_of gTb_3 (i := 123) rfl
set_option maxRecDepth 100000 in
theorem ckI_7 : codeIn ((1, yX1_open, cX1_open, 2, (some .boolean), 1, 1, mT7) : MR) := codeIn_of gTb_3 (i := 127) rfl
set_option maxRecDepth 100000 in
theorem ckI_8 : codeIn ((1, yX1_green, cX1_green, 2, (some .boolean), 1, 1, mT8) : MR) := codeIn_of gTb_4 (i := 137) rfl
set_option maxRecDepth 100000 in
theorem ckI_9 : codeIn ((1, yX1_hasDoor, cX1_hasDoor, 3, (some .boolean), 1, 1, mT9) : MR) := codeIn_of gTb_3 (i := 131) rfl
set_option maxRecDepth 100000 in
theorem ckI_10 : codeIn ((1, yX1_setKind, cX1_setKind, 3, none, 2, 1, mT10) : MR) := codeIn_of gTb_4 (i := 199) rfl
set_option maxRecDepth 100000 in
theorem ckI_11 : codeIn ((1, yX1_wishesThatAre, cX1_wishesThatAre, 3, (some .int), 0, 1, mT11) : MR) := codeIn_of gTb_5 (i := 204) rfl
set_option maxRecDepth 100000 in
theorem ckI_12 : codeIn ((1, yX1_renew, cX1_renew, 6, none, 3, 1, mT12) : MR) := codeIn_of gTb_3 (i := 108) rfl
set_option maxRecDepth 100000 in
theorem ckI_13 : codeIn ((1, yX1_copy, cX1_copy, 3, none, 1, 1, mT13) : MR) := codeIn_of gTb_5 (i := 0) rfl
set_option maxRecDepth 100000 in
theorem ckI_14 : codeIn ((2, yX2_init, cX2_init, 2, none, 1, 2, mT14) : MR) := codeIn_of gTb_2 (i := 206) rfl
set_option maxRecDepth 100000 in
theorem ckI_15 : codeIn ((2, yX2_keep, cX2_keep, 3, none, 1, 1, mT15) : MR) := codeIn_of gTb_5 (i := 15) rfl
set_option maxRecDepth 100000 in
theorem ckI_16 : codeIn ((2, yX2_size, cX2_size, 4, (some .int), 1, 1, mT16) : MR) := codeIn_of gTb_5 (i := 86) rfl
set_option maxRecDepth 100000 in
theorem ckI_17 : codeIn ((2, yX2_alone, cX2_alone, 5, (some .int), 2, 1, mT17) : MR) := codeIn_of gTb_5 (i := 24) rfl
set_option maxRecDepth 100000 in
theorem ckI_18 : codeIn ((2, yX2_parts, cX2_parts, 4, (some .int), 0, 1, mT18) : MR) := codeIn_of gTb_4 (i := 216) rfl
set_option maxRecDepth 100000 in
theorem ckI_19 : codeIn ((2, yX2_hundredths, cX2_hundredths, 7, (some .int), 2, 1, mT19) : MR) := codeIn_of gTb_5 (i := 58) rfl
set_option maxRecDepth 100000 in
theorem ckI_20 : codeIn ((2, yX2_shortest, cX2_shortest, 3, (some .int), 2, 1, mT20) : MR) := codeIn_of gTb_5 (i := 62) rfl
set_option maxRecDepth 100000 in
theorem ckI_21 : codeIn ((2, yX2_leastCost, cX2_leastCost, 7, (some .int), 2, 1, mT21) : MR) := codeIn_of gTb_5 (i := 43) rfl
set_option maxRecDepth 100000 in
theorem ckI_22 : codeIn ((2, yX2_meet, cX2_meet, 6, none, 2, 1, mT22) : MR) := codeIn_of gTb_5 (i := 50) rfl
set_option maxRecDepth 100000 in
theorem ckI_23 : codeIn ((2, yX2_spread, cX2_spread, 8, none, 3, 1, mT23) : MR) := codeIn_of gTb_4 (i := 223) rfl
set_option maxRecDepth 100000 in
theorem ckI_24 : codeIn ((2, yX2_cheaper, cX2_cheaper, 9, (some .boolean), 4, 1, mT24) : MR) := codeIn_of gTb_4 (i := 227) rfl
set_option maxRecDepth 100000 in
theorem ckI_25 : codeIn ((3, yX3_init, cX3_init, 2, none, 1, 2, mT25) : MR) := codeIn_of gTb_1 (i := 56) rfl
set_option maxRecDepth 100000 in
theorem ckI_26 : codeIn ((3, yX3_readText, cX3_readText, 4, (some .boolean), 2, 1, mT26) : MR) := codeIn_of gTb_3 (i := 139) rfl
set_option maxRecDepth 100000 in
theorem ckI_27 : codeIn ((3, yX3_fail, cX3_fail, 2, (some .boolean), 1, 1, mT27) : MR) := codeIn_of gTb_3 (i := 163) rfl
set_option maxRecDepth 100000 in
theorem ckI_28 : codeIn ((3, yX3_findTokens, cX3_findTokens, 5, none, 0, 1, mT28) : MR) := codeIn_of gTb_3 (i := 144) rfl
set_option maxRecDepth 100000 in
theorem ckI_29 : codeIn ((3, yX3_tokenAt, cX3_tokenAt, 7, (some .int), 1, 1, mT29) : MR) := codeIn_of gTb_3 (i := 151) rfl
set_option maxRecDepth 100000 in
theorem ckI_30 : codeIn ((3, yX3_signAt, cX3_signAt, 4, (some .int), 1, 1, mT30) : MR) := codeIn_of gTb_3 (i := 156) rfl
set_option maxRecDepth 100000 in
theorem ckI_31 : codeIn ((3, yX3_goOn, cX3_goOn, 1, none, 0, 1, mT31) : MR) := codeIn_of gTb_3 (i := 225) rfl
set_option maxRecDepth 100000 in
theorem ckI_32 : codeIn ((3, yX3_among, cX3_among, 8, (some .int), 1, 1, mT32) : MR) := codeIn_of gTb_3 (i := 173) rfl
set_option maxRecDepth 100000 in
theorem ckI_33 : codeIn ((3, yX3_line, cX3_line, 7, (some .boolean), 0, 1, mT33) : MR) := codeIn_of gTb_3 (i := 167) rfl
set_option maxRecDepth 100000 in
theorem ckI_34 : codeIn ((3, yX3_weighed, cX3_weighed, 3, (some .boolean), 1, 1, mT34) : MR) := codeIn_of gTb_3 (i := 229) rfl
set_option maxRecDepth 100000 in
theorem ckI_35 : codeIn ((3, yX3_numbered, cX3_numbered, 6, (some .boolean), 2, 1, mT35) : MR) := codeIn_of gTb_3 (i := 234) rfl
set_option maxRecDepth 100000 in
theorem ckI_36 : codeIn ((3, yX3_cond, cX3_cond, 3, (some .boolean), 1, 1, mT36) : MR) := codeIn_of gTb_3 (i := 239) rfl
set_option maxRecDepth 100000 in
theorem ckI_37 : codeIn ((3, yX3_all, cX3_all, 3, (some .boolean), 1, 1, mT37) : MR) := codeIn_of gTb_4 (i := 3) rfl
set_option maxRecDepth 100000 in
theorem ckI_38 : codeIn ((3, yX3_one, cX3_one, 4, (some .boolean), 1, 1, mT38) : MR) := codeIn_of gTb_4 (i := 7) rfl
set_option maxRecDepth 100000 in
theorem ckI_39 : codeIn ((3, yX3_comparison, cX3_comparison, 4, (some .boolean), 1, 1, mT39) : MR) := codeIn_of gTb_4 (i := 18) rfl
set_option maxRecDepth 100000 in
theorem ckI_40 : codeIn ((3, yX3_emit, cX3_emit, 4, none, 3, 1, mT40) : MR) := codeIn_of gTb_4 (i := 14) rfl
set_option maxRecDepth 100000 in
theorem ckI_41 : codeIn ((4, yX4_init, cX4_init, 1, none, 0, 2, mT41) : MR) := codeIn_of gTb_2 (i := 230) rfl
set_option maxRecDepth 100000 in
theorem ckI_42 : codeIn ((4, yX4_setWay, cX4_setWay, 5, none, 3, 1, mT42) : MR) := codeIn_of gTb_5 (i := 147) rfl
set_option maxRecDepth 100000 in
theorem ckI_43 : codeIn ((4, yX4_tellings, cX4_tellings, 3, (some .int), 1, 1, mT43) : MR) := codeIn_of gTb_5 (i := 152) rfl
set_option maxRecDepth 100000 in
theorem ckI_44 : codeIn ((4, yX4_tell, cX4_tell, 5, (some .int), 1, 1, mT44) : MR) := codeIn_of gTb_5 (i := 158) rfl
set_option maxRecDepth 100000 in
theorem ckI_45 : codeIn ((4, yX4_mayEnd, cX4_mayEnd, 4, (some .boolean), 1, 1, mT45) : MR) := codeIn_of gTb_5 (i := 167) rfl
set_option maxRecDepth 100000 in
theorem ckI_46 : codeIn ((4, yX4_take, cX4_take, 6, (some .boolean), 2, 1, mT46) : MR) := codeIn_of gTb_5 (i := 171) rfl
set_option maxRecDepth 100000 in
theorem ckI_47 : codeIn ((4, yX4_note, cX4_note, 2, (some .int), 0, 1, mT47) : MR) := codeIn_of gTb_5 (i := 162) rfl
set_option maxRecDepth 100000 in
theorem ckI_48 : codeIn ((5, yX5_init, cX5_init, 1, none, 0, 2, mT48) : MR) := codeIn_of gTb_1 (i := 37) rfl
set_option maxRecDepth 100000 in
theorem ckI_49 : codeIn ((5, yX5_put, cX5_put, 2, none, 1, 1, mT49) : MR) := codeIn_of gTb_3 (i := 89) rfl
set_option maxRecDepth 100000 in
theorem ckI_50 : codeIn ((6, yX6_init, cX6_init, 1, none, 0, 2, mT50) : MR) := codeIn_of gTb_2 (i := 73) rfl
set_option maxRecDepth 100000 in
theorem ckI_51 : codeIn ((6, yX6_clear, cX6_clear, 1, none, 0, 1, mT51) : MR) := codeIn_of gTb_2 (i := 78) rfl
set_option maxRecDepth 100000 in
theorem ckI_52 : codeIn ((6, yX6_firstLineWeighed, cX6_firstLineWeighed, 2, (some .int), 0, 1, mT52) : MR) := codeIn_of gTb_5 (i := 70) rfl
set_option maxRecDepth 100000 in
theorem ckI_53 : codeIn ((7, yX7_init, cX7_init, 3, none, 1, 2, mT53) : MR) := codeIn_of gTb_2 (i := 42) rfl
set_option maxRecDepth 100000 in
theorem ckI_54 : codeIn ((7, yX7_enter, cX7_enter, 2, none, 1, 1, mT54) : MR) := codeIn_of gTb_4 (i := 65) rfl
set_option maxRecDepth 100000 in
theorem ckI_55 : codeIn ((7, yX7_forget, cX7_forget, 1, none, 0, 1, mT55) : MR) := codeIn_of gTb_4 (i := 82) rfl
set_option maxRecDepth 100000 in
theorem ckI_56 : codeIn ((7, yX7_worn, cX7_worn, 2, (some .boolean), 1, 1, mT56) : MR) := codeIn_of gTb_4 (i := 147) rfl
set_option maxRecDepth 100000 in
theorem ckI_57 : codeIn ((7, yX7_wornCells, cX7_wornCells, 3, (some .int), 0, 1, mT57) : MR) := codeIn_of gTb_4 (i := 181) rfl
set_option maxRecDepth 100000 in
theorem ckI_58 : codeIn ((7, yX7_go, cX7_go, 9, (some .int), 1, 1, mT58) : MR) := codeIn_of gTb_4 (i := 87) rfl
set_option maxRecDepth 100000 in
theorem ckI_59 : codeIn ((7, yX7_begin, cX7_begin, 4, none, 0, 1, mT59) : MR) := codeIn_of gTb_4 (i := 91) rfl
set_option maxRecDepth 100000 in
theorem ckI_60 : codeIn ((7, yX7_leaveIfDone, cX7_leaveIfDone, 4, none, 2, 1, mT60) : MR) := codeIn_of gTb_4 (i := 164) rfl
set_option maxRecDepth 100000 in
theorem ckI_61 : codeIn ((7, yX7_sweep, cX7_sweep, 4, none, 0, 1, mT61) : MR) := codeIn_of gTb_4 (i := 168) rfl
set_option maxRecDepth 100000 in
theorem ckI_62 : codeIn ((7, yX7_tread, cX7_tread, 3, none, 1, 1, mT62) : MR) := codeIn_of gTb_4 (i := 155) rfl
set_option maxRecDepth 100000 in
theorem ckI_63 : codeIn ((7, yX7_endWeek, cX7_endWeek, 3, none, 0, 1, mT63) : MR) := codeIn_of gTb_4 (i := 176) rfl
set_option maxRecDepth 100000 in
theorem ckI_64 : codeIn ((7, yX7_firstNumber, cX7_firstNumber, 5, (some .int), 3, 1, mT64) : MR) := codeIn_of gTb_4 (i := 159) rfl
set_option maxRecDepth 100000 in
theorem ckI_65 : codeIn ((7, yX7_arrives, cX7_arrives, 8, (some .boolean), 4, 1, mT65) : MR) := codeIn_of gTb_5 (i := 131) rfl
set_option maxRecDepth 100000 in
theorem ckI_66 : codeIn ((7, yX7_choose, cX7_choose, 10, (some .int), 3, 1, mT66) : MR) := codeIn_of gTb_4 (i := 103) rfl
set_option maxRecDepth 100000 in
theorem ckI_67 : codeIn ((7, yX7_look, cX7_look, 6, none, 3, 1, mT67) : MR) := codeIn_of gTb_4 (i := 112) rfl
set_option maxRecDepth 100000 in
theorem ckI_68 : codeIn ((7, yX7_weigh, cX7_weigh, 7, (some .int), 4, 1, mT68) : MR) := codeIn_of gTb_4 (i := 133) rfl
set_option maxRecDepth 100000 in
theorem ckI_69 : codeIn ((7, yX7_wornAhead, cX7_wornAhead, 7, (some .int), 3, 1, mT69) : MR) := codeIn_of gTb_4 (i := 143) rfl
set_option maxRecDepth 100000 in
theorem ckI_70 : codeIn ((7, yX7_holds, cX7_holds, 9, (some .boolean), 3, 1, mT70) : MR) := codeIn_of gTb_4 (i := 116) rfl
set_option maxRecDepth 100000 in
theorem ckI_71 : codeIn ((7, yX7_asked, cX7_asked, 3, (some .int), 2, 1, mT71) : MR) := codeIn_of gTb_4 (i := 120) rfl
set_option maxRecDepth 100000 in
theorem ckI_72 : codeIn ((8, yX8_init, cX8_init, 1, none, 0, 2, mT72) : MR) := codeIn_of gTb_1 (i := 150) rfl
set_option maxRecDepth 100000 in
theorem ckI_73 : codeIn ((8, yX8_begin, cX8_begin, 3, none, 2, 1, mT73) : MR) := codeIn_of gTb_4 (i := 99) rfl
set_option maxRecDepth 100000 in
theorem ckI_74 : codeIn ((8, yX8_step, cX8_step, 3, none, 2, 1, mT74) : MR) := codeIn_of gTb_4 (i := 151) rfl
set_option maxRecDepth 100000 in
theorem ckI_75 : codeIn ((8, yX8_copy, cX8_copy, 2, none, 1, 1, mT75) : MR) := codeIn_of gTb_5 (i := 11) rfl
set_option maxRecDepth 100000 in
theorem ckI_76 : codeIn ((9, yX9_init, cX9_init, 1, none, 0, 2, mT76) : MR) := codeIn_of gTb_1 (i := 116) rfl
set_option maxRecDepth 100000 in
theorem ckI_77 : codeIn ((9, yX9_copy, cX9_copy, 2, none, 1, 1, mT77) : MR) := codeIn_of gTb_5 (i := 7) rfl
set_option maxRecDepth 100000 in
theorem ckI_78 : codeIn ((9, yX9_due, cX9_due, 2, (some .boolean), 1, 1, mT78) : MR) := codeIn_of gTb_4 (i := 95) rfl
set_option maxRecDepth 100000 in
theorem ckI_79 : codeIn ((10, yX10_init, cX10_init, 2, none, 0, 2, mT79) : MR) := codeIn_of gTb_1 (i := 29) rfl
set_option maxRecDepth 100000 in
theorem ckI_80 : codeIn ((10, yX10_feed, cX10_feed, 6, (some .int), 5, 1, mT80) : MR) := codeIn_of gTb_3 (i := 85) rfl
set_option maxRecDepth 100000 in
theorem ckI_81 : codeIn ((10, yX10_end, cX10_end, 2, (some .boolean), 1, 1, mT81) : MR) := codeIn_of gTb_3 (i := 93) rfl
set_option maxRecDepth 100000 in
theorem ckI_82 : codeIn ((10, yX10_park, cX10_park, 4, (some .boolean), 2, 1, mT82) : MR) := codeIn_of gTb_3 (i := 97) rfl
set_option maxRecDepth 100000 in
theorem ckI_83 : codeIn ((10, yX10_tapeTellsPark, cX10_tapeTellsPark, 4, (some .boolean), 2, 1, mT83) : MR) := codeIn_of gTb_3 (i := 101) rfl
set_option maxRecDepth 100000 in
theorem ckI_84 : codeIn ((10, yX10_door, cX10_door, 2, (some .int), 1, 1, mT84) : MR) := codeIn_of gTb_3 (i := 115) rfl
set_option maxRecDepth 100000 in
theorem ckI_85 : codeIn ((10, yX10_law, cX10_law, 3, (some .int), 0, 1, mT85) : MR) := codeIn_of gTb_3 (i := 135) rfl
set_option maxRecDepth 100000 in
theorem ckI_86 : codeIn ((10, yX10_habit, cX10_habit, 4, (some .int), 1, 1, mT86) : MR) := codeIn_of gTb_4 (i := 32) rfl
set_option maxRecDepth 100000 in
theorem ckI_87 : codeIn ((10, yX10_readingEnds, cX10_readingEnds, 3, (some .int), 2, 1, mT87) : MR) := codeIn_of gTb_4 (i := 27) rfl
set_option maxRecDepth 100000 in
theorem ckI_88 : codeIn ((10, yX10_fault, cX10_fault, 1, (some .int), 0, 1, mT88) : MR) := codeIn_of gTb_4 (i := 36) rfl
set_option maxRecDepth 100000 in
theorem ckI_89 : codeIn ((10, yX10_wish, cX10_wish, 7, (some .int), 5, 1, mT89) : MR) := codeIn_of gTb_4 (i := 40) rfl
set_option maxRecDepth 100000 in
theorem ckI_90 : codeIn ((10, yX10_drop, cX10_drop, 2, (some .boolean), 1, 1, mT90) : MR) := codeIn_of gTb_4 (i := 53) rfl
set_option maxRecDepth 100000 in
theorem ckI_91 : codeIn ((10, yX10_run, cX10_run, 2, (some .int), 1, 1, mT91) : MR) := codeIn_of gTb_4 (i := 61) rfl
set_option maxRecDepth 100000 in
theorem ckI_92 : codeIn ((10, yX10_week, cX10_week, 1, (some .int), 0, 1, mT92) : MR) := codeIn_of gTb_4 (i := 172) rfl
set_option maxRecDepth 100000 in
theorem ckI_93 : codeIn ((10, yX10_rain, cX10_rain, 4, (some .boolean), 1, 1, mT93) : MR) := codeIn_of gTb_4 (i := 185) rfl
set_option maxRecDepth 100000 in
theorem ckI_94 : codeIn ((10, yX10_snow, cX10_snow, 1, none, 0, 1, mT94) : MR) := codeIn_of gTb_4 (i := 190) rfl
set_option maxRecDepth 100000 in
theorem ckI_95 : codeIn ((10, yX10_lay, cX10_lay, 3, (some .boolean), 2, 1, mT95) : MR) := codeIn_of gTb_4 (i := 195) rfl
set_option maxRecDepth 100000 in
theorem ckI_96 : codeIn ((10, yX10_walker, cX10_walker, 4, (some .int), 2, 1, mT96) : MR) := codeIn_of gTb_4 (i := 204) rfl
set_option maxRecDepth 100000 in
theorem ckI_97 : codeIn ((10, yX10_net, cX10_net, 1, (some .int), 0, 1, mT97) : MR) := codeIn_of gTb_4 (i := 208) rfl
set_option maxRecDepth 100000 in
theorem ckI_98 : codeIn ((10, yX10_pieces, cX10_pieces, 1, (some .int), 0, 1, mT98) : MR) := codeIn_of gTb_4 (i := 212) rfl
set_option maxRecDepth 100000 in
theorem ckI_99 : codeIn ((10, yX10_rests, cX10_rests, 4, (some .int), 2, 1, mT99) : MR) := codeIn_of gTb_4 (i := 232) rfl
set_option maxRecDepth 100000 in
theorem ckI_100 : codeIn ((10, yX10_least, cX10_least, 2, (some .int), 0, 1, mT100) : MR) := codeIn_of gTb_5 (i := 35) rfl
set_option maxRecDepth 100000 in
theorem ckI_101 : codeIn ((10, yX10_leastOfTape, cX10_leastOfTape, 5, (some .int), 0, 1, mT101) : MR) := codeIn_of gTb_5 (i := 39) rfl
set_option maxRecDepth 100000 in
theorem ckI_102 : codeIn ((10, yX10_longer, cX10_longer, 3, (some .int), 2, 1, mT102) : MR) := codeIn_of gTb_5 (i := 54) rfl
set_option maxRecDepth 100000 in
theorem ckI_103 : codeIn ((10, yX10_turns, cX10_turns, 11, (some .int), 4, 1, mT103) : MR) := codeIn_of gTb_5 (i := 66) rfl
set_option maxRecDepth 100000 in
theorem ckI_104 : codeIn ((10, yX10_paved, cX10_paved, 5, (some .int), 4, 1, mT104) : MR) := codeIn_of gTb_5 (i := 74) rfl
set_option maxRecDepth 100000 in
theorem ckI_105 : codeIn ((10, yX10_wait, cX10_wait, 7, (some .int), 2, 1, mT105) : MR) := codeIn_of gTb_5 (i := 90) rfl
set_option maxRecDepth 100000 in
theorem ckI_106 : codeIn ((10, yX10_pavingTold, cX10_pavingTold, 3, (some .boolean), 2, 1, mT106) : MR) := codeIn_of gTb_5 (i := 78) rfl
set_option maxRecDepth 100000 in
theorem ckI_107 : codeIn ((10, yX10_keepWeeks, cX10_keepWeeks, 4, none, 2, 1, mT107) : MR) := codeIn_of gTb_5 (i := 82) rfl
set_option maxRecDepth 100000 in
theorem ckI_108 : codeIn ((10, yX10_fences, cX10_fences, 4, (some .int), 2, 1, mT108) : MR) := codeIn_of gTb_5 (i := 94) rfl
set_option maxRecDepth 100000 in
theorem ckI_109 : codeIn ((10, yX10_fencesTold, cX10_fencesTold, 5, (some .boolean), 2, 1, mT109) : MR) := codeIn_of gTb_5 (i := 98) rfl
set_option maxRecDepth 100000 in
theorem ckI_110 : codeIn ((10, yX10_fewestFences, cX10_fewestFences, 5, (some .int), 2, 1, mT110) : MR) := codeIn_of gTb_5 (i := 102) rfl
set_option maxRecDepth 100000 in
theorem ckI_111 : codeIn ((10, yX10_nobodySteps, cX10_nobodySteps, 5, (some .boolean), 4, 1, mT111) : MR) := codeIn_of gTb_5 (i := 106) rfl
set_option maxRecDepth 100000 in
theorem ckI_112 : codeIn ((10, yX10_setFences, cX10_setFences, 4, (some .int), 3, 1, mT112) : MR) := codeIn_of gTb_5 (i := 110) rfl
set_option maxRecDepth 100000 in
theorem ckI_113 : codeIn ((10, yX10_fenceAt, cX10_fenceAt, 2, (some .int), 1, 1, mT113) : MR) := codeIn_of gTb_5 (i := 114) rfl
set_option maxRecDepth 100000 in
theorem ckI_114 : codeIn ((10, yX10_lasts, cX10_lasts, 6, (some .int), 4, 1, mT114) : MR) := codeIn_of gTb_5 (i := 118) rfl
set_option maxRecDepth 100000 in
theorem ckI_115 : codeIn ((10, yX10_way, cX10_way, 5, (some .int), 3, 1, mT115) : MR) := codeIn_of gTb_5 (i := 123) rfl
set_option maxRecDepth 100000 in
theorem ckI_116 : codeIn ((10, yX10_wayAt, cX10_wayAt, 2, (some .int), 1, 1, mT116) : MR) := codeIn_of gTb_5 (i := 135) rfl
set_option maxRecDepth 100000 in
theorem ckI_117 : codeIn ((10, yX10_read, cX10_read, 2, (some .int), 0, 1, mT117) : MR) := codeIn_of gTb_5 (i := 139) rfl
set_option maxRecDepth 100000 in
theorem ckI_118 : codeIn ((10, yX10_tellWays, cX10_tellWays, 6, (some .boolean), 0, 1, mT118) : MR) := codeIn_of gTb_5 (i := 143) rfl
set_option maxRecDepth 100000 in
theorem ckI_119 : codeIn ((10, yX10_reads, cX10_reads, 3, (some .int), 2, 1, mT119) : MR) := codeIn_of gTb_5 (i := 176) rfl
set_option maxRecDepth 100000 in
theorem ckI_120 : codeIn ((10, yX10_fits, cX10_fits, 4, (some .int), 2, 1, mT120) : MR) := codeIn_of gTb_5 (i := 180) rfl
set_option maxRecDepth 100000 in
theorem ckI_121 : codeIn ((10, yX10_fitting, cX10_fitting, 5, (some .int), 2, 1, mT121) : MR) := codeIn_of gTb_5 (i := 184) rfl
set_option maxRecDepth 100000 in
theorem ckI_122 : codeIn ((10, yX10_tapeTellsTrail, cX10_tapeTellsTrail, 2, (some .boolean), 0, 1, mT122) : MR) := codeIn_of gTb_5 (i := 188) rfl
set_option maxRecDepth 100000 in
theorem ckI_123 : codeIn ((10, yX10_image, cX10_image, 2, (some .boolean), 1, 1, mT123) : MR) := codeIn_of gTb_5 (i := 192) rfl
set_option maxRecDepth 100000 in
theorem ckI_124 : codeIn ((10, yX10_restore, cX10_restore, 2, (some .boolean), 1, 1, mT124) : MR) := codeIn_of gTb_5 (i := 196) rfl
set_option maxRecDepth 100000 in
theorem ckI_125 : codeIn ((10, yX10_count, cX10_count, 2, (some .int), 1, 1, mT125) : MR) := codeIn_of gTb_5 (i := 200) rfl
set_option maxRecDepth 100000 in
theorem ckI_126 : codeIn ((10, yX10_within, cX10_within, 3, (some .boolean), 3, 0, mT126) : MR) := codeIn_of gTb_3 (i := 104) rfl
set_option maxRecDepth 100000 in
theorem ckI_127 : codeIn ((10, yX10_isCell, cX10_isCell, 2, (some .boolean), 1, 1, mT127) : MR) := codeIn_of gTb_3 (i := 119) rfl
set_option maxRecDepth 100000 in
theorem ckI_128 : codeIn ((10, yX10_isDoor, cX10_isDoor, 2, (some .boolean), 1, 1, mT128) : MR) := codeIn_of gTb_4 (i := 48) rfl
set_option maxRecDepth 100000 in
theorem ckI_129 : codeIn ((10, yX10_twoDoors, cX10_twoDoors, 3, (some .boolean), 2, 1, mT129) : MR) := codeIn_of gTb_4 (i := 44) rfl
set_option maxRecDepth 100000 in
theorem ckI_130 : codeIn ((10, yX10_isWish, cX10_isWish, 2, (some .boolean), 1, 1, mT130) : MR) := codeIn_of gTb_4 (i := 57) rfl
set_option maxRecDepth 100000 in
theorem ckI_131 : codeIn ((10, yX10_isWorn, cX10_isWorn, 2, (some .boolean), 1, 1, mT131) : MR) := codeIn_of gTb_6 (i := 41) rfl
set_option maxRecDepth 100000 in
theorem ckI_132 : codeIn ((10, yX10_wayTold, cX10_wayTold, 4, (some .boolean), 3, 1, mT132) : MR) := codeIn_of gTb_5 (i := 127) rfl
set_option maxRecDepth 100000 in
theorem ckI_133 : codeIn ((10, yX10_openCase, cX10_openCase, 1, none, 0, 1, mT133) : MR) := codeIn_of gTb_4 (i := 236) rfl
set_option maxRecDepth 100000 in
theorem ckI_134 : codeIn ((10, yX10_oneWeek, cX10_oneWeek, 2, none, 1, 1, mT134) : MR) := codeIn_of gTb_5 (i := 20) rfl
set_option maxRecDepth 100000 in
theorem ckI_135 : codeIn ((11, yX11_throwsIf, cX11_throwsIf, 2, (some .boolean), 1, 1, mT135) : MR) := codeIn_of gTb_8 (i := 91) rfl
set_option maxRecDepth 100000 in
theorem ckI_136 : codeIn ((11, yX11_feed, cX11_feed, 6, (some .int), 5, 1, mT136) : MR) := codeIn_of gTb_6 (i := 45) rfl
set_option maxRecDepth 100000 in
theorem ckI_137 : codeIn ((11, yX11_four, cX11_four, 3, none, 1, 1, mT137) : MR) := codeIn_of gTb_6 (i := 50) rfl
set_option maxRecDepth 100000 in
theorem ckI_138 : codeIn ((11, yX11_end, cX11_end, 2, (some .boolean), 1, 1, mT138) : MR) := codeIn_of gTb_6 (i := 54) rfl
set_option maxRecDepth 100000 in
theorem ckI_139 : codeIn ((11, yX11_taken, cX11_taken, 1, none, 0, 1, mT139) : MR) := codeIn_of gTb_7 (i := 17) rfl
set_option maxRecDepth 100000 in
theorem ckI_140 : codeIn ((11, yX11_isIn, cX11_isIn, 3, (some .boolean), 3, 0, mT140) : MR) := codeIn_of gTb_7 (i := 20) rfl
set_option maxRecDepth 100000 in
theorem ckI_141 : codeIn ((11, yX11_plain, cX11_plain, 1, (some .int), 1, 0, mT141) : MR) := codeIn_of gTb_7 (i := 225) rfl
set_option maxRecDepth 100000 in
theorem ckI_142 : codeIn ((11, yX11_octet, cX11_octet, 2, (some .int), 1, 1, mT142) : MR) := codeIn_of gTb_7 (i := 24) rfl
set_option maxRecDepth 100000 in
theorem ckI_143 : codeIn ((11, yX11_init, cX11_init, 1, none, 0, 2, mT143) : MR) := codeIn_of gTb_6 (i := 58) rfl
set_option maxRecDepth 100000 in
theorem ckI_144 : codeIn ((11, yX11_cells, cX11_cells, 1, (some .int), 0, 1, mT144) : MR) := codeIn_of gTb_7 (i := 40) rfl
set_option maxRecDepth 100000 in
theorem ckI_145 : codeIn ((11, yX11_isCell, cX11_isCell, 2, (some .boolean), 1, 1, mT145) : MR) := codeIn_of gTb_7 (i := 36) rfl
set_option maxRecDepth 100000 in
theorem ckI_146 : codeIn ((11, yX11_of, cX11_of, 3, (some .int), 2, 1, mT146) : MR) := codeIn_of gTb_7 (i := 48) rfl
set_option maxRecDepth 100000 in
theorem ckI_147 : codeIn ((11, yX11_set, cX11_set, 4, none, 3, 1, mT147) : MR) := codeIn_of gTb_7 (i := 28) rfl
set_option maxRecDepth 100000 in
theorem ckI_148 : codeIn ((11, yX11_bears, cX11_bears, 2, (some .boolean), 1, 1, mT148) : MR) := codeIn_of gTb_7 (i := 44) rfl
set_option maxRecDepth 100000 in
theorem ckI_149 : codeIn ((11, yX11_isGreen, cX11_isGreen, 2, (some .boolean), 1, 1, mT149) : MR) := codeIn_of gTb_8 (i := 31) rfl
set_option maxRecDepth 100000 in
theorem ckI_150 : codeIn ((11, yX11_isWorn, cX11_isWorn, 2, (some .boolean), 1, 1, mT150) : MR) := codeIn_of gTb_8 (i := 19) rfl
set_option maxRecDepth 100000 in
theorem ckI_151 : codeIn ((11, yX11_isMuddy, cX11_isMuddy, 2, (some .boolean), 1, 1, mT151) : MR) := codeIn_of gTb_8 (i := 15) rfl
set_option maxRecDepth 100000 in
theorem ckI_152 : codeIn ((11, yX11_isDoor, cX11_isDoor, 2, (some .boolean), 1, 1, mT152) : MR) := codeIn_of gTb_7 (i := 193) rfl
set_option maxRecDepth 100000 in
theorem ckI_153 : codeIn ((11, yX11_layAside, cX11_layAside, 2, none, 0, 1, mT153) : MR) := codeIn_of gTb_8 (i := 115) rfl
set_option maxRecDepth 100000 in
theorem ckI_154 : codeIn ((11, yX11_layBack, cX11_layBack, 2, none, 0, 1, mT154) : MR) := codeIn_of gTb_8 (i := 131) rfl
set_option maxRecDepth 100000 in
theorem ckI_155 : codeIn ((11, yX11_park, cX11_park, 4, (some .boolean), 2, 1, mT155) : MR) := codeIn_of gTb_7 (i := 13) rfl
set_option maxRecDepth 100000 in
theorem ckI_156 : codeIn ((11, yX11_door, cX11_door, 2, (some .int), 1, 1, mT156) : MR) := codeIn_of gTb_7 (i := 32) rfl
set_option maxRecDepth 100000 in
theorem ckI_157 : codeIn ((11, yX11_isDoorAt, cX11_isDoorAt, 3, (some .boolean), 1, 1, mT157) : MR) := codeIn_of gTb_7 (i := 52) rfl
set_option maxRecDepth 100000 in
theorem ckI_158 : codeIn ((11, yX11_isWalkerAt, cX11_isWalkerAt, 3, (some .boolean), 1, 1, mT158) : MR) := codeIn_of gTb_8 (i := 79) rfl
set_option maxRecDepth 100000 in
theorem ckI_159 : codeIn ((11, yX11_peek, cX11_peek, 1, (some .int), 0, 1, mT159) : MR) := codeIn_of gTb_7 (i := 68) rfl
set_option maxRecDepth 100000 in
theorem ckI_160 : codeIn ((11, yX11_isSmall, cX11_isSmall, 1, (some .boolean), 1, 0, mT160) : MR) := codeIn_of gTb_7 (i := 71) rfl
set_option maxRecDepth 100000 in
theorem ckI_161 : codeIn ((11, yX11_isDigit, cX11_isDigit, 1, (some .boolean), 1, 0, mT161) : MR) := codeIn_of gTb_7 (i := 74) rfl
set_option maxRecDepth 100000 in
theorem ckI_162 : codeIn ((11, yX11_next, cX11_next, 4, none, 0, 1, mT162) : MR) := codeIn_of gTb_7 (i := 64) rfl
set_option maxRecDepth 100000 in
theorem ckI_163 : codeIn ((11, yX11_bad, cX11_bad, 2, (some .boolean), 1, 1, mT163) : MR) := codeIn_of gTb_7 (i := 94) rfl
set_option maxRecDepth 100000 in
theorem ckI_164 : codeIn ((11, yX11_isWord, cX11_isWord, 3, (some .boolean), 1, 1, mT164) : MR) := codeIn_of gTb_7 (i := 121) rfl
set_option maxRecDepth 100000 in
theorem ckI_165 : codeIn ((11, yX11_isSign, cX11_isSign, 2, (some .boolean), 1, 1, mT165) : MR) := codeIn_of gTb_7 (i := 148) rfl
set_option maxRecDepth 100000 in
theorem ckI_166 : codeIn ((11, yX11_sign, cX11_sign, 2, (some .boolean), 1, 1, mT166) : MR) := codeIn_of gTb_7 (i := 173) rfl
set_option maxRecDepth 100000 in
theorem ckI_167 : codeIn ((11, yX11_takes, cX11_takes, 3, (some .boolean), 2, 1, mT167) : MR) := codeIn_of gTb_7 (i := 116) rfl
set_option maxRecDepth 100000 in
theorem ckI_168 : codeIn ((11, yX11_lineOf, cX11_lineOf, 2, (some .int), 1, 1, mT168) : MR) := codeIn_of gTb_7 (i := 82) rfl
set_option maxRecDepth 100000 in
theorem ckI_169 : codeIn ((11, yX11_read, cX11_read, 5, (some .boolean), 1, 1, mT169) : MR) := codeIn_of gTb_7 (i := 78) rfl
set_option maxRecDepth 100000 in
theorem ckI_170 : codeIn ((11, yX11_line, cX11_line, 4, (some .boolean), 2, 1, mT170) : MR) := codeIn_of gTb_7 (i := 102) rfl
set_option maxRecDepth 100000 in
theorem ckI_171 : codeIn ((11, yX11_measure, cX11_measure, 1, (some .int), 0, 1, mT171) : MR) := codeIn_of gTb_7 (i := 106) rfl
set_option maxRecDepth 100000 in
theorem ckI_172 : codeIn ((11, yX11_find, cX11_find, 4, (some .int), 2, 1, mT172) : MR) := codeIn_of gTb_7 (i := 98) rfl
set_option maxRecDepth 100000 in
theorem ckI_173 : codeIn ((11, yX11_atom, cX11_atom, 1, (some .int), 0, 1, mT173) : MR) := codeIn_of gTb_7 (i := 134) rfl
set_option maxRecDepth 100000 in
theorem ckI_174 : codeIn ((11, yX11_write, cX11_write, 4, none, 3, 1, mT174) : MR) := codeIn_of gTb_7 (i := 156) rfl
set_option maxRecDepth 100000 in
theorem ckI_175 : codeIn ((11, yX11_writeDown, cX11_writeDown, 2, none, 1, 1, mT175) : MR) := codeIn_of gTb_7 (i := 160) rfl
set_option maxRecDepth 100000 in
theorem ckI_176 : codeIn ((11, yX11_binds, cX11_binds, 1, (some .int), 1, 0, mT176) : MR) := codeIn_of gTb_7 (i := 163) rfl
set_option maxRecDepth 100000 in
theorem ckI_177 : codeIn ((11, yX11_open, cX11_open, 3, (some .int), 0, 1, mT177) : MR) := codeIn_of gTb_7 (i := 152) rfl
set_option maxRecDepth 100000 in
theorem ckI_178 : codeIn ((11, yX11_isOpen, cX11_isOpen, 2, (some .boolean), 0, 1, mT178) : MR) := codeIn_of gTb_7 (i := 167) rfl
set_option maxRecDepth 100000 in
theorem ckI_179 : codeIn ((11, yX11_cond, cX11_cond, 2, (some .boolean), 0, 1, mT179) : MR) := codeIn_of gTb_7 (i := 125) rfl
set_option maxRecDepth 100000 in
theorem ckI_180 : codeIn ((11, yX11_one, cX11_one, 4, (some .boolean), 0, 1, mT180) : MR) := codeIn_of gTb_7 (i := 129) rfl
set_option maxRecDepth 100000 in
theorem ckI_181 : codeIn ((11, yX11_text, cX11_text, 6, (some .int), 2, 1, mT181) : MR) := codeIn_of gTb_7 (i := 60) rfl
set_option maxRecDepth 100000 in
theorem ckI_182 : codeIn ((11, yX11_told, cX11_told, 4, (some .int), 2, 1, mT182) : MR) := codeIn_of gTb_7 (i := 177) rfl
set_option maxRecDepth 100000 in
theorem ckI_183 : codeIn ((11, yX11_law, cX11_law, 2, (some .int), 0, 1, mT183) : MR) := codeIn_of gTb_7 (i := 56) rfl
set_option maxRecDepth 100000 in
theorem ckI_184 : codeIn ((11, yX11_habit, cX11_habit, 2, (some .int), 1, 1, mT184) : MR) := codeIn_of gTb_7 (i := 181) rfl
set_option maxRecDepth 100000 in
theorem ckI_185 : codeIn ((11, yX11_fault, cX11_fault, 1, (some .int), 0, 1, mT185) : MR) := codeIn_of gTb_7 (i := 185) rfl
set_option maxRecDepth 100000 in
theorem ckI_186 : codeIn ((11, yX11_is, cX11_is, 3, (some .boolean), 2, 1, mT186) : MR) := codeIn_of gTb_8 (i := 11) rfl
set_option maxRecDepth 100000 in
theorem ckI_187 : codeIn ((11, yX11_holds, cX11_holds, 8, (some .boolean), 2, 1, mT187) : MR) := codeIn_of gTb_8 (i := 7) rfl
set_option maxRecDepth 100000 in
theorem ckI_188 : codeIn ((11, yX11_first, cX11_first, 5, (some .int), 3, 1, mT188) : MR) := codeIn_of gTb_8 (i := 47) rfl
set_option maxRecDepth 100000 in
theorem ckI_189 : codeIn ((11, yX11_isWish, cX11_isWish, 2, (some .boolean), 1, 1, mT189) : MR) := codeIn_of gTb_7 (i := 202) rfl
set_option maxRecDepth 100000 in
theorem ckI_190 : codeIn ((11, yX11_wish, cX11_wish, 7, (some .int), 5, 1, mT190) : MR) := codeIn_of gTb_7 (i := 189) rfl
set_option maxRecDepth 100000 in
theorem ckI_191 : codeIn ((11, yX11_drop, cX11_drop, 2, (some .boolean), 1, 1, mT191) : MR) := codeIn_of gTb_7 (i := 198) rfl
set_option maxRecDepth 100000 in
theorem ckI_192 : codeIn ((11, yX11_east, cX11_east, 1, (some .int), 1, 0, mT192) : MR) := codeIn_of gTb_7 (i := 236) rfl
set_option maxRecDepth 100000 in
theorem ckI_193 : codeIn ((11, yX11_south, cX11_south, 1, (some .int), 1, 0, mT193) : MR) := codeIn_of gTb_7 (i := 239) rfl
set_option maxRecDepth 100000 in
theorem ckI_194 : codeIn ((11, yX11_beside, cX11_beside, 5, (some .int), 2, 1, mT194) : MR) := codeIn_of gTb_7 (i := 233) rfl
set_option maxRecDepth 100000 in
theorem ckI_195 : codeIn ((11, yX11_across, cX11_across, 3, (some .int), 2, 1, mT195) : MR) := codeIn_of gTb_7 (i := 222) rfl
set_option maxRecDepth 100000 in
theorem ckI_196 : codeIn ((11, yX11_along, cX11_along, 3, (some .int), 2, 1, mT196) : MR) := codeIn_of gTb_7 (i := 229) rfl
set_option maxRecDepth 100000 in
theorem ckI_197 : codeIn ((11, yX11_measured, cX11_measured, 4, (some .int), 3, 1, mT197) : MR) := codeIn_of gTb_8 (i := 27) rfl
set_option maxRecDepth 100000 in
theorem ckI_198 : codeIn ((11, yX11_crowd, cX11_crowd, 4, (some .int), 1, 1, mT198) : MR) := codeIn_of gTb_8 (i := 35) rfl
set_option maxRecDepth 100000 in
theorem ckI_199 : codeIn ((11, yX11_sees, cX11_sees, 7, (some .int), 2, 1, mT199) : MR) := codeIn_of gTb_8 (i := 39) rfl
set_option maxRecDepth 100000 in
theorem ckI_200 : codeIn ((11, yX11_weight, cX11_weight, 8, (some .int), 2, 1, mT200) : MR) := codeIn_of gTb_8 (i := 23) rfl
set_option maxRecDepth 100000 in
theorem ckI_201 : codeIn ((11, yX11_mayNot, cX11_mayNot, 3, (some .boolean), 1, 1, mT201) : MR) := codeIn_of gTb_8 (i := 3) rfl
set_option maxRecDepth 100000 in
theorem ckI_202 : codeIn ((11, yX11_choose, cX11_choose, 6, (some .int), 0, 1, mT202) : MR) := codeIn_of gTb_7 (i := 218) rfl
set_option maxRecDepth 100000 in
theorem ckI_203 : codeIn ((11, yX11_tread, cX11_tread, 3, none, 1, 1, mT203) : MR) := codeIn_of gTb_8 (i := 43) rfl
set_option maxRecDepth 100000 in
theorem ckI_204 : codeIn ((11, yX11_tick, cX11_tick, 4, none, 0, 1, mT204) : MR) := codeIn_of gTb_7 (i := 210) rfl
set_option maxRecDepth 100000 in
theorem ckI_205 : codeIn ((11, yX11_leave, cX11_leave, 3, none, 1, 1, mT205) : MR) := codeIn_of gTb_8 (i := 51) rfl
set_option maxRecDepth 100000 in
theorem ckI_206 : codeIn ((11, yX11_goes, cX11_goes, 4, (some .boolean), 1, 1, mT206) : MR) := codeIn_of gTb_7 (i := 214) rfl
set_option maxRecDepth 100000 in
theorem ckI_207 : codeIn ((11, yX11_run, cX11_run, 3, (some .int), 1, 1, mT207) : MR) := codeIn_of gTb_7 (i := 206) rfl
set_option maxRecDepth 100000 in
theorem ckI_208 : codeIn ((11, yX11_endWeek, cX11_endWeek, 4, none, 0, 1, mT208) : MR) := codeIn_of gTb_8 (i := 59) rfl
set_option maxRecDepth 100000 in
theorem ckI_209 : codeIn ((11, yX11_week, cX11_week, 1, (some .int), 0, 1, mT209) : MR) := codeIn_of gTb_8 (i := 55) rfl
set_option maxRecDepth 100000 in
theorem ckI_210 : codeIn ((11, yX11_rain, cX11_rain, 3, (some .boolean), 1, 1, mT210) : MR) := codeIn_of gTb_8 (i := 67) rfl
set_option maxRecDepth 100000 in
theorem ckI_211 : codeIn ((11, yX11_snow, cX11_snow, 2, none, 0, 1, mT211) : MR) := codeIn_of gTb_8 (i := 71) rfl
set_option maxRecDepth 100000 in
theorem ckI_212 : codeIn ((11, yX11_lay, cX11_lay, 3, (some .boolean), 2, 1, mT212) : MR) := codeIn_of gTb_8 (i := 75) rfl
set_option maxRecDepth 100000 in
theorem ckI_213 : codeIn ((11, yX11_put, cX11_put, 3, none, 2, 1, mT213) : MR) := codeIn_of gTb_8 (i := 83) rfl
set_option maxRecDepth 100000 in
theorem ckI_214 : codeIn ((11, yX11_cell, cX11_cell, 3, (some .int), 2, 1, mT214) : MR) := codeIn_of gTb_8 (i := 87) rfl
set_option maxRecDepth 100000 in
theorem ckI_215 : codeIn ((11, yX11_walker, cX11_walker, 3, (some .int), 2, 1, mT215) : MR) := codeIn_of gTb_8 (i := 95) rfl
set_option maxRecDepth 100000 in
theorem ckI_216 : codeIn ((11, yX11_wornMany, cX11_wornMany, 3, (some .int), 0, 1, mT216) : MR) := codeIn_of gTb_8 (i := 63) rfl
set_option maxRecDepth 100000 in
theorem ckI_217 : codeIn ((11, yX11_net, cX11_net, 1, (some .int), 0, 1, mT217) : MR) := codeIn_of gTb_8 (i := 99) rfl
set_option maxRecDepth 100000 in
theorem ckI_218 : codeIn ((11, yX11_pieces, cX11_pieces, 3, (some .int), 0, 1, mT218) : MR) := codeIn_of gTb_8 (i := 103) rfl
set_option maxRecDepth 100000 in
theorem ckI_219 : codeIn ((11, yX11_spread, cX11_spread, 4, none, 0, 1, mT219) : MR) := codeIn_of gTb_8 (i := 107) rfl
set_option maxRecDepth 100000 in
theorem ckI_220 : codeIn ((11, yX11_note, cX11_note, 3, none, 1, 1, mT220) : MR) := codeIn_of gTb_8 (i := 119) rfl
set_option maxRecDepth 100000 in
theorem ckI_221 : codeIn ((11, yX11_isNoted, cX11_isNoted, 3, (some .boolean), 1, 1, mT221) : MR) := codeIn_of gTb_8 (i := 127) rfl
set_option maxRecDepth 100000 in
theorem ckI_222 : codeIn ((11, yX11_go, cX11_go, 3, none, 1, 1, mT222) : MR) := codeIn_of gTb_8 (i := 123) rfl
set_option maxRecDepth 100000 in
theorem ckI_223 : codeIn ((11, yX11_rests, cX11_rests, 5, (some .int), 2, 1, mT223) : MR) := codeIn_of gTb_8 (i := 111) rfl
set_option maxRecDepth 100000 in
theorem ckI_224 : codeIn ((11, yX11_price, cX11_price, 2, (some .int), 1, 1, mT224) : MR) := codeIn_of gTb_8 (i := 140) rfl
set_option maxRecDepth 100000 in
theorem ckI_225 : codeIn ((11, yX11_least, cX11_least, 8, (some .int), 0, 1, mT225) : MR) := codeIn_of gTb_8 (i := 135) rfl
set_option maxRecDepth 100000 in
theorem ckI_226 : codeIn ((11, yX11_widen, cX11_widen, 7, none, 2, 1, mT226) : MR) := codeIn_of gTb_8 (i := 144) rfl
set_option maxRecDepth 100000 in
theorem ckI_227 : codeIn ((11, yX11_shortest, cX11_shortest, 9, (some .int), 3, 1, mT227) : MR) := codeIn_of gTb_8 (i := 152) rfl
set_option maxRecDepth 100000 in
theorem ckI_228 : codeIn ((11, yX11_longer, cX11_longer, 5, (some .int), 2, 1, mT228) : MR) := codeIn_of gTb_8 (i := 148) rfl
set_option maxRecDepth 100000 in
theorem ckI_229 : codeIn ((11, yX11_turns, cX11_turns, 10, (some .int), 4, 1, mT229) : MR) := codeIn_of gTb_8 (i := 156) rfl
set_option maxRecDepth 100000 in
theorem ckI_230 : codeIn ((11, yX11_pave, cX11_pave, 5, none, 3, 1, mT230) : MR) := codeIn_of gTb_8 (i := 164) rfl
set_option maxRecDepth 100000 in
theorem ckI_231 : codeIn ((11, yX11_paved, cX11_paved, 5, (some .int), 4, 1, mT231) : MR) := codeIn_of gTb_8 (i := 160) rfl
set_option maxRecDepth 100000 in
theorem ckI_232 : codeIn ((11, yX11_wait, cX11_wait, 7, (some .int), 2, 1, mT232) : MR) := codeIn_of gTb_8 (i := 168) rfl
set_option maxRecDepth 100000 in
theorem ckI_233 : codeIn ((11, yX11_isTrod, cX11_isTrod, 5, (some .boolean), 3, 1, mT233) : MR) := codeIn_of gTb_8 (i := 176) rfl
set_option maxRecDepth 100000 in
theorem ckI_234 : codeIn ((11, yX11_keep, cX11_keep, 4, (some .int), 3, 1, mT234) : MR) := codeIn_of gTb_8 (i := 180) rfl
set_option maxRecDepth 100000 in
theorem ckI_235 : codeIn ((11, yX11_fences, cX11_fences, 6, (some .int), 2, 1, mT235) : MR) := codeIn_of gTb_8 (i := 172) rfl
set_option maxRecDepth 100000 in
theorem ckI_236 : codeIn ((11, yX11_fenceAt, cX11_fenceAt, 2, (some .int), 1, 1, mT236) : MR) := codeIn_of gTb_8 (i := 184) rfl
set_option maxRecDepth 100000 in
theorem ckI_237 : codeIn ((11, yX11_lasts, cX11_lasts, 7, (some .int), 4, 1, mT237) : MR) := codeIn_of gTb_8 (i := 188) rfl
set_option maxRecDepth 100000 in
theorem ckI_238 : codeIn ((11, yX11_walk, cX11_walk, 6, (some .int), 3, 1, mT238) : MR) := codeIn_of gTb_8 (i := 200) rfl
set_option maxRecDepth 100000 in
theorem ckI_239 : codeIn ((11, yX11_isWay, cX11_isWay, 4, (some .boolean), 3, 1, mT239) : MR) := codeIn_of gTb_8 (i := 196) rfl
set_option maxRecDepth 100000 in
theorem ckI_240 : codeIn ((11, yX11_way, cX11_way, 6, (some .int), 3, 1, mT240) : MR) := codeIn_of gTb_8 (i := 192) rfl
set_option maxRecDepth 100000 in
theorem ckI_241 : codeIn ((11, yX11_wayAt, cX11_wayAt, 2, (some .int), 1, 1, mT241) : MR) := codeIn_of gTb_8 (i := 204) rfl
set_option maxRecDepth 100000 in
theorem ckI_242 : codeIn ((11, yX11_read_, cX11_read_, 7, (some .int), 0, 1, mT242) : MR) := codeIn_of gTb_8 (i := 208) rfl
set_option maxRecDepth 100000 in
theorem ckI_243 : codeIn ((11, yX11_isSnow, cX11_isSnow, 5, (some .boolean), 1, 1, mT243) : MR) := codeIn_of gTb_8 (i := 212) rfl
set_option maxRecDepth 100000 in
theorem ckI_244 : codeIn ((11, yX11_reads, cX11_reads, 3, (some .int), 2, 1, mT244) : MR) := codeIn_of gTb_8 (i := 216) rfl
set_option maxRecDepth 100000 in
theorem ckI_245 : codeIn ((11, yX11_fits, cX11_fits, 7, (some .int), 2, 1, mT245) : MR) := codeIn_of gTb_8 (i := 220) rfl
set_option maxRecDepth 100000 in
theorem ckI_246 : codeIn ((11, yX11_image, cX11_image, 3, (some .boolean), 1, 1, mT246) : MR) := codeIn_of gTb_8 (i := 224) rfl
set_option maxRecDepth 100000 in
theorem ckI_247 : codeIn ((11, yX11_restore, cX11_restore, 3, (some .boolean), 1, 1, mT247) : MR) := codeIn_of gTb_8 (i := 228) rfl
set_option maxRecDepth 100000 in
theorem ckI_248 : codeIn ((11, yX11_count, cX11_count, 4, (some .int), 1, 1, mT248) : MR) := codeIn_of gTb_8 (i := 232) rfl
set_option maxRecDepth 100000 in
theorem ckI_249 : codeIn ((13, yJ13_bitCount_95d88, cJ13_bitCount_95d88, 2, (some .int), 1, 0, mT249) : MR) := codeIn_of gTb_5 (i := 28) rfl
theorem ckI_250 : codeIn ((12, yL_law, cL_law, 7, (some .boolean), 1, 0, mT250) : MR) := Or.inl rfl
theorem ckIr_0 : ∀ r ∈ mR_0, codeIn r := by
  refine List.forall_mem_cons.mpr ⟨ckI_0, ?_⟩
  refine List.forall_mem_cons.mpr ⟨ckI_1, ?_⟩
  refine List.forall_mem_cons.mpr ⟨ckI_2, ?_⟩
  refine List.forall_mem_cons.mpr ⟨ckI_3, ?_⟩
  refine List.forall_mem_cons.mpr ⟨ckI_4, ?_⟩
  refine List.forall_mem_cons.mpr ⟨ckI_5, ?_⟩
  refine List.forall_mem_cons.mpr ⟨ckI_6, ?_⟩
  refine List.forall_mem_cons.mpr ⟨ckI_7, ?_⟩
  refine List.forall_mem_cons.mpr ⟨ckI_8, ?_⟩
  refine List.forall_mem_cons.mpr ⟨ckI_9, ?_⟩
  refine List.forall_mem_cons.mpr ⟨ckI_10, ?_⟩
  refine List.forall_mem_cons.mpr ⟨ckI_11, ?_⟩
  refine List.forall_mem_cons.mpr ⟨ckI_12, ?_⟩
  refine List.forall_mem_cons.mpr ⟨ckI_13, ?_⟩
  refine List.forall_mem_cons.mpr ⟨ckI_14, ?_⟩
  refine List.forall_mem_cons.mpr ⟨ckI_15, ?_⟩
  refine List.forall_mem_cons.mpr ⟨ckI_16, ?_⟩
  refine List.forall_mem_cons.mpr ⟨ckI_17, ?_⟩
  refine List.forall_mem_cons.mpr ⟨ckI_18, ?_⟩
  refine List.forall_mem_cons.mpr ⟨ckI_19, ?_⟩
  refine List.forall_mem_cons.mpr ⟨ckI_20, ?_⟩
  refine List.forall_mem_cons.mpr ⟨ckI_21, ?_⟩
  refine List.forall_mem_cons.mpr ⟨ckI_22, ?_⟩
  refine List.forall_mem_cons.mpr ⟨ckI_23, ?_⟩
  refine List.forall_mem_cons.mpr ⟨ckI_24, ?_⟩
  refine List.forall_mem_cons.mpr ⟨ckI_25, ?_⟩
  refine List.forall_mem_cons.mpr ⟨ckI_26, ?_⟩
  refine List.forall_mem_cons.mpr ⟨ckI_27, ?_⟩
  refine List.forall_mem_cons.mpr ⟨ckI_28, ?_⟩
  refine List.forall_mem_cons.mpr ⟨ckI_29, ?_⟩
  refine List.forall_mem_cons.mpr ⟨ckI_30, ?_⟩
  refine List.forall_mem_cons.mpr ⟨ckI_31, ?_⟩
  refine List.forall_mem_cons.mpr ⟨ckI_32, ?_⟩
  refine List.forall_mem_cons.mpr ⟨ckI_33, ?_⟩
  refine List.forall_mem_cons.mpr ⟨ckI_34, ?_⟩
  refine List.forall_mem_cons.mpr ⟨ckI_35, ?_⟩
  refine List.forall_mem_cons.mpr ⟨ckI_36, ?_⟩
  refine List.forall_mem_cons.mpr ⟨ckI_37, ?_⟩
  refine List.forall_mem_cons.mpr ⟨ckI_38, ?_⟩
  refine List.forall_mem_cons.mpr ⟨ckI_39, ?_⟩
  exact fun _ h => absurd h List.not_mem_nil
theorem ckIr_1 : ∀ r ∈ mR_1, codeIn r := by
  refine List.forall_mem_cons.mpr ⟨ckI_40, ?_⟩
  refine List.forall_mem_cons.mpr ⟨ckI_41, ?_⟩
  refine List.forall_mem_cons.mpr ⟨ckI_42, ?_⟩
  refine List.forall_mem_cons.mpr ⟨ckI_43, ?_⟩
  refine List.forall_mem_cons.mpr ⟨ckI_44, ?_⟩
  refine List.forall_mem_cons.mpr ⟨ckI_45, ?_⟩
  refine List.forall_mem_cons.mpr ⟨ckI_46, ?_⟩
  refine List.forall_mem_cons.mpr ⟨ckI_47, ?_⟩
  refine List.forall_mem_cons.mpr ⟨ckI_48, ?_⟩
  refine List.forall_mem_cons.mpr ⟨ckI_49, ?_⟩
  refine List.forall_mem_cons.mpr ⟨ckI_50, ?_⟩
  refine List.forall_mem_cons.mpr ⟨ckI_51, ?_⟩
  refine List.forall_mem_cons.mpr ⟨ckI_52, ?_⟩
  refine List.forall_mem_cons.mpr ⟨ckI_53, ?_⟩
  refine List.forall_mem_cons.mpr ⟨ckI_54, ?_⟩
  refine List.forall_mem_cons.mpr ⟨ckI_55, ?_⟩
  refine List.forall_mem_cons.mpr ⟨ckI_56, ?_⟩
  refine List.forall_mem_cons.mpr ⟨ckI_57, ?_⟩
  refine List.forall_mem_cons.mpr ⟨ckI_58, ?_⟩
  refine List.forall_mem_cons.mpr ⟨ckI_59, ?_⟩
  refine List.forall_mem_cons.mpr ⟨ckI_60, ?_⟩
  refine List.forall_mem_cons.mpr ⟨ckI_61, ?_⟩
  refine List.forall_mem_cons.mpr ⟨ckI_62, ?_⟩
  refine List.forall_mem_cons.mpr ⟨ckI_63, ?_⟩
  refine List.forall_mem_cons.mpr ⟨ckI_64, ?_⟩
  refine List.forall_mem_cons.mpr ⟨ckI_65, ?_⟩
  refine List.forall_mem_cons.mpr ⟨ckI_66, ?_⟩
  refine List.forall_mem_cons.mpr ⟨ckI_67, ?_⟩
  refine List.forall_mem_cons.mpr ⟨ckI_68, ?_⟩
  refine List.forall_mem_cons.mpr ⟨ckI_69, ?_⟩
  refine List.forall_mem_cons.mpr ⟨ckI_70, ?_⟩
  refine List.forall_mem_cons.mpr ⟨ckI_71, ?_⟩
  refine List.forall_mem_cons.mpr ⟨ckI_72, ?_⟩
  refine List.forall_mem_cons.mpr ⟨ckI_73, ?_⟩
  refine List.forall_mem_cons.mpr ⟨ckI_74, ?_⟩
  refine List.forall_mem_cons.mpr ⟨ckI_75, ?_⟩
  refine List.forall_mem_cons.mpr ⟨ckI_76, ?_⟩
  refine List.forall_mem_cons.mpr ⟨ckI_77, ?_⟩
  refine List.forall_mem_cons.mpr ⟨ckI_78, ?_⟩
  refine List.forall_mem_cons.mpr ⟨ckI_79, ?_⟩
  exact fun _ h => absurd h List.not_mem_nil
theorem ckIr_2 : ∀ r ∈ mR_2, codeIn r := by
  refine List.forall_mem_cons.mpr ⟨ckI_80, ?_⟩
  refine List.forall_mem_cons.mpr ⟨ckI_81, ?_⟩
  refine List.forall_mem_cons.mpr ⟨ckI_82, ?_⟩
  refine List.forall_mem_cons.mpr ⟨ckI_83, ?_⟩
  refine List.forall_mem_cons.mpr ⟨ckI_84, ?_⟩
  refine List.forall_mem_cons.mpr ⟨ckI_85, ?_⟩
  refine List.forall_mem_cons.mpr ⟨ckI_86, ?_⟩
  refine List.forall_mem_cons.mpr ⟨ckI_87, ?_⟩
  refine List.forall_mem_cons.mpr ⟨ckI_88, ?_⟩
  refine List.forall_mem_cons.mpr ⟨ckI_89, ?_⟩
  refine List.forall_mem_cons.mpr ⟨ckI_90, ?_⟩
  refine List.forall_mem_cons.mpr ⟨ckI_91, ?_⟩
  refine List.forall_mem_cons.mpr ⟨ckI_92, ?_⟩
  refine List.forall_mem_cons.mpr ⟨ckI_93, ?_⟩
  refine List.forall_mem_cons.mpr ⟨ckI_94, ?_⟩
  refine List.forall_mem_cons.mpr ⟨ckI_95, ?_⟩
  refine List.forall_mem_cons.mpr ⟨ckI_96, ?_⟩
  refine List.forall_mem_cons.mpr ⟨ckI_97, ?_⟩
  refine List.forall_mem_cons.mpr ⟨ckI_98, ?_⟩
  refine List.forall_mem_cons.mpr ⟨ckI_99, ?_⟩
  refine List.forall_mem_cons.mpr ⟨ckI_100, ?_⟩
  refine List.forall_mem_cons.mpr ⟨ckI_101, ?_⟩
  refine List.forall_mem_cons.mpr ⟨ckI_102, ?_⟩
  refine List.forall_mem_cons.mpr ⟨ckI_103, ?_⟩
  refine List.forall_mem_cons.mpr ⟨ckI_104, ?_⟩
  refine List.forall_mem_cons.mpr ⟨ckI_105, ?_⟩
  refine List.forall_mem_cons.mpr ⟨ckI_106, ?_⟩
  refine List.forall_mem_cons.mpr ⟨ckI_107, ?_⟩
  refine List.forall_mem_cons.mpr ⟨ckI_108, ?_⟩
  refine List.forall_mem_cons.mpr ⟨ckI_109, ?_⟩
  refine List.forall_mem_cons.mpr ⟨ckI_110, ?_⟩
  refine List.forall_mem_cons.mpr ⟨ckI_111, ?_⟩
  refine List.forall_mem_cons.mpr ⟨ckI_112, ?_⟩
  refine List.forall_mem_cons.mpr ⟨ckI_113, ?_⟩
  refine List.forall_mem_cons.mpr ⟨ckI_114, ?_⟩
  refine List.forall_mem_cons.mpr ⟨ckI_115, ?_⟩
  refine List.forall_mem_cons.mpr ⟨ckI_116, ?_⟩
  refine List.forall_mem_cons.mpr ⟨ckI_117, ?_⟩
  refine List.forall_mem_cons.mpr ⟨ckI_118, ?_⟩
  refine List.forall_mem_cons.mpr ⟨ckI_119, ?_⟩
  exact fun _ h => absurd h List.not_mem_nil
theorem ckIr_3 : ∀ r ∈ mR_3, codeIn r := by
  refine List.forall_mem_cons.mpr ⟨ckI_120, ?_⟩
  refine List.forall_mem_cons.mpr ⟨ckI_121, ?_⟩
  refine List.forall_mem_cons.mpr ⟨ckI_122, ?_⟩
  refine List.forall_mem_cons.mpr ⟨ckI_123, ?_⟩
  refine List.forall_mem_cons.mpr ⟨ckI_124, ?_⟩
  refine List.forall_mem_cons.mpr ⟨ckI_125, ?_⟩
  refine List.forall_mem_cons.mpr ⟨ckI_126, ?_⟩
  refine List.forall_mem_cons.mpr ⟨ckI_127, ?_⟩
  refine List.forall_mem_cons.mpr ⟨ckI_128, ?_⟩
  refine List.forall_mem_cons.mpr ⟨ckI_129, ?_⟩
  refine List.forall_mem_cons.mpr ⟨ckI_130, ?_⟩
  refine List.forall_mem_cons.mpr ⟨ckI_131, ?_⟩
  refine List.forall_mem_cons.mpr ⟨ckI_132, ?_⟩
  refine List.forall_mem_cons.mpr ⟨ckI_133, ?_⟩
  refine List.forall_mem_cons.mpr ⟨ckI_134, ?_⟩
  refine List.forall_mem_cons.mpr ⟨ckI_135, ?_⟩
  refine List.forall_mem_cons.mpr ⟨ckI_136, ?_⟩
  refine List.forall_mem_cons.mpr ⟨ckI_137, ?_⟩
  refine List.forall_mem_cons.mpr ⟨ckI_138, ?_⟩
  refine List.forall_mem_cons.mpr ⟨ckI_139, ?_⟩
  refine List.forall_mem_cons.mpr ⟨ckI_140, ?_⟩
  refine List.forall_mem_cons.mpr ⟨ckI_141, ?_⟩
  refine List.forall_mem_cons.mpr ⟨ckI_142, ?_⟩
  refine List.forall_mem_cons.mpr ⟨ckI_143, ?_⟩
  refine List.forall_mem_cons.mpr ⟨ckI_144, ?_⟩
  refine List.forall_mem_cons.mpr ⟨ckI_145, ?_⟩
  refine List.forall_mem_cons.mpr ⟨ckI_146, ?_⟩
  refine List.forall_mem_cons.mpr ⟨ckI_147, ?_⟩
  refine List.forall_mem_cons.mpr ⟨ckI_148, ?_⟩
  refine List.forall_mem_cons.mpr ⟨ckI_149, ?_⟩
  refine List.forall_mem_cons.mpr ⟨ckI_150, ?_⟩
  refine List.forall_mem_cons.mpr ⟨ckI_151, ?_⟩
  refine List.forall_mem_cons.mpr ⟨ckI_152, ?_⟩
  refine List.forall_mem_cons.mpr ⟨ckI_153, ?_⟩
  refine List.forall_mem_cons.mpr ⟨ckI_154, ?_⟩
  refine List.forall_mem_cons.mpr ⟨ckI_155, ?_⟩
  refine List.forall_mem_cons.mpr ⟨ckI_156, ?_⟩
  refine List.forall_mem_cons.mpr ⟨ckI_157, ?_⟩
  refine List.forall_mem_cons.mpr ⟨ckI_158, ?_⟩
  refine List.forall_mem_cons.mpr ⟨ckI_159, ?_⟩
  exact fun _ h => absurd h List.not_mem_nil
theorem ckIr_4 : ∀ r ∈ mR_4, codeIn r := by
  refine List.forall_mem_cons.mpr ⟨ckI_160, ?_⟩
  refine List.forall_mem_cons.mpr ⟨ckI_161, ?_⟩
  refine List.forall_mem_cons.mpr ⟨ckI_162, ?_⟩
  refine List.forall_mem_cons.mpr ⟨ckI_163, ?_⟩
  refine List.forall_mem_cons.mpr ⟨ckI_164, ?_⟩
  refine List.forall_mem_cons.mpr ⟨ckI_165, ?_⟩
  refine List.forall_mem_cons.mpr ⟨ckI_166, ?_⟩
  refine List.forall_mem_cons.mpr ⟨ckI_167, ?_⟩
  refine List.forall_mem_cons.mpr ⟨ckI_168, ?_⟩
  refine List.forall_mem_cons.mpr ⟨ckI_169, ?_⟩
  refine List.forall_mem_cons.mpr ⟨ckI_170, ?_⟩
  refine List.forall_mem_cons.mpr ⟨ckI_171, ?_⟩
  refine List.forall_mem_cons.mpr ⟨ckI_172, ?_⟩
  refine List.forall_mem_cons.mpr ⟨ckI_173, ?_⟩
  refine List.forall_mem_cons.mpr ⟨ckI_174, ?_⟩
  refine List.forall_mem_cons.mpr ⟨ckI_175, ?_⟩
  refine List.forall_mem_cons.mpr ⟨ckI_176, ?_⟩
  refine List.forall_mem_cons.mpr ⟨ckI_177, ?_⟩
  refine List.forall_mem_cons.mpr ⟨ckI_178, ?_⟩
  refine List.forall_mem_cons.mpr ⟨ckI_179, ?_⟩
  refine List.forall_mem_cons.mpr ⟨ckI_180, ?_⟩
  refine List.forall_mem_cons.mpr ⟨ckI_181, ?_⟩
  refine List.forall_mem_cons.mpr ⟨ckI_182, ?_⟩
  refine List.forall_mem_cons.mpr ⟨ckI_183, ?_⟩
  refine List.forall_mem_cons.mpr ⟨ckI_184, ?_⟩
  refine List.forall_mem_cons.mpr ⟨ckI_185, ?_⟩
  refine List.forall_mem_cons.mpr ⟨ckI_186, ?_⟩
  refine List.forall_mem_cons.mpr ⟨ckI_187, ?_⟩
  refine List.forall_mem_cons.mpr ⟨ckI_188, ?_⟩
  refine List.forall_mem_cons.mpr ⟨ckI_189, ?_⟩
  refine List.forall_mem_cons.mpr ⟨ckI_190, ?_⟩
  refine List.forall_mem_cons.mpr ⟨ckI_191, ?_⟩
  refine List.forall_mem_cons.mpr ⟨ckI_192, ?_⟩
  refine List.forall_mem_cons.mpr ⟨ckI_193, ?_⟩
  refine List.forall_mem_cons.mpr ⟨ckI_194, ?_⟩
  refine List.forall_mem_cons.mpr ⟨ckI_195, ?_⟩
  refine List.forall_mem_cons.mpr ⟨ckI_196, ?_⟩
  refine List.forall_mem_cons.mpr ⟨ckI_197, ?_⟩
  refine List.forall_mem_cons.mpr ⟨ckI_198, ?_⟩
  refine List.forall_mem_cons.mpr ⟨ckI_199, ?_⟩
  exact fun _ h => absurd h List.not_mem_nil
theorem ckIr_5 : ∀ r ∈ mR_5, codeIn r := by
  refine List.forall_mem_cons.mpr ⟨ckI_200, ?_⟩
  refine List.forall_mem_cons.mpr ⟨ckI_201, ?_⟩
  refine List.forall_mem_cons.mpr ⟨ckI_202, ?_⟩
  refine List.forall_mem_cons.mpr ⟨ckI_203, ?_⟩
  refine List.forall_mem_cons.mpr ⟨ckI_204, ?_⟩
  refine List.forall_mem_cons.mpr ⟨ckI_205, ?_⟩
  refine List.forall_mem_cons.mpr ⟨ckI_206, ?_⟩
  refine List.forall_mem_cons.mpr ⟨ckI_207, ?_⟩
  refine List.forall_mem_cons.mpr ⟨ckI_208, ?_⟩
  refine List.forall_mem_cons.mpr ⟨ckI_209, ?_⟩
  refine List.forall_mem_cons.mpr ⟨ckI_210, ?_⟩
  refine List.forall_mem_cons.mpr ⟨ckI_211, ?_⟩
  refine List.forall_mem_cons.mpr ⟨ckI_212, ?_⟩
  refine List.forall_mem_cons.mpr ⟨ckI_213, ?_⟩
  refine List.forall_mem_cons.mpr ⟨ckI_214, ?_⟩
  refine List.forall_mem_cons.mpr ⟨ckI_215, ?_⟩
  refine List.forall_mem_cons.mpr ⟨ckI_216, ?_⟩
  refine List.forall_mem_cons.mpr ⟨ckI_217, ?_⟩
  refine List.forall_mem_cons.mpr ⟨ckI_218, ?_⟩
  refine List.forall_mem_cons.mpr ⟨ckI_219, ?_⟩
  refine List.forall_mem_cons.mpr ⟨ckI_220, ?_⟩
  refine List.forall_mem_cons.mpr ⟨ckI_221, ?_⟩
  refine List.forall_mem_cons.mpr ⟨ckI_222, ?_⟩
  refine List.forall_mem_cons.mpr ⟨ckI_223, ?_⟩
  refine List.forall_mem_cons.mpr ⟨ckI_224, ?_⟩
  refine List.forall_mem_cons.mpr ⟨ckI_225, ?_⟩
  refine List.forall_mem_cons.mpr ⟨ckI_226, ?_⟩
  refine List.forall_mem_cons.mpr ⟨ckI_227, ?_⟩
  refine List.forall_mem_cons.mpr ⟨ckI_228, ?_⟩
  refine List.forall_mem_cons.mpr ⟨ckI_229, ?_⟩
  refine List.forall_mem_cons.mpr ⟨ckI_230, ?_⟩
  refine List.forall_mem_cons.mpr ⟨ckI_231, ?_⟩
  refine List.forall_mem_cons.mpr ⟨ckI_232, ?_⟩
  refine List.forall_mem_cons.mpr ⟨ckI_233, ?_⟩
  refine List.forall_mem_cons.mpr ⟨ckI_234, ?_⟩
  refine List.forall_mem_cons.mpr ⟨ckI_235, ?_⟩
  refine List.forall_mem_cons.mpr ⟨ckI_236, ?_⟩
  refine List.forall_mem_cons.mpr ⟨ckI_237, ?_⟩
  refine List.forall_mem_cons.mpr ⟨ckI_238, ?_⟩
  refine List.forall_mem_cons.mpr ⟨ckI_239, ?_⟩
  exact fun _ h => absurd h List.not_mem_nil
theorem ckIr_6 : ∀ r ∈ mR_6, codeIn r := by
  refine List.forall_mem_cons.mpr ⟨ckI_240, ?_⟩
  refine List.forall_mem_cons.mpr ⟨ckI_241, ?_⟩
  refine List.forall_mem_cons.mpr ⟨ckI_242, ?_⟩
  refine List.forall_mem_cons.mpr ⟨ckI_243, ?_⟩
  refine List.forall_mem_cons.mpr ⟨ckI_244, ?_⟩
  refine List.forall_mem_cons.mpr ⟨ckI_245, ?_⟩
  refine List.forall_mem_cons.mpr ⟨ckI_246, ?_⟩
  refine List.forall_mem_cons.mpr ⟨ckI_247, ?_⟩
  refine List.forall_mem_cons.mpr ⟨ckI_248, ?_⟩
  refine List.forall_mem_cons.mpr ⟨ckI_249, ?_⟩
  refine List.forall_mem_cons.mpr ⟨ckI_250, ?_⟩
  exact fun _ h => absurd h List.not_mem_nil
theorem ckIs : ∀ r ∈ mRs, codeIn r := by
  show ∀ r ∈ mR_0 ++ (mR_1 ++ (mR_2 ++ (mR_3 ++ (mR_4 ++ (mR_5 ++ (mR_6)))))), _
  exact List.forall_mem_append.mpr ⟨ckIr_0, List.forall_mem_append.mpr ⟨ckIr_1, List.forall_mem_append.mpr ⟨ckIr_2, List.forall_mem_append.mpr ⟨ckIr_3, List.forall_mem_append.mpr ⟨ckIr_4, List.forall_mem_append.mpr ⟨ckIr_5, ckIr_6⟩⟩⟩⟩⟩⟩
noncomputable def ckF (o : Nat) (r : Nat × (Nat × Nat × Nat)) : Bool := match gNth ownR o, gNth gCL r.2.1, gNth gTys r.2.1, gNth gNF r.2.1 with
  | some own, some q, some ty, some n => ckW r.2.2.2 (.fieldLink own r.1 (q.2.1 r.2.2.1).1 (q.2.1 r.2.2.1).2.1 (q.2.1 r.2.2.1).2.2.1) && Nat.blt r.2.2.1 q.2.2 && Nat.beq n q.2.2 && decide (gNth ownR r.2.1 = some (q.2.1 r.2.2.1).1) && decide (parseFieldDescriptor (q.2.1 r.2.2.1).2.2.1 = some (ty r.2.2.1)) && (match ty r.2.2.1 with
    | .int => true | .boolean => true | .long => true | .array _ => true | .object _ => true | _ => false)
  | _, _, _, _ => false
set_option maxRecDepth 100000 in
theorem ckFs : ((List.range 14).all fun o => (fRs.getD o []).all (ckF o)) = true := by decide +kernel
/-- the words of members that a nest mate may use -/
noncomputable def WN : List Cond := [1035, 1114, 1148, 2046, 2156, 2228, 3152, 4070, 4072, 4078, 5016].filterMap (fun i => match gNth gTb (i / 1000) with | some l => gNth l (i % 1000) | none => none)
noncomputable def ckN (w : Cond) : Bool := decide (w ∈ WN)
noncomputable def ckC (o : Nat) (r : Nat × (Nat × Nat × Nat)) : Bool := match gNth ownR o with
  | none => false
  | some own => match r.2.1 with
    | 1000 => Nat.beq r.2.2.1 0 && ckW r.2.2.2 (.methodLink own r.1 objectInit)
    | 1001 => Nat.beq r.2.2.1 0 && ckW r.2.2.2 (.methodLink own r.1 Lib.Math.abs.name)
    | 1002 => Nat.beq r.2.2.1 0 && ckW r.2.2.2 (.methodLink own r.1 Lib.Math.max.name)
    | 1003 => Nat.beq r.2.2.1 0 && ckW r.2.2.2 (.methodLink own r.1 Lib.Math.min.name)
    | 1004 => Nat.beq r.2.2.1 0 && ckW r.2.2.2 (.methodLink own r.1 yJ7_fill_53178)
    | 1005 => Nat.beq r.2.2.1 0 && ckW r.2.2.2 (.methodLink own r.1 arraycopyName)
    | 1006 => Nat.beq r.2.2.1 0 && ckW r.2.2.2 (.methodLink own r.1 yJ0_length_8abf5)
    | 1007 => Nat.beq r.2.2.1 0 && ckW r.2.2.2 (.methodLink own r.1 yJ0_charAt_5068e)
    | id => match gNth mRs id, r.2.2.1 with
      | some q, 0 => ckW r.2.2.2 (.methodLink own r.1 q.2.1) && !Nat.beq id idLaw
      | some q, 1 => ckN (.methodLinkNest own r.1 q.2.1 "GrassPark") && !Nat.beq id idLaw
      | _, _ => false
set_option maxRecDepth 100000 in
theorem ckCs : ((List.range 14).all fun o => (mRes.getD o []).all (ckC o)) = true := by decide +kernel
def gStN : Nat → String × String
  | 1 => ("GrassPark", "ACROSS") | 2 => ("GrassPark", "DOWN") | 3 => ("GrassPark$Reader", "ASKS") | _ => ("GrassPark$Reader", "YES")
noncomputable def ckS (o : Nat) (r : Nat × (Nat × Nat × Nat)) : Bool := match gNth ownR o with
  | none => false
  | some own => Nat.blt 0 r.2.1 && Nat.blt r.2.1 5 && (match r.2.2.1 with
    | 0 => ckW r.2.2.2 (.fieldLink own r.1 (gStN r.2.1).1 (gStN r.2.1).2 "[I")
    | _ => ckN (.fieldLinkNest own r.1 (gStN r.2.1).1 (gStN r.2.1).2 "[I" "GrassPark"))
set_option maxRecDepth 100000 in
theorem ckSs : ((List.range 14).all fun o => (sRs.getD o []).all (ckS o)) = true := by decide +kernel
noncomputable def ckK (o : Nat) (r : Nat × (Int32 × Nat)) : Bool := match gNth ownR o with
  | none => false
  | some own => ckW r.2.2 (.constant own r.1 r.2.1)
noncomputable def ckL (o : Nat) (r : Nat × (Int64 × Nat)) : Bool := match gNth ownR o with
  | none => false
  | some own => ckW r.2.2 (.constantLong own r.1 r.2.1)
noncomputable def ckT (o : Nat) (r : Nat × (Nat × Nat)) : Bool := Nat.beq o 3 && (Nat.blt r.2.1 7 && Nat.beq r.1 (gTi r.2.1))
def gElN : Nat → String
  | 4 => "GrassPark$Land" | 5 => "GrassPark$Text" | 6 => "GrassPark$Walker" | _ => "GrassPark$Wish"
noncomputable def ckB (o : Nat) (r : Nat × (Nat × Nat)) : Bool := match gNth ownR o, gNth gCL r.2.1, gNth gNF r.2.1 with
  | some own, some q, some n => ckW r.2.2 (.classLink own r.1 q.1) && Nat.beq n q.2.2
  | _, _, _ => false
noncomputable def ckA (o : Nat) (r : Nat × (Nat × Nat)) : Bool := match gNth ownR o, r.2.1 with
  | some own, 8 => ckW r.2.2 (.classLink own r.1 "[[I")
  | some own, t => ckW r.2.2 (.classLink own r.1 (gElN t)) && Nat.ble 4 t && Nat.ble t 7
  | _, _ => false
set_option maxRecDepth 100000 in
theorem ckKs : ((List.range 14).all fun o => (cRs.getD o []).all (ckK o)) = true := by decide +kernel
set_option maxRecDepth 100000 in
theorem ckLs : ((List.range 14).all fun o => (lRs.getD o []).all (ckL o)) = true := by decide +kernel
set_option maxRecDepth 100000 in
theorem ckTs : ((List.range 14).all fun o => (tRs.getD o []).all (ckT o)) = true := by decide +kernel
set_option maxRecDepth 100000 in
theorem ckBs : ((List.range 14).all fun o => (nRs.getD o []).all (ckB o)) = true := by decide +kernel
set_option maxRecDepth 100000 in
theorem ckAs : ((List.range 14).all fun o => (aRs.getD o []).all (ckA o)) = true := by decide +kernel
