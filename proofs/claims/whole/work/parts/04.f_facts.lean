/-! the tables' entries are words of lw_tbl, each by its place (written by wip/whole/gen_facts.py) -/
def am_TG : List Jvm.Cond := lw_tbl.filter goodWord
def am_tb (k : Nat) : List Jvm.Cond := match k with
  | 0 => k2_sels lw_privs
  | 1 => tables_1_1
  | 2 => tables_1_2
  | 3 => tables_1_3
  | 4 => tables_1_4
  | 5 => tables_1_5
  | 6 => tables_1_6
  | 7 => tables_1_7
  | 8 => tables_1_8
  | 9 => tables_1_9
  | _ => []
theorem am_tb_in (k : Nat) : ∀ w ∈ am_tb k, w ∈ lw_tbl := by
  intro w hw
  unfold lw_tbl tables_1
  unfold am_tb at hw
  split at hw <;> simp only [List.mem_append, hw, true_or, or_true]
  exact absurd hw List.not_mem_nil
def am_at : List Jvm.Cond → List Nat → Bool
  | [], [] => true
  | w :: ws, p :: ps => decide ((am_tb (p / 1000))[p % 1000]? = some w) && goodWord w && am_at ws ps
  | _, _ => false
theorem am_at_in : ∀ (ws : List Jvm.Cond) (ps : List Nat), am_at ws ps = true → ∀ w ∈ ws, w ∈ am_TG
  | [], _, _, w, hw => by cases hw
  | x :: ws, [], h, w, hw => by simp [am_at] at h
  | x :: ws, p :: ps, h, w, hw => by
    simp only [am_at, Bool.and_eq_true, decide_eq_true_eq] at h
    rcases List.mem_cons.mp hw with hw | hw
    · subst hw
      exact List.mem_filter.mpr ⟨am_tb_in _ _ (List.mem_of_getElem? h.1.1), h.1.2⟩
    · exact am_at_in ws ps h.2 w hw
def am_ck {α : Type} (f : α → List Jvm.Cond) (d : α → Bool) : List α → List (List Nat) → Bool
  | [], [] => true
  | x :: l, p :: ps => am_at (f x) p && d x && am_ck f d l ps
  | _, _ => false
theorem am_ck_in {α : Type} {f : α → List Jvm.Cond} {d : α → Bool} : ∀ (l : List α) (ps : List (List Nat)), am_ck f d l ps = true → ∀ x ∈ l, (∀ w ∈ f x, w ∈ am_TG) ∧ d x = true
  | [], _, _, x, hx => by cases hx
  | y :: l, [], h, x, hx => by simp [am_ck] at h
  | y :: l, p :: ps, h, x, hx => by
    simp only [am_ck, Bool.and_eq_true] at h
    rcases List.mem_cons.mp hx with hx | hx
    · subst hx
      exact ⟨am_at_in _ _ h.1.1, h.1.2⟩
    · exact am_ck_in l ps h.2 x hx
def am_wc (N : am_Me) : Jvm.Cond := .code N.2.1 N.2.2.1 N.2.2.2.1 N.2.2.2.2
/-- of a method that is called: n parameters, and what a contract wants -/
def am_dM (n : Nat) (N : am_Me) : Bool := plainName N.2.1.cls && decide (N.2.2.2.1 ≤ 40) && decide (am_R N.1 = N.2.1.cls) && decide (N.2.1.cls ≠ "java/lang/invoke/MethodHandle") && decide (N.2.1.cls ≠ "java/lang/invoke/VarHandle") && decide ((parseMethodDescriptor N.2.1.desc).map (fun d => d.parameters.length) = some n)
def am_nM (n : Nat) (y : MethodName) : Bool := decide (y.cls ≠ "java/lang/invoke/MethodHandle") && decide (y.cls ≠ "java/lang/invoke/VarHandle") && decide ((parseMethodDescriptor y.desc).map (fun d => d.parameters.length) = some n)
def am_vW (q : Nat × Nat × Nat × Nat × am_Me) : List Jvm.Cond := [.methodLink (am_R q.1) q.2.1 q.2.2.2.2.2.1, .instanceMethod q.2.2.2.2.2.1, .selects (am_R q.2.2.1) q.2.2.2.2.2.1 q.2.2.2.2.2.1, .initialized (am_R q.2.2.1), am_wc q.2.2.2.2]
def am_vD (q : Nat × Nat × Nat × Nat × am_Me) : Bool := am_dM q.2.2.2.1 q.2.2.2.2 && decide (q.2.2.2.2.2.1.cls = am_R q.2.2.1) && decide (q.2.2.1 < 14)
def am_uo (q : Nat × Nat × Nat × Nat × am_Me × MethodName × String) : MethodName := ⟨q.2.2.2.2.2.2, q.2.2.2.2.2.1.name, q.2.2.2.2.2.1.desc⟩
def am_ub (q : Nat × Nat × Nat × Nat × am_Me × MethodName × String) : am_Me := ((am_MT.find? (fun e => decide (e.2.2.2.1 = am_uo q))).map (fun e => e.2.2)).getD mX0_init
def am_uW (q : Nat × Nat × Nat × Nat × am_Me × MethodName × String) : List Jvm.Cond := [.methodLink (am_R q.1) q.2.1 q.2.2.2.2.2.1, .sameMethod q.2.2.2.2.2.1.cls q.2.2.2.2.2.2 q.2.2.2.2.2.1.name q.2.2.2.2.2.1.desc, .instanceMethod (am_uo q), .selects (am_R q.2.2.1) q.2.2.2.2.2.1 q.2.2.2.2.1.2.1, .instanceMethod q.2.2.2.2.1.2.1, .initialized q.2.2.2.2.1.2.1.cls, am_wc q.2.2.2.2.1, am_wc (am_ub q)]
def am_uD (q : Nat × Nat × Nat × Nat × am_Me × MethodName × String) : Bool := am_dM q.2.2.2.1 q.2.2.2.2.1 && am_nM q.2.2.2.1 ⟨q.2.2.2.2.2.2, "", q.2.2.2.2.2.1.desc⟩ && decide ((am_ub q).2.1 = am_uo q) && decide (q.2.2.1 < 13)
def am_tW (q : Nat × Nat × Nat × am_Me) : List Jvm.Cond := [.methodLink (am_R q.1) q.2.1 q.2.2.2.2.1, .static q.2.2.2.2.1, .initialized q.2.2.2.2.1.cls, am_wc q.2.2.2]
def am_tD (q : Nat × Nat × Nat × am_Me) : Bool := am_dM q.2.2.1 q.2.2.2
def am_tnW (q : Nat × Nat × Nat × am_Me) : List Jvm.Cond := [.static q.2.2.2.2.1, .initialized q.2.2.2.2.1.cls, am_wc q.2.2.2]
def am_iW (q : Nat × Nat × Nat × am_Me) : List Jvm.Cond := [.methodLink (am_R q.1) q.2.1 q.2.2.2.2.1, .instanceMethod q.2.2.2.2.1, .initialized q.2.2.2.2.1.cls, am_wc q.2.2.2]
def am_inW (q : Nat × Nat × Nat × am_Me) : List Jvm.Cond := [.instanceMethod q.2.2.2.2.1, .initialized q.2.2.2.2.1.cls, am_wc q.2.2.2]
def am_iD (q : Nat × Nat × Nat × am_Me) : Bool := am_dM q.2.2.1 q.2.2.2 && decide (q.2.2.2.2.1.name = "<init>") && decide (q.2.2.2.2.2.2.2 = none)
def am_pW (q : Nat × Nat × Nat × am_Me × MethodName × String) : List Jvm.Cond := [.methodLink (am_R q.1) q.2.1 q.2.2.2.2.1, .sameMethod q.2.2.2.2.1.cls q.2.2.2.2.2 q.2.2.2.2.1.name q.2.2.2.2.1.desc, .superclass (am_R q.1) q.2.2.2.2.1.cls, (if q.2.2.2.2.1.cls = q.2.2.2.2.2 then .superclass (am_R q.1) q.2.2.2.2.1.cls else .superclass q.2.2.2.2.1.cls q.2.2.2.2.2), .instanceMethod q.2.2.2.1.2.1, .initialized q.2.2.2.1.2.1.cls, am_wc q.2.2.2.1]
def am_pD (q : Nat × Nat × Nat × am_Me × MethodName × String) : Bool := am_dM q.2.2.1 q.2.2.2.1 && decide (q.2.2.2.1.2.1 = ⟨q.2.2.2.2.2, q.2.2.2.2.1.name, q.2.2.2.2.1.desc⟩) && decide (q.2.2.2.2.1.name ≠ "<init>")
def am_sF (j : Nat) : String × String := if j = 0 then ("value", "[B") else ("coder", "B")
def am_cq (k : Nat) : vw_C := vwCl.getD k ("", TX0, 0)
def am_fW (q : Nat × Nat × Nat × Nat) : List Jvm.Cond := if q.2.2.1 = 13 then [.fieldLink (am_R q.1) q.2.1 "java/lang/String" (am_sF q.2.2.2).1 (am_sF q.2.2.2).2] else [.fieldLink (am_R q.1) q.2.1 (am_R q.2.2.1) ((am_cq q.2.2.1).2.1 q.2.2.2).2.1 ((am_cq q.2.2.1).2.1 q.2.2.2).2.2.1]
def am_fD (q : Nat × Nat × Nat × Nat) : Bool := decide (q.2.2.1 = 13 ∧ q.2.2.2 < 2) || (decide (q.2.2.1 < 13) && decide (q.2.2.2 < (am_cq q.2.2.1).2.2) && decide (((am_cq q.2.2.1).2.1 q.2.2.2).1 = am_R q.2.2.1))
def am_cW (q : Nat × Nat × Int32) : List Jvm.Cond := [.constant (am_R q.1) q.2.1 q.2.2]
def am_lW (q : Nat × Nat × Int64) : List Jvm.Cond := [.constantLong (am_R q.1) q.2.1 q.2.2]
def am_nW (q : Nat × Nat × Nat) : List Jvm.Cond := [.classLink (am_R q.1) q.2.1 (am_R q.2.2), .instantiable (am_R q.2.2) (am_nf q.2.2), .initialized (am_R q.2.2)]
def am_mW (q : Nat × Nat × Nat) : List Jvm.Cond := match q.2.2 with
  | 0 => [.methodLink (am_R q.1) q.2.1 Lib.Math.max.name, .static Lib.Math.max.name, .initialized "java/lang/Math", .code Lib.Math.max.name Lib.Math.max.code 2 (some .int)]
  | 1 => [.methodLink (am_R q.1) q.2.1 Lib.Math.min.name, .static Lib.Math.min.name, .initialized "java/lang/Math", .code Lib.Math.min.name Lib.Math.min.code 2 (some .int)]
  | _ => [.methodLink (am_R q.1) q.2.1 Lib.Math.abs.name, .static Lib.Math.abs.name, .initialized "java/lang/Math", .code Lib.Math.abs.name Lib.Math.abs.code 1 (some .int)]
def am_nestL : List Jvm.Cond := am_tnT.map (fun q => .methodLinkNest (am_R q.1) q.2.1 q.2.2.2.2.1 "VoiceNets") ++ am_inT.map (fun q => .methodLinkNest (am_R q.1) q.2.1 q.2.2.2.2.1 "VoiceNets")
def am_atL : List Jvm.Cond → List Nat → Bool
  | [], [] => true
  | w :: ws, p :: ps => decide ((am_tb (p / 1000))[p % 1000]? = some w) && am_atL ws ps
  | _, _ => false
theorem am_atL_in : ∀ (ws : List Jvm.Cond) (ps : List Nat), am_atL ws ps = true → ∀ w ∈ ws, w ∈ lw_tbl
  | [], _, _, w, hw => by cases hw
  | x :: ws, [], h, w, hw => by simp [am_atL] at h
  | x :: ws, p :: ps, h, w, hw => by
    simp only [am_atL, Bool.and_eq_true, decide_eq_true_eq] at h
    rcases List.mem_cons.mp hw with hw | hw
    · subst hw
      exact am_tb_in _ _ (List.mem_of_getElem? h.1)
    · exact am_atL_in ws ps h.2 w hw
def am_oW (q : Nat × Nat) : List Jvm.Cond := [.methodLink (am_R q.1) q.2 Lib.objectInit, .instanceMethod Lib.objectInit, .code Lib.objectInit ⟨#[0xb1]⟩ 1 none]
def am_yW (q : Nat × Nat) : List Jvm.Cond := [.methodLink (am_R q.1) q.2 arraycopyName, .native arraycopyName, .static arraycopyName, .initialized "java/lang/System"]
def am_aN (t : Nat) : String := if t = 22 then "VoiceNets$Voice" else if t = 23 then "[[I" else "[[J"
def am_aW (q : Nat × Nat × Nat) : List Jvm.Cond := [.classLink (am_R q.1) q.2.1 (am_aN q.2.2)]
set_option maxRecDepth 100000 in
theorem am_vK0 : am_ck am_vW am_vD ((am_vT.drop 0).take 48) [[2129, 2130, 2131, 1001, 2132], [2148, 2149, 2150, 1008, 2151], [2152, 2153, 2154, 1001, 2155], [2156, 2157, 2158, 1008, 2159], [2160, 2161, 2162, 1008, 2163], [2164, 2165, 2166, 1008, 2167], [2168, 2169, 2170, 1008, 2171], [2196, 2169, 2170, 1008, 2171], [2224, 2225, 2226, 1008, 2227], [3002, 3003, 3004, 1008, 3005], [3006, 3007, 3008, 1009, 3009], [3015, 3017, 0, 1009, 3018], [3019, 3020, 3021, 1001, 3022], [3026, 3028, 1, 1001, 3029], [3030, 3031, 3032, 1008, 3033], [3034, 3035, 3036, 1001, 3037], [3038, 3039, 3040, 1001, 3041], [3045, 3046, 3047, 1001, 3048], [3049, 3050, 3051, 1001, 3052], [3053, 3055, 2, 1001, 3056], [3057, 3059, 3, 1001, 3060], [3061, 3062, 3063, 1001, 3064], [3065, 3066, 3067, 1001, 3068], [3069, 3070, 3071, 1008, 3072], [3073, 3074, 3075, 1001, 3076], [3077, 3078, 3079, 1011, 3080], [3081, 3082, 3083, 1001, 3084], [3085, 3086, 3087, 1011, 3088], [3089, 3091, 4, 1011, 3092], [3096, 3098, 5, 1011, 3099], [3100, 3102, 6, 1011, 3103], [3104, 3106, 7, 1011, 3107], [3109, 3111, 8, 1011, 3112], [3113, 3114, 3115, 1016, 3116], [3117, 3118, 3119, 1016, 3120], [3123, 3124, 3125, 1016, 3126], [3127, 3128, 3129, 1016, 3130], [3166, 3168, 9, 1011, 3169], [3182, 3184, 10, 1011, 3185], [3189, 3191, 11, 1011, 3192], [3193, 3194, 3195, 1009, 3196], [3197, 3199, 12, 1011, 3200], [3201, 3203, 13, 1011, 3204], [3206, 3208, 14, 1011, 3209], [3210, 3212, 15, 1011, 3213], [3214, 3216, 16, 1011, 3217], [3218, 3220, 17, 1011, 3221], [3222, 3224, 18, 1011, 3225]] = true := by decide +kernel
set_option maxRecDepth 100000 in
theorem am_vK1 : am_ck am_vW am_vD ((am_vT.drop 48).take 48) [[3229, 3230, 3231, 1009, 3232], [3233, 3234, 3235, 1009, 3236], [3237, 3238, 3239, 1009, 4000], [4004, 4005, 4006, 1011, 4007], [4009, 4010, 4011, 1001, 4012], [4013, 4014, 4015, 1008, 4016], [4017, 2161, 2162, 1008, 2163], [4018, 4019, 4020, 1008, 4021], [4022, 3070, 3071, 1008, 3072], [4023, 4024, 4025, 1008, 4026], [4027, 4028, 4029, 1008, 4030], [4036, 4037, 4038, 1008, 4039], [4040, 2157, 2158, 1008, 2159], [4041, 4043, 19, 1008, 4044], [4048, 2225, 2226, 1008, 2227], [4049, 3003, 3004, 1008, 3005], [4054, 3031, 3032, 1008, 3033], [4055, 4056, 4057, 1001, 4058], [4059, 4060, 4061, 1012, 4062], [4063, 4064, 4065, 1012, 4066], [4067, 4068, 4069, 1008, 4070], [4072, 3070, 3071, 1008, 3072], [4073, 4014, 4015, 1008, 4016], [4074, 4019, 4020, 1008, 4021], [4075, 4076, 4077, 1012, 4078], [4079, 4080, 4081, 1008, 4082], [4083, 4084, 4085, 1001, 4086], [4087, 4088, 4089, 1012, 4090], [4091, 2161, 2162, 1008, 2163], [4092, 4093, 4094, 1001, 4095], [4096, 4097, 4098, 1012, 4099], [4100, 4060, 4061, 1012, 4062], [4101, 4102, 4103, 1001, 4104], [4105, 4106, 4107, 1012, 4108], [4109, 4110, 4111, 1001, 4112], [4113, 4114, 4115, 1012, 4116], [4117, 4119, 20, 1012, 4120], [4122, 4123, 4124, 1001, 4125], [4126, 4127, 4128, 1012, 4129], [4130, 4132, 21, 1012, 4133], [4134, 4136, 22, 1012, 4137], [4138, 4139, 4140, 1001, 4141], [4142, 4143, 4144, 1012, 4145], [4146, 4147, 4148, 1012, 4149], [4150, 4152, 23, 1012, 4153], [4154, 4147, 4148, 1012, 4149], [4155, 4156, 4157, 1001, 4158], [4162, 4163, 4164, 1012, 4165]] = true := by decide +kernel
set_option maxRecDepth 100000 in
theorem am_vK2 : am_ck am_vW am_vD ((am_vT.drop 96).take 48) [[4166, 4167, 4168, 1012, 4169], [4172, 4174, 24, 1012, 4175], [4176, 4178, 25, 1012, 4179], [4181, 4024, 4025, 1008, 4026], [4182, 4037, 4038, 1008, 4039], [4183, 4184, 4185, 1001, 4186], [4187, 4167, 4168, 1012, 4169], [4188, 4189, 4190, 1001, 4191], [4192, 4193, 4194, 1001, 4195], [4196, 4197, 4198, 1008, 4199], [4200, 4201, 4202, 1001, 4203], [4207, 4208, 4209, 1001, 4210], [4214, 4215, 4216, 1012, 4217], [4218, 4220, 26, 1012, 4221], [4222, 4223, 4224, 1001, 4225], [4226, 4227, 4228, 1001, 4229], [4230, 4231, 4232, 1008, 4233], [4234, 4235, 4236, 1001, 4237], [4238, 4239, 5000, 1001, 5001], [5002, 5003, 5004, 1012, 5005], [5006, 5008, 27, 1012, 5009], [5016, 5018, 28, 1012, 5019], [5022, 4028, 4029, 1008, 4030], [5023, 5024, 5025, 1012, 5026], [5029, 5030, 5031, 1001, 5032], [5033, 5034, 5035, 1012, 5036], [5044, 5045, 5046, 1001, 5047], [5048, 5049, 5050, 1001, 5051], [5052, 5053, 5054, 1008, 5055], [5057, 5058, 5059, 1001, 5060], [5061, 5062, 5063, 1012, 5064], [5065, 5067, 29, 1012, 5068], [5069, 5053, 5054, 1008, 5055], [5070, 5071, 5072, 1001, 5073], [5074, 5075, 5076, 1012, 5077], [5078, 5079, 5080, 1001, 5081], [5082, 5083, 5084, 1012, 5085], [5086, 5087, 5088, 1001, 5089], [5090, 5091, 5092, 1001, 5093], [5094, 5095, 5096, 1012, 5097], [5098, 5100, 30, 1012, 5101], [5102, 5103, 5104, 1008, 5105], [5106, 5107, 5108, 1001, 5109], [5116, 5117, 5118, 1001, 5119], [5120, 5122, 31, 1001, 5123], [5127, 5128, 5129, 1001, 5130], [5134, 5136, 32, 1001, 5137], [5138, 5139, 5140, 1001, 5141]] = true := by decide +kernel
set_option maxRecDepth 100000 in
theorem am_vK3 : am_ck am_vW am_vD ((am_vT.drop 144).take 48) [[5142, 5144, 33, 1001, 5145], [5146, 5103, 5104, 1008, 5105], [5147, 5148, 5149, 1001, 5150], [5151, 4064, 4065, 1012, 4066], [5152, 5154, 34, 1001, 5155], [5156, 4076, 4077, 1012, 4078], [5157, 5158, 5159, 1001, 5160], [5164, 5166, 35, 1001, 5167], [5168, 5170, 36, 1001, 5171], [5172, 5173, 5174, 1001, 5175], [5176, 5178, 37, 1001, 5179], [5181, 5182, 5183, 1001, 5184], [5185, 5186, 5187, 1013, 5188], [5196, 5197, 5198, 1013, 5199], [5206, 5197, 5198, 1013, 5199], [5212, 5197, 5198, 1013, 5199], [5222, 5197, 5198, 1013, 5199], [5229, 5197, 5198, 1013, 5199], [6002, 5197, 5198, 1013, 5199], [6035, 6036, 6037, 1001, 6038], [6039, 6040, 6041, 1001, 6042], [6044, 6045, 6046, 1001, 6047], [6048, 6049, 6050, 1008, 6051], [6052, 3238, 3239, 1009, 4000], [6053, 6054, 6055, 1001, 6056], [6187, 6188, 6189, 1014, 6190], [6206, 6207, 6208, 1014, 6209], [6210, 6212, 38, 1014, 6213], [6215, 6217, 39, 1014, 6218], [6219, 6221, 40, 1014, 6222], [6226, 6228, 41, 1014, 6229], [6230, 6232, 42, 1014, 6233], [6234, 6236, 43, 1014, 6237], [7001, 7003, 44, 1014, 7004], [7005, 7007, 45, 1014, 7008], [7012, 7013, 7014, 1014, 7015], [7016, 7018, 46, 1014, 7019], [7020, 7021, 7022, 1014, 7023], [7024, 7025, 7026, 1014, 7027], [7032, 7033, 7034, 1014, 7035], [7036, 7037, 7038, 1014, 7039], [7041, 7042, 7043, 1014, 7044], [7045, 7046, 7047, 1014, 7048], [7049, 7051, 47, 1014, 7052], [7053, 7055, 48, 1014, 7056], [7057, 7058, 7059, 1014, 7060], [7061, 7063, 49, 1014, 7064], [7065, 7067, 50, 1014, 7068]] = true := by decide +kernel
set_option maxRecDepth 100000 in
theorem am_vK4 : am_ck am_vW am_vD ((am_vT.drop 192).take 48) [[7069, 7071, 51, 1014, 7072], [7076, 7078, 52, 1014, 7079], [7080, 7082, 53, 1014, 7083], [7085, 7087, 54, 1014, 7088], [7089, 7090, 7091, 1014, 7092], [7093, 7095, 55, 1014, 7096], [7097, 7099, 56, 1014, 7100], [7101, 7103, 57, 1014, 7104], [7105, 7107, 58, 1014, 7108], [7109, 7110, 7111, 1014, 7112], [7113, 7114, 7115, 1014, 7116], [7117, 7119, 59, 1014, 7120], [7121, 7122, 7123, 1014, 7124], [7125, 7126, 7127, 1014, 7128], [7129, 7131, 60, 1014, 7132], [7133, 7134, 7135, 1014, 7136], [7137, 7139, 61, 1014, 7140], [7141, 7143, 62, 1014, 7144], [7145, 7146, 7147, 1014, 7148], [7149, 7151, 63, 1014, 7152], [7153, 7155, 64, 1014, 7156], [7157, 7158, 7159, 1014, 7160], [7165, 7167, 65, 1014, 7168], [7169, 7171, 66, 1014, 7172], [7173, 7175, 67, 1014, 7176], [7177, 7179, 68, 1014, 7180], [7181, 7183, 69, 1014, 7184], [7185, 7186, 7187, 1014, 7188], [7190, 7191, 7192, 1014, 7193], [7194, 7195, 7196, 1014, 7197], [7198, 7200, 70, 1014, 7201], [7202, 7203, 7204, 1014, 7205], [7206, 7207, 7208, 1014, 7209], [7210, 7212, 71, 1014, 7213], [7214, 7215, 7216, 1014, 7217], [7218, 7219, 7220, 1014, 7221], [7222, 7223, 7224, 1014, 7225], [7226, 7227, 7228, 1014, 7229], [7230, 7232, 72, 1014, 7233], [7234, 7236, 73, 1014, 7237], [7238, 8000, 74, 1014, 8001], [8002, 8003, 8004, 1014, 8005], [8006, 8007, 8008, 1014, 8009], [8010, 8011, 8012, 1014, 8013], [8014, 8016, 75, 1014, 8017], [8019, 8020, 8021, 1014, 8022], [8025, 8026, 8027, 1014, 8028], [8029, 8030, 8031, 1014, 8032]] = true := by decide +kernel
set_option maxRecDepth 100000 in
theorem am_vK5 : am_ck am_vW am_vD ((am_vT.drop 240).take 48) [[8033, 8035, 76, 1014, 8036], [8037, 8038, 8039, 1014, 8040], [8041, 8042, 8043, 1014, 8044], [8045, 8047, 77, 1014, 8048], [8049, 8050, 8051, 1014, 8052], [8054, 8055, 8056, 1014, 8057], [8058, 8060, 78, 1014, 8061], [8062, 8064, 79, 1014, 8065], [8076, 8078, 80, 1014, 8079], [8080, 8082, 81, 1014, 8083], [8084, 8086, 82, 1014, 8087], [8096, 8098, 83, 1014, 8099], [8101, 8103, 84, 1014, 8104], [8105, 8107, 85, 1014, 8108], [8109, 8111, 86, 1014, 8112], [8114, 8116, 87, 1014, 8117], [8118, 8120, 88, 1014, 8121], [8122, 8124, 89, 1014, 8125], [8131, 8133, 90, 1014, 8134], [8135, 8137, 91, 1014, 8138], [8144, 8145, 8146, 1014, 8147], [8151, 8152, 8153, 1014, 8154], [8158, 8159, 8160, 1014, 8161], [8162, 8164, 92, 1014, 8165], [8166, 8167, 8168, 1014, 8169], [8170, 8172, 93, 1014, 8173], [8175, 8177, 94, 1014, 8178], [8179, 8180, 8181, 1014, 8182], [8183, 8184, 8185, 1014, 8186], [8187, 8188, 8189, 1014, 8190], [8193, 8195, 95, 1014, 8196], [8197, 8198, 8199, 1014, 8200], [8201, 8203, 96, 1014, 8204], [8205, 8207, 97, 1014, 8208], [8209, 8211, 98, 1014, 8212], [8213, 8215, 99, 1014, 8216], [8217, 8219, 100, 1014, 8220], [8221, 8223, 101, 1014, 8224], [8225, 8226, 8227, 1014, 8228], [8229, 8231, 102, 1014, 8232], [8233, 8234, 8235, 1014, 8236], [9000, 9001, 9002, 1014, 9003], [9004, 9005, 9006, 1014, 9007]] = true := by decide +kernel
theorem am_vK : ∀ x ∈ am_vT, (∀ w ∈ am_vW x, w ∈ am_TG) ∧ am_vD x = true := by
  intro x hx
  obtain ⟨i, hi⟩ := List.getElem?_of_mem hx
  have e : am_vT.length = 283 := by decide +kernel
  have hl := (List.getElem?_eq_some_iff.mp hi).1
  rw [e] at hl
  rcases Nat.lt_or_ge i 48 with hz | hz
  · exact am_ck_in _ _ am_vK0 x (List.mem_of_getElem? (i := i - 0) (by rw [List.getElem?_take_of_lt (by omega), List.getElem?_drop, show 0 + (i - 0) = i by omega]; exact hi))
  rcases Nat.lt_or_ge i 96 with hz | hz
  · exact am_ck_in _ _ am_vK1 x (List.mem_of_getElem? (i := i - 48) (by rw [List.getElem?_take_of_lt (by omega), List.getElem?_drop, show 48 + (i - 48) = i by omega]; exact hi))
  rcases Nat.lt_or_ge i 144 with hz | hz
  · exact am_ck_in _ _ am_vK2 x (List.mem_of_getElem? (i := i - 96) (by rw [List.getElem?_take_of_lt (by omega), List.getElem?_drop, show 96 + (i - 96) = i by omega]; exact hi))
  rcases Nat.lt_or_ge i 192 with hz | hz
  · exact am_ck_in _ _ am_vK3 x (List.mem_of_getElem? (i := i - 144) (by rw [List.getElem?_take_of_lt (by omega), List.getElem?_drop, show 144 + (i - 144) = i by omega]; exact hi))
  rcases Nat.lt_or_ge i 240 with hz | hz
  · exact am_ck_in _ _ am_vK4 x (List.mem_of_getElem? (i := i - 192) (by rw [List.getElem?_take_of_lt (by omega), List.getElem?_drop, show 192 + (i - 192) = i by omega]; exact hi))
  exact am_ck_in _ _ am_vK5 x (List.mem_of_getElem? (i := i - 240) (by rw [List.getElem?_take_of_lt (by omega), List.getElem?_drop, show 240 + (i - 240) = i by omega]; exact hi))
set_option maxRecDepth 100000 in
theorem am_uK0 : am_ck am_uW am_uD ((am_uT.drop 0).take 62) [[2172, 2175, 2173, 2176, 2177, 1003, 2178, 2195], [2172, 2175, 2173, 2180, 2181, 1006, 2182, 2195], [2172, 2175, 2173, 2183, 2184, 1007, 2185, 2195], [2172, 2175, 2173, 2187, 2188, 1005, 2189, 2195], [2172, 2175, 2173, 2194, 2191, 1004, 2192, 2195], [2172, 2175, 2173, 2174, 2173, 1002, 2195, 2195], [2197, 2200, 2198, 2201, 2202, 1003, 2203, 2223], [2197, 2200, 2198, 2205, 2206, 1006, 2207, 2223], [2197, 2200, 2198, 2208, 2209, 1007, 2210, 2223], [2197, 2200, 2198, 2212, 2213, 1005, 2214, 2223], [2197, 2200, 2198, 2222, 2216, 1004, 2217, 2223], [2197, 2200, 2198, 2199, 2198, 1002, 2223, 2223], [2228, 2231, 2229, 2232, 2229, 1002, 3001, 3001], [2228, 2231, 2229, 2233, 2234, 1006, 2235, 3001], [2228, 2231, 2229, 2236, 2237, 1007, 2238, 3001], [2228, 2231, 2229, 2239, 2229, 1002, 3001, 3001], [2228, 2231, 2229, 3000, 2229, 1002, 3001, 3001], [2228, 2231, 2229, 2230, 2229, 1002, 3001, 3001], [4050, 2200, 2198, 2201, 2202, 1003, 2203, 2223], [4050, 2200, 2198, 2205, 2206, 1006, 2207, 2223], [4050, 2200, 2198, 2208, 2209, 1007, 2210, 2223], [4050, 2200, 2198, 2212, 2213, 1005, 2214, 2223], [4050, 2200, 2198, 2222, 2216, 1004, 2217, 2223], [4050, 2200, 2198, 2199, 2198, 1002, 2223, 2223], [5021, 2175, 2173, 2176, 2177, 1003, 2178, 2195], [5021, 2175, 2173, 2180, 2181, 1006, 2182, 2195], [5021, 2175, 2173, 2183, 2184, 1007, 2185, 2195], [5021, 2175, 2173, 2187, 2188, 1005, 2189, 2195], [5021, 2175, 2173, 2194, 2191, 1004, 2192, 2195], [5021, 2175, 2173, 2174, 2173, 1002, 2195, 2195], [5189, 5192, 5190, 5193, 5194, 1003, 5195, 5211], [5189, 5192, 5190, 5201, 5190, 1002, 5211, 5211], [5189, 5192, 5190, 5202, 5190, 1002, 5211, 5211], [5189, 5192, 5190, 5203, 5204, 1005, 5205, 5211], [5189, 5192, 5190, 5210, 5190, 1002, 5211, 5211], [5189, 5192, 5190, 5191, 5190, 1002, 5211, 5211], [5213, 5216, 5214, 5217, 5214, 1002, 5232, 5232], [5213, 5216, 5214, 5218, 5214, 1002, 5232, 5232], [5213, 5216, 5214, 5219, 5220, 1007, 5221, 5232], [5213, 5216, 5214, 5226, 5227, 1004, 5228, 5232], [5213, 5216, 5214, 5231, 5227, 1004, 5228, 5232], [5213, 5216, 5214, 5215, 5214, 1002, 5232, 5232], [5233, 5192, 5190, 5193, 5194, 1003, 5195, 5211], [5233, 5192, 5190, 5201, 5190, 1002, 5211, 5211], [5233, 5192, 5190, 5202, 5190, 1002, 5211, 5211], [5233, 5192, 5190, 5203, 5204, 1005, 5205, 5211], [5233, 5192, 5190, 5210, 5190, 1002, 5211, 5211], [5233, 5192, 5190, 5191, 5190, 1002, 5211, 5211], [5234, 5237, 5235, 5238, 5235, 1002, 6013, 6013], [5234, 5237, 5235, 5239, 6000, 1006, 6001, 6013], [5234, 5237, 5235, 6004, 6005, 1007, 6006, 6013], [5234, 5237, 5235, 6011, 5235, 1002, 6013, 6013], [5234, 5237, 5235, 6012, 5235, 1002, 6013, 6013], [5234, 5237, 5235, 5236, 5235, 1002, 6013, 6013], [6008, 6009, 5190, 6010, 5190, 1002, 5211, 5211], [6014, 6017, 6015, 6018, 6015, 1002, 6032, 6032], [6014, 6017, 6015, 6019, 6015, 1002, 6032, 6032], [6014, 6017, 6015, 6020, 6015, 1002, 6032, 6032], [6014, 6017, 6015, 6021, 6022, 1005, 6023, 6032], [6014, 6017, 6015, 6031, 6015, 1002, 6032, 6032], [6014, 6017, 6015, 6016, 6015, 1002, 6032, 6032], [6027, 6028, 5227, 6030, 5227, 1004, 5228, 5228]] = true := by decide +kernel
set_option maxRecDepth 100000 in
theorem am_uK1 : am_ck am_uW am_uD ((am_uT.drop 62).take 62) [[6033, 5216, 5214, 5217, 5214, 1002, 5232, 5232], [6033, 5216, 5214, 5218, 5214, 1002, 5232, 5232], [6033, 5216, 5214, 5219, 5220, 1007, 5221, 5232], [6033, 5216, 5214, 5226, 5227, 1004, 5228, 5232], [6033, 5216, 5214, 5231, 5227, 1004, 5228, 5232], [6033, 5216, 5214, 5215, 5214, 1002, 5232, 5232], [6034, 5237, 5235, 5238, 5235, 1002, 6013, 6013], [6034, 5237, 5235, 5239, 6000, 1006, 6001, 6013], [6034, 5237, 5235, 6004, 6005, 1007, 6006, 6013], [6034, 5237, 5235, 6011, 5235, 1002, 6013, 6013], [6034, 5237, 5235, 6012, 5235, 1002, 6013, 6013], [6034, 5237, 5235, 5236, 5235, 1002, 6013, 6013]] = true := by decide +kernel
theorem am_uK : ∀ x ∈ am_uT, (∀ w ∈ am_uW x, w ∈ am_TG) ∧ am_uD x = true := by
  intro x hx
  obtain ⟨i, hi⟩ := List.getElem?_of_mem hx
  have e : am_uT.length = 74 := by decide +kernel
  have hl := (List.getElem?_eq_some_iff.mp hi).1
  rw [e] at hl
  rcases Nat.lt_or_ge i 62 with hz | hz
  · exact am_ck_in _ _ am_uK0 x (List.mem_of_getElem? (i := i - 0) (by rw [List.getElem?_take_of_lt (by omega), List.getElem?_drop, show 0 + (i - 0) = i by omega]; exact hi))
  exact am_ck_in _ _ am_uK1 x (List.mem_of_getElem? (i := i - 62) (by rw [List.getElem?_take_of_lt (by omega), List.getElem?_drop, show 62 + (i - 62) = i by omega]; exact hi))
set_option maxRecDepth 100000 in
theorem am_tK0 : am_ck am_tW am_tD ((am_tT.drop 0).take 62) [[1111, 1112, 1010, 1113], [2088, 1112, 1010, 1113], [2133, 2134, 1001, 2135], [2136, 2137, 1001, 2138], [2139, 2140, 1001, 2141], [2142, 2143, 1001, 2144], [2145, 2146, 1001, 2147], [3023, 3024, 1001, 3025], [3042, 3043, 1001, 3044], [3093, 3094, 1011, 3095], [3131, 3132, 1017, 3133], [3134, 3135, 1016, 3136], [3139, 3140, 1018, 3141], [3186, 3187, 1011, 3188], [3226, 3227, 1011, 3228], [4051, 4052, 1008, 4053], [4159, 4160, 1001, 4161], [4204, 4205, 1001, 4206], [4211, 4212, 1001, 4213], [5010, 5011, 1012, 5012], [5013, 5014, 1012, 5015], [5027, 5011, 1012, 5012], [5028, 5014, 1012, 5015], [5037, 5038, 1021, 5039], [5110, 5111, 1001, 5112], [5113, 5114, 1010, 5115], [5124, 5125, 1001, 5126], [5131, 5132, 1001, 5133], [5161, 5162, 1001, 5163], [5180, 3011, 1001, 3012], [6043, 5038, 1021, 5039], [6191, 6192, 1014, 6193], [6195, 6196, 1014, 6197], [6198, 6199, 1014, 6200], [6203, 6204, 1014, 6205], [6223, 6224, 1014, 6225], [6238, 6239, 1014, 7000], [7009, 7010, 1014, 7011], [7028, 7029, 1014, 7030], [7073, 7074, 1014, 7075], [7161, 7162, 1014, 7163], [8066, 8067, 1014, 8068], [8071, 8072, 1014, 8073], [8148, 8149, 1014, 8150], [8155, 8156, 1014, 8157], [8237, 8238, 1014, 8239]] = true := by decide +kernel
theorem am_tK : ∀ x ∈ am_tT, (∀ w ∈ am_tW x, w ∈ am_TG) ∧ am_tD x = true := by
  intro x hx
  obtain ⟨i, hi⟩ := List.getElem?_of_mem hx
  have e : am_tT.length = 46 := by decide +kernel
  have hl := (List.getElem?_eq_some_iff.mp hi).1
  rw [e] at hl
  exact am_ck_in _ _ am_tK0 x (List.mem_of_getElem? (i := i - 0) (by rw [List.getElem?_take_of_lt (by omega), List.getElem?_drop, show 0 + (i - 0) = i by omega]; exact hi))
set_option maxRecDepth 100000 in
theorem am_tnK0 : am_ck am_tnW am_tD ((am_tnT.drop 0).take 62) [[3011, 1001, 3012], [2137, 1001, 2138], [3043, 1001, 3044], [2137, 1001, 2138], [4205, 1001, 4206]] = true := by decide +kernel
theorem am_tnK : ∀ x ∈ am_tnT, (∀ w ∈ am_tnW x, w ∈ am_TG) ∧ am_tD x = true := by
  intro x hx
  obtain ⟨i, hi⟩ := List.getElem?_of_mem hx
  have e : am_tnT.length = 5 := by decide +kernel
  have hl := (List.getElem?_eq_some_iff.mp hi).1
  rw [e] at hl
  exact am_ck_in _ _ am_tnK0 x (List.mem_of_getElem? (i := i - 0) (by rw [List.getElem?_take_of_lt (by omega), List.getElem?_drop, show 0 + (i - 0) = i by omega]; exact hi))
set_option maxRecDepth 100000 in
theorem am_iK0 : am_ck am_iW am_iD ((am_iT.drop 0).take 62) [[1024, 1025, 1001, 1026], [1075, 1076, 1008, 1077], [1233, 1234, 1012, 1235], [6059, 6060, 1014, 6061]] = true := by decide +kernel
theorem am_iK : ∀ x ∈ am_iT, (∀ w ∈ am_iW x, w ∈ am_TG) ∧ am_iD x = true := by
  intro x hx
  obtain ⟨i, hi⟩ := List.getElem?_of_mem hx
  have e : am_iT.length = 4 := by decide +kernel
  have hl := (List.getElem?_eq_some_iff.mp hi).1
  rw [e] at hl
  exact am_ck_in _ _ am_iK0 x (List.mem_of_getElem? (i := i - 0) (by rw [List.getElem?_take_of_lt (by omega), List.getElem?_drop, show 0 + (i - 0) = i by omega]; exact hi))
set_option maxRecDepth 100000 in
theorem am_inK0 : am_ck am_inW am_iD ((am_inT.drop 0).take 62) [[1034, 1002, 1035], [1041, 1003, 1042], [1034, 1002, 1035], [1048, 1004, 1049], [1034, 1002, 1035], [1055, 1005, 1056], [1048, 1004, 1049], [1062, 1006, 1063], [1034, 1002, 1035], [1069, 1007, 1070], [1062, 1006, 1063], [1082, 1009, 1083], [1203, 1011, 1204], [1082, 1009, 1083], [2060, 1013, 2061]] = true := by decide +kernel
theorem am_inK : ∀ x ∈ am_inT, (∀ w ∈ am_inW x, w ∈ am_TG) ∧ am_iD x = true := by
  intro x hx
  obtain ⟨i, hi⟩ := List.getElem?_of_mem hx
  have e : am_inT.length = 15 := by decide +kernel
  have hl := (List.getElem?_eq_some_iff.mp hi).1
  rw [e] at hl
  exact am_ck_in _ _ am_inK0 x (List.mem_of_getElem? (i := i - 0) (by rw [List.getElem?_take_of_lt (by omega), List.getElem?_drop, show 0 + (i - 0) = i by omega]; exact hi))
set_option maxRecDepth 100000 in
theorem am_pK0 : am_ck am_pW am_pD ((am_pT.drop 0).take 62) [[2179, 2175, 1044, 1044, 2173, 1002, 2195], [2186, 9009, 1072, 1072, 2181, 1006, 2182], [2190, 9010, 1058, 1058, 2191, 1004, 2192], [2193, 2175, 1051, 1051, 2173, 1002, 2195], [2204, 2200, 1044, 1044, 2198, 1002, 2223], [2211, 9011, 1072, 1072, 2206, 1006, 2207], [2215, 9012, 1058, 1058, 2216, 1004, 2217], [2218, 2200, 1051, 1051, 2198, 1002, 2223], [5200, 5192, 1044, 1044, 5190, 1002, 5211], [5207, 5208, 1058, 1051, 5190, 1002, 5211], [5223, 5224, 1072, 1065, 5214, 1002, 5232], [5230, 5216, 1051, 1051, 5214, 1002, 5232], [6003, 5237, 1065, 1065, 5235, 1002, 6013], [6007, 9013, 1072, 1072, 6000, 1006, 6001], [6024, 6025, 1058, 1051, 6015, 1002, 6032]] = true := by decide +kernel
theorem am_pK : ∀ x ∈ am_pT, (∀ w ∈ am_pW x, w ∈ am_TG) ∧ am_pD x = true := by
  intro x hx
  obtain ⟨i, hi⟩ := List.getElem?_of_mem hx
  have e : am_pT.length = 15 := by decide +kernel
  have hl := (List.getElem?_eq_some_iff.mp hi).1
  rw [e] at hl
  exact am_ck_in _ _ am_pK0 x (List.mem_of_getElem? (i := i - 0) (by rw [List.getElem?_take_of_lt (by omega), List.getElem?_drop, show 0 + (i - 0) = i by omega]; exact hi))
set_option maxRecDepth 100000 in
theorem am_fK0 : am_ck am_fW am_fD ((am_fT.drop 0).take 62) [[2067], [2069], [2000], [2001], [2002], [2003], [2006], [2018], [2022], [1239], [1115], [1121], [1149], [1143], [1129], [1146], [1119], [2004], [2005], [2008], [2010], [2012], [2014], [1133], [2016], [1159], [1135], [1151], [1153], [1155], [1126], [2020], [2065], [1210], [1212], [1213], [1215], [1208], [1214], [1211], [1086], [1089], [1090], [1091], [1092], [1093], [1094], [1085], [1088], [1137], [1139], [1141], [1144], [1147], [1150], [1152], [1154], [1156], [1160], [1158], [1117], [1120]] = true := by decide +kernel
set_option maxRecDepth 100000 in
theorem am_fK1 : am_ck am_fW am_fD ((am_fT.drop 62).take 62) [[1125], [1114], [1123], [1128], [1131], [1134], [2075], [2063], [2066], [2070], [2073], [2064], [2068], [2071], [2091], [2092], [2093], [2094], [2095], [2096], [2097], [2098], [2099], [2100], [2101], [2102], [1140], [1142], [1145], [1148], [1138], [1116], [1118], [1122], [1124], [1132], [1157], [2019], [2009], [2007], [2011], [2013], [2015], [2017], [1136], [1127], [2023], [2072], [2074], [2076], [1130], [1087], [2021], [1209], [6063], [6064], [6065], [6067], [6068], [6069], [6070], [6071]] = true := by decide +kernel
set_option maxRecDepth 100000 in
theorem am_fK2 : am_ck am_fW am_fD ((am_fT.drop 124).take 62) [[6082], [6084], [6092], [6093], [6094], [6095], [6096], [6097], [6098], [6072], [6073], [6077], [6075], [6076], [6074], [6078], [6079], [6080], [6081], [6083], [6085], [6087], [6086], [6091], [6088], [6090], [6089], [6103], [6099], [6102], [6100], [6101], [6066], [9019], [9020]] = true := by decide +kernel
theorem am_fK : ∀ x ∈ am_fT, (∀ w ∈ am_fW x, w ∈ am_TG) ∧ am_fD x = true := by
  intro x hx
  obtain ⟨i, hi⟩ := List.getElem?_of_mem hx
  have e : am_fT.length = 159 := by decide +kernel
  have hl := (List.getElem?_eq_some_iff.mp hi).1
  rw [e] at hl
  rcases Nat.lt_or_ge i 62 with hz | hz
  · exact am_ck_in _ _ am_fK0 x (List.mem_of_getElem? (i := i - 0) (by rw [List.getElem?_take_of_lt (by omega), List.getElem?_drop, show 0 + (i - 0) = i by omega]; exact hi))
  rcases Nat.lt_or_ge i 124 with hz | hz
  · exact am_ck_in _ _ am_fK1 x (List.mem_of_getElem? (i := i - 62) (by rw [List.getElem?_take_of_lt (by omega), List.getElem?_drop, show 62 + (i - 62) = i by omega]; exact hi))
  exact am_ck_in _ _ am_fK2 x (List.mem_of_getElem? (i := i - 124) (by rw [List.getElem?_take_of_lt (by omega), List.getElem?_drop, show 124 + (i - 124) = i by omega]; exact hi))
set_option maxRecDepth 100000 in
theorem am_cK0 : am_ck am_cW (fun _ => true) ((am_cT.drop 0).take 62) [[5040], [5041], [5042], [5056], [8018]] = true := by decide +kernel
theorem am_cK : ∀ x ∈ am_cT, (∀ w ∈ am_cW x, w ∈ am_TG) ∧ (fun _ => true) x = true := by
  intro x hx
  obtain ⟨i, hi⟩ := List.getElem?_of_mem hx
  have e : am_cT.length = 5 := by decide +kernel
  have hl := (List.getElem?_eq_some_iff.mp hi).1
  rw [e] at hl
  exact am_ck_in _ _ am_cK0 x (List.mem_of_getElem? (i := i - 0) (by rw [List.getElem?_take_of_lt (by omega), List.getElem?_drop, show 0 + (i - 0) = i by omega]; exact hi))
set_option maxRecDepth 100000 in
theorem am_lK0 : am_ck am_lW (fun _ => true) ((am_lT.drop 0).take 62) [[6194], [6201], [6202], [6214], [7031], [7040], [7084], [7164], [7189], [8023], [8024], [8053], [8069], [8070], [8074], [8075], [8088], [8089], [8090], [8091], [8092], [8093], [8094], [8095], [8100], [8113], [8126], [8127], [8128], [8129], [8130], [8139], [8140], [8141], [8142], [8143], [8174], [8191], [8192], [9008]] = true := by decide +kernel
theorem am_lK : ∀ x ∈ am_lT, (∀ w ∈ am_lW x, w ∈ am_TG) ∧ (fun _ => true) x = true := by
  intro x hx
  obtain ⟨i, hi⟩ := List.getElem?_of_mem hx
  have e : am_lT.length = 40 := by decide +kernel
  have hl := (List.getElem?_eq_some_iff.mp hi).1
  rw [e] at hl
  exact am_ck_in _ _ am_lK0 x (List.mem_of_getElem? (i := i - 0) (by rw [List.getElem?_take_of_lt (by omega), List.getElem?_drop, show 0 + (i - 0) = i by omega]; exact hi))
set_option maxRecDepth 100000 in
theorem am_nK0 : am_ck am_nW (fun q => decide (q.2.2 < 13)) ((am_nT.drop 0).take 62) [[1022, 1023, 1001], [1030, 1032, 1002], [1038, 1039, 1003], [1045, 1046, 1004], [1052, 1053, 1005], [1059, 1060, 1006], [1066, 1067, 1007], [1073, 1074, 1008], [1079, 1080, 1009], [1200, 1201, 1011], [1206, 1080, 1009], [1231, 1232, 1012], [2057, 2058, 1013], [6057, 6058, 1014]] = true := by decide +kernel
theorem am_nK : ∀ x ∈ am_nT, (∀ w ∈ am_nW x, w ∈ am_TG) ∧ (fun q => decide (q.2.2 < 13)) x = true := by
  intro x hx
  obtain ⟨i, hi⟩ := List.getElem?_of_mem hx
  have e : am_nT.length = 14 := by decide +kernel
  have hl := (List.getElem?_eq_some_iff.mp hi).1
  rw [e] at hl
  exact am_ck_in _ _ am_nK0 x (List.mem_of_getElem? (i := i - 0) (by rw [List.getElem?_take_of_lt (by omega), List.getElem?_drop, show 0 + (i - 0) = i by omega]; exact hi))
set_option maxRecDepth 100000 in
theorem am_oK0 : am_ck am_oW (fun _ => true) ((am_oT.drop 0).take 62) [[1027, 1028, 1029], [1036, 1028, 1029], [1078, 1028, 1029], [1084, 1028, 1029], [1205, 1028, 1029], [1236, 1028, 1029], [2062, 1028, 1029], [6062, 1028, 1029]] = true := by decide +kernel
theorem am_oK : ∀ x ∈ am_oT, (∀ w ∈ am_oW x, w ∈ am_TG) ∧ (fun _ => true) x = true := by
  intro x hx
  obtain ⟨i, hi⟩ := List.getElem?_of_mem hx
  have e : am_oT.length = 8 := by decide +kernel
  have hl := (List.getElem?_eq_some_iff.mp hi).1
  rw [e] at hl
  exact am_ck_in _ _ am_oK0 x (List.mem_of_getElem? (i := i - 0) (by rw [List.getElem?_take_of_lt (by omega), List.getElem?_drop, show 0 + (i - 0) = i by omega]; exact hi))
set_option maxRecDepth 100000 in
theorem am_mK0 : am_ck am_mW (fun q => decide (q.2.2 < 3)) ((am_mT.drop 0).take 62) [[2219, 2220, 1015, 2221], [4032, 4033, 1015, 4034], [4035, 2220, 1015, 2221], [4045, 4046, 1015, 4047], [4121, 4046, 1015, 4047], [4170, 4033, 1015, 4034], [4171, 2220, 1015, 2221]] = true := by decide +kernel
theorem am_mK : ∀ x ∈ am_mT, (∀ w ∈ am_mW x, w ∈ am_TG) ∧ (fun q => decide (q.2.2 < 3)) x = true := by
  intro x hx
  obtain ⟨i, hi⟩ := List.getElem?_of_mem hx
  have e : am_mT.length = 7 := by decide +kernel
  have hl := (List.getElem?_eq_some_iff.mp hi).1
  rw [e] at hl
  exact am_ck_in _ _ am_mK0 x (List.mem_of_getElem? (i := i - 0) (by rw [List.getElem?_take_of_lt (by omega), List.getElem?_drop, show 0 + (i - 0) = i by omega]; exact hi))
set_option maxRecDepth 100000 in
theorem am_yK0 : am_ck am_yW (fun _ => true) ((am_yT.drop 0).take 62) [[4001, 4003, 4002, 1020], [4071, 4003, 4002, 1020], [4180, 4003, 4002, 1020]] = true := by decide +kernel
theorem am_yK : ∀ x ∈ am_yT, (∀ w ∈ am_yW x, w ∈ am_TG) ∧ (fun _ => true) x = true := by
  intro x hx
  obtain ⟨i, hi⟩ := List.getElem?_of_mem hx
  have e : am_yT.length = 3 := by decide +kernel
  have hl := (List.getElem?_eq_some_iff.mp hi).1
  rw [e] at hl
  exact am_ck_in _ _ am_yK0 x (List.mem_of_getElem? (i := i - 0) (by rw [List.getElem?_take_of_lt (by omega), List.getElem?_drop, show 0 + (i - 0) = i by omega]; exact hi))
set_option maxRecDepth 100000 in
theorem am_aK0 : am_ck am_aW (fun _ => true) ((am_aT.drop 0).take 62) [[1030], [1237], [2089]] = true := by decide +kernel
theorem am_aK : ∀ x ∈ am_aT, (∀ w ∈ am_aW x, w ∈ am_TG) ∧ (fun _ => true) x = true := by
  intro x hx
  obtain ⟨i, hi⟩ := List.getElem?_of_mem hx
  have e : am_aT.length = 3 := by decide +kernel
  have hl := (List.getElem?_eq_some_iff.mp hi).1
  rw [e] at hl
  exact am_ck_in _ _ am_aK0 x (List.mem_of_getElem? (i := i - 0) (by rw [List.getElem?_take_of_lt (by omega), List.getElem?_drop, show 0 + (i - 0) = i by omega]; exact hi))
theorem am_nestK : ∀ w ∈ am_nestL, w ∈ lw_tbl := am_atL_in _ [3010, 3205, 4031, 5020, 5043, 1033, 1040, 1043, 1047, 1050, 1054, 1057, 1061, 1064, 1068, 1071, 1081, 1202, 1207, 2059] (by decide +kernel)
theorem am_arI : Jvm.Cond.arrayClass .int ∈ am_TG := am_at_in [.arrayClass .int] [1110] (by decide +kernel) _ List.mem_cons_self
theorem am_arJ : Jvm.Cond.arrayClass .long ∈ am_TG := am_at_in [.arrayClass .long] [2128] (by decide +kernel) _ List.mem_cons_self
theorem am_ovK : ∀ w ∈ ([.arrayOver (.object "VoiceNets$Voice"), .arrayOver (.array .int), .arrayOver (.array .long)] : List Jvm.Cond), w ∈ lw_tbl := am_atL_in _ [1031, 1238, 2090] (by decide +kernel)
