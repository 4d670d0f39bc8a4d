/-! the tables' entries are words of lw_tbl, each by its place (written by wip/whole/gen_facts.py) -/
def am_TG : List Jvm.Cond := lw_tbl.filter goodWord
def am_tb (k : Nat) : List Jvm.Cond := match k with
  | 0 => k2_sels lw_privs
  | 1 => tables_1_1
  | 2 => tables_1_2
  | 3 => tables_1_3
  | 4 => tables_1_4
  | 5 => tables_1_5
  | 6 => tables_1_6
  | 7 => tables_1_7
  | 8 => tables_1_8
  | 9 => tables_1_9
  | _ => []
theorem am_tb_in (k : Nat) : ∀ w ∈ am_tb k, w ∈ lw_tbl := by
  intro w hw
  unfold lw_tbl tables_1
  unfold am_tb at hw
  split at hw <;> simp only [List.mem_append, hw, true_or, or_true]
  exact absurd hw List.not_mem_nil
def am_at : List Jvm.Cond → List Nat → Bool
  | [], [] => true
  | w :: ws, p :: ps => decide ((am_tb (p / 1000))[p % 1000]? = some w) && goodWord w && am_at ws ps
  | _, _ => false
theorem am_at_in : ∀ (ws : List Jvm.Cond) (ps : List Nat), am_at ws ps = true → ∀ w ∈ ws, w ∈ am_TG
  | [], _, _, w, hw => by cases hw
  | x :: ws, [], h, w, hw => by simp [am_at] at h
  | x :: ws, p :: ps, h, w, hw => by
    simp only [am_at, Bool.and_eq_true, decide_eq_true_eq] at h
    rcases List.mem_cons.mp hw with hw | hw
    · subst hw
      exact List.mem_filter.mpr ⟨am_tb_in _ _ (List.mem_of_getElem? h.1.1), h.1.2⟩
    · exact am_at_in ws ps h.2 w hw
def am_ck {α : Type} (f : α → List Jvm.Cond) (d : α → Bool) : List α → List (List Nat) → Bool
  | [], [] => true
  | x :: l, p :: ps => am_at (f x) p && d x && am_ck f d l ps
  | _, _ => false
theorem am_ck_in {α : Type} {f : α → List Jvm.Cond} {d : α → Bool} : ∀ (l : List α) (ps : List (List Nat)), am_ck f d l ps = true → ∀ x ∈ l, (∀ w ∈ f x, w ∈ am_TG) ∧ d x = true
  | [], _, _, x, hx => by cases hx
  | y :: l, [], h, x, hx => by simp [am_ck] at h
  | y :: l, p :: ps, h, x, hx => by
    simp only [am_ck, Bool.and_eq_true] at h
    rcases List.mem_cons.mp hx with hx | hx
    · subst hx
      exact ⟨am_at_in _ _ h.1.1, h.1.2⟩
    · exact am_ck_in l ps h.2 x hx
def am_wc (N : am_Me) : Jvm.Cond := .code N.2.1 N.2.2.1 N.2.2.2.1 N.2.2.2.2
/-- of a method that is called: n parameters, and what a contract wants -/
def am_dM (n : Nat) (N : am_Me) : Bool := plainName N.2.1.cls && decide (N.2.2.2.1 ≤ 40) && decide (am_R N.1 = N.2.1.cls) && decide (N.2.1.cls ≠ "java/lang/invoke/MethodHandle") && decide (N.2.1.cls ≠ "java/lang/invoke/VarHandle") && decide ((parseMethodDescriptor N.2.1.desc).map (fun d => d.parameters.length) = some n)
def am_nM (n : Nat) (y : MethodName) : Bool := decide (y.cls ≠ "java/lang/invoke/MethodHandle") && decide (y.cls ≠ "java/lang/invoke/VarHandle") && decide ((parseMethodDescriptor y.desc).map (fun d => d.parameters.length) = some n)
def am_vW (q : Nat × Nat × Nat × Nat × am_Me) : List Jvm.Cond := [.methodLink (am_R q.1) q.2.1 q.2.2.2.2.2.1, .instanceMethod q.2.2.2.2.2.1, .selects (am_R q.2.2.1) q.2.2.2.2.2.1 q.2.2.2.2.2.1, .initialized (am_R q.2.2.1), am_wc q.2.2.2.2]
def am_vD (q : Nat × Nat × Nat × Nat × am_Me) : Bool := am_dM q.2.2.2.1 q.2.2.2.2 && decide (q.2.2.2.2.2.1.cls = am_R q.2.2.1) && decide (q.2.2.1 < 14)
def am_uo (q : Nat × Nat × Nat × Nat × am_Me × MethodName × String) : MethodName := ⟨q.2.2.2.2.2.2, q.2.2.2.2.2.1.name, q.2.2.2.2.2.1.desc⟩
def am_ub (q : Nat × Nat × Nat × Nat × am_Me × MethodName × String) : am_Me := ((am_MT.find? (fun e => decide (e.2.2.2.1 = am_uo q))).map (fun e => e.2.2)).getD mX0_init
def am_uW (q : Nat × Nat × Nat × Nat × am_Me × MethodName × String) : List Jvm.Cond := [.methodLink (am_R q.1) q.2.1 q.2.2.2.2.2.1, .sameMethod q.2.2.2.2.2.1.cls q.2.2.2.2.2.2 q.2.2.2.2.2.1.name q.2.2.2.2.2.1.desc, .instanceMethod (am_uo q), .selects (am_R q.2.2.1) q.2.2.2.2.2.1 q.2.2.2.2.1.2.1, .instanceMethod q.2.2.2.2.1.2.1, .initialized q.2.2.2.2.1.2.1.cls, am_wc q.2.2.2.2.1, am_wc (am_ub q)]
def am_uD (q : Nat × Nat × Nat × Nat × am_Me × MethodName × String) : Bool := am_dM q.2.2.2.1 q.2.2.2.2.1 && am_nM q.2.2.2.1 ⟨q.2.2.2.2.2.2, "", q.2.2.2.2.2.1.desc⟩ && decide ((am_ub q).2.1 = am_uo q) && decide (q.2.2.1 < 13)
def am_tW (q : Nat × Nat × Nat × am_Me) : List Jvm.Cond := [.methodLink (am_R q.1) q.2.1 q.2.2.2.2.1, .static q.2.2.2.2.1, .initialized q.2.2.2.2.1.cls, am_wc q.2.2.2]
def am_tD (q : Nat × Nat × Nat × am_Me) : Bool := am_dM q.2.2.1 q.2.2.2
def am_tnW (q : Nat × Nat × Nat × am_Me) : List Jvm.Cond := [.static q.2.2.2.2.1, .initialized q.2.2.2.2.1.cls, am_wc q.2.2.2]
def am_iW (q : Nat × Nat × Nat × am_Me) : List Jvm.Cond := [.methodLink (am_R q.1) q.2.1 q.2.2.2.2.1, .instanceMethod q.2.2.2.2.1, .initialized q.2.2.2.2.1.cls, am_wc q.2.2.2]
def am_inW (q : Nat × Nat × Nat × am_Me) : List Jvm.Cond := [.instanceMethod q.2.2.2.2.1, .initialized q.2.2.2.2.1.cls, am_wc q.2.2.2]
def am_iD (q : Nat × Nat × Nat × am_Me) : Bool := am_dM q.2.2.1 q.2.2.2 && decide (q.2.2.2.2.1.name = "<init>") && decide (q.2.2.2.2.2.2.2 = none)
def am_pW (q : Nat × Nat × Nat × am_Me × MethodName × String) : List Jvm.Cond := [.methodLink (am_R q.1) q.2.1 q.2.2.2.2.1, .sameMethod q.2.2.2.2.1.cls q.2.2.2.2.2 q.2.2.2.2.1.name q.2.2.2.2.1.desc, .superclass (am_R q.1) q.2.2.2.2.1.cls, (if q.2.2.2.2.1.cls = q.2.2.2.2.2 then .superclass (am_R q.1) q.2.2.2.2.1.cls else .superclass q.2.2.2.2.1.cls q.2.2.2.2.2), .instanceMethod q.2.2.2.1.2.1, .initialized q.2.2.2.1.2.1.cls, am_wc q.2.2.2.1]
def am_pD (q : Nat × Nat × Nat × am_Me × MethodName × String) : Bool := am_dM q.2.2.1 q.2.2.2.1 && decide (q.2.2.2.1.2.1 = ⟨q.2.2.2.2.2, q.2.2.2.2.1.name, q.2.2.2.2.1.desc⟩) && decide (q.2.2.2.2.1.name ≠ "<init>")
def am_sF (j : Nat) : String × String := if j = 0 then ("value", "[B") else ("coder", "B")
def am_cq (k : Nat) : vw_C := vwCl.getD k ("", TX0, 0)
def am_fW (q : Nat × Nat × Nat × Nat) : List Jvm.Cond := if q.2.2.1 = 13 then [.fieldLink (am_R q.1) q.2.1 "java/lang/String" (am_sF q.2.2.2).1 (am_sF q.2.2.2).2] else [.fieldLink (am_R q.1) q.2.1 (am_R q.2.2.1) ((am_cq q.2.2.1).2.1 q.2.2.2).2.1 ((am_cq q.2.2.1).2.1 q.2.2.2).2.2.1]
def am_fD (q : Nat × Nat × Nat × Nat) : Bool := decide (q.2.2.1 = 13 ∧ q.2.2.2 < 2) || (decide (q.2.2.1 < 13) && decide (q.2.2.2 < (am_cq q.2.2.1).2.2) && decide (((am_cq q.2.2.1).2.1 q.2.2.2).1 = am_R q.2.2.1))
def am_cW (q : Nat × Nat × Int32) : List Jvm.Cond := [.constant (am_R q.1) q.2.1 q.2.2]
def am_lW (q : Nat × Nat × Int64) : List Jvm.Cond := [.constantLong (am_R q.1) q.2.1 q.2.2]
def am_nW (q : Nat × Nat × Nat) : List Jvm.Cond := [.classLink (am_R q.1) q.2.1 (am_R q.2.2), .instantiable (am_R q.2.2) (am_nf q.2.2), .initialized (am_R q.2.2)]
def am_mW (q : Nat × Nat × Nat) : List Jvm.Cond := match q.2.2 with
  | 0 => [.methodLink (am_R q.1) q.2.1 Lib.Math.max.name, .static Lib.Math.max.name, .initialized "java/lang/Math", .code Lib.Math.max.name Lib.Math.max.code 2 (some .int)]
  | 1 => [.methodLink (am_R q.1) q.2.1 Lib.Math.min.name, .static Lib.Math.min.name, .initialized "java/lang/Math", .code Lib.Math.min.name Lib.Math.min.code 2 (some .int)]
  | _ => [.methodLink (am_R q.1) q.2.1 Lib.Math.abs.name, .static Lib.Math.abs.name, .initialized "java/lang/Math", .code Lib.Math.abs.name Lib.Math.abs.code 1 (some .int)]
def am_nestL : List Jvm.Cond := am_tnT.map (fun q => .methodLinkNest (am_R q.1) q.2.1 q.2.2.2.2.1 "VoiceNets") ++ am_inT.map (fun q => .methodLinkNest (am_R q.1) q.2.1 q.2.2.2.2.1 "VoiceNets")
def am_atL : List Jvm.Cond → List Nat → Bool
  | [], [] => true
  | w :: ws, p :: ps => decide ((am_tb (p / 1000))[p % 1000]? = some w) && am_atL ws ps
  | _, _ => false
theorem am_atL_in : ∀ (ws : List Jvm.Cond) (ps : List Nat), am_atL ws ps = true → ∀ w ∈ ws, w ∈ lw_tbl
  | [], _, _, w, hw => by cases hw
  | x :: ws, [], h, w, hw => by simp [am_atL] at h
  | x :: ws, p :: ps, h, w, hw => by
    simp only [am_atL, Bool.and_eq_true, decide_eq_true_eq] at h
    rcases List.mem_cons.mp hw with hw | hw
    · subst hw
      exact am_tb_in _ _ (List.mem_of_getElem? h.1)
    · exact am_atL_in ws ps h.2 w hw
def am_oW (q : Nat × Nat) : List Jvm.Cond := [.methodLink (am_R q.1) q.2 Lib.objectInit, .instanceMethod Lib.objectInit, .code Lib.objectInit ⟨#[0xb1]⟩ 1 none]
def am_yW (q : Nat × Nat) : List Jvm.Cond := [.methodLink (am_R q.1) q.2 arraycopyName, .native arraycopyName, .static arraycopyName, .initialized "java/lang/System"]
def am_aN (t : Nat) : String := if t = 22 then "VoiceNets$Voice" else if t = 23 then "[[I" else "[[J"
def am_aW (q : Nat × Nat × Nat) : List Jvm.Cond := [.classLink (am_R q.1) q.2.1 (am_aN q.2.2)]
set_option maxRecDepth 100000 in
theorem am_vK0 : am_ck am_vW am_vD ((am_vT.drop 0).take 48) [[2129, 2130, 2131, 1001, 2132], [2148, 2149, 2150, 1008, 2151], [2152, 2153, 2154, 1001, 2155], [2156, 2157, 2158, 1008, 2159], [2160, 2161, 2162, 1008, 2163], [2164, 2165, 2166, 1008, 2167], [2168, 2169, 2170, 1008, 2171], [2196, 2169, 2170, 1008, 2171], [2224, 2225, 2226, 1008, 2227], [3002, 3003, 3004, 1008, 3005], [3006, 3007, 3008, 1009, 3009], [3015, 3017, 0, 1009, 3018], [3019, 3020, 3021, 1001, 3022], [3026, 3028, 1, 1001, 3029], [3030, 3031, 3032, 1008, 3033], [3034, 3035, 3036, 1001, 3037], [3038, 3039, 3040, 1001, 3041], [3045, 3046, 3047, 1001, 3048], [3049, 3050, 3051, 1001, 3052], [3053, 3055, 2, 1001, 3056], [3057, 3059, 3, 1001, 3060], [3061, 3062, 3063, 1001, 3064], [3065, 3066, 3067, 1001, 3068], [3069, 3070, 3071, 1008, 3072], [3073, 3074, 3075, 1001, 3076], [3077, 3078, 3079, 1011, 3080], [3081, 3082, 3083, 1001, 3084], [3085, 3086, 3087, 1011, 3088], [3089, 3091, 4, 1011, 3092], [3096, 3098, 5, 1011, 3099], [3100, 3102, 6, 1011, 3103], [3104, 3106, 7, 1011, 3107], [3109, 3111, 8, 1011, 3112], [3113, 3114, 3115, 1016, 3116], [3117, 3118, 3119, 1016, 3120], [3123, 3124, 3125, 1016, 3126], [3127, 3128, 3129, 1016, 3130], [3166, 3168, 9, 1011, 3169], [3182, 3184, 10, 1011, 3185], [3189, 3191, 11, 1011, 3192], [3193, 3194, 3195, 1009, 3196], [3197, 3199, 12, 1011, 3200], [3201, 3203, 13, 1011, 3204], [3206, 3208, 14, 1011, 3209], [3210, 3212, 15, 1011, 3213], [3214, 3216, 16, 1011, 3217], [3218, 3220, 17, 1011, 3221], [3222, 3224, 18, 1011, 3225]] = true := by decide +kernel
set_option maxRecDepth 100000 in
theorem am_vK1 : am_ck am_vW am_vD ((am_vT.drop 48).take 48) [[3229, 3230, 3231, 1009, 3232], [3233, 3234, 3235, 1009, 3236], [3237, 3238, 3239, 1009, 4000], [4004, 4005, 4006, 1011, 4007], [4009, 4010, 4011, 1001, 4012], [4013, 4014, 4015, 1008, 4016], [4017, 2161, 2162, 1008, 2163], [4018, 4019, 4020, 1008, 4021], [4022, 3070, 3071, 1008, 3072], [4023, 4024, 4025, 1008, 4026], [4027, 2165, 2166, 1008, 2167], [4028, 4029, 4030, 1008, 4031], [4037, 4038, 4039, 1008, 4040], [4041, 2157, 2158, 1008, 2159], [4042, 4044, 19, 1008, 4045], [4049, 2225, 2226, 1008, 2227], [4050, 3003, 3004, 1008, 3005], [4055, 3031, 3032, 1008, 3033], [4056, 4057, 4058, 1001, 4059], [4060, 4061, 4062, 1012, 4063], [4064, 4065, 4066, 1012, 4067], [4068, 4069, 4070, 1008, 4071], [4073, 3070, 3071, 1008, 3072], [4074, 4014, 4015, 1008, 4016], [4075, 4019, 4020, 1008, 4021], [4076, 4077, 4078, 1012, 4079], [4080, 4081, 4082, 1008, 4083], [4084, 4085, 4086, 1001, 4087], [4088, 4089, 4090, 1012, 4091], [4092, 2161, 2162, 1008, 2163], [4093, 4094, 4095, 1001, 4096], [4097, 4098, 4099, 1012, 4100], [4101, 4061, 4062, 1012, 4063], [4102, 4103, 4104, 1001, 4105], [4106, 4107, 4108, 1012, 4109], [4110, 4111, 4112, 1001, 4113], [4114, 4115, 4116, 1012, 4117], [4118, 4120, 20, 1012, 4121], [4123, 4124, 4125, 1001, 4126], [4127, 4128, 4129, 1012, 4130], [4131, 4133, 21, 1012, 4134], [4135, 4137, 22, 1012, 4138], [4139, 4140, 4141, 1001, 4142], [4143, 4144, 4145, 1012, 4146], [4147, 4148, 4149, 1012, 4150], [4151, 4153, 23, 1012, 4154], [4155, 4148, 4149, 1012, 4150], [4156, 4157, 4158, 1001, 4159]] = true := by decide +kernel
set_option maxRecDepth 100000 in
theorem am_vK2 : am_ck am_vW am_vD ((am_vT.drop 96).take 48) [[4163, 4164, 4165, 1012, 4166], [4167, 4168, 4169, 1012, 4170], [4173, 4175, 24, 1012, 4176], [4177, 4179, 25, 1012, 4180], [4182, 4024, 4025, 1008, 4026], [4183, 4038, 4039, 1008, 4040], [4184, 4185, 4186, 1001, 4187], [4188, 4168, 4169, 1012, 4170], [4189, 4190, 4191, 1001, 4192], [4193, 4194, 4195, 1001, 4196], [4197, 4198, 4199, 1008, 4200], [4201, 4202, 4203, 1001, 4204], [4208, 4209, 4210, 1001, 4211], [4215, 4216, 4217, 1012, 4218], [4219, 4221, 26, 1012, 4222], [4223, 4224, 4225, 1001, 4226], [4227, 4228, 4229, 1001, 4230], [4231, 4232, 4233, 1008, 4234], [4235, 4236, 4237, 1001, 4238], [4239, 5000, 5001, 1001, 5002], [5003, 5004, 5005, 1012, 5006], [5007, 5009, 27, 1012, 5010], [5017, 5019, 28, 1012, 5020], [5023, 4029, 4030, 1008, 4031], [5024, 5025, 5026, 1012, 5027], [5030, 5031, 5032, 1001, 5033], [5034, 5035, 5036, 1012, 5037], [5045, 5046, 5047, 1001, 5048], [5049, 5050, 5051, 1001, 5052], [5053, 5054, 5055, 1008, 5056], [5058, 5059, 5060, 1001, 5061], [5062, 5063, 5064, 1012, 5065], [5066, 5068, 29, 1012, 5069], [5070, 5054, 5055, 1008, 5056], [5071, 5072, 5073, 1001, 5074], [5075, 5076, 5077, 1012, 5078], [5079, 5080, 5081, 1001, 5082], [5083, 5084, 5085, 1012, 5086], [5087, 5088, 5089, 1001, 5090], [5091, 5092, 5093, 1001, 5094], [5095, 5096, 5097, 1012, 5098], [5099, 5101, 30, 1012, 5102], [5103, 5104, 5105, 1008, 5106], [5107, 5108, 5109, 1001, 5110], [5117, 5118, 5119, 1001, 5120], [5121, 5123, 31, 1001, 5124], [5128, 5129, 5130, 1001, 5131], [5135, 5137, 32, 1001, 5138]] = true := by decide +kernel
set_option maxRecDepth 100000 in
theorem am_vK3 : am_ck am_vW am_vD ((am_vT.drop 144).take 48) [[5139, 5140, 5141, 1001, 5142], [5143, 5145, 33, 1001, 5146], [5147, 5104, 5105, 1008, 5106], [5148, 5149, 5150, 1001, 5151], [5152, 4065, 4066, 1012, 4067], [5153, 5155, 34, 1001, 5156], [5157, 4077, 4078, 1012, 4079], [5158, 5159, 5160, 1001, 5161], [5165, 5167, 35, 1001, 5168], [5169, 5171, 36, 1001, 5172], [5173, 5174, 5175, 1001, 5176], [5177, 5179, 37, 1001, 5180], [5182, 5183, 5184, 1001, 5185], [5186, 5187, 5188, 1013, 5189], [5197, 5198, 5199, 1013, 5200], [5207, 5198, 5199, 1013, 5200], [5213, 5198, 5199, 1013, 5200], [5223, 5198, 5199, 1013, 5200], [5230, 5198, 5199, 1013, 5200], [6003, 5198, 5199, 1013, 5200], [6036, 6037, 6038, 1001, 6039], [6040, 6041, 6042, 1001, 6043], [6045, 6046, 6047, 1001, 6048], [6049, 6050, 6051, 1008, 6052], [6053, 3238, 3239, 1009, 4000], [6054, 6055, 6056, 1001, 6057], [6188, 6189, 6190, 1014, 6191], [6207, 6208, 6209, 1014, 6210], [6211, 6213, 38, 1014, 6214], [6216, 6218, 39, 1014, 6219], [6220, 6222, 40, 1014, 6223], [6227, 6229, 41, 1014, 6230], [6231, 6233, 42, 1014, 6234], [6235, 6237, 43, 1014, 6238], [7002, 7004, 44, 1014, 7005], [7006, 7008, 45, 1014, 7009], [7013, 7014, 7015, 1014, 7016], [7017, 7019, 46, 1014, 7020], [7021, 7022, 7023, 1014, 7024], [7025, 7026, 7027, 1014, 7028], [7033, 7034, 7035, 1014, 7036], [7037, 7038, 7039, 1014, 7040], [7042, 7043, 7044, 1014, 7045], [7046, 7047, 7048, 1014, 7049], [7050, 7052, 47, 1014, 7053], [7054, 7056, 48, 1014, 7057], [7058, 7059, 7060, 1014, 7061], [7062, 7064, 49, 1014, 7065]] = true := by decide +kernel
set_option maxRecDepth 100000 in
theorem am_vK4 : am_ck am_vW am_vD ((am_vT.drop 192).take 48) [[7066, 7068, 50, 1014, 7069], [7070, 7072, 51, 1014, 7073], [7077, 7079, 52, 1014, 7080], [7081, 7083, 53, 1014, 7084], [7086, 7088, 54, 1014, 7089], [7090, 7091, 7092, 1014, 7093], [7094, 7096, 55, 1014, 7097], [7098, 7100, 56, 1014, 7101], [7102, 7104, 57, 1014, 7105], [7106, 7108, 58, 1014, 7109], [7110, 7111, 7112, 1014, 7113], [7114, 7115, 7116, 1014, 7117], [7118, 7120, 59, 1014, 7121], [7122, 7123, 7124, 1014, 7125], [7126, 7127, 7128, 1014, 7129], [7130, 7132, 60, 1014, 7133], [7134, 7135, 7136, 1014, 7137], [7138, 7140, 61, 1014, 7141], [7142, 7144, 62, 1014, 7145], [7146, 7147, 7148, 1014, 7149], [7150, 7152, 63, 1014, 7153], [7154, 7156, 64, 1014, 7157], [7158, 7159, 7160, 1014, 7161], [7166, 7168, 65, 1014, 7169], [7170, 7172, 66, 1014, 7173], [7174, 7176, 67, 1014, 7177], [7178, 7180, 68, 1014, 7181], [7182, 7184, 69, 1014, 7185], [7186, 7187, 7188, 1014, 7189], [7191, 7192, 7193, 1014, 7194], [7195, 7196, 7197, 1014, 7198], [7199, 7201, 70, 1014, 7202], [7203, 7204, 7205, 1014, 7206], [7207, 7208, 7209, 1014, 7210], [7211, 7213, 71, 1014, 7214], [7215, 7216, 7217, 1014, 7218], [7219, 7220, 7221, 1014, 7222], [7223, 7224, 7225, 1014, 7226], [7227, 7228, 7229, 1014, 7230], [7231, 7233, 72, 1014, 7234], [7235, 7237, 73, 1014, 7238], [7239, 8001, 74, 1014, 8002], [8003, 8004, 8005, 1014, 8006], [8007, 8008, 8009, 1014, 8010], [8011, 8012, 8013, 1014, 8014], [8015, 8017, 75, 1014, 8018], [8020, 8021, 8022, 1014, 8023], [8026, 8027, 8028, 1014, 8029]] = true := by decide +kernel
set_option maxRecDepth 100000 in
theorem am_vK5 : am_ck am_vW am_vD ((am_vT.drop 240).take 48) [[8030, 8031, 8032, 1014, 8033], [8034, 8036, 76, 1014, 8037], [8038, 8039, 8040, 1014, 8041], [8042, 8043, 8044, 1014, 8045], [8046, 8048, 77, 1014, 8049], [8050, 8051, 8052, 1014, 8053], [8055, 8056, 8057, 1014, 8058], [8059, 8061, 78, 1014, 8062], [8063, 8065, 79, 1014, 8066], [8077, 8079, 80, 1014, 8080], [8081, 8083, 81, 1014, 8084], [8085, 8087, 82, 1014, 8088], [8097, 8099, 83, 1014, 8100], [8102, 8104, 84, 1014, 8105], [8106, 8108, 85, 1014, 8109], [8110, 8112, 86, 1014, 8113], [8115, 8117, 87, 1014, 8118], [8119, 8121, 88, 1014, 8122], [8123, 8125, 89, 1014, 8126], [8132, 8134, 90, 1014, 8135], [8136, 8138, 91, 1014, 8139], [8145, 8146, 8147, 1014, 8148], [8152, 8153, 8154, 1014, 8155], [8159, 8160, 8161, 1014, 8162], [8163, 8165, 92, 1014, 8166], [8167, 8168, 8169, 1014, 8170], [8171, 8173, 93, 1014, 8174], [8176, 8178, 94, 1014, 8179], [8180, 8181, 8182, 1014, 8183], [8184, 8185, 8186, 1014, 8187], [8188, 8189, 8190, 1014, 8191], [8194, 8196, 95, 1014, 8197], [8198, 8199, 8200, 1014, 8201], [8202, 8204, 96, 1014, 8205], [8206, 8208, 97, 1014, 8209], [8210, 8212, 98, 1014, 8213], [8214, 8216, 99, 1014, 8217], [8218, 8220, 100, 1014, 8221], [8222, 8224, 101, 1014, 8225], [8226, 8227, 8228, 1014, 8229], [8230, 8232, 102, 1014, 8233], [8234, 8235, 8236, 1014, 8237], [9001, 9002, 9003, 1014, 9004], [9005, 9006, 9007, 1014, 9008]] = true := by decide +kernel
theorem am_vK : ∀ x ∈ am_vT, (∀ w ∈ am_vW x, w ∈ am_TG) ∧ am_vD x = true := by
  intro x hx
  obtain ⟨i, hi⟩ := List.getElem?_of_mem hx
  have e : am_vT.length = 284 := by decide +kernel
  have hl := (List.getElem?_eq_some_iff.mp hi).1
  rw [e] at hl
  rcases Nat.lt_or_ge i 48 with hz | hz
  · exact am_ck_in _ _ am_vK0 x (List.mem_of_getElem? (i := i - 0) (by rw [List.getElem?_take_of_lt (by omega), List.getElem?_drop, show 0 + (i - 0) = i by omega]; exact hi))
  rcases Nat.lt_or_ge i 96 with hz | hz
  · exact am_ck_in _ _ am_vK1 x (List.mem_of_getElem? (i := i - 48) (by rw [List.getElem?_take_of_lt (by omega), List.getElem?_drop, show 48 + (i - 48) = i by omega]; exact hi))
  rcases Nat.lt_or_ge i 144 with hz | hz
  · exact am_ck_in _ _ am_vK2 x (List.mem_of_getElem? (i := i - 96) (by rw [List.getElem?_take_of_lt (by omega), List.getElem?_drop, show 96 + (i - 96) = i by omega]; exact hi))
  rcases Nat.lt_or_ge i 192 with hz | hz
  · exact am_ck_in _ _ am_vK3 x (List.mem_of_getElem? (i := i - 144) (by rw [List.getElem?_take_of_lt (by omega), List.getElem?_drop, show 144 + (i - 144) = i by omega]; exact hi))
  rcases Nat.lt_or_ge i 240 with hz | hz
  · exact am_ck_in _ _ am_vK4 x (List.mem_of_getElem? (i := i - 192) (by rw [List.getElem?_take_of_lt (by omega), List.getElem?_drop, show 192 + (i - 192) = i by omega]; exact hi))
  exact am_ck_in _ _ am_vK5 x (List.mem_of_getElem? (i := i - 240) (by rw [List.getElem?_take_of_lt (by omega), List.getElem?_drop, show 240 + (i - 240) = i by omega]; exact hi))
set_option maxRecDepth 100000 in
theorem am_uK0 : am_ck am_uW am_uD ((am_uT.drop 0).take 62) [[2172, 2175, 2173, 2176, 2177, 1003, 2178, 2195], [2172, 2175, 2173, 2180, 2181, 1006, 2182, 2195], [2172, 2175, 2173, 2183, 2184, 1007, 2185, 2195], [2172, 2175, 2173, 2187, 2188, 1005, 2189, 2195], [2172, 2175, 2173, 2194, 2191, 1004, 2192, 2195], [2172, 2175, 2173, 2174, 2173, 1002, 2195, 2195], [2197, 2200, 2198, 2201, 2202, 1003, 2203, 2223], [2197, 2200, 2198, 2205, 2206, 1006, 2207, 2223], [2197, 2200, 2198, 2208, 2209, 1007, 2210, 2223], [2197, 2200, 2198, 2212, 2213, 1005, 2214, 2223], [2197, 2200, 2198, 2222, 2216, 1004, 2217, 2223], [2197, 2200, 2198, 2199, 2198, 1002, 2223, 2223], [2228, 2231, 2229, 2232, 2229, 1002, 3001, 3001], [2228, 2231, 2229, 2233, 2234, 1006, 2235, 3001], [2228, 2231, 2229, 2236, 2237, 1007, 2238, 3001], [2228, 2231, 2229, 2239, 2229, 1002, 3001, 3001], [2228, 2231, 2229, 3000, 2229, 1002, 3001, 3001], [2228, 2231, 2229, 2230, 2229, 1002, 3001, 3001], [4051, 2200, 2198, 2201, 2202, 1003, 2203, 2223], [4051, 2200, 2198, 2205, 2206, 1006, 2207, 2223], [4051, 2200, 2198, 2208, 2209, 1007, 2210, 2223], [4051, 2200, 2198, 2212, 2213, 1005, 2214, 2223], [4051, 2200, 2198, 2222, 2216, 1004, 2217, 2223], [4051, 2200, 2198, 2199, 2198, 1002, 2223, 2223], [5022, 2175, 2173, 2176, 2177, 1003, 2178, 2195], [5022, 2175, 2173, 2180, 2181, 1006, 2182, 2195], [5022, 2175, 2173, 2183, 2184, 1007, 2185, 2195], [5022, 2175, 2173, 2187, 2188, 1005, 2189, 2195], [5022, 2175, 2173, 2194, 2191, 1004, 2192, 2195], [5022, 2175, 2173, 2174, 2173, 1002, 2195, 2195], [5190, 5193, 5191, 5194, 5195, 1003, 5196, 5212], [5190, 5193, 5191, 5202, 5191, 1002, 5212, 5212], [5190, 5193, 5191, 5203, 5191, 1002, 5212, 5212], [5190, 5193, 5191, 5204, 5205, 1005, 5206, 5212], [5190, 5193, 5191, 5211, 5191, 1002, 5212, 5212], [5190, 5193, 5191, 5192, 5191, 1002, 5212, 5212], [5214, 5217, 5215, 5218, 5215, 1002, 5233, 5233], [5214, 5217, 5215, 5219, 5215, 1002, 5233, 5233], [5214, 5217, 5215, 5220, 5221, 1007, 5222, 5233], [5214, 5217, 5215, 5227, 5228, 1004, 5229, 5233], [5214, 5217, 5215, 5232, 5228, 1004, 5229, 5233], [5214, 5217, 5215, 5216, 5215, 1002, 5233, 5233], [5234, 5193, 5191, 5194, 5195, 1003, 5196, 5212], [5234, 5193, 5191, 5202, 5191, 1002, 5212, 5212], [5234, 5193, 5191, 5203, 5191, 1002, 5212, 5212], [5234, 5193, 5191, 5204, 5205, 1005, 5206, 5212], [5234, 5193, 5191, 5211, 5191, 1002, 5212, 5212], [5234, 5193, 5191, 5192, 5191, 1002, 5212, 5212], [5235, 5238, 5236, 5239, 5236, 1002, 6014, 6014], [5235, 5238, 5236, 6000, 6001, 1006, 6002, 6014], [5235, 5238, 5236, 6005, 6006, 1007, 6007, 6014], [5235, 5238, 5236, 6012, 5236, 1002, 6014, 6014], [5235, 5238, 5236, 6013, 5236, 1002, 6014, 6014], [5235, 5238, 5236, 5237, 5236, 1002, 6014, 6014], [6009, 6010, 5191, 6011, 5191, 1002, 5212, 5212], [6015, 6018, 6016, 6019, 6016, 1002, 6033, 6033], [6015, 6018, 6016, 6020, 6016, 1002, 6033, 6033], [6015, 6018, 6016, 6021, 6016, 1002, 6033, 6033], [6015, 6018, 6016, 6022, 6023, 1005, 6024, 6033], [6015, 6018, 6016, 6032, 6016, 1002, 6033, 6033], [6015, 6018, 6016, 6017, 6016, 1002, 6033, 6033], [6028, 6029, 5228, 6031, 5228, 1004, 5229, 5229]] = true := by decide +kernel
set_option maxRecDepth 100000 in
theorem am_uK1 : am_ck am_uW am_uD ((am_uT.drop 62).take 62) [[6034, 5217, 5215, 5218, 5215, 1002, 5233, 5233], [6034, 5217, 5215, 5219, 5215, 1002, 5233, 5233], [6034, 5217, 5215, 5220, 5221, 1007, 5222, 5233], [6034, 5217, 5215, 5227, 5228, 1004, 5229, 5233], [6034, 5217, 5215, 5232, 5228, 1004, 5229, 5233], [6034, 5217, 5215, 5216, 5215, 1002, 5233, 5233], [6035, 5238, 5236, 5239, 5236, 1002, 6014, 6014], [6035, 5238, 5236, 6000, 6001, 1006, 6002, 6014], [6035, 5238, 5236, 6005, 6006, 1007, 6007, 6014], [6035, 5238, 5236, 6012, 5236, 1002, 6014, 6014], [6035, 5238, 5236, 6013, 5236, 1002, 6014, 6014], [6035, 5238, 5236, 5237, 5236, 1002, 6014, 6014]] = true := by decide +kernel
theorem am_uK : ∀ x ∈ am_uT, (∀ w ∈ am_uW x, w ∈ am_TG) ∧ am_uD x = true := by
  intro x hx
  obtain ⟨i, hi⟩ := List.getElem?_of_mem hx
  have e : am_uT.length = 74 := by decide +kernel
  have hl := (List.getElem?_eq_some_iff.mp hi).1
  rw [e] at hl
  rcases Nat.lt_or_ge i 62 with hz | hz
  · exact am_ck_in _ _ am_uK0 x (List.mem_of_getElem? (i := i - 0) (by rw [List.getElem?_take_of_lt (by omega), List.getElem?_drop, show 0 + (i - 0) = i by omega]; exact hi))
  exact am_ck_in _ _ am_uK1 x (List.mem_of_getElem? (i := i - 62) (by rw [List.getElem?_take_of_lt (by omega), List.getElem?_drop, show 62 + (i - 62) = i by omega]; exact hi))
set_option maxRecDepth 100000 in
theorem am_tK0 : am_ck am_tW am_tD ((am_tT.drop 0).take 62) [[1111, 1112, 1010, 1113], [2088, 1112, 1010, 1113], [2133, 2134, 1001, 2135], [2136, 2137, 1001, 2138], [2139, 2140, 1001, 2141], [2142, 2143, 1001, 2144], [2145, 2146, 1001, 2147], [3023, 3024, 1001, 3025], [3042, 3043, 1001, 3044], [3093, 3094, 1011, 3095], [3131, 3132, 1017, 3133], [3134, 3135, 1016, 3136], [3139, 3140, 1018, 3141], [3186, 3187, 1011, 3188], [3226, 3227, 1011, 3228], [4052, 4053, 1008, 4054], [4160, 4161, 1001, 4162], [4205, 4206, 1001, 4207], [4212, 4213, 1001, 4214], [5011, 5012, 1012, 5013], [5014, 5015, 1012, 5016], [5028, 5012, 1012, 5013], [5029, 5015, 1012, 5016], [5038, 5039, 1021, 5040], [5111, 5112, 1001, 5113], [5114, 5115, 1010, 5116], [5125, 5126, 1001, 5127], [5132, 5133, 1001, 5134], [5162, 5163, 1001, 5164], [5181, 3011, 1001, 3012], [6044, 5039, 1021, 5040], [6192, 6193, 1014, 6194], [6196, 6197, 1014, 6198], [6199, 6200, 1014, 6201], [6204, 6205, 1014, 6206], [6224, 6225, 1014, 6226], [6239, 7000, 1014, 7001], [7010, 7011, 1014, 7012], [7029, 7030, 1014, 7031], [7074, 7075, 1014, 7076], [7162, 7163, 1014, 7164], [8067, 8068, 1014, 8069], [8072, 8073, 1014, 8074], [8149, 8150, 1014, 8151], [8156, 8157, 1014, 8158], [8238, 8239, 1014, 9000]] = true := by decide +kernel
theorem am_tK : ∀ x ∈ am_tT, (∀ w ∈ am_tW x, w ∈ am_TG) ∧ am_tD x = true := by
  intro x hx
  obtain ⟨i, hi⟩ := List.getElem?_of_mem hx
  have e : am_tT.length = 46 := by decide +kernel
  have hl := (List.getElem?_eq_some_iff.mp hi).1
  rw [e] at hl
  exact am_ck_in _ _ am_tK0 x (List.mem_of_getElem? (i := i - 0) (by rw [List.getElem?_take_of_lt (by omega), List.getElem?_drop, show 0 + (i - 0) = i by omega]; exact hi))
set_option maxRecDepth 100000 in
theorem am_tnK0 : am_ck am_tnW am_tD ((am_tnT.drop 0).take 62) [[3011, 1001, 3012], [2137, 1001, 2138], [3043, 1001, 3044], [2137, 1001, 2138], [4206, 1001, 4207]] = true := by decide +kernel
theorem am_tnK : ∀ x ∈ am_tnT, (∀ w ∈ am_tnW x, w ∈ am_TG) ∧ am_tD x = true := by
  intro x hx
  obtain ⟨i, hi⟩ := List.getElem?_of_mem hx
  have e : am_tnT.length = 5 := by decide +kernel
  have hl := (List.getElem?_eq_some_iff.mp hi).1
  rw [e] at hl
  exact am_ck_in _ _ am_tnK0 x (List.mem_of_getElem? (i := i - 0) (by rw [List.getElem?_take_of_lt (by omega), List.getElem?_drop, show 0 + (i - 0) = i by omega]; exact hi))
set_option maxRecDepth 100000 in
theorem am_iK0 : am_ck am_iW am_iD ((am_iT.drop 0).take 62) [[1024, 1025, 1001, 1026], [1075, 1076, 1008, 1077], [1233, 1234, 1012, 1235], [6060, 6061, 1014, 6062]] = true := by decide +kernel
theorem am_iK : ∀ x ∈ am_iT, (∀ w ∈ am_iW x, w ∈ am_TG) ∧ am_iD x = true := by
  intro x hx
  obtain ⟨i, hi⟩ := List.getElem?_of_mem hx
  have e : am_iT.length = 4 := by decide +kernel
  have hl := (List.getElem?_eq_some_iff.mp hi).1
  rw [e] at hl
  exact am_ck_in _ _ am_iK0 x (List.mem_of_getElem? (i := i - 0) (by rw [List.getElem?_take_of_lt (by omega), List.getElem?_drop, show 0 + (i - 0) = i by omega]; exact hi))
set_option maxRecDepth 100000 in
theorem am_inK0 : am_ck am_inW am_iD ((am_inT.drop 0).take 62) [[1034, 1002, 1035], [1041, 1003, 1042], [1034, 1002, 1035], [1048, 1004, 1049], [1034, 1002, 1035], [1055, 1005, 1056], [1048, 1004, 1049], [1062, 1006, 1063], [1034, 1002, 1035], [1069, 1007, 1070], [1062, 1006, 1063], [1082, 1009, 1083], [1203, 1011, 1204], [1082, 1009, 1083], [2060, 1013, 2061]] = true := by decide +kernel
theorem am_inK : ∀ x ∈ am_inT, (∀ w ∈ am_inW x, w ∈ am_TG) ∧ am_iD x = true := by
  intro x hx
  obtain ⟨i, hi⟩ := List.getElem?_of_mem hx
  have e : am_inT.length = 15 := by decide +kernel
  have hl := (List.getElem?_eq_some_iff.mp hi).1
  rw [e] at hl
  exact am_ck_in _ _ am_inK0 x (List.mem_of_getElem? (i := i - 0) (by rw [List.getElem?_take_of_lt (by omega), List.getElem?_drop, show 0 + (i - 0) = i by omega]; exact hi))
set_option maxRecDepth 100000 in
theorem am_pK0 : am_ck am_pW am_pD ((am_pT.drop 0).take 62) [[2179, 2175, 1044, 1044, 2173, 1002, 2195], [2186, 9010, 1072, 1072, 2181, 1006, 2182], [2190, 9011, 1058, 1058, 2191, 1004, 2192], [2193, 2175, 1051, 1051, 2173, 1002, 2195], [2204, 2200, 1044, 1044, 2198, 1002, 2223], [2211, 9012, 1072, 1072, 2206, 1006, 2207], [2215, 9013, 1058, 1058, 2216, 1004, 2217], [2218, 2200, 1051, 1051, 2198, 1002, 2223], [5201, 5193, 1044, 1044, 5191, 1002, 5212], [5208, 5209, 1058, 1051, 5191, 1002, 5212], [5224, 5225, 1072, 1065, 5215, 1002, 5233], [5231, 5217, 1051, 1051, 5215, 1002, 5233], [6004, 5238, 1065, 1065, 5236, 1002, 6014], [6008, 9014, 1072, 1072, 6001, 1006, 6002], [6025, 6026, 1058, 1051, 6016, 1002, 6033]] = true := by decide +kernel
theorem am_pK : ∀ x ∈ am_pT, (∀ w ∈ am_pW x, w ∈ am_TG) ∧ am_pD x = true := by
  intro x hx
  obtain ⟨i, hi⟩ := List.getElem?_of_mem hx
  have e : am_pT.length = 15 := by decide +kernel
  have hl := (List.getElem?_eq_some_iff.mp hi).1
  rw [e] at hl
  exact am_ck_in _ _ am_pK0 x (List.mem_of_getElem? (i := i - 0) (by rw [List.getElem?_take_of_lt (by omega), List.getElem?_drop, show 0 + (i - 0) = i by omega]; exact hi))
set_option maxRecDepth 100000 in
theorem am_fK0 : am_ck am_fW am_fD ((am_fT.drop 0).take 62) [[2067], [2069], [2000], [2001], [2002], [2003], [2006], [2018], [2022], [1239], [1115], [1121], [1149], [1143], [1129], [1146], [1119], [2004], [2005], [2008], [2010], [2012], [2014], [1133], [2016], [1159], [1135], [1151], [1153], [1155], [1126], [2020], [2065], [1210], [1212], [1213], [1215], [1208], [1214], [1211], [1086], [1089], [1090], [1091], [1092], [1093], [1094], [1085], [1088], [1137], [1139], [1141], [1144], [1147], [1150], [1152], [1154], [1156], [1160], [1158], [1117], [1120]] = true := by decide +kernel
set_option maxRecDepth 100000 in
theorem am_fK1 : am_ck am_fW am_fD ((am_fT.drop 62).take 62) [[1125], [1114], [1123], [1128], [1131], [1134], [2075], [2063], [2066], [2070], [2073], [2064], [2068], [2071], [2091], [2092], [2093], [2094], [2095], [2096], [2097], [2098], [2099], [2100], [2101], [2102], [1140], [1142], [1145], [1148], [1138], [1116], [1118], [1122], [1124], [1132], [1157], [2019], [2009], [2007], [2011], [2013], [2015], [2017], [1136], [1127], [2023], [2072], [2074], [2076], [1130], [1087], [2021], [1209], [6064], [6065], [6066], [6068], [6069], [6070], [6071], [6072]] = true := by decide +kernel
set_option maxRecDepth 100000 in
theorem am_fK2 : am_ck am_fW am_fD ((am_fT.drop 124).take 62) [[6083], [6085], [6093], [6094], [6095], [6096], [6097], [6098], [6099], [6073], [6074], [6078], [6076], [6077], [6075], [6079], [6080], [6081], [6082], [6084], [6086], [6088], [6087], [6092], [6089], [6091], [6090], [6104], [6100], [6103], [6101], [6102], [6067], [9020], [9021]] = true := by decide +kernel
theorem am_fK : ∀ x ∈ am_fT, (∀ w ∈ am_fW x, w ∈ am_TG) ∧ am_fD x = true := by
  intro x hx
  obtain ⟨i, hi⟩ := List.getElem?_of_mem hx
  have e : am_fT.length = 159 := by decide +kernel
  have hl := (List.getElem?_eq_some_iff.mp hi).1
  rw [e] at hl
  rcases Nat.lt_or_ge i 62 with hz | hz
  · exact am_ck_in _ _ am_fK0 x (List.mem_of_getElem? (i := i - 0) (by rw [List.getElem?_take_of_lt (by omega), List.getElem?_drop, show 0 + (i - 0) = i by omega]; exact hi))
  rcases Nat.lt_or_ge i 124 with hz | hz
  · exact am_ck_in _ _ am_fK1 x (List.mem_of_getElem? (i := i - 62) (by rw [List.getElem?_take_of_lt (by omega), List.getElem?_drop, show 62 + (i - 62) = i by omega]; exact hi))
  exact am_ck_in _ _ am_fK2 x (List.mem_of_getElem? (i := i - 124) (by rw [List.getElem?_take_of_lt (by omega), List.getElem?_drop, show 124 + (i - 124) = i by omega]; exact hi))
set_option maxRecDepth 100000 in
theorem am_cK0 : am_ck am_cW (fun _ => true) ((am_cT.drop 0).take 62) [[5041], [5042], [5043], [5057], [8019]] = true := by decide +kernel
theorem am_cK : ∀ x ∈ am_cT, (∀ w ∈ am_cW x, w ∈ am_TG) ∧ (fun _ => true) x = true := by
  intro x hx
  obtain ⟨i, hi⟩ := List.getElem?_of_mem hx
  have e : am_cT.length = 5 := by decide +kernel
  have hl := (List.getElem?_eq_some_iff.mp hi).1
  rw [e] at hl
  exact am_ck_in _ _ am_cK0 x (List.mem_of_getElem? (i := i - 0) (by rw [List.getElem?_take_of_lt (by omega), List.getElem?_drop, show 0 + (i - 0) = i by omega]; exact hi))
set_option maxRecDepth 100000 in
theorem am_lK0 : am_ck am_lW (fun _ => true) ((am_lT.drop 0).take 62) [[6195], [6202], [6203], [6215], [7032], [7041], [7085], [7165], [7190], [8024], [8025], [8054], [8070], [8071], [8075], [8076], [8089], [8090], [8091], [8092], [8093], [8094], [8095], [8096], [8101], [8114], [8127], [8128], [8129], [8130], [8131], [8140], [8141], [8142], [8143], [8144], [8175], [8192], [8193], [9009]] = true := by decide +kernel
theorem am_lK : ∀ x ∈ am_lT, (∀ w ∈ am_lW x, w ∈ am_TG) ∧ (fun _ => true) x = true := by
  intro x hx
  obtain ⟨i, hi⟩ := List.getElem?_of_mem hx
  have e : am_lT.length = 40 := by decide +kernel
  have hl := (List.getElem?_eq_some_iff.mp hi).1
  rw [e] at hl
  exact am_ck_in _ _ am_lK0 x (List.mem_of_getElem? (i := i - 0) (by rw [List.getElem?_take_of_lt (by omega), List.getElem?_drop, show 0 + (i - 0) = i by omega]; exact hi))
set_option maxRecDepth 100000 in
theorem am_nK0 : am_ck am_nW (fun q => decide (q.2.2 < 13)) ((am_nT.drop 0).take 62) [[1022, 1023, 1001], [1030, 1032, 1002], [1038, 1039, 1003], [1045, 1046, 1004], [1052, 1053, 1005], [1059, 1060, 1006], [1066, 1067, 1007], [1073, 1074, 1008], [1079, 1080, 1009], [1200, 1201, 1011], [1206, 1080, 1009], [1231, 1232, 1012], [2057, 2058, 1013], [6058, 6059, 1014]] = true := by decide +kernel
theorem am_nK : ∀ x ∈ am_nT, (∀ w ∈ am_nW x, w ∈ am_TG) ∧ (fun q => decide (q.2.2 < 13)) x = true := by
  intro x hx
  obtain ⟨i, hi⟩ := List.getElem?_of_mem hx
  have e : am_nT.length = 14 := by decide +kernel
  have hl := (List.getElem?_eq_some_iff.mp hi).1
  rw [e] at hl
  exact am_ck_in _ _ am_nK0 x (List.mem_of_getElem? (i := i - 0) (by rw [List.getElem?_take_of_lt (by omega), List.getElem?_drop, show 0 + (i - 0) = i by omega]; exact hi))
set_option maxRecDepth 100000 in
theorem am_oK0 : am_ck am_oW (fun _ => true) ((am_oT.drop 0).take 62) [[1027, 1028, 1029], [1036, 1028, 1029], [1078, 1028, 1029], [1084, 1028, 1029], [1205, 1028, 1029], [1236, 1028, 1029], [2062, 1028, 1029], [6063, 1028, 1029]] = true := by decide +kernel
theorem am_oK : ∀ x ∈ am_oT, (∀ w ∈ am_oW x, w ∈ am_TG) ∧ (fun _ => true) x = true := by
  intro x hx
  obtain ⟨i, hi⟩ := List.getElem?_of_mem hx
  have e : am_oT.length = 8 := by decide +kernel
  have hl := (List.getElem?_eq_some_iff.mp hi).1
  rw [e] at hl
  exact am_ck_in _ _ am_oK0 x (List.mem_of_getElem? (i := i - 0) (by rw [List.getElem?_take_of_lt (by omega), List.getElem?_drop, show 0 + (i - 0) = i by omega]; exact hi))
set_option maxRecDepth 100000 in
theorem am_mK0 : am_ck am_mW (fun q => decide (q.2.2 < 3)) ((am_mT.drop 0).take 62) [[2219, 2220, 1015, 2221], [4033, 4034, 1015, 4035], [4036, 2220, 1015, 2221], [4046, 4047, 1015, 4048], [4122, 4047, 1015, 4048], [4171, 4034, 1015, 4035], [4172, 2220, 1015, 2221]] = true := by decide +kernel
theorem am_mK : ∀ x ∈ am_mT, (∀ w ∈ am_mW x, w ∈ am_TG) ∧ (fun q => decide (q.2.2 < 3)) x = true := by
  intro x hx
  obtain ⟨i, hi⟩ := List.getElem?_of_mem hx
  have e : am_mT.length = 7 := by decide +kernel
  have hl := (List.getElem?_eq_some_iff.mp hi).1
  rw [e] at hl
  exact am_ck_in _ _ am_mK0 x (List.mem_of_getElem? (i := i - 0) (by rw [List.getElem?_take_of_lt (by omega), List.getElem?_drop, show 0 + (i - 0) = i by omega]; exact hi))
set_option maxRecDepth 100000 in
theorem am_yK0 : am_ck am_yW (fun _ => true) ((am_yT.drop 0).take 62) [[4001, 4003, 4002, 1020], [4072, 4003, 4002, 1020], [4181, 4003, 4002, 1020]] = true := by decide +kernel
theorem am_yK : ∀ x ∈ am_yT, (∀ w ∈ am_yW x, w ∈ am_TG) ∧ (fun _ => true) x = true := by
  intro x hx
  obtain ⟨i, hi⟩ := List.getElem?_of_mem hx
  have e : am_yT.length = 3 := by decide +kernel
  have hl := (List.getElem?_eq_some_iff.mp hi).1
  rw [e] at hl
  exact am_ck_in _ _ am_yK0 x (List.mem_of_getElem? (i := i - 0) (by rw [List.getElem?_take_of_lt (by omega), List.getElem?_drop, show 0 + (i - 0) = i by omega]; exact hi))
set_option maxRecDepth 100000 in
theorem am_aK0 : am_ck am_aW (fun _ => true) ((am_aT.drop 0).take 62) [[1030], [1237], [2089]] = true := by decide +kernel
theorem am_aK : ∀ x ∈ am_aT, (∀ w ∈ am_aW x, w ∈ am_TG) ∧ (fun _ => true) x = true := by
  intro x hx
  obtain ⟨i, hi⟩ := List.getElem?_of_mem hx
  have e : am_aT.length = 3 := by decide +kernel
  have hl := (List.getElem?_eq_some_iff.mp hi).1
  rw [e] at hl
  exact am_ck_in _ _ am_aK0 x (List.mem_of_getElem? (i := i - 0) (by rw [List.getElem?_take_of_lt (by omega), List.getElem?_drop, show 0 + (i - 0) = i by omega]; exact hi))
theorem am_nestK : ∀ w ∈ am_nestL, w ∈ lw_tbl := am_atL_in _ [3010, 3205, 4032, 5021, 5044, 1033, 1040, 1043, 1047, 1050, 1054, 1057, 1061, 1064, 1068, 1071, 1081, 1202, 1207, 2059] (by decide +kernel)
theorem am_arI : Jvm.Cond.arrayClass .int ∈ am_TG := am_at_in [.arrayClass .int] [1110] (by decide +kernel) _ List.mem_cons_self
theorem am_arJ : Jvm.Cond.arrayClass .long ∈ am_TG := am_at_in [.arrayClass .long] [2128] (by decide +kernel) _ List.mem_cons_self
theorem am_ovK : ∀ w ∈ ([.arrayOver (.object "VoiceNets$Voice"), .arrayOver (.array .int), .arrayOver (.array .long)] : List Jvm.Cond), w ∈ lw_tbl := am_atL_in _ [1031, 1238, 2090] (by decide +kernel)
