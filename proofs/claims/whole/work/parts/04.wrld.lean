/-! names, fields, the worlds of the two systems -/
def Rz_S : String := "StagedParsers"
def Tz_S : u_T := fun k => match k with
  | 0 => ("StagedParsers", "grammar", "LStagedParsers$Grammar;", true)
  | 1 => ("StagedParsers", "study", "LStagedParsers$Study;", true)
  | 2 => ("StagedParsers", "code", "LStagedParsers$Code;", true)
  | 3 => ("StagedParsers", "text", "LStagedParsers$Text;", true)
  | 4 => ("StagedParsers", "machine", "LStagedParsers$Machine;", true)
  | _ => ("StagedParsers", "staged", "Z", false)
def tz_S : Nat → FieldType := fun k => match k with
  | 0 => .object "StagedParsers$Grammar"
  | 1 => .object "StagedParsers$Study"
  | 2 => .object "StagedParsers$Code"
  | 3 => .object "StagedParsers$Text"
  | 4 => .object "StagedParsers$Machine"
  | _ => .boolean
theorem nz_S : ∀ a, a < 6 → ∀ b, b < 6 → a ≠ b → (Tz_S a).2.1 ≠ (Tz_S b).2.1 := by decide +kernel
theorem tz_S_ok : ∀ k, k < 6 → parseFieldDescriptor (Tz_S k).2.2.1 = some (tz_S k) := by decide +kernel
theorem uz_S : ∀ w ∈ u_ws Rz_S Tz_S 6, w ∈ AW_ := fun w hw => by
  obtain ⟨k, hk, rfl⟩ := List.mem_map.mp hw
  have hk := List.mem_range.mp hk
  rcases (show k = 0 ∨ k = 1 ∨ k = 2 ∨ k = 3 ∨ k = 4 ∨ k = 5 by omega) with rfl | rfl | rfl | rfl | rfl | rfl
  · exact kw_200
  · exact kw_202
  · exact kw_204
  · exact kw_206
  · exact kw_208
  · exact kw_210
def Rz_G : String := "StagedParsers$Grammar"
def Tz_G : u_T := fun k => match k with
  | 0 => ("StagedParsers$Grammar", "kinds", "[I", true)
  | 1 => ("StagedParsers$Grammar", "as", "[I", true)
  | 2 => ("StagedParsers$Grammar", "bs", "[I", true)
  | 3 => ("StagedParsers$Grammar", "cs", "[I", true)
  | 4 => ("StagedParsers$Grammar", "heights", "[I", true)
  | 5 => ("StagedParsers$Grammar", "bodyOf", "[I", true)
  | _ => ("StagedParsers$Grammar", "size", "I", false)
def tz_G : Nat → FieldType := fun k => match k with
  | 0 => .array .int
  | 1 => .array .int
  | 2 => .array .int
  | 3 => .array .int
  | 4 => .array .int
  | 5 => .array .int
  | _ => .int
theorem nz_G : ∀ a, a < 7 → ∀ b, b < 7 → a ≠ b → (Tz_G a).2.1 ≠ (Tz_G b).2.1 := by decide +kernel
theorem tz_G_ok : ∀ k, k < 7 → parseFieldDescriptor (Tz_G k).2.2.1 = some (tz_G k) := by decide +kernel
theorem uz_G : ∀ w ∈ u_ws Rz_G Tz_G 7, w ∈ AW_ := fun w hw => by
  obtain ⟨k, hk, rfl⟩ := List.mem_map.mp hw
  have hk := List.mem_range.mp hk
  rcases (show k = 0 ∨ k = 1 ∨ k = 2 ∨ k = 3 ∨ k = 4 ∨ k = 5 ∨ k = 6 by omega) with rfl | rfl | rfl | rfl | rfl | rfl | rfl
  · exact kw_42
  · exact kw_44
  · exact kw_46
  · exact kw_48
  · exact kw_50
  · exact kw_52
  · exact kw_54
def Rz_Y : String := "StagedParsers$Study"
def Tz_Y : u_T := fun k => match k with
  | 0 => ("StagedParsers$Study", "grammar", "LStagedParsers$Grammar;", true)
  | 1 => ("StagedParsers$Study", "emptyNodes", "[Z", true)
  | 2 => ("StagedParsers$Study", "beginners", "[Z", true)
  | 3 => ("StagedParsers$Study", "inBodies", "[Z", true)
  | 4 => ("StagedParsers$Study", "nodeLeads", "[I", true)
  | _ => ("StagedParsers$Study", "ruleLeads", "[I", true)
def tz_Y : Nat → FieldType := fun k => match k with
  | 0 => .object "StagedParsers$Grammar"
  | 1 => .array .boolean
  | 2 => .array .boolean
  | 3 => .array .boolean
  | 4 => .array .int
  | _ => .array .int
theorem nz_Y : ∀ a, a < 6 → ∀ b, b < 6 → a ≠ b → (Tz_Y a).2.1 ≠ (Tz_Y b).2.1 := by decide +kernel
theorem tz_Y_ok : ∀ k, k < 6 → parseFieldDescriptor (Tz_Y k).2.2.1 = some (tz_Y k) := by decide +kernel
theorem uz_Y : ∀ w ∈ u_ws Rz_Y Tz_Y 6, w ∈ AW_ := fun w hw => by
  obtain ⟨k, hk, rfl⟩ := List.mem_map.mp hw
  have hk := List.mem_range.mp hk
  rcases (show k = 0 ∨ k = 1 ∨ k = 2 ∨ k = 3 ∨ k = 4 ∨ k = 5 by omega) with rfl | rfl | rfl | rfl | rfl | rfl
  · exact kw_70
  · exact kw_72
  · exact kw_74
  · exact kw_76
  · exact kw_78
  · exact kw_80
def Rz_C : String := "StagedParsers$Code"
def Tz_C : u_T := fun k => match k with
  | 0 => ("StagedParsers$Code", "operations", "[I", true)
  | 1 => ("StagedParsers$Code", "ps", "[I", true)
  | 2 => ("StagedParsers$Code", "qs", "[I", true)
  | 3 => ("StagedParsers$Code", "pieceOf", "[I", true)
  | 4 => ("StagedParsers$Code", "entryOf", "[I", true)
  | _ => ("StagedParsers$Code", "size", "I", false)
def tz_C : Nat → FieldType := fun k => match k with
  | 0 => .array .int
  | 1 => .array .int
  | 2 => .array .int
  | 3 => .array .int
  | 4 => .array .int
  | _ => .int
theorem nz_C : ∀ a, a < 6 → ∀ b, b < 6 → a ≠ b → (Tz_C a).2.1 ≠ (Tz_C b).2.1 := by decide +kernel
theorem tz_C_ok : ∀ k, k < 6 → parseFieldDescriptor (Tz_C k).2.2.1 = some (tz_C k) := by decide +kernel
theorem uz_C : ∀ w ∈ u_ws Rz_C Tz_C 6, w ∈ AW_ := fun w hw => by
  obtain ⟨k, hk, rfl⟩ := List.mem_map.mp hw
  have hk := List.mem_range.mp hk
  rcases (show k = 0 ∨ k = 1 ∨ k = 2 ∨ k = 3 ∨ k = 4 ∨ k = 5 by omega) with rfl | rfl | rfl | rfl | rfl | rfl
  · exact kw_96
  · exact kw_98
  · exact kw_100
  · exact kw_102
  · exact kw_104
  · exact kw_106
def Rz_T : String := "StagedParsers$Text"
def Tz_T : u_T := fun k => match k with
  | 0 => ("StagedParsers$Text", "signs", "[C", true)
  | _ => ("StagedParsers$Text", "size", "I", false)
def tz_T : Nat → FieldType := fun k => match k with
  | 0 => .array .char
  | _ => .int
theorem nz_T : ∀ a, a < 2 → ∀ b, b < 2 → a ≠ b → (Tz_T a).2.1 ≠ (Tz_T b).2.1 := by decide +kernel
theorem tz_T_ok : ∀ k, k < 2 → parseFieldDescriptor (Tz_T k).2.2.1 = some (tz_T k) := by decide +kernel
theorem uz_T : ∀ w ∈ u_ws Rz_T Tz_T 2, w ∈ AW_ := fun w hw => by
  obtain ⟨k, hk, rfl⟩ := List.mem_map.mp hw
  have hk := List.mem_range.mp hk
  rcases (show k = 0 ∨ k = 1 by omega) with rfl | rfl
  · exact kw_117
  · exact kw_119
def Rz_M : String := "StagedParsers$Machine"
def Tz_M : u_T := fun k => match k with
  | 0 => ("StagedParsers$Machine", "code", "LStagedParsers$Code;", true)
  | 1 => ("StagedParsers$Machine", "text", "LStagedParsers$Text;", true)
  | 2 => ("StagedParsers$Machine", "frames", "LStagedParsers$Frames;", true)
  | 3 => ("StagedParsers$Machine", "answers", "[I", true)
  | 4 => ("StagedParsers$Machine", "registers", "[I", true)
  | 5 => ("StagedParsers$Machine", "answerCount", "I", false)
  | 6 => ("StagedParsers$Machine", "state", "I", false)
  | 7 => ("StagedParsers$Machine", "next", "I", false)
  | 8 => ("StagedParsers$Machine", "place", "I", false)
  | 9 => ("StagedParsers$Machine", "looks", "I", false)
  | 10 => ("StagedParsers$Machine", "far", "I", false)
  | 11 => ("StagedParsers$Machine", "bodies", "I", false)
  | 12 => ("StagedParsers$Machine", "depth", "I", false)
  | _ => ("StagedParsers$Machine", "ran", "Z", false)
def tz_M : Nat → FieldType := fun k => match k with
  | 0 => .object "StagedParsers$Code"
  | 1 => .object "StagedParsers$Text"
  | 2 => .object "StagedParsers$Frames"
  | 3 => .array .int
  | 4 => .array .int
  | 5 => .int
  | 6 => .int
  | 7 => .int
  | 8 => .int
  | 9 => .int
  | 10 => .int
  | 11 => .int
  | 12 => .int
  | _ => .boolean
theorem nz_M : ∀ a, a < 14 → ∀ b, b < 14 → a ≠ b → (Tz_M a).2.1 ≠ (Tz_M b).2.1 := by decide +kernel
theorem tz_M_ok : ∀ k, k < 14 → parseFieldDescriptor (Tz_M k).2.2.1 = some (tz_M k) := by decide +kernel
theorem uz_M : ∀ w ∈ u_ws Rz_M Tz_M 14, w ∈ AW_ := fun w hw => by
  obtain ⟨k, hk, rfl⟩ := List.mem_map.mp hw
  have hk := List.mem_range.mp hk
  rcases (show k = 0 ∨ k = 1 ∨ k = 2 ∨ k = 3 ∨ k = 4 ∨ k = 5 ∨ k = 6 ∨ k = 7 ∨ k = 8 ∨ k = 9 ∨ k = 10 ∨ k = 11 ∨ k = 12 ∨ k = 13 by omega) with rfl | rfl | rfl | rfl | rfl | rfl | rfl | rfl | rfl | rfl | rfl | rfl | rfl | rfl
  · exact kw_165
  · exact kw_167
  · exact kw_169
  · exact kw_171
  · exact kw_173
  · exact kw_175
  · exact kw_177
  · exact kw_179
  · exact kw_181
  · exact kw_183
  · exact kw_185
  · exact kw_187
  · exact kw_189
  · exact kw_191
def Rz_F : String := "StagedParsers$Frames"
def Tz_F : u_T := fun k => match k with
  | 0 => ("StagedParsers$Frames", "manners", "[I", true)
  | 1 => ("StagedParsers$Frames", "targets", "[I", true)
  | 2 => ("StagedParsers$Frames", "places", "[I", true)
  | 3 => ("StagedParsers$Frames", "heights", "[I", true)
  | _ => ("StagedParsers$Frames", "size", "I", false)
def tz_F : Nat → FieldType := fun k => match k with
  | 0 => .array .int
  | 1 => .array .int
  | 2 => .array .int
  | 3 => .array .int
  | _ => .int
theorem nz_F : ∀ a, a < 5 → ∀ b, b < 5 → a ≠ b → (Tz_F a).2.1 ≠ (Tz_F b).2.1 := by decide +kernel
theorem tz_F_ok : ∀ k, k < 5 → parseFieldDescriptor (Tz_F k).2.2.1 = some (tz_F k) := by decide +kernel
theorem uz_F : ∀ w ∈ u_ws Rz_F Tz_F 5, w ∈ AW_ := fun w hw => by
  obtain ⟨k, hk, rfl⟩ := List.mem_map.mp hw
  have hk := List.mem_range.mp hk
  rcases (show k = 0 ∨ k = 1 ∨ k = 2 ∨ k = 3 ∨ k = 4 by omega) with rfl | rfl | rfl | rfl | rfl
  · exact kw_140
  · exact kw_142
  · exact kw_144
  · exact kw_146
  · exact kw_148
def Rz_R : String := "StagedParsersModel"
def Tz_R : u_T := fun k => match k with
  | 0 => ("StagedParsersModel", "thrown", "I", false)
  | 1 => ("StagedParsersModel", "nodes", "I", false)
  | 2 => ("StagedParsersModel", "kind", "[I", true)
  | 3 => ("StagedParsersModel", "one", "[I", true)
  | 4 => ("StagedParsersModel", "two", "[I", true)
  | 5 => ("StagedParsersModel", "three", "[I", true)
  | 6 => ("StagedParsersModel", "high", "[I", true)
  | 7 => ("StagedParsersModel", "bodies", "[I", true)
  | 8 => ("StagedParsersModel", "staged", "Z", false)
  | 9 => ("StagedParsersModel", "text", "[I", true)
  | 10 => ("StagedParsersModel", "length", "I", false)
  | 11 => ("StagedParsersModel", "isEmpty", "[Z", true)
  | 12 => ("StagedParsersModel", "isBeginning", "[Z", true)
  | 13 => ("StagedParsersModel", "leading", "[I", true)
  | 14 => ("StagedParsersModel", "within", "[Z", true)
  | 15 => ("StagedParsersModel", "open", "I", false)
  | 16 => ("StagedParsersModel", "which", "[I", true)
  | 17 => ("StagedParsersModel", "state", "[I", true)
  | 18 => ("StagedParsersModel", "start", "[I", true)
  | 19 => ("StagedParsersModel", "answer", "[I", true)
  | 20 => ("StagedParsersModel", "mark", "[I", true)
  | 21 => ("StagedParsersModel", "sign", "[I", true)
  | 22 => ("StagedParsersModel", "good", "Z", false)
  | 23 => ("StagedParsersModel", "at", "I", false)
  | 24 => ("StagedParsersModel", "value", "I", false)
  | 25 => ("StagedParsersModel", "tired", "Z", false)
  | 26 => ("StagedParsersModel", "running", "I", false)
  | 27 => ("StagedParsersModel", "bodiesRun", "I", false)
  | 28 => ("StagedParsersModel", "looks", "I", false)
  | 29 => ("StagedParsersModel", "far", "I", false)
  | 30 => ("StagedParsersModel", "registers", "[I", true)
  | 31 => ("StagedParsersModel", "parsed", "Z", false)
  | 32 => ("StagedParsersModel", "lastPlace", "I", false)
  | _ => ("StagedParsersModel", "lastGood", "Z", false)
def tz_R : Nat → FieldType := fun k => match k with
  | 0 => .int
  | 1 => .int
  | 2 => .array .int
  | 3 => .array .int
  | 4 => .array .int
  | 5 => .array .int
  | 6 => .array .int
  | 7 => .array .int
  | 8 => .boolean
  | 9 => .array .int
  | 10 => .int
  | 11 => .array .boolean
  | 12 => .array .boolean
  | 13 => .array .int
  | 14 => .array .boolean
  | 15 => .int
  | 16 => .array .int
  | 17 => .array .int
  | 18 => .array .int
  | 19 => .array .int
  | 20 => .array .int
  | 21 => .array .int
  | 22 => .boolean
  | 23 => .int
  | 24 => .int
  | 25 => .boolean
  | 26 => .int
  | 27 => .int
  | 28 => .int
  | 29 => .int
  | 30 => .array .int
  | 31 => .boolean
  | 32 => .int
  | _ => .boolean
theorem nz_R : ∀ a, a < 34 → ∀ b, b < 34 → a ≠ b → (Tz_R a).2.1 ≠ (Tz_R b).2.1 := by decide +kernel
theorem tz_R_ok : ∀ k, k < 34 → parseFieldDescriptor (Tz_R k).2.2.1 = some (tz_R k) := by decide +kernel
theorem uz_R : ∀ w ∈ u_ws Rz_R Tz_R 34, w ∈ AW_ := fun w hw => by
  obtain ⟨k, hk, rfl⟩ := List.mem_map.mp hw
  have hk := List.mem_range.mp hk
  rcases (show k = 0 ∨ k = 1 ∨ k = 2 ∨ k = 3 ∨ k = 4 ∨ k = 5 ∨ k = 6 ∨ k = 7 ∨ k = 8 ∨ k = 9 ∨ k = 10 ∨ k = 11 ∨ k = 12 ∨ k = 13 ∨ k = 14 ∨ k = 15 ∨ k = 16 ∨ k = 17 ∨ k = 18 ∨ k = 19 ∨ k = 20 ∨ k = 21 ∨ k = 22 ∨ k = 23 ∨ k = 24 ∨ k = 25 ∨ k = 26 ∨ k = 27 ∨ k = 28 ∨ k = 29 ∨ k = 30 ∨ k = 31 ∨ k = 32 ∨ k = 33 by omega) with rfl | rfl | rfl | rfl | rfl | rfl | rfl | rfl | rfl | rfl | rfl | rfl | rfl | rfl | rfl | rfl | rfl | rfl | rfl | rfl | rfl | rfl | rfl | rfl | rfl | rfl | rfl | rfl | rfl | rfl | rfl | rfl | rfl | rfl
  · exact kw_845
  · exact kw_847
  · exact kw_849
  · exact kw_851
  · exact kw_853
  · exact kw_855
  · exact kw_857
  · exact kw_859
  · exact kw_861
  · exact kw_863
  · exact kw_865
  · exact kw_867
  · exact kw_869
  · exact kw_871
  · exact kw_873
  · exact kw_875
  · exact kw_877
  · exact kw_879
  · exact kw_881
  · exact kw_883
  · exact kw_885
  · exact kw_887
  · exact kw_889
  · exact kw_891
  · exact kw_893
  · exact kw_895
  · exact kw_897
  · exact kw_899
  · exact kw_901
  · exact kw_903
  · exact kw_905
  · exact kw_907
  · exact kw_909
  · exact kw_911
abbrev cls_ : List vw_C := [(Rz_S, Tz_S, 6), (Rz_G, Tz_G, 7), (Rz_Y, Tz_Y, 6), (Rz_C, Tz_C, 6), (Rz_T, Tz_T, 2), (Rz_M, Tz_M, 14), (Rz_F, Tz_F, 5), (Rz_R, Tz_R, 34)]
def wX (q : Nat → Nat) (cA : Nat → ClassId) (σ : MZ_) : va_W := [(q 0, .inr (0, [.ref (q 1), .ref (q 8), .ref (q 14), .ref (q 20), .ref (q 22), .int (σ 30 0)])),
  (q 1, .inr (1, [.ref (q 2), .ref (q 3), .ref (q 4), .ref (q 5), .ref (q 6), .ref (q 7), .int (σ 31 0)])),
  (q 2, .inl (cA 2, 80, .inl (σ 2))),
  (q 3, .inl (cA 3, 80, .inl (σ 3))),
  (q 4, .inl (cA 4, 80, .inl (σ 4))),
  (q 5, .inl (cA 5, 80, .inl (σ 5))),
  (q 6, .inl (cA 6, 80, .inl (σ 6))),
  (q 7, .inl (cA 7, 6, .inl (σ 7))),
  (q 8, .inr (2, [.ref (q 1), .ref (q 9), .ref (q 10), .ref (q 11), .ref (q 12), .ref (q 13)])),
  (q 9, .inl (cA 9, 80, .inl (σ 9))),
  (q 10, .inl (cA 10, 80, .inl (σ 10))),
  (q 11, .inl (cA 11, 80, .inl (σ 11))),
  (q 12, .inl (cA 12, 80, .inl (σ 12))),
  (q 13, .inl (cA 13, 6, .inl (σ 13))),
  (q 14, .inr (3, [.ref (q 15), .ref (q 16), .ref (q 17), .ref (q 18), .ref (q 19), .int (σ 32 0)])),
  (q 15, .inl (cA 15, 561, .inl (σ 15))),
  (q 16, .inl (cA 16, 561, .inl (σ 16))),
  (q 17, .inl (cA 17, 561, .inl (σ 17))),
  (q 18, .inl (cA 18, 80, .inl (σ 18))),
  (q 19, .inl (cA 19, 6, .inl (σ 19))),
  (q 20, .inr (4, [.ref (q 21), .int (σ 33 0)])),
  (q 21, .inl (cA 21, 40, .inl (σ 21))),
  (q 22, .inr (5, [.ref (q 14), .ref (q 20), .ref (q 25), .ref (q 23), .ref (q 24), .int (σ 34 0), .int (σ 35 0), .int (σ 36 0), .int (σ 37 0), .int (σ 38 0), .int (σ 39 0), .int (σ 40 0), .int (σ 41 0), .int (σ 42 0)])),
  (q 23, .inl (cA 23, 642, .inl (σ 23))),
  (q 24, .inl (cA 24, 4, .inl (σ 24))),
  (q 25, .inr (6, [.ref (q 26), .ref (q 27), .ref (q 28), .ref (q 29), .int (σ 43 0)])),
  (q 26, .inl (cA 26, 640, .inl (σ 26))),
  (q 27, .inl (cA 27, 640, .inl (σ 27))),
  (q 28, .inl (cA 28, 640, .inl (σ 28))),
  (q 29, .inl (cA 29, 640, .inl (σ 29)))]
def tyX (cA : Nat → ClassId) : List (ClassId × FieldType) := [(cA 2, .int), (cA 3, .int), (cA 4, .int), (cA 5, .int), (cA 6, .int), (cA 7, .int), (cA 9, .boolean), (cA 10, .boolean), (cA 11, .boolean), (cA 12, .int), (cA 13, .int), (cA 15, .int), (cA 16, .int), (cA 17, .int), (cA 18, .int), (cA 19, .int), (cA 21, .char), (cA 23, .int), (cA 24, .int), (cA 26, .int), (cA 27, .int), (cA 28, .int), (cA 29, .int)]
/-- the cells of the system -/
def AX (q : Nat → Nat) : Nat → Prop := fun a => ∃ i, i < 30 ∧ a = q i
theorem wX_f (q : Nat → Nat) (cA : Nat → ClassId) (σ σ2 : MZ_) : (wX q cA σ).map Prod.fst = (wX q cA σ2).map Prod.fst := rfl
theorem wX_a (q : Nat → Nat) (cA : Nat → ClassId) (σ : MZ_) : (wX q cA σ).map Prod.fst = (List.range 30).map q := rfl
def wR (q : Nat → Nat) (cA : Nat → ClassId) (σ : MZ_) : va_W := [(q 0, .inr (7, [.int (σ 30 0), .int (σ 31 0), .ref (q 1), .ref (q 2), .ref (q 3), .ref (q 4), .ref (q 5), .ref (q 6), .int (σ 32 0), .ref (q 7), .int (σ 33 0), .ref (q 8), .ref (q 9), .ref (q 10), .ref (q 11), .int (σ 34 0), .ref (q 12), .ref (q 13), .ref (q 14), .ref (q 15), .ref (q 16), .ref (q 17), .int (σ 35 0), .int (σ 36 0), .int (σ 37 0), .int (σ 38 0), .int (σ 39 0), .int (σ 40 0), .int (σ 41 0), .int (σ 42 0), .ref (q 18), .int (σ 43 0), .int (σ 44 0), .int (σ 45 0)])),
  (q 1, .inl (cA 1, 80, .inl (σ 1))),
  (q 2, .inl (cA 2, 80, .inl (σ 2))),
  (q 3, .inl (cA 3, 80, .inl (σ 3))),
  (q 4, .inl (cA 4, 80, .inl (σ 4))),
  (q 5, .inl (cA 5, 80, .inl (σ 5))),
  (q 6, .inl (cA 6, 6, .inl (σ 6))),
  (q 7, .inl (cA 7, 40, .inl (σ 7))),
  (q 8, .inl (cA 8, 80, .inl (σ 8))),
  (q 9, .inl (cA 9, 80, .inl (σ 9))),
  (q 10, .inl (cA 10, 80, .inl (σ 10))),
  (q 11, .inl (cA 11, 80, .inl (σ 11))),
  (q 12, .inl (cA 12, 400, .inl (σ 12))),
  (q 13, .inl (cA 13, 400, .inl (σ 13))),
  (q 14, .inl (cA 14, 400, .inl (σ 14))),
  (q 15, .inl (cA 15, 400, .inl (σ 15))),
  (q 16, .inl (cA 16, 400, .inl (σ 16))),
  (q 17, .inl (cA 17, 400, .inl (σ 17))),
  (q 18, .inl (cA 18, 4, .inl (σ 18)))]
def tyR (cA : Nat → ClassId) : List (ClassId × FieldType) := [(cA 1, .int), (cA 2, .int), (cA 3, .int), (cA 4, .int), (cA 5, .int), (cA 6, .int), (cA 7, .int), (cA 8, .boolean), (cA 9, .boolean), (cA 10, .int), (cA 11, .boolean), (cA 12, .int), (cA 13, .int), (cA 14, .int), (cA 15, .int), (cA 16, .int), (cA 17, .int), (cA 18, .int)]
/-- the cells of the system -/
def AR (q : Nat → Nat) : Nat → Prop := fun a => ∃ i, i < 19 ∧ a = q i
theorem wR_f (q : Nat → Nat) (cA : Nat → ClassId) (σ σ2 : MZ_) : (wR q cA σ).map Prod.fst = (wR q cA σ2).map Prod.fst := rfl
theorem wR_a (q : Nat → Nat) (cA : Nat → ClassId) (σ : MZ_) : (wR q cA σ).map Prod.fst = (List.range 19).map q := rfl
theorem dd_re {A : Nat → Prop} {w w2 : va_W} (h : w.map Prod.fst = w2.map Prod.fst) (hD : va_D A w) : va_D A w2 := by
  have key : ∀ (k : Nat) (x : Nat × va_E), w2[k]? = some x → ∃ y : Nat × va_E, w[k]? = some y ∧ y.1 = x.1 := by
    intro k x hk
    have e1 : (w2.map Prod.fst)[k]? = some x.1 := by rw [List.getElem?_map, hk]; rfl
    rw [← h, List.getElem?_map] at e1
    cases hw : w[k]? with
    | none => rw [hw] at e1; cases e1
    | some y => rw [hw] at e1; exact ⟨y, rfl, Option.some.inj e1⟩
  refine ⟨fun i j a b hi hj hab => ?_, fun k x hk => ?_⟩
  · obtain ⟨a', h1, h2⟩ := key i a hi
    obtain ⟨b', h3, h4⟩ := key j b hj
    exact hD.1 i j a' b' h1 h3 (by rw [h2, h4]; exact hab)
  · obtain ⟨y, h1, h2⟩ := key k x hk
    rw [← h2]
    exact hD.2 k y h1
theorem dd_in {N : Nat} {q : Nat → Nat} {A0 : Nat → Prop} {w : va_W} (h : w.map Prod.fst = (List.range N).map q) (hD : va_D A0 w) : va_D (fun a => ∃ i, i < N ∧ a = q i) w := by
  refine ⟨hD.1, fun k x hk => ?_⟩
  have e1 : (w.map Prod.fst)[k]? = some x.1 := by rw [List.getElem?_map, hk]; rfl
  rw [h, List.getElem?_map] at e1
  cases hr : (List.range N)[k]? with
  | none => rw [hr] at e1; cases e1
  | some j =>
    rw [hr] at e1
    have hj : j < N := List.mem_range.mp (List.mem_of_getElem? hr)
    exact ⟨j, hj, (Option.some.inj e1).symm⟩
section ROWSA
variable {p : Program} {l : Launch} {e : Env} {R : Room} {s : State} {m : MethodId} {args : Array Value} {below : List Frame} {meth : Method} {c : Code} {H : Heap} {locs : List Loc} {cells slots : Nat} {Q : State → Prop}
variable {cc : ByteArray} {pc : Nat} {ls : Array Slot} {rest : List Value} {dC : Nat → ClassId} {dI : Nat → Nat → Nat} {q : Nat → Nat} {cA : Nat → ClassId} {σ : MZ_} {H0 : Heap} {A : Nat → Prop}

theorem al_X_2 (hx : p.tables.exec = Jvm.exec) (hb : c.code = cc) (hK : va_K (dC, dI) cls_ (tyX cA) s) (hP : va_P (dC, dI) cls_ (wX q cA σ) H) {i : Int32} (hin : vp_in i 80) (hdg : decode cc pc = .ok (.iaload, 1)) (kk : W p l e R s m args below meth c H locs cells slots Q (F0 m (pc + 1) ls (.int (σ 2 i.toNatClampNeg) :: rest))) : W p l e R s m args below meth c H locs cells slots Q (F0 m pc ls (.int i :: .ref (q 2) :: rest)) :=
  va_iald (D := (dC, dI)) (cl := cls_) (ws := wX q cA σ) (tys := tyX cA) hx hb hK hP 2 0 rfl rfl hin hdg kk
theorem as_X_2 (hx : p.tables.exec = Jvm.exec) (hb : c.code = cc) (hK : va_K (dC, dI) cls_ (tyX cA) s) (hP : va_P (dC, dI) cls_ (wX q cA σ) H) (hD : va_D A (wX q cA σ)) (hS : va_S A H0 H locs) {i x : Int32} (hin : vp_in i 80) (hdg : decode cc pc = .ok (.iastore, 1)) (kk : ∀ (H1 : Heap) (locs1 : List Loc), va_P (dC, dI) cls_ (wX q cA (va_up σ 2 (upd (σ 2) i.toNatClampNeg x))) H1 → va_S A H0 H1 locs1 → W p l e R s m args below meth c H1 locs1 cells slots Q (F0 m (pc + 1) ls rest)) : W p l e R s m args below meth c H locs cells slots Q (F0 m pc ls (.int x :: .int i :: .ref (q 2) :: rest)) :=
  va_iast (D := (dC, dI)) (cl := cls_) (ws := wX q cA σ) (tys := tyX cA) hx hb hK hP hD hS 2 0 rfl rfl hin hdg (fun H1 locs1 hP _ hS => kk H1 locs1 hP hS)
theorem al_X_3 (hx : p.tables.exec = Jvm.exec) (hb : c.code = cc) (hK : va_K (dC, dI) cls_ (tyX cA) s) (hP : va_P (dC, dI) cls_ (wX q cA σ) H) {i : Int32} (hin : vp_in i 80) (hdg : decode cc pc = .ok (.iaload, 1)) (kk : W p l e R s m args below meth c H locs cells slots Q (F0 m (pc + 1) ls (.int (σ 3 i.toNatClampNeg) :: rest))) : W p l e R s m args below meth c H locs cells slots Q (F0 m pc ls (.int i :: .ref (q 3) :: rest)) :=
  va_iald (D := (dC, dI)) (cl := cls_) (ws := wX q cA σ) (tys := tyX cA) hx hb hK hP 3 1 rfl rfl hin hdg kk
theorem as_X_3 (hx : p.tables.exec = Jvm.exec) (hb : c.code = cc) (hK : va_K (dC, dI) cls_ (tyX cA) s) (hP : va_P (dC, dI) cls_ (wX q cA σ) H) (hD : va_D A (wX q cA σ)) (hS : va_S A H0 H locs) {i x : Int32} (hin : vp_in i 80) (hdg : decode cc pc = .ok (.iastore, 1)) (kk : ∀ (H1 : Heap) (locs1 : List Loc), va_P (dC, dI) cls_ (wX q cA (va_up σ 3 (upd (σ 3) i.toNatClampNeg x))) H1 → va_S A H0 H1 locs1 → W p l e R s m args below meth c H1 locs1 cells slots Q (F0 m (pc + 1) ls rest)) : W p l e R s m args below meth c H locs cells slots Q (F0 m pc ls (.int x :: .int i :: .ref (q 3) :: rest)) :=
  va_iast (D := (dC, dI)) (cl := cls_) (ws := wX q cA σ) (tys := tyX cA) hx hb hK hP hD hS 3 1 rfl rfl hin hdg (fun H1 locs1 hP _ hS => kk H1 locs1 hP hS)
theorem al_X_4 (hx : p.tables.exec = Jvm.exec) (hb : c.code = cc) (hK : va_K (dC, dI) cls_ (tyX cA) s) (hP : va_P (dC, dI) cls_ (wX q cA σ) H) {i : Int32} (hin : vp_in i 80) (hdg : decode cc pc = .ok (.iaload, 1)) (kk : W p l e R s m args below meth c H locs cells slots Q (F0 m (pc + 1) ls (.int (σ 4 i.toNatClampNeg) :: rest))) : W p l e R s m args below meth c H locs cells slots Q (F0 m pc ls (.int i :: .ref (q 4) :: rest)) :=
  va_iald (D := (dC, dI)) (cl := cls_) (ws := wX q cA σ) (tys := tyX cA) hx hb hK hP 4 2 rfl rfl hin hdg kk
theorem as_X_4 (hx : p.tables.exec = Jvm.exec) (hb : c.code = cc) (hK : va_K (dC, dI) cls_ (tyX cA) s) (hP : va_P (dC, dI) cls_ (wX q cA σ) H) (hD : va_D A (wX q cA σ)) (hS : va_S A H0 H locs) {i x : Int32} (hin : vp_in i 80) (hdg : decode cc pc = .ok (.iastore, 1)) (kk : ∀ (H1 : Heap) (locs1 : List Loc), va_P (dC, dI) cls_ (wX q cA (va_up σ 4 (upd (σ 4) i.toNatClampNeg x))) H1 → va_S A H0 H1 locs1 → W p l e R s m args below meth c H1 locs1 cells slots Q (F0 m (pc + 1) ls rest)) : W p l e R s m args below meth c H locs cells slots Q (F0 m pc ls (.int x :: .int i :: .ref (q 4) :: rest)) :=
  va_iast (D := (dC, dI)) (cl := cls_) (ws := wX q cA σ) (tys := tyX cA) hx hb hK hP hD hS 4 2 rfl rfl hin hdg (fun H1 locs1 hP _ hS => kk H1 locs1 hP hS)
theorem al_X_5 (hx : p.tables.exec = Jvm.exec) (hb : c.code = cc) (hK : va_K (dC, dI) cls_ (tyX cA) s) (hP : va_P (dC, dI) cls_ (wX q cA σ) H) {i : Int32} (hin : vp_in i 80) (hdg : decode cc pc = .ok (.iaload, 1)) (kk : W p l e R s m args below meth c H locs cells slots Q (F0 m (pc + 1) ls (.int (σ 5 i.toNatClampNeg) :: rest))) : W p l e R s m args below meth c H locs cells slots Q (F0 m pc ls (.int i :: .ref (q 5) :: rest)) :=
  va_iald (D := (dC, dI)) (cl := cls_) (ws := wX q cA σ) (tys := tyX cA) hx hb hK hP 5 3 rfl rfl hin hdg kk
theorem as_X_5 (hx : p.tables.exec = Jvm.exec) (hb : c.code = cc) (hK : va_K (dC, dI) cls_ (tyX cA) s) (hP : va_P (dC, dI) cls_ (wX q cA σ) H) (hD : va_D A (wX q cA σ)) (hS : va_S A H0 H locs) {i x : Int32} (hin : vp_in i 80) (hdg : decode cc pc = .ok (.iastore, 1)) (kk : ∀ (H1 : Heap) (locs1 : List Loc), va_P (dC, dI) cls_ (wX q cA (va_up σ 5 (upd (σ 5) i.toNatClampNeg x))) H1 → va_S A H0 H1 locs1 → W p l e R s m args below meth c H1 locs1 cells slots Q (F0 m (pc + 1) ls rest)) : W p l e R s m args below meth c H locs cells slots Q (F0 m pc ls (.int x :: .int i :: .ref (q 5) :: rest)) :=
  va_iast (D := (dC, dI)) (cl := cls_) (ws := wX q cA σ) (tys := tyX cA) hx hb hK hP hD hS 5 3 rfl rfl hin hdg (fun H1 locs1 hP _ hS => kk H1 locs1 hP hS)
theorem al_X_6 (hx : p.tables.exec = Jvm.exec) (hb : c.code = cc) (hK : va_K (dC, dI) cls_ (tyX cA) s) (hP : va_P (dC, dI) cls_ (wX q cA σ) H) {i : Int32} (hin : vp_in i 80) (hdg : decode cc pc = .ok (.iaload, 1)) (kk : W p l e R s m args below meth c H locs cells slots Q (F0 m (pc + 1) ls (.int (σ 6 i.toNatClampNeg) :: rest))) : W p l e R s m args below meth c H locs cells slots Q (F0 m pc ls (.int i :: .ref (q 6) :: rest)) :=
  va_iald (D := (dC, dI)) (cl := cls_) (ws := wX q cA σ) (tys := tyX cA) hx hb hK hP 6 4 rfl rfl hin hdg kk
theorem as_X_6 (hx : p.tables.exec = Jvm.exec) (hb : c.code = cc) (hK : va_K (dC, dI) cls_ (tyX cA) s) (hP : va_P (dC, dI) cls_ (wX q cA σ) H) (hD : va_D A (wX q cA σ)) (hS : va_S A H0 H locs) {i x : Int32} (hin : vp_in i 80) (hdg : decode cc pc = .ok (.iastore, 1)) (kk : ∀ (H1 : Heap) (locs1 : List Loc), va_P (dC, dI) cls_ (wX q cA (va_up σ 6 (upd (σ 6) i.toNatClampNeg x))) H1 → va_S A H0 H1 locs1 → W p l e R s m args below meth c H1 locs1 cells slots Q (F0 m (pc + 1) ls rest)) : W p l e R s m args below meth c H locs cells slots Q (F0 m pc ls (.int x :: .int i :: .ref (q 6) :: rest)) :=
  va_iast (D := (dC, dI)) (cl := cls_) (ws := wX q cA σ) (tys := tyX cA) hx hb hK hP hD hS 6 4 rfl rfl hin hdg (fun H1 locs1 hP _ hS => kk H1 locs1 hP hS)
theorem al_X_7 (hx : p.tables.exec = Jvm.exec) (hb : c.code = cc) (hK : va_K (dC, dI) cls_ (tyX cA) s) (hP : va_P (dC, dI) cls_ (wX q cA σ) H) {i : Int32} (hin : vp_in i 6) (hdg : decode cc pc = .ok (.iaload, 1)) (kk : W p l e R s m args below meth c H locs cells slots Q (F0 m (pc + 1) ls (.int (σ 7 i.toNatClampNeg) :: rest))) : W p l e R s m args below meth c H locs cells slots Q (F0 m pc ls (.int i :: .ref (q 7) :: rest)) :=
  va_iald (D := (dC, dI)) (cl := cls_) (ws := wX q cA σ) (tys := tyX cA) hx hb hK hP 7 5 rfl rfl hin hdg kk
theorem as_X_7 (hx : p.tables.exec = Jvm.exec) (hb : c.code = cc) (hK : va_K (dC, dI) cls_ (tyX cA) s) (hP : va_P (dC, dI) cls_ (wX q cA σ) H) (hD : va_D A (wX q cA σ)) (hS : va_S A H0 H locs) {i x : Int32} (hin : vp_in i 6) (hdg : decode cc pc = .ok (.iastore, 1)) (kk : ∀ (H1 : Heap) (locs1 : List Loc), va_P (dC, dI) cls_ (wX q cA (va_up σ 7 (upd (σ 7) i.toNatClampNeg x))) H1 → va_S A H0 H1 locs1 → W p l e R s m args below meth c H1 locs1 cells slots Q (F0 m (pc + 1) ls rest)) : W p l e R s m args below meth c H locs cells slots Q (F0 m pc ls (.int x :: .int i :: .ref (q 7) :: rest)) :=
  va_iast (D := (dC, dI)) (cl := cls_) (ws := wX q cA σ) (tys := tyX cA) hx hb hK hP hD hS 7 5 rfl rfl hin hdg (fun H1 locs1 hP _ hS => kk H1 locs1 hP hS)
theorem an_X_7 (hx : p.tables.exec = Jvm.exec) (hb : c.code = cc) (hK : va_K (dC, dI) cls_ (tyX cA) s) (hP : va_P (dC, dI) cls_ (wX q cA σ) H) (hdg : decode cc pc = .ok (.arraylength, 1)) (kk : W p l e R s m args below meth c H locs cells slots Q (F0 m (pc + 1) ls (.int 6 :: rest))) : W p l e R s m args below meth c H locs cells slots Q (F0 m pc ls (.ref (q 7) :: rest)) :=
  va_alen (D := (dC, dI)) (cl := cls_) (ws := wX q cA σ) (tys := tyX cA) hx hb hK hP 7 5 rfl rfl (show Int32.ofNat 6 = 6 by decide) hdg kk
theorem al_X_9 (hx : p.tables.exec = Jvm.exec) (hb : c.code = cc) (hK : va_K (dC, dI) cls_ (tyX cA) s) (hP : va_P (dC, dI) cls_ (wX q cA σ) H) {i : Int32} (hin : vp_in i 80) (hdg : decode cc pc = .ok (.baload, 1)) (kk : W p l e R s m args below meth c H locs cells slots Q (F0 m (pc + 1) ls (.int (σ 9 i.toNatClampNeg) :: rest))) : W p l e R s m args below meth c H locs cells slots Q (F0 m pc ls (.int i :: .ref (q 9) :: rest)) :=
  va_zald (D := (dC, dI)) (cl := cls_) (ws := wX q cA σ) (tys := tyX cA) hx hb hK hP 9 6 rfl rfl hin hdg kk
theorem as_X_9 (hx : p.tables.exec = Jvm.exec) (hb : c.code = cc) (hK : va_K (dC, dI) cls_ (tyX cA) s) (hP : va_P (dC, dI) cls_ (wX q cA σ) H) (hD : va_D A (wX q cA σ)) (hS : va_S A H0 H locs) {i x : Int32} (hin : vp_in i 80) (hdg : decode cc pc = .ok (.bastore, 1)) (kk : ∀ (H1 : Heap) (locs1 : List Loc), va_P (dC, dI) cls_ (wX q cA (va_up σ 9 (upd (σ 9) i.toNatClampNeg (vp_nar .boolean x)))) H1 → va_S A H0 H1 locs1 → W p l e R s m args below meth c H1 locs1 cells slots Q (F0 m (pc + 1) ls rest)) : W p l e R s m args below meth c H locs cells slots Q (F0 m pc ls (.int x :: .int i :: .ref (q 9) :: rest)) :=
  va_zast (D := (dC, dI)) (cl := cls_) (ws := wX q cA σ) (tys := tyX cA) hx hb hK hP hD hS 9 6 rfl rfl hin hdg (fun H1 locs1 hP _ hS => kk H1 locs1 hP hS)
theorem al_X_10 (hx : p.tables.exec = Jvm.exec) (hb : c.code = cc) (hK : va_K (dC, dI) cls_ (tyX cA) s) (hP : va_P (dC, dI) cls_ (wX q cA σ) H) {i : Int32} (hin : vp_in i 80) (hdg : decode cc pc = .ok (.baload, 1)) (kk : W p l e R s m args below meth c H locs cells slots Q (F0 m (pc + 1) ls (.int (σ 10 i.toNatClampNeg) :: rest))) : W p l e R s m args below meth c H locs cells slots Q (F0 m pc ls (.int i :: .ref (q 10) :: rest)) :=
  va_zald (D := (dC, dI)) (cl := cls_) (ws := wX q cA σ) (tys := tyX cA) hx hb hK hP 10 7 rfl rfl hin hdg kk
theorem as_X_10 (hx : p.tables.exec = Jvm.exec) (hb : c.code = cc) (hK : va_K (dC, dI) cls_ (tyX cA) s) (hP : va_P (dC, dI) cls_ (wX q cA σ) H) (hD : va_D A (wX q cA σ)) (hS : va_S A H0 H locs) {i x : Int32} (hin : vp_in i 80) (hdg : decode cc pc = .ok (.bastore, 1)) (kk : ∀ (H1 : Heap) (locs1 : List Loc), va_P (dC, dI) cls_ (wX q cA (va_up σ 10 (upd (σ 10) i.toNatClampNeg (vp_nar .boolean x)))) H1 → va_S A H0 H1 locs1 → W p l e R s m args below meth c H1 locs1 cells slots Q (F0 m (pc + 1) ls rest)) : W p l e R s m args below meth c H locs cells slots Q (F0 m pc ls (.int x :: .int i :: .ref (q 10) :: rest)) :=
  va_zast (D := (dC, dI)) (cl := cls_) (ws := wX q cA σ) (tys := tyX cA) hx hb hK hP hD hS 10 7 rfl rfl hin hdg (fun H1 locs1 hP _ hS => kk H1 locs1 hP hS)
theorem al_X_11 (hx : p.tables.exec = Jvm.exec) (hb : c.code = cc) (hK : va_K (dC, dI) cls_ (tyX cA) s) (hP : va_P (dC, dI) cls_ (wX q cA σ) H) {i : Int32} (hin : vp_in i 80) (hdg : decode cc pc = .ok (.baload, 1)) (kk : W p l e R s m args below meth c H locs cells slots Q (F0 m (pc + 1) ls (.int (σ 11 i.toNatClampNeg) :: rest))) : W p l e R s m args below meth c H locs cells slots Q (F0 m pc ls (.int i :: .ref (q 11) :: rest)) :=
  va_zald (D := (dC, dI)) (cl := cls_) (ws := wX q cA σ) (tys := tyX cA) hx hb hK hP 11 8 rfl rfl hin hdg kk
theorem as_X_11 (hx : p.tables.exec = Jvm.exec) (hb : c.code = cc) (hK : va_K (dC, dI) cls_ (tyX cA) s) (hP : va_P (dC, dI) cls_ (wX q cA σ) H) (hD : va_D A (wX q cA σ)) (hS : va_S A H0 H locs) {i x : Int32} (hin : vp_in i 80) (hdg : decode cc pc = .ok (.bastore, 1)) (kk : ∀ (H1 : Heap) (locs1 : List Loc), va_P (dC, dI) cls_ (wX q cA (va_up σ 11 (upd (σ 11) i.toNatClampNeg (vp_nar .boolean x)))) H1 → va_S A H0 H1 locs1 → W p l e R s m args below meth c H1 locs1 cells slots Q (F0 m (pc + 1) ls rest)) : W p l e R s m args below meth c H locs cells slots Q (F0 m pc ls (.int x :: .int i :: .ref (q 11) :: rest)) :=
  va_zast (D := (dC, dI)) (cl := cls_) (ws := wX q cA σ) (tys := tyX cA) hx hb hK hP hD hS 11 8 rfl rfl hin hdg (fun H1 locs1 hP _ hS => kk H1 locs1 hP hS)
theorem al_X_12 (hx : p.tables.exec = Jvm.exec) (hb : c.code = cc) (hK : va_K (dC, dI) cls_ (tyX cA) s) (hP : va_P (dC, dI) cls_ (wX q cA σ) H) {i : Int32} (hin : vp_in i 80) (hdg : decode cc pc = .ok (.iaload, 1)) (kk : W p l e R s m args below meth c H locs cells slots Q (F0 m (pc + 1) ls (.int (σ 12 i.toNatClampNeg) :: rest))) : W p l e R s m args below meth c H locs cells slots Q (F0 m pc ls (.int i :: .ref (q 12) :: rest)) :=
  va_iald (D := (dC, dI)) (cl := cls_) (ws := wX q cA σ) (tys := tyX cA) hx hb hK hP 12 9 rfl rfl hin hdg kk
theorem as_X_12 (hx : p.tables.exec = Jvm.exec) (hb : c.code = cc) (hK : va_K (dC, dI) cls_ (tyX cA) s) (hP : va_P (dC, dI) cls_ (wX q cA σ) H) (hD : va_D A (wX q cA σ)) (hS : va_S A H0 H locs) {i x : Int32} (hin : vp_in i 80) (hdg : decode cc pc = .ok (.iastore, 1)) (kk : ∀ (H1 : Heap) (locs1 : List Loc), va_P (dC, dI) cls_ (wX q cA (va_up σ 12 (upd (σ 12) i.toNatClampNeg x))) H1 → va_S A H0 H1 locs1 → W p l e R s m args below meth c H1 locs1 cells slots Q (F0 m (pc + 1) ls rest)) : W p l e R s m args below meth c H locs cells slots Q (F0 m pc ls (.int x :: .int i :: .ref (q 12) :: rest)) :=
  va_iast (D := (dC, dI)) (cl := cls_) (ws := wX q cA σ) (tys := tyX cA) hx hb hK hP hD hS 12 9 rfl rfl hin hdg (fun H1 locs1 hP _ hS => kk H1 locs1 hP hS)
theorem al_X_13 (hx : p.tables.exec = Jvm.exec) (hb : c.code = cc) (hK : va_K (dC, dI) cls_ (tyX cA) s) (hP : va_P (dC, dI) cls_ (wX q cA σ) H) {i : Int32} (hin : vp_in i 6) (hdg : decode cc pc = .ok (.iaload, 1)) (kk : W p l e R s m args below meth c H locs cells slots Q (F0 m (pc + 1) ls (.int (σ 13 i.toNatClampNeg) :: rest))) : W p l e R s m args below meth c H locs cells slots Q (F0 m pc ls (.int i :: .ref (q 13) :: rest)) :=
  va_iald (D := (dC, dI)) (cl := cls_) (ws := wX q cA σ) (tys := tyX cA) hx hb hK hP 13 10 rfl rfl hin hdg kk
theorem as_X_13 (hx : p.tables.exec = Jvm.exec) (hb : c.code = cc) (hK : va_K (dC, dI) cls_ (tyX cA) s) (hP : va_P (dC, dI) cls_ (wX q cA σ) H) (hD : va_D A (wX q cA σ)) (hS : va_S A H0 H locs) {i x : Int32} (hin : vp_in i 6) (hdg : decode cc pc = .ok (.iastore, 1)) (kk : ∀ (H1 : Heap) (locs1 : List Loc), va_P (dC, dI) cls_ (wX q cA (va_up σ 13 (upd (σ 13) i.toNatClampNeg x))) H1 → va_S A H0 H1 locs1 → W p l e R s m args below meth c H1 locs1 cells slots Q (F0 m (pc + 1) ls rest)) : W p l e R s m args below meth c H locs cells slots Q (F0 m pc ls (.int x :: .int i :: .ref (q 13) :: rest)) :=
  va_iast (D := (dC, dI)) (cl := cls_) (ws := wX q cA σ) (tys := tyX cA) hx hb hK hP hD hS 13 10 rfl rfl hin hdg (fun H1 locs1 hP _ hS => kk H1 locs1 hP hS)
theorem al_X_15 (hx : p.tables.exec = Jvm.exec) (hb : c.code = cc) (hK : va_K (dC, dI) cls_ (tyX cA) s) (hP : va_P (dC, dI) cls_ (wX q cA σ) H) {i : Int32} (hin : vp_in i 561) (hdg : decode cc pc = .ok (.iaload, 1)) (kk : W p l e R s m args below meth c H locs cells slots Q (F0 m (pc + 1) ls (.int (σ 15 i.toNatClampNeg) :: rest))) : W p l e R s m args below meth c H locs cells slots Q (F0 m pc ls (.int i :: .ref (q 15) :: rest)) :=
  va_iald (D := (dC, dI)) (cl := cls_) (ws := wX q cA σ) (tys := tyX cA) hx hb hK hP 15 11 rfl rfl hin hdg kk
theorem as_X_15 (hx : p.tables.exec = Jvm.exec) (hb : c.code = cc) (hK : va_K (dC, dI) cls_ (tyX cA) s) (hP : va_P (dC, dI) cls_ (wX q cA σ) H) (hD : va_D A (wX q cA σ)) (hS : va_S A H0 H locs) {i x : Int32} (hin : vp_in i 561) (hdg : decode cc pc = .ok (.iastore, 1)) (kk : ∀ (H1 : Heap) (locs1 : List Loc), va_P (dC, dI) cls_ (wX q cA (va_up σ 15 (upd (σ 15) i.toNatClampNeg x))) H1 → va_S A H0 H1 locs1 → W p l e R s m args below meth c H1 locs1 cells slots Q (F0 m (pc + 1) ls rest)) : W p l e R s m args below meth c H locs cells slots Q (F0 m pc ls (.int x :: .int i :: .ref (q 15) :: rest)) :=
  va_iast (D := (dC, dI)) (cl := cls_) (ws := wX q cA σ) (tys := tyX cA) hx hb hK hP hD hS 15 11 rfl rfl hin hdg (fun H1 locs1 hP _ hS => kk H1 locs1 hP hS)
theorem al_X_16 (hx : p.tables.exec = Jvm.exec) (hb : c.code = cc) (hK : va_K (dC, dI) cls_ (tyX cA) s) (hP : va_P (dC, dI) cls_ (wX q cA σ) H) {i : Int32} (hin : vp_in i 561) (hdg : decode cc pc = .ok (.iaload, 1)) (kk : W p l e R s m args below meth c H locs cells slots Q (F0 m (pc + 1) ls (.int (σ 16 i.toNatClampNeg) :: rest))) : W p l e R s m args below meth c H locs cells slots Q (F0 m pc ls (.int i :: .ref (q 16) :: rest)) :=
  va_iald (D := (dC, dI)) (cl := cls_) (ws := wX q cA σ) (tys := tyX cA) hx hb hK hP 16 12 rfl rfl hin hdg kk
theorem as_X_16 (hx : p.tables.exec = Jvm.exec) (hb : c.code = cc) (hK : va_K (dC, dI) cls_ (tyX cA) s) (hP : va_P (dC, dI) cls_ (wX q cA σ) H) (hD : va_D A (wX q cA σ)) (hS : va_S A H0 H locs) {i x : Int32} (hin : vp_in i 561) (hdg : decode cc pc = .ok (.iastore, 1)) (kk : ∀ (H1 : Heap) (locs1 : List Loc), va_P (dC, dI) cls_ (wX q cA (va_up σ 16 (upd (σ 16) i.toNatClampNeg x))) H1 → va_S A H0 H1 locs1 → W p l e R s m args below meth c H1 locs1 cells slots Q (F0 m (pc + 1) ls rest)) : W p l e R s m args below meth c H locs cells slots Q (F0 m pc ls (.int x :: .int i :: .ref (q 16) :: rest)) :=
  va_iast (D := (dC, dI)) (cl := cls_) (ws := wX q cA σ) (tys := tyX cA) hx hb hK hP hD hS 16 12 rfl rfl hin hdg (fun H1 locs1 hP _ hS => kk H1 locs1 hP hS)
theorem al_X_17 (hx : p.tables.exec = Jvm.exec) (hb : c.code = cc) (hK : va_K (dC, dI) cls_ (tyX cA) s) (hP : va_P (dC, dI) cls_ (wX q cA σ) H) {i : Int32} (hin : vp_in i 561) (hdg : decode cc pc = .ok (.iaload, 1)) (kk : W p l e R s m args below meth c H locs cells slots Q (F0 m (pc + 1) ls (.int (σ 17 i.toNatClampNeg) :: rest))) : W p l e R s m args below meth c H locs cells slots Q (F0 m pc ls (.int i :: .ref (q 17) :: rest)) :=
  va_iald (D := (dC, dI)) (cl := cls_) (ws := wX q cA σ) (tys := tyX cA) hx hb hK hP 17 13 rfl rfl hin hdg kk
theorem as_X_17 (hx : p.tables.exec = Jvm.exec) (hb : c.code = cc) (hK : va_K (dC, dI) cls_ (tyX cA) s) (hP : va_P (dC, dI) cls_ (wX q cA σ) H) (hD : va_D A (wX q cA σ)) (hS : va_S A H0 H locs) {i x : Int32} (hin : vp_in i 561) (hdg : decode cc pc = .ok (.iastore, 1)) (kk : ∀ (H1 : Heap) (locs1 : List Loc), va_P (dC, dI) cls_ (wX q cA (va_up σ 17 (upd (σ 17) i.toNatClampNeg x))) H1 → va_S A H0 H1 locs1 → W p l e R s m args below meth c H1 locs1 cells slots Q (F0 m (pc + 1) ls rest)) : W p l e R s m args below meth c H locs cells slots Q (F0 m pc ls (.int x :: .int i :: .ref (q 17) :: rest)) :=
  va_iast (D := (dC, dI)) (cl := cls_) (ws := wX q cA σ) (tys := tyX cA) hx hb hK hP hD hS 17 13 rfl rfl hin hdg (fun H1 locs1 hP _ hS => kk H1 locs1 hP hS)
theorem al_X_18 (hx : p.tables.exec = Jvm.exec) (hb : c.code = cc) (hK : va_K (dC, dI) cls_ (tyX cA) s) (hP : va_P (dC, dI) cls_ (wX q cA σ) H) {i : Int32} (hin : vp_in i 80) (hdg : decode cc pc = .ok (.iaload, 1)) (kk : W p l e R s m args below meth c H locs cells slots Q (F0 m (pc + 1) ls (.int (σ 18 i.toNatClampNeg) :: rest))) : W p l e R s m args below meth c H locs cells slots Q (F0 m pc ls (.int i :: .ref (q 18) :: rest)) :=
  va_iald (D := (dC, dI)) (cl := cls_) (ws := wX q cA σ) (tys := tyX cA) hx hb hK hP 18 14 rfl rfl hin hdg kk
theorem as_X_18 (hx : p.tables.exec = Jvm.exec) (hb : c.code = cc) (hK : va_K (dC, dI) cls_ (tyX cA) s) (hP : va_P (dC, dI) cls_ (wX q cA σ) H) (hD : va_D A (wX q cA σ)) (hS : va_S A H0 H locs) {i x : Int32} (hin : vp_in i 80) (hdg : decode cc pc = .ok (.iastore, 1)) (kk : ∀ (H1 : Heap) (locs1 : List Loc), va_P (dC, dI) cls_ (wX q cA (va_up σ 18 (upd (σ 18) i.toNatClampNeg x))) H1 → va_S A H0 H1 locs1 → W p l e R s m args below meth c H1 locs1 cells slots Q (F0 m (pc + 1) ls rest)) : W p l e R s m args below meth c H locs cells slots Q (F0 m pc ls (.int x :: .int i :: .ref (q 18) :: rest)) :=
  va_iast (D := (dC, dI)) (cl := cls_) (ws := wX q cA σ) (tys := tyX cA) hx hb hK hP hD hS 18 14 rfl rfl hin hdg (fun H1 locs1 hP _ hS => kk H1 locs1 hP hS)
theorem al_X_19 (hx : p.tables.exec = Jvm.exec) (hb : c.code = cc) (hK : va_K (dC, dI) cls_ (tyX cA) s) (hP : va_P (dC, dI) cls_ (wX q cA σ) H) {i : Int32} (hin : vp_in i 6) (hdg : decode cc pc = .ok (.iaload, 1)) (kk : W p l e R s m args below meth c H locs cells slots Q (F0 m (pc + 1) ls (.int (σ 19 i.toNatClampNeg) :: rest))) : W p l e R s m args below meth c H locs cells slots Q (F0 m pc ls (.int i :: .ref (q 19) :: rest)) :=
  va_iald (D := (dC, dI)) (cl := cls_) (ws := wX q cA σ) (tys := tyX cA) hx hb hK hP 19 15 rfl rfl hin hdg kk
theorem as_X_19 (hx : p.tables.exec = Jvm.exec) (hb : c.code = cc) (hK : va_K (dC, dI) cls_ (tyX cA) s) (hP : va_P (dC, dI) cls_ (wX q cA σ) H) (hD : va_D A (wX q cA σ)) (hS : va_S A H0 H locs) {i x : Int32} (hin : vp_in i 6) (hdg : decode cc pc = .ok (.iastore, 1)) (kk : ∀ (H1 : Heap) (locs1 : List Loc), va_P (dC, dI) cls_ (wX q cA (va_up σ 19 (upd (σ 19) i.toNatClampNeg x))) H1 → va_S A H0 H1 locs1 → W p l e R s m args below meth c H1 locs1 cells slots Q (F0 m (pc + 1) ls rest)) : W p l e R s m args below meth c H locs cells slots Q (F0 m pc ls (.int x :: .int i :: .ref (q 19) :: rest)) :=
  va_iast (D := (dC, dI)) (cl := cls_) (ws := wX q cA σ) (tys := tyX cA) hx hb hK hP hD hS 19 15 rfl rfl hin hdg (fun H1 locs1 hP _ hS => kk H1 locs1 hP hS)
theorem al_X_21 (hx : p.tables.exec = Jvm.exec) (hb : c.code = cc) (hK : va_K (dC, dI) cls_ (tyX cA) s) (hP : va_P (dC, dI) cls_ (wX q cA σ) H) {i : Int32} (hin : vp_in i 40) (hdg : decode cc pc = .ok (.caload, 1)) (kk : W p l e R s m args below meth c H locs cells slots Q (F0 m (pc + 1) ls (.int (σ 21 i.toNatClampNeg) :: rest))) : W p l e R s m args below meth c H locs cells slots Q (F0 m pc ls (.int i :: .ref (q 21) :: rest)) :=
  va_cald (D := (dC, dI)) (cl := cls_) (ws := wX q cA σ) (tys := tyX cA) hx hb hK hP 21 16 rfl rfl hin hdg kk
theorem as_X_21 (hx : p.tables.exec = Jvm.exec) (hb : c.code = cc) (hK : va_K (dC, dI) cls_ (tyX cA) s) (hP : va_P (dC, dI) cls_ (wX q cA σ) H) (hD : va_D A (wX q cA σ)) (hS : va_S A H0 H locs) {i x : Int32} (hin : vp_in i 40) (hdg : decode cc pc = .ok (.castore, 1)) (kk : ∀ (H1 : Heap) (locs1 : List Loc), va_P (dC, dI) cls_ (wX q cA (va_up σ 21 (upd (σ 21) i.toNatClampNeg (vp_nar .char x)))) H1 → va_S A H0 H1 locs1 → W p l e R s m args below meth c H1 locs1 cells slots Q (F0 m (pc + 1) ls rest)) : W p l e R s m args below meth c H locs cells slots Q (F0 m pc ls (.int x :: .int i :: .ref (q 21) :: rest)) :=
  va_cast (D := (dC, dI)) (cl := cls_) (ws := wX q cA σ) (tys := tyX cA) hx hb hK hP hD hS 21 16 rfl rfl hin hdg (fun H1 locs1 hP _ hS => kk H1 locs1 hP hS)
theorem al_X_23 (hx : p.tables.exec = Jvm.exec) (hb : c.code = cc) (hK : va_K (dC, dI) cls_ (tyX cA) s) (hP : va_P (dC, dI) cls_ (wX q cA σ) H) {i : Int32} (hin : vp_in i 642) (hdg : decode cc pc = .ok (.iaload, 1)) (kk : W p l e R s m args below meth c H locs cells slots Q (F0 m (pc + 1) ls (.int (σ 23 i.toNatClampNeg) :: rest))) : W p l e R s m args below meth c H locs cells slots Q (F0 m pc ls (.int i :: .ref (q 23) :: rest)) :=
  va_iald (D := (dC, dI)) (cl := cls_) (ws := wX q cA σ) (tys := tyX cA) hx hb hK hP 23 17 rfl rfl hin hdg kk
theorem as_X_23 (hx : p.tables.exec = Jvm.exec) (hb : c.code = cc) (hK : va_K (dC, dI) cls_ (tyX cA) s) (hP : va_P (dC, dI) cls_ (wX q cA σ) H) (hD : va_D A (wX q cA σ)) (hS : va_S A H0 H locs) {i x : Int32} (hin : vp_in i 642) (hdg : decode cc pc = .ok (.iastore, 1)) (kk : ∀ (H1 : Heap) (locs1 : List Loc), va_P (dC, dI) cls_ (wX q cA (va_up σ 23 (upd (σ 23) i.toNatClampNeg x))) H1 → va_S A H0 H1 locs1 → W p l e R s m args below meth c H1 locs1 cells slots Q (F0 m (pc + 1) ls rest)) : W p l e R s m args below meth c H locs cells slots Q (F0 m pc ls (.int x :: .int i :: .ref (q 23) :: rest)) :=
  va_iast (D := (dC, dI)) (cl := cls_) (ws := wX q cA σ) (tys := tyX cA) hx hb hK hP hD hS 23 17 rfl rfl hin hdg (fun H1 locs1 hP _ hS => kk H1 locs1 hP hS)
theorem al_X_24 (hx : p.tables.exec = Jvm.exec) (hb : c.code = cc) (hK : va_K (dC, dI) cls_ (tyX cA) s) (hP : va_P (dC, dI) cls_ (wX q cA σ) H) {i : Int32} (hin : vp_in i 4) (hdg : decode cc pc = .ok (.iaload, 1)) (kk : W p l e R s m args below meth c H locs cells slots Q (F0 m (pc + 1) ls (.int (σ 24 i.toNatClampNeg) :: rest))) : W p l e R s m args below meth c H locs cells slots Q (F0 m pc ls (.int i :: .ref (q 24) :: rest)) :=
  va_iald (D := (dC, dI)) (cl := cls_) (ws := wX q cA σ) (tys := tyX cA) hx hb hK hP 24 18 rfl rfl hin hdg kk
theorem as_X_24 (hx : p.tables.exec = Jvm.exec) (hb : c.code = cc) (hK : va_K (dC, dI) cls_ (tyX cA) s) (hP : va_P (dC, dI) cls_ (wX q cA σ) H) (hD : va_D A (wX q cA σ)) (hS : va_S A H0 H locs) {i x : Int32} (hin : vp_in i 4) (hdg : decode cc pc = .ok (.iastore, 1)) (kk : ∀ (H1 : Heap) (locs1 : List Loc), va_P (dC, dI) cls_ (wX q cA (va_up σ 24 (upd (σ 24) i.toNatClampNeg x))) H1 → va_S A H0 H1 locs1 → W p l e R s m args below meth c H1 locs1 cells slots Q (F0 m (pc + 1) ls rest)) : W p l e R s m args below meth c H locs cells slots Q (F0 m pc ls (.int x :: .int i :: .ref (q 24) :: rest)) :=
  va_iast (D := (dC, dI)) (cl := cls_) (ws := wX q cA σ) (tys := tyX cA) hx hb hK hP hD hS 24 18 rfl rfl hin hdg (fun H1 locs1 hP _ hS => kk H1 locs1 hP hS)
theorem an_X_24 (hx : p.tables.exec = Jvm.exec) (hb : c.code = cc) (hK : va_K (dC, dI) cls_ (tyX cA) s) (hP : va_P (dC, dI) cls_ (wX q cA σ) H) (hdg : decode cc pc = .ok (.arraylength, 1)) (kk : W p l e R s m args below meth c H locs cells slots Q (F0 m (pc + 1) ls (.int 4 :: rest))) : W p l e R s m args below meth c H locs cells slots Q (F0 m pc ls (.ref (q 24) :: rest)) :=
  va_alen (D := (dC, dI)) (cl := cls_) (ws := wX q cA σ) (tys := tyX cA) hx hb hK hP 24 18 rfl rfl (show Int32.ofNat 4 = 4 by decide) hdg kk
theorem al_X_26 (hx : p.tables.exec = Jvm.exec) (hb : c.code = cc) (hK : va_K (dC, dI) cls_ (tyX cA) s) (hP : va_P (dC, dI) cls_ (wX q cA σ) H) {i : Int32} (hin : vp_in i 640) (hdg : decode cc pc = .ok (.iaload, 1)) (kk : W p l e R s m args below meth c H locs cells slots Q (F0 m (pc + 1) ls (.int (σ 26 i.toNatClampNeg) :: rest))) : W p l e R s m args below meth c H locs cells slots Q (F0 m pc ls (.int i :: .ref (q 26) :: rest)) :=
  va_iald (D := (dC, dI)) (cl := cls_) (ws := wX q cA σ) (tys := tyX cA) hx hb hK hP 26 19 rfl rfl hin hdg kk
theorem as_X_26 (hx : p.tables.exec = Jvm.exec) (hb : c.code = cc) (hK : va_K (dC, dI) cls_ (tyX cA) s) (hP : va_P (dC, dI) cls_ (wX q cA σ) H) (hD : va_D A (wX q cA σ)) (hS : va_S A H0 H locs) {i x : Int32} (hin : vp_in i 640) (hdg : decode cc pc = .ok (.iastore, 1)) (kk : ∀ (H1 : Heap) (locs1 : List Loc), va_P (dC, dI) cls_ (wX q cA (va_up σ 26 (upd (σ 26) i.toNatClampNeg x))) H1 → va_S A H0 H1 locs1 → W p l e R s m args below meth c H1 locs1 cells slots Q (F0 m (pc + 1) ls rest)) : W p l e R s m args below meth c H locs cells slots Q (F0 m pc ls (.int x :: .int i :: .ref (q 26) :: rest)) :=
  va_iast (D := (dC, dI)) (cl := cls_) (ws := wX q cA σ) (tys := tyX cA) hx hb hK hP hD hS 26 19 rfl rfl hin hdg (fun H1 locs1 hP _ hS => kk H1 locs1 hP hS)
theorem al_X_27 (hx : p.tables.exec = Jvm.exec) (hb : c.code = cc) (hK : va_K (dC, dI) cls_ (tyX cA) s) (hP : va_P (dC, dI) cls_ (wX q cA σ) H) {i : Int32} (hin : vp_in i 640) (hdg : decode cc pc = .ok (.iaload, 1)) (kk : W p l e R s m args below meth c H locs cells slots Q (F0 m (pc + 1) ls (.int (σ 27 i.toNatClampNeg) :: rest))) : W p l e R s m args below meth c H locs cells slots Q (F0 m pc ls (.int i :: .ref (q 27) :: rest)) :=
  va_iald (D := (dC, dI)) (cl := cls_) (ws := wX q cA σ) (tys := tyX cA) hx hb hK hP 27 20 rfl rfl hin hdg kk
theorem as_X_27 (hx : p.tables.exec = Jvm.exec) (hb : c.code = cc) (hK : va_K (dC, dI) cls_ (tyX cA) s) (hP : va_P (dC, dI) cls_ (wX q cA σ) H) (hD : va_D A (wX q cA σ)) (hS : va_S A H0 H locs) {i x : Int32} (hin : vp_in i 640) (hdg : decode cc pc = .ok (.iastore, 1)) (kk : ∀ (H1 : Heap) (locs1 : List Loc), va_P (dC, dI) cls_ (wX q cA (va_up σ 27 (upd (σ 27) i.toNatClampNeg x))) H1 → va_S A H0 H1 locs1 → W p l e R s m args below meth c H1 locs1 cells slots Q (F0 m (pc + 1) ls rest)) : W p l e R s m args below meth c H locs cells slots Q (F0 m pc ls (.int x :: .int i :: .ref (q 27) :: rest)) :=
  va_iast (D := (dC, dI)) (cl := cls_) (ws := wX q cA σ) (tys := tyX cA) hx hb hK hP hD hS 27 20 rfl rfl hin hdg (fun H1 locs1 hP _ hS => kk H1 locs1 hP hS)
theorem al_X_28 (hx : p.tables.exec = Jvm.exec) (hb : c.code = cc) (hK : va_K (dC, dI) cls_ (tyX cA) s) (hP : va_P (dC, dI) cls_ (wX q cA σ) H) {i : Int32} (hin : vp_in i 640) (hdg : decode cc pc = .ok (.iaload, 1)) (kk : W p l e R s m args below meth c H locs cells slots Q (F0 m (pc + 1) ls (.int (σ 28 i.toNatClampNeg) :: rest))) : W p l e R s m args below meth c H locs cells slots Q (F0 m pc ls (.int i :: .ref (q 28) :: rest)) :=
  va_iald (D := (dC, dI)) (cl := cls_) (ws := wX q cA σ) (tys := tyX cA) hx hb hK hP 28 21 rfl rfl hin hdg kk
theorem as_X_28 (hx : p.tables.exec = Jvm.exec) (hb : c.code = cc) (hK : va_K (dC, dI) cls_ (tyX cA) s) (hP : va_P (dC, dI) cls_ (wX q cA σ) H) (hD : va_D A (wX q cA σ)) (hS : va_S A H0 H locs) {i x : Int32} (hin : vp_in i 640) (hdg : decode cc pc = .ok (.iastore, 1)) (kk : ∀ (H1 : Heap) (locs1 : List Loc), va_P (dC, dI) cls_ (wX q cA (va_up σ 28 (upd (σ 28) i.toNatClampNeg x))) H1 → va_S A H0 H1 locs1 → W p l e R s m args below meth c H1 locs1 cells slots Q (F0 m (pc + 1) ls rest)) : W p l e R s m args below meth c H locs cells slots Q (F0 m pc ls (.int x :: .int i :: .ref (q 28) :: rest)) :=
  va_iast (D := (dC, dI)) (cl := cls_) (ws := wX q cA σ) (tys := tyX cA) hx hb hK hP hD hS 28 21 rfl rfl hin hdg (fun H1 locs1 hP _ hS => kk H1 locs1 hP hS)
theorem al_X_29 (hx : p.tables.exec = Jvm.exec) (hb : c.code = cc) (hK : va_K (dC, dI) cls_ (tyX cA) s) (hP : va_P (dC, dI) cls_ (wX q cA σ) H) {i : Int32} (hin : vp_in i 640) (hdg : decode cc pc = .ok (.iaload, 1)) (kk : W p l e R s m args below meth c H locs cells slots Q (F0 m (pc + 1) ls (.int (σ 29 i.toNatClampNeg) :: rest))) : W p l e R s m args below meth c H locs cells slots Q (F0 m pc ls (.int i :: .ref (q 29) :: rest)) :=
  va_iald (D := (dC, dI)) (cl := cls_) (ws := wX q cA σ) (tys := tyX cA) hx hb hK hP 29 22 rfl rfl hin hdg kk
theorem as_X_29 (hx : p.tables.exec = Jvm.exec) (hb : c.code = cc) (hK : va_K (dC, dI) cls_ (tyX cA) s) (hP : va_P (dC, dI) cls_ (wX q cA σ) H) (hD : va_D A (wX q cA σ)) (hS : va_S A H0 H locs) {i x : Int32} (hin : vp_in i 640) (hdg : decode cc pc = .ok (.iastore, 1)) (kk : ∀ (H1 : Heap) (locs1 : List Loc), va_P (dC, dI) cls_ (wX q cA (va_up σ 29 (upd (σ 29) i.toNatClampNeg x))) H1 → va_S A H0 H1 locs1 → W p l e R s m args below meth c H1 locs1 cells slots Q (F0 m (pc + 1) ls rest)) : W p l e R s m args below meth c H locs cells slots Q (F0 m pc ls (.int x :: .int i :: .ref (q 29) :: rest)) :=
  va_iast (D := (dC, dI)) (cl := cls_) (ws := wX q cA σ) (tys := tyX cA) hx hb hK hP hD hS 29 22 rfl rfl hin hdg (fun H1 locs1 hP _ hS => kk H1 locs1 hP hS)
theorem al_R_1 (hx : p.tables.exec = Jvm.exec) (hb : c.code = cc) (hK : va_K (dC, dI) cls_ (tyR cA) s) (hP : va_P (dC, dI) cls_ (wR q cA σ) H) {i : Int32} (hin : vp_in i 80) (hdg : decode cc pc = .ok (.iaload, 1)) (kk : W p l e R s m args below meth c H locs cells slots Q (F0 m (pc + 1) ls (.int (σ 1 i.toNatClampNeg) :: rest))) : W p l e R s m args below meth c H locs cells slots Q (F0 m pc ls (.int i :: .ref (q 1) :: rest)) :=
  va_iald (D := (dC, dI)) (cl := cls_) (ws := wR q cA σ) (tys := tyR cA) hx hb hK hP 1 0 rfl rfl hin hdg kk
theorem as_R_1 (hx : p.tables.exec = Jvm.exec) (hb : c.code = cc) (hK : va_K (dC, dI) cls_ (tyR cA) s) (hP : va_P (dC, dI) cls_ (wR q cA σ) H) (hD : va_D A (wR q cA σ)) (hS : va_S A H0 H locs) {i x : Int32} (hin : vp_in i 80) (hdg : decode cc pc = .ok (.iastore, 1)) (kk : ∀ (H1 : Heap) (locs1 : List Loc), va_P (dC, dI) cls_ (wR q cA (va_up σ 1 (upd (σ 1) i.toNatClampNeg x))) H1 → va_S A H0 H1 locs1 → W p l e R s m args below meth c H1 locs1 cells slots Q (F0 m (pc + 1) ls rest)) : W p l e R s m args below meth c H locs cells slots Q (F0 m pc ls (.int x :: .int i :: .ref (q 1) :: rest)) :=
  va_iast (D := (dC, dI)) (cl := cls_) (ws := wR q cA σ) (tys := tyR cA) hx hb hK hP hD hS 1 0 rfl rfl hin hdg (fun H1 locs1 hP _ hS => kk H1 locs1 hP hS)
theorem al_R_2 (hx : p.tables.exec = Jvm.exec) (hb : c.code = cc) (hK : va_K (dC, dI) cls_ (tyR cA) s) (hP : va_P (dC, dI) cls_ (wR q cA σ) H) {i : Int32} (hin : vp_in i 80) (hdg : decode cc pc = .ok (.iaload, 1)) (kk : W p l e R s m args below meth c H locs cells slots Q (F0 m (pc + 1) ls (.int (σ 2 i.toNatClampNeg) :: rest))) : W p l e R s m args below meth c H locs cells slots Q (F0 m pc ls (.int i :: .ref (q 2) :: rest)) :=
  va_iald (D := (dC, dI)) (cl := cls_) (ws := wR q cA σ) (tys := tyR cA) hx hb hK hP 2 1 rfl rfl hin hdg kk
theorem as_R_2 (hx : p.tables.exec = Jvm.exec) (hb : c.code = cc) (hK : va_K (dC, dI) cls_ (tyR cA) s) (hP : va_P (dC, dI) cls_ (wR q cA σ) H) (hD : va_D A (wR q cA σ)) (hS : va_S A H0 H locs) {i x : Int32} (hin : vp_in i 80) (hdg : decode cc pc = .ok (.iastore, 1)) (kk : ∀ (H1 : Heap) (locs1 : List Loc), va_P (dC, dI) cls_ (wR q cA (va_up σ 2 (upd (σ 2) i.toNatClampNeg x))) H1 → va_S A H0 H1 locs1 → W p l e R s m args below meth c H1 locs1 cells slots Q (F0 m (pc + 1) ls rest)) : W p l e R s m args below meth c H locs cells slots Q (F0 m pc ls (.int x :: .int i :: .ref (q 2) :: rest)) :=
  va_iast (D := (dC, dI)) (cl := cls_) (ws := wR q cA σ) (tys := tyR cA) hx hb hK hP hD hS 2 1 rfl rfl hin hdg (fun H1 locs1 hP _ hS => kk H1 locs1 hP hS)
theorem al_R_3 (hx : p.tables.exec = Jvm.exec) (hb : c.code = cc) (hK : va_K (dC, dI) cls_ (tyR cA) s) (hP : va_P (dC, dI) cls_ (wR q cA σ) H) {i : Int32} (hin : vp_in i 80) (hdg : decode cc pc = .ok (.iaload, 1)) (kk : W p l e R s m args below meth c H locs cells slots Q (F0 m (pc + 1) ls (.int (σ 3 i.toNatClampNeg) :: rest))) : W p l e R s m args below meth c H locs cells slots Q (F0 m pc ls (.int i :: .ref (q 3) :: rest)) :=
  va_iald (D := (dC, dI)) (cl := cls_) (ws := wR q cA σ) (tys := tyR cA) hx hb hK hP 3 2 rfl rfl hin hdg kk
theorem as_R_3 (hx : p.tables.exec = Jvm.exec) (hb : c.code = cc) (hK : va_K (dC, dI) cls_ (tyR cA) s) (hP : va_P (dC, dI) cls_ (wR q cA σ) H) (hD : va_D A (wR q cA σ)) (hS : va_S A H0 H locs) {i x : Int32} (hin : vp_in i 80) (hdg : decode cc pc = .ok (.iastore, 1)) (kk : ∀ (H1 : Heap) (locs1 : List Loc), va_P (dC, dI) cls_ (wR q cA (va_up σ 3 (upd (σ 3) i.toNatClampNeg x))) H1 → va_S A H0 H1 locs1 → W p l e R s m args below meth c H1 locs1 cells slots Q (F0 m (pc + 1) ls rest)) : W p l e R s m args below meth c H locs cells slots Q (F0 m pc ls (.int x :: .int i :: .ref (q 3) :: rest)) :=
  va_iast (D := (dC, dI)) (cl := cls_) (ws := wR q cA σ) (tys := tyR cA) hx hb hK hP hD hS 3 2 rfl rfl hin hdg (fun H1 locs1 hP _ hS => kk H1 locs1 hP hS)
theorem al_R_4 (hx : p.tables.exec = Jvm.exec) (hb : c.code = cc) (hK : va_K (dC, dI) cls_ (tyR cA) s) (hP : va_P (dC, dI) cls_ (wR q cA σ) H) {i : Int32} (hin : vp_in i 80) (hdg : decode cc pc = .ok (.iaload, 1)) (kk : W p l e R s m args below meth c H locs cells slots Q (F0 m (pc + 1) ls (.int (σ 4 i.toNatClampNeg) :: rest))) : W p l e R s m args below meth c H locs cells slots Q (F0 m pc ls (.int i :: .ref (q 4) :: rest)) :=
  va_iald (D := (dC, dI)) (cl := cls_) (ws := wR q cA σ) (tys := tyR cA) hx hb hK hP 4 3 rfl rfl hin hdg kk
theorem as_R_4 (hx : p.tables.exec = Jvm.exec) (hb : c.code = cc) (hK : va_K (dC, dI) cls_ (tyR cA) s) (hP : va_P (dC, dI) cls_ (wR q cA σ) H) (hD : va_D A (wR q cA σ)) (hS : va_S A H0 H locs) {i x : Int32} (hin : vp_in i 80) (hdg : decode cc pc = .ok (.iastore, 1)) (kk : ∀ (H1 : Heap) (locs1 : List Loc), va_P (dC, dI) cls_ (wR q cA (va_up σ 4 (upd (σ 4) i.toNatClampNeg x))) H1 → va_S A H0 H1 locs1 → W p l e R s m args below meth c H1 locs1 cells slots Q (F0 m (pc + 1) ls rest)) : W p l e R s m args below meth c H locs cells slots Q (F0 m pc ls (.int x :: .int i :: .ref (q 4) :: rest)) :=
  va_iast (D := (dC, dI)) (cl := cls_) (ws := wR q cA σ) (tys := tyR cA) hx hb hK hP hD hS 4 3 rfl rfl hin hdg (fun H1 locs1 hP _ hS => kk H1 locs1 hP hS)
theorem al_R_5 (hx : p.tables.exec = Jvm.exec) (hb : c.code = cc) (hK : va_K (dC, dI) cls_ (tyR cA) s) (hP : va_P (dC, dI) cls_ (wR q cA σ) H) {i : Int32} (hin : vp_in i 80) (hdg : decode cc pc = .ok (.iaload, 1)) (kk : W p l e R s m args below meth c H locs cells slots Q (F0 m (pc + 1) ls (.int (σ 5 i.toNatClampNeg) :: rest))) : W p l e R s m args below meth c H locs cells slots Q (F0 m pc ls (.int i :: .ref (q 5) :: rest)) :=
  va_iald (D := (dC, dI)) (cl := cls_) (ws := wR q cA σ) (tys := tyR cA) hx hb hK hP 5 4 rfl rfl hin hdg kk
theorem as_R_5 (hx : p.tables.exec = Jvm.exec) (hb : c.code = cc) (hK : va_K (dC, dI) cls_ (tyR cA) s) (hP : va_P (dC, dI) cls_ (wR q cA σ) H) (hD : va_D A (wR q cA σ)) (hS : va_S A H0 H locs) {i x : Int32} (hin : vp_in i 80) (hdg : decode cc pc = .ok (.iastore, 1)) (kk : ∀ (H1 : Heap) (locs1 : List Loc), va_P (dC, dI) cls_ (wR q cA (va_up σ 5 (upd (σ 5) i.toNatClampNeg x))) H1 → va_S A H0 H1 locs1 → W p l e R s m args below meth c H1 locs1 cells slots Q (F0 m (pc + 1) ls rest)) : W p l e R s m args below meth c H locs cells slots Q (F0 m pc ls (.int x :: .int i :: .ref (q 5) :: rest)) :=
  va_iast (D := (dC, dI)) (cl := cls_) (ws := wR q cA σ) (tys := tyR cA) hx hb hK hP hD hS 5 4 rfl rfl hin hdg (fun H1 locs1 hP _ hS => kk H1 locs1 hP hS)
theorem al_R_6 (hx : p.tables.exec = Jvm.exec) (hb : c.code = cc) (hK : va_K (dC, dI) cls_ (tyR cA) s) (hP : va_P (dC, dI) cls_ (wR q cA σ) H) {i : Int32} (hin : vp_in i 6) (hdg : decode cc pc = .ok (.iaload, 1)) (kk : W p l e R s m args below meth c H locs cells slots Q (F0 m (pc + 1) ls (.int (σ 6 i.toNatClampNeg) :: rest))) : W p l e R s m args below meth c H locs cells slots Q (F0 m pc ls (.int i :: .ref (q 6) :: rest)) :=
  va_iald (D := (dC, dI)) (cl := cls_) (ws := wR q cA σ) (tys := tyR cA) hx hb hK hP 6 5 rfl rfl hin hdg kk
theorem as_R_6 (hx : p.tables.exec = Jvm.exec) (hb : c.code = cc) (hK : va_K (dC, dI) cls_ (tyR cA) s) (hP : va_P (dC, dI) cls_ (wR q cA σ) H) (hD : va_D A (wR q cA σ)) (hS : va_S A H0 H locs) {i x : Int32} (hin : vp_in i 6) (hdg : decode cc pc = .ok (.iastore, 1)) (kk : ∀ (H1 : Heap) (locs1 : List Loc), va_P (dC, dI) cls_ (wR q cA (va_up σ 6 (upd (σ 6) i.toNatClampNeg x))) H1 → va_S A H0 H1 locs1 → W p l e R s m args below meth c H1 locs1 cells slots Q (F0 m (pc + 1) ls rest)) : W p l e R s m args below meth c H locs cells slots Q (F0 m pc ls (.int x :: .int i :: .ref (q 6) :: rest)) :=
  va_iast (D := (dC, dI)) (cl := cls_) (ws := wR q cA σ) (tys := tyR cA) hx hb hK hP hD hS 6 5 rfl rfl hin hdg (fun H1 locs1 hP _ hS => kk H1 locs1 hP hS)
theorem al_R_7 (hx : p.tables.exec = Jvm.exec) (hb : c.code = cc) (hK : va_K (dC, dI) cls_ (tyR cA) s) (hP : va_P (dC, dI) cls_ (wR q cA σ) H) {i : Int32} (hin : vp_in i 40) (hdg : decode cc pc = .ok (.iaload, 1)) (kk : W p l e R s m args below meth c H locs cells slots Q (F0 m (pc + 1) ls (.int (σ 7 i.toNatClampNeg) :: rest))) : W p l e R s m args below meth c H locs cells slots Q (F0 m pc ls (.int i :: .ref (q 7) :: rest)) :=
  va_iald (D := (dC, dI)) (cl := cls_) (ws := wR q cA σ) (tys := tyR cA) hx hb hK hP 7 6 rfl rfl hin hdg kk
theorem as_R_7 (hx : p.tables.exec = Jvm.exec) (hb : c.code = cc) (hK : va_K (dC, dI) cls_ (tyR cA) s) (hP : va_P (dC, dI) cls_ (wR q cA σ) H) (hD : va_D A (wR q cA σ)) (hS : va_S A H0 H locs) {i x : Int32} (hin : vp_in i 40) (hdg : decode cc pc = .ok (.iastore, 1)) (kk : ∀ (H1 : Heap) (locs1 : List Loc), va_P (dC, dI) cls_ (wR q cA (va_up σ 7 (upd (σ 7) i.toNatClampNeg x))) H1 → va_S A H0 H1 locs1 → W p l e R s m args below meth c H1 locs1 cells slots Q (F0 m (pc + 1) ls rest)) : W p l e R s m args below meth c H locs cells slots Q (F0 m pc ls (.int x :: .int i :: .ref (q 7) :: rest)) :=
  va_iast (D := (dC, dI)) (cl := cls_) (ws := wR q cA σ) (tys := tyR cA) hx hb hK hP hD hS 7 6 rfl rfl hin hdg (fun H1 locs1 hP _ hS => kk H1 locs1 hP hS)
theorem al_R_8 (hx : p.tables.exec = Jvm.exec) (hb : c.code = cc) (hK : va_K (dC, dI) cls_ (tyR cA) s) (hP : va_P (dC, dI) cls_ (wR q cA σ) H) {i : Int32} (hin : vp_in i 80) (hdg : decode cc pc = .ok (.baload, 1)) (kk : W p l e R s m args below meth c H locs cells slots Q (F0 m (pc + 1) ls (.int (σ 8 i.toNatClampNeg) :: rest))) : W p l e R s m args below meth c H locs cells slots Q (F0 m pc ls (.int i :: .ref (q 8) :: rest)) :=
  va_zald (D := (dC, dI)) (cl := cls_) (ws := wR q cA σ) (tys := tyR cA) hx hb hK hP 8 7 rfl rfl hin hdg kk
theorem as_R_8 (hx : p.tables.exec = Jvm.exec) (hb : c.code = cc) (hK : va_K (dC, dI) cls_ (tyR cA) s) (hP : va_P (dC, dI) cls_ (wR q cA σ) H) (hD : va_D A (wR q cA σ)) (hS : va_S A H0 H locs) {i x : Int32} (hin : vp_in i 80) (hdg : decode cc pc = .ok (.bastore, 1)) (kk : ∀ (H1 : Heap) (locs1 : List Loc), va_P (dC, dI) cls_ (wR q cA (va_up σ 8 (upd (σ 8) i.toNatClampNeg (vp_nar .boolean x)))) H1 → va_S A H0 H1 locs1 → W p l e R s m args below meth c H1 locs1 cells slots Q (F0 m (pc + 1) ls rest)) : W p l e R s m args below meth c H locs cells slots Q (F0 m pc ls (.int x :: .int i :: .ref (q 8) :: rest)) :=
  va_zast (D := (dC, dI)) (cl := cls_) (ws := wR q cA σ) (tys := tyR cA) hx hb hK hP hD hS 8 7 rfl rfl hin hdg (fun H1 locs1 hP _ hS => kk H1 locs1 hP hS)
theorem al_R_9 (hx : p.tables.exec = Jvm.exec) (hb : c.code = cc) (hK : va_K (dC, dI) cls_ (tyR cA) s) (hP : va_P (dC, dI) cls_ (wR q cA σ) H) {i : Int32} (hin : vp_in i 80) (hdg : decode cc pc = .ok (.baload, 1)) (kk : W p l e R s m args below meth c H locs cells slots Q (F0 m (pc + 1) ls (.int (σ 9 i.toNatClampNeg) :: rest))) : W p l e R s m args below meth c H locs cells slots Q (F0 m pc ls (.int i :: .ref (q 9) :: rest)) :=
  va_zald (D := (dC, dI)) (cl := cls_) (ws := wR q cA σ) (tys := tyR cA) hx hb hK hP 9 8 rfl rfl hin hdg kk
theorem as_R_9 (hx : p.tables.exec = Jvm.exec) (hb : c.code = cc) (hK : va_K (dC, dI) cls_ (tyR cA) s) (hP : va_P (dC, dI) cls_ (wR q cA σ) H) (hD : va_D A (wR q cA σ)) (hS : va_S A H0 H locs) {i x : Int32} (hin : vp_in i 80) (hdg : decode cc pc = .ok (.bastore, 1)) (kk : ∀ (H1 : Heap) (locs1 : List Loc), va_P (dC, dI) cls_ (wR q cA (va_up σ 9 (upd (σ 9) i.toNatClampNeg (vp_nar .boolean x)))) H1 → va_S A H0 H1 locs1 → W p l e R s m args below meth c H1 locs1 cells slots Q (F0 m (pc + 1) ls rest)) : W p l e R s m args below meth c H locs cells slots Q (F0 m pc ls (.int x :: .int i :: .ref (q 9) :: rest)) :=
  va_zast (D := (dC, dI)) (cl := cls_) (ws := wR q cA σ) (tys := tyR cA) hx hb hK hP hD hS 9 8 rfl rfl hin hdg (fun H1 locs1 hP _ hS => kk H1 locs1 hP hS)
theorem al_R_10 (hx : p.tables.exec = Jvm.exec) (hb : c.code = cc) (hK : va_K (dC, dI) cls_ (tyR cA) s) (hP : va_P (dC, dI) cls_ (wR q cA σ) H) {i : Int32} (hin : vp_in i 80) (hdg : decode cc pc = .ok (.iaload, 1)) (kk : W p l e R s m args below meth c H locs cells slots Q (F0 m (pc + 1) ls (.int (σ 10 i.toNatClampNeg) :: rest))) : W p l e R s m args below meth c H locs cells slots Q (F0 m pc ls (.int i :: .ref (q 10) :: rest)) :=
  va_iald (D := (dC, dI)) (cl := cls_) (ws := wR q cA σ) (tys := tyR cA) hx hb hK hP 10 9 rfl rfl hin hdg kk
theorem as_R_10 (hx : p.tables.exec = Jvm.exec) (hb : c.code = cc) (hK : va_K (dC, dI) cls_ (tyR cA) s) (hP : va_P (dC, dI) cls_ (wR q cA σ) H) (hD : va_D A (wR q cA σ)) (hS : va_S A H0 H locs) {i x : Int32} (hin : vp_in i 80) (hdg : decode cc pc = .ok (.iastore, 1)) (kk : ∀ (H1 : Heap) (locs1 : List Loc), va_P (dC, dI) cls_ (wR q cA (va_up σ 10 (upd (σ 10) i.toNatClampNeg x))) H1 → va_S A H0 H1 locs1 → W p l e R s m args below meth c H1 locs1 cells slots Q (F0 m (pc + 1) ls rest)) : W p l e R s m args below meth c H locs cells slots Q (F0 m pc ls (.int x :: .int i :: .ref (q 10) :: rest)) :=
  va_iast (D := (dC, dI)) (cl := cls_) (ws := wR q cA σ) (tys := tyR cA) hx hb hK hP hD hS 10 9 rfl rfl hin hdg (fun H1 locs1 hP _ hS => kk H1 locs1 hP hS)
theorem al_R_11 (hx : p.tables.exec = Jvm.exec) (hb : c.code = cc) (hK : va_K (dC, dI) cls_ (tyR cA) s) (hP : va_P (dC, dI) cls_ (wR q cA σ) H) {i : Int32} (hin : vp_in i 80) (hdg : decode cc pc = .ok (.baload, 1)) (kk : W p l e R s m args below meth c H locs cells slots Q (F0 m (pc + 1) ls (.int (σ 11 i.toNatClampNeg) :: rest))) : W p l e R s m args below meth c H locs cells slots Q (F0 m pc ls (.int i :: .ref (q 11) :: rest)) :=
  va_zald (D := (dC, dI)) (cl := cls_) (ws := wR q cA σ) (tys := tyR cA) hx hb hK hP 11 10 rfl rfl hin hdg kk
theorem as_R_11 (hx : p.tables.exec = Jvm.exec) (hb : c.code = cc) (hK : va_K (dC, dI) cls_ (tyR cA) s) (hP : va_P (dC, dI) cls_ (wR q cA σ) H) (hD : va_D A (wR q cA σ)) (hS : va_S A H0 H locs) {i x : Int32} (hin : vp_in i 80) (hdg : decode cc pc = .ok (.bastore, 1)) (kk : ∀ (H1 : Heap) (locs1 : List Loc), va_P (dC, dI) cls_ (wR q cA (va_up σ 11 (upd (σ 11) i.toNatClampNeg (vp_nar .boolean x)))) H1 → va_S A H0 H1 locs1 → W p l e R s m args below meth c H1 locs1 cells slots Q (F0 m (pc + 1) ls rest)) : W p l e R s m args below meth c H locs cells slots Q (F0 m pc ls (.int x :: .int i :: .ref (q 11) :: rest)) :=
  va_zast (D := (dC, dI)) (cl := cls_) (ws := wR q cA σ) (tys := tyR cA) hx hb hK hP hD hS 11 10 rfl rfl hin hdg (fun H1 locs1 hP _ hS => kk H1 locs1 hP hS)
theorem al_R_12 (hx : p.tables.exec = Jvm.exec) (hb : c.code = cc) (hK : va_K (dC, dI) cls_ (tyR cA) s) (hP : va_P (dC, dI) cls_ (wR q cA σ) H) {i : Int32} (hin : vp_in i 400) (hdg : decode cc pc = .ok (.iaload, 1)) (kk : W p l e R s m args below meth c H locs cells slots Q (F0 m (pc + 1) ls (.int (σ 12 i.toNatClampNeg) :: rest))) : W p l e R s m args below meth c H locs cells slots Q (F0 m pc ls (.int i :: .ref (q 12) :: rest)) :=
  va_iald (D := (dC, dI)) (cl := cls_) (ws := wR q cA σ) (tys := tyR cA) hx hb hK hP 12 11 rfl rfl hin hdg kk
theorem as_R_12 (hx : p.tables.exec = Jvm.exec) (hb : c.code = cc) (hK : va_K (dC, dI) cls_ (tyR cA) s) (hP : va_P (dC, dI) cls_ (wR q cA σ) H) (hD : va_D A (wR q cA σ)) (hS : va_S A H0 H locs) {i x : Int32} (hin : vp_in i 400) (hdg : decode cc pc = .ok (.iastore, 1)) (kk : ∀ (H1 : Heap) (locs1 : List Loc), va_P (dC, dI) cls_ (wR q cA (va_up σ 12 (upd (σ 12) i.toNatClampNeg x))) H1 → va_S A H0 H1 locs1 → W p l e R s m args below meth c H1 locs1 cells slots Q (F0 m (pc + 1) ls rest)) : W p l e R s m args below meth c H locs cells slots Q (F0 m pc ls (.int x :: .int i :: .ref (q 12) :: rest)) :=
  va_iast (D := (dC, dI)) (cl := cls_) (ws := wR q cA σ) (tys := tyR cA) hx hb hK hP hD hS 12 11 rfl rfl hin hdg (fun H1 locs1 hP _ hS => kk H1 locs1 hP hS)
theorem al_R_13 (hx : p.tables.exec = Jvm.exec) (hb : c.code = cc) (hK : va_K (dC, dI) cls_ (tyR cA) s) (hP : va_P (dC, dI) cls_ (wR q cA σ) H) {i : Int32} (hin : vp_in i 400) (hdg : decode cc pc = .ok (.iaload, 1)) (kk : W p l e R s m args below meth c H locs cells slots Q (F0 m (pc + 1) ls (.int (σ 13 i.toNatClampNeg) :: rest))) : W p l e R s m args below meth c H locs cells slots Q (F0 m pc ls (.int i :: .ref (q 13) :: rest)) :=
  va_iald (D := (dC, dI)) (cl := cls_) (ws := wR q cA σ) (tys := tyR cA) hx hb hK hP 13 12 rfl rfl hin hdg kk
theorem as_R_13 (hx : p.tables.exec = Jvm.exec) (hb : c.code = cc) (hK : va_K (dC, dI) cls_ (tyR cA) s) (hP : va_P (dC, dI) cls_ (wR q cA σ) H) (hD : va_D A (wR q cA σ)) (hS : va_S A H0 H locs) {i x : Int32} (hin : vp_in i 400) (hdg : decode cc pc = .ok (.iastore, 1)) (kk : ∀ (H1 : Heap) (locs1 : List Loc), va_P (dC, dI) cls_ (wR q cA (va_up σ 13 (upd (σ 13) i.toNatClampNeg x))) H1 → va_S A H0 H1 locs1 → W p l e R s m args below meth c H1 locs1 cells slots Q (F0 m (pc + 1) ls rest)) : W p l e R s m args below meth c H locs cells slots Q (F0 m pc ls (.int x :: .int i :: .ref (q 13) :: rest)) :=
  va_iast (D := (dC, dI)) (cl := cls_) (ws := wR q cA σ) (tys := tyR cA) hx hb hK hP hD hS 13 12 rfl rfl hin hdg (fun H1 locs1 hP _ hS => kk H1 locs1 hP hS)
theorem al_R_14 (hx : p.tables.exec = Jvm.exec) (hb : c.code = cc) (hK : va_K (dC, dI) cls_ (tyR cA) s) (hP : va_P (dC, dI) cls_ (wR q cA σ) H) {i : Int32} (hin : vp_in i 400) (hdg : decode cc pc = .ok (.iaload, 1)) (kk : W p l e R s m args below meth c H locs cells slots Q (F0 m (pc + 1) ls (.int (σ 14 i.toNatClampNeg) :: rest))) : W p l e R s m args below meth c H locs cells slots Q (F0 m pc ls (.int i :: .ref (q 14) :: rest)) :=
  va_iald (D := (dC, dI)) (cl := cls_) (ws := wR q cA σ) (tys := tyR cA) hx hb hK hP 14 13 rfl rfl hin hdg kk
theorem as_R_14 (hx : p.tables.exec = Jvm.exec) (hb : c.code = cc) (hK : va_K (dC, dI) cls_ (tyR cA) s) (hP : va_P (dC, dI) cls_ (wR q cA σ) H) (hD : va_D A (wR q cA σ)) (hS : va_S A H0 H locs) {i x : Int32} (hin : vp_in i 400) (hdg : decode cc pc = .ok (.iastore, 1)) (kk : ∀ (H1 : Heap) (locs1 : List Loc), va_P (dC, dI) cls_ (wR q cA (va_up σ 14 (upd (σ 14) i.toNatClampNeg x))) H1 → va_S A H0 H1 locs1 → W p l e R s m args below meth c H1 locs1 cells slots Q (F0 m (pc + 1) ls rest)) : W p l e R s m args below meth c H locs cells slots Q (F0 m pc ls (.int x :: .int i :: .ref (q 14) :: rest)) :=
  va_iast (D := (dC, dI)) (cl := cls_) (ws := wR q cA σ) (tys := tyR cA) hx hb hK hP hD hS 14 13 rfl rfl hin hdg (fun H1 locs1 hP _ hS => kk H1 locs1 hP hS)
theorem al_R_15 (hx : p.tables.exec = Jvm.exec) (hb : c.code = cc) (hK : va_K (dC, dI) cls_ (tyR cA) s) (hP : va_P (dC, dI) cls_ (wR q cA σ) H) {i : Int32} (hin : vp_in i 400) (hdg : decode cc pc = .ok (.iaload, 1)) (kk : W p l e R s m args below meth c H locs cells slots Q (F0 m (pc + 1) ls (.int (σ 15 i.toNatClampNeg) :: rest))) : W p l e R s m args below meth c H locs cells slots Q (F0 m pc ls (.int i :: .ref (q 15) :: rest)) :=
  va_iald (D := (dC, dI)) (cl := cls_) (ws := wR q cA σ) (tys := tyR cA) hx hb hK hP 15 14 rfl rfl hin hdg kk
theorem as_R_15 (hx : p.tables.exec = Jvm.exec) (hb : c.code = cc) (hK : va_K (dC, dI) cls_ (tyR cA) s) (hP : va_P (dC, dI) cls_ (wR q cA σ) H) (hD : va_D A (wR q cA σ)) (hS : va_S A H0 H locs) {i x : Int32} (hin : vp_in i 400) (hdg : decode cc pc = .ok (.iastore, 1)) (kk : ∀ (H1 : Heap) (locs1 : List Loc), va_P (dC, dI) cls_ (wR q cA (va_up σ 15 (upd (σ 15) i.toNatClampNeg x))) H1 → va_S A H0 H1 locs1 → W p l e R s m args below meth c H1 locs1 cells slots Q (F0 m (pc + 1) ls rest)) : W p l e R s m args below meth c H locs cells slots Q (F0 m pc ls (.int x :: .int i :: .ref (q 15) :: rest)) :=
  va_iast (D := (dC, dI)) (cl := cls_) (ws := wR q cA σ) (tys := tyR cA) hx hb hK hP hD hS 15 14 rfl rfl hin hdg (fun H1 locs1 hP _ hS => kk H1 locs1 hP hS)
theorem al_R_16 (hx : p.tables.exec = Jvm.exec) (hb : c.code = cc) (hK : va_K (dC, dI) cls_ (tyR cA) s) (hP : va_P (dC, dI) cls_ (wR q cA σ) H) {i : Int32} (hin : vp_in i 400) (hdg : decode cc pc = .ok (.iaload, 1)) (kk : W p l e R s m args below meth c H locs cells slots Q (F0 m (pc + 1) ls (.int (σ 16 i.toNatClampNeg) :: rest))) : W p l e R s m args below meth c H locs cells slots Q (F0 m pc ls (.int i :: .ref (q 16) :: rest)) :=
  va_iald (D := (dC, dI)) (cl := cls_) (ws := wR q cA σ) (tys := tyR cA) hx hb hK hP 16 15 rfl rfl hin hdg kk
theorem as_R_16 (hx : p.tables.exec = Jvm.exec) (hb : c.code = cc) (hK : va_K (dC, dI) cls_ (tyR cA) s) (hP : va_P (dC, dI) cls_ (wR q cA σ) H) (hD : va_D A (wR q cA σ)) (hS : va_S A H0 H locs) {i x : Int32} (hin : vp_in i 400) (hdg : decode cc pc = .ok (.iastore, 1)) (kk : ∀ (H1 : Heap) (locs1 : List Loc), va_P (dC, dI) cls_ (wR q cA (va_up σ 16 (upd (σ 16) i.toNatClampNeg x))) H1 → va_S A H0 H1 locs1 → W p l e R s m args below meth c H1 locs1 cells slots Q (F0 m (pc + 1) ls rest)) : W p l e R s m args below meth c H locs cells slots Q (F0 m pc ls (.int x :: .int i :: .ref (q 16) :: rest)) :=
  va_iast (D := (dC, dI)) (cl := cls_) (ws := wR q cA σ) (tys := tyR cA) hx hb hK hP hD hS 16 15 rfl rfl hin hdg (fun H1 locs1 hP _ hS => kk H1 locs1 hP hS)
theorem al_R_17 (hx : p.tables.exec = Jvm.exec) (hb : c.code = cc) (hK : va_K (dC, dI) cls_ (tyR cA) s) (hP : va_P (dC, dI) cls_ (wR q cA σ) H) {i : Int32} (hin : vp_in i 400) (hdg : decode cc pc = .ok (.iaload, 1)) (kk : W p l e R s m args below meth c H locs cells slots Q (F0 m (pc + 1) ls (.int (σ 17 i.toNatClampNeg) :: rest))) : W p l e R s m args below meth c H locs cells slots Q (F0 m pc ls (.int i :: .ref (q 17) :: rest)) :=
  va_iald (D := (dC, dI)) (cl := cls_) (ws := wR q cA σ) (tys := tyR cA) hx hb hK hP 17 16 rfl rfl hin hdg kk
theorem as_R_17 (hx : p.tables.exec = Jvm.exec) (hb : c.code = cc) (hK : va_K (dC, dI) cls_ (tyR cA) s) (hP : va_P (dC, dI) cls_ (wR q cA σ) H) (hD : va_D A (wR q cA σ)) (hS : va_S A H0 H locs) {i x : Int32} (hin : vp_in i 400) (hdg : decode cc pc = .ok (.iastore, 1)) (kk : ∀ (H1 : Heap) (locs1 : List Loc), va_P (dC, dI) cls_ (wR q cA (va_up σ 17 (upd (σ 17) i.toNatClampNeg x))) H1 → va_S A H0 H1 locs1 → W p l e R s m args below meth c H1 locs1 cells slots Q (F0 m (pc + 1) ls rest)) : W p l e R s m args below meth c H locs cells slots Q (F0 m pc ls (.int x :: .int i :: .ref (q 17) :: rest)) :=
  va_iast (D := (dC, dI)) (cl := cls_) (ws := wR q cA σ) (tys := tyR cA) hx hb hK hP hD hS 17 16 rfl rfl hin hdg (fun H1 locs1 hP _ hS => kk H1 locs1 hP hS)
theorem al_R_18 (hx : p.tables.exec = Jvm.exec) (hb : c.code = cc) (hK : va_K (dC, dI) cls_ (tyR cA) s) (hP : va_P (dC, dI) cls_ (wR q cA σ) H) {i : Int32} (hin : vp_in i 4) (hdg : decode cc pc = .ok (.iaload, 1)) (kk : W p l e R s m args below meth c H locs cells slots Q (F0 m (pc + 1) ls (.int (σ 18 i.toNatClampNeg) :: rest))) : W p l e R s m args below meth c H locs cells slots Q (F0 m pc ls (.int i :: .ref (q 18) :: rest)) :=
  va_iald (D := (dC, dI)) (cl := cls_) (ws := wR q cA σ) (tys := tyR cA) hx hb hK hP 18 17 rfl rfl hin hdg kk
theorem as_R_18 (hx : p.tables.exec = Jvm.exec) (hb : c.code = cc) (hK : va_K (dC, dI) cls_ (tyR cA) s) (hP : va_P (dC, dI) cls_ (wR q cA σ) H) (hD : va_D A (wR q cA σ)) (hS : va_S A H0 H locs) {i x : Int32} (hin : vp_in i 4) (hdg : decode cc pc = .ok (.iastore, 1)) (kk : ∀ (H1 : Heap) (locs1 : List Loc), va_P (dC, dI) cls_ (wR q cA (va_up σ 18 (upd (σ 18) i.toNatClampNeg x))) H1 → va_S A H0 H1 locs1 → W p l e R s m args below meth c H1 locs1 cells slots Q (F0 m (pc + 1) ls rest)) : W p l e R s m args below meth c H locs cells slots Q (F0 m pc ls (.int x :: .int i :: .ref (q 18) :: rest)) :=
  va_iast (D := (dC, dI)) (cl := cls_) (ws := wR q cA σ) (tys := tyR cA) hx hb hK hP hD hS 18 17 rfl rfl hin hdg (fun H1 locs1 hP _ hS => kk H1 locs1 hP hS)
end ROWSA
def NW_ : List Cond := [(.methodLinkNest "StagedParsers" 27 ⟨"StagedParsers$Code", "<init>", "()V"⟩ "StagedParsers"), (.methodLinkNest "StagedParsers" 34 ⟨"StagedParsers$Text", "<init>", "()V"⟩ "StagedParsers"), (.methodLinkNest "StagedParsers$Machine" 11 ⟨"StagedParsers$Frames", "<init>", "()V"⟩ "StagedParsers"), (.fieldLinkNest "StagedParsers$Study" 102 "StagedParsers" "PARTS" "[I" "StagedParsers"), (.methodLinkNest "StagedParsers$Machine" 50 ⟨"StagedParsers", "isRegister", "(I)Z"⟩ "StagedParsers"), (.methodLinkNest "StagedParsers$Grammar" 50 ⟨"StagedParsers", "isSign", "(I)Z"⟩ "StagedParsers"), (.methodLinkNest "StagedParsers$Grammar" 59 ⟨"StagedParsers", "isRegister", "(I)Z"⟩ "StagedParsers"), (.fieldLinkNest "StagedParsers$Grammar" 70 "StagedParsers" "PARTS" "[I" "StagedParsers"), (.methodLinkNest "StagedParsers$Machine" 140 ⟨"StagedParsers", "joined", "(III)I"⟩ "StagedParsers"), (.methodLinkNest "StagedParsers$Machine" 144 ⟨"StagedParsers", "wayOfSign", "(I)I"⟩ "StagedParsers")]
/-! what a method of a system finds, and how it is handed on -/
section PXS
theorem bo_fit {v : Int32} (h : v = 0 ∨ v = 1) : fits .boolean (.int v) = true := by rcases h with rfl | rfl <;> rfl
def PT_ : Nat → Int32 := fun k => ([0, 0, 0, 0, 2, 2, 1, 1, 1, 1, 2, 0, 1, 0] : List Int32).getD k 0
def SX_ (q : Nat → Nat) (pt : Nat) (U : State) (H : Heap) : Prop := va_Z "StagedParsers" "PARTS" "[I" (.ref pt) (AX q) U H ∧ va_T .int pt 14 (fun j => .int (PT_ j)) (AX q) U H
theorem nw_warm {s U : State} (hW : s.WarmedH U.vm) (h : ∀ w ∈ NW_, va_Nw w s) : ∀ w ∈ NW_, va_Nw w U := by
  intro w hw
  have h1 := h w hw
  unfold NW_ at hw
  simp only [List.mem_cons, List.not_mem_nil, or_false] at hw
  rcases hw with rfl | rfl | rfl | rfl | rfl | rfl | rfl | rfl | rfl | rfl <;> first | exact va_Nw.warmM hW h1 | exact va_Nw.warmF hW h1
theorem nw_same {s U : State} (hv : s.vm = U.vm) (h : ∀ w ∈ NW_, va_Nw w s) : ∀ w ∈ NW_, va_Nw w U := by
  intro w hw
  have h1 := h w hw
  unfold NW_ at hw
  simp only [List.mem_cons, List.not_mem_nil, or_false] at hw
  rcases hw with rfl | rfl | rfl | rfl | rfl | rfl | rfl | rfl | rfl | rfl <;> exact va_Nw.same rfl hv h1
def PX_ (dC : Nat → ClassId) (dI : Nat → Nat → Nat) (q : Nat → Nat) (cA : Nat → ClassId) (pt : Nat) (σ : MZ_) (U : State) : Prop := va_P (dC, dI) cls_ (wX q cA σ) U.heap ∧ va_K (dC, dI) cls_ (tyX cA) U ∧ va_D (AX q) (wX q cA σ) ∧ (∀ w ∈ NW_, va_Nw w U) ∧ SX_ q pt U U.heap
theorem pxX_B {av : List Value} {dC : Nat → ClassId} {dI : Nat → Nat → Nat} {q : Nat → Nat} {cA : Nat → ClassId} {pt : Nat} {σ : MZ_} : FrameBlind (va_Pc av (PX_ dC dI q cA pt σ)) := by
  intro a U g mrk hq
  obtain ⟨q0, qP, qK, qD, qN, qZ⟩ := hq
  exact ⟨q0, qP, va_K.moved (u := U) (U := U.calling g mrk a) (Vm.Alike.refl U.vm) qK, qD, nw_same (s := U) (U := U.calling g mrk a) rfl qN, va_Z.moved (u := U) (U := U.calling g mrk a) (Vm.Alike.refl U.vm) qZ.1, va_T.moved (u := U) (U := U.calling g mrk a) (Vm.Alike.refl U.vm) qZ.2⟩
theorem pxX_U {av : List Value} {dC : Nat → ClassId} {dI : Nat → Nat → Nat} {q : Nat → Nat} {cA : Nat → ClassId} {pt : Nat} {σ : MZ_} {s : State} {H : Heap} {locs : List Loc} (hP : va_P (dC, dI) cls_ (wX q cA σ) H) (hK : va_K (dC, dI) cls_ (tyX cA) s) (hD : va_D (AX q) (wX q cA σ)) (hN : ∀ w ∈ NW_, va_Nw w s) (hZ : SX_ q pt s s.heap) (hS : va_S (AX q) s.heap H locs) :
    ∀ U : State, U.heap = H → s.WarmedH U.vm → va_Pc av (PX_ dC dI q cA pt σ) av.toArray U := by
  intro U hU hW
  refine ⟨rfl, by rw [hU]; exact hP, va_K.moved hW.alike hK, hD, nw_warm hW hN, ?_, ?_⟩
  · rw [hU]; exact va_Z.moved hW.alike (hZ.1.kept hS.2.1)
  · rw [hU]; exact va_T.moved hW.alike (hZ.2.kept hS.2.1)

def PRx_ (dC : Nat → ClassId) (dI : Nat → Nat → Nat) (q : Nat → Nat) (cA : Nat → ClassId) (σ : MZ_) (U : State) : Prop := va_P (dC, dI) cls_ (wR q cA σ) U.heap ∧ va_K (dC, dI) cls_ (tyR cA) U ∧ va_D (AR q) (wR q cA σ) ∧ True ∧ True
theorem pxR_B {av : List Value} {dC : Nat → ClassId} {dI : Nat → Nat → Nat} {q : Nat → Nat} {cA : Nat → ClassId} {σ : MZ_} : FrameBlind (va_Pc av (PRx_ dC dI q cA σ)) := by
  intro a U g mrk hq
  obtain ⟨q0, qP, qK, qD, -, -⟩ := hq
  exact ⟨q0, qP, va_K.moved (u := U) (U := U.calling g mrk a) (Vm.Alike.refl U.vm) qK, qD, trivial, trivial⟩
theorem pxR_U {av : List Value} {dC : Nat → ClassId} {dI : Nat → Nat → Nat} {q : Nat → Nat} {cA : Nat → ClassId} {σ : MZ_} {s : State} {H : Heap} {locs : List Loc} (hP : va_P (dC, dI) cls_ (wR q cA σ) H) (hK : va_K (dC, dI) cls_ (tyR cA) s) (hD : va_D (AR q) (wR q cA σ)) (_ : True) (_ : True) (hS : va_S (AR q) s.heap H locs) :
    ∀ U : State, U.heap = H → s.WarmedH U.vm → va_Pc av (PRx_ dC dI q cA σ) av.toArray U := by
  intro U hU hW
  exact ⟨rfl, by rw [hU]; exact hP, va_K.moved hW.alike hK, hD, trivial, trivial⟩
variable {p : Program} {l : Launch} {e : Env} {R : Room} {s : State} {m : MethodId} {args : Array Value} {below : List Frame} {meth : Method} {c : Code} {H : Heap} {locs : List Loc} {cells slots : Nat} {Q : State → Prop}
variable {cc : ByteArray} {pc : Nat} {ls : Array Slot} {rest st0 : List Value} {q : Nat → Nat} {pt : Nat} {a : Array Value}
theorem va_pget_ (hx : p.tables.exec = Jvm.exec) (hb : c.code = cc) {own : String} {index : Nat} (hown : s.vm.findClass own = some m.cls) (hlink : va_Nw (.fieldLinkNest own index "StagedParsers" "PARTS" "[I" "StagedParsers") s) (hZ : SX_ q pt s s.heap) (hS : va_S (AX q) s.heap H locs) (hdg : decode cc pc = .ok (.getstatic index, 3)) (kk : W p l e R s m args below meth c H locs cells slots Q (F0 m (pc + 3) ls (.ref pt :: rest))) : W p l e R s m args below meth c H locs cells slots Q (F0 m pc ls rest) :=
  va_getsN hx hb hZ.1 hS hown (va_Nw.use rfl hlink) (fun _ h => h) hdg kk
theorem va_tald_ (hx : p.tables.exec = Jvm.exec) (hb : c.code = cc) (hZ : SX_ q pt s s.heap) (hS : va_S (AX q) s.heap H locs) {i : Int32} (hin : vp_in i 14) (hdg : decode cc pc = .ok (.iaload, 1)) (kk : W p l e R s m args below meth c H locs cells slots Q (F0 m (pc + 1) ls (.int (PT_ i.toNatClampNeg) :: rest))) : W p l e R s m args below meth c H locs cells slots Q (F0 m pc ls (.int i :: .ref pt :: rest)) :=
  va_ti hx hb hZ.2 hS hin rfl hdg kk
theorem sw_in (hx : p.tables.exec = Jvm.exec) (hb : c.code = cc) {dflt lo hi : Int} {offs : Array Int} {len : Nat} {x k : Int32} {off : Int} {tgt : Nat} (hdg : decode cc pc = .ok (.tableswitch dflt lo hi offs, len)) (hk : x = k) (h1 : ¬ k.toInt < lo) (h2 : ¬ hi < k.toInt) (ho : offs[(k.toInt - lo).toNat]? = some off) (ht : (pc : Int) + off = (tgt : Int)) (kk : W p l e R s m args below meth c H locs cells slots Q (F0 m tgt ls rest)) : W p l e R s m args below meth c H locs cells slots Q (F0 m pc ls (.int x :: rest)) := by
  subst hk
  exact lv_tableIn hx hb hdg h1 h2 ho ht kk
theorem sw_lk (hx : p.tables.exec = Jvm.exec) (hb : c.code = cc) {dflt : Int} {ps : Array (Int × Int)} {len : Nat} {x k : Int32} {off : Int} {tgt : Nat} (hdg : decode cc pc = .ok (.lookupswitch dflt ps, len)) (hp : (ps.toList.zip (ps.toList.drop 1)).all (fun (a, next) => a.1 < next.1) = true) (hk : x = k) (ho : Op.lookupswitch.offset ps.toList dflt k.toInt = off) (ht : (pc : Int) + off = (tgt : Int)) (kk : W p l e R s m args below meth c H locs cells slots Q (F0 m tgt ls rest)) : W p l e R s m args below meth c H locs cells slots Q (F0 m pc ls (.int x :: rest)) := by
  subst hk
  exact lv_lookup hx hb hdg hp ho ht kk
theorem cx_wrv {B : Heap → Prop} {A A0 : Nat → Prop} {H0 : Heap} (hr : va_Run p l e R s m args below meth c H locs cells slots 0 0 (F0 m pc ls st0) rest (QW_ none B A a) A) (hS : va_S A0 H0 H locs) (hA : ∀ q, A q → A0 q)
    (kk : ∀ (H1 : Heap) (locs1 : List Loc), B H1 → va_S A0 H0 H1 locs1 → W p l e R s m args below meth c H1 locs1 cells slots Q (F0 m (pc + 3) ls rest)) : W p l e R s m args below meth c H locs cells slots Q (F0 m pc ls st0) :=
  cx_wr hr hS hA (fun H1 locs1 hB _ hS => kk H1 locs1 hB hS)
theorem cx_wri {v : Int32} {B : Heap → Prop} {A A0 : Nat → Prop} {H0 : Heap} (hr : va_Run p l e R s m args below meth c H locs cells slots 0 0 (F0 m pc ls st0) rest (QW_ (some (.int v)) B A a) A) (hS : va_S A0 H0 H locs) (hA : ∀ q, A q → A0 q)
    (kk : ∀ (H1 : Heap) (locs1 : List Loc), B H1 → va_S A0 H0 H1 locs1 → W p l e R s m args below meth c H1 locs1 cells slots Q (F0 m (pc + 3) ls (.int v :: rest))) : W p l e R s m args below meth c H locs cells slots Q (F0 m pc ls st0) :=
  cx_wr hr hS hA (fun H1 locs1 hB _ hS => kk H1 locs1 hB hS)
end PXS

