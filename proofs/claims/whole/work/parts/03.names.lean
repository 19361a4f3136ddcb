/-! ===== names of the classes, their fields by slots ===== -/
def zR_O : String := "IslandOffice"
def zF_O : u_T := fun k => match k with
  | 0 => ("IslandOffice", "now", "LIslandOffice$Island;", true)
  | 1 => ("IslandOffice", "image", "LIslandOffice$Island;", true)
  | 2 => ("IslandOffice", "mind", "LIslandOffice$Island;", true)
  | 3 => ("IslandOffice", "imageTaken", "Z", false)
  | 4 => ("IslandOffice", "records", "[I", true)
  | 5 => ("IslandOffice", "shelves", "[LIslandOffice$Shelf;", true)
  | 6 => ("IslandOffice", "reader", "LIslandOffice$Reader;", true)
  | 7 => ("IslandOffice", "judge", "LIslandOffice$Judge;", true)
  | 8 => ("IslandOffice", "crews", "LIslandOffice$Crews;", true)
  | _ => ("IslandOffice", "almanac", "LIslandOffice$Almanac;", true)
def zt_O : Nat → FieldType := fun k => match k with
  | 0 => .object "IslandOffice$Island"
  | 1 => .object "IslandOffice$Island"
  | 2 => .object "IslandOffice$Island"
  | 3 => .boolean
  | 4 => .array .int
  | 5 => .array (.object "IslandOffice$Shelf")
  | 6 => .object "IslandOffice$Reader"
  | 7 => .object "IslandOffice$Judge"
  | 8 => .object "IslandOffice$Crews"
  | _ => .object "IslandOffice$Almanac"
theorem zn_O : ∀ a, a < 10 → ∀ b, b < 10 → a ≠ b → (zF_O a).2.1 ≠ (zF_O b).2.1 := by decide +kernel
theorem zt_O_ok : ∀ k, k < 10 → parseFieldDescriptor (zF_O k).2.2.1 = some (zt_O k) := by decide +kernel
theorem zi_O : ∀ w ∈ u_ws zR_O zF_O 10, w ∈ lw_tbl := by decide +kernel
theorem zj_O : (u_ws zR_O zF_O 10).all goodWord = true := by decide +kernel
def zR_A : String := "IslandOffice$Almanac"
def zF_A : u_T := fun k => match k with
  | 0 => ("IslandOffice$Almanac", "judge", "LIslandOffice$Judge;", true)
  | 1 => ("IslandOffice$Almanac", "crews", "LIslandOffice$Crews;", true)
  | 2 => ("IslandOffice$Almanac", "first", "[I", true)
  | 3 => ("IslandOffice$Almanac", "got", "[I", true)
  | 4 => ("IslandOffice$Almanac", "heads", "[I", true)
  | 5 => ("IslandOffice$Almanac", "rears", "[I", true)
  | 6 => ("IslandOffice$Almanac", "tends", "[I", true)
  | _ => ("IslandOffice$Almanac", "filledPosts", "I", false)
def zt_A : Nat → FieldType := fun k => match k with
  | 0 => .object "IslandOffice$Judge"
  | 1 => .object "IslandOffice$Crews"
  | 2 => .array .int
  | 3 => .array .int
  | 4 => .array .int
  | 5 => .array .int
  | 6 => .array .int
  | _ => .int
theorem zn_A : ∀ a, a < 8 → ∀ b, b < 8 → a ≠ b → (zF_A a).2.1 ≠ (zF_A b).2.1 := by decide +kernel
theorem zt_A_ok : ∀ k, k < 8 → parseFieldDescriptor (zF_A k).2.2.1 = some (zt_A k) := by decide +kernel
theorem zi_A : ∀ w ∈ u_ws zR_A zF_A 8, w ∈ lw_tbl := by decide +kernel
theorem zj_A : (u_ws zR_A zF_A 8).all goodWord = true := by decide +kernel
def zR_C : String := "IslandOffice$Crews"
def zF_C : u_T := fun k => match k with
  | 0 => ("IslandOffice$Crews", "crew", "[J", true)
  | 1 => ("IslandOffice$Crews", "can", "[J", true)
  | 2 => ("IslandOffice$Crews", "hands", "[I", true)
  | 3 => ("IslandOffice$Crews", "canBefore", "[J", true)
  | 4 => ("IslandOffice$Crews", "handsBefore", "[I", true)
  | 5 => ("IslandOffice$Crews", "filled", "I", false)
  | 6 => ("IslandOffice$Crews", "who", "[I", true)
  | 7 => ("IslandOffice$Crews", "few", "[I", true)
  | _ => ("IslandOffice$Crews", "best", "[[I", true)
def zt_C : Nat → FieldType := fun k => match k with
  | 0 => .array .long
  | 1 => .array .long
  | 2 => .array .int
  | 3 => .array .long
  | 4 => .array .int
  | 5 => .int
  | 6 => .array .int
  | 7 => .array .int
  | _ => .array (.array .int)
theorem zn_C : ∀ a, a < 9 → ∀ b, b < 9 → a ≠ b → (zF_C a).2.1 ≠ (zF_C b).2.1 := by decide +kernel
theorem zt_C_ok : ∀ k, k < 9 → parseFieldDescriptor (zF_C k).2.2.1 = some (zt_C k) := by decide +kernel
theorem zi_C : ∀ w ∈ u_ws zR_C zF_C 9, w ∈ lw_tbl := by decide +kernel
theorem zj_C : (u_ws zR_C zF_C 9).all goodWord = true := by decide +kernel
def zR_I : String := "IslandOffice$Island"
def zF_I : u_T := fun k => match k with
  | 0 => ("IslandOffice$Island", "week", "I", false)
  | 1 => ("IslandOffice$Island", "purse", "I", false)
  | 2 => ("IslandOffice$Island", "fund", "I", false)
  | 3 => ("IslandOffice$Island", "unpaid", "I", false)
  | 4 => ("IslandOffice$Island", "grass", "I", false)
  | 5 => ("IslandOffice$Island", "orderOfPay", "I", false)
  | 6 => ("IslandOffice$Island", "landed", "I", false)
  | 7 => ("IslandOffice$Island", "settings", "[I", true)
  | 8 => ("IslandOffice$Island", "cattle", "[I", true)
  | 9 => ("IslandOffice$Island", "tank", "[I", true)
  | 10 => ("IslandOffice$Island", "roof", "[I", true)
  | 11 => ("IslandOffice$Island", "dry", "[I", true)
  | 12 => ("IslandOffice$Island", "people", "LIslandOffice$People;", true)
  | 13 => ("IslandOffice$Island", "laws", "LIslandOffice$Laws;", true)
  | 14 => ("IslandOffice$Island", "posts", "LIslandOffice$Posts;", true)
  | 15 => ("IslandOffice$Island", "stores", "LIslandOffice$Stores;", true)
  | 16 => ("IslandOffice$Island", "weather", "LIslandOffice$Sky;", true)
  | _ => ("IslandOffice$Island", "rain", "LIslandOffice$Sky;", true)
def zt_I : Nat → FieldType := fun k => match k with
  | 0 => .int
  | 1 => .int
  | 2 => .int
  | 3 => .int
  | 4 => .int
  | 5 => .int
  | 6 => .int
  | 7 => .array .int
  | 8 => .array .int
  | 9 => .array .int
  | 10 => .array .int
  | 11 => .array .int
  | 12 => .object "IslandOffice$People"
  | 13 => .object "IslandOffice$Laws"
  | 14 => .object "IslandOffice$Posts"
  | 15 => .object "IslandOffice$Stores"
  | 16 => .object "IslandOffice$Sky"
  | _ => .object "IslandOffice$Sky"
theorem zn_I : ∀ a, a < 18 → ∀ b, b < 18 → a ≠ b → (zF_I a).2.1 ≠ (zF_I b).2.1 := by decide +kernel
theorem zt_I_ok : ∀ k, k < 18 → parseFieldDescriptor (zF_I k).2.2.1 = some (zt_I k) := by decide +kernel
theorem zi_I : ∀ w ∈ u_ws zR_I zF_I 18, w ∈ lw_tbl := by decide +kernel
theorem zj_I : (u_ws zR_I zF_I 18).all goodWord = true := by decide +kernel
def zR_J : String := "IslandOffice$Judge"
def zF_J : u_T := fun k => match k with
  | 0 => ("IslandOffice$Judge", "field", "[I", true)
  | 1 => ("IslandOffice$Judge", "stack", "[I", true)
  | _ => ("IslandOffice$Judge", "top", "I", false)
def zt_J : Nat → FieldType := fun k => match k with
  | 0 => .array .int
  | 1 => .array .int
  | _ => .int
theorem zn_J : ∀ a, a < 3 → ∀ b, b < 3 → a ≠ b → (zF_J a).2.1 ≠ (zF_J b).2.1 := by decide +kernel
theorem zt_J_ok : ∀ k, k < 3 → parseFieldDescriptor (zF_J k).2.2.1 = some (zt_J k) := by decide +kernel
theorem zi_J : ∀ w ∈ u_ws zR_J zF_J 3, w ∈ lw_tbl := by decide +kernel
theorem zj_J : (u_ws zR_J zF_J 3).all goodWord = true := by decide +kernel
def zR_L : String := "IslandOffice$Laws"
def zF_L : u_T := fun k => match k with
  | 0 => ("IslandOffice$Laws", "n", "I", false)
  | 1 => ("IslandOffice$Laws", "subject", "[I", true)
  | 2 => ("IslandOffice$Laws", "begin", "[I", true)
  | 3 => ("IslandOffice$Laws", "votes", "[I", true)
  | 4 => ("IslandOffice$Laws", "voters", "[I", true)
  | 5 => ("IslandOffice$Laws", "isVoid", "[I", true)
  | 6 => ("IslandOffice$Laws", "repealed", "[I", true)
  | 7 => ("IslandOffice$Laws", "under", "[I", true)
  | 8 => ("IslandOffice$Laws", "textSize", "[I", true)
  | 9 => ("IslandOffice$Laws", "codeSize", "[I", true)
  | _ => ("IslandOffice$Laws", "code", "[[I", true)
def zt_L : Nat → FieldType := fun k => match k with
  | 0 => .int
  | 1 => .array .int
  | 2 => .array .int
  | 3 => .array .int
  | 4 => .array .int
  | 5 => .array .int
  | 6 => .array .int
  | 7 => .array .int
  | 8 => .array .int
  | 9 => .array .int
  | _ => .array (.array .int)
theorem zn_L : ∀ a, a < 11 → ∀ b, b < 11 → a ≠ b → (zF_L a).2.1 ≠ (zF_L b).2.1 := by decide +kernel
theorem zt_L_ok : ∀ k, k < 11 → parseFieldDescriptor (zF_L k).2.2.1 = some (zt_L k) := by decide +kernel
theorem zi_L : ∀ w ∈ u_ws zR_L zF_L 11, w ∈ lw_tbl := by decide +kernel
theorem zj_L : (u_ws zR_L zF_L 11).all goodWord = true := by decide +kernel
def zR_P : String := "IslandOffice$People"
def zF_P : u_T := fun k => match k with
  | 0 => ("IslandOffice$People", "n", "I", false)
  | 1 => ("IslandOffice$People", "birth", "[I", true)
  | 2 => ("IslandOffice$People", "house", "[I", true)
  | 3 => ("IslandOffice$People", "mother", "[I", true)
  | 4 => ("IslandOffice$People", "skills", "[I", true)
  | 5 => ("IslandOffice$People", "state", "[I", true)
  | 6 => ("IslandOffice$People", "end", "[I", true)
  | 7 => ("IslandOffice$People", "discontent", "[I", true)
  | 8 => ("IslandOffice$People", "post", "[I", true)
  | _ => ("IslandOffice$People", "hungry", "[I", true)
def zt_P : Nat → FieldType := fun k => match k with
  | 0 => .int
  | 1 => .array .int
  | 2 => .array .int
  | 3 => .array .int
  | 4 => .array .int
  | 5 => .array .int
  | 6 => .array .int
  | 7 => .array .int
  | 8 => .array .int
  | _ => .array .int
theorem zn_P : ∀ a, a < 10 → ∀ b, b < 10 → a ≠ b → (zF_P a).2.1 ≠ (zF_P b).2.1 := by decide +kernel
theorem zt_P_ok : ∀ k, k < 10 → parseFieldDescriptor (zF_P k).2.2.1 = some (zt_P k) := by decide +kernel
theorem zi_P : ∀ w ∈ u_ws zR_P zF_P 10, w ∈ lw_tbl := by decide +kernel
theorem zj_P : (u_ws zR_P zF_P 10).all goodWord = true := by decide +kernel
def zR_Q : String := "IslandOffice$Posts"
def zF_Q : u_T := fun k => match k with
  | 0 => ("IslandOffice$Posts", "n", "I", false)
  | 1 => ("IslandOffice$Posts", "skill", "[I", true)
  | 2 => ("IslandOffice$Posts", "hands", "[I", true)
  | 3 => ("IslandOffice$Posts", "sort", "[I", true)
  | _ => ("IslandOffice$Posts", "open", "[I", true)
def zt_Q : Nat → FieldType := fun k => match k with
  | 0 => .int
  | 1 => .array .int
  | 2 => .array .int
  | 3 => .array .int
  | _ => .array .int
theorem zn_Q : ∀ a, a < 5 → ∀ b, b < 5 → a ≠ b → (zF_Q a).2.1 ≠ (zF_Q b).2.1 := by decide +kernel
theorem zt_Q_ok : ∀ k, k < 5 → parseFieldDescriptor (zF_Q k).2.2.1 = some (zt_Q k) := by decide +kernel
theorem zi_Q : ∀ w ∈ u_ws zR_Q zF_Q 5, w ∈ lw_tbl := by decide +kernel
theorem zj_Q : (u_ws zR_Q zF_Q 5).all goodWord = true := by decide +kernel
def zR_R : String := "IslandOffice$Reader"
def zF_R : u_T := fun k => match k with
  | 0 => ("IslandOffice$Reader", "subject", "I", false)
  | 1 => ("IslandOffice$Reader", "code", "[I", true)
  | 2 => ("IslandOffice$Reader", "codeSize", "I", false)
  | 3 => ("IslandOffice$Reader", "waiting", "[I", true)
  | 4 => ("IslandOffice$Reader", "waits", "I", false)
  | 5 => ("IslandOffice$Reader", "state", "I", false)
  | 6 => ("IslandOffice$Reader", "brackets", "I", false)
  | _ => ("IslandOffice$Reader", "digits", "I", false)
def zt_R : Nat → FieldType := fun k => match k with
  | 0 => .int
  | 1 => .array .int
  | 2 => .int
  | 3 => .array .int
  | 4 => .int
  | 5 => .int
  | 6 => .int
  | _ => .int
theorem zn_R : ∀ a, a < 8 → ∀ b, b < 8 → a ≠ b → (zF_R a).2.1 ≠ (zF_R b).2.1 := by decide +kernel
theorem zt_R_ok : ∀ k, k < 8 → parseFieldDescriptor (zF_R k).2.2.1 = some (zt_R k) := by decide +kernel
theorem zi_R : ∀ w ∈ u_ws zR_R zF_R 8, w ∈ lw_tbl := by decide +kernel
theorem zj_R : (u_ws zR_R zF_R 8).all goodWord = true := by decide +kernel
def zR_S : String := "IslandOffice$Shelf"
def zF_S : u_T := fun k => match k with
  | 0 => ("IslandOffice$Shelf", "holds", "I", false)
  | 1 => ("IslandOffice$Shelf", "heft", "I", false)
  | 2 => ("IslandOffice$Shelf", "failure", "I", false)
  | 3 => ("IslandOffice$Shelf", "number", "I", false)
  | 4 => ("IslandOffice$Shelf", "sort", "I", false)
  | 5 => ("IslandOffice$Shelf", "size", "I", false)
  | _ => ("IslandOffice$Shelf", "cell", "[I", true)
def zt_S : Nat → FieldType := fun k => match k with
  | 0 => .int
  | 1 => .int
  | 2 => .int
  | 3 => .int
  | 4 => .int
  | 5 => .int
  | _ => .array .int
theorem zn_S : ∀ a, a < 7 → ∀ b, b < 7 → a ≠ b → (zF_S a).2.1 ≠ (zF_S b).2.1 := by decide +kernel
theorem zt_S_ok : ∀ k, k < 7 → parseFieldDescriptor (zF_S k).2.2.1 = some (zt_S k) := by decide +kernel
theorem zi_S : ∀ w ∈ u_ws zR_S zF_S 7, w ∈ lw_tbl := by decide +kernel
theorem zj_S : (u_ws zR_S zF_S 7).all goodWord = true := by decide +kernel
def zR_Y : String := "IslandOffice$Sky"
def zF_Y : u_T := fun k => match k with
  | 0 => ("IslandOffice$Sky", "sort", "I", false)
  | 1 => ("IslandOffice$Sky", "size", "I", false)
  | _ => ("IslandOffice$Sky", "cell", "[I", true)
def zt_Y : Nat → FieldType := fun k => match k with
  | 0 => .int
  | 1 => .int
  | _ => .array .int
theorem zn_Y : ∀ a, a < 3 → ∀ b, b < 3 → a ≠ b → (zF_Y a).2.1 ≠ (zF_Y b).2.1 := by decide +kernel
theorem zt_Y_ok : ∀ k, k < 3 → parseFieldDescriptor (zF_Y k).2.2.1 = some (zt_Y k) := by decide +kernel
theorem zi_Y : ∀ w ∈ u_ws zR_Y zF_Y 3, w ∈ lw_tbl := by decide +kernel
theorem zj_Y : (u_ws zR_Y zF_Y 3).all goodWord = true := by decide +kernel
def zR_T : String := "IslandOffice$Stores"
def zF_T : u_T := fun k => match k with
  | 0 => ("IslandOffice$Stores", "stock", "[I", true)
  | 1 => ("IslandOffice$Stores", "ranks", "[I", true)
  | 2 => ("IslandOffice$Stores", "uses", "[I", true)
  | 3 => ("IslandOffice$Stores", "orders", "I", false)
  | 4 => ("IslandOffice$Stores", "good", "[I", true)
  | _ => ("IslandOffice$Stores", "rest", "[I", true)
def zt_T : Nat → FieldType := fun k => match k with
  | 0 => .array .int
  | 1 => .array .int
  | 2 => .array .int
  | 3 => .int
  | 4 => .array .int
  | _ => .array .int
theorem zn_T : ∀ a, a < 6 → ∀ b, b < 6 → a ≠ b → (zF_T a).2.1 ≠ (zF_T b).2.1 := by decide +kernel
theorem zt_T_ok : ∀ k, k < 6 → parseFieldDescriptor (zF_T k).2.2.1 = some (zt_T k) := by decide +kernel
theorem zi_T : ∀ w ∈ u_ws zR_T zF_T 6, w ∈ lw_tbl := by decide +kernel
theorem zj_T : (u_ws zR_T zF_T 6).all goodWord = true := by decide +kernel
def zR_M : String := "IslandOfficeModel"
def zF_M : u_T := fun k => match k with
  | 0 => ("IslandOfficeModel", "world", "LIslandOfficeModel$World;", true)
  | 1 => ("IslandOfficeModel", "mind", "LIslandOfficeModel$World;", true)
  | 2 => ("IslandOfficeModel", "image", "LIslandOfficeModel$World;", true)
  | 3 => ("IslandOfficeModel", "imaged", "Z", false)
  | 4 => ("IslandOfficeModel", "thrown", "I", false)
  | 5 => ("IslandOfficeModel", "held", "[I", true)
  | 6 => ("IslandOfficeModel", "rowSort", "[I", true)
  | 7 => ("IslandOfficeModel", "rowSize", "[I", true)
  | 8 => ("IslandOfficeModel", "rows", "[[I", true)
  | 9 => ("IslandOfficeModel", "kept", "[[I", true)
  | 10 => ("IslandOfficeModel", "letters", "[I", false)
  | 11 => ("IslandOfficeModel", "size", "I", false)
  | 12 => ("IslandOfficeModel", "at", "I", false)
  | 13 => ("IslandOfficeModel", "deep", "I", false)
  | _ => ("IslandOfficeModel", "fault", "I", false)
def zt_M : Nat → FieldType := fun k => match k with
  | 0 => .object "IslandOfficeModel$World"
  | 1 => .object "IslandOfficeModel$World"
  | 2 => .object "IslandOfficeModel$World"
  | 3 => .boolean
  | 4 => .int
  | 5 => .array .int
  | 6 => .array .int
  | 7 => .array .int
  | 8 => .array (.array .int)
  | 9 => .array (.array .int)
  | 10 => .array .int
  | 11 => .int
  | 12 => .int
  | 13 => .int
  | _ => .int
theorem zn_M : ∀ a, a < 15 → ∀ b, b < 15 → a ≠ b → (zF_M a).2.1 ≠ (zF_M b).2.1 := by decide +kernel
theorem zt_M_ok : ∀ k, k < 15 → parseFieldDescriptor (zF_M k).2.2.1 = some (zt_M k) := by decide +kernel
theorem zi_M : ∀ w ∈ u_ws zR_M zF_M 15, w ∈ lw_tbl := by decide +kernel
theorem zj_M : (u_ws zR_M zF_M 15).all goodWord = true := by decide +kernel
def zR_W : String := "IslandOfficeModel$World"
def zF_W : u_T := fun k => match k with
  | 0 => ("IslandOfficeModel$World", "week", "I", false)
  | 1 => ("IslandOfficeModel$World", "people", "I", false)
  | 2 => ("IslandOfficeModel$World", "birth", "[I", false)
  | 3 => ("IslandOfficeModel$World", "house", "[I", false)
  | 4 => ("IslandOfficeModel$World", "mother", "[I", false)
  | 5 => ("IslandOfficeModel$World", "skills", "[I", false)
  | 6 => ("IslandOfficeModel$World", "state", "[I", false)
  | 7 => ("IslandOfficeModel$World", "end", "[I", false)
  | 8 => ("IslandOfficeModel$World", "discontent", "[I", false)
  | 9 => ("IslandOfficeModel$World", "post", "[I", false)
  | 10 => ("IslandOfficeModel$World", "hungry", "[I", false)
  | 11 => ("IslandOfficeModel$World", "cattle", "[I", false)
  | 12 => ("IslandOfficeModel$World", "tank", "[I", false)
  | 13 => ("IslandOfficeModel$World", "roof", "[I", false)
  | 14 => ("IslandOfficeModel$World", "dry", "[I", false)
  | 15 => ("IslandOfficeModel$World", "grass", "I", false)
  | 16 => ("IslandOfficeModel$World", "laws", "I", false)
  | 17 => ("IslandOfficeModel$World", "text", "[[I", false)
  | 18 => ("IslandOfficeModel$World", "size", "[I", false)
  | 19 => ("IslandOfficeModel$World", "from", "[I", false)
  | 20 => ("IslandOfficeModel$World", "votes", "[I", false)
  | 21 => ("IslandOfficeModel$World", "voters", "[I", false)
  | 22 => ("IslandOfficeModel$World", "under", "[I", false)
  | 23 => ("IslandOfficeModel$World", "isVoid", "[I", false)
  | 24 => ("IslandOfficeModel$World", "repealed", "[I", false)
  | 25 => ("IslandOfficeModel$World", "posts", "I", false)
  | 26 => ("IslandOfficeModel$World", "postSkill", "[I", false)
  | 27 => ("IslandOfficeModel$World", "postHands", "[I", false)
  | 28 => ("IslandOfficeModel$World", "postSort", "[I", false)
  | 29 => ("IslandOfficeModel$World", "postOpen", "[I", false)
  | 30 => ("IslandOfficeModel$World", "store", "[I", false)
  | 31 => ("IslandOfficeModel$World", "rank", "[I", false)
  | 32 => ("IslandOfficeModel$World", "use", "[I", false)
  | 33 => ("IslandOfficeModel$World", "orders", "I", false)
  | 34 => ("IslandOfficeModel$World", "orderGood", "[I", false)
  | 35 => ("IslandOfficeModel$World", "orderDue", "[I", false)
  | 36 => ("IslandOfficeModel$World", "set", "[I", false)
  | 37 => ("IslandOfficeModel$World", "pays", "[I", false)
  | 38 => ("IslandOfficeModel$World", "purse", "I", false)
  | 39 => ("IslandOfficeModel$World", "fund", "I", false)
  | 40 => ("IslandOfficeModel$World", "unpaid", "I", false)
  | 41 => ("IslandOfficeModel$World", "landed", "I", false)
  | 42 => ("IslandOfficeModel$World", "skySort", "[I", false)
  | 43 => ("IslandOfficeModel$World", "skySize", "[I", false)
  | 44 => ("IslandOfficeModel$World", "sky", "[[I", false)
  | 45 => ("IslandOfficeModel$World", "record", "[[I", false)
  | 46 => ("IslandOfficeModel$World", "lacking", "[I", false)
  | 47 => ("IslandOfficeModel$World", "letters", "[I", false)
  | 48 => ("IslandOfficeModel$World", "at", "I", false)
  | 49 => ("IslandOfficeModel$World", "whom", "I", false)
  | 50 => ("IslandOfficeModel$World", "work", "[I", true)
  | 51 => ("IslandOfficeModel$World", "can", "[I", true)
  | 52 => ("IslandOfficeModel$World", "cans", "I", false)
  | 53 => ("IslandOfficeModel$World", "crew", "[J", true)
  | 54 => ("IslandOfficeModel$World", "isFilled", "[Z", true)
  | 55 => ("IslandOfficeModel$World", "fitBits", "[I", true)
  | 56 => ("IslandOfficeModel$World", "got", "[I", true)
  | _ => ("IslandOfficeModel$World", "first", "[I", true)
def zt_W : Nat → FieldType := fun k => match k with
  | 0 => .int
  | 1 => .int
  | 2 => .array .int
  | 3 => .array .int
  | 4 => .array .int
  | 5 => .array .int
  | 6 => .array .int
  | 7 => .array .int
  | 8 => .array .int
  | 9 => .array .int
  | 10 => .array .int
  | 11 => .array .int
  | 12 => .array .int
  | 13 => .array .int
  | 14 => .array .int
  | 15 => .int
  | 16 => .int
  | 17 => .array (.array .int)
  | 18 => .array .int
  | 19 => .array .int
  | 20 => .array .int
  | 21 => .array .int
  | 22 => .array .int
  | 23 => .array .int
  | 24 => .array .int
  | 25 => .int
  | 26 => .array .int
  | 27 => .array .int
  | 28 => .array .int
  | 29 => .array .int
  | 30 => .array .int
  | 31 => .array .int
  | 32 => .array .int
  | 33 => .int
  | 34 => .array .int
  | 35 => .array .int
  | 36 => .array .int
  | 37 => .array .int
  | 38 => .int
  | 39 => .int
  | 40 => .int
  | 41 => .int
  | 42 => .array .int
  | 43 => .array .int
  | 44 => .array (.array .int)
  | 45 => .array (.array .int)
  | 46 => .array .int
  | 47 => .array .int
  | 48 => .int
  | 49 => .int
  | 50 => .array .int
  | 51 => .array .int
  | 52 => .int
  | 53 => .array .long
  | 54 => .array .boolean
  | 55 => .array .int
  | 56 => .array .int
  | _ => .array .int
theorem zn_W : ∀ a, a < 58 → ∀ b, b < 58 → a ≠ b → (zF_W a).2.1 ≠ (zF_W b).2.1 := by decide +kernel
theorem zt_W_ok : ∀ k, k < 58 → parseFieldDescriptor (zF_W k).2.2.1 = some (zt_W k) := by decide +kernel
theorem zi_W : ∀ w ∈ u_ws zR_W zF_W 58, w ∈ lw_tbl := by decide +kernel
theorem zj_W : (u_ws zR_W zF_W 58).all goodWord = true := by decide +kernel
abbrev zcl : List vw_C := [(zR_O, zF_O, 10), (zR_A, zF_A, 8), (zR_C, zF_C, 9), (zR_I, zF_I, 18), (zR_J, zF_J, 3), (zR_L, zF_L, 11), (zR_P, zF_P, 10), (zR_Q, zF_Q, 5), (zR_R, zF_R, 8), (zR_S, zF_S, 7), (zR_Y, zF_Y, 3), (zR_T, zF_T, 6), (zR_M, zF_M, 15), (zR_W, zF_W, 58)]
/-- the tables' words that stand for ever -/
def zT : List Cond := lw_tbl.filter goodWord
theorem zT_of {w : Cond} (h : w ∈ lw_tbl) (g : goodWord w = true) : w ∈ zT := List.mem_filter.mpr ⟨h, g⟩
theorem zT_in {w : Cond} (h : w ∈ zT) : w ∈ lw_tbl := (List.mem_filter.mp h).1
theorem zT_sub {ws : List Cond} (h : ∀ w ∈ ws, w ∈ lw_tbl) (g : ws.all goodWord = true) : ∀ w ∈ ws, w ∈ zT := fun w hw => zT_of (h w hw) (List.all_eq_true.mp g w hw)
theorem zG {y : Cond} (hy : y ∈ zT) : GoodIn zT (y :: zT) := by
  intro w hw
  have hm : w ∈ zT := by
    rcases List.mem_cons.mp hw with h | h
    · rw [h]; exact hy
    · exact h
  exact ⟨hm, good_of_word (List.mem_filter.mp hm).2⟩
