def F_PD : u_T := fun k => match k with
  | 0 => ("PageDrive", "pool", "LPageDrive$Pool;", true)
  | 1 => ("PageDrive", "entries", "[LPageDrive$Entry;", true)
  | 2 => ("PageDrive", "tape", "[B", true)
  | _ => ("PageDrive", "taped", "I", false)
def t_PD : Nat → FieldType := fun k => match k with
  | 0 => .object "PageDrive$Pool"
  | 1 => .array (.object "PageDrive$Entry")
  | 2 => .array .byte
  | _ => .int
theorem n_PD : ∀ a, a < 4 → ∀ b, b < 4 → a ≠ b → (F_PD a).2.1 ≠ (F_PD b).2.1 := by decide +kernel
theorem tok_PD : ∀ k, k < 4 → parseFieldDescriptor (F_PD k).2.2.1 = some (t_PD k) := by decide +kernel
theorem iw_PD : ∀ w ∈ u_ws "PageDrive" F_PD 4, w ∈ wsG := by decide +kernel
def F_PO : u_T := fun k => match k with
  | 0 => ("PageDrive$Pool", "pages", "I", true)
  | 1 => ("PageDrive$Pool", "bytes", "[B", true)
  | 2 => ("PageDrive$Pool", "rowsWith", "[I", true)
  | 3 => ("PageDrive$Pool", "unused", "[I", true)
  | 4 => ("PageDrive$Pool", "unusedCount", "I", false)
  | _ => ("PageDrive$Pool", "copied", "I", false)
def t_PO : Nat → FieldType := fun k => match k with
  | 0 => .int
  | 1 => .array .byte
  | 2 => .array .int
  | 3 => .array .int
  | 4 => .int
  | _ => .int
theorem n_PO : ∀ a, a < 6 → ∀ b, b < 6 → a ≠ b → (F_PO a).2.1 ≠ (F_PO b).2.1 := by decide +kernel
theorem tok_PO : ∀ k, k < 6 → parseFieldDescriptor (F_PO k).2.2.1 = some (t_PO k) := by decide +kernel
theorem iw_PO : ∀ w ∈ u_ws "PageDrive$Pool" F_PO 6, w ∈ wsG := by decide +kernel
def F_EN : u_T := fun k => match k with
  | 0 => ("PageDrive$Entry", "now", "LPageDrive$Content;", true)
  | 1 => ("PageDrive$Entry", "synced", "LPageDrive$Content;", true)
  | _ => ("PageDrive$Entry", "low", "I", false)
def t_EN : Nat → FieldType := fun k => match k with
  | 0 => .object "PageDrive$Content"
  | 1 => .object "PageDrive$Content"
  | _ => .int
theorem n_EN : ∀ a, a < 3 → ∀ b, b < 3 → a ≠ b → (F_EN a).2.1 ≠ (F_EN b).2.1 := by decide +kernel
theorem tok_EN : ∀ k, k < 3 → parseFieldDescriptor (F_EN k).2.2.1 = some (t_EN k) := by decide +kernel
theorem iw_EN : ∀ w ∈ u_ws "PageDrive$Entry" F_EN 3, w ∈ wsG := by decide +kernel
def F_CO : u_T := fun k => match k with
  | 0 => ("PageDrive$Content", "row", "[I", true)
  | 1 => ("PageDrive$Content", "size", "I", false)
  | _ => ("PageDrive$Content", "there", "Z", false)
def t_CO : Nat → FieldType := fun k => match k with
  | 0 => .array .int
  | 1 => .int
  | _ => .boolean
theorem n_CO : ∀ a, a < 3 → ∀ b, b < 3 → a ≠ b → (F_CO a).2.1 ≠ (F_CO b).2.1 := by decide +kernel
theorem tok_CO : ∀ k, k < 3 → parseFieldDescriptor (F_CO k).2.2.1 = some (t_CO k) := by decide +kernel
theorem iw_CO : ∀ w ∈ u_ws "PageDrive$Content" F_CO 3, w ∈ wsG := by decide +kernel
def F_MO : u_T := fun k => match k with
  | 0 => ("PageDriveModel", "thrown", "I", false)
  | 1 => ("PageDriveModel", "limit", "I", true)
  | 2 => ("PageDriveModel", "fed", "I", false)
  | 3 => ("PageDriveModel", "tape", "[I", true)
  | 4 => ("PageDriveModel", "pages", "[J", true)
  | 5 => ("PageDriveModel", "rows", "[I", true)
  | 6 => ("PageDriveModel", "sizes", "[I", true)
  | 7 => ("PageDriveModel", "there", "[Z", true)
  | 8 => ("PageDriveModel", "lows", "[I", true)
  | 9 => ("PageDriveModel", "copied", "I", false)
  | _ => ("PageDriveModel", "seen", "[I", true)
def t_MO : Nat → FieldType := fun k => match k with
  | 0 => .int
  | 1 => .int
  | 2 => .int
  | 3 => .array .int
  | 4 => .array .long
  | 5 => .array .int
  | 6 => .array .int
  | 7 => .array .boolean
  | 8 => .array .int
  | 9 => .int
  | _ => .array .int
theorem n_MO : ∀ a, a < 11 → ∀ b, b < 11 → a ≠ b → (F_MO a).2.1 ≠ (F_MO b).2.1 := by decide +kernel
theorem tok_MO : ∀ k, k < 11 → parseFieldDescriptor (F_MO k).2.2.1 = some (t_MO k) := by decide +kernel
theorem iw_MO : ∀ w ∈ u_ws "PageDriveModel" F_MO 11, w ∈ wsG := by decide +kernel
abbrev pwCl : List vw_C := [("PageDrive", F_PD, 4), ("PageDrive$Pool", F_PO, 6), ("PageDrive$Entry", F_EN, 3), ("PageDrive$Content", F_CO, 3), ("PageDriveModel", F_MO, 11)]
section GI
variable {Ts : List Cond}
theorem gi_in {x : Cond} (hs : ∀ w ∈ wsG, w ∈ Ts) (h : x ∈ wsG) : GoodIn Ts (x :: wsG) := fun w hw => by
  rcases List.mem_cons.mp hw with e | h2
  · subst e
    exact ⟨hs _ h, good_of_word (wsG_good _ h)⟩
  · exact ⟨hs _ h2, good_of_word (wsG_good _ h2)⟩
theorem gi_1 {x : Cond} {L : List Cond} (hs : ∀ w ∈ wsG, w ∈ Ts) (h : x ∈ wsG) (hL : GoodIn Ts L) : GoodIn Ts (x :: L) := fun w hw => by
  rcases List.mem_cons.mp hw with e | h2
  · subst e
    exact ⟨hs _ h, good_of_word (wsG_good _ h)⟩
  · exact hL w h2
theorem gi_V {own C : String} {idx : Nat} {y : MethodName} {x : Cond} (hs : ∀ w ∈ wsG, w ∈ Ts) (h1 : Cond.methodLink own idx y ∈ wsG) (h2 : Cond.instanceMethod y ∈ wsG) (h3 : Cond.selects C y y ∈ wsG) (h4 : Cond.initialized C ∈ wsG) (h : x ∈ wsG) : GoodIn Ts (wsV own idx C y (x :: wsG)) := gi_1 hs h1 (gi_1 hs h2 (gi_1 hs h3 (gi_1 hs h4 (gi_in hs h))))
theorem gi_S {own : String} {idx : Nat} {y : MethodName} {x : Cond} (hs : ∀ w ∈ wsG, w ∈ Ts) (h1 : Cond.methodLink own idx y ∈ wsG) (h2 : Cond.static y ∈ wsG) (h4 : Cond.initialized own ∈ wsG) (h : x ∈ wsG) : GoodIn Ts (wsS own idx y (x :: wsG)) := gi_1 hs h1 (gi_1 hs h2 (gi_1 hs h4 (gi_in hs h)))
end GI
theorem hs_c {c : Cond} : ∀ w ∈ wsG, w ∈ c :: wsG := fun _ h => List.mem_cons_of_mem _ h
