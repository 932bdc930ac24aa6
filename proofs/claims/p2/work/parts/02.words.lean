/-! WORDS OF THE TABLES, FIELDS, CLASSES that the walk asks of the state behind the script's first two calls -/
def rf_W : List Cond := [.initialized "TimeStoreModel", .code ⟨"TimeStoreModel", "isIn", "(III)Z"⟩ ⟨#[0x1a, 0x1b, 0xa1, 0x00, 0x0c, 0x1a, 0x1c, 0xa3, 0x00, 0x07, 0x04, 0xa7, 0x00, 0x04, 0x03, 0xac]⟩ 3 (some .boolean)]
/-- a field: class of the reference, name, descriptor; its slot, its class's number, final, its type -/
abbrev rf_Fd : Type := String × String × String × Nat × Nat × Bool × FieldType
def rf_FL : List rf_Fd := [("TimeStore", "windowCount", "I", 12, 2, false, .int)]
/-- a class: name, number, the types of its objects' slots -/
def rf_CL : List (String × Nat × List FieldType) := [("TimeStore$Window", 7, [.int, .int, .int, .int])]
/-- array classes: number, the components' type -/
def rf_AL : List (Nat × FieldType) := [(49, .int), (51, .long), (55, .object "TimeStore$Window"), (57, .object "java/lang/Object")]
def rf_X : List Cond := []
