-- written by wip/gen/tables.py: the classes whose objects the worlds hold
def R_De : String := "MatrixDesk"
def R_Di : String := "MatrixDesk$Division"
def R_Ma : String := "MatrixDesk$Matrix"
def R_Mi : String := "MatrixDesk$Minors"
def R_Pr : String := "MatrixDesk$Print"
def R_Ro : String := "MatrixDesk$Row"
def R_St : String := "MatrixDesk$Staircase"
def R_Wh : String := "MatrixDesk$Whole"
def R_Mo : String := "MatrixDeskModel"
def R_La : String := "MatrixDeskLaw"
def R_Ob : String := "java/lang/Object"
def R_Th : String := "java/lang/Throwable"
def R_Ex : String := "java/lang/Exception"
def R_Re : String := "java/lang/RuntimeException"
def R_Io : String := "java/lang/IndexOutOfBoundsException"
def R_Ia : String := "java/lang/IllegalArgumentException"
def R_In : String := "java/lang/Integer"
def R_Mt : String := "java/lang/Math"
def R_Sy : String := "java/lang/System"
def R_Ar : String := "java/util/Arrays"
def F_De : u_T := fun k => match k with
  | 0 => ("MatrixDesk", "matrices", "[LMatrixDesk$Matrix;", true)
  | 1 => ("MatrixDesk", "result", "LMatrixDesk$Matrix;", true)
  | 2 => ("MatrixDesk", "print", "LMatrixDesk$Print;", true)
  | 3 => ("MatrixDesk", "division", "LMatrixDesk$Division;", true)
  | 4 => ("MatrixDesk", "minors", "LMatrixDesk$Minors;", true)
  | 5 => ("MatrixDesk", "stairs", "LMatrixDesk$Staircase;", true)
  | 6 => ("MatrixDesk", "sum", "LMatrixDesk$Whole;", true)
  | 7 => ("MatrixDesk", "left", "LMatrixDesk$Whole;", true)
  | _ => ("MatrixDesk", "right", "LMatrixDesk$Whole;", true)
def t_De : Nat → FieldType := fun k => match k with
  | 0 => .array (.object "MatrixDesk$Matrix")
  | 1 => .object "MatrixDesk$Matrix"
  | 2 => .object "MatrixDesk$Print"
  | 3 => .object "MatrixDesk$Division"
  | 4 => .object "MatrixDesk$Minors"
  | 5 => .object "MatrixDesk$Staircase"
  | 6 => .object "MatrixDesk$Whole"
  | 7 => .object "MatrixDesk$Whole"
  | _ => .object "MatrixDesk$Whole"
theorem n_De : ∀ a, a < 9 → ∀ b, b < 9 → a ≠ b → (F_De a).2.1 ≠ (F_De b).2.1 := by decide +kernel
theorem t_De_ok : ∀ k, k < 9 → parseFieldDescriptor (F_De k).2.2.1 = some (t_De k) := by decide +kernel
def F_Di : u_T := fun k => match k with
  | 0 => ("MatrixDesk$Division", "scaled", "LMatrixDesk$Whole;", true)
  | 1 => ("MatrixDesk$Division", "quotient", "LMatrixDesk$Whole;", true)
  | 2 => ("MatrixDesk$Division", "common", "LMatrixDesk$Whole;", true)
  | 3 => ("MatrixDesk$Division", "other", "LMatrixDesk$Whole;", true)
  | _ => ("MatrixDesk$Division", "one", "LMatrixDesk$Whole;", true)
def t_Di : Nat → FieldType := fun k => match k with
  | 0 => .object "MatrixDesk$Whole"
  | 1 => .object "MatrixDesk$Whole"
  | 2 => .object "MatrixDesk$Whole"
  | 3 => .object "MatrixDesk$Whole"
  | _ => .object "MatrixDesk$Whole"
theorem n_Di : ∀ a, a < 5 → ∀ b, b < 5 → a ≠ b → (F_Di a).2.1 ≠ (F_Di b).2.1 := by decide +kernel
theorem t_Di_ok : ∀ k, k < 5 → parseFieldDescriptor (F_Di k).2.2.1 = some (t_Di k) := by decide +kernel
def F_Ma : u_T := fun k => match k with
  | 0 => ("MatrixDesk$Matrix", "numbers", "[J", true)
  | 1 => ("MatrixDesk$Matrix", "rows", "I", false)
  | _ => ("MatrixDesk$Matrix", "columns", "I", false)
def t_Ma : Nat → FieldType := fun k => match k with
  | 0 => .array .long
  | 1 => .int
  | _ => .int
theorem n_Ma : ∀ a, a < 3 → ∀ b, b < 3 → a ≠ b → (F_Ma a).2.1 ≠ (F_Ma b).2.1 := by decide +kernel
theorem t_Ma_ok : ∀ k, k < 3 → parseFieldDescriptor (F_Ma k).2.2.1 = some (t_Ma k) := by decide +kernel
def F_Mi : u_T := fun k => match k with
  | 0 => ("MatrixDesk$Minors", "division", "LMatrixDesk$Division;", true)
  | 1 => ("MatrixDesk$Minors", "numbers", "[LMatrixDesk$Whole;", true)
  | 2 => ("MatrixDesk$Minors", "minorIn", "[LMatrixDesk$Whole;", true)
  | 3 => ("MatrixDesk$Minors", "rows", "I", false)
  | _ => ("MatrixDesk$Minors", "columns", "I", false)
def t_Mi : Nat → FieldType := fun k => match k with
  | 0 => .object "MatrixDesk$Division"
  | 1 => .array (.object "MatrixDesk$Whole")
  | 2 => .array (.object "MatrixDesk$Whole")
  | 3 => .int
  | _ => .int
theorem n_Mi : ∀ a, a < 5 → ∀ b, b < 5 → a ≠ b → (F_Mi a).2.1 ≠ (F_Mi b).2.1 := by decide +kernel
theorem t_Mi_ok : ∀ k, k < 5 → parseFieldDescriptor (F_Mi k).2.2.1 = some (t_Mi k) := by decide +kernel
def F_Pr : u_T := fun k => match k with
  | 0 => ("MatrixDesk$Print", "letters", "[C", true)
  | _ => ("MatrixDesk$Print", "length", "I", false)
def t_Pr : Nat → FieldType := fun k => match k with
  | 0 => .array .char
  | _ => .int
theorem n_Pr : ∀ a, a < 2 → ∀ b, b < 2 → a ≠ b → (F_Pr a).2.1 ≠ (F_Pr b).2.1 := by decide +kernel
theorem t_Pr_ok : ∀ k, k < 2 → parseFieldDescriptor (F_Pr k).2.2.1 = some (t_Pr k) := by decide +kernel
def F_Ro : u_T := fun k => match k with
  | _ => ("MatrixDesk$Row", "numbers", "[LMatrixDesk$Whole;", true)
def t_Ro : Nat → FieldType := fun k => match k with
  | _ => .array (.object "MatrixDesk$Whole")
theorem n_Ro : ∀ a, a < 1 → ∀ b, b < 1 → a ≠ b → (F_Ro a).2.1 ≠ (F_Ro b).2.1 := by decide +kernel
theorem t_Ro_ok : ∀ k, k < 1 → parseFieldDescriptor (F_Ro k).2.2.1 = some (t_Ro k) := by decide +kernel
def F_St : u_T := fun k => match k with
  | 0 => ("MatrixDesk$Staircase", "division", "LMatrixDesk$Division;", true)
  | 1 => ("MatrixDesk$Staircase", "quotient", "LMatrixDesk$Whole;", true)
  | 2 => ("MatrixDesk$Staircase", "rows", "[LMatrixDesk$Row;", true)
  | 3 => ("MatrixDesk$Staircase", "leads", "[I", true)
  | 4 => ("MatrixDesk$Staircase", "count", "I", false)
  | _ => ("MatrixDesk$Staircase", "width", "I", false)
def t_St : Nat → FieldType := fun k => match k with
  | 0 => .object "MatrixDesk$Division"
  | 1 => .object "MatrixDesk$Whole"
  | 2 => .array (.object "MatrixDesk$Row")
  | 3 => .array .int
  | 4 => .int
  | _ => .int
theorem n_St : ∀ a, a < 6 → ∀ b, b < 6 → a ≠ b → (F_St a).2.1 ≠ (F_St b).2.1 := by decide +kernel
theorem t_St_ok : ∀ k, k < 6 → parseFieldDescriptor (F_St k).2.2.1 = some (t_St k) := by decide +kernel
def F_Wh : u_T := fun k => match k with
  | 0 => ("MatrixDesk$Whole", "digits", "[I", false)
  | 1 => ("MatrixDesk$Whole", "length", "I", false)
  | _ => ("MatrixDesk$Whole", "below", "Z", false)
def t_Wh : Nat → FieldType := fun k => match k with
  | 0 => .array .int
  | 1 => .int
  | _ => .boolean
theorem n_Wh : ∀ a, a < 3 → ∀ b, b < 3 → a ≠ b → (F_Wh a).2.1 ≠ (F_Wh b).2.1 := by decide +kernel
theorem t_Wh_ok : ∀ k, k < 3 → parseFieldDescriptor (F_Wh k).2.2.1 = some (t_Wh k) := by decide +kernel
def F_Mo : u_T := fun k => match k with
  | 0 => ("MatrixDeskModel", "parts", "[I", true)
  | 1 => ("MatrixDeskModel", "lengths", "[I", true)
  | 2 => ("MatrixDeskModel", "minus", "[Z", true)
  | 3 => ("MatrixDeskModel", "thrown", "I", false)
  | 4 => ("MatrixDeskModel", "numbers", "[J", true)
  | 5 => ("MatrixDeskModel", "rows", "[I", true)
  | 6 => ("MatrixDeskModel", "columns", "[I", true)
  | 7 => ("MatrixDeskModel", "grid", "[J", true)
  | 8 => ("MatrixDeskModel", "gridRows", "I", false)
  | 9 => ("MatrixDeskModel", "gridColumns", "I", false)
  | 10 => ("MatrixDeskModel", "picked", "[I", true)
  | 11 => ("MatrixDeskModel", "formRows", "I", false)
  | 12 => ("MatrixDeskModel", "leads", "[I", true)
  | 13 => ("MatrixDeskModel", "base", "I", false)
  | 14 => ("MatrixDeskModel", "printed", "[I", true)
  | 15 => ("MatrixDeskModel", "printedSize", "I", false)
  | _ => ("MatrixDeskModel", "digits", "[I", true)
def t_Mo : Nat → FieldType := fun k => match k with
  | 0 => .array .int
  | 1 => .array .int
  | 2 => .array .boolean
  | 3 => .int
  | 4 => .array .long
  | 5 => .array .int
  | 6 => .array .int
  | 7 => .array .long
  | 8 => .int
  | 9 => .int
  | 10 => .array .int
  | 11 => .int
  | 12 => .array .int
  | 13 => .int
  | 14 => .array .int
  | 15 => .int
  | _ => .array .int
theorem n_Mo : ∀ a, a < 17 → ∀ b, b < 17 → a ≠ b → (F_Mo a).2.1 ≠ (F_Mo b).2.1 := by decide +kernel
theorem t_Mo_ok : ∀ k, k < 17 → parseFieldDescriptor (F_Mo k).2.2.1 = some (t_Mo k) := by decide +kernel
def F_Io : u_T := fun k => match k with
  | 0 => ("java/lang/Throwable", "cause", "Ljava/lang/Throwable;", false)
  | 1 => ("java/lang/Throwable", "stackTrace", "[Ljava/lang/StackTraceElement;", false)
  | 2 => ("java/lang/Throwable", "suppressedExceptions", "Ljava/util/List;", false)
  | 3 => ("java/lang/Throwable", "detailMessage", "Ljava/lang/String;", false)
  | 4 => ("java/lang/Throwable", "backtrace", "Ljava/lang/Object;", false)
  | _ => ("java/lang/Throwable", "depth", "I", false)
def t_Io : Nat → FieldType := fun k => match k with
  | 0 => .object "java/lang/Throwable"
  | 1 => .array (.object "java/lang/StackTraceElement")
  | 2 => .object "java/util/List"
  | 3 => .object "java/lang/String"
  | 4 => .object "java/lang/Object"
  | _ => .int
theorem n_Io : ∀ a, a < 6 → ∀ b, b < 6 → a ≠ b → (F_Io a).2.1 ≠ (F_Io b).2.1 := by decide +kernel
theorem t_Io_ok : ∀ k, k < 6 → parseFieldDescriptor (F_Io k).2.2.1 = some (t_Io k) := by decide +kernel
def F_Ia : u_T := fun k => match k with
  | 0 => ("java/lang/Throwable", "cause", "Ljava/lang/Throwable;", false)
  | 1 => ("java/lang/Throwable", "stackTrace", "[Ljava/lang/StackTraceElement;", false)
  | 2 => ("java/lang/Throwable", "suppressedExceptions", "Ljava/util/List;", false)
  | 3 => ("java/lang/Throwable", "detailMessage", "Ljava/lang/String;", false)
  | 4 => ("java/lang/Throwable", "backtrace", "Ljava/lang/Object;", false)
  | _ => ("java/lang/Throwable", "depth", "I", false)
def t_Ia : Nat → FieldType := fun k => match k with
  | 0 => .object "java/lang/Throwable"
  | 1 => .array (.object "java/lang/StackTraceElement")
  | 2 => .object "java/util/List"
  | 3 => .object "java/lang/String"
  | 4 => .object "java/lang/Object"
  | _ => .int
theorem n_Ia : ∀ a, a < 6 → ∀ b, b < 6 → a ≠ b → (F_Ia a).2.1 ≠ (F_Ia b).2.1 := by decide +kernel
theorem t_Ia_ok : ∀ k, k < 6 → parseFieldDescriptor (F_Ia k).2.2.1 = some (t_Ia k) := by decide +kernel
/-- the classes whose objects the worlds hold: an object names its class by its place here -/
abbrev cls_all : List vw_C := [(R_De, F_De, 9), (R_Di, F_Di, 5), (R_Ma, F_Ma, 3), (R_Mi, F_Mi, 5), (R_Pr, F_Pr, 2), (R_Ro, F_Ro, 1), (R_St, F_St, 6), (R_Wh, F_Wh, 3), (R_Mo, F_Mo, 17), (R_Io, F_Io, 6), (R_Ia, F_Ia, 6)]
