theorem wd9 : (Jvm.Cond.classLink "MeterDeskLaw" (7 : Nat) "MeterDesk") ∈ tb := tb_of (i := 52) (by decide +kernel) rfl
theorem wd10 : (Jvm.Cond.instantiable "MeterDesk" (5 : Nat)) ∈ tb := tb_of (i := 53) (by decide +kernel) rfl
theorem wd11 : (Jvm.Cond.methodLink "MeterDeskLaw" (9 : Nat) ({ cls := "MeterDesk", name := "<init>", desc := "()V" } : Jvm.MethodName)) ∈ tb := tb_of (i := 54) (by decide +kernel) rfl
theorem wd12 : (Jvm.Cond.instanceMethod ({ cls := "MeterDesk", name := "<init>", desc := "()V" } : Jvm.MethodName)) ∈ tb := tb_of (i := 55) (by decide +kernel) rfl
theorem wd13 : (Jvm.Cond.code ({ cls := "MeterDesk", name := "<init>", desc := "()V" } : Jvm.MethodName) prog_1_method_1_code (4 : Nat) (Option.none : Option Jvm.ClassFile.FieldType)) ∈ tb := tb_of (i := 56) (by decide +kernel) rfl
theorem wd485 : (Jvm.Cond.classLink "MeterDeskLaw" (10 : Nat) "MeterDeskModel") ∈ tb := tb_of (i := 528) (by decide +kernel) rfl
theorem wd486 : (Jvm.Cond.instantiable "MeterDeskModel" (36 : Nat)) ∈ tb := tb_of (i := 529) (by decide +kernel) rfl
theorem wd487 : (Jvm.Cond.methodLink "MeterDeskLaw" (12 : Nat) ({ cls := "MeterDeskModel", name := "<init>", desc := "()V" } : Jvm.MethodName)) ∈ tb := tb_of (i := 530) (by decide +kernel) rfl
theorem wd488 : (Jvm.Cond.instanceMethod ({ cls := "MeterDeskModel", name := "<init>", desc := "()V" } : Jvm.MethodName)) ∈ tb := tb_of (i := 531) (by decide +kernel) rfl
theorem wd489 : (Jvm.Cond.code ({ cls := "MeterDeskModel", name := "<init>", desc := "()V" } : Jvm.MethodName) prog_8_method_1_code (2 : Nat) (Option.none : Option Jvm.ClassFile.FieldType)) ∈ tb := tb_of (i := 532) (by decide +kernel) rfl
/-- the state of a new object -/
def iX (f : Nat → Int32) : St := fun r => match r with
  | 2 => f
  | 15 => fun k => match k with
    | 3 => 1000
    | 4 => 32767
    | _ => 0
  | _ => fun _ => 0
/-- the state of a new object -/
def iM (f : Nat → Int32) : St := fun r => match r with
  | 5 => f
  | 19 => fun k => match k with
    | 2 => 1000
    | 3 => 32767
    | _ => 0
  | _ => fun _ => 0
