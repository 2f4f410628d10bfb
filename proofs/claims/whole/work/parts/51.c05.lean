abbrev M_X11_init : zw_M := (⟨"CutStonesModel", "<init>", "()V"⟩, prog_13_method_2_code, 1, (Option.none : Option Jvm.ClassFile.FieldType))

