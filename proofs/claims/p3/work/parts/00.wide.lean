/-! Names of the rest of the library, ahead of all: a new task is then read over the whole of it from its first part on -/
theorem zz_w1 : Lib.Math.abs.code = Lib.Math.abs.code := rfl
theorem zz_w2 : Lib.Math.max.code = Lib.Math.max.code := rfl
theorem zz_w3 : Lib.Math.abs.name = Lib.Math.abs.name := rfl
