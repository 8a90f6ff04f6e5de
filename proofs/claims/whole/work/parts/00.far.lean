/-! A name of the library's far part, in the first text: so a round on a new machine is read over the whole library from its start, and compiles nothing twice. -/
theorem dcmp_nn {x : UInt64} (h : FP.dIsNaN x = false) : FP.dcmp x x = some .eq := FP.Core.dcmp_refl h
