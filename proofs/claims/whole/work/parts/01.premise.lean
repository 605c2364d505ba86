/-! What the premises ask of the start's classes: a pair said not castable holds only where BOTH classes are found. -/
theorem pr_castable {args : Array Value} {s : State} {a b : String} (h : (Jvm.Cond.not (Jvm.Cond.castable a b)).before args s = true) : (s.vm.findClass a).isSome = true := by
  cases hc : s.vm.findClass a with
  | some c => rfl
  | none => simp [Cond.before, Cond.holds, Cond.value, hc] at h
set_option maxRecDepth 100000 in
/-- every start that meets the premises has loaded the array class [Ljava/lang/StackTraceElement; -/
theorem pr_needs_class {args : Array Value} {s : State} (h : (Jvm.Cond.and given_1 narrow_1).before args s = true) : (s.vm.findClass "[Ljava/lang/StackTraceElement;").isSome = true :=
  pr_castable (b := "java/lang/String") (flat_of_before _ h _ (by decide +kernel))
