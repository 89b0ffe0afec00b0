section
/-- what narrow_1 asks of every start: the class of the arrays of StackTraceElement is there (the printed start's list of classes hasn't it) -/
theorem zz_needs {args : Array Value} {s : State} (h : narrow_1.before args s = true) : ∃ c : ClassId, s.vm.findClass "[Ljava/lang/StackTraceElement;" = some c := by
  have hq : (Cond.not (Cond.castable "[Ljava/lang/StackTraceElement;" "java/lang/String")).before args s = true := flat_of_before _ h _ (by decide +kernel)
  cases hf : s.vm.findClass "[Ljava/lang/StackTraceElement;" with
  | some c => exact ⟨c, rfl⟩
  | none => simp [Cond.before, Cond.holds, Cond.value, hf] at hq
end
