/-- the premise of an array class that the printed witness's state doesn't have: worth nothing where no class of that name stands -/
theorem zz_none {args : Array Value} {s : State} (h : s.vm.findClass "[Ljava/lang/StackTraceElement;" = none) : (Jvm.Cond.not (Jvm.Cond.castable "[Ljava/lang/StackTraceElement;" "java/lang/String")).before args s = false := by
  simp [Cond.before, Cond.holds, Cond.value, h]
/-- so the Statement's premises hold in no state without a class of that name -/
theorem zz_false {args : Array Value} {s : State} (h : s.vm.findClass "[Ljava/lang/StackTraceElement;" = none) : (Jvm.Cond.and given_1 narrow_1).before args s = false := by
  cases hb : (Jvm.Cond.and given_1 narrow_1).before args s with
  | false => rfl
  | true =>
    have hs := flat_of_before _ hb
    have h1 := hs (Jvm.Cond.not (Jvm.Cond.castable "[Ljava/lang/StackTraceElement;" "java/lang/String")) (by decide +kernel)
    rw [zz_none h] at h1
    cases h1
