/-! What the premise narrow_1_1 asks of a start: a class of the name "[Ljava/lang/StackTraceElement;" must be listed in it. (The printed start lists none: REPORT.md, TRANSLATOR 1.) -/
theorem wn_two {a b : Jvm.Cond} {args : Array Value} {s : State} (h : (Jvm.Cond.and a b).before args s = true) : a.before args s = true ∧ b.before args s = true := by
  rw [Cond.before_and, Bool.and_eq_true] at h
  exact h
theorem wn_not {A B : String} {args : Array Value} {s : State} (h : (Jvm.Cond.not (Jvm.Cond.castable A B)).before args s = true) : (s.vm.findClass A).isSome = true := by
  simp only [Cond.before, Cond.holds, Cond.value] at h
  cases hc : s.vm.findClass A with
  | none => simp [hc] at h
  | some c => rfl
theorem wn_needs {args : Array Value} {s : State} (h : narrow_1_1.before args s = true) : (s.vm.findClass "[Ljava/lang/StackTraceElement;").isSome = true := by
  unfold narrow_1_1 at h
  have h1 := (wn_two h).2
  have h2 := (wn_two h1).2
  have h3 := (wn_two h2).1
  have h4 := (wn_two h3).2
  have h5 := (wn_two h4).2
  have h6 := (wn_two h5).2
  have h7 := (wn_two h6).2
  have h8 := (wn_two h7).2
  exact wn_not (wn_two h8).1
/-- No state without such a class meets the premise. -/
theorem wn_none {args : Array Value} {s : State} (h : s.vm.findClass "[Ljava/lang/StackTraceElement;" = none) : narrow_1_1.before args s = false := by
  cases hb : narrow_1_1.before args s with
  | false => rfl
  | true =>
    have := wn_needs hb
    rw [h] at this
    exact absurd this (by decide)
/-- No state meets the premise whose classes all bear other names: so it is with the 78 classes of the printed start. -/
theorem wn_list {args : Array Value} {s : State} (h : ∀ k ∈ s.vm.classes, k.name ≠ "[Ljava/lang/StackTraceElement;") : narrow_1_1.before args s = false := by
  apply wn_none
  unfold Vm.findClass
  rw [Array.findIdx?_eq_none_iff]
  intro k hk
  have hn : (k.name == "[Ljava/lang/StackTraceElement;") = false := by
    rw [beq_eq_false_iff_ne]
    exact h k hk
  simp only [hn, Bool.false_and]
