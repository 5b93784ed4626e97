/-! a constructor with a message, behind it the throw: the words -/
section
def thrW (own : String) (ic : Nat) (X Y : String) (jx : Nat) (bx : ByteArray) (names : List String) : List Cond :=
  Bundle.throwableAtoms ++ Bundle.throwableSAtoms ++ Bundle.passSAtoms X Y jx bx ++ Bundle.chainSAtoms Y names ++
  [.methodLink own ic (Bundle.initS X), .instantiable X 6, .selects X Bundle.tFill0 Bundle.tFill0, .selects X Bundle.tFill Bundle.tFill, .lays X Bundle.tN "cause" "Ljava/lang/Throwable;", .lays X Bundle.tN "stackTrace" Bundle.steD, .lays X Bundle.tN "suppressedExceptions" Bundle.listD, .lays X Bundle.tN "detailMessage" "Ljava/lang/String;",
   .isRef (.static Bundle.tN "UNASSIGNED_STACK" Bundle.steD), .isRef (.static Bundle.tN "SUPPRESSED_SENTINEL" Bundle.listD), .fieldLink Bundle.tN 198 Bundle.tN "backtrace" "Ljava/lang/Object;", .lays Bundle.tN Bundle.tN "backtrace" "Ljava/lang/Object;", .lays X Bundle.tN "backtrace" "Ljava/lang/Object;"]
/-- the links of a chain of constructors, the first by any index -/
theorem thr_chain {args : Array Value} {s : State} {pl : Platform} (hpl : pl.magicAccessors = ({} : Platform).magicAccessors) {top : MethodId} (htop : s.methodNamed? (Bundle.initS Bundle.tN) = some top) {X Y : String} {jx : Nat} {bx : ByteArray} {names : List String} (hX : Bundle.fit X = true) (hY : Bundle.fit Y = true) (hn : ∀ n ∈ names, Bundle.fit n = true)
    (d0 : decode bx 0 = .ok (.aload_n 0, 1)) (d1 : decode bx 1 = .ok (.aload_n 1, 1)) (d2 : decode bx 2 = .ok (.invokespecial jx, 3)) (d5 : decode bx 5 = .ok (.return_, 1))
    (h1 : ∀ w ∈ Bundle.passSAtoms X Y jx bx, w.before args s = true) (h2 : ∀ w ∈ Bundle.chainSAtoms Y names, w.before args s = true) :
    ∃ (P1 : PassC) (Ps : List PassC), Ps.length = names.length + 1 ∧ P1.LinksS pl s ∧ (∀ P, P ∈ Ps → P.LinksS pl s) ∧ s.methodNamed? (Bundle.initS X) = some P1.m ∧ P1.sup = firstOf top (Ps.map (·.toPassT)) ∧ PassesOn top (Ps.map (·.toPassT)) := by
  obtain ⟨Q1, Qs, q1, q2, q3, q4, q5, q6⟩ := Bundle.chainS (args := args) hpl htop names Y hY hn h2
  obtain ⟨P, p1, p2, p3⟩ := PassC.ofS_atoms (args := args) hpl (Bundle.fit_spec hX).1 (Bundle.fit_spec hY).2 d0 d1 d2 d5 h1
  refine ⟨P, Q1 :: Qs, by rw [List.length_cons, q1], p1, fun P' hP => ?_, p2, Option.some.inj (p3.symm.trans q4), q5, q6⟩
  rcases List.mem_cons.mp hP with rfl | hP
  · exact q2
  · exact q3 P' hP
end
