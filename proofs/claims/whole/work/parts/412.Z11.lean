/-! the start: what the claim gives -/
def NFL : List Cond := flatC narrow_1
def tkT (t : Nat) : Term := .static "SnapWed$Token" (TKN.getD t "") "LSnapWed$Token;"
def tkP : List Nat := [2, 7, 60, 12, 136, 141, 146, 106, 111, 126, 116, 121, 192, 197, 202, 207, 212, 151, 156, 161, 166, 171, 176, 217, 222, 227, 232, 131, 237, 242, 247, 252, 257, 262, 267, 272, 277, 282]
def lsP : List Nat := [41, 462, 484, 464, 608, 613, 615, 511, 513, 575, 545, 564, 1817, 1818, 1819, 1820, 1821, 632, 634, 636, 638, 640, 642, 1822, 1823, 1824, 1825, 606, 1826, 1827, 1828, 1829, 1830, 1831, 1832, 1833, 1834, 1835]
theorem tk_all : (List.range 38).all (fun t => decide (NFL[tkP.getD t 0]? = some (.exactly (tkT t) "SnapWed$Token")) && (decide (NFL[tkP.getD t 0 + 1]? = some (.eq (.field (tkT t) "java/lang/Enum" "ordinal" "I") (.int (nI t)))) && (decide (NFL[tkP.getD t 0 + 2]? = some (.eq (.field (tkT t) "SnapWed$Token" "letters" "J") (.long (TKL.getD t 0)))) && (decide (NFL[tkP.getD t 0 + 3]? = some (.eq (.field (tkT t) "SnapWed$Token" "role" "I") (.int (TKR.getD t 0)))) && (decide (NFL[tkP.getD t 0 + 4]? = some (.eq (.field (tkT t) "SnapWed$Token" "meaning" "I") (.int (TKM.getD t 0)))) && decide (tables_1[lsP.getD t 0]? = some (.laysStatic "SnapWed$Token" (TKN.getD t "") "LSnapWed$Token;"))))))) = true := by decide +kernel
theorem ta_all : (List.range 38).all (fun t => decide (NFL[22 + t]? = some (.eq (.elem (.static "SnapWed$Token" "ALL" "[LSnapWed$Token;") (.int (nI t))) (tkT t)))) = true := by decide +kernel
theorem sw_all : (List.range 38).all (fun t => decide (NFL[68 + t]? = some (.eq (.elem (.static "SnapWed$1" "$SwitchMap$SnapWed$Token" "[I") (.int (nI t))) (.int (SWM.getD t 0))))) = true := by decide +kernel
theorem pa_all : (List.range 6).all (fun t => decide (NFL[184 + t]? = some (.eq (.elem (.static "SnapWed" "PAIRS_OF" "[I") (.int (nI t))) (.int (PAIRS.getD t 0))))) = true := by decide +kernel
theorem eq_ref {args : Array Value} {s : State} {t u : Term} {a : Nat} (h : (Cond.eq t u).before args s = true) (h2 : u.eval args s none [] s = some (.ref a)) : t.eval args s none [] s = some (.ref a) := by
  cases hv : t.eval args s none [] s with
  | none => simp [Cond.before, Cond.holds, Cond.value, hv] at h
  | some w =>
    simp only [Cond.before, Cond.holds, Cond.value, hv, h2] at h
    cases w <;> simp_all
section
variable {b : Nat} {s : State} {A : Nat → Prop}
theorem nf_at (hgv : (Jvm.Cond.and given_1 narrow_1).before #[Value.ref b] s = true) {w : Cond} {i : Nat} (h : NFL[i]? = some w) : w.before #[Value.ref b] s = true := by
  rw [Cond.before_and, Bool.and_eq_true] at hgv
  exact flat_of_before narrow_1 hgv.2 w (List.mem_of_getElem? h)
theorem tb_at (hts : ∀ w ∈ lw_tbl, w.before #[Value.ref b] s = true) {w : Cond} {i : Nat} (h : tables_1[i]? = some w) : w.before #[Value.ref b] s = true := hts w (List.mem_append_right _ (List.mem_of_getElem? h))
theorem tok_start (hgv : (Jvm.Cond.and given_1 narrow_1).before #[Value.ref b] s = true) (hts : ∀ w ∈ lw_tbl, w.before #[Value.ref b] s = true) (hini : (Cond.initialized "SnapWed$Token").before #[Value.ref b] s = true) (hA : ∀ a : Nat, a < s.heap.size → ¬ A a) {t : Nat} (ht : t < 38) :
    ∃ a, (tkT t).eval #[Value.ref b] s none [] s = some (.ref a) ∧ va_O "SnapWed$Token" a A s s.heap ∧ (∀ k, k < 4 → va_OF (tkX.getD k ("", "", "")).1 (tkX.getD k ("", "", "")).2.1 (tkX.getD k ("", "", "")).2.2 (tkF k t) a A s s.heap) ∧ va_Z "SnapWed$Token" (TKN.getD t "") "LSnapWed$Token;" (.ref a) A s s.heap := by
  have h := List.all_eq_true.mp tk_all t (List.mem_range.mpr ht)
  simp only [Bool.and_eq_true, decide_eq_true_eq] at h
  obtain ⟨h1, h2, h3, h4, h5, h6⟩ := h
  have w1 := nf_at hgv h1
  obtain ⟨a, c, cell, k, q1, -⟩ := Cond.exactly_spec (args := #[Value.ref b]) (first := s) (o := none) (s := s) (idx := []) w1
  refine ⟨a, q1, va_Oof w1 q1 hA, fun k hk => ?_, va_Zof (tb_at hts h6) hini q1 hA⟩
  match k, hk with
  | 0, _ => exact vk_OFof q1 (va_eqtl (nf_at hgv h3)) hA
  | 1, _ => exact vk_OFof q1 (va_eqt (nf_at hgv h4)) hA
  | 2, _ => exact vk_OFof q1 (va_eqt (nf_at hgv h5)) hA
  | 3, _ => exact vk_OFof q1 (va_eqt (nf_at hgv h2)) hA
theorem tok_ne {t u a : Nat} (ht : t < 38) (hu : u < 38) (h1 : va_OF "java/lang/Enum" "ordinal" "I" (.int (nI t)) a A s s.heap) (h2 : va_OF "java/lang/Enum" "ordinal" "I" (.int (nI u)) a A s s.heap) : t = u := by
  obtain ⟨cf, k, i, f, cell, q1, q2, q3, q4, q5, q6⟩ := h1
  obtain ⟨cf', k', i', f', cell', r1, r2, r3, r4, r5, r6⟩ := h2
  cases q1.symm.trans r1
  cases q3.symm.trans r3
  have e := Value.int.inj (Option.some.inj (q5.symm.trans r5))
  exact (nI_eq (by omega) (by omega)).mp e
end
