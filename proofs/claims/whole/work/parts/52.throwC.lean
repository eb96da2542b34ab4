/-- a word of the start that holds later too -/
def xg : Cond → Bool
  | .declares x => decide ((Cond.declares x) ∈ tables_1)
  | .castable A B => decide ((Cond.castable A B) ∈ tables_1)
  | .laysStatic O f d => decide ((Cond.laysStatic O f d) ∈ tables_1)
  | .isRef (.static O f d) => decide ((Cond.isRef (.static O f d)) ∈ xN) && decide ((Cond.laysStatic O f d) ∈ tables_1)
  | w => (w.onTables && w.keeps) && decide (w ∈ tables_1)
theorem xg_at {a0 a : Array Value} {s0 U : State} (hx : x0 a0 s0) (h : xK s0 U) : ∀ w : Cond, xg w = true → w.before a U = true := by
  intro w hw
  by_cases hg : ((w.onTables && w.keeps) && decide (w ∈ tables_1)) = true
  · simp only [Bool.and_eq_true] at hg
    exact xw_tab h (by simp [hg.1.1, hg.1.2]) (hx.1 w (of_decide_eq_true hg.2))
  · cases w with
    | declares x => exact xw_dec h (hx.1 _ (of_decide_eq_true hw))
    | castable A B => exact xw_cast h (hx.1 _ (of_decide_eq_true hw))
    | laysStatic O f d => exact xw_lst h (hx.1 _ (of_decide_eq_true hw))
    | isRef t =>
      cases t with
      | static O f d =>
        simp only [xg, Bool.and_eq_true] at hw
        exact xw_ref h (hx.1 _ (of_decide_eq_true hw.2)) (hx.2 _ (of_decide_eq_true hw.1))
      | _ => exact absurd hw hg
    | _ => exact absurd hw hg
theorem xa_ISE : (x_ats "EarleyChart" 70 "java/lang/IllegalStateException" 7 Bundle.six).all xg = true := by decide +kernel
theorem xa_IAE : (x_ats "EarleyChart" 81 "java/lang/IllegalArgumentException" 7 Bundle.six).all xg = true := by decide +kernel
theorem xa_IOE : (x_ats "EarleyChart" 146 "java/lang/IndexOutOfBoundsException" 7 Bundle.six).all xg = true := by decide +kernel
theorem xa_NSE : (x_ats "EarleyChart" 132 "java/util/NoSuchElementException" 13 prog_18_method_4_code).all xg = true := by decide +kernel
