/-! No part of a proof of the claim: evidence for REPORT.md, 'TRANSLATOR'.
    In any state whose tables hold no class "[Ljava/lang/StackTraceElement;" the premise (given_1 and narrow_1) is worth 'false'. -/
def zz_gone : String := "[Ljava/lang/StackTraceElement;"
def zz_asks : Jvm.Cond → Bool
  | .and a b => zz_asks a || zz_asks b
  | .not (.castable c _) => c == zz_gone
  | _ => false
theorem zz_leaf {args : Array Value} {s : State} {t : String} (h : s.vm.findClass zz_gone = none) :
    (Jvm.Cond.not (Jvm.Cond.castable zz_gone t)).before args s = false := by
  simp [Cond.before, Cond.holds, Cond.value, h]
theorem zz_falls {args : Array Value} {s : State} (h : s.vm.findClass zz_gone = none) :
    ∀ c : Jvm.Cond, zz_asks c = true → c.before args s = false
  | .and a b, hc => by
    rw [Cond.before_and]
    rcases Bool.or_eq_true_iff.mp (show (zz_asks a || zz_asks b) = true from hc) with h1 | h1
    · rw [zz_falls h a h1, Bool.false_and]
    · rw [zz_falls h b h1, Bool.and_false]
  | .not (.castable c t), hc => by
    have hq : c = zz_gone := eq_of_beq hc
    subst hq
    exact zz_leaf h
theorem zz_premise {args : Array Value} {s : State} (h : s.vm.findClass zz_gone = none) :
    (Jvm.Cond.and given_1 narrow_1).before args s = false :=
  zz_falls h _ (by decide +kernel)
theorem i_vc : Claimed_1_1 ∧ Claimed_1_2 := sorry
