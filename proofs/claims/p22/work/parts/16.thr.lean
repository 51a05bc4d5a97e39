/-! which exception a call throws: 0 none, else the number of the law's own catch -/
def tSetW (v0 : Int32) (v1 : Int32) (v2 : Int32) (v3 : Int32) : Nat := if v0 < 0 ∨ 23 < v0 then 1 else if v1 < -30 ∨ 20 < v1 then 2 else if v2 < 0 ∨ 100 < v2 then 2 else if v3 < -9 ∨ 9 < v3 then 2 else 0
theorem tSetW_0 {v0 : Int32} {v1 : Int32} {v2 : Int32} {v3 : Int32} (ht : tSetW v0 v1 v2 v3 = 0) : ¬ (v0 < 0 ∨ 23 < v0) ∧ ¬ (v1 < -30 ∨ 20 < v1) ∧ ¬ (v2 < 0 ∨ 100 < v2) ∧ ¬ (v3 < -9 ∨ 9 < v3) := by
  unfold tSetW at ht
  obtain ⟨n1, ht⟩ := ite0.mp ht
  obtain ⟨n2, ht⟩ := ite0.mp ht
  obtain ⟨n3, ht⟩ := ite0.mp ht
  obtain ⟨n4, ht⟩ := ite0.mp ht
  exact ⟨n1, n2, n3, n4⟩
theorem tSetW_n {v0 : Int32} {v1 : Int32} {v2 : Int32} {v3 : Int32} (ht : ¬ tSetW v0 v1 v2 v3 = 0) : tSetW v0 v1 v2 v3 = 1 ∨ tSetW v0 v1 v2 v3 = 2 := by
  revert ht
  unfold tSetW
  repeat' split
  all_goals simp
def tPump (v0 : Int32) (v1 : Int32) (np : Nat) : Nat := if v0 < 0 ∨ 19 < v0 then 1 else if v1 < 1 ∨ 9 < v1 then 2 else if 5 ≤ np then 3 else 0
theorem tPump_0 {v0 : Int32} {v1 : Int32} {np : Nat} (ht : tPump v0 v1 np = 0) : ¬ (v0 < 0 ∨ 19 < v0) ∧ ¬ (v1 < 1 ∨ 9 < v1) ∧ ¬ (5 ≤ np) := by
  unfold tPump at ht
  obtain ⟨n1, ht⟩ := ite0.mp ht
  obtain ⟨n2, ht⟩ := ite0.mp ht
  obtain ⟨n3, ht⟩ := ite0.mp ht
  exact ⟨n1, n2, n3⟩
theorem tPump_n {v0 : Int32} {v1 : Int32} {np : Nat} (ht : ¬ tPump v0 v1 np = 0) : tPump v0 v1 np = 1 ∨ tPump v0 v1 np = 2 ∨ tPump v0 v1 np = 3 := by
  revert ht
  unfold tPump
  repeat' split
  all_goals simp
def tRun (v0 : Int32) (np : Nat) : Nat := if v0 < 0 ∨ nI np - 1 < v0 then 1 else 0
theorem tRun_0 {v0 : Int32} {np : Nat} (ht : tRun v0 np = 0) : ¬ (v0 < 0 ∨ nI np - 1 < v0) := by
  unfold tRun at ht
  obtain ⟨n1, ht⟩ := ite0.mp ht
  exact n1
theorem tRun_n {v0 : Int32} {np : Nat} (ht : ¬ tRun v0 np = 0) : tRun v0 np = 1 := by
  revert ht
  unfold tRun
  repeat' split
  all_goals simp
def tFill (v0 : Int32) : Nat := if v0 < 1 ∨ 9999 < v0 then 1 else 0
theorem tFill_0 {v0 : Int32} (ht : tFill v0 = 0) : ¬ (v0 < 1 ∨ 9999 < v0) := by
  unfold tFill at ht
  obtain ⟨n1, ht⟩ := ite0.mp ht
  exact n1
theorem tFill_n {v0 : Int32} (ht : ¬ tFill v0 = 0) : tFill v0 = 1 := by
  revert ht
  unfold tFill
  repeat' split
  all_goals simp
def tGroom (v0 : Int32) (v1 : Int32) : Nat := if v0 < 0 ∨ 19 < v0 then 1 else if v1 < 0 ∨ 19 < v1 then 1 else if v1 < v0 then 2 else 0
theorem tGroom_0 {v0 : Int32} {v1 : Int32} (ht : tGroom v0 v1 = 0) : ¬ (v0 < 0 ∨ 19 < v0) ∧ ¬ (v1 < 0 ∨ 19 < v1) ∧ ¬ (v1 < v0) := by
  unfold tGroom at ht
  obtain ⟨n1, ht⟩ := ite0.mp ht
  obtain ⟨n2, ht⟩ := ite0.mp ht
  obtain ⟨n3, ht⟩ := ite0.mp ht
  exact ⟨n1, n2, n3⟩
theorem tGroom_n {v0 : Int32} {v1 : Int32} (ht : ¬ tGroom v0 v1 = 0) : tGroom v0 v1 = 1 ∨ tGroom v0 v1 = 2 := by
  revert ht
  unfold tGroom
  repeat' split
  all_goals simp
def tJudge (v0 : Int32) (v1 : Int32) : Nat := if v0 < 0 ∨ 4 < v0 then 1 else if v1 < 0 ∨ 4 < v1 then 2 else 0
theorem tJudge_0 {v0 : Int32} {v1 : Int32} (ht : tJudge v0 v1 = 0) : ¬ (v0 < 0 ∨ 4 < v0) ∧ ¬ (v1 < 0 ∨ 4 < v1) := by
  unfold tJudge at ht
  obtain ⟨n1, ht⟩ := ite0.mp ht
  obtain ⟨n2, ht⟩ := ite0.mp ht
  exact ⟨n1, n2⟩
theorem tJudge_n {v0 : Int32} {v1 : Int32} (ht : ¬ tJudge v0 v1 = 0) : tJudge v0 v1 = 1 ∨ tJudge v0 v1 = 2 := by
  revert ht
  unfold tJudge
  repeat' split
  all_goals simp
def tJump (v0 : Int32) (v1 : Int32) (v2 : Int32) (nj : Nat) : Nat := if v0 < 0 ∨ 9 < v0 then 1 else if v1 < 1 ∨ 20 < v1 then 1 else if v2 < 0 ∨ 20 < v2 then 1 else if 30 ≤ nj then 2 else 0
theorem tJump_0 {v0 : Int32} {v1 : Int32} {v2 : Int32} {nj : Nat} (ht : tJump v0 v1 v2 nj = 0) : ¬ (v0 < 0 ∨ 9 < v0) ∧ ¬ (v1 < 1 ∨ 20 < v1) ∧ ¬ (v2 < 0 ∨ 20 < v2) ∧ ¬ (30 ≤ nj) := by
  unfold tJump at ht
  obtain ⟨n1, ht⟩ := ite0.mp ht
  obtain ⟨n2, ht⟩ := ite0.mp ht
  obtain ⟨n3, ht⟩ := ite0.mp ht
  obtain ⟨n4, ht⟩ := ite0.mp ht
  exact ⟨n1, n2, n3, n4⟩
theorem tJump_n {v0 : Int32} {v1 : Int32} {v2 : Int32} {nj : Nat} (ht : ¬ tJump v0 v1 v2 nj = 0) : tJump v0 v1 v2 nj = 1 ∨ tJump v0 v1 v2 nj = 2 := by
  revert ht
  unfold tJump
  repeat' split
  all_goals simp
def tTold (v0 : Int32) (v1 : Int32) (nj : Nat) : Nat := if v0 < 0 ∨ nI nj - 1 < v0 then 1 else if v1 < 0 ∨ 4 < v1 then 1 else 0
theorem tTold_0 {v0 : Int32} {v1 : Int32} {nj : Nat} (ht : tTold v0 v1 nj = 0) : ¬ (v0 < 0 ∨ nI nj - 1 < v0) ∧ ¬ (v1 < 0 ∨ 4 < v1) := by
  unfold tTold at ht
  obtain ⟨n1, ht⟩ := ite0.mp ht
  obtain ⟨n2, ht⟩ := ite0.mp ht
  exact ⟨n1, n2⟩
theorem tTold_n {v0 : Int32} {v1 : Int32} {nj : Nat} (ht : ¬ tTold v0 v1 nj = 0) : tTold v0 v1 nj = 1 := by
  revert ht
  unfold tTold
  repeat' split
  all_goals simp
def tScore (v0 : Int32) : Nat := if v0 < 0 ∨ 9 < v0 then 1 else 0
theorem tScore_0 {v0 : Int32} (ht : tScore v0 = 0) : ¬ (v0 < 0 ∨ 9 < v0) := by
  unfold tScore at ht
  obtain ⟨n1, ht⟩ := ite0.mp ht
  exact n1
theorem tScore_n {v0 : Int32} (ht : ¬ tScore v0 = 0) : tScore v0 = 1 := by
  revert ht
  unfold tScore
  repeat' split
  all_goals simp
def tPart (v0 : Int32) (v1 : Int32) : Nat := if v0 < 0 ∨ 19 < v0 then 1 else if v1 < 0 ∨ 3 < v1 then 1 else 0
theorem tPart_0 {v0 : Int32} {v1 : Int32} (ht : tPart v0 v1 = 0) : ¬ (v0 < 0 ∨ 19 < v0) ∧ ¬ (v1 < 0 ∨ 3 < v1) := by
  unfold tPart at ht
  obtain ⟨n1, ht⟩ := ite0.mp ht
  obtain ⟨n2, ht⟩ := ite0.mp ht
  exact ⟨n1, n2⟩
theorem tPart_n {v0 : Int32} {v1 : Int32} (ht : ¬ tPart v0 v1 = 0) : tPart v0 v1 = 1 := by
  revert ht
  unfold tPart
  repeat' split
  all_goals simp
def tCount (v0 : Int32) : Nat := if v0 < 0 ∨ 10 < v0 then 1 else 0
theorem tCount_0 {v0 : Int32} (ht : tCount v0 = 0) : ¬ (v0 < 0 ∨ 10 < v0) := by
  unfold tCount at ht
  obtain ⟨n1, ht⟩ := ite0.mp ht
  exact n1
theorem tCount_n {v0 : Int32} (ht : ¬ tCount v0 = 0) : tCount v0 = 1 := by
  revert ht
  unfold tCount
  repeat' split
  all_goals simp
def tPass (v0 : Int32) : Nat := if v0 < 1 ∨ 96 < v0 then 1 else 0
theorem tPass_0 {v0 : Int32} (ht : tPass v0 = 0) : ¬ (v0 < 1 ∨ 96 < v0) := by
  unfold tPass at ht
  obtain ⟨n1, ht⟩ := ite0.mp ht
  exact n1
theorem tPass_n {v0 : Int32} (ht : ¬ tPass v0 = 0) : tPass v0 = 1 := by
  revert ht
  unfold tPass
  repeat' split
  all_goals simp
def tEnough (v0 : Int32) (v1 : Int32) : Nat := if v0 < 0 ∨ 19 < v0 then 1 else if v1 < 1 ∨ 300 < v1 then 2 else 0
theorem tEnough_0 {v0 : Int32} {v1 : Int32} (ht : tEnough v0 v1 = 0) : ¬ (v0 < 0 ∨ 19 < v0) ∧ ¬ (v1 < 1 ∨ 300 < v1) := by
  unfold tEnough at ht
  obtain ⟨n1, ht⟩ := ite0.mp ht
  obtain ⟨n2, ht⟩ := ite0.mp ht
  exact ⟨n1, n2⟩
theorem tEnough_n {v0 : Int32} {v1 : Int32} (ht : ¬ tEnough v0 v1 = 0) : tEnough v0 v1 = 1 ∨ tEnough v0 v1 = 2 := by
  revert ht
  unfold tEnough
  repeat' split
  all_goals simp
def tFore (v0 : Int32) (v1 : Int32) : Nat := if v0 < 1 ∨ 96 < v0 then 1 else if ¬ v1 = 4 ∧ ¬ v1 = 7 ∧ ¬ v1 = 8 then 2 else 0
theorem tFore_0 {v0 : Int32} {v1 : Int32} (ht : tFore v0 v1 = 0) : ¬ (v0 < 1 ∨ 96 < v0) ∧ ¬ (¬ v1 = 4 ∧ ¬ v1 = 7 ∧ ¬ v1 = 8) := by
  unfold tFore at ht
  obtain ⟨n1, ht⟩ := ite0.mp ht
  obtain ⟨n2, ht⟩ := ite0.mp ht
  exact ⟨n1, n2⟩
theorem tFore_n {v0 : Int32} {v1 : Int32} (ht : ¬ tFore v0 v1 = 0) : tFore v0 v1 = 1 ∨ tFore v0 v1 = 2 := by
  revert ht
  unfold tFore
  repeat' split
  all_goals simp
def tGate (v0 : Int32) : Nat := if v0 < 0 ∨ 20 < v0 then 1 else 0
theorem tGate_0 {v0 : Int32} (ht : tGate v0 = 0) : ¬ (v0 < 0 ∨ 20 < v0) := by
  unfold tGate at ht
  obtain ⟨n1, ht⟩ := ite0.mp ht
  exact n1
theorem tGate_n {v0 : Int32} (ht : ¬ tGate v0 = 0) : tGate v0 = 1 := by
  revert ht
  unfold tGate
  repeat' split
  all_goals simp
def tAdvise (v0 : Int32) : Nat := if v0 < 1 ∨ 96 < v0 then 1 else 0
theorem tAdvise_0 {v0 : Int32} (ht : tAdvise v0 = 0) : ¬ (v0 < 1 ∨ 96 < v0) := by
  unfold tAdvise at ht
  obtain ⟨n1, ht⟩ := ite0.mp ht
  exact n1
theorem tAdvise_n {v0 : Int32} (ht : ¬ tAdvise v0 = 0) : tAdvise v0 = 1 := by
  revert ht
  unfold tAdvise
  repeat' split
  all_goals simp
