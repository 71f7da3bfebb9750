/-! ### only the tension behind the cut counts -/
/-- what reaF asks behind the numbers -/
def reaC (N : Int32 → Int32) (S : Int32 → Int32 → Int32) (f n c v : Int32) : Int32 := if f + n = N 0 then 0 else if cliD N S (f + n - 1) (lastF S (f + n) c) v = 0 then 5 else if S 2 (f + n - 1) = (if f ≤ 0 then -100009 else S 2 (f - 1)) then 6 else 0
theorem reaF_0 {N : Int32 → Int32} {S W : Int32 → Int32 → Int32} {f n w c v : Int32} (h1 : ¬ n < 1) (h2 : n ≤ N 0 - f) : reaF N S W f n w c v = 0 ↔ c ≤ sumI (S 1) f (f + n) ∧ sumI (S 0) f (f + n) - c ≤ roomF N W w ∧ roomF N W w - N 5 < sumI (S 0) f (f + n) - c ∧ reaC N S f n c v = 0 := by
  unfold reaF reaC
  rw [if_neg h1, if_pos h2]
  by_cases a1 : c ≤ sumI (S 1) f (f + n)
  · rw [if_pos a1]
    by_cases a2 : sumI (S 0) f (f + n) - c ≤ roomF N W w
    · rw [if_pos a2]
      by_cases a3 : roomF N W w - N 5 < sumI (S 0) f (f + n) - c
      · rw [if_pos a3]
        exact ⟨fun q => ⟨a1, a2, a3, q⟩, fun q => q.2.2.2⟩
      · rw [if_neg a3]
        exact ⟨fun q => absurd q (by decide), fun q => absurd q.2.2.1 a3⟩
    · rw [if_neg a2]
      exact ⟨fun q => absurd q (by decide), fun q => absurd q.2.1 a2⟩
  · rw [if_neg a1]
    exact ⟨fun q => absurd q (by decide), fun q => absurd q.1 a1⟩
theorem reaC_t {N : Int32 → Int32} {S : Int32 → Int32 → Int32} {f n c d v : Int32} (h : lastF S (f + n) c = lastF S (f + n) d) : reaC N S f n c v = reaC N S f n d v := by
  unfold reaC
  rw [h]
