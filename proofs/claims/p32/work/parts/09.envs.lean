theorem ifs {c : Prop} [Decidable c] {α : Type} {a x : α} {b : Option α} (h : (if c then some a else b) = some x) : (c ∧ a = x) ∨ b = some x := by
  by_cases hc : c
  · rw [if_pos hc] at h
    exact Or.inl ⟨hc, Option.some.inj h⟩
  · rw [if_neg hc] at h
    exact Or.inr h
theorem envX0 : EnvOK RX0 flX0 sgX0 kcX0 := by
  refine ⟨?_, ?_, ?_⟩
  · intro i ci k h
    unfold flX0 at h
    rcases ifs h with ⟨rfl, h1⟩ | h
    · cases h1
      exact foX0_11
    rcases ifs h with ⟨rfl, h1⟩ | h
    · cases h1
      exact foX0_17
    cases h
  · intro i j h
    unfold sgX0 at h
    cases h
  · intro i v h
    unfold kcX0 at h
    cases h
theorem envX1 : EnvOK RX1 flX1 sgX1 kcX1 := by
  refine ⟨?_, ?_, ?_⟩
  · intro i ci k h
    unfold flX1 at h
    rcases ifs h with ⟨rfl, h1⟩ | h
    · cases h1
      exact foX1_12
    rcases ifs h with ⟨rfl, h1⟩ | h
    · cases h1
      exact foX1_18
    rcases ifs h with ⟨rfl, h1⟩ | h
    · cases h1
      exact foX1_22
    cases h
  · intro i j h
    unfold sgX1 at h
    cases h
  · intro i v h
    unfold kcX1 at h
    cases h
theorem envX2 : EnvOK RX2 flX2 sgX2 kcX2 := by
  refine ⟨?_, ?_, ?_⟩
  · intro i ci k h
    unfold flX2 at h
    rcases ifs h with ⟨rfl, h1⟩ | h
    · cases h1
      exact foX2_9
    rcases ifs h with ⟨rfl, h1⟩ | h
    · cases h1
      exact foX2_17
    rcases ifs h with ⟨rfl, h1⟩ | h
    · cases h1
      exact foX2_20
    cases h
  · intro i j h
    unfold sgX2 at h
    cases h
  · intro i v h
    unfold kcX2 at h
    rcases ifs h with ⟨rfl, h1⟩ | h
    · cases h1
      exact mg 35 (by decide +kernel) (by decide +kernel)
    cases h
theorem envX3 : EnvOK RX3 flX3 sgX3 kcX3 := by
  refine ⟨?_, ?_, ?_⟩
  · intro i ci k h
    unfold flX3 at h
    rcases ifs h with ⟨rfl, h1⟩ | h
    · cases h1
      exact foX3_11
    rcases ifs h with ⟨rfl, h1⟩ | h
    · cases h1
      exact foX3_16
    rcases ifs h with ⟨rfl, h1⟩ | h
    · cases h1
      exact foX3_19
    rcases ifs h with ⟨rfl, h1⟩ | h
    · cases h1
      exact foX3_22
    rcases ifs h with ⟨rfl, h1⟩ | h
    · cases h1
      exact foX3_25
    rcases ifs h with ⟨rfl, h1⟩ | h
    · cases h1
      exact foX3_29
    cases h
  · intro i j h
    unfold sgX3 at h
    cases h
  · intro i v h
    unfold kcX3 at h
    cases h
theorem envX4 : EnvOK RX4 flX4 sgX4 kcX4 := by
  refine ⟨?_, ?_, ?_⟩
  · intro i ci k h
    unfold flX4 at h
    rcases ifs h with ⟨rfl, h1⟩ | h
    · cases h1
      exact foX4_9
    rcases ifs h with ⟨rfl, h1⟩ | h
    · cases h1
      exact foX4_17
    rcases ifs h with ⟨rfl, h1⟩ | h
    · cases h1
      exact foX4_20
    rcases ifs h with ⟨rfl, h1⟩ | h
    · cases h1
      exact foX4_24
    rcases ifs h with ⟨rfl, h1⟩ | h
    · cases h1
      exact foX4_27
    cases h
  · intro i j h
    unfold sgX4 at h
    cases h
  · intro i v h
    unfold kcX4 at h
    cases h
theorem envX5 : EnvOK RX5 flX5 sgX5 kcX5 := by
  refine ⟨?_, ?_, ?_⟩
  · intro i ci k h
    unfold flX5 at h
    rcases ifs h with ⟨rfl, h1⟩ | h
    · cases h1
      exact foX5_10
    rcases ifs h with ⟨rfl, h1⟩ | h
    · cases h1
      exact foX5_19
    rcases ifs h with ⟨rfl, h1⟩ | h
    · cases h1
      exact foX5_26
    rcases ifs h with ⟨rfl, h1⟩ | h
    · cases h1
      exact foX5_33
    rcases ifs h with ⟨rfl, h1⟩ | h
    · cases h1
      exact foX5_37
    rcases ifs h with ⟨rfl, h1⟩ | h
    · cases h1
      exact foX5_41
    rcases ifs h with ⟨rfl, h1⟩ | h
    · cases h1
      exact foX5_78
    rcases ifs h with ⟨rfl, h1⟩ | h
    · cases h1
      exact foX5_92
    rcases ifs h with ⟨rfl, h1⟩ | h
    · cases h1
      exact foX5_125
    rcases ifs h with ⟨rfl, h1⟩ | h
    · cases h1
      exact foX5_133
    rcases ifs h with ⟨rfl, h1⟩ | h
    · cases h1
      exact foX5_137
    rcases ifs h with ⟨rfl, h1⟩ | h
    · cases h1
      exact foX5_144
    cases h
  · intro i j h
    unfold sgX5 at h
    rcases ifs h with ⟨rfl, h1⟩ | h
    · cases h1
      exact mg 155 (by decide +kernel) (by decide +kernel)
    rcases ifs h with ⟨rfl, h1⟩ | h
    · cases h1
      exact mg 157 (by decide +kernel) (by decide +kernel)
    rcases ifs h with ⟨rfl, h1⟩ | h
    · cases h1
      exact mg 224 (by decide +kernel) (by decide +kernel)
    rcases ifs h with ⟨rfl, h1⟩ | h
    · cases h1
      exact mg 226 (by decide +kernel) (by decide +kernel)
    cases h
  · intro i v h
    unfold kcX5 at h
    rcases ifs h with ⟨rfl, h1⟩ | h
    · cases h1
      exact mg 159 (by decide +kernel) (by decide +kernel)
    rcases ifs h with ⟨rfl, h1⟩ | h
    · cases h1
      exact mg 164 (by decide +kernel) (by decide +kernel)
    rcases ifs h with ⟨rfl, h1⟩ | h
    · cases h1
      exact mg 165 (by decide +kernel) (by decide +kernel)
    rcases ifs h with ⟨rfl, h1⟩ | h
    · cases h1
      exact mg 314 (by decide +kernel) (by decide +kernel)
    cases h
theorem envL : EnvOK RL flL sgL kcL := by
  refine ⟨?_, ?_, ?_⟩
  · intro i ci k h
    unfold flL at h
    cases h
  · intro i j h
    unfold sgL at h
    cases h
  · intro i v h
    unfold kcL at h
    rcases ifs h with ⟨rfl, h1⟩ | h
    · cases h1
      exact mg 284 (by decide +kernel) (by decide +kernel)
    rcases ifs h with ⟨rfl, h1⟩ | h
    · cases h1
      exact mg 285 (by decide +kernel) (by decide +kernel)
    rcases ifs h with ⟨rfl, h1⟩ | h
    · cases h1
      exact mg 301 (by decide +kernel) (by decide +kernel)
    rcases ifs h with ⟨rfl, h1⟩ | h
    · cases h1
      exact mg 348 (by decide +kernel) (by decide +kernel)
    rcases ifs h with ⟨rfl, h1⟩ | h
    · cases h1
      exact mg 362 (by decide +kernel) (by decide +kernel)
    rcases ifs h with ⟨rfl, h1⟩ | h
    · cases h1
      exact mg 402 (by decide +kernel) (by decide +kernel)
    cases h
