/-! PARSING, eleventh part: the cases of an instruction (printed by wip/gen/ins.py) -/
theorem insC_0 {S a b c x m0 m1 h0 h1 c2 : Nat} {tg : Nat → Nat → Prop} : insC S 0 a b c x m0 m1 h0 h1 tg c2 ↔ (c = 0 ∧ m1 = m0 + 1 ∧ h0 = 0 ∧ h1 = 1) := by
  unfold insC
  simp
theorem insC_1 {S a b c x m0 m1 h0 h1 c2 : Nat} {tg : Nat → Nat → Prop} : insC S 1 a b c x m0 m1 h0 h1 tg c2 ↔ (c = 1 ∧ x = a ∧ a < 536870912 ∧ m1 = m0 + 1 ∧ h1 = h0 + 1 ∧ 1 ≤ h0) := by
  unfold insC
  simp
theorem insC_2 {S a b c x m0 m1 h0 h1 c2 : Nat} {tg : Nat → Nat → Prop} : insC S 2 a b c x m0 m1 h0 h1 tg c2 ↔ (c = 2 ∧ m1 = m0 + 1 ∧ h1 = h0 + 1 ∧ 1 ≤ h0) := by
  unfold insC
  simp
theorem insC_3 {S a b c x m0 m1 h0 h1 c2 : Nat} {tg : Nat → Nat → Prop} : insC S 3 a b c x m0 m1 h0 h1 tg c2 ↔ (c = 3 ∧ x = a ∧ a < 12 ∧ m1 = m0 + 1 ∧ h1 = h0 + 1 ∧ 1 ≤ h0) := by
  unfold insC
  simp
theorem insC_4 {S a b c x m0 m1 h0 h1 c2 : Nat} {tg : Nat → Nat → Prop} : insC S 4 a b c x m0 m1 h0 h1 tg c2 ↔ (c = 4 ∧ x = a ∧ a < 12 ∧ m1 = m0 + 1 ∧ h0 = 2 ∧ h1 = 0) := by
  unfold insC
  simp
theorem insC_5 {S a b c x m0 m1 h0 h1 c2 : Nat} {tg : Nat → Nat → Prop} : insC S 5 a b c x m0 m1 h0 h1 tg c2 ↔ (c = 13 ∧ x = a ∧ a < S ∧ m1 = m0 + 1 ∧ 2 ≤ h0 ∧ h1 = h0) := by
  unfold insC
  simp
theorem insC_6 {S a b c x m0 m1 h0 h1 c2 : Nat} {tg : Nat → Nat → Prop} : insC S 6 a b c x m0 m1 h0 h1 tg c2 ↔ (c = 14 ∧ x = a ∧ a < S ∧ m1 = m0 + 1 ∧ h0 = 3 ∧ h1 = 0) := by
  unfold insC
  simp
theorem insC_7 {S a b c x m0 m1 h0 h1 c2 : Nat} {tg : Nat → Nat → Prop} : insC S 7 a b c x m0 m1 h0 h1 tg c2 ↔ (c = 15 ∧ x = a ∧ a < S ∧ m1 = m0 + 1 ∧ h0 = 2 ∧ h1 = 0) := by
  unfold insC
  simp
theorem insC_8 {S a b c x m0 m1 h0 h1 c2 : Nat} {tg : Nat → Nat → Prop} : insC S 8 a b c x m0 m1 h0 h1 tg c2 ↔ (((b = 43 ∧ c = 7) ∨ (b = 45 ∧ c = 8) ∨ (b = 42 ∧ c = 9)) ∧ x = a ∧ a < S ∧ m1 = m0 + 1 ∧ 3 ≤ h0 ∧ h1 + 1 = h0) := by
  unfold insC
  simp
theorem insC_9 {S a b c x m0 m1 h0 h1 c2 : Nat} {tg : Nat → Nat → Prop} : insC S 9 a b c x m0 m1 h0 h1 tg c2 ↔ (c = 6 ∧ m1 = m0 + 1 ∧ 2 ≤ h0 ∧ h1 = h0) := by
  unfold insC
  simp
theorem insC_10 {S a b c x m0 m1 h0 h1 c2 : Nat} {tg : Nat → Nat → Prop} : insC S 10 a b c x m0 m1 h0 h1 tg c2 ↔ (c = 10 ∧ m1 = m0 + 1 ∧ 3 ≤ h0 ∧ h1 + 1 = h0) := by
  unfold insC
  simp
theorem insC_11 {S a b c x m0 m1 h0 h1 c2 : Nat} {tg : Nat → Nat → Prop} : insC S 11 a b c x m0 m1 h0 h1 tg c2 ↔ (c = 11 ∧ m1 = m0 + 1 ∧ 3 ≤ h0 ∧ h1 + 1 = h0) := by
  unfold insC
  simp
theorem insC_12 {S a b c x m0 m1 h0 h1 c2 : Nat} {tg : Nat → Nat → Prop} : insC S 12 a b c x m0 m1 h0 h1 tg c2 ↔ ((a = 1 ∧ c = 12 ∧ m1 = m0 + 1 ∧ 2 ≤ h0 ∧ h1 = h0) ∨ (a = 0 ∧ c = 2 ∧ c2 = 12 ∧ m1 = m0 + 2 ∧ h1 = h0 + 1 ∧ 1 ≤ h0)) := by
  unfold insC
  simp
theorem insC_13 {S a b c x m0 m1 h0 h1 c2 : Nat} {tg : Nat → Nat → Prop} : insC S 13 a b c x m0 m1 h0 h1 tg c2 ↔ (c = 16 ∧ m1 = m0 + 1 ∧ 2 ≤ h0 ∧ h1 = h0) := by
  unfold insC
  simp
theorem insC_14 {S a b c x m0 m1 h0 h1 c2 : Nat} {tg : Nat → Nat → Prop} : insC S 14 a b c x m0 m1 h0 h1 tg c2 ↔ (c = 19 ∧ m1 = m0 + 1 ∧ 2 ≤ h0 ∧ h1 = h0) := by
  unfold insC
  simp
theorem insC_15 {S a b c x m0 m1 h0 h1 c2 : Nat} {tg : Nat → Nat → Prop} : insC S 15 a b c x m0 m1 h0 h1 tg c2 ↔ (c = 17 ∧ m1 = m0 + 1 ∧ 3 ≤ h0 ∧ h1 + 1 = h0) := by
  unfold insC
  simp
theorem insC_16 {S a b c x m0 m1 h0 h1 c2 : Nat} {tg : Nat → Nat → Prop} : insC S 16 a b c x m0 m1 h0 h1 tg c2 ↔ (c = 18 ∧ m1 = m0 + 1 ∧ h0 = 4 ∧ h1 = 0) := by
  unfold insC
  simp
theorem insC_17 {S a b c x m0 m1 h0 h1 c2 : Nat} {tg : Nat → Nat → Prop} : insC S 17 a b c x m0 m1 h0 h1 tg c2 ↔ (c = 20 ∧ x = a ∧ b ≤ 4 ∧ m1 = m0 + 1 ∧ b + 1 ≤ h0 ∧ h1 + b = h0 + 1) := by
  unfold insC
  simp
theorem insC_18 {S a b c x m0 m1 h0 h1 c2 : Nat} {tg : Nat → Nat → Prop} : insC S 18 a b c x m0 m1 h0 h1 tg c2 ↔ (c = 22 ∧ m1 = m0 + 1 ∧ h0 = 2 ∧ h1 = 0) := by
  unfold insC
  simp
theorem insC_19 {S a b c x m0 m1 h0 h1 c2 : Nat} {tg : Nat → Nat → Prop} : insC S 19 a b c x m0 m1 h0 h1 tg c2 ↔ (c = 21 ∧ m1 = m0 + 1 ∧ h0 = 2 ∧ h1 = 0) := by
  unfold insC
  simp
theorem insC_20 {S a b c x m0 m1 h0 h1 c2 : Nat} {tg : Nat → Nat → Prop} : insC S 20 a b c x m0 m1 h0 h1 tg c2 ↔ (c = 5 ∧ m1 = m0 + 1 ∧ h0 = 2 ∧ h1 = 0) := by
  unfold insC
  simp
theorem insC_21 {S a b c x m0 m1 h0 h1 c2 : Nat} {tg : Nat → Nat → Prop} : insC S 21 a b c x m0 m1 h0 h1 tg c2 ↔ (c = 24 ∧ tg a x ∧ m1 = m0 + 1 ∧ h0 = 2 ∧ h1 = 0) := by
  unfold insC
  simp
theorem insC_22 {S a b c x m0 m1 h0 h1 c2 : Nat} {tg : Nat → Nat → Prop} : insC S 22 a b c x m0 m1 h0 h1 tg c2 ↔ (c = 23 ∧ tg a x ∧ m1 = m0 + 1 ∧ h0 = 0 ∧ h1 = 0) := by
  unfold insC
  simp
theorem insC_23 {S a b c x m0 m1 h0 h1 c2 : Nat} {tg : Nat → Nat → Prop} : insC S 23 a b c x m0 m1 h0 h1 tg c2 ↔ ((c = 2 ∧ c2 = 21 ∧ m1 = m0 + 2 ∧ h0 = 0 ∧ h1 = 0) ∨ (c = 25 ∧ m1 = m0 + 1 ∧ h0 = 0 ∧ h1 = 1000)) := by
  unfold insC
  simp
