/-! THE TEXTS: the Lexer's String constants, outside the side's cells (printed by wip/gen/strs.py) -/
def zsLen : List Nat := [2, 3, 2, 4, 5, 5, 6, 3, 3, 3, 4, 4, 14]
def zsByt : List (List Int32) := [[102, 110], [108, 101, 116], [105, 102], [101, 108, 115, 101], [119, 104, 105, 108, 101], [112, 114, 105, 110, 116], [114, 101, 116, 117, 114, 110], [100, 101, 108], [110, 101, 119], [114, 111, 119], [115, 105, 122, 101], [110, 111, 110, 101], [40, 41, 123, 125, 91, 93, 59, 44, 46, 61, 60, 43, 45, 42]]
def zsIdx : List Nat := [9, 17, 19, 21, 23, 25, 27, 29, 31, 33, 35, 37, 102]
def zsTx : List String := ["fn", "let", "if", "else", "while", "print", "return", "del", "new", "row", "size", "none", "(){}[];,.=<+-*"]
def zStr (D : va_G) : zEx := fun A U H => vk_S 13 zsLen zsByt (D.2 100) (D.2 101) A U H ∧ (∀ i, i < 13 → vk_R "ShapeEngine$Lexer" (zsIdx.getD i 0) (zsTx.getD i "") (D.2 100 i) U) ∧ va_Z "java/lang/String" "COMPACT_STRINGS" "Z" (.int 1) A U H ∧ va_Zq "jdk/internal/util/Preconditions" "SIOOBE_FORMATTER" "Ljava/util/function/BiFunction;" A U H
theorem zStr_ok (D : va_G) : zExOk (zStr D) := by
  refine ⟨fun A u U H hW h => ?_, fun A u U H hv h => ?_, fun A u H H1 hq h => ?_, fun A B u H hAB h => ?_⟩
  · refine ⟨vk_S.moved hW.alike h.1, fun i hi => (h.2.1 i hi).warm hW, va_Z.moved hW.alike h.2.2.1, ?_⟩
    rcases h.2.2.2 with h | ⟨t, h⟩
    · exact Or.inl (va_Z.moved hW.alike h)
    · exact Or.inr ⟨t, va_Z.moved hW.alike h⟩
  · have ha : u.vm.Alike U.vm := by rw [hv]; exact Vm.Alike.refl _
    refine ⟨vk_S.moved ha h.1, fun i hi => (h.2.1 i hi).same hv, va_Z.moved ha h.2.2.1, ?_⟩
    rcases h.2.2.2 with h | ⟨t, h⟩
    · exact Or.inl (va_Z.moved ha h)
    · exact Or.inr ⟨t, va_Z.moved ha h⟩
  · refine ⟨h.1.kept hq, h.2.1, h.2.2.1.kept hq, ?_⟩
    rcases h.2.2.2 with h | ⟨t, h⟩
    · exact Or.inl (h.kept hq)
    · exact Or.inr ⟨t, h.kept hq⟩
  · refine ⟨h.1.narrow hAB, h.2.1, h.2.2.1.narrow hAB, ?_⟩
    rcases h.2.2.2 with h | ⟨t, h⟩
    · exact Or.inl (h.narrow hAB)
    · exact Or.inr ⟨t, h.narrow hAB⟩
