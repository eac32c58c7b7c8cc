/-! PARSING, sixth part: the code on both sides -/
/-- one instruction of the reference (o, a, b) and the class's (c, x), the places m0, m1 in the class's code, the heights h0, h1 of the stack ahead of it and behind it; S sites; tg: where a jump may go, T2: the class's next instruction -/
def insC (S o a b c x m0 m1 h0 h1 : Nat) (tg : Nat → Nat → Prop) (c2 : Nat) : Prop :=
  (o = 0 ∧ c = 0 ∧ m1 = m0 + 1 ∧ h0 = 0 ∧ h1 = 1) ∨
  (o = 1 ∧ c = 1 ∧ x = a ∧ a < 536870912 ∧ m1 = m0 + 1 ∧ h1 = h0 + 1 ∧ 1 ≤ h0) ∨
  (o = 2 ∧ c = 2 ∧ m1 = m0 + 1 ∧ h1 = h0 + 1 ∧ 1 ≤ h0) ∨
  (o = 3 ∧ c = 3 ∧ x = a ∧ a < 12 ∧ m1 = m0 + 1 ∧ h1 = h0 + 1 ∧ 1 ≤ h0) ∨
  (o = 4 ∧ c = 4 ∧ x = a ∧ a < 12 ∧ m1 = m0 + 1 ∧ h0 = 2 ∧ h1 = 0) ∨
  (o = 5 ∧ c = 13 ∧ x = a ∧ a < S ∧ m1 = m0 + 1 ∧ 2 ≤ h0 ∧ h1 = h0) ∨
  (o = 6 ∧ c = 14 ∧ x = a ∧ a < S ∧ m1 = m0 + 1 ∧ h0 = 3 ∧ h1 = 0) ∨
  (o = 7 ∧ c = 15 ∧ x = a ∧ a < S ∧ m1 = m0 + 1 ∧ h0 = 2 ∧ h1 = 0) ∨
  (o = 8 ∧ ((b = 43 ∧ c = 7) ∨ (b = 45 ∧ c = 8) ∨ (b = 42 ∧ c = 9)) ∧ x = a ∧ a < S ∧ m1 = m0 + 1 ∧ 3 ≤ h0 ∧ h1 + 1 = h0) ∨
  (o = 9 ∧ c = 6 ∧ m1 = m0 + 1 ∧ 2 ≤ h0 ∧ h1 = h0) ∨
  ((o = 10 ∨ o = 11) ∧ c = o ∧ m1 = m0 + 1 ∧ 3 ≤ h0 ∧ h1 + 1 = h0) ∨
  (o = 12 ∧ a = 1 ∧ c = 12 ∧ m1 = m0 + 1 ∧ 2 ≤ h0 ∧ h1 = h0) ∨
  (o = 12 ∧ a = 0 ∧ c = 2 ∧ c2 = 12 ∧ m1 = m0 + 2 ∧ h1 = h0 + 1 ∧ 1 ≤ h0) ∨
  (o = 13 ∧ c = 16 ∧ m1 = m0 + 1 ∧ 2 ≤ h0 ∧ h1 = h0) ∨
  (o = 14 ∧ c = 19 ∧ m1 = m0 + 1 ∧ 2 ≤ h0 ∧ h1 = h0) ∨
  (o = 15 ∧ c = 17 ∧ m1 = m0 + 1 ∧ 3 ≤ h0 ∧ h1 + 1 = h0) ∨
  (o = 16 ∧ c = 18 ∧ m1 = m0 + 1 ∧ h0 = 4 ∧ h1 = 0) ∨
  (o = 17 ∧ c = 20 ∧ x = a ∧ b ≤ 4 ∧ m1 = m0 + 1 ∧ b + 1 ≤ h0 ∧ h1 + b = h0 + 1) ∨
  (o = 18 ∧ c = 22 ∧ m1 = m0 + 1 ∧ h0 = 2 ∧ h1 = 0) ∨
  (o = 19 ∧ c = 21 ∧ m1 = m0 + 1 ∧ h0 = 2 ∧ h1 = 0) ∨
  (o = 20 ∧ c = 5 ∧ m1 = m0 + 1 ∧ h0 = 2 ∧ h1 = 0) ∨
  (o = 21 ∧ c = 24 ∧ tg a x ∧ m1 = m0 + 1 ∧ h0 = 2 ∧ h1 = 0) ∨
  (o = 22 ∧ c = 23 ∧ tg a x ∧ m1 = m0 + 1 ∧ h0 = 0 ∧ h1 = 0) ∨
  (o = 23 ∧ c = 2 ∧ c2 = 21 ∧ m1 = m0 + 2 ∧ h0 = 0 ∧ h1 = 0) ∨
  (o = 23 ∧ c = 25 ∧ m1 = m0 + 1 ∧ h0 = 0 ∧ h1 = 1000)
theorem insC_mono {S o a b c x m0 m1 h0 h1 c2 : Nat} {tg tg' : Nat → Nat → Prop} (h : insC S o a b c x m0 m1 h0 h1 tg c2) (k : tg a x → tg' a x) : insC S o a b c x m0 m1 h0 h1 tg' c2 := by
  unfold insC at h ⊢
  rcases h with q | q | q | q | q | q | q | q | q | q | q | q | q | q | q | q | q | q | q | q | q | q | q | q | q
  · exact Or.inl (q)
  · exact Or.inr (Or.inl (q))
  · exact Or.inr (Or.inr (Or.inl (q)))
  · exact Or.inr (Or.inr (Or.inr (Or.inl (q))))
  · exact Or.inr (Or.inr (Or.inr (Or.inr (Or.inl (q)))))
  · exact Or.inr (Or.inr (Or.inr (Or.inr (Or.inr (Or.inl (q))))))
  · exact Or.inr (Or.inr (Or.inr (Or.inr (Or.inr (Or.inr (Or.inl (q)))))))
  · exact Or.inr (Or.inr (Or.inr (Or.inr (Or.inr (Or.inr (Or.inr (Or.inl (q))))))))
  · exact Or.inr (Or.inr (Or.inr (Or.inr (Or.inr (Or.inr (Or.inr (Or.inr (Or.inl (q)))))))))
  · exact Or.inr (Or.inr (Or.inr (Or.inr (Or.inr (Or.inr (Or.inr (Or.inr (Or.inr (Or.inl (q))))))))))
  · exact Or.inr (Or.inr (Or.inr (Or.inr (Or.inr (Or.inr (Or.inr (Or.inr (Or.inr (Or.inr (Or.inl (q)))))))))))
  · exact Or.inr (Or.inr (Or.inr (Or.inr (Or.inr (Or.inr (Or.inr (Or.inr (Or.inr (Or.inr (Or.inr (Or.inl (q))))))))))))
  · exact Or.inr (Or.inr (Or.inr (Or.inr (Or.inr (Or.inr (Or.inr (Or.inr (Or.inr (Or.inr (Or.inr (Or.inr (Or.inl (q)))))))))))))
  · exact Or.inr (Or.inr (Or.inr (Or.inr (Or.inr (Or.inr (Or.inr (Or.inr (Or.inr (Or.inr (Or.inr (Or.inr (Or.inr (Or.inl (q))))))))))))))
  · exact Or.inr (Or.inr (Or.inr (Or.inr (Or.inr (Or.inr (Or.inr (Or.inr (Or.inr (Or.inr (Or.inr (Or.inr (Or.inr (Or.inr (Or.inl (q)))))))))))))))
  · exact Or.inr (Or.inr (Or.inr (Or.inr (Or.inr (Or.inr (Or.inr (Or.inr (Or.inr (Or.inr (Or.inr (Or.inr (Or.inr (Or.inr (Or.inr (Or.inl (q))))))))))))))))
  · exact Or.inr (Or.inr (Or.inr (Or.inr (Or.inr (Or.inr (Or.inr (Or.inr (Or.inr (Or.inr (Or.inr (Or.inr (Or.inr (Or.inr (Or.inr (Or.inr (Or.inl (q)))))))))))))))))
  · exact Or.inr (Or.inr (Or.inr (Or.inr (Or.inr (Or.inr (Or.inr (Or.inr (Or.inr (Or.inr (Or.inr (Or.inr (Or.inr (Or.inr (Or.inr (Or.inr (Or.inr (Or.inl (q))))))))))))))))))
  · exact Or.inr (Or.inr (Or.inr (Or.inr (Or.inr (Or.inr (Or.inr (Or.inr (Or.inr (Or.inr (Or.inr (Or.inr (Or.inr (Or.inr (Or.inr (Or.inr (Or.inr (Or.inr (Or.inl (q)))))))))))))))))))
  · exact Or.inr (Or.inr (Or.inr (Or.inr (Or.inr (Or.inr (Or.inr (Or.inr (Or.inr (Or.inr (Or.inr (Or.inr (Or.inr (Or.inr (Or.inr (Or.inr (Or.inr (Or.inr (Or.inr (Or.inl (q))))))))))))))))))))
  · exact Or.inr (Or.inr (Or.inr (Or.inr (Or.inr (Or.inr (Or.inr (Or.inr (Or.inr (Or.inr (Or.inr (Or.inr (Or.inr (Or.inr (Or.inr (Or.inr (Or.inr (Or.inr (Or.inr (Or.inr (Or.inl (q)))))))))))))))))))))
  · exact Or.inr (Or.inr (Or.inr (Or.inr (Or.inr (Or.inr (Or.inr (Or.inr (Or.inr (Or.inr (Or.inr (Or.inr (Or.inr (Or.inr (Or.inr (Or.inr (Or.inr (Or.inr (Or.inr (Or.inr (Or.inr (Or.inl (⟨q.1, q.2.1, k q.2.2.1, q.2.2.2⟩))))))))))))))))))))))
  · exact Or.inr (Or.inr (Or.inr (Or.inr (Or.inr (Or.inr (Or.inr (Or.inr (Or.inr (Or.inr (Or.inr (Or.inr (Or.inr (Or.inr (Or.inr (Or.inr (Or.inr (Or.inr (Or.inr (Or.inr (Or.inr (Or.inr (Or.inl (⟨q.1, q.2.1, k q.2.2.1, q.2.2.2⟩)))))))))))))))))))))))
  · exact Or.inr (Or.inr (Or.inr (Or.inr (Or.inr (Or.inr (Or.inr (Or.inr (Or.inr (Or.inr (Or.inr (Or.inr (Or.inr (Or.inr (Or.inr (Or.inr (Or.inr (Or.inr (Or.inr (Or.inr (Or.inr (Or.inr (Or.inr (Or.inl (q))))))))))))))))))))))))
  · exact Or.inr (Or.inr (Or.inr (Or.inr (Or.inr (Or.inr (Or.inr (Or.inr (Or.inr (Or.inr (Or.inr (Or.inr (Or.inr (Or.inr (Or.inr (Or.inr (Or.inr (Or.inr (Or.inr (Or.inr (Or.inr (Or.inr (Or.inr (Or.inr ((q)))))))))))))))))))))))))
theorem insC_c2 {S o a b c x m0 m1 h0 h1 c2 c2' : Nat} {tg : Nat → Nat → Prop} (h : insC S o a b c x m0 m1 h0 h1 tg c2) (k : m1 = m0 + 2 → c2' = c2) : insC S o a b c x m0 m1 h0 h1 tg c2' := by
  unfold insC at h ⊢
  rcases h with q | q | q | q | q | q | q | q | q | q | q | q | q | q | q | q | q | q | q | q | q | q | q | q | q
  · exact Or.inl (q)
  · exact Or.inr (Or.inl (q))
  · exact Or.inr (Or.inr (Or.inl (q)))
  · exact Or.inr (Or.inr (Or.inr (Or.inl (q))))
  · exact Or.inr (Or.inr (Or.inr (Or.inr (Or.inl (q)))))
  · exact Or.inr (Or.inr (Or.inr (Or.inr (Or.inr (Or.inl (q))))))
  · exact Or.inr (Or.inr (Or.inr (Or.inr (Or.inr (Or.inr (Or.inl (q)))))))
  · exact Or.inr (Or.inr (Or.inr (Or.inr (Or.inr (Or.inr (Or.inr (Or.inl (q))))))))
  · exact Or.inr (Or.inr (Or.inr (Or.inr (Or.inr (Or.inr (Or.inr (Or.inr (Or.inl (q)))))))))
  · exact Or.inr (Or.inr (Or.inr (Or.inr (Or.inr (Or.inr (Or.inr (Or.inr (Or.inr (Or.inl (q))))))))))
  · exact Or.inr (Or.inr (Or.inr (Or.inr (Or.inr (Or.inr (Or.inr (Or.inr (Or.inr (Or.inr (Or.inl (q)))))))))))
  · exact Or.inr (Or.inr (Or.inr (Or.inr (Or.inr (Or.inr (Or.inr (Or.inr (Or.inr (Or.inr (Or.inr (Or.inl (q))))))))))))
  · exact Or.inr (Or.inr (Or.inr (Or.inr (Or.inr (Or.inr (Or.inr (Or.inr (Or.inr (Or.inr (Or.inr (Or.inr (Or.inl (⟨q.1, q.2.1, q.2.2.1, (k q.2.2.2.2.1).trans q.2.2.2.1, q.2.2.2.2⟩)))))))))))))
  · exact Or.inr (Or.inr (Or.inr (Or.inr (Or.inr (Or.inr (Or.inr (Or.inr (Or.inr (Or.inr (Or.inr (Or.inr (Or.inr (Or.inl (q))))))))))))))
  · exact Or.inr (Or.inr (Or.inr (Or.inr (Or.inr (Or.inr (Or.inr (Or.inr (Or.inr (Or.inr (Or.inr (Or.inr (Or.inr (Or.inr (Or.inl (q)))))))))))))))
  · exact Or.inr (Or.inr (Or.inr (Or.inr (Or.inr (Or.inr (Or.inr (Or.inr (Or.inr (Or.inr (Or.inr (Or.inr (Or.inr (Or.inr (Or.inr (Or.inl (q))))))))))))))))
  · exact Or.inr (Or.inr (Or.inr (Or.inr (Or.inr (Or.inr (Or.inr (Or.inr (Or.inr (Or.inr (Or.inr (Or.inr (Or.inr (Or.inr (Or.inr (Or.inr (Or.inl (q)))))))))))))))))
  · exact Or.inr (Or.inr (Or.inr (Or.inr (Or.inr (Or.inr (Or.inr (Or.inr (Or.inr (Or.inr (Or.inr (Or.inr (Or.inr (Or.inr (Or.inr (Or.inr (Or.inr (Or.inl (q))))))))))))))))))
  · exact Or.inr (Or.inr (Or.inr (Or.inr (Or.inr (Or.inr (Or.inr (Or.inr (Or.inr (Or.inr (Or.inr (Or.inr (Or.inr (Or.inr (Or.inr (Or.inr (Or.inr (Or.inr (Or.inl (q)))))))))))))))))))
  · exact Or.inr (Or.inr (Or.inr (Or.inr (Or.inr (Or.inr (Or.inr (Or.inr (Or.inr (Or.inr (Or.inr (Or.inr (Or.inr (Or.inr (Or.inr (Or.inr (Or.inr (Or.inr (Or.inr (Or.inl (q))))))))))))))))))))
  · exact Or.inr (Or.inr (Or.inr (Or.inr (Or.inr (Or.inr (Or.inr (Or.inr (Or.inr (Or.inr (Or.inr (Or.inr (Or.inr (Or.inr (Or.inr (Or.inr (Or.inr (Or.inr (Or.inr (Or.inr (Or.inl (q)))))))))))))))))))))
  · exact Or.inr (Or.inr (Or.inr (Or.inr (Or.inr (Or.inr (Or.inr (Or.inr (Or.inr (Or.inr (Or.inr (Or.inr (Or.inr (Or.inr (Or.inr (Or.inr (Or.inr (Or.inr (Or.inr (Or.inr (Or.inr (Or.inl (q))))))))))))))))))))))
  · exact Or.inr (Or.inr (Or.inr (Or.inr (Or.inr (Or.inr (Or.inr (Or.inr (Or.inr (Or.inr (Or.inr (Or.inr (Or.inr (Or.inr (Or.inr (Or.inr (Or.inr (Or.inr (Or.inr (Or.inr (Or.inr (Or.inr (Or.inl (q)))))))))))))))))))))))
  · exact Or.inr (Or.inr (Or.inr (Or.inr (Or.inr (Or.inr (Or.inr (Or.inr (Or.inr (Or.inr (Or.inr (Or.inr (Or.inr (Or.inr (Or.inr (Or.inr (Or.inr (Or.inr (Or.inr (Or.inr (Or.inr (Or.inr (Or.inr (Or.inl (⟨q.1, q.2.1, (k q.2.2.2.1).trans q.2.2.1, q.2.2.2⟩))))))))))))))))))))))))
  · exact Or.inr (Or.inr (Or.inr (Or.inr (Or.inr (Or.inr (Or.inr (Or.inr (Or.inr (Or.inr (Or.inr (Or.inr (Or.inr (Or.inr (Or.inr (Or.inr (Or.inr (Or.inr (Or.inr (Or.inr (Or.inr (Or.inr (Or.inr (Or.inr ((q)))))))))))))))))))))))))
/-- whose place a failure tells -/
def plc (o : Nat) : Prop := o = 5 ∨ o = 6 ∨ o = 7 ∨ o = 8 ∨ o = 9 ∨ o = 10 ∨ o = 13 ∨ o = 14 ∨ o = 15 ∨ o = 16 ∨ o = 17 ∨ o = 21
/-- where jump r may go: ahead, back to a step, or nowhere yet -/
def jT (tb : Nat) (M ht : Nat → Nat) (u : zMu) (r a x : Nat) : Prop := a ≤ tb ∧ x = M a ∧ ht a = 0 ∧ 0 < r ∧ (r < a ∨ (a < r ∧ zI u 10 a = nI 0) ∨ a = 0)
/-- instruction r of the reference, and the class's at M r -/
def pIns (p S tb : Nat) (M ht : Nat → Nat) (ur uc : zMu) (r : Nat) : Prop :=
  ∃ o a b c x c2 w, zI ur 10 r = nI o ∧ zI ur 11 r = nI a ∧ zI ur 12 r = nI b ∧ zI ur 13 r = nI w ∧ w ≤ 1500 ∧ zI uc (p + 1) (M r) = nI c ∧ zI uc (p + 2) (M r) = nI x ∧ (M (r + 1) = M r + 2 → zI uc (p + 1) (M r + 1) = nI c2 ∧ (o = 12 → zI uc (p + 3) (M r + 1) = nI w)) ∧
    (plc o ∨ (o = 12 ∧ a = 1) → zI uc (p + 3) (M r) = nI w) ∧ ht r ≤ 60 ∧ insC S o a b c x (M r) (M (r + 1)) (ht r) (ht (r + 1)) (jT tb M ht ur r) c2
/-- the code so far: cr instructions of the reference, cc of the class; its relation holds while there is no fault -/
def pCo (p S : Nat) (ur uc : zMu) (cr cc tb : Nat) (M ht : Nat → Nat) (ok : Prop) : Prop :=
  zI ur 0 24 = nI cr ∧ zI uc p 3 = nI cc ∧ M 0 = 0 ∧ M cr = cc ∧ (∀ r, r < cr → M r < M (r + 1)) ∧ tb ≤ cr ∧ (ok → ∀ r, r < cr → pIns p S tb M ht ur uc r)
theorem pCo_mono {p S : Nat} {ur uc : zMu} {cr cc tb : Nat} {M ht : Nat → Nat} {ok : Prop} (h : pCo p S ur uc cr cc tb M ht ok) : ∀ r r', r ≤ r' → r' ≤ cr → M r + (r' - r) ≤ M r' := by
  obtain ⟨-, -, -, -, h5, -, -⟩ := h
  intro r r' hr hr'
  induction r' with
  | zero =>
    have e : r = 0 := by omega
    subst e
    omega
  | succ k ih =>
    by_cases e : r = k + 1
    · subst e; omega
    · have := ih (by omega) (by omega)
      have := h5 k (by omega)
      omega
theorem pCo_le {p S : Nat} {ur uc : zMu} {cr cc tb : Nat} {M ht : Nat → Nat} {ok : Prop} (h : pCo p S ur uc cr cc tb M ht ok) : cr ≤ cc := by
  have := pCo_mono h 0 cr (by omega) (by omega)
  have h3 := h.2.2.1
  have h4 := h.2.2.2.1
  omega
theorem emC_keep {u : zMu} {p cc j k : Nat} {o a w : Int32} (hj : j < cc) (hk : k = p + 1 ∨ k = p + 2 ∨ k = p + 3) : zI (emC u p cc o a w) k j = zI u k j := by
  have e : ¬ j = cc := by omega
  have e2 : ¬ k = p := by omega
  simp [emC, gI_sI, e, e2]
theorem emR_keep {u : zMu} {cr j k : Nat} {o a b w : Int32} (hj : j < cr) (hk : k ≠ 0) : zI (emR u cr o a b w) k j = zI u k j := by
  have e : ¬ j = cr := by omega
  simp [emR, gI_sI, e, hk]
/-- both write one instruction -/
theorem pCo_emit {p S : Nat} {ur uc : zMu} {cr cc tb : Nat} {M ht : Nat → Nat} {ok : Prop} (hp : 12 ≤ p) (h : pCo p S ur uc cr cc tb M ht ok) {o a b w c x wc : Nat} (a' : Int32) (x' : Int32) (h1 : Nat) (hw : w ≤ 1500) (hh : ht cr ≤ 60) (ha : ok → a' = nI a) (hx : ok → x' = nI x) (hpl : plc o ∨ (o = 12 ∧ a = 1) → wc = w)
    (hi : ok → insC S o a b c x cc (cc + 1) (ht cr) h1 (jT tb M ht ur cr) 0) :
    pCo p S (emR ur cr (nI o) a' (nI b) (nI w)) (emC uc p cc (nI c) x' (nI wc)) (cr + 1) (cc + 1) tb (fun r => if r = cr + 1 then cc + 1 else M r) (fun r => if r = cr + 1 then h1 else ht r) ok := by
  have hmono := pCo_mono h
  obtain ⟨g1, g2, g3, g4, g5, gt, g6⟩ := h
  refine ⟨rfl, by simp [emC, gI_sI], by simp [g3], by simp, fun r hr => ?_, by omega, fun hok r hr => ?_⟩
  · by_cases e : r = cr
    · subst e
      simp [g4]
    · have e1 : ¬ r = cr + 1 := by omega
      have e2 : ¬ r + 1 = cr + 1 := by omega
      simp only [e1, e2, if_false]
      exact g5 r (by omega)
  · by_cases e : r = cr
    · subst e
      have e1 : ¬ r = r + 1 := by omega
      refine ⟨o, a, b, c, x, 0, w, ?_, ?_, ?_, ?_, hw, ?_, ?_, ?_, ?_, ?_, ?_⟩
      · simp [emR, gI_sI]
      · rw [← ha hok]; simp [emR, gI_sI]
      · simp [emR, gI_sI]
      · simp [emR, gI_sI]
      · simp only [e1, if_false, g4]; simp [emC, gI_sI]
      · simp only [e1, if_false, g4]; rw [← hx hok]; simp [emC, gI_sI]
      · intro q
        simp only [e1, if_false, if_true, g4] at q
        omega
      · intro q
        rw [← hpl q]
        simp only [e1, if_false, g4]
        simp [emC, gI_sI]
      · simp only [e1, if_false]; exact hh
      · simp only [e1, if_false, if_true, g4]
        refine insC_mono (hi hok) (fun q => ?_)
        obtain ⟨q1, q2, q3, q4, q5⟩ := q
        have e3 : ¬ a = r + 1 := by omega
        refine ⟨q1, q2.trans (if_neg e3).symm, (if_neg e3).trans q3, q4, ?_⟩
        rcases q5 with q5 | ⟨q5, q6⟩ | q5
        · exact Or.inl q5
        · exact Or.inr (Or.inl ⟨q5, by rw [emR_keep q5 (by decide)]; exact q6⟩)
        · exact Or.inr (Or.inr q5)
    · have e1 : ¬ r = cr + 1 := by omega
      have e2 : ¬ r + 1 = cr + 1 := by omega
      have hr' : r < cr := by omega
      obtain ⟨o, a, b, c, x, c2, w, i1, i2, i3, i4, i5, i6, i7, i8, i9, i10, i11⟩ := g6 hok r hr'
      have hM : M r < cc := by have := hmono r cr (by omega) (by omega); omega
      have hM2 : M (r + 1) ≤ cc := by have := hmono (r + 1) cr (by omega) (by omega); omega
      refine ⟨o, a, b, c, x, c2, w, ?_, ?_, ?_, ?_, i5, ?_, ?_, ?_, ?_, ?_, ?_⟩
      · rw [emR_keep hr' (by decide)]; exact i1
      · rw [emR_keep hr' (by decide)]; exact i2
      · rw [emR_keep hr' (by decide)]; exact i3
      · rw [emR_keep hr' (by decide)]; exact i4
      · simp only [e1, if_false]; rw [emC_keep hM (by omega)]; exact i6
      · simp only [e1, if_false]; rw [emC_keep hM (by omega)]; exact i7
      · simp only [e1, e2, if_false]
        intro q
        rw [emC_keep (show M r + 1 < cc by omega) (by omega), emC_keep (show M r + 1 < cc by omega) (by omega)]
        exact i8 q
      · simp only [e1, if_false]; rw [emC_keep hM (by omega)]; exact i9
      · simp only [e1, if_false]; exact i10
      · simp only [e1, e2, if_false]
        refine insC_mono i11 (fun q => ?_)
        obtain ⟨q1, q2, q3, q4, q5⟩ := q
        have e3 : ¬ a = cr + 1 := by omega
        refine ⟨q1, q2.trans (if_neg e3).symm, (if_neg e3).trans q3, q4, ?_⟩
        rcases q5 with q5 | ⟨q5, q6⟩ | q5
        · exact Or.inl q5
        · exact Or.inr (Or.inl ⟨q5, by rw [emR_keep (by omega) (by decide)]; exact q6⟩)
        · exact Or.inr (Or.inr q5)
/-- both take their latest instruction back -/
theorem pCo_back {p S : Nat} {ur uc : zMu} {k cc tb : Nat} {M ht : Nat → Nat} {ok : Prop} (hp : 12 ≤ p) (h : pCo p S ur uc (k + 1) cc tb M ht ok) (hk : tb ≤ k) : pCo p S (zsI ur 0 24 (nI k)) (zsI uc p 3 (nI (M k))) k (M k) tb M ht ok := by
  obtain ⟨g1, g2, g3, g4, g5, gt, g6⟩ := h
  refine ⟨rfl, by simp [gI_sI], g3, rfl, fun r hr => g5 r (by omega), hk, fun hok r hr => ?_⟩
  obtain ⟨o, a, b, c, x, c2, w, i1, i2, i3, i4, i5, i6, i7, i8, i9, i10, i11⟩ := g6 hok r (by omega)
  refine ⟨o, a, b, c, x, c2, w, ?_, ?_, ?_, ?_, i5, ?_, ?_, ?_, ?_, i10, i11⟩
  · rw [gI_sI, if_neg (by omega)]; exact i1
  · rw [gI_sI, if_neg (by omega)]; exact i2
  · rw [gI_sI, if_neg (by omega)]; exact i3
  · rw [gI_sI, if_neg (by omega)]; exact i4
  · rw [gI_sI, if_neg (by omega)]; exact i6
  · rw [gI_sI, if_neg (by omega)]; exact i7
  · rw [gI_sI, if_neg (by omega), gI_sI, if_neg (by omega)]; exact i8
  · rw [gI_sI, if_neg (by omega)]; exact i9
