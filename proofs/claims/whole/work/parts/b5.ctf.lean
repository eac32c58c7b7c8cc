/-! BUILDING: the Lexer's keys -/
def kyF (m : Nat) : Nat → Int64 := fun j => if j < m then lN (pkn kl (kst j) (kln j)) else 0
theorem kyF_0 : kyF 0 = fun _ => 0 := funext fun j => if_neg (by omega)
theorem kyF_s (m : Nat) : vp_updL (kyF m) m (lN (pkn kl (kst m) (kln m))) = kyF (m + 1) := by
  funext j
  unfold vp_updL kyF
  by_cases c : j = m
  · subst c; rw [if_pos rfl, if_pos (by omega)]
  · rw [if_neg c]
    by_cases d : j < m
    · rw [if_pos d, if_pos (by omega)]
    · rw [if_neg d, if_neg (by omega)]
def zU0 : zMu := (fun _ _ => 0, fun _ _ => 0, fun _ _ => 0, fun _ => 0, 0, 0)
section bTexts
variable {κ : zKx} {ca : Nat → ClassId} {D : va_G} {cc : ByteArray} {nL : Nat} {own : String} {d mc ms : Nat} {A : Nat → Prop} {W1 : (Nat → Nat) → va_W} {ws : va_W} {cells slots pc pc' : Nat} {lv : List (Nat × Value)} {st : List Value}
theorem b_ldcS {i idx : Nat} (hi : i < 13) (ho : own = "ShapeEngine$Lexer") (hx : zsIdx.getD i 0 = idx) (hd : zD cc pc pc' (.ldc idx) 2) (k : bJ κ (zCk ca D) cc nL own d mc ms A W1 ws cells slots pc' lv (.ref (D.2 100 i) :: st)) : bJ κ (zCk ca D) cc nL own d mc ms A W1 ws cells slots pc lv st := by
  obtain ⟨hd, rfl⟩ := hd
  subst ho
  subst hx
  intro h1 h2 h3 h4 ls H locs hl hP hD hS
  exact va_ldcS h2.1 h2.2.1 h2.2.2.2.1 (h4.2.1.1.2.1 i hi) hd (k h1 h2 h3 h4 ls H locs hl hP hD hS)
theorem b_keyst {i x : Nat} {v : Int32} (q0 : Nat) (he : ws[q0]? = some (x, .inl (ca 5, 12, .inr (.inl (kyF i))))) (hi : i < 12) (hv : v = nI i) (hd : zD cc pc pc' .lastore 1) (k : bJ κ (zCk ca D) cc nL own d mc ms A W1 (ws.set q0 (x, .inl (ca 5, 12, .inr (.inl (kyF (i + 1)))))) cells slots pc' lv st) : bJ κ (zCk ca D) cc nL own d mc ms A W1 ws cells slots pc lv (.long (lN (pkn kl (kst i) (kln i))) :: .int v :: .ref x :: st) := by
  obtain ⟨hd, rfl⟩ := hd
  subst hv
  intro h1 h2 h3 h4 ls H locs hl hP hD hS
  refine va_last h2.1 h2.2.1 h2.2.2.2.2.2.2.2 hP hD hS q0 4 he rfl (vp_in_nI hi (by decide)) hd (fun H1 locs1 hP hD hS => ?_)
  rw [nI_clamp (by omega), kyF_s] at hP hD
  exact k h1 h2 h3 h4 ls H1 locs1 hl hP hD hS
theorem b_packed {i idx : Nat} (hi : i < 12) (ho : own = ce_RX) (h5d : 5 ≤ d) (hw : Cond.methodLink ce_RX idx ksY_packed ∈ ce_gk) (hst : (st.map fun v => v.category).sum ≤ 8) (hc : cells ≤ mc) (hs : slots ≤ ms) (hd : zD cc pc pc' (.invokestatic idx) 3) (hG : zGX (zC0 ca D) ce_RX idx ksY_packed (.code ksY_packed prog_5_method_11_code 4 (some .long)) 1 4) (k : bJ κ (zCk ca D) cc nL own d mc ms A W1 ws cells slots pc' lv (.long (lN (pkn kl (kst i) (kln i))) :: st)) : bJ κ (zCk ca D) cc nL own d mc ms A W1 ws cells slots pc lv (.ref (D.2 100 i) :: st) := by
  obtain ⟨hd, rfl⟩ := hd
  subst ho
  intro h1 h2 h3 h4 ls H locs hl hP hD hS
  have m2 := (kst_packed (l := zKl κ) (ca := ca) (D := D) (a := fun _ => 0) (g := fun _ => 0) 9 i (by omega) zU0 _ _ (ks_keys zU0 i hi)).2 H.size
  have hR : zKR κ = bRm d mc ms := h1
  have hA : ∀ q, va_A (zw (zC0 ca D).1 (zC0 ca D).2.1 (zad (zC0 ca D).1 (fun _ => 0) (fun _ => 0)) zU0) H.size q → H.size ≤ q := by
    intro q hq
    rcases hq with ⟨i, e, hi⟩ | hq
    · cases hi
    · exact hq
  have hr := va_runS (p := κ.1) (l := zKl κ) (e := κ.2.2.1) (R := zKR κ) (s := zKs κ) (m := zKm κ) (args := zKa κ) (below := zKb κ) (meth := zKt κ) (c := zKc κ) (H := H) (locs := locs) (cells := cells) (slots := slots) (rest := st) (As := [.ref (D.2 100 i)]) (g := F0 (zKm κ) pc ls (.ref (D.2 100 i) :: st)) ⟨h2.1, h2.2.1, h2.2.2.1, h2.2.2.2.1, h2.2.2.2.2.1⟩ m2 (va_cwS 1 h2.2.2.2.2.1 hG.1 rfl rfl rfl hG.2.1 ⟨by rw [hR]; exact h5d, by rw [hR]; show 8 + (4 + 11) + 40 * 4 ≤ 40 * d; omega⟩) ⟨zblind, fun U hU hW => ⟨rfl, by rw [hU], ⟨fun k q h => (by cases h), va_K.moved hW.alike h2.2.2.2.2.2.2.2, ⟨fun i j p q h => (by cases h), fun k q h => (by cases h)⟩⟩, (bpre (wc := []) h4 h2.2.2.2.2.2.2.2 (fun k q h => (by cases h)) ⟨fun i j p q h => (by cases h), fun k q h => (by cases h)⟩ hS hU hW).2.2.1.1, zStr_ok D⟩⟩ rfl rfl hl.1 rfl (lv_room hst) hd ⟨by rw [hR]; exact hc, by rw [hR]; exact hs⟩
  intro T hT S
  obtain ⟨v, st₀, t, T', L, e0, S', hL, e1, e2, ⟨hv, ⟨g', hg', hP1, hK1, hD1⟩, hz1, hk1⟩, go⟩ := hr T hT S
  cases hv
  rw [e0] at hz1 hk1
  have hke : ∀ q, q < H.size → T'.heap[q]? = H[q]? := fun q hq => by rw [e1]; exact hk1 q hq (fun z => absurd (hA q z) (by omega))
  obtain ⟨t2, a1, b1⟩ := k h1 h2 h3 h4 ls T'.heap (locs ++ L) hl (hP.kept (fun k q hq => hke q.1 (hP k q hq).lt)) hD (by
    refine ⟨Nat.le_trans hS.1 (by rw [e1]; exact hz1), fun q q1 q2 => ?_, fun q hq => ?_⟩
    · rw [hke q (Nat.lt_of_lt_of_le q1 hS.1)]; exact hS.2.1 q q1 q2
    · rcases List.mem_append.mp hq with hq | hq
      · exact hS.2.2 q hq
      · exact h4.1 _ (Nat.le_trans hS.1 (hA _ (hL q hq)))) T' rfl S'
  exact ⟨t2, go t2 a1, b1⟩
end bTexts
