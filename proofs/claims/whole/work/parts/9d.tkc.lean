/-! PARSING, whole: a text, taken by both -/
/-- what taking a text may change -/
def pcA (k j : Nat) : Prop := (k = 0 ∧ 9 ≤ j ∧ j ≤ 44 ∧ j ≠ 18 ∧ j ≠ 19) ∨ (4 ≤ k ∧ k ≤ 26 ∧ k ≠ 9)
def fA (u v : zMu) : Prop := v.2 = u.2 ∧ ∀ k j, ¬ pcA k j → zI v k j = zI u k j
def pcB (p k : Nat) : Prop := (2 ≤ k ∧ k ≤ 11 ∧ k ≠ 8) ∨ (p ≤ k ∧ k ≤ p + 10)
def fB (p : Nat) (u v : zMu) : Prop := (∀ k j, ¬ pcB p k → zI v k j = zI u k j) ∧ (∀ k j, ¬ pcB p k → zL v k j = zL u k j) ∧ (∀ k j, ¬ (k = 2 ∧ j = 1) → zR v k j = zR u k j) ∧ v.2.2.2 = u.2.2.2
/-- what each side holds between calls: its routine; how many variables are known -/
def rRo (ur : zMu) : Prop := ∃ r V, r ≤ 9 ∧ V ≤ 12 ∧ ((r = 9 ∧ zI ur 0 27 = -1) ∨ (r < 8 ∧ zI ur 0 27 = nI r)) ∧ zI ur 17 r = nI V
def rKn (uc : zMu) : Prop := ∃ V, V ≤ 12 ∧ zI uc 2 8 = nI V
theorem pRgb_keep {m T N : Nat} {rk : Nat → Nat} {u v : zMu} (h : pRgb m T N rk u) (e : ∀ t, zI v 6 t = zI u 6 t) : pRgb m T N rk v := by
  unfold pRgb at h ⊢
  simp only [e]
  exact h
/-- a text's program, or its fault of kind 1 -/
def pTk (B : Nat → Nat) (s p : Nat) (vr vc : zMu) : Prop := ∃ X, xOk X ∧ xp X = p ∧ xs X = s ∧ (∀ w, w < xN X → nmR B s (xPK X) vr w) ∧ pRgb (xT X + 1) (xT X + 1) (xN X) (xrk X) vr ∧ fPR (xr X) vr ∧ fPC (xp X) (xc X) vc ∧ (pPg X vr vc ∨ pWx X (kS 0 + 1) vr vc)
theorem p_takes (n k : Nat) (hn : 2000 ≤ n) (hkk : 120 ≤ k) {B : Nat → Nat} {s p : Nat} (hp : p = 12 ∨ p = 23) {ur uc : zMu} (hx : pTx B s ur uc) (hy : pKy ur uc) (hro : rRo ur) (hkn : rKn uc) :
    Rp (rf_takes n k ur) (ce_C_compile n k p uc (nI s)) (fun _ vr _ vc => pTk B s p vr vc ∧ fA ur vr ∧ fB p uc vc ∧ zI vc p 15 = nI s ∧ zR vc 2 1 = p ∧ rRo vr ∧ rKn vc) := by
  have hp12 : 12 ≤ p := by omega
  have hs := hx.1
  have hzp : zpr p = true := by rcases hp with e | e <;> rw [e] <;> rfl
  unfold rf_takes ce_C_compile
  have eb : ce_C_begin n p uc (nI s) = some ((), zsI (zsI (zsI (zsI (zsI (zsI (zsI (zsI (zsI (zsI (zsI (zsR uc 2 1 p) p 3 0) p 8 0) p 12 0) p 13 0) p 14 0) p 15 (nI s)) 2 2 0) 2 3 0) 2 4 (-1)) 2 5 0) 2 12 0) := by
    unfold ce_C_begin
    show zgd (zpr (zR (zsR uc 2 1 p) 2 1)) (zlet (zR (zsR uc 2 1 p) 2 1) _) = _
    rw [show zR (zsR uc 2 1 p) 2 1 = p by rw [gR_sR, if_pos ⟨rfl, rfl⟩], hzp]
    rfl
  refine rp_r eb ?_
  have e9 : ∀ a j, a ≠ 2 → a ≠ p → zI (zsI (zsI (zsI (zsI (zsI (zsI (zsI (zsI (zsI (zsI (zsI (zsR uc 2 1 p) p 3 0) p 8 0) p 12 0) p 13 0) p 14 0) p 15 (nI s)) 2 2 0) 2 3 0) 2 4 (-1)) 2 5 0) 2 12 0) a j = zI uc a j := fun a j q1 q2 => by
    rw [gI_sI, if_neg (by omega), gI_sI, if_neg (by omega), gI_sI, if_neg (by omega), gI_sI, if_neg (by omega), gI_sI, if_neg (by omega), gI_sI, if_neg (by omega), gI_sI, if_neg (by omega), gI_sI, if_neg (by omega), gI_sI, if_neg (by omega), gI_sI, if_neg (by omega), gI_sI, if_neg (by omega), gI_sR]
  have e28 : zI (zsI (zsI (zsI (zsI (zsI (zsI (zsI (zsI (zsI (zsI (zsI (zsR uc 2 1 p) p 3 0) p 8 0) p 12 0) p 13 0) p 14 0) p 15 (nI s)) 2 2 0) 2 3 0) 2 4 (-1)) 2 5 0) 2 12 0) 2 8 = zI uc 2 8 := by
    rw [gI_sI, if_neg (by omega), gI_sI, if_neg (by omega), gI_sI, if_neg (by omega), gI_sI, if_neg (by omega), gI_sI, if_neg (by omega), gI_sI, if_neg (by omega), gI_sI, if_neg (by omega), gI_sI, if_neg (by omega), gI_sI, if_neg (by omega), gI_sI, if_neg (by omega), gI_sI, if_neg (by omega), gI_sR]
  have ep : ∀ j, j = 3 ∨ j = 8 ∨ j = 12 → zI (zsI (zsI (zsI (zsI (zsI (zsI (zsI (zsI (zsI (zsI (zsI (zsR uc 2 1 p) p 3 0) p 8 0) p 12 0) p 13 0) p 14 0) p 15 (nI s)) 2 2 0) 2 3 0) 2 4 (-1)) 2 5 0) 2 12 0) p j = 0 := fun j q => by
    rw [gI_sI, if_neg (by omega), gI_sI, if_neg (by omega), gI_sI, if_neg (by omega), gI_sI, if_neg (by omega), gI_sI, if_neg (by omega), gI_sI, if_neg (by omega), gI_sI, if_neg (by omega), gI_sI, if_neg (by omega)]
    rcases q with rfl | rfl | rfl <;> simp [gI_sI]
  have ep15 : zI (zsI (zsI (zsI (zsI (zsI (zsI (zsI (zsI (zsI (zsI (zsI (zsR uc 2 1 p) p 3 0) p 8 0) p 12 0) p 13 0) p 14 0) p 15 (nI s)) 2 2 0) 2 3 0) 2 4 (-1)) 2 5 0) 2 12 0) p 15 = nI s := by
    rw [gI_sI, if_neg (by omega), gI_sI, if_neg (by omega), gI_sI, if_neg (by omega), gI_sI, if_neg (by omega), gI_sI, if_neg (by omega)]; simp [gI_sI]
  have e2 : zI (zsI (zsI (zsI (zsI (zsI (zsI (zsI (zsI (zsI (zsI (zsI (zsR uc 2 1 p) p 3 0) p 8 0) p 12 0) p 13 0) p 14 0) p 15 (nI s)) 2 2 0) 2 3 0) 2 4 (-1)) 2 5 0) 2 12 0) 2 2 = 0 ∧ zI (zsI (zsI (zsI (zsI (zsI (zsI (zsI (zsI (zsI (zsI (zsI (zsR uc 2 1 p) p 3 0) p 8 0) p 12 0) p 13 0) p 14 0) p 15 (nI s)) 2 2 0) 2 3 0) 2 4 (-1)) 2 5 0) 2 12 0) 2 3 = 0 ∧ zI (zsI (zsI (zsI (zsI (zsI (zsI (zsI (zsI (zsI (zsI (zsI (zsR uc 2 1 p) p 3 0) p 8 0) p 12 0) p 13 0) p 14 0) p 15 (nI s)) 2 2 0) 2 3 0) 2 4 (-1)) 2 5 0) 2 12 0) 2 4 = -1 ∧ zI (zsI (zsI (zsI (zsI (zsI (zsI (zsI (zsI (zsI (zsI (zsI (zsR uc 2 1 p) p 3 0) p 8 0) p 12 0) p 13 0) p 14 0) p 15 (nI s)) 2 2 0) 2 3 0) 2 4 (-1)) 2 5 0) 2 12 0) 2 5 = 0 ∧ zI (zsI (zsI (zsI (zsI (zsI (zsI (zsI (zsI (zsI (zsI (zsI (zsR uc 2 1 p) p 3 0) p 8 0) p 12 0) p 13 0) p 14 0) p 15 (nI s)) 2 2 0) 2 3 0) 2 4 (-1)) 2 5 0) 2 12 0) 2 12 = 0 := by
    generalize zsI (zsI (zsI (zsI (zsI (zsI (zsR uc 2 1 p) p 3 0) p 8 0) p 12 0) p 13 0) p 14 0) p 15 (nI s) = z
    refine ⟨?_, ?_, ?_, ?_, ?_⟩ <;> simp [gI_sI]
  have l9 : ∀ a j, zL (zsI (zsI (zsI (zsI (zsI (zsI (zsI (zsI (zsI (zsI (zsI (zsR uc 2 1 p) p 3 0) p 8 0) p 12 0) p 13 0) p 14 0) p 15 (nI s)) 2 2 0) 2 3 0) 2 4 (-1)) 2 5 0) 2 12 0) a j = zL uc a j := fun _ _ => rfl
  have r9 : ∀ a j, zR (zsI (zsI (zsI (zsI (zsI (zsI (zsI (zsI (zsI (zsI (zsI (zsR uc 2 1 p) p 3 0) p 8 0) p 12 0) p 13 0) p 14 0) p 15 (nI s)) 2 2 0) 2 3 0) 2 4 (-1)) 2 5 0) 2 12 0) a j = if a = 2 ∧ j = 1 then p else zR uc a j := fun a j => gR_sR uc 2 1 p a j
  have q9 : (zsI (zsI (zsI (zsI (zsI (zsI (zsI (zsI (zsI (zsI (zsI (zsR uc 2 1 p) p 3 0) p 8 0) p 12 0) p 13 0) p 14 0) p 15 (nI s)) 2 2 0) 2 3 0) 2 4 (-1)) 2 5 0) 2 12 0).2.2.2 = uc.2.2.2 := rfl
  revert e9 e28 ep ep15 e2 l9 r9 q9
  generalize zsI (zsI (zsI (zsI (zsI (zsI (zsI (zsI (zsI (zsI (zsI (zsR uc 2 1 p) p 3 0) p 8 0) p 12 0) p 13 0) p 14 0) p 15 (nI s)) 2 2 0) 2 3 0) 2 4 (-1)) 2 5 0) 2 12 0 = u9
  intro e9 e28 ep ep15 e2 l9 r9 q9
  have hx9 : pTx B s ur u9 := ⟨hx.1, hx.2.1, hx.2.2.1, hx.2.2.2.1, fun j hj => by rw [e9 1 j (by omega) (by omega)]; exact hx.2.2.2.2 j hj⟩
  have hy9 : pKy ur u9 := ⟨hy.1, fun k hk => by rw [l9]; exact hy.2 k hk⟩
  obtain ⟨_, vr, x1, _, vc, x2, fr, fc, cut⟩ := p_cuts n hn hp12 hx9 hy9
  refine rp_l x1 (rp_ll (rp_ll (rp_ll (rp_ll (rp_ll (rp_ll (rp_ll (rp_ll (rp_ll (rp_r x2 ?_))))))))))
  obtain ⟨PK, T, N, rk, ck, pl, t1, t2, t3, t4, t5, t6, t7, t8, t9, t10⟩ := cut.tk hs
  have hr1 : ∀ a j, ¬ (a = 0 ∧ (j = 10 ∨ j = 15 ∨ j = 16 ∨ j = 17 ∨ j = 24 ∨ j = 26 ∨ j = 33 ∨ j = 39 ∨ j = 44)) → zI (zsI (zsI (zsI (zsI (zsI (zsI (zsI (zsI (zsI vr 0 10 0) 0 15 (-1)) 0 16 (-1)) 0 17 0) 0 24 0) 0 26 0) 0 33 0) 0 39 0) 0 44 0) a j = zI vr a j := fun a j q => by
    rw [gI_sI, if_neg (by omega), gI_sI, if_neg (by omega), gI_sI, if_neg (by omega), gI_sI, if_neg (by omega), gI_sI, if_neg (by omega), gI_sI, if_neg (by omega), gI_sI, if_neg (by omega), gI_sI, if_neg (by omega), gI_sI, if_neg (by omega)]
  have hr0 : zI (zsI (zsI (zsI (zsI (zsI (zsI (zsI (zsI (zsI vr 0 10 0) 0 15 (-1)) 0 16 (-1)) 0 17 0) 0 24 0) 0 26 0) 0 33 0) 0 39 0) 0 44 0) 0 10 = 0 ∧ zI (zsI (zsI (zsI (zsI (zsI (zsI (zsI (zsI (zsI vr 0 10 0) 0 15 (-1)) 0 16 (-1)) 0 17 0) 0 24 0) 0 26 0) 0 33 0) 0 39 0) 0 44 0) 0 15 = -1 ∧ zI (zsI (zsI (zsI (zsI (zsI (zsI (zsI (zsI (zsI vr 0 10 0) 0 15 (-1)) 0 16 (-1)) 0 17 0) 0 24 0) 0 26 0) 0 33 0) 0 39 0) 0 44 0) 0 16 = -1 ∧ zI (zsI (zsI (zsI (zsI (zsI (zsI (zsI (zsI (zsI vr 0 10 0) 0 15 (-1)) 0 16 (-1)) 0 17 0) 0 24 0) 0 26 0) 0 33 0) 0 39 0) 0 44 0) 0 24 = 0 ∧ zI (zsI (zsI (zsI (zsI (zsI (zsI (zsI (zsI (zsI vr 0 10 0) 0 15 (-1)) 0 16 (-1)) 0 17 0) 0 24 0) 0 26 0) 0 33 0) 0 39 0) 0 44 0) 0 26 = 0 ∧ zI (zsI (zsI (zsI (zsI (zsI (zsI (zsI (zsI (zsI vr 0 10 0) 0 15 (-1)) 0 16 (-1)) 0 17 0) 0 24 0) 0 26 0) 0 33 0) 0 39 0) 0 44 0) 0 33 = 0 ∧ zI (zsI (zsI (zsI (zsI (zsI (zsI (zsI (zsI (zsI vr 0 10 0) 0 15 (-1)) 0 16 (-1)) 0 17 0) 0 24 0) 0 26 0) 0 33 0) 0 39 0) 0 44 0) 0 39 = 0 ∧ zI (zsI (zsI (zsI (zsI (zsI (zsI (zsI (zsI (zsI vr 0 10 0) 0 15 (-1)) 0 16 (-1)) 0 17 0) 0 24 0) 0 26 0) 0 33 0) 0 39 0) 0 44 0) 0 44 = 0 := by
    refine ⟨?_, ?_, ?_, ?_, ?_, ?_, ?_, ?_⟩ <;> simp [gI_sI]
  have h22 : (zsI (zsI (zsI (zsI (zsI (zsI (zsI (zsI (zsI vr 0 10 0) 0 15 (-1)) 0 16 (-1)) 0 17 0) 0 24 0) 0 26 0) 0 33 0) 0 39 0) 0 44 0).2 = vr.2 := rfl
  revert hr1 hr0 h22
  generalize zsI (zsI (zsI (zsI (zsI (zsI (zsI (zsI (zsI vr 0 10 0) 0 15 (-1)) 0 16 (-1)) 0 17 0) 0 24 0) 0 26 0) 0 33 0) 0 39 0) 0 44 0 = u1
  intro hr1 ⟨z10, z15, z16, z24, z26, z33, z39, z44⟩ h22
  have cc2 : ∀ a j, ¬ (7 ≤ a ∧ a ≤ 11 ∧ a ≠ 8) → zI vc a j = zI u9 a j := fun a j q => fc.1 a j (by unfold pcC; omega)
  have hX : xOk ((p, s, T, N, 0, 9), PK, rk, ck, pl, u1, vc) := ⟨hp, hs, t9, t8, tkF_keep t1 (fun t => hr1 4 t (by omega)) (fun t => hr1 5 t (by omega)) (fun t => hr1 6 t (by omega)) rfl (fun _ => rfl) (fun _ => rfl) (fun _ => rfl), by
    show zR vc 2 1 = p
    rw [fc.2.2.1, r9, if_pos ⟨rfl, rfl⟩]⟩
  have tp : pTp ((p, s, T, N, 0, 9), PK, rk, ck, pl, u1, vc) 0 0 u1 vc := by
    refine ⟨0, 0, 0, 0, 0, fun r => r, fun _ => 0, ⟨fPR_rf _, fPC_rf _ _, ⟨⟨Nat.zero_le _, z10⟩, Nat.zero_le _, t2, t3, t4, t5⟩, ⟨z15, by rw [cc2 2 2 (by omega)]; exact e2.1⟩, ⟨by omega, z26, by rw [cc2 2 5 (by omega)]; exact e2.2.2.2.1⟩, ⟨⟨by omega, z33, ?_, fun f hf => absurd hf (Nat.not_lt_zero f)⟩, ⟨by omega, Or.inr (by omega), z39, ?_, fun _ => ⟨by omega, fun f hf => absurd hf (Nat.not_lt_zero f)⟩⟩, ?_, ?_⟩, ⟨0, 0, Or.inl ⟨rfl, z16, by rw [cc2 2 3 (by omega)]; exact e2.2.1, by rw [cc2 2 4 (by omega)]; exact e2.2.2.1⟩, fun q => by omega⟩, ⟨z24, ?_, rfl, rfl, fun r hr => absurd hr (Nat.not_lt_zero r), Nat.le_refl _, fun _ r hr => absurd hr (Nat.not_lt_zero r)⟩, ⟨fun s hs => absurd hs id, fun _ => ⟨fun r o hr => absurd hr (Nat.not_lt_zero r), fun r r' o o' hr => absurd hr (Nat.not_lt_zero r)⟩⟩, ⟨z44, by rw [cc2 2 12 (by omega)]; exact e2.2.2.2.2, by omega, fun c hc => absurd hc (Nat.not_lt_zero c), fun r hr => absurd hr (Nat.not_lt_zero r)⟩⟩, by omega, by omega, by omega, rfl, rfl, Or.inl ⟨rfl, rfl⟩⟩
    · show zI vc p 12 = nI 0
      rw [cc2 p 12 (by omega)]; exact ep 12 (by omega)
    · show zI vc p 8 = nI (min 0 80)
      rw [cc2 p 8 (by omega)]; exact ep 8 (by omega)
    · obtain ⟨V, v1, v2⟩ := hkn
      exact ⟨V, v1, by rw [cc2 2 8 (by omega), e28]; exact v2⟩
    · obtain ⟨r, V, r1, r2, r3, r4⟩ := hro
      have k27 : zI u1 0 27 = zI ur 0 27 := by rw [hr1 0 27 (by omega), fr.2 0 27 (by unfold pcR; omega)]
      have k17 : zI u1 17 r = zI ur 17 r := by rw [hr1 17 r (by omega), fr.2 17 r (by unfold pcR; omega)]
      exact ⟨r, V, r1, r2, by rw [k27]; exact r3, by rw [k17]; exact r4⟩
    · show zI vc p 3 = nI 0
      rw [cc2 p 3 (by omega)]; exact ep 3 (by omega)
  refine rp_mono (p_fnsL n k hn hkk hX p T 0 n n 0 u1 vc (by show T - 0 = T; omega) (by have : T ≤ 1500 := hX.T; omega) (by omega) (by omega) tp) (fun _ wr _ wc g => ?_)
  have fin : ∀ X, xOk X → xp X = p → xs X = s → xN X = N → (xPK X = PK ∧ xT X = T ∧ xrk X = rk) → xr X = u1 → xc X = vc → fPR (xr X) wr → fPC (xp X) (xc X) wc → (pPg X wr wc ∨ pWx X (kS 0 + 1) wr wc) → rRo wr → rKn wc → pTk B s p wr wc ∧ fA ur wr ∧ fB p uc wc ∧ zI wc p 15 = nI s ∧ zR wc 2 1 = p ∧ rRo wr ∧ rKn wc := by
    intro X hX a1 a2 a3 ⟨a4, aT, aK⟩ a5 a6 f1 f2 alt ro kn
    refine ⟨⟨X, hX, a1, a2, fun w hw => ?_, ?_, f1, f2, alt⟩, ⟨?_, fun a j q => ?_⟩, ⟨fun a j q => ?_, fun a j q => ?_, fun a j q => ?_, ?_⟩, ?_, ?_, ro, kn⟩
    · rw [a3] at hw
      obtain ⟨b, z, n1, n2, n3⟩ := t7 w hw
      rw [a5] at f1
      rw [a4]
      exact ⟨b, z, by rw [f1.2 7 w (by unfold pwR; omega), hr1 7 w (by omega)]; exact n1, by rw [f1.2 8 w (by unfold pwR; omega), hr1 8 w (by omega)]; exact n2, n3⟩
    · rw [aT, aK, a3]
      refine pRgb_keep t10 (fun t => ?_)
      rw [f1.2 6 t (by unfold pwR; omega), a5, hr1 6 t (by omega)]
    · rw [f1.1, a5, h22]; exact fr.1
    · rw [f1.2 a j (by unfold pcA at q; unfold pwR; omega), a5, hr1 a j (by unfold pcA at q; omega)]
      exact fr.2 a j (by unfold pcA at q; unfold pcR; omega)
    · rw [f2.1 a j (by unfold pcB at q; unfold pwC; omega), a6, cc2 a j (by unfold pcB at q; omega)]
      exact e9 a j (by unfold pcB at q; omega) (by unfold pcB at q; omega)
    · rw [f2.2.1 a j (by unfold pcB at q; unfold pwC; omega), a6, fc.2.1 a j (by unfold pcB at q; unfold pcC; omega)]
      exact l9 a j
    · have e : zR wc a j = zR vc a j := by unfold zR; rw [f2.2.2, a6]
      rw [e, fc.2.2.1, r9, if_neg q]
    · rw [show wc.2.2.2 = vc.2.2.2 from by rw [f2.2.2, a6], fc.2.2.2]; exact q9
    · rw [f2.1 p 15 (by unfold pwC; omega), a6, cc2 p 15 (by omega)]; exact ep15
    · rw [hX.zp f2]; exact a1
  rcases g with ⟨F', g⟩ | ⟨w, w1, w2⟩
  · obtain ⟨g0, i, cr, cc, S, C, tb, M, ht, g1, g2⟩ := id g
    obtain ⟨r, V, F, vw, y0, y1, y2, -⟩ := g1.2.2.2.2.2.1
    refine fin (setF ((p, s, T, N, 0, 9), PK, rk, ck, pl, u1, vc) F' 9) hX rfl rfl rfl ⟨rfl, rfl, rfl⟩ rfl rfl g1.1 g1.2.1 (Or.inl g) ⟨r, V, y2.1, y2.2.1, ?_, y2.2.2.1⟩ ⟨V, y2.2.1, y2.2.2.2.1⟩
    rcases y1 with ⟨q, q1, -⟩ | ⟨q, q1, -⟩
    · exact Or.inl ⟨q, q1⟩
    · exact Or.inr ⟨q, q1⟩
  · obtain ⟨f, L, S, V, C, F, b1, b2, b3, b4, b5, b6, -⟩ := w2.1
    exact fin ((p, s, T, N, 0, 9), PK, rk, ck, pl, u1, vc) hX rfl rfl rfl ⟨rfl, rfl, rfl⟩ rfl rfl w1.1 w2.1.1 (Or.inr ⟨w, w1, w2⟩) w1.2.2.2.2.2 ⟨V, b5, b6⟩
