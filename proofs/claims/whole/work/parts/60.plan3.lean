/-! plan: both alike -/
theorem m20 : ∀ f, f < 161 → ((-20 : Int32) - nI f < 0) = True := fun f hf => eq_true ((by decide +kernel : ∀ f, f < 161 → (-20 : Int32) - nI f < 0) f hf)
def plS (S : Nat → Nat → Nat) (K : Nat) (P : Nat → Nat → Nat) : Nat → Nat → Nat := fun r i => if 6 ≤ r ∧ r ≤ 9 then P r i else if r = 5 ∧ i = 0 then K else S r i
section P3
variable {lx : Nat} {xs : Nat → Int32} {M M1 : Nat → Nat → Int32} {T T1 : Nat → Nat} {n n1 c k K o : Nat} {S S1 K0 P P1 : Nat → Nat → Nat} {hk : Bool} {Z : Nat → stZ}
theorem plS_lo {r : Nat} (h : r < 5) : plS S K P r = S r := by
  funext i; unfold plS; rw [if_neg (by omega), if_neg (by omega)]
theorem plS_hi {r : Nat} (h : 6 ≤ r ∧ r ≤ 9) : plS S K P r = P r := by
  funext i; unfold plS; rw [if_pos h]
theorem plS_5 : plS S K P 5 0 = K := by unfold plS; rw [if_neg (by omega), if_pos ⟨rfl, rfl⟩]
theorem plS_WF (hW : WF S) (hK : K ≤ 24) (hP : PW P K (S 0 0)) : WF (plS S K P) := by
  obtain ⟨w1, w2, w3, w4, w5, w6, w7, w8, w9⟩ := hW
  refine ⟨?_, ?_, ?_, ?_, ?_, ?_, ?_, ?_, ?_⟩
  · rw [plS_lo (by decide)]; exact w1
  · rw [plS_lo (by decide)]; exact w2
  · rw [plS_lo (by decide : 0 < 5), plS_lo (by decide : 3 < 5)]; exact w3
  · rw [plS_lo (by decide)]; exact w4
  · rw [plS_lo (by decide)]; exact w5
  · rw [plS_lo (by decide)]; exact w6
  · rw [plS_lo (by decide)]; exact w7
  · rw [plS_5]; exact hK
  · rw [plS_5, plS_lo (by decide : 0 < 5), plS_hi (by decide : 6 ≤ 6 ∧ 6 ≤ 9), plS_hi (by decide : 6 ≤ 7 ∧ 7 ≤ 9), plS_hi (by decide : 6 ≤ 8 ∧ 8 ≤ 9), plS_hi (by decide : 6 ≤ 9 ∧ 9 ≤ 9)]; exact hP
theorem plS_PRi (h : PRi M o k P) : PRi M o k (plS S K P) := by
  unfold PRi hrc opn at h ⊢
  rw [plS_hi (by decide : 6 ≤ 6 ∧ 6 ≤ 9), plS_hi (by decide : 6 ≤ 7 ∧ 7 ≤ 9), plS_hi (by decide : 6 ≤ 8 ∧ 8 ≤ 9), plS_hi (by decide : 6 ≤ 9 ∧ 9 ≤ 9)]
  exact h
theorem plS_RepC (hC : RepC M 2 S) (hf : ∀ c, 2 ≤ c → c ≤ 7 → M1 c = M c) (hp : PRi M1 8 K (plS S K P)) : RepC M1 2 (plS S K P) := by
  obtain ⟨c1, c2, c3, c4, c5, c6, c7, c8, c9, c10, c11, c12⟩ := hC
  simp only [Nat.reduceAdd] at c4 c5 c6 c7 c8 c9 c10 c11 c12
  obtain ⟨p1, p2, p3, p4⟩ := hp
  refine ⟨?_, ?_, ?_, ?_, ?_, ?_, ?_, ?_, ?_, ?_, ?_, ?_⟩
  all_goals try simp only [Nat.reduceAdd]
  · rw [plS_lo (by decide), hf 2 (by decide) (by decide)]; exact c1
  · rw [plS_lo (by decide), hf 2 (by decide) (by decide)]; exact c2
  · rw [plS_lo (by decide), hf 2 (by decide) (by decide)]; exact c3
  · rw [plS_lo (by decide), hf 3 (by decide) (by decide)]; exact c4
  · rw [plS_lo (by decide), hf 4 (by decide) (by decide)]; exact c5
  · rw [plS_lo (by decide), plS_lo (by decide), hf 5 (by decide) (by decide)]; exact c6
  · rw [plS_lo (by decide), hf 6 (by decide) (by decide)]; exact c7
  · rw [plS_lo (by decide), hf 7 (by decide) (by decide)]; exact c8
  · rw [plS_5]; exact p1
  · rw [← hrc_hrs, plS_5]; exact p2
  · rw [plS_5]; exact p3
  · rw [plS_5]; exact p4
theorem plS_RepM (hC : RepM M S) (hf : ∀ c, 54 ≤ c → c ≤ 57 → M1 c = M c) (h4 : M1 53 4 = M 53 4) (h7 : M1 53 7 = M 53 7) (h8 : M1 53 8 = M 53 8) (h6 : M1 53 6 = nI K) (hp : ∀ i, i < K → M1 58 (4 * i) = nI (P 6 i) ∧ M1 58 (4 * i + 1) = nI (P 7 i) ∧ M1 58 (4 * i + 2) = nI (P 8 i) ∧ M1 58 (4 * i + 3) = nI (P 9 i)) : RepM M1 (plS S K P) := by
  obtain ⟨c1, c2, c3, c4, c5, c6, c7, c8, c9⟩ := hC
  refine ⟨?_, ?_, ?_, ?_, ?_, ?_, ?_, ?_, ?_⟩
  · rw [plS_lo (by decide), h4]; exact c1
  · rw [plS_lo (by decide), h7]; exact c2
  · rw [plS_lo (by decide), h8]; exact c3
  · rw [plS_lo (by decide), hf 54 (by decide) (by decide)]; exact c4
  · rw [plS_lo (by decide), hf 56 (by decide) (by decide)]; exact c5
  · rw [plS_lo (by decide), hf 55 (by decide) (by decide)]; exact c6
  · rw [plS_lo (by decide), hf 57 (by decide) (by decide)]; exact c7
  · rw [plS_5]; exact h6
  · rw [plS_5, plS_hi (by decide : 6 ≤ 6 ∧ 6 ≤ 9), plS_hi (by decide : 6 ≤ 7 ∧ 7 ≤ 9), plS_hi (by decide : 6 ≤ 8 ∧ 8 ≤ 9), plS_hi (by decide : 6 ≤ 9 ∧ 9 ≤ 9)]; exact hp
theorem RepAC_ft (h : RepAC M S hk K0 n T Z) (h2 : RepC M1 2 S1) (h5 : KB M1 5) (hf : ∀ c, c = 1 ∨ (15 ≤ c ∧ c ≤ 23) ∨ 44 ≤ c → M1 c = M c) (h28 : M1 28 4 = nI 0) : RepAC M1 S1 hk K0 0 T Z := by
  obtain ⟨a1, a2, a3, a4, a5, a6, a7⟩ := h
  exact ⟨h2, h5, by rw [hf 1 (by omega)]; exact a3, fun e => ⟨RepC_eq (a4 e).1 fun c p q => hf c (by omega), fun i hi => by rw [hf 18 (by omega)]; exact (a4 e).2 i hi⟩, h28, fun i hi => by omega, fun s hs => ZC_eq (a7 s hs) (hf _ (by omega)) (hf _ (by omega))⟩
theorem RepAM_ft (h : RepAM M S hk K0 n T Z) (h2 : RepM M1 S1) (hf : ∀ c, 71 ≤ c ∧ c ≤ 74 → M1 c = M c) (h28 : M1 53 28 = M 53 28) (h10 : M1 53 10 = nI 0) : RepAM M1 S1 hk K0 0 T Z := by
  obtain ⟨a1, a2, a3, a4, a5, a6⟩ := h
  exact ⟨h2, by rw [h28]; exact a2, fun e => RepK_eq (a3 e) (hf 71 (by omega)), h10, fun i hi => by omega, fun s hs => ZM_eq (a6 s hs) (hf 72 (by omega)) (hf 73 (by omega)) (hf 74 (by omega))⟩
theorem op_plan (hA : WA S hk K0 n T Z) : opA 24 136 [some (.ref 1), none] [some (.ref 53), none, none] S hk K0 n T Z := by
  obtain ⟨hW, hWK, hn, t4, hZ⟩ := hA
  have w1 := hW.1
  -- how both begin
  have s6 : ∀ lx xs M, RepAC M S hk K0 n T Z → ∃ A, frR M A ∧ TPC A n T ∧ A 28 5 = nI (sk T n 0) ∧ PRi A 31 0 (fun _ _ => 0) ∧ ∀ d Q, Go (d + 4) 90 0 [some (.ref 28), some (.int (nI (S 0 0))), none, none, none] [] (HP lx xs M) Q = Go (d + 4) 90 56 [some (.ref 28), some (.int (nI (S 0 0))), some (.int (nI 0)), some (.int (bI (opk (fun _ _ => 0) 0 0))), none] [] (HP lx xs A) Q := by
    intro lx xs M hR
    have hT : TPC M n T := ⟨hR.2.2.2.2.1, hR.2.2.2.2.2.1, hn, t4⟩
    refine ⟨up (up (up M 28 5 (nI (sk T n 0))) 31 0 (nI 0)) 31 1 (nI 0), frR_up (frR_up (frR_up (fun c _ _ _ _ _ _ => rfl) (by omega)) (by omega)) (by omega), TPC_ne (TPC_ne (TPC_up hT) (by decide) (by decide)) (by decide) (by decide), by rw [up_ne _ _ _ (by decide), up_ne _ _ _ (by decide), up_at], ⟨by rw [up_off (by decide), up_at], by rw [up_at]; rfl, fun i hi => by omega, fun i hi => by omega⟩, fun d Q => ?_⟩
    simp (disch := omega) only [s_90_0, s_90_1, s_90_4, s_90_5, s_90_8, s_90_11, s_90_12, s_90_13, s_90_14, s_90_16, s_90_19, s_90_20, s_90_23, s_90_24, s_90_26, s_90_29, s_90_32, s_90_33, s_90_36, s_90_37, s_90_38, s_90_39, s_90_42, s_90_43, s_90_45, s_90_48, s_90_51, s_90_52, s_90_55, s_8_0, s_8_1, s_8_2_8, s_8_2_21, s_8_2_31, s_8_5, s_8_6, s_8_7_8, s_8_7_21, s_8_7_31, s_8_10, ↓reduceIte, c_X1_rewind hT, ap_none, i_lt, Nat.reduceLT, n0_0, n1_0]
    rfl
  rcases pl_both (T := T) (n := n) (c := S 0 0) w1 hn t4 23 0 (sk T n 0) 0 (fun _ _ => 0) (by omega) (sk_le (Nat.zero_le n)) (fun i hi => by omega) (Or.inl ⟨rfl, rfl⟩) with ⟨f, f1, f6, f7⟩ | ⟨K, P1, g1, g2, g3, g6, g7⟩
  · refine ⟨-20 - nI f, S, hk, K0, 0, T, Z, ⟨hW, hWK, by omega, fun i hi => by omega, hZ⟩, fun lx xs M hR => ?_, fun lx xs M hR => ?_⟩
    · obtain ⟨A, a1, a2, a3, a4, a5⟩ := s6 lx xs M hR
      obtain ⟨M1, u1, u2⟩ := f6 lx xs A a2 a3 a4
      have fr := frR_tr a1 u1
      refine ⟨up M1 28 4 (nI 0), RepAC_ft hR (RepC_eq hR.1 fun c p q => by rw [up_ne _ _ _ (by omega)]; exact fr c (by omega) (by omega) (by omega) (by omega) (by omega) (by omega)) (fun i hi => by rw [up_ne _ _ _ (by decide), fr 5 (by omega) (by omega) (by omega) (by omega) (by omega) (by omega)]; exact hR.2.1 i hi) (fun c hc => by rw [up_ne _ _ _ (by omega)]; exact fr c (by omega) (by omega) (by omega) (by omega) (by omega) (by omega)) up_at, fun c hc => by rw [up_ne _ _ _ (by omega)]; exact fr c (by omega) (by omega) (by omega) (by omega) (by omega) (by omega), fun Q => ?_⟩
      have a6 := a5 1994
      have u3 := u2 1994
      simp only [Nat.reduceAdd] at a6 u3
      have c1 := hR.1.1
      simp (disch := omega) only [s_24_0, s_24_1, s_24_4, s_24_5, s_24_8, s_24_11, s_24_14, s_24_15, s_24_16, s_24_19, s_24_22, s_24_23, s_24_26, s_24_27, s_24_30, s_24_33, s_24_34, s_24_37, s_24_40, s_24_43, s_24_44, s_80_0, s_80_1, s_80_2, s_80_5, ↓reduceIte, c1, a6, u3, ap_some, ap_none, m20]
    · have hT : TPM M n T := ⟨hR.2.2.2.1, hR.2.2.2.2.1, hn, t4⟩
      obtain ⟨M1, p', u1, u2, u3, u4, u5⟩ := f7 lx xs (up M 53 11 (nI 0)) 0 (TPM_up hT (by decide)) (by rw [up_off (by decide)]; exact hR.1.1) up_at (Nat.zero_le n) rfl (fun i hi => by omega)
      have fr : frQ M M1 := frQ_tr (frQ_up ⟨fun _ _ _ => rfl, fun _ _ _ => rfl⟩ (by omega)) u1
      have nb := fun d Q => c_X7_nextByte (d := d) (Q := Q) (lx := lx) (xs := xs) (frQ_TPM hT fr) u2 u3
      rw [u4] at nb
      refine ⟨up (up M1 53 11 (nI f)) 53 10 (nI 0), RepAM_ft hR (RepM_eq hR.1 (fun j h1 h2 => by rw [up_off (by omega), up_off (by omega)]; exact fr.2 j (by omega) (by omega)) (fun c h1 h2 => by rw [up_ne _ _ _ (by omega), up_ne _ _ _ (by omega)]; exact fr.1 c (by omega) (by omega))) (fun c hc => by rw [up_ne _ _ _ (by omega), up_ne _ _ _ (by omega)]; exact fr.1 c (by omega) (by omega)) (by rw [up_off (by decide), up_off (by decide)]; exact fr.2 28 (by decide) (by decide)) up_at, fun c hc => by rw [up_ne _ _ _ (by omega), up_ne _ _ _ (by omega)]; exact fr.1 c (by omega) (by omega), fun Q => ?_⟩
      have u6 := u5 1995
      simp only [Nat.reduceAdd] at u6
      have rp : ∀ Q, Go 1998 135 0 [some (.ref 53), none, none, none] [] (HP lx xs M) Q = Q (some (.int (nI 0))) (HP lx xs M1) := fun Q => by
        simp (disch := omega) only [s_135_0, s_135_1, s_135_2, s_135_5, s_135_6, s_135_7, s_135_8, u6]
      simp (disch := omega) only [s_136_0, s_136_1, s_136_4, s_136_5, s_136_6, s_136_9, s_136_10, s_136_13, s_136_14, s_136_15, s_136_16, s_136_19, s_136_20, s_136_23, s_136_25, s_136_26, s_136_29, s_136_30, ↓reduceIte, rp, ap_some, n0_0, nb, up_off, up_at]
  · refine ⟨nI K, plS S K P1, hk, K0, 0, T, Z, ⟨plS_WF hW g2 g3, hWK, by omega, fun i hi => by omega, hZ⟩, fun lx xs M hR => ?_, fun lx xs M hR => ?_⟩
    · obtain ⟨A, a1, a2, a3, a4, a5⟩ := s6 lx xs M hR
      obtain ⟨M1, u1, u3, u2⟩ := g6 lx xs A a2 a3 a4
      have fr := frR_tr a1 u1
      have pr : PRi (up M1 28 4 (nI 0)) 31 (plS S K P1 5 0) (plS S K P1) := by
        rw [plS_5]
        have := plS_PRi (S := S) (K := K) u3
        exact ⟨by rw [up_ne _ _ _ (by decide)]; exact this.1, by rw [up_ne _ _ _ (by decide)]; exact this.2.1, fun i hi => by rw [up_ne _ _ _ (by decide)]; exact this.2.2.1 i hi, fun i hi => by rw [up_ne _ _ _ (by decide)]; exact this.2.2.2 i hi⟩
      obtain ⟨M2, v1, v2, v3⟩ := c_X0_takeOver (lx := lx) (xs := xs) (M := up M1 28 4 (nI 0)) (o := 8) (p := 31) (by omega) (plS_WF hW g2 g3) pr
      rw [plS_5] at v1
      have fr2 : ∀ c, c ≠ 8 → c ≠ 9 → c ≠ 10 → c < 28 ∨ 33 < c → M2 c = M c := fun c h1 h2 h3 h4 => by
        rw [v2 c (by omega), up_ne _ _ _ (by omega)]
        exact fr c (by omega) (by omega) (by omega) (by omega) (by omega) (by omega)
      refine ⟨M2, RepAC_ft hR (plS_RepC hR.1 (fun c h1 h2 => fr2 c (by omega) (by omega) (by omega) (by omega)) v1) (fun i hi => by rw [fr2 5 (by omega) (by omega) (by omega) (by omega)]; exact hR.2.1 i hi) (fun c hc => fr2 c (by omega) (by omega) (by omega) (by omega)) (by rw [v2 28 (by omega), up_at]), fun c hc => fr2 c (by omega) (by omega) (by omega) (by omega), fun Q => ?_⟩
      have a6 := a5 1994
      have u4 := u2 1994
      have v4 := v3 1996
      simp only [Nat.reduceAdd] at a6 u4 v4
      have c1 := hR.1.1
      simp (disch := omega) only [s_24_0, s_24_1, s_24_4, s_24_5, s_24_8, s_24_11, s_24_14, s_24_15, s_24_16, s_24_19, s_24_22, s_24_23, s_24_26, s_24_27, s_24_30, s_24_33, s_24_34, s_24_37, s_24_40, s_24_43, s_24_44, s_80_0, s_80_1, s_80_2, s_80_5, ↓reduceIte, c1, a6, u4, ap_some, ap_none, i_l0, v4]
    · have hT : TPM M n T := ⟨hR.2.2.2.1, hR.2.2.2.2.1, hn, t4⟩
      obtain ⟨M1, u1, u2, u3, u5⟩ := g7 lx xs (up M 53 11 (nI 0)) 0 (TPM_up hT (by decide)) (by rw [up_off (by decide)]; exact hR.1.1) up_at (Nat.zero_le n) rfl (fun i hi => by omega)
      have fr : frQ M M1 := frQ_tr (frQ_up ⟨fun _ _ _ => rfl, fun _ _ _ => rfl⟩ (by omega)) u1
      obtain ⟨N, hN⟩ : ∃ N, N = up (up M1 53 10 (nI 0)) 53 6 (nI K) := ⟨_, rfl⟩
      have nf : ∀ c, c ≠ 53 → N c = M1 c := fun c hc => by rw [hN, up_ne _ _ _ hc, up_ne _ _ _ hc]
      have nj : ∀ j, j ≠ 10 → j ≠ 6 → N 53 j = M1 53 j := fun j h1 h2 => by rw [hN, up_off h2, up_off h1]
      have n12 : N 53 12 = nI K := by rw [nj 12 (by decide) (by decide)]; exact u2
      have n6 : N 53 6 = nI K := by rw [hN, up_at]
      have n10 : N 53 10 = nI 0 := by rw [hN, up_off (by decide), up_at]
      have u6 := u5 1995
      simp only [Nat.reduceAdd] at u6
      have rp : ∀ Q, Go 1998 135 0 [some (.ref 53), none, none, none] [] (HP lx xs M) Q = Q (some (.int (nI 1))) (HP lx xs M1) := fun Q => by
        simp (disch := omega) only [s_135_0, s_135_1, s_135_2, s_135_5, s_135_6, s_135_7, s_135_8, u6]
      refine ⟨upr N 58 (mix (N 58) (N 60) (4 * K)), RepAM_ft hR (plS_RepM hR.1 (fun c h1 h2 => ?_) ?_ ?_ ?_ ?_ (fun i hi => ?_)) (fun c hc => ?_) ?_ ?_, fun c hc => ?_, fun Q => ?_⟩
      · rw [upr_ne _ _ (by omega), nf _ (by omega)]; exact fr.1 c (by omega) (by omega)
      · rw [upr_ne _ _ (by decide), nj _ (by decide) (by decide)]; exact fr.2 4 (by decide) (by decide)
      · rw [upr_ne _ _ (by decide), nj _ (by decide) (by decide)]; exact fr.2 7 (by decide) (by decide)
      · rw [upr_ne _ _ (by decide), nj _ (by decide) (by decide)]; exact fr.2 8 (by decide) (by decide)
      · rw [upr_ne _ _ (by decide)]; exact n6
      · rw [upr_eq, mix_lt (by omega), mix_lt (by omega), mix_lt (by omega), mix_lt (by omega), nf _ (by decide)]
        exact u3 i hi
      · rw [upr_ne _ _ (by omega), nf _ (by omega)]; exact fr.1 c (by omega) (by omega)
      · rw [upr_ne _ _ (by decide), nj _ (by decide) (by decide)]; exact fr.2 28 (by decide) (by decide)
      · rw [upr_ne _ _ (by decide)]; exact n10
      · rw [upr_ne _ _ (by omega), nf _ (by omega)]; exact fr.1 c (by omega) (by omega)
      · have lp := loopN (fun j => Go 1999 136 41 [some (.ref 53), some (.int (nI 1)), some (.int (nI j))] [] (HP lx xs (upr N 58 (mix (N 58) (N 60) j))) Q) (4 * K) fun j hj => by
          show Go 1999 _ 41 _ _ _ _ = Go 1999 _ 41 _ _ _ _
          rw [s_136_41]
          simp (disch := omega) only [s_136_42, s_136_43, s_136_44, s_136_47, s_136_48, s_136_51, s_136_52, s_136_55, s_136_56, s_136_57, s_136_60, s_136_61, s_136_62, s_136_63, s_136_66, ↓reduceIte, upr_ne, n12, i_mul, i_lt, hj, i_in, i_cl, true_and, up_upr, i_add]
          rw [mix_up]
        try dsimp only at lp
        rw [mix_0, upr_self] at lp
        have e12 : (up M1 53 10 (nI 0)) 53 12 = nI K := by rw [up_off (by decide)]; exact u2
        have st : Go 1999 136 0 [some (.ref 53), none, none] [] (HP lx xs M) Q = Go 1999 136 41 [some (.ref 53), some (.int (nI 1)), some (.int (nI 0))] [] (HP lx xs N) Q := by
          simp (disch := omega) only [s_136_0, s_136_1, s_136_4, s_136_5, s_136_6, s_136_9, s_136_10, s_136_13, s_136_14, s_136_15, s_136_16, s_136_19, s_136_20, s_136_23, s_136_25, s_136_26, s_136_29, s_136_30, s_136_31, s_136_32, s_136_33, s_136_36, s_136_39, s_136_40, ↓reduceIte, rp, ap_some, n1_0, e12]
          rw [hN]
        rw [st, lp, s_136_41]
        simp (disch := omega) only [s_136_42, s_136_43, s_136_44, s_136_47, s_136_48, s_136_69, s_136_70, s_136_73, ↓reduceIte, upr_ne, n12, n6, i_mul, i_lt, Nat.lt_irrefl]
end P3
