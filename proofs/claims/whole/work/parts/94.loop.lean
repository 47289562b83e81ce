/-! the law: its loop -/
theorem lp_end {L n : Nat} (hL : L ≤ 3584) (hn : n ≤ 3584) : (nI L - 7 < nI n) ↔ L < n + 7 := by
  rw [Int32.lt_iff_toInt_lt, show (7 : Int32) = nI 7 from rfl, pk_sub_toInt (by omega) (by decide), nI_toInt (by omega)]
  omega
theorem law_loop {G : Gk} {nm : String} {b L x m : Nat} {xs : Nat → Int32} (hL : L ≤ 3584) : ∀ (c n : Nat) (h : Hp) (s : Mem), n + c = 512 → LJ G b L xs x m h s → Inv n s → V G (la nm) (pI fun r _ => r = 1) h (600 * c) (3480 * c) 18 [some (.ref b), some (.ref x), some (.ref m), some (.int (nI (7 * n)))] [] := by
  intro c
  induction c with
  | zero =>
    intro n h s hc hJ I
    obtain ⟨g, am, _, _, _, _, hb, _⟩ := id hJ
    refine V_iload_n d_la_law_18 rfl rfl ?_
    refine V_aload_n d_la_law_19 rfl rfl ?_
    refine V_slen d_la_law_20 hb ?_
    rw [scrL_len]
    refine V_bipush (v := 7) d_la_law_21 (by decide) ?_
    refine V_isub d_la_law_23 ?_
    refine V_icmp_gt d_la_law_24 (fun q => ?_) (fun q => ?_)
    · refine V_iconst (v := 1) d_la_law_1463 (by decide) ?_
      refine V_zreturn d_la_law_1464 rfl (Or.inr rfl) ?_
      exact ⟨1, rfl, rfl⟩
    · exact absurd ((lp_end hL (by omega)).mpr (by omega)) q
  | succ c ih =>
    intro n h s hc hJ I
    have K : ∀ h' t, LJ G b L xs x m h' t → Inv (n + 1) t → V G (la nm) (pI fun r _ => r = 1) h' (600 * c) (3480 * c) 1457 [some (.ref b), some (.ref x), some (.ref m), some (.int (nI (7 * n)))] [] := by
      intro h' t hJ' I'
      refine V_iinc (v := nI (7 * (n + 1))) d_la_law_1457 rfl ?_ (Nat.le_of_ble_eq_true rfl) rfl rfl ?_
      · rw [show Int32.ofInt 7 = nI 7 from rfl, nI_add]; rfl
      · dsimp only [List.set]
        refine V_goto d_la_law_1460 ?_
        exact ih (n + 1) h' t (by omega) hJ' I'
    rw [Nat.mul_succ, Nat.mul_succ]
    obtain ⟨g, am, _, _, _, _, hb, _⟩ := id hJ
    refine V_iload_n d_la_law_18 rfl rfl ?_
    refine V_aload_n d_la_law_19 rfl rfl ?_
    refine V_slen d_la_law_20 hb ?_
    rw [scrL_len]
    refine V_bipush (v := 7) d_la_law_21 (by decide) ?_
    refine V_isub d_la_law_23 ?_
    refine V_icmp_gt d_la_law_24 (fun q => ?_) (fun q => ?_)
    · refine V_iconst (v := 1) d_la_law_1463 (by decide) ?_
      refine V_zreturn d_la_law_1464 rfl (Or.inr rfl) ?_
      exact ⟨1, rfl, rfl⟩
    · have h7 : 7 * n + 6 < L := by
        have := mt (lp_end hL (by omega)).mpr q
        omega
      refine V_aload_n d_la_law_27 rfl rfl ?_
      refine V_iload_n d_la_law_28 rfl rfl ?_
      refine V_sld (7 * n) d_la_law_29 hb rfl (by omega) (scrL_get (by omega)) ?_
      refine V_bipush (v := 63) d_la_law_30 (by decide) ?_
      refine V_iand d_la_law_32 ?_
      generalize xs (7 * n) &&& 63 = v
      by_cases w0 : v = 0
      · subst w0
        refine V_tableIn (off := 151) (tgt := 184) d_la_law_33 (by decide) (by decide) rfl (by decide) ?_
        exact law_0 hL h7 hJ I (by omega) K
      by_cases w1 : v = 1
      · subst w1
        refine V_tableIn (off := 174) (tgt := 207) d_la_law_33 (by decide) (by decide) rfl (by decide) ?_
        exact law_1 hL h7 hJ I (by omega) K
      by_cases w2 : v = 2
      · subst w2
        refine V_tableIn (off := 269) (tgt := 302) d_la_law_33 (by decide) (by decide) rfl (by decide) ?_
        exact law_2 hL h7 hJ I (by omega) K
      by_cases w3 : v = 3
      · subst w3
        refine V_tableIn (off := 408) (tgt := 441) d_la_law_33 (by decide) (by decide) rfl (by decide) ?_
        exact law_3 hL h7 hJ I (by omega) K
      by_cases w4 : v = 4
      · subst w4
        refine V_tableIn (off := 461) (tgt := 494) d_la_law_33 (by decide) (by decide) rfl (by decide) ?_
        exact law_4 hL h7 hJ I (by omega) K
      by_cases w5 : v = 5
      · subst w5
        refine V_tableIn (off := 504) (tgt := 537) d_la_law_33 (by decide) (by decide) rfl (by decide) ?_
        exact law_5 hL h7 hJ I (by omega) K
      by_cases w6 : v = 6
      · subst w6
        refine V_tableIn (off := 527) (tgt := 560) d_la_law_33 (by decide) (by decide) rfl (by decide) ?_
        exact law_6 hL h7 hJ I (by omega) K
      by_cases w7 : v = 7
      · subst w7
        refine V_tableIn (off := 560) (tgt := 593) d_la_law_33 (by decide) (by decide) rfl (by decide) ?_
        exact law_7 hL h7 hJ I (by omega) K
      by_cases w8 : v = 8
      · subst w8
        refine V_tableIn (off := 603) (tgt := 636) d_la_law_33 (by decide) (by decide) rfl (by decide) ?_
        exact law_8 hL h7 hJ I (by omega) K
      by_cases w9 : v = 9
      · subst w9
        refine V_tableIn (off := 626) (tgt := 659) d_la_law_33 (by decide) (by decide) rfl (by decide) ?_
        exact law_9 hL h7 hJ I (by omega) K
      by_cases w10 : v = 10
      · subst w10
        refine V_tableIn (off := 649) (tgt := 682) d_la_law_33 (by decide) (by decide) rfl (by decide) ?_
        exact law_10 hL h7 hJ I (by omega) K
      by_cases w11 : v = 11
      · subst w11
        refine V_tableIn (off := 682) (tgt := 715) d_la_law_33 (by decide) (by decide) rfl (by decide) ?_
        exact law_11 hL h7 hJ I (by omega) K
      by_cases w12 : v = 12
      · subst w12
        refine V_tableIn (off := 725) (tgt := 758) d_la_law_33 (by decide) (by decide) rfl (by decide) ?_
        exact law_12 hL h7 hJ I (by omega) K
      by_cases w13 : v = 13
      · subst w13
        refine V_tableIn (off := 768) (tgt := 801) d_la_law_33 (by decide) (by decide) rfl (by decide) ?_
        exact law_13 hL h7 hJ I (by omega) K
      by_cases w14 : v = 14
      · subst w14
        refine V_tableIn (off := 801) (tgt := 834) d_la_law_33 (by decide) (by decide) rfl (by decide) ?_
        exact law_14 hL h7 hJ I (by omega) K
      by_cases w15 : v = 15
      · subst w15
        refine V_tableIn (off := 854) (tgt := 887) d_la_law_33 (by decide) (by decide) rfl (by decide) ?_
        exact law_15 hL h7 hJ I (by omega) K
      by_cases w16 : v = 16
      · subst w16
        refine V_tableIn (off := 897) (tgt := 930) d_la_law_33 (by decide) (by decide) rfl (by decide) ?_
        exact law_16 hL h7 hJ I (by omega) K
      by_cases w17 : v = 17
      · subst w17
        refine V_tableIn (off := 966) (tgt := 999) d_la_law_33 (by decide) (by decide) rfl (by decide) ?_
        exact law_17 hL h7 hJ I (by omega) K
      by_cases w18 : v = 18
      · subst w18
        refine V_tableIn (off := 979) (tgt := 1012) d_la_law_33 (by decide) (by decide) rfl (by decide) ?_
        exact law_18 hL h7 hJ I (by omega) K
      by_cases w19 : v = 19
      · subst w19
        refine V_tableIn (off := 992) (tgt := 1025) d_la_law_33 (by decide) (by decide) rfl (by decide) ?_
        exact law_19 hL h7 hJ I (by omega) K
      by_cases w20 : v = 20
      · subst w20
        refine V_tableIn (off := 1005) (tgt := 1038) d_la_law_33 (by decide) (by decide) rfl (by decide) ?_
        exact law_20 hL h7 hJ I (by omega) K
      by_cases w21 : v = 21
      · subst w21
        refine V_tableIn (off := 1018) (tgt := 1051) d_la_law_33 (by decide) (by decide) rfl (by decide) ?_
        exact law_21 hL h7 hJ I (by omega) K
      by_cases w22 : v = 22
      · subst w22
        refine V_tableIn (off := 1031) (tgt := 1064) d_la_law_33 (by decide) (by decide) rfl (by decide) ?_
        exact law_22 hL h7 hJ I (by omega) K
      by_cases w23 : v = 23
      · subst w23
        refine V_tableIn (off := 1044) (tgt := 1077) d_la_law_33 (by decide) (by decide) rfl (by decide) ?_
        exact law_23 hL h7 hJ I (by omega) K
      by_cases w24 : v = 24
      · subst w24
        refine V_tableIn (off := 1087) (tgt := 1120) d_la_law_33 (by decide) (by decide) rfl (by decide) ?_
        exact law_24 hL h7 hJ I (by omega) K
      by_cases w25 : v = 25
      · subst w25
        refine V_tableIn (off := 1120) (tgt := 1153) d_la_law_33 (by decide) (by decide) rfl (by decide) ?_
        exact law_25 hL h7 hJ I (by omega) K
      by_cases w26 : v = 26
      · subst w26
        refine V_tableIn (off := 1153) (tgt := 1186) d_la_law_33 (by decide) (by decide) rfl (by decide) ?_
        exact law_26 hL h7 hJ I (by omega) K
      by_cases w27 : v = 27
      · subst w27
        refine V_tableIn (off := 1206) (tgt := 1239) d_la_law_33 (by decide) (by decide) rfl (by decide) ?_
        exact law_27 hL h7 hJ I (by omega) K
      by_cases w28 : v = 28
      · subst w28
        refine V_tableIn (off := 1229) (tgt := 1262) d_la_law_33 (by decide) (by decide) rfl (by decide) ?_
        exact law_28 hL h7 hJ I (by omega) K
      by_cases w29 : v = 29
      · subst w29
        refine V_tableIn (off := 1262) (tgt := 1295) d_la_law_33 (by decide) (by decide) rfl (by decide) ?_
        exact law_29 hL h7 hJ I (by omega) K
      by_cases w30 : v = 30
      · subst w30
        refine V_tableIn (off := 1331) (tgt := 1364) d_la_law_33 (by decide) (by decide) rfl (by decide) ?_
        exact law_30 hL h7 hJ I (by omega) K
      by_cases w31 : v = 31
      · subst w31
        refine V_tableIn (off := 1374) (tgt := 1407) d_la_law_33 (by decide) (by decide) rfl (by decide) ?_
        exact law_31 hL h7 hJ I (by omega) K
      by_cases w32 : v = 32
      · subst w32
        refine V_tableIn (off := 1387) (tgt := 1420) d_la_law_33 (by decide) (by decide) rfl (by decide) ?_
        exact law_32 hL h7 hJ I (by omega) K
      by_cases w33 : v = 33
      · subst w33
        refine V_tableIn (off := 1410) (tgt := 1443) d_la_law_33 (by decide) (by decide) rfl (by decide) ?_
        exact law_33 hL h7 hJ I (by omega) K
      refine V_tableOut (tgt := 1457) d_la_law_33 (sw_out (n := 33) (fun k hk => by rcases (show k = 0 ∨ k = 1 ∨ k = 2 ∨ k = 3 ∨ k = 4 ∨ k = 5 ∨ k = 6 ∨ k = 7 ∨ k = 8 ∨ k = 9 ∨ k = 10 ∨ k = 11 ∨ k = 12 ∨ k = 13 ∨ k = 14 ∨ k = 15 ∨ k = 16 ∨ k = 17 ∨ k = 18 ∨ k = 19 ∨ k = 20 ∨ k = 21 ∨ k = 22 ∨ k = 23 ∨ k = 24 ∨ k = 25 ∨ k = 26 ∨ k = 27 ∨ k = 28 ∨ k = 29 ∨ k = 30 ∨ k = 31 ∨ k = 32 ∨ k = 33 by omega) with rfl | rfl | rfl | rfl | rfl | rfl | rfl | rfl | rfl | rfl | rfl | rfl | rfl | rfl | rfl | rfl | rfl | rfl | rfl | rfl | rfl | rfl | rfl | rfl | rfl | rfl | rfl | rfl | rfl | rfl | rfl | rfl | rfl | rfl; exact w0; exact w1; exact w2; exact w3; exact w4; exact w5; exact w6; exact w7; exact w8; exact w9; exact w10; exact w11; exact w12; exact w13; exact w14; exact w15; exact w16; exact w17; exact w18; exact w19; exact w20; exact w21; exact w22; exact w23; exact w24; exact w25; exact w26; exact w27; exact w28; exact w29; exact w30; exact w31; exact w32; exact w33)) (by decide) ?_
      refine V.need ?_ (Nat.le_add_right _ 600) (Nat.le_add_right _ 3480)
      exact K h s hJ (I.sc (Sc.rf s))
