/-! ===== THE LAW'S LOOP ===== -/
theorem law_next {G : Gl} {C : Ct} {b Ls : Nat} {xs : Nat → Int32} {Q : Ct → State → Prop} {k n : Nat} {i : Int} {M : Mem} (LC : LawC G C b Ls xs) (h0 : 0 ≤ i) (h6 : i + 6 ≤ Ls) (kk : J SHL G room_1 (.inr Q) C k n 28 (L0 (i + 6)) [] M) : J SHL G room_1 (.inr Q) C k n 3989 (L0 i) [] M := by
  obtain ⟨X, nc, hsc, hz, hL⟩ := LC
  have hL9 : (Ls : Int) ≤ 3072 := by omega
  refine s_iinc X 5 rfl (by unfold InR; omega) rfl rfl (by omega) dL_law_3989 ?_
  refine s_goto (tgt := 28) X dL_law_3992 (by omega) ?_
  exact s_loc [1, 2, 3, 4, 5, 0] rfl kk
set_option maxRecDepth 20000 in
set_option maxHeartbeats 4000000 in
theorem law_loop {G : Gl} {C : Ct} {b Ls : Nat} {xs : Nat → Int32} {Q : Ct → State → Prop} {Inv : Mem → Mem → Prop} (LC : LawC G C b Ls xs) (hIC : InvC Inv) (hst : STall Inv) (hex : ∀ (i : Int) (M : Mem) (k n : Nat), k ≤ 603072 → n ≤ 7223402 → J SHL G room_1 (.inr Q) C k n 3995 (L0 i) [] M) : ∀ (t : Nat) (i : Int) (k n : Nat) (M : Mem), 0 ≤ i → (Ls : Int) - i < 6 * t + 6 → i ≤ 4000 → k + 100 * t ≤ 603072 → n + 600 * t ≤ 7223402 → Inv M (offM 455 M) → J SHL G room_1 (.inr Q) C k n 28 (L0 i) [] M := by
  intro t
  induction t with
  | zero =>
    intro i k n M h0 ht hi4 hk hn hI
    obtain ⟨X, nc, hsc, hz, hL⟩ := id LC
    refine s_iload X 5 rfl dL_law_28 ?_
    refine s_load0 X 0 rfl dL_law_30 ?_
    refine s_slen X hsc hz hL dL_law_31 ?_
    refine s_bipush X (by omega) dL_law_32 ?_
    refine s_isub X (by unfold InR; omega) dL_law_34 ?_
    refine s_icmpgt_t (tgt := 3995) X dL_law_35 (by omega) (fun _ => hex i M k n (by omega) (by omega)) (fun q => absurd ?_ q)
    omega
  | succ t ih =>
    intro i k n M h0 ht hi4 hk hn hI
    obtain ⟨X, nc, hsc, hz, hL⟩ := id LC
    refine s_iload X 5 rfl dL_law_28 ?_
    refine s_load0 X 0 rfl dL_law_30 ?_
    refine s_slen X hsc hz hL dL_law_31 ?_
    refine s_bipush X (by omega) dL_law_32 ?_
    refine s_isub X (by unfold InR; omega) dL_law_34 ?_
    refine s_icmpgt_t (tgt := 3995) X dL_law_35 (by omega) (fun _ => hex i M k n (by omega) (by omega)) (fun q => ?_)
    have h6 : i + 6 ≤ Ls := by omega
    have nx : ∀ M2 : Mem, Inv M2 (offM 455 M2) → J SHL G room_1 (.inr Q) C (k + 100) (n + 600) 3989 (L0 i) [] M2 := fun M2 h2 => law_next LC h0 h6 (ih (i + 6) (k + 100) (n + 600) M2 (by omega) (by omega) (by omega) (by omega) (by omega) h2)
    refine s_load0 X 0 rfl dL_law_38 ?_
    refine s_iload X 5 rfl dL_law_39 ?_
    refine s_sld X hsc hz (by omega) (by omega) dL_law_41 ?_
    refine s_bipush X (by omega) dL_law_42 ?_
    refine s_iand X dL_law_44 ?_
    obtain ⟨a1, a2⟩ := and63 (xs i.toNat).toInt
    obtain ⟨w, hw⟩ : ∃ w, w = jiand (xs i.toNat).toInt 63 := ⟨_, rfl⟩
    rw [← hw] at a1 a2 ⊢
    have hc : w = 0 ∨ w = 1 ∨ w = 2 ∨ w = 3 ∨ w = 4 ∨ w = 5 ∨ w = 6 ∨ w = 7 ∨ w = 8 ∨ w = 9 ∨ w = 10 ∨ w = 11 ∨ w = 12 ∨ w = 13 ∨ w = 14 ∨ w = 15 ∨ w = 16 ∨ w = 17 ∨ w = 18 ∨ w = 19 ∨ w = 20 ∨ w = 21 ∨ w = 22 ∨ w = 23 ∨ w = 24 ∨ w = 25 ∨ w = 26 ∨ w = 27 ∨ w = 28 ∨ w = 29 ∨ w = 30 ∨ w = 31 ∨ w = 32 ∨ w = 33 ∨ w = 34 ∨ w = 35 ∨ w = 36 ∨ w = 37 ∨ w = 38 ∨ w = 39 ∨ w = 40 ∨ w = 41 ∨ w = 42 ∨ w = 43 ∨ w = 44 ∨ w = 45 ∨ w = 46 ∨ w = 47 ∨ w = 48 ∨ w = 49 ∨ w = 50 ∨ w = 51 ∨ 51 < w := by omega
    rcases hc with rfl | rfl | rfl | rfl | rfl | rfl | rfl | rfl | rfl | rfl | rfl | rfl | rfl | rfl | rfl | rfl | rfl | rfl | rfl | rfl | rfl | rfl | rfl | rfl | rfl | rfl | rfl | rfl | rfl | rfl | rfl | rfl | rfl | rfl | rfl | rfl | rfl | rfl | rfl | rfl | rfl | rfl | rfl | rfl | rfl | rfl | rfl | rfl | rfl | rfl | rfl | rfl | hc
    · exact s_tabIn (z := 0) (off := 223) (tgt := 268) X dL_law_45 (by omega) (by omega) rfl (by omega) (T_stop LC hIC hst.1 h0 h6 (by omega) (by omega) hI nx)
    · exact s_tabIn (z := 1) (off := 279) (tgt := 324) X dL_law_45 (by omega) (by omega) rfl (by omega) (T_setChange LC hIC hst.2.1 h0 h6 (by omega) (by omega) hI nx)
    · exact s_tabIn (z := 2) (off := 347) (tgt := 392) X dL_law_45 (by omega) (by omega) rfl (by omega) (T_walk LC hIC hst.2.2.1 h0 h6 (by omega) (by omega) hI nx)
    · exact s_tabIn (z := 3) (off := 427) (tgt := 472) X dL_law_45 (by omega) (by omega) rfl (by omega) (T_walkTime LC hIC hst.2.2.2.1 h0 h6 (by omega) (by omega) hI nx)
    · exact s_tabIn (z := 4) (off := 495) (tgt := 540) X dL_law_45 (by omega) (by omega) rfl (by omega) (T_service LC hIC hst.2.2.2.2.1 h0 h6 (by omega) (by omega) hI nx)
    · exact s_tabIn (z := 5) (off := 539) (tgt := 584) X dL_law_45 (by omega) (by omega) rfl (by omega) (T_week LC hIC hst.2.2.2.2.2.1 h0 h6 (by omega) (by omega) hI nx)
    · exact s_tabIn (z := 6) (off := 631) (tgt := 676) X dL_law_45 (by omega) (by omega) rfl (by omega) (T_putDay LC hIC hst.2.2.2.2.2.2.1 h0 h6 (by omega) (by omega) hI nx)
    · exact s_tabIn (z := 7) (off := 734) (tgt := 779) X dL_law_45 (by omega) (by omega) rfl (by omega) (T_runsOn LC hIC hst.2.2.2.2.2.2.2.1 h0 h6 (by omega) (by omega) hI nx)
    · exact s_tabIn (z := 8) (off := 809) (tgt := 854) X dL_law_45 (by omega) (by omega) rfl (by omega) (T_nextDay LC hIC hst.2.2.2.2.2.2.2.2.1 h0 h6 (by omega) (by omega) hI nx)
    · exact s_tabIn (z := 9) (off := 877) (tgt := 922) X dL_law_45 (by omega) (by omega) rfl (by omega) (T_trip LC hIC hst.2.2.2.2.2.2.2.2.2.1 h0 h6 (by omega) (by omega) hI nx)
    · exact s_tabIn (z := 10) (off := 957) (tgt := 1002) X dL_law_45 (by omega) (by omega) rfl (by omega) (T_call LC hIC hst.2.2.2.2.2.2.2.2.2.2.1 h0 h6 (by omega) (by omega) hI nx)
    · exact s_tabIn (z := 11) (off := 1049) (tgt := 1094) X dL_law_45 (by omega) (by omega) rfl (by omega) (T_trips LC hIC hst.2.2.2.2.2.2.2.2.2.2.2.1 h0 h6 (by omega) (by omega) hI nx)
    · exact s_tabIn (z := 12) (off := 1062) (tgt := 1107) X dL_law_45 (by omega) (by omega) rfl (by omega) (T_calls LC hIC hst.2.2.2.2.2.2.2.2.2.2.2.2.1 h0 h6 (by omega) (by omega) hI nx)
    · exact s_tabIn (z := 13) (off := 1118) (tgt := 1163) X dL_law_45 (by omega) (by omega) rfl (by omega) (T_stopAt LC hIC hst.2.2.2.2.2.2.2.2.2.2.2.2.2.1 h0 h6 (by omega) (by omega) hI nx)
    · exact s_tabIn (z := 14) (off := 1186) (tgt := 1231) X dL_law_45 (by omega) (by omega) rfl (by omega) (T_timeAt LC hIC hst.2.2.2.2.2.2.2.2.2.2.2.2.2.2.1 h0 h6 (by omega) (by omega) hI nx)
    · exact s_tabIn (z := 15) (off := 1282) (tgt := 1327) X dL_law_45 (by omega) (by omega) rfl (by omega) (T_shift LC hIC hst.2.2.2.2.2.2.2.2.2.2.2.2.2.2.2.1 h0 h6 (by omega) (by omega) hI nx)
    · exact s_tabIn (z := 16) (off := 1350) (tgt := 1395) X dL_law_45 (by omega) (by omega) rfl (by omega) (T_type LC hIC hst.2.2.2.2.2.2.2.2.2.2.2.2.2.2.2.2.1 h0 h6 (by omega) (by omega) hI nx)
    · exact s_tabIn (z := 17) (off := 1408) (tgt := 1453) X dL_law_45 (by omega) (by omega) rfl (by omega) (T_typeNumber LC hIC hst.2.2.2.2.2.2.2.2.2.2.2.2.2.2.2.2.2.1 h0 h6 (by omega) (by omega) hI nx)
    · exact s_tabIn (z := 18) (off := 1464) (tgt := 1509) X dL_law_45 (by omega) (by omega) rfl (by omega) (T_erase LC hIC hst.2.2.2.2.2.2.2.2.2.2.2.2.2.2.2.2.2.2.1 h0 h6 (by omega) (by omega) hI nx)
    · exact s_tabIn (z := 19) (off := 1477) (tgt := 1522) X dL_law_45 (by omega) (by omega) rfl (by omega) (T_readRow LC hIC hst.2.2.2.2.2.2.2.2.2.2.2.2.2.2.2.2.2.2.2.1 h0 h6 (by omega) (by omega) hI nx)
    · exact s_tabIn (z := 20) (off := 1521) (tgt := 1566) X dL_law_45 (by omega) (by omega) rfl (by omega) (T_faultAt LC hIC hst.2.2.2.2.2.2.2.2.2.2.2.2.2.2.2.2.2.2.2.2.1 h0 h6 (by omega) (by omega) hI nx)
    · exact s_tabIn (z := 21) (off := 1565) (tgt := 1610) X dL_law_45 (by omega) (by omega) rfl (by omega) (T_late LC hIC hst.2.2.2.2.2.2.2.2.2.2.2.2.2.2.2.2.2.2.2.2.2.1 h0 h6 (by omega) (by omega) hI nx)
    · exact s_tabIn (z := 22) (off := 1657) (tgt := 1702) X dL_law_45 (by omega) (by omega) rfl (by omega) (T_lateness LC hIC hst.2.2.2.2.2.2.2.2.2.2.2.2.2.2.2.2.2.2.2.2.2.2.1 h0 h6 (by omega) (by omega) hI nx)
    · exact s_tabIn (z := 23) (off := 1737) (tgt := 1782) X dL_law_45 (by omega) (by omega) rfl (by omega) (T_onTime LC hIC hst.2.2.2.2.2.2.2.2.2.2.2.2.2.2.2.2.2.2.2.2.2.2.2.1 h0 h6 (by omega) (by omega) hI nx)
    · exact s_tabIn (z := 24) (off := 1750) (tgt := 1795) X dL_law_45 (by omega) (by omega) rfl (by omega) (T_earliest LC hIC hst.2.2.2.2.2.2.2.2.2.2.2.2.2.2.2.2.2.2.2.2.2.2.2.2.1 h0 h6 (by omega) (by omega) hI nx)
    · exact s_tabIn (z := 25) (off := 1842) (tgt := 1887) X dL_law_45 (by omega) (by omega) rfl (by omega) (T_earliestByQueue LC hIC hst.2.2.2.2.2.2.2.2.2.2.2.2.2.2.2.2.2.2.2.2.2.2.2.2.2.1 h0 h6 (by omega) (by omega) hI nx)
    · exact s_tabIn (z := 26) (off := 1934) (tgt := 1979) X dL_law_45 (by omega) (by omega) rfl (by omega) (T_earliestByRounds LC hIC hst.2.2.2.2.2.2.2.2.2.2.2.2.2.2.2.2.2.2.2.2.2.2.2.2.2.2.1 h0 h6 (by omega) (by omega) hI nx)
    · exact s_tabIn (z := 27) (off := 2026) (tgt := 2071) X dL_law_45 (by omega) (by omega) rfl (by omega) (T_wall LC hIC hst.2.2.2.2.2.2.2.2.2.2.2.2.2.2.2.2.2.2.2.2.2.2.2.2.2.2.2.1 h0 h6 (by omega) (by omega) hI nx)
    · exact s_tabIn (z := 28) (off := 2118) (tgt := 2163) X dL_law_45 (by omega) (by omega) rfl (by omega) (T_last LC hIC hst.2.2.2.2.2.2.2.2.2.2.2.2.2.2.2.2.2.2.2.2.2.2.2.2.2.2.2.2.1 h0 h6 (by omega) (by omega) hI nx)
    · exact s_tabIn (z := 29) (off := 2210) (tgt := 2255) X dL_law_45 (by omega) (by omega) rfl (by omega) (T_chain LC hIC hst.2.2.2.2.2.2.2.2.2.2.2.2.2.2.2.2.2.2.2.2.2.2.2.2.2.2.2.2.2.1 h0 h6 (by omega) (by omega) hI nx)
    · exact s_tabIn (z := 30) (off := 2302) (tgt := 2347) X dL_law_45 (by omega) (by omega) rfl (by omega) (T_ride LC hIC hst.2.2.2.2.2.2.2.2.2.2.2.2.2.2.2.2.2.2.2.2.2.2.2.2.2.2.2.2.2.2.1 h0 h6 (by omega) (by omega) hI nx)
    · exact s_tabIn (z := 31) (off := 2372) (tgt := 2417) X dL_law_45 (by omega) (by omega) rfl (by omega) (T_onBoard LC hIC hst.2.2.2.2.2.2.2.2.2.2.2.2.2.2.2.2.2.2.2.2.2.2.2.2.2.2.2.2.2.2.2.1 h0 h6 (by omega) (by omega) hI nx)
    · exact s_tabIn (z := 32) (off := 2464) (tgt := 2509) X dL_law_45 (by omega) (by omega) rfl (by omega) (T_pairs LC hIC hst.2.2.2.2.2.2.2.2.2.2.2.2.2.2.2.2.2.2.2.2.2.2.2.2.2.2.2.2.2.2.2.2.1 h0 h6 (by omega) (by omega) hI nx)
    · exact s_tabIn (z := 33) (off := 2544) (tgt := 2589) X dL_law_45 (by omega) (by omega) rfl (by omega) (T_pair LC hIC hst.2.2.2.2.2.2.2.2.2.2.2.2.2.2.2.2.2.2.2.2.2.2.2.2.2.2.2.2.2.2.2.2.2.1 h0 h6 (by omega) (by omega) hI nx)
    · exact s_tabIn (z := 34) (off := 2664) (tgt := 2709) X dL_law_45 (by omega) (by omega) rfl (by omega) (T_byPairs LC hIC hst.2.2.2.2.2.2.2.2.2.2.2.2.2.2.2.2.2.2.2.2.2.2.2.2.2.2.2.2.2.2.2.2.2.2.1 h0 h6 (by omega) (by omega) hI nx)
    · exact s_tabIn (z := 35) (off := 2756) (tgt := 2801) X dL_law_45 (by omega) (by omega) rfl (by omega) (T_choices LC hIC hst.2.2.2.2.2.2.2.2.2.2.2.2.2.2.2.2.2.2.2.2.2.2.2.2.2.2.2.2.2.2.2.2.2.2.2.1 h0 h6 (by omega) (by omega) hI nx)
    · exact s_tabIn (z := 36) (off := 2848) (tgt := 2893) X dL_law_45 (by omega) (by omega) rfl (by omega) (T_choice LC hIC hst.2.2.2.2.2.2.2.2.2.2.2.2.2.2.2.2.2.2.2.2.2.2.2.2.2.2.2.2.2.2.2.2.2.2.2.2.1 h0 h6 (by omega) (by omega) hI nx)
    · exact s_tabIn (z := 37) (off := 2952) (tgt := 2997) X dL_law_45 (by omega) (by omega) rfl (by omega) (T_holds LC hIC hst.2.2.2.2.2.2.2.2.2.2.2.2.2.2.2.2.2.2.2.2.2.2.2.2.2.2.2.2.2.2.2.2.2.2.2.2.2.1 h0 h6 (by omega) (by omega) hI nx)
    · exact s_tabIn (z := 38) (off := 3063) (tgt := 3108) X dL_law_45 (by omega) (by omega) rfl (by omega) (T_wish LC hIC hst.2.2.2.2.2.2.2.2.2.2.2.2.2.2.2.2.2.2.2.2.2.2.2.2.2.2.2.2.2.2.2.2.2.2.2.2.2.2.1 h0 h6 (by omega) (by omega) hI nx)
    · exact s_tabIn (z := 39) (off := 3167) (tgt := 3212) X dL_law_45 (by omega) (by omega) rfl (by omega) (T_dropWishes LC hIC hst.2.2.2.2.2.2.2.2.2.2.2.2.2.2.2.2.2.2.2.2.2.2.2.2.2.2.2.2.2.2.2.2.2.2.2.2.2.2.2.1 h0 h6 (by omega) (by omega) hI nx)
    · exact s_tabIn (z := 40) (off := 3180) (tgt := 3225) X dL_law_45 (by omega) (by omega) rfl (by omega) (T_waitCost LC hIC hst.2.2.2.2.2.2.2.2.2.2.2.2.2.2.2.2.2.2.2.2.2.2.2.2.2.2.2.2.2.2.2.2.2.2.2.2.2.2.2.2.1 h0 h6 (by omega) (by omega) hI nx)
    · exact s_tabIn (z := 41) (off := 3248) (tgt := 3293) X dL_law_45 (by omega) (by omega) rfl (by omega) (T_bestWaits LC hIC hst.2.2.2.2.2.2.2.2.2.2.2.2.2.2.2.2.2.2.2.2.2.2.2.2.2.2.2.2.2.2.2.2.2.2.2.2.2.2.2.2.2.1 h0 h6 (by omega) (by omega) hI nx)
    · exact s_tabIn (z := 42) (off := 3304) (tgt := 3349) X dL_law_45 (by omega) (by omega) rfl (by omega) (T_lost LC hIC hst.2.2.2.2.2.2.2.2.2.2.2.2.2.2.2.2.2.2.2.2.2.2.2.2.2.2.2.2.2.2.2.2.2.2.2.2.2.2.2.2.2.2.1 h0 h6 (by omega) (by omega) hI nx)
    · exact s_tabIn (z := 43) (off := 3372) (tgt := 3417) X dL_law_45 (by omega) (by omega) rfl (by omega) (T_bridges LC hIC hst.2.2.2.2.2.2.2.2.2.2.2.2.2.2.2.2.2.2.2.2.2.2.2.2.2.2.2.2.2.2.2.2.2.2.2.2.2.2.2.2.2.2.2.1 h0 h6 (by omega) (by omega) hI nx)
    · exact s_tabIn (z := 44) (off := 3428) (tgt := 3473) X dL_law_45 (by omega) (by omega) rfl (by omega) (T_vehicles LC hIC hst.2.2.2.2.2.2.2.2.2.2.2.2.2.2.2.2.2.2.2.2.2.2.2.2.2.2.2.2.2.2.2.2.2.2.2.2.2.2.2.2.2.2.2.2.1 h0 h6 (by omega) (by omega) hI nx)
    · exact s_tabIn (z := 45) (off := 3484) (tgt := 3529) X dL_law_45 (by omega) (by omega) rfl (by omega) (T_vehiclesByMatching LC hIC hst.2.2.2.2.2.2.2.2.2.2.2.2.2.2.2.2.2.2.2.2.2.2.2.2.2.2.2.2.2.2.2.2.2.2.2.2.2.2.2.2.2.2.2.2.2.1 h0 h6 (by omega) (by omega) hI nx)
    · exact s_tabIn (z := 46) (off := 3540) (tgt := 3585) X dL_law_45 (by omega) (by omega) rfl (by omega) (T_gains LC hIC hst.2.2.2.2.2.2.2.2.2.2.2.2.2.2.2.2.2.2.2.2.2.2.2.2.2.2.2.2.2.2.2.2.2.2.2.2.2.2.2.2.2.2.2.2.2.2.1 h0 h6 (by omega) (by omega) hI nx)
    · exact s_tabIn (z := 47) (off := 3632) (tgt := 3677) X dL_law_45 (by omega) (by omega) rfl (by omega) (T_loses LC hIC hst.2.2.2.2.2.2.2.2.2.2.2.2.2.2.2.2.2.2.2.2.2.2.2.2.2.2.2.2.2.2.2.2.2.2.2.2.2.2.2.2.2.2.2.2.2.2.2.1 h0 h6 (by omega) (by omega) hI nx)
    · exact s_tabIn (z := 48) (off := 3724) (tgt := 3769) X dL_law_45 (by omega) (by omega) rfl (by omega) (T_reachShare LC hIC hst.2.2.2.2.2.2.2.2.2.2.2.2.2.2.2.2.2.2.2.2.2.2.2.2.2.2.2.2.2.2.2.2.2.2.2.2.2.2.2.2.2.2.2.2.2.2.2.2.1 h0 h6 (by omega) (by omega) hI nx)
    · exact s_tabIn (z := 49) (off := 3802) (tgt := 3847) X dL_law_45 (by omega) (by omega) rfl (by omega) (T_meanBetween LC hIC hst.2.2.2.2.2.2.2.2.2.2.2.2.2.2.2.2.2.2.2.2.2.2.2.2.2.2.2.2.2.2.2.2.2.2.2.2.2.2.2.2.2.2.2.2.2.2.2.2.2.1 h0 h6 (by omega) (by omega) hI nx)
    · exact s_tabIn (z := 50) (off := 3867) (tgt := 3912) X dL_law_45 (by omega) (by omega) rfl (by omega) (T_checksum LC hIC hst.2.2.2.2.2.2.2.2.2.2.2.2.2.2.2.2.2.2.2.2.2.2.2.2.2.2.2.2.2.2.2.2.2.2.2.2.2.2.2.2.2.2.2.2.2.2.2.2.2.2.1 h0 h6 (by omega) (by omega) hI nx)
    · exact s_tabIn (z := 51) (off := 3881) (tgt := 3926) X dL_law_45 (by omega) (by omega) rfl (by omega) (T_isSound LC hIC hst.2.2.2.2.2.2.2.2.2.2.2.2.2.2.2.2.2.2.2.2.2.2.2.2.2.2.2.2.2.2.2.2.2.2.2.2.2.2.2.2.2.2.2.2.2.2.2.2.2.2.2 h0 h6 (by omega) (by omega) hI nx)
    · exact s_tabOut (tgt := 3989) X dL_law_45 (Or.inr hc) (by omega) (s_le (by omega) (by omega) (nx M hI))
