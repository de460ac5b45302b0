/-! THE LAW'S LOOP -/
section LOOP
variable {p : Program} {l : Launch} {e : Env} {s : State} {mm : MethodId} {below : List Frame} {meth : Method} {cc : Code} {L : Nat} {xs : Nat → Int32} {D : va_G} {cA : Nat → ClassId} {ad : Nat → Nat}
theorem law_switch (cx : LX p s mm meth cc L xs D cA ad) (hL : L ≤ 3072) {i : Nat} {c m : JMu} (r : R c m) (hi : i + 6 ≤ L) (kk : ∀ c1 m1, R c1 m1 → LW p l e s mm below meth cc D cA ad 1368 [] (nI i) c1 m1) {j : Nat} (hj : j < 64) : LW p l e s mm below meth cc D cA ad 33 [.int (nI j)] (nI i) c m := by
  intro H locs ls h1 h2 hS hl
  by_cases h40 : 40 ≤ j
  · exact lv_tableOut cx.1.1 cx.1.2.1 dL_law_33 (Or.inr (by rw [nI_toInt (by omega)]; omega)) (tgt := 1368) (by decide) (kk c m r H locs ls h1 h2 hS hl)
  · rcases (show j = 0 ∨ j = 1 ∨ j = 2 ∨ j = 3 ∨ j = 4 ∨ j = 5 ∨ j = 6 ∨ j = 7 ∨ j = 8 ∨ j = 9 ∨ j = 10 ∨ j = 11 ∨ j = 12 ∨ j = 13 ∨ j = 14 ∨ j = 15 ∨ j = 16 ∨ j = 17 ∨ j = 18 ∨ j = 19 ∨ j = 20 ∨ j = 21 ∨ j = 22 ∨ j = 23 ∨ j = 24 ∨ j = 25 ∨ j = 26 ∨ j = 27 ∨ j = 28 ∨ j = 29 ∨ j = 30 ∨ j = 31 ∨ j = 32 ∨ j = 33 ∨ j = 34 ∨ j = 35 ∨ j = 36 ∨ j = 37 ∨ j = 38 ∨ j = 39 by omega) with rfl | rfl | rfl | rfl | rfl | rfl | rfl | rfl | rfl | rfl | rfl | rfl | rfl | rfl | rfl | rfl | rfl | rfl | rfl | rfl | rfl | rfl | rfl | rfl | rfl | rfl | rfl | rfl | rfl | rfl | rfl | rfl | rfl | rfl | rfl | rfl | rfl | rfl | rfl | rfl
    · exact lv_tableIn cx.1.1 cx.1.2.1 dL_law_33 (by decide) (by decide) (off := 175) rfl (tgt := 208) (by decide) (law_0 cx hi hL r kk H locs ls h1 h2 hS hl)
    · exact lv_tableIn cx.1.1 cx.1.2.1 dL_law_33 (by decide) (by decide) (off := 208) rfl (tgt := 241) (by decide) (law_1 cx hi hL r kk H locs ls h1 h2 hS hl)
    · exact lv_tableIn cx.1.1 cx.1.2.1 dL_law_33 (by decide) (by decide) (off := 231) rfl (tgt := 264) (by decide) (law_2 cx hi hL r kk H locs ls h1 h2 hS hl)
    · exact lv_tableIn cx.1.1 cx.1.2.1 dL_law_33 (by decide) (by decide) (off := 254) rfl (tgt := 287) (by decide) (law_3 cx hi hL r kk H locs ls h1 h2 hS hl)
    · exact lv_tableIn cx.1.1 cx.1.2.1 dL_law_33 (by decide) (by decide) (off := 277) rfl (tgt := 310) (by decide) (law_4 cx hi hL r kk H locs ls h1 h2 hS hl)
    · exact lv_tableIn cx.1.1 cx.1.2.1 dL_law_33 (by decide) (by decide) (off := 310) rfl (tgt := 343) (by decide) (law_5 cx hi hL r kk H locs ls h1 h2 hS hl)
    · exact lv_tableIn cx.1.1 cx.1.2.1 dL_law_33 (by decide) (by decide) (off := 343) rfl (tgt := 376) (by decide) (law_6 cx hi hL r kk H locs ls h1 h2 hS hl)
    · exact lv_tableIn cx.1.1 cx.1.2.1 dL_law_33 (by decide) (by decide) (off := 376) rfl (tgt := 409) (by decide) (law_7 cx hi hL r kk H locs ls h1 h2 hS hl)
    · exact lv_tableIn cx.1.1 cx.1.2.1 dL_law_33 (by decide) (by decide) (off := 409) rfl (tgt := 442) (by decide) (law_8 cx hi hL r kk H locs ls h1 h2 hS hl)
    · exact lv_tableIn cx.1.1 cx.1.2.1 dL_law_33 (by decide) (by decide) (off := 442) rfl (tgt := 475) (by decide) (law_9 cx hi hL r kk H locs ls h1 h2 hS hl)
    · exact lv_tableIn cx.1.1 cx.1.2.1 dL_law_33 (by decide) (by decide) (off := 465) rfl (tgt := 498) (by decide) (law_10 cx hi hL r kk H locs ls h1 h2 hS hl)
    · exact lv_tableIn cx.1.1 cx.1.2.1 dL_law_33 (by decide) (by decide) (off := 528) rfl (tgt := 561) (by decide) (law_11 cx hi hL r kk H locs ls h1 h2 hS hl)
    · exact lv_tableIn cx.1.1 cx.1.2.1 dL_law_33 (by decide) (by decide) (off := 551) rfl (tgt := 584) (by decide) (law_12 cx hi hL r kk H locs ls h1 h2 hS hl)
    · exact lv_tableIn cx.1.1 cx.1.2.1 dL_law_33 (by decide) (by decide) (off := 604) rfl (tgt := 637) (by decide) (law_13 cx hi hL r kk H locs ls h1 h2 hS hl)
    · exact lv_tableIn cx.1.1 cx.1.2.1 dL_law_33 (by decide) (by decide) (off := 627) rfl (tgt := 660) (by decide) (law_14 cx hi hL r kk H locs ls h1 h2 hS hl)
    · exact lv_tableIn cx.1.1 cx.1.2.1 dL_law_33 (by decide) (by decide) (off := 650) rfl (tgt := 683) (by decide) (law_15 cx hi hL r kk H locs ls h1 h2 hS hl)
    · exact lv_tableIn cx.1.1 cx.1.2.1 dL_law_33 (by decide) (by decide) (off := 693) rfl (tgt := 726) (by decide) (law_16 cx hi hL r kk H locs ls h1 h2 hS hl)
    · exact lv_tableIn cx.1.1 cx.1.2.1 dL_law_33 (by decide) (by decide) (off := 726) rfl (tgt := 759) (by decide) (law_17 cx hi hL r kk H locs ls h1 h2 hS hl)
    · exact lv_tableIn cx.1.1 cx.1.2.1 dL_law_33 (by decide) (by decide) (off := 749) rfl (tgt := 782) (by decide) (law_18 cx hi hL r kk H locs ls h1 h2 hS hl)
    · exact lv_tableIn cx.1.1 cx.1.2.1 dL_law_33 (by decide) (by decide) (off := 772) rfl (tgt := 805) (by decide) (law_19 cx hi hL r kk H locs ls h1 h2 hS hl)
    · exact lv_tableIn cx.1.1 cx.1.2.1 dL_law_33 (by decide) (by decide) (off := 785) rfl (tgt := 818) (by decide) (law_20 cx hi hL r kk H locs ls h1 h2 hS hl)
    · exact lv_tableIn cx.1.1 cx.1.2.1 dL_law_33 (by decide) (by decide) (off := 808) rfl (tgt := 841) (by decide) (law_21 cx hi hL r kk H locs ls h1 h2 hS hl)
    · exact lv_tableIn cx.1.1 cx.1.2.1 dL_law_33 (by decide) (by decide) (off := 831) rfl (tgt := 864) (by decide) (law_22 cx hi hL r kk H locs ls h1 h2 hS hl)
    · exact lv_tableIn cx.1.1 cx.1.2.1 dL_law_33 (by decide) (by decide) (off := 864) rfl (tgt := 897) (by decide) (law_23 cx hi hL r kk H locs ls h1 h2 hS hl)
    · exact lv_tableIn cx.1.1 cx.1.2.1 dL_law_33 (by decide) (by decide) (off := 897) rfl (tgt := 930) (by decide) (law_24 cx hi hL r kk H locs ls h1 h2 hS hl)
    · exact lv_tableIn cx.1.1 cx.1.2.1 dL_law_33 (by decide) (by decide) (off := 920) rfl (tgt := 953) (by decide) (law_25 cx hi hL r kk H locs ls h1 h2 hS hl)
    · exact lv_tableIn cx.1.1 cx.1.2.1 dL_law_33 (by decide) (by decide) (off := 943) rfl (tgt := 976) (by decide) (law_26 cx hi hL r kk H locs ls h1 h2 hS hl)
    · exact lv_tableIn cx.1.1 cx.1.2.1 dL_law_33 (by decide) (by decide) (off := 966) rfl (tgt := 999) (by decide) (law_27 cx hi hL r kk H locs ls h1 h2 hS hl)
    · exact lv_tableIn cx.1.1 cx.1.2.1 dL_law_33 (by decide) (by decide) (off := 1009) rfl (tgt := 1042) (by decide) (law_28 cx hi hL r kk H locs ls h1 h2 hS hl)
    · exact lv_tableIn cx.1.1 cx.1.2.1 dL_law_33 (by decide) (by decide) (off := 1032) rfl (tgt := 1065) (by decide) (law_29 cx hi hL r kk H locs ls h1 h2 hS hl)
    · exact lv_tableIn cx.1.1 cx.1.2.1 dL_law_33 (by decide) (by decide) (off := 1075) rfl (tgt := 1108) (by decide) (law_30 cx hi hL r kk H locs ls h1 h2 hS hl)
    · exact lv_tableIn cx.1.1 cx.1.2.1 dL_law_33 (by decide) (by decide) (off := 1118) rfl (tgt := 1151) (by decide) (law_31 cx hi hL r kk H locs ls h1 h2 hS hl)
    · exact lv_tableIn cx.1.1 cx.1.2.1 dL_law_33 (by decide) (by decide) (off := 1181) rfl (tgt := 1214) (by decide) (law_32 cx hi hL r kk H locs ls h1 h2 hS hl)
    · exact lv_tableIn cx.1.1 cx.1.2.1 dL_law_33 (by decide) (by decide) (off := 1204) rfl (tgt := 1237) (by decide) (law_33 cx hi hL r kk H locs ls h1 h2 hS hl)
    · exact lv_tableIn cx.1.1 cx.1.2.1 dL_law_33 (by decide) (by decide) (off := 1227) rfl (tgt := 1260) (by decide) (law_34 cx hi hL r kk H locs ls h1 h2 hS hl)
    · exact lv_tableIn cx.1.1 cx.1.2.1 dL_law_33 (by decide) (by decide) (off := 1240) rfl (tgt := 1273) (by decide) (law_35 cx hi hL r kk H locs ls h1 h2 hS hl)
    · exact lv_tableIn cx.1.1 cx.1.2.1 dL_law_33 (by decide) (by decide) (off := 1253) rfl (tgt := 1286) (by decide) (law_36 cx hi hL r kk H locs ls h1 h2 hS hl)
    · exact lv_tableIn cx.1.1 cx.1.2.1 dL_law_33 (by decide) (by decide) (off := 1276) rfl (tgt := 1309) (by decide) (law_37 cx hi hL r kk H locs ls h1 h2 hS hl)
    · exact lv_tableIn cx.1.1 cx.1.2.1 dL_law_33 (by decide) (by decide) (off := 1289) rfl (tgt := 1322) (by decide) (law_38 cx hi hL r kk H locs ls h1 h2 hS hl)
    · exact lv_tableIn cx.1.1 cx.1.2.1 dL_law_33 (by decide) (by decide) (off := 1312) rfl (tgt := 1345) (by decide) (law_39 cx hi hL r kk H locs ls h1 h2 hS hl)
theorem law_loop (cx : LX p s mm meth cc L xs D cA ad) (hL : L ≤ 3072) : ∀ (n i : Nat) (c m : JMu), R c m → L + 7 ≤ i + n → i ≤ L + 6 → LW p l e s mm below meth cc D cA ad 18 [] (nI i) c m := by
  intro n
  induction n with
  | zero => intro i c m _ h1 h2; omega
  | succ n ih =>
    intro i c m r hn hi H locs ls h1 h2 hS hl
    refine lv_iload_n cx.1.1 cx.1.2.1 dL_law_18 rfl (lv_at hl 3 rfl) ?_
    refine lv_aload_n cx.1.1 cx.1.2.1 dL_law_19 rfl (lv_at hl 0 rfl) ?_
    refine va_slen cx.1.1 cx.1.2.1 cx.2.2.2.2.2.1.1 cx.2.2.2.2.2.1.2 (Nat.not_le.mpr cx.2.2.2.2.2.1.2) hS dL_law_20 ?_
    refine lv_bipush (v := 6) cx.1.1 cx.1.2.1 dL_law_21 (by decide) ?_
    refine lv_isub cx.1.1 cx.1.2.1 dL_law_23 ?_
    have z6 : (6 : Int32).toInt = 6 := rfl
    have zL : (Int32.ofNat L).toInt = L := nI_toInt (by omega)
    have zi : (nI i).toInt = i := nI_toInt (by omega)
    have zs : (Int32.ofNat L - 6).toInt = (L : Int) - 6 := by rw [fb_subI (by omega) (by omega), zL, z6]
    refine lv_icmp_gt cx.1.1 cx.1.2.1 dL_law_24 (tgt := 1374) (by decide) (fun h => ?_) (fun h => ?_)
    · refine lv_iconst (v := 1) cx.1.1 cx.1.2.1 dL_law_1374 (by decide) ?_
      refine va_forget (fun q hq => hS.2.2 q hq) ?_
      refine W.widen (k := 600000) (n := 7302250) (Nat.le_of_ble_eq_true rfl) (Nat.le_of_ble_eq_true rfl) ?_
      exact lw_ret cx.1.1 cx.1.2.1 cx.2.2.2.2.2.2.2 cx.2.1 dL_law_1375
    · have hi6 : i + 6 ≤ L := by
        rw [fa_lt, zs, zi] at h; omega
      refine lv_aload_n cx.1.1 cx.1.2.1 dL_law_27 rfl (lv_at hl 0 rfl) ?_
      refine lv_iload_n cx.1.1 cx.1.2.1 dL_law_28 rfl (lv_at hl 3 rfl) ?_
      refine va_sld cx.1.1 cx.1.2.1 cx.2.2.2.2.2.1.1 cx.2.2.2.2.2.1.2 (Nat.not_le.mpr cx.2.2.2.2.2.1.2) hS (vp_in_nI (by omega) (by omega)) dL_law_29 ?_
      refine lv_bipush (v := 63) cx.1.1 cx.1.2.1 dL_law_30 (by decide) ?_
      refine lv_iand cx.1.1 cx.1.2.1 dL_law_32 ?_
      obtain ⟨j, hj, ej⟩ := pk_andE (xs (nI i).toNatClampNeg) (m := 63) 6 (by decide)
      rw [ej]
      refine law_switch cx hL r hi6 (fun c1 m1 r1 => ?_) (j := j) (by omega) H locs ls h1 h2 hS hl
      intro H locs ls h1 h2 hS hl
      refine lv_iinc (v := nI (i + 6)) (lv' := [(3, .int (nI (i + 6))), (0, .ref (ad 300)), (1, .ref (ad 0)), (2, .ref (ad 86))]) cx.1.1 cx.1.2.1 dL_law_1368 hl (k := 3) rfl (by rw [show Int32.ofInt 6 = nI 6 from by decide, nI_add]) (by decide) rfl (fun ls hl => ?_)
      refine lv_goto (tgt := 18) cx.1.1 cx.1.2.1 dL_law_1371 (by decide) ?_
      exact ih (i + 6) c1 m1 r1 (by omega) (by omega) H locs ls h1 h2 hS (lv_sub hl [1, 2, 3, 0] rfl)
end LOOP
