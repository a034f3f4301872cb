theorem b_J0_indexOf_0f7a4 : LkB yJ0_indexOf_0f7a4 cJ0_indexOf_0f7a4 2 (some .int) 1 := ⟨(gtb_of (tm 460 (by decide +kernel)) rfl), (gtb_of (tm 16 (by decide +kernel)) rfl), by decide, by decide, by decide +kernel⟩
theorem b_J0_indexOf_7cf53 : LkB yJ0_indexOf_7cf53 cJ0_indexOf_7cf53 3 (some .int) 2 := ⟨(gtb_of (tm 464 (by decide +kernel)) rfl), (gtb_of (tm 16 (by decide +kernel)) rfl), by decide, by decide, by decide +kernel⟩
theorem b_J0_isLatin1_aae02 : LkB yJ0_isLatin1_aae02 cJ0_isLatin1_aae02 1 (some .boolean) 0 := ⟨(gtb_of (tm 468 (by decide +kernel)) rfl), (gtb_of (tm 16 (by decide +kernel)) rfl), by decide, by decide, by decide +kernel⟩
theorem b_J0_length_8abf5 : LkB yJ0_length_8abf5 cJ0_length_8abf5 1 (some .int) 0 := ⟨(gtb_of (tm 474 (by decide +kernel)) rfl), (gtb_of (tm 16 (by decide +kernel)) rfl), by decide, by decide, by decide +kernel⟩
theorem b_J0_coder_7d493 : LkB yJ0_coder_7d493 cJ0_coder_7d493 1 (some .byte) 0 := ⟨(gtb_of (tm 478 (by decide +kernel)) rfl), (gtb_of (tm 16 (by decide +kernel)) rfl), by decide, by decide, by decide +kernel⟩
theorem b_J1_canEncode_9a6ad : LkB yJ1_canEncode_9a6ad cJ1_canEncode_9a6ad 1 (some .boolean) 1 := ⟨(gtb_of (tm 484 (by decide +kernel)) rfl), (gtb_of (tm 17 (by decide +kernel)) rfl), by decide, by decide, by decide +kernel⟩
theorem b_J1_indexOf_4cfef : LkB yJ1_indexOf_4cfef cJ1_indexOf_4cfef 4 (some .int) 4 := ⟨(gtb_of (tm 481 (by decide +kernel)) rfl), (gtb_of (tm 17 (by decide +kernel)) rfl), by decide, by decide, by decide +kernel⟩
theorem b_J1_indexOfChar_4cfef : LkB yJ1_indexOfChar_4cfef cJ1_indexOfChar_4cfef 6 (some .int) 4 := ⟨(gtb_of (tm 489 (by decide +kernel)) rfl), (gtb_of (tm 17 (by decide +kernel)) rfl), by decide, by decide, by decide +kernel⟩
theorem v_X5_85 : LkV RX5 85 yJ0_indexOf_0f7a4 := ⟨(gtb_of (tm 457 (by decide +kernel)) rfl), (gtb_of (tm 458 (by decide +kernel)) rfl), (gtb_of (tm 459 (by decide +kernel)) rfl)⟩
theorem v_J0_633 : LkV RJ0 633 yJ0_indexOf_7cf53 := ⟨(gtb_of (tm 461 (by decide +kernel)) rfl), (gtb_of (tm 462 (by decide +kernel)) rfl), (gtb_of (tm 463 (by decide +kernel)) rfl)⟩
theorem v_J0_492 : LkV RJ0 492 yJ0_isLatin1_aae02 := ⟨(gtb_of (tm 465 (by decide +kernel)) rfl), (gtb_of (tm 466 (by decide +kernel)) rfl), (gtb_of (tm 467 (by decide +kernel)) rfl)⟩
theorem v_J0_505 : LkV RJ0 505 yJ0_length_8abf5 := ⟨(gtb_of (tm 471 (by decide +kernel)) rfl), (gtb_of (tm 472 (by decide +kernel)) rfl), (gtb_of (tm 473 (by decide +kernel)) rfl)⟩
theorem v_J0_335 : LkV RJ0 335 yJ0_coder_7d493 := ⟨(gtb_of (tm 475 (by decide +kernel)) rfl), (gtb_of (tm 476 (by decide +kernel)) rfl), (gtb_of (tm 477 (by decide +kernel)) rfl)⟩
theorem v_J0_637 : LkS RJ0 637 yJ1_indexOf_4cfef := ⟨(gtb_of (tm 479 (by decide +kernel)) rfl), (gtb_of (tm 480 (by decide +kernel)) rfl)⟩
theorem v_J1_88 : LkS RJ1 88 yJ1_canEncode_9a6ad := ⟨(gtb_of (tm 482 (by decide +kernel)) rfl), (gtb_of (tm 483 (by decide +kernel)) rfl)⟩
theorem v_J1_95 : LkS RJ1 95 yJ1_indexOfChar_4cfef := ⟨(gtb_of (tm 487 (by decide +kernel)) rfl), (gtb_of (tm 488 (by decide +kernel)) rfl)⟩
theorem v_J1_92 : Cond.methodLink RJ1 92 Lib.Math.max.name ∈ gtb := (gtb_of (tm 485 (by decide +kernel)) rfl)
theorem v_J1_38 : Cond.methodLink RJ1 38 Lib.Math.min.name ∈ gtb := (gtb_of (tm 486 (by decide +kernel)) rfl)
theorem f_J0_9 : Cond.fieldLink RJ0 9 "java/lang/String" "value" "[B" ∈ gtb := (gtb_of (tm 1313 (by decide +kernel)) rfl)
theorem f_J0_15 : Cond.fieldLink RJ0 15 "java/lang/String" "coder" "B" ∈ gtb := (gtb_of (tm 1312 (by decide +kernel)) rfl)
theorem f_J0_38 : Cond.fieldLink RJ0 38 "java/lang/String" "COMPACT_STRINGS" "Z" ∈ gtb := (gtb_of (tm 469 (by decide +kernel)) rfl)
section STR
variable {g : GP} {l : Launch} {y : MethodName} {cc : ByteArray} {nL : Nat} {R : Room} {G : GT} {ce sl pc : Nat} {hp : va_W} {L : List (Nat × Value)} {st : List Value}
def sbyt (i j : Nat) : Int32 := (([[121, 100, 120], [115, 100, 101]] : List (List Int32)).getD i []).getD j 0
theorem g_ldcS0 (hG : IsG g l y cc nL R G) (hy : y.cls = "SweptRound$Reader") (d : decode cc pc = .ok (.ldc 81, 2)) (k : G ce sl hp L (pc + 2) (.ref (g.2.2.2 (1 + 0)) :: st)) : G ce sl hp L pc st := by
  obtain ⟨p, e, s, m, args, below, meth, c, Q, hx, hb, hml, hown, hts, hK, hlk, hnm, rfl⟩ := hG
  intro H locs ls hP hD hS hl
  exact va_ldcS hx hb hown (by rw [hy]; exact hK.2.2.2.2.1.1) d (k H locs ls hP hD hS hl)
theorem g_ldcS1 (hG : IsG g l y cc nL R G) (hy : y.cls = "SweptRound$Reader") (d : decode cc pc = .ok (.ldc 83, 2)) (k : G ce sl hp L (pc + 2) (.ref (g.2.2.2 (1 + 1)) :: st)) : G ce sl hp L pc st := by
  obtain ⟨p, e, s, m, args, below, meth, c, Q, hx, hb, hml, hown, hts, hK, hlk, hnm, rfl⟩ := hG
  intro H locs ls hP hD hS hl
  exact va_ldcS hx hb hown (by rw [hy]; exact hK.2.2.2.2.1.2.1) d (k H locs ls hP hD hS hl)
theorem g_sval (hG : IsG g l y cc nL R G) {i idx : Nat} (hi : i < 2) (d : decode cc pc = .ok (.getfield idx, 3)) (hlk2 : Cond.fieldLink y.cls idx "java/lang/String" "value" "[B" ∈ gtb) (k : G ce sl hp L (pc + 3) (.ref (g.2.2.2 (3 + i)) :: st)) : G ce sl hp L pc (.ref (g.2.2.2 (1 + i)) :: st) := by
  obtain ⟨p, e, s, m, args, below, meth, c, Q, hx, hb, hml, hown, hts, hK, hlk, hnm, rfl⟩ := hG
  intro H locs ls hP hD hS hl
  exact vk_getf hx hb (hK.2.2.2.2.1.2.2.1.1 i hi).2.2.1 hS hown (hts _ hlk2) (fun _ h => h) d (k H locs ls hP hD hS hl)
theorem g_scod (hG : IsG g l y cc nL R G) {i idx : Nat} (hi : i < 2) (d : decode cc pc = .ok (.getfield idx, 3)) (hlk2 : Cond.fieldLink y.cls idx "java/lang/String" "coder" "B" ∈ gtb) (k : G ce sl hp L (pc + 3) (.int 0 :: st)) : G ce sl hp L pc (.ref (g.2.2.2 (1 + i)) :: st) := by
  obtain ⟨p, e, s, m, args, below, meth, c, Q, hx, hb, hml, hown, hts, hK, hlk, hnm, rfl⟩ := hG
  intro H locs ls hP hD hS hl
  exact vk_getf hx hb (hK.2.2.2.2.1.2.2.1.1 i hi).2.1 hS hown (hts _ hlk2) (fun _ h => h) d (k H locs ls hP hD hS hl)
theorem g_scomp (hG : IsG g l y cc nL R G) {idx : Nat} (d : decode cc pc = .ok (.getstatic idx, 3)) (hlk2 : Cond.fieldLink y.cls idx "java/lang/String" "COMPACT_STRINGS" "Z" ∈ gtb) (k : G ce sl hp L (pc + 3) (.int 1 :: st)) : G ce sl hp L pc st := by
  obtain ⟨p, e, s, m, args, below, meth, c, Q, hx, hb, hml, hown, hts, hK, hlk, hnm, rfl⟩ := hG
  intro H locs ls hP hD hS hl
  exact va_gets hx hb hK.2.2.2.2.1.2.2.2 hS hown (hts _ hlk2) (fun _ h => h) d (k H locs ls hP hD hS hl)
theorem sln {i : Nat} (hi : i < 2) : ([3, 3] : List Nat).getD i 0 = 3 := by
  rcases (show i = 0 ∨ i = 1 by omega) with rfl | rfl <;> rfl
theorem g_slen (hG : IsG g l y cc nL R G) {i : Nat} (hi : i < 2) (d : decode cc pc = .ok (.arraylength, 1)) (k : G ce sl hp L (pc + 1) (.int 3 :: st)) : G ce sl hp L pc (.ref (g.2.2.2 (3 + i)) :: st) := by
  obtain ⟨p, e, s, m, args, below, meth, c, Q, hx, hb, hml, hown, hts, hK, hlk, hnm, rfl⟩ := hG
  intro H locs ls hP hD hS hl
  exact va_tlen hx hb (hK.2.2.2.2.1.2.2.1.1 i hi).2.2.2 hS (by rw [sln hi]; decide) d (k H locs ls hP hD hS hl)
theorem g_sbyte (hG : IsG g l y cc nL R G) {i : Nat} {j : Int32} (hi : i < 2) (d : decode cc pc = .ok (.baload, 1)) (hj : inb j 3 = true) (k : G ce sl hp L (pc + 1) (.int (sbyt i (ix j)) :: st)) : G ce sl hp L pc (.int j :: .ref (g.2.2.2 (3 + i)) :: st) := by
  obtain ⟨p, e, s, m, args, below, meth, c, Q, hx, hb, hml, hown, hts, hK, hlk, hnm, rfl⟩ := hG
  intro H locs ls hP hD hS hl
  exact va_tb hx hb (hK.2.2.2.2.1.2.2.1.1 i hi).2.2.2 hS (by rw [sln hi]; exact inb_in hj) rfl d (k H locs ls hP hD hS hl)
variable {y' : MethodName} {cc' : ByteArray} {nL' n idx : Nat} {ret : Option FieldType} {rm : Room} {As : List Value}
theorem g_cVs (hG : IsG g l y cc nL R G) {i : Nat} {v : Int32} {hp' : va_W} (hi : i < 2) (hyc : y'.cls = "java/lang/String") (d : decode cc pc = .ok (.invokevirtual idx, 3)) (hM : CI g l y' cc' nL' ret rm (.ref (g.2.2.2 (1 + i)) :: As) hp (fun r w => r = v ∧ w = hp')) (b : LkB y' cc' nL' ret n) (lk : LkV y.cls idx y') (hn : As.length = n) (hR : rm.frames + 1 ≤ R.frames ∧ 8 + (nL' + 11) + rm.locals ≤ R.locals) (hz : rm.cells = 0 ∧ rm.slots = 0) (hf : ce ≤ R.cells ∧ sl ≤ R.slots) (st0 : List Value) (hst0 : st0 = As.reverse ++ .ref (g.2.2.2 (1 + i)) :: st) (hst : (st.map fun v => v.category).sum ≤ 8)
    (kk : G ce sl hp' L (pc + 3) (.int v :: st)) : G ce sl hp L pc st0 := by
  subst hst0
  obtain ⟨p, e, s, m, args, below, meth, c, Q, hx, hb, hml, hown, hts, hK, hlk, hnm, rfl⟩ := hG
  intro H locs ls hP hD hS hl
  refine va_calli (va_runV (As := As) (rest := st) (C := y'.cls) ⟨hx, hb, hml, hown, hts⟩ hM ⟨callB_g hts b lk.1 hR, hts _ lk.2.1, hts _ lk.2.2⟩ ⟨CP.blind _ _ _, by rw [hyc]; exact vk_recv (adK := fun i => g.2.2.2 (1 + i)) (i := i) hK.2.2.2.2.1.2.2.1 hi hS, fun U hU hW => ⟨rfl, by rw [hU]; exact hP, hD, hK.moved hW (by rw [hU]; exact hS.1) (fun q h1 h2 => by rw [hU]; exact hS.2.1 q h1 h2)⟩⟩ rfl hn hl.1 rfl (lv_room hst) d (by rw [hz.1, hz.2]; exact hf)) hS (fun q _ h => h) (fun q h => h) (fun r u t H1 locs ht hvm hw hB hz1 hk1 hS => ?_)
  rw [hz.1, hz.2]
  obtain ⟨rfl, rfl⟩ := hw
  exact kk H1 locs ls (by rw [← ht]; exact hB.1) hB.2.1 hS hl
theorem g_i2c (hG : IsG g l y cc nL R G) {x : Int32} (d : decode cc pc = .ok (.i2c, 1)) (k : G ce sl hp L (pc + 1) (.int (x.toUInt32 % 65536).toInt32 :: st)) : G ce sl hp L pc (.int x :: st) := by
  obtain ⟨p, e, s, m, args, below, meth, c, Q, hx, hb, hml, hown, hts, hK, hlk, hnm, rfl⟩ := hG
  intro H locs ls hP hD hS hl
  exact lv_i2c hx hb d rfl (k H locs ls hP hD hS hl)
end STR
section JDK
variable {g : GP} {l : Launch} {hp : va_W} {i : Nat}
theorem j_coder (hi : i < 2) : CI g l yJ0_coder_7d493 cJ0_coder_7d493 1 (some .byte) { frames := 0, cells := 0, slots := 0, locals := 0 } [.ref (g.2.2.2 (1 + i))] hp (fun r w => r = 0 ∧ w = hp) := by
  refine CI.mk (by decide) (Nat.le_of_ble_eq_true rfl) (fun G hG hret => ?_)
  refine g_scomp hG dJ0_coder_7d493_0 f_J0_38 ?_
  refine g_if_eq (tgt := 13) hG dJ0_coder_7d493_3 rfl (fun q => absurd q (by decide)) (fun _ => ?_)
  refine g_aload_n hG dJ0_coder_7d493_6 rfl ?_
  refine g_scod hG hi dJ0_coder_7d493_7 f_J0_15 ?_
  refine g_goto (tgt := 14) hG dJ0_coder_7d493_10 rfl ?_
  exact hret _ _ 14 0 dJ0_coder_7d493_14 (by decide) ⟨rfl, rfl⟩
theorem j_latin (hi : i < 2) : CI g l yJ0_isLatin1_aae02 cJ0_isLatin1_aae02 1 (some .boolean) { frames := 0, cells := 0, slots := 0, locals := 0 } [.ref (g.2.2.2 (1 + i))] hp (fun r w => r = 1 ∧ w = hp) := by
  refine CI.mk (by decide) (Nat.le_of_ble_eq_true rfl) (fun G hG hret => ?_)
  refine g_scomp hG dJ0_isLatin1_aae02_0 f_J0_38 ?_
  refine g_if_eq (tgt := 17) hG dJ0_isLatin1_aae02_3 rfl (fun q => absurd q (by decide)) (fun _ => ?_)
  refine g_aload_n hG dJ0_isLatin1_aae02_6 rfl ?_
  refine g_scod hG hi dJ0_isLatin1_aae02_7 f_J0_15 ?_
  refine g_if_ne (tgt := 17) hG dJ0_isLatin1_aae02_10 rfl (fun q => absurd rfl q) (fun _ => ?_)
  refine g_iconstv hG dJ0_isLatin1_aae02_13 ki_1 ?_
  refine g_goto (tgt := 18) hG dJ0_isLatin1_aae02_14 rfl ?_
  exact hret _ _ 18 1 dJ0_isLatin1_aae02_18 (by decide) ⟨rfl, rfl⟩
theorem j_length (hi : i < 2) : CI g l yJ0_length_8abf5 cJ0_length_8abf5 1 (some .int) { frames := 1, cells := 0, slots := 0, locals := 24 } [.ref (g.2.2.2 (1 + i))] hp (fun r w => r = 3 ∧ w = hp) := by
  refine CI.mk (by decide) (Nat.le_of_ble_eq_true rfl) (fun G hG hret => ?_)
  refine g_aload_n hG dJ0_length_8abf5_0 rfl ?_
  refine g_sval hG hi dJ0_length_8abf5_1 f_J0_9 ?_
  refine g_slen hG hi dJ0_length_8abf5_4 ?_
  refine g_aload_n hG dJ0_length_8abf5_5 rfl ?_
  refine g_cVs hG hi rfl dJ0_length_8abf5_6 (j_coder hi) b_J0_coder_7d493 v_J0_335 rfl ⟨Nat.le_of_ble_eq_true rfl, Nat.le_of_ble_eq_true rfl⟩ ⟨rfl, rfl⟩ ⟨Nat.zero_le _, Nat.zero_le _⟩ _ rfl (Nat.le_of_ble_eq_true rfl) ?_
  refine g_ishr hG dJ0_length_8abf5_9 ?_
  refine g_nam (x := 3) (by decide) ?_
  exact hret _ _ 10 3 dJ0_length_8abf5_10 rfl ⟨rfl, rfl⟩
theorem j_can {c : Int32} (h0 : ¬ c < 0) (h1 : ¬ 255 < c) : CI g l yJ1_canEncode_9a6ad cJ1_canEncode_9a6ad 1 (some .boolean) { frames := 0, cells := 0, slots := 0, locals := 0 } [.int c] hp (fun r w => r = 1 ∧ w = hp) := by
  refine CI.mk (by decide) (Nat.le_of_ble_eq_true rfl) (fun G hG hret => ?_)
  refine g_iload_n hG dJ1_canEncode_9a6ad_0 rfl ?_
  refine g_if_lt (tgt := 15) hG dJ1_canEncode_9a6ad_1 rfl (fun q => absurd q h0) (fun _ => ?_)
  refine g_iload_n hG dJ1_canEncode_9a6ad_4 rfl ?_
  refine g_sipushv (v := 255) hG dJ1_canEncode_9a6ad_5 (by decide) ?_
  refine g_icmp_gt (tgt := 15) hG dJ1_canEncode_9a6ad_8 rfl (fun q => absurd q h1) (fun _ => ?_)
  refine g_iconstv hG dJ1_canEncode_9a6ad_11 ki_1 ?_
  refine g_goto (tgt := 16) hG dJ1_canEncode_9a6ad_12 rfl ?_
  exact hret _ _ 16 1 dJ1_canEncode_9a6ad_16 (by decide) ⟨rfl, rfl⟩
/-- the place of the byte b in text i, from place k on -/
def six (i : Nat) (b : Int32) : Int32 := if sbyt i 0 = b then 0 else if sbyt i 1 = b then 1 else if sbyt i 2 = b then 2 else -1
set_option maxRecDepth 100000 in
theorem j_char (hi : i < 2) {c : Int32} : CI g l yJ1_indexOfChar_4cfef cJ1_indexOfChar_4cfef 6 (some .int) { frames := 0, cells := 0, slots := 0, locals := 0 } [.ref (g.2.2.2 (3 + i)), .int c, .int 0, .int 3] hp (fun r w => r = six i c.toInt8.toInt32 ∧ w = hp) := by
  refine CI.mk (by decide) (Nat.le_of_ble_eq_true rfl) (fun G hG hret => ?_)
  have tail : G 0 0 hp [(0, .ref (g.2.2.2 (3 + i))), (3, .int 3), (4, .int c.toInt8.toInt32), (5, .int 3)] 7 [] → True := fun _ => trivial
  have step : ∀ (k k1 : Int32) (j : Nat), inb k 3 = true → ix k = j → k + 1 = k1 → ¬ 3 ≤ k → (sbyt i j = c.toInt8.toInt32 → six i c.toInt8.toInt32 = k) → (¬ sbyt i j = c.toInt8.toInt32 → G 0 0 hp [(0, .ref (g.2.2.2 (3 + i))), (3, .int 3), (4, .int c.toInt8.toInt32), (5, .int k1)] 7 []) → G 0 0 hp [(0, .ref (g.2.2.2 (3 + i))), (3, .int 3), (4, .int c.toInt8.toInt32), (5, .int k)] 7 [] := by
    intro k k1 j hin hj hk1 hlt hyes hno
    subst hj
    subst hk1
    refine g_iload hG dJ1_indexOfChar_4cfef_7 rfl ?_
    refine g_iload_n hG dJ1_indexOfChar_4cfef_9 rfl ?_
    refine g_icmp_ge (tgt := 31) hG dJ1_indexOfChar_4cfef_10 rfl (fun q => absurd q hlt) (fun _ => ?_)
    refine g_aload_n hG dJ1_indexOfChar_4cfef_13 rfl ?_
    refine g_iload hG dJ1_indexOfChar_4cfef_14 rfl ?_
    refine g_sbyte hG hi dJ1_indexOfChar_4cfef_16 hin ?_
    refine g_iload hG dJ1_indexOfChar_4cfef_17 rfl ?_
    refine g_icmp_ne (tgt := 25) hG dJ1_indexOfChar_4cfef_19 rfl (fun q => ?_) (fun q => ?_)
    · refine g_iincv (c := 1) hG dJ1_indexOfChar_4cfef_25 rfl (by decide) (by decide) ?_
      refine g_goto (tgt := 7) hG dJ1_indexOfChar_4cfef_28 rfl ?_
      refine g_loc hG [(0, .ref (g.2.2.2 (3 + i))), (3, .int 3), (4, .int c.toInt8.toInt32), (5, .int (k + 1))] ⟨rfl, rfl, rfl, rfl, trivial⟩ ?_
      exact hno q
    · refine g_iload hG dJ1_indexOfChar_4cfef_22 rfl ?_
      exact hret _ _ 24 k dJ1_indexOfChar_4cfef_24 rfl ⟨(hyes q).symm, rfl⟩
  refine g_iload_n hG dJ1_indexOfChar_4cfef_0 rfl ?_
  refine g_i2b hG dJ1_indexOfChar_4cfef_1 ?_
  refine g_istore hG dJ1_indexOfChar_4cfef_2 (by decide) ?_
  refine g_iload_n hG dJ1_indexOfChar_4cfef_4 rfl ?_
  refine g_istore hG dJ1_indexOfChar_4cfef_5 (by decide) ?_
  refine g_loc hG [(0, .ref (g.2.2.2 (3 + i))), (3, .int 3), (4, .int c.toInt8.toInt32), (5, .int 0)] ⟨rfl, rfl, rfl, rfl, trivial⟩ ?_
  refine step 0 1 0 (by decide) (by decide) (by decide) (by decide) (fun q => by simp [six, q]) (fun n0 => ?_)
  refine step 1 2 1 (by decide) (by decide) (by decide) (by decide) (fun q => by simp [six, n0, q]) (fun n1 => ?_)
  refine step 2 3 2 (by decide) (by decide) (by decide) (by decide) (fun q => by simp [six, n0, n1, q]) (fun n2 => ?_)
  refine g_iload hG dJ1_indexOfChar_4cfef_7 rfl ?_
  refine g_iload_n hG dJ1_indexOfChar_4cfef_9 rfl ?_
  refine g_icmp_ge (tgt := 31) hG dJ1_indexOfChar_4cfef_10 rfl (fun _ => ?_) (fun q => absurd (by decide) q)
  refine g_iconstv hG dJ1_indexOfChar_4cfef_31 ki_m1 ?_
  exact hret _ _ 32 (-1) dJ1_indexOfChar_4cfef_32 rfl ⟨by simp [six, n0, n1, n2], rfl⟩
theorem j_index4 (hi : i < 2) {c : Int32} (h0 : ¬ c < 0) (h1 : ¬ 255 < c) : CI g l yJ1_indexOf_4cfef cJ1_indexOf_4cfef 4 (some .int) { frames := 1, cells := 0, slots := 0, locals := 64 } [.ref (g.2.2.2 (3 + i)), .int c, .int 0, .int 3] hp (fun r w => r = six i c.toInt8.toInt32 ∧ w = hp) := by
  refine CI.mk (by decide) (Nat.le_of_ble_eq_true rfl) (fun G hG hret => ?_)
  refine g_iload_n hG dJ1_indexOf_4cfef_0 rfl ?_
  refine g_cS hG dJ1_indexOf_4cfef_1 (j_can h0 h1) b_J1_canEncode_9a6ad v_J1_88 rfl ⟨Nat.le_of_ble_eq_true rfl, Nat.le_of_ble_eq_true rfl⟩ ⟨rfl, rfl⟩ ⟨Nat.zero_le _, Nat.zero_le _⟩ _ rfl (Nat.le_of_ble_eq_true rfl) ?_
  refine g_if_ne (tgt := 9) hG dJ1_indexOf_4cfef_4 rfl (fun _ => ?_) (fun q => absurd q (by decide))
  refine g_iload_n hG dJ1_indexOf_4cfef_9 rfl ?_
  refine g_iconstv hG dJ1_indexOf_4cfef_10 ki_0 ?_
  refine g_max hG dJ1_indexOf_4cfef_11 v_J1_92 st_max in_Math co_max (Nat.le_of_ble_eq_true rfl) (Nat.le_of_ble_eq_true rfl) (Nat.zero_le _) (Nat.zero_le _) ?_
  refine g_nam (x := 0) (by decide) ?_
  refine g_istore_n hG dJ1_indexOf_4cfef_14 (by decide) ?_
  refine g_iload_n hG dJ1_indexOf_4cfef_15 rfl ?_
  refine g_aload_n hG dJ1_indexOf_4cfef_16 rfl ?_
  refine g_slen hG hi dJ1_indexOf_4cfef_17 ?_
  refine g_min hG dJ1_indexOf_4cfef_18 v_J1_38 st_min in_Math co_min (Nat.le_of_ble_eq_true rfl) (Nat.le_of_ble_eq_true rfl) (Nat.zero_le _) (Nat.zero_le _) ?_
  refine g_nam (x := 3) (by decide) ?_
  refine g_istore_n hG dJ1_indexOf_4cfef_21 (by decide) ?_
  refine g_iload_n hG dJ1_indexOf_4cfef_22 rfl ?_
  refine g_iload_n hG dJ1_indexOf_4cfef_23 rfl ?_
  refine g_icmp_lt (tgt := 29) hG dJ1_indexOf_4cfef_24 rfl (fun _ => ?_) (fun q => absurd (by decide) q)
  refine g_aload_n hG dJ1_indexOf_4cfef_29 rfl ?_
  refine g_iload_n hG dJ1_indexOf_4cfef_30 rfl ?_
  refine g_iload_n hG dJ1_indexOf_4cfef_31 rfl ?_
  refine g_iload_n hG dJ1_indexOf_4cfef_32 rfl ?_
  refine g_cS hG dJ1_indexOf_4cfef_33 (j_char (c := c) hi) b_J1_indexOfChar_4cfef v_J1_95 rfl ⟨Nat.le_of_ble_eq_true rfl, Nat.le_of_ble_eq_true rfl⟩ ⟨rfl, rfl⟩ ⟨Nat.zero_le _, Nat.zero_le _⟩ _ rfl (Nat.le_of_ble_eq_true rfl) ?_
  exact hret _ _ 36 _ dJ1_indexOf_4cfef_36 rfl ⟨rfl, rfl⟩
theorem j_index2 (hi : i < 2) {c : Int32} (h0 : ¬ c < 0) (h1 : ¬ 255 < c) : CI g l yJ0_indexOf_7cf53 cJ0_indexOf_7cf53 3 (some .int) { frames := 2, cells := 0, slots := 0, locals := 110 } [.ref (g.2.2.2 (1 + i)), .int c, .int 0] hp (fun r w => r = six i c.toInt8.toInt32 ∧ w = hp) := by
  refine CI.mk (by decide) (Nat.le_of_ble_eq_true rfl) (fun G hG hret => ?_)
  refine g_aload_n hG dJ0_indexOf_7cf53_0 rfl ?_
  refine g_cVs hG hi rfl dJ0_indexOf_7cf53_1 (j_latin hi) b_J0_isLatin1_aae02 v_J0_492 rfl ⟨Nat.le_of_ble_eq_true rfl, Nat.le_of_ble_eq_true rfl⟩ ⟨rfl, rfl⟩ ⟨Nat.zero_le _, Nat.zero_le _⟩ _ rfl (Nat.le_of_ble_eq_true rfl) ?_
  refine g_if_eq (tgt := 23) hG dJ0_indexOf_7cf53_4 rfl (fun q => absurd q (by decide)) (fun _ => ?_)
  refine g_aload_n hG dJ0_indexOf_7cf53_7 rfl ?_
  refine g_sval hG hi dJ0_indexOf_7cf53_8 f_J0_9 ?_
  refine g_iload_n hG dJ0_indexOf_7cf53_11 rfl ?_
  refine g_iload_n hG dJ0_indexOf_7cf53_12 rfl ?_
  refine g_aload_n hG dJ0_indexOf_7cf53_13 rfl ?_
  refine g_cVs hG hi rfl dJ0_indexOf_7cf53_14 (j_length hi) b_J0_length_8abf5 v_J0_505 rfl ⟨Nat.le_of_ble_eq_true rfl, Nat.le_of_ble_eq_true rfl⟩ ⟨rfl, rfl⟩ ⟨Nat.zero_le _, Nat.zero_le _⟩ _ rfl (Nat.le_of_ble_eq_true rfl) ?_
  refine g_cS hG dJ0_indexOf_7cf53_17 (j_index4 hi h0 h1) b_J1_indexOf_4cfef v_J0_637 rfl ⟨Nat.le_of_ble_eq_true rfl, Nat.le_of_ble_eq_true rfl⟩ ⟨rfl, rfl⟩ ⟨Nat.zero_le _, Nat.zero_le _⟩ _ rfl (Nat.le_of_ble_eq_true rfl) ?_
  refine g_goto (tgt := 36) hG dJ0_indexOf_7cf53_20 rfl ?_
  exact hret _ _ 36 _ dJ0_indexOf_7cf53_36 rfl ⟨rfl, rfl⟩
theorem j_index1 (hi : i < 2) {c : Int32} (h0 : ¬ c < 0) (h1 : ¬ 255 < c) : CI g l yJ0_indexOf_0f7a4 cJ0_indexOf_0f7a4 2 (some .int) { frames := 3, cells := 0, slots := 0, locals := 140 } [.ref (g.2.2.2 (1 + i)), .int c] hp (fun r w => r = six i c.toInt8.toInt32 ∧ w = hp) := by
  refine CI.mk (by decide) (Nat.le_of_ble_eq_true rfl) (fun G hG hret => ?_)
  refine g_aload_n hG dJ0_indexOf_0f7a4_0 rfl ?_
  refine g_iload_n hG dJ0_indexOf_0f7a4_1 rfl ?_
  refine g_iconstv hG dJ0_indexOf_0f7a4_2 ki_0 ?_
  refine g_cVs hG hi rfl dJ0_indexOf_0f7a4_3 (j_index2 hi h0 h1) b_J0_indexOf_7cf53 v_J0_633 rfl ⟨Nat.le_of_ble_eq_true rfl, Nat.le_of_ble_eq_true rfl⟩ ⟨rfl, rfl⟩ ⟨Nat.zero_le _, Nat.zero_le _⟩ _ rfl (Nat.le_of_ble_eq_true rfl) ?_
  exact hret _ _ 6 _ dJ0_indexOf_0f7a4_6 rfl ⟨rfl, rfl⟩
end JDK
/-- the place of a sign among the names of a use -/
def nmix (u c : Int32) : Int32 := if c < 0 then -1 else if u = 0 then (if c = 121 then 0 else if c = 100 then 1 else if c = 120 then 2 else -1) else (if c = 115 then 0 else if c = 100 then 1 else if c = 101 then 2 else -1)
def N_Q_nameOf (x1 : Int32) (σ : CS) : Option (Int32 × CS) := gd (decide (x1 < 256)) (some (nmix (σ.1 3 5) x1, σ))
theorem nm_char {c : Int32} (h0 : ¬ c < 0) (h1 : c < 256) : (c.toUInt32 % 65536).toInt32 = c := by
  obtain ⟨j, hj, rfl⟩ := nI_of h0
  have hj2 : j < 256 := by
    have := (nI_ltI hj (by decide : 256 < 2 ^ 31)).mp h1
    exact this
  exact co_dec (N := 256) (P := fun j => ((nI j).toUInt32 % 65536).toInt32 = nI j) (by decide +kernel) hj2
theorem nm_ix {c : Int32} (h0 : ¬ c < 0) (h1 : c < 256) (u : Int32) : nmix u c = if u = 0 then six 0 c.toInt8.toInt32 else six 1 c.toInt8.toInt32 := by
  obtain ⟨j, hj, rfl⟩ := nI_of h0
  have hj2 : j < 256 := by
    have := (nI_ltI hj (by decide : 256 < 2 ^ 31)).mp h1
    exact this
  unfold nmix
  rw [if_neg h0]
  have e0 : (if nI j = 121 then (0 : Int32) else if nI j = 100 then 1 else if nI j = 120 then 2 else -1) = six 0 (nI j).toInt8.toInt32 := co_dec (N := 256) (P := fun j => (if nI j = 121 then (0 : Int32) else if nI j = 100 then 1 else if nI j = 120 then 2 else -1) = six 0 (nI j).toInt8.toInt32) (by decide +kernel) hj2
  have e1 : (if nI j = 115 then (0 : Int32) else if nI j = 100 then 1 else if nI j = 101 then 2 else -1) = six 1 (nI j).toInt8.toInt32 := co_dec (N := 256) (P := fun j => (if nI j = 115 then (0 : Int32) else if nI j = 100 then 1 else if nI j = 101 then 2 else -1) = six 1 (nI j).toInt8.toInt32) (by decide +kernel) hj2
  rw [e0, e1]
theorem c_N_Q_nameOf {g : GP} {l : Launch} {A : Nat → Nat → Nat} {X : va_W} {v9 : Int32} {s9 : CS} {x1 : Int32} {σ : CS} (h : N_Q_nameOf x1 σ = some (v9, s9)) : CI g l yX5_nameOf cX5_nameOf 3 (some .int) { frames := 6, cells := 0, slots := 0, locals := 200 } [.ref (A 3 99), .int x1] (wC g A σ X) (fun r0 w => r0 = v9 ∧ w = wC g A s9 X) := by
  unfold N_Q_nameOf at h
  obtain ⟨b1, h⟩ := gd_some h
  obtain ⟨rfl, rfl⟩ : nmix (σ.1 3 5) x1 = v9 ∧ σ = s9 := ⟨congrArg Prod.fst (Option.some.inj h), congrArg Prod.snd (Option.some.inj h)⟩
  have h256 : x1 < 256 := of_decide_eq_true b1
  refine CI.mk (by decide) (Nat.le_of_ble_eq_true rfl) (fun G hG hret => ?_)
  have back : ∀ i : Nat, i < 2 → (¬ x1 < 0 → nmix (σ.1 3 5) x1 = six i x1.toInt8.toInt32) → G 0 0 (wC g A σ X) [(0, .ref (A 3 99)), (1, .int x1)] 14 [.ref (g.2.2.2 (1 + i))] := by
    intro i hi hv
    refine g_astore_n hG dX5_nameOf_14 (by decide) ?_
    refine g_iload_n hG dX5_nameOf_15 rfl ?_
    by_cases c : 0 ≤ x1
    · have hn : ¬ x1 < 0 := by
        intro q
        rw [Int32.lt_iff_toInt_lt] at q
        rw [Int32.le_iff_toInt_le] at c
        omega
      have h255 : ¬ 255 < x1 := by
        intro q
        rw [Int32.lt_iff_toInt_lt] at q h256
        have e1 : (255 : Int32).toInt = 255 := by decide
        have e2 : (256 : Int32).toInt = 256 := by decide
        omega
      refine g_if_ge (tgt := 23) hG dX5_nameOf_16 rfl (fun _ => ?_) (fun q => absurd c q)
      refine g_aload_n hG dX5_nameOf_23 rfl ?_
      refine g_iload_n hG dX5_nameOf_24 rfl ?_
      refine g_i2c hG dX5_nameOf_25 ?_
      rw [nm_char hn h256]
      refine g_cVs hG hi rfl dX5_nameOf_26 (j_index1 hi hn h255) b_J0_indexOf_0f7a4 v_X5_85 rfl ⟨Nat.le_of_ble_eq_true rfl, Nat.le_of_ble_eq_true rfl⟩ ⟨rfl, rfl⟩ ⟨Nat.zero_le _, Nat.zero_le _⟩ _ rfl (Nat.le_of_ble_eq_true rfl) ?_
      exact hret _ _ 29 _ dX5_nameOf_29 rfl ⟨(hv hn).symm, rfl⟩
    · have hn : x1 < 0 := by
        rw [Int32.lt_iff_toInt_lt]
        rw [Int32.le_iff_toInt_le] at c
        omega
      refine g_if_ge (tgt := 23) hG dX5_nameOf_16 rfl (fun q => absurd q c) (fun _ => ?_)
      refine g_iconstv hG dX5_nameOf_19 ki_m1 ?_
      refine g_goto (tgt := 29) hG dX5_nameOf_20 rfl ?_
      refine hret _ _ 29 (-1) dX5_nameOf_29 rfl ⟨?_, rfl⟩
      unfold nmix
      rw [if_pos hn]
  refine g_aload_n hG dX5_nameOf_0 rfl ?_
  refine g_get (f := 5) hG dX5_nameOf_1 (eQ g A _ X) rfl inX5 (by decide) rfl f_X5_28 rfl ?_
  by_cases c : σ.1 3 5 = 0
  · refine g_if_ne (tgt := 12) hG dX5_nameOf_4 rfl (fun q => absurd c q) (fun _ => ?_)
    refine g_ldcS0 hG rfl dX5_nameOf_7 ?_
    refine g_goto (tgt := 14) hG dX5_nameOf_9 rfl ?_
    exact back 0 (by decide) (fun hn => by rw [nm_ix hn h256, if_pos c])
  · refine g_if_ne (tgt := 12) hG dX5_nameOf_4 rfl (fun _ => ?_) (fun q => absurd q c)
    refine g_ldcS1 hG rfl dX5_nameOf_12 ?_
    exact back 1 (by decide) (fun hn => by rw [nm_ix hn h256, if_neg c])

