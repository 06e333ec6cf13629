set_option maxHeartbeats 4000000 in
set_option maxRecDepth 100000 in
theorem k_State (l : Launch) (hl0 : l.stackTraces = false) (G : zG) (I : List Nat) (ad : Nat → Nat) (ct : Nat → va_E) (sz : Nat) (hI : 2 ∈ I) : zN l yX2_init wsX2_init 1 14 0 0 G [.ref (ad (2))] I ad ct zno sz (zk I (zqv fun u => u = ct)) := by
  refine z_ofW (ret := none) hl0 (by decide +kernel) rfl (Nat.le_of_ble_eq_true rfl) ?_
  intro p e s m args below meth c A ls hA0 hsz hF hr hout hnm hw hl
  obtain ⟨hx, hb, hml, hown, hts, hK, hlk, hst⟩ := hF
  have hown : s.vm.findClass RX2 = some m.cls := hown
  have hl : lv_has ls 1 [(0, .ref (ad (2)))] := hl
  have w_0 := hts (.methodLink RX2 3 objectInit) (by decide +kernel)
  have w_1 := hts (.instanceMethod objectInit) (by decide +kernel)
  refine lv_aload_n hx hb dX2_init_0 rfl (lv_at hl 0 rfl) ?_
  refine W.objInit hx hb hown w_0 w_1 (hts _ (by decide +kernel)) rfl (by rw [hml]; exact hl.1) rfl dX2_init_1 (Nat.le_of_ble_eq_true rfl) (Nat.le_of_ble_eq_true rfl) ?_
  refine W.eq (g2 := F0 m 4 ls []) rfl ?_
  exact z_vret hx hb hlk hr hw dX2_init_4 (Nat.le_of_ble_eq_true rfl) (Nat.le_of_ble_eq_true rfl) ⟨rfl, rfl, rfl⟩

set_option maxHeartbeats 4000000 in
set_option maxRecDepth 100000 in
theorem k_Blow (l : Launch) (hl0 : l.stackTraces = false) (G : zG) (ad : Nat → Nat) (ct : Nat → va_E) (sz : Nat) (h3 : ct 3 = .inr (0, [zi (0), zi (0), .null, .null, .null, .null])) : zNa l yX0_init wsX0_init 1 14 4 2639 G [.ref (ad (3))] [0, 1, 2, 3] ad ct zno sz (fun _ => True) (fun v I1 ad1 ct1 => v = none ∧ I1 = [0, 1, 2, 3, 4, 5, 6, 7] ∧ ct1 3 = .inr (0, [zi (0), zi (0), .ref (ad1 (4)), .ref (ad1 (5)), .ref (ad1 (6)), .ref (ad1 (7))]) ∧ ct1 4 = zI G (13) (fun _ => 0) ∧ ct1 5 = zI G (13) (fun _ => 0) ∧ ct1 6 = zL G (13) (fun _ => 0) ∧ ct1 7 = zI G (2600) (fun _ => 0) ∧ ∀ j : Nat, j < 3 → ct1 j = ct j) := by
  refine z_ofWa (ret := none) hl0 (by decide +kernel) rfl (Nat.le_of_ble_eq_true rfl) ?_
  intro p e s m args below meth c A ls hA0 hsz hF hr hout hnm hw hl hE
  obtain ⟨hx, hb, hml, hown, hts, hK, hlk, hst⟩ := hF
  have hown : s.vm.findClass RX0 = some m.cls := hown
  have hl : lv_has ls 1 [(0, .ref (ad (3)))] := hl
  have w_0 := hts (.arrayClass .int) (by decide +kernel)
  have w_1 := hts (.arrayClass .long) (by decide +kernel)
  have w_2 := hts (.methodLink RX0 3 objectInit) (by decide +kernel)
  have w_3 := hts (.instanceMethod objectInit) (by decide +kernel)
  have w_4 := hts (.fieldLink RX0 11 "PileMoves$Blow" "places" "[I") (by decide +kernel)
  have w_5 : ∀ w ∈ wsX00, w ∈ wsX0_init := by decide +kernel
  have w_6 := hts (.fieldLink RX0 15 "PileMoves$Blow" "speeds" "[I") (by decide +kernel)
  have w_7 := hts (.fieldLink RX0 18 "PileMoves$Blow" "pushes" "[J") (by decide +kernel)
  have w_8 := hts (.fieldLink RX0 22 "PileMoves$Blow" "waves" "[I") (by decide +kernel)
  refine lv_aload_n hx hb dX0_init_0 rfl (lv_at hl 0 rfl) ?_
  refine W.objInit hx hb hown w_2 w_3 (hts _ (by decide +kernel)) rfl (by rw [hml]; exact hl.1) rfl dX0_init_1 (Nat.le_of_ble_eq_true rfl) (Nat.le_of_ble_eq_true rfl) ?_
  refine W.eq (g2 := F0 m 4 ls []) rfl ?_
  refine lv_aload_n hx hb dX0_init_4 rfl (lv_at hl 0 rfl) ?_
  refine z_bi hx hb dX0_init_5 (by decide) ?_
  refine z_newi hx hb w_0 hK hw (k := 4) (by decide) (n := 13) rfl (by decide) (Nat.le_of_ble_eq_true rfl) (Nat.le_of_ble_eq_true rfl) dX0_init_7 (fun ad_1 H had_1 hw => ?_)
  have e_2 : ad_1 (3) = ad (3) := had_1 _ (by decide)
  rw [← e_2] at hl
  rw [← e_2]
  refine z_putF (C := RX0) (T := TX0) (N := 6) (fs := [zi (0), zi (0), .null, .null, .null, .null]) (fs' := [zi (0), zi (0), .ref (ad_1 (4)), .null, .null, .null]) hx hb hts w_5 tyX0_ok nmX0 hown hK hw (by decide) (zU_n (by decide) h3) rfl 2 (by decide) w_4 rfl rfl hnm rfl rfl rfl (Nat.le_of_ble_eq_true rfl) rfl dX0_init_9 (fun H locs hw => ?_)
  refine lv_aload_n hx hb dX0_init_12 rfl (lv_at hl 0 rfl) ?_
  refine z_bi hx hb dX0_init_13 (by decide) ?_
  refine z_newi hx hb w_0 hK hw (k := 5) (by decide) (n := 13) rfl (by decide) (Nat.le_of_ble_eq_true rfl) (Nat.le_of_ble_eq_true rfl) dX0_init_15 (fun ad_3 H had_3 hw => ?_)
  have e_4 : ad_3 (3) = ad_1 (3) := had_3 _ (by decide)
  rw [← e_4] at hl
  rw [← e_4]
  have e_5 : ad_3 (4) = ad_1 (4) := had_3 _ (by decide)
  rw [← e_5] at hw
  refine z_putF (C := RX0) (T := TX0) (N := 6) (fs := [zi (0), zi (0), .ref (ad_3 (4)), .null, .null, .null]) (fs' := [zi (0), zi (0), .ref (ad_3 (4)), .ref (ad_3 (5)), .null, .null]) hx hb hts w_5 tyX0_ok nmX0 hown hK hw (by decide) (zU_n (by decide) (zU_s _ _ _)) rfl 3 (by decide) w_6 rfl rfl hnm rfl rfl rfl (Nat.le_of_ble_eq_true rfl) rfl dX0_init_17 (fun H locs hw => ?_)
  refine lv_aload_n hx hb dX0_init_20 rfl (lv_at hl 0 rfl) ?_
  refine z_bi hx hb dX0_init_21 (by decide) ?_
  refine z_newl hx hb w_1 hK hw (k := 6) (by decide) (n := 13) rfl (by decide) (Nat.le_of_ble_eq_true rfl) (Nat.le_of_ble_eq_true rfl) dX0_init_23 (fun ad_6 H had_6 hw => ?_)
  have e_7 : ad_6 (3) = ad_3 (3) := had_6 _ (by decide)
  rw [← e_7] at hl
  rw [← e_7]
  have e_8 : ad_6 (4) = ad_3 (4) := had_6 _ (by decide)
  rw [← e_8] at hw
  have e_9 : ad_6 (5) = ad_3 (5) := had_6 _ (by decide)
  rw [← e_9] at hw
  refine z_putF (C := RX0) (T := TX0) (N := 6) (fs := [zi (0), zi (0), .ref (ad_6 (4)), .ref (ad_6 (5)), .null, .null]) (fs' := [zi (0), zi (0), .ref (ad_6 (4)), .ref (ad_6 (5)), .ref (ad_6 (6)), .null]) hx hb hts w_5 tyX0_ok nmX0 hown hK hw (by decide) (zU_n (by decide) (zU_s _ _ _)) rfl 4 (by decide) w_7 rfl rfl hnm rfl rfl rfl (Nat.le_of_ble_eq_true rfl) rfl dX0_init_25 (fun H locs hw => ?_)
  refine lv_aload_n hx hb dX0_init_28 rfl (lv_at hl 0 rfl) ?_
  refine z_si hx hb dX0_init_29 (by decide) ?_
  refine z_newi hx hb w_0 hK hw (k := 7) (by decide) (n := 2600) rfl (by decide) (Nat.le_of_ble_eq_true rfl) (Nat.le_of_ble_eq_true rfl) dX0_init_32 (fun ad_10 H had_10 hw => ?_)
  have e_11 : ad_10 (3) = ad_6 (3) := had_10 _ (by decide)
  rw [← e_11] at hl
  rw [← e_11]
  have e_12 : ad_10 (4) = ad_6 (4) := had_10 _ (by decide)
  rw [← e_12] at hw
  have e_13 : ad_10 (5) = ad_6 (5) := had_10 _ (by decide)
  rw [← e_13] at hw
  have e_14 : ad_10 (6) = ad_6 (6) := had_10 _ (by decide)
  rw [← e_14] at hw
  refine z_putF (C := RX0) (T := TX0) (N := 6) (fs := [zi (0), zi (0), .ref (ad_10 (4)), .ref (ad_10 (5)), .ref (ad_10 (6)), .null]) (fs' := [zi (0), zi (0), .ref (ad_10 (4)), .ref (ad_10 (5)), .ref (ad_10 (6)), .ref (ad_10 (7))]) hx hb hts w_5 tyX0_ok nmX0 hown hK hw (by decide) (zU_n (by decide) (zU_s _ _ _)) rfl 5 (by decide) w_8 rfl rfl hnm rfl rfl rfl (Nat.le_of_ble_eq_true rfl) rfl dX0_init_34 (fun H locs hw => ?_)
  exact z_vreta hx hb hlk hr hw (fun k9 hk9 => (had_10 k9 (List.mem_append_left [6] (List.mem_append_left [5] (List.mem_append_left [4] hk9)))).trans ((fun k9 hk9 => (had_6 k9 (List.mem_append_left [5] (List.mem_append_left [4] hk9))).trans ((fun k9 hk9 => (had_3 k9 (List.mem_append_left [4] hk9)).trans ((fun k9 hk9 => (had_1 k9 hk9).trans ((fun _ _ => rfl) k9 hk9)) k9 hk9)) k9 hk9)) k9 hk9)) dX0_init_37 (Nat.le_of_ble_eq_true rfl) (Nat.le_of_ble_eq_true rfl) ⟨rfl, rfl, (zU_s _ _ _), (zU_n (by decide) (zU_n (by decide) (zU_n (by decide) (zU_n (by decide) (zU_n (by decide) (zU_n (by decide) (zU_n (by decide) (zU_s _ _ _)))))))), (zU_n (by decide) (zU_n (by decide) (zU_n (by decide) (zU_n (by decide) (zU_n (by decide) (zU_s _ _ _)))))), (zU_n (by decide) (zU_n (by decide) (zU_n (by decide) (zU_s _ _ _)))), (zU_n (by decide) (zU_s _ _ _)), fun j hj => (zU_n (by omega) (zU_n (by omega) (zU_n (by omega) (zU_n (by omega) (zU_n (by omega) (zU_n (by omega) (zU_n (by omega) (zU_n (by omega) rfl))))))))⟩

set_option maxHeartbeats 4000000 in
set_option maxRecDepth 100000 in
theorem k_Model (l : Launch) (hl0 : l.stackTraces = false) (G : zG) (ad : Nat → Nat) (ct : Nat → va_E) (sz : Nat) (h8 : ct 8 = .inr (4, [zi (0), zi (0), .null, .null, .null, .null, .null, .null, .null, .null, .null, .null, .null, .null, .null, .null, zi (0), .null, .null])) : zNa l yX4_init wsX4_init 1 14 16 2938 G [.ref (ad (8))] [0, 1, 2, 3, 4, 5, 6, 7, 8] ad ct zno sz (fun _ => True) (fun v I1 ad1 ct1 => v = none ∧ I1 = [0, 1, 2, 3, 4, 5, 6, 7, 8, 9, 10, 11, 12, 13, 14, 15, 16, 17, 18, 19, 20, 21, 22, 23, 24] ∧ ct1 8 = .inr (4, [zi (0), zi (0), .ref (ad1 (9)), .ref (ad1 (10)), .ref (ad1 (11)), .ref (ad1 (12)), .ref (ad1 (13)), .ref (ad1 (14)), .ref (ad1 (15)), .ref (ad1 (16)), .ref (ad1 (17)), .ref (ad1 (18)), .ref (ad1 (19)), .ref (ad1 (20)), .ref (ad1 (21)), .ref (ad1 (22)), zi (-1000000), .ref (ad1 (23)), .ref (ad1 (24))]) ∧ ct1 9 = zI G (6) (fun _ => 0) ∧ ct1 10 = zL G (6) (fun _ => 0) ∧ ct1 11 = zL G (6) (fun _ => 0) ∧ ct1 12 = zI G (6) (fun _ => 0) ∧ ct1 13 = zL G (72) (fun _ => 0) ∧ ct1 14 = zL G (72) (fun _ => 0) ∧ ct1 15 = zL G (72) (fun _ => 0) ∧ ct1 16 = zL G (6) (fun _ => 0) ∧ ct1 17 = zL G (6) (fun _ => 0) ∧ ct1 18 = zZ G (6) (fun _ => 0) ∧ ct1 19 = zL G (12) (fun _ => 0) ∧ ct1 20 = zL G (12) (fun _ => 0) ∧ ct1 21 = zL G (12) (fun _ => 0) ∧ ct1 22 = zL G (2600) (fun _ => 0) ∧ ct1 23 = zL G (13) (fun _ => 0) ∧ ct1 24 = zL G (13) (fun _ => 0) ∧ ∀ j : Nat, j < 8 → ct1 j = ct j) := by
  refine z_ofWa (ret := none) hl0 (by decide +kernel) rfl (Nat.le_of_ble_eq_true rfl) ?_
  intro p e s m args below meth c A ls hA0 hsz hF hr hout hnm hw hl hE
  obtain ⟨hx, hb, hml, hown, hts, hK, hlk, hst⟩ := hF
  have hown : s.vm.findClass RX4 = some m.cls := hown
  have hl : lv_has ls 1 [(0, .ref (ad (8)))] := hl
  have w_0 := hts (.arrayClass .int) (by decide +kernel)
  have w_1 := hts (.arrayClass .long) (by decide +kernel)
  have w_2 := hts (.arrayClass .boolean) (by decide +kernel)
  have w_3 := hts (.methodLink RX4 1 objectInit) (by decide +kernel)
  have w_4 := hts (.instanceMethod objectInit) (by decide +kernel)
  have w_5 := hts (.fieldLink RX4 7 "PileMovesModel" "many" "[I") (by decide +kernel)
  have w_6 : ∀ w ∈ wsX40, w ∈ wsX4_init := by decide +kernel
  have w_7 := hts (.fieldLink RX4 13 "PileMovesModel" "springs" "[J") (by decide +kernel)
  have w_8 := hts (.fieldLink RX4 17 "PileMovesModel" "masses" "[J") (by decide +kernel)
  have w_9 := hts (.fieldLink RX4 20 "PileMovesModel" "costs" "[I") (by decide +kernel)
  have w_10 := hts (.fieldLink RX4 23 "PileMovesModel" "stiff" "[J") (by decide +kernel)
  have w_11 := hts (.fieldLink RX4 26 "PileMovesModel" "most" "[J") (by decide +kernel)
  have w_12 := hts (.fieldLink RX4 29 "PileMovesModel" "sinks" "[J") (by decide +kernel)
  have w_13 := hts (.fieldLink RX4 32 "PileMovesModel" "tipStiff" "[J") (by decide +kernel)
  have w_14 := hts (.fieldLink RX4 35 "PileMovesModel" "tipMost" "[J") (by decide +kernel)
  have w_15 := hts (.fieldLink RX4 38 "PileMovesModel" "isIn" "[Z") (by decide +kernel)
  have w_16 := hts (.fieldLink RX4 42 "PileMovesModel" "places" "[J") (by decide +kernel)
  have w_17 := hts (.fieldLink RX4 45 "PileMovesModel" "grounds" "[J") (by decide +kernel)
  have w_18 := hts (.fieldLink RX4 48 "PileMovesModel" "above" "[J") (by decide +kernel)
  have w_19 := hts (.fieldLink RX4 51 "PileMovesModel" "waves" "[J") (by decide +kernel)
  have w_20 := hts (.constant RX4 54 (-1000000)) (by decide +kernel)
  have w_21 := hts (.fieldLink RX4 55 "PileMovesModel" "blown" "I") (by decide +kernel)
  have w_22 := hts (.fieldLink RX4 59 "PileMovesModel" "at" "[J") (by decide +kernel)
  have w_23 := hts (.fieldLink RX4 62 "PileMovesModel" "speeds" "[J") (by decide +kernel)
  refine lv_aload_n hx hb dX4_init_0 rfl (lv_at hl 0 rfl) ?_
  refine W.objInit hx hb hown w_3 w_4 (hts _ (by decide +kernel)) rfl (by rw [hml]; exact hl.1) rfl dX4_init_1 (Nat.le_of_ble_eq_true rfl) (Nat.le_of_ble_eq_true rfl) ?_
  refine W.eq (g2 := F0 m 4 ls []) rfl ?_
  refine lv_aload_n hx hb dX4_init_4 rfl (lv_at hl 0 rfl) ?_
  refine z_bi hx hb dX4_init_5 (by decide) ?_
  refine z_newi hx hb w_0 hK hw (k := 9) (by decide) (n := 6) rfl (by decide) (Nat.le_of_ble_eq_true rfl) (Nat.le_of_ble_eq_true rfl) dX4_init_7 (fun ad_1 H had_1 hw => ?_)
  have e_2 : ad_1 (8) = ad (8) := had_1 _ (by decide)
  rw [← e_2] at hl
  rw [← e_2]
  refine z_putF (C := RX4) (T := TX4) (N := 19) (fs := [zi (0), zi (0), .null, .null, .null, .null, .null, .null, .null, .null, .null, .null, .null, .null, .null, .null, zi (0), .null, .null]) (fs' := [zi (0), zi (0), .ref (ad_1 (9)), .null, .null, .null, .null, .null, .null, .null, .null, .null, .null, .null, .null, .null, zi (0), .null, .null]) hx hb hts w_6 tyX4_ok nmX4 hown hK hw (by decide) (zU_n (by decide) h8) rfl 2 (by decide) w_5 rfl rfl hnm rfl rfl rfl (Nat.le_of_ble_eq_true rfl) rfl dX4_init_9 (fun H locs hw => ?_)
  refine lv_aload_n hx hb dX4_init_12 rfl (lv_at hl 0 rfl) ?_
  refine z_bi hx hb dX4_init_13 (by decide) ?_
  refine z_newl hx hb w_1 hK hw (k := 10) (by decide) (n := 6) rfl (by decide) (Nat.le_of_ble_eq_true rfl) (Nat.le_of_ble_eq_true rfl) dX4_init_15 (fun ad_3 H had_3 hw => ?_)
  have e_4 : ad_3 (8) = ad_1 (8) := had_3 _ (by decide)
  rw [← e_4] at hl
  rw [← e_4]
  have e_5 : ad_3 (9) = ad_1 (9) := had_3 _ (by decide)
  rw [← e_5] at hw
  refine z_putF (C := RX4) (T := TX4) (N := 19) (fs := [zi (0), zi (0), .ref (ad_3 (9)), .null, .null, .null, .null, .null, .null, .null, .null, .null, .null, .null, .null, .null, zi (0), .null, .null]) (fs' := [zi (0), zi (0), .ref (ad_3 (9)), .ref (ad_3 (10)), .null, .null, .null, .null, .null, .null, .null, .null, .null, .null, .null, .null, zi (0), .null, .null]) hx hb hts w_6 tyX4_ok nmX4 hown hK hw (by decide) (zU_n (by decide) (zU_s _ _ _)) rfl 3 (by decide) w_7 rfl rfl hnm rfl rfl rfl (Nat.le_of_ble_eq_true rfl) rfl dX4_init_17 (fun H locs hw => ?_)
  refine lv_aload_n hx hb dX4_init_20 rfl (lv_at hl 0 rfl) ?_
  refine z_bi hx hb dX4_init_21 (by decide) ?_
  refine z_newl hx hb w_1 hK hw (k := 11) (by decide) (n := 6) rfl (by decide) (Nat.le_of_ble_eq_true rfl) (Nat.le_of_ble_eq_true rfl) dX4_init_23 (fun ad_6 H had_6 hw => ?_)
  have e_7 : ad_6 (8) = ad_3 (8) := had_6 _ (by decide)
  rw [← e_7] at hl
  rw [← e_7]
  have e_8 : ad_6 (9) = ad_3 (9) := had_6 _ (by decide)
  rw [← e_8] at hw
  have e_9 : ad_6 (10) = ad_3 (10) := had_6 _ (by decide)
  rw [← e_9] at hw
  refine z_putF (C := RX4) (T := TX4) (N := 19) (fs := [zi (0), zi (0), .ref (ad_6 (9)), .ref (ad_6 (10)), .null, .null, .null, .null, .null, .null, .null, .null, .null, .null, .null, .null, zi (0), .null, .null]) (fs' := [zi (0), zi (0), .ref (ad_6 (9)), .ref (ad_6 (10)), .ref (ad_6 (11)), .null, .null, .null, .null, .null, .null, .null, .null, .null, .null, .null, zi (0), .null, .null]) hx hb hts w_6 tyX4_ok nmX4 hown hK hw (by decide) (zU_n (by decide) (zU_s _ _ _)) rfl 4 (by decide) w_8 rfl rfl hnm rfl rfl rfl (Nat.le_of_ble_eq_true rfl) rfl dX4_init_25 (fun H locs hw => ?_)
  refine lv_aload_n hx hb dX4_init_28 rfl (lv_at hl 0 rfl) ?_
  refine z_bi hx hb dX4_init_29 (by decide) ?_
  refine z_newi hx hb w_0 hK hw (k := 12) (by decide) (n := 6) rfl (by decide) (Nat.le_of_ble_eq_true rfl) (Nat.le_of_ble_eq_true rfl) dX4_init_31 (fun ad_10 H had_10 hw => ?_)
  have e_11 : ad_10 (8) = ad_6 (8) := had_10 _ (by decide)
  rw [← e_11] at hl
  rw [← e_11]
  have e_12 : ad_10 (9) = ad_6 (9) := had_10 _ (by decide)
  rw [← e_12] at hw
  have e_13 : ad_10 (10) = ad_6 (10) := had_10 _ (by decide)
  rw [← e_13] at hw
  have e_14 : ad_10 (11) = ad_6 (11) := had_10 _ (by decide)
  rw [← e_14] at hw
  refine z_putF (C := RX4) (T := TX4) (N := 19) (fs := [zi (0), zi (0), .ref (ad_10 (9)), .ref (ad_10 (10)), .ref (ad_10 (11)), .null, .null, .null, .null, .null, .null, .null, .null, .null, .null, .null, zi (0), .null, .null]) (fs' := [zi (0), zi (0), .ref (ad_10 (9)), .ref (ad_10 (10)), .ref (ad_10 (11)), .ref (ad_10 (12)), .null, .null, .null, .null, .null, .null, .null, .null, .null, .null, zi (0), .null, .null]) hx hb hts w_6 tyX4_ok nmX4 hown hK hw (by decide) (zU_n (by decide) (zU_s _ _ _)) rfl 5 (by decide) w_9 rfl rfl hnm rfl rfl rfl (Nat.le_of_ble_eq_true rfl) rfl dX4_init_33 (fun H locs hw => ?_)
  refine lv_aload_n hx hb dX4_init_36 rfl (lv_at hl 0 rfl) ?_
  refine z_bi hx hb dX4_init_37 (by decide) ?_
  refine z_newl hx hb w_1 hK hw (k := 13) (by decide) (n := 72) rfl (by decide) (Nat.le_of_ble_eq_true rfl) (Nat.le_of_ble_eq_true rfl) dX4_init_39 (fun ad_15 H had_15 hw => ?_)
  have e_16 : ad_15 (8) = ad_10 (8) := had_15 _ (by decide)
  rw [← e_16] at hl
  rw [← e_16]
  have e_17 : ad_15 (9) = ad_10 (9) := had_15 _ (by decide)
  rw [← e_17] at hw
  have e_18 : ad_15 (10) = ad_10 (10) := had_15 _ (by decide)
  rw [← e_18] at hw
  have e_19 : ad_15 (11) = ad_10 (11) := had_15 _ (by decide)
  rw [← e_19] at hw
  have e_20 : ad_15 (12) = ad_10 (12) := had_15 _ (by decide)
  rw [← e_20] at hw
  refine z_putF (C := RX4) (T := TX4) (N := 19) (fs := [zi (0), zi (0), .ref (ad_15 (9)), .ref (ad_15 (10)), .ref (ad_15 (11)), .ref (ad_15 (12)), .null, .null, .null, .null, .null, .null, .null, .null, .null, .null, zi (0), .null, .null]) (fs' := [zi (0), zi (0), .ref (ad_15 (9)), .ref (ad_15 (10)), .ref (ad_15 (11)), .ref (ad_15 (12)), .ref (ad_15 (13)), .null, .null, .null, .null, .null, .null, .null, .null, .null, zi (0), .null, .null]) hx hb hts w_6 tyX4_ok nmX4 hown hK hw (by decide) (zU_n (by decide) (zU_s _ _ _)) rfl 6 (by decide) w_10 rfl rfl hnm rfl rfl rfl (Nat.le_of_ble_eq_true rfl) rfl dX4_init_41 (fun H locs hw => ?_)
  refine lv_aload_n hx hb dX4_init_44 rfl (lv_at hl 0 rfl) ?_
  refine z_bi hx hb dX4_init_45 (by decide) ?_
  refine z_newl hx hb w_1 hK hw (k := 14) (by decide) (n := 72) rfl (by decide) (Nat.le_of_ble_eq_true rfl) (Nat.le_of_ble_eq_true rfl) dX4_init_47 (fun ad_21 H had_21 hw => ?_)
  have e_22 : ad_21 (8) = ad_15 (8) := had_21 _ (by decide)
  rw [← e_22] at hl
  rw [← e_22]
  have e_23 : ad_21 (9) = ad_15 (9) := had_21 _ (by decide)
  rw [← e_23] at hw
  have e_24 : ad_21 (10) = ad_15 (10) := had_21 _ (by decide)
  rw [← e_24] at hw
  have e_25 : ad_21 (11) = ad_15 (11) := had_21 _ (by decide)
  rw [← e_25] at hw
  have e_26 : ad_21 (12) = ad_15 (12) := had_21 _ (by decide)
  rw [← e_26] at hw
  have e_27 : ad_21 (13) = ad_15 (13) := had_21 _ (by decide)
  rw [← e_27] at hw
  refine z_putF (C := RX4) (T := TX4) (N := 19) (fs := [zi (0), zi (0), .ref (ad_21 (9)), .ref (ad_21 (10)), .ref (ad_21 (11)), .ref (ad_21 (12)), .ref (ad_21 (13)), .null, .null, .null, .null, .null, .null, .null, .null, .null, zi (0), .null, .null]) (fs' := [zi (0), zi (0), .ref (ad_21 (9)), .ref (ad_21 (10)), .ref (ad_21 (11)), .ref (ad_21 (12)), .ref (ad_21 (13)), .ref (ad_21 (14)), .null, .null, .null, .null, .null, .null, .null, .null, zi (0), .null, .null]) hx hb hts w_6 tyX4_ok nmX4 hown hK hw (by decide) (zU_n (by decide) (zU_s _ _ _)) rfl 7 (by decide) w_11 rfl rfl hnm rfl rfl rfl (Nat.le_of_ble_eq_true rfl) rfl dX4_init_49 (fun H locs hw => ?_)
  refine lv_aload_n hx hb dX4_init_52 rfl (lv_at hl 0 rfl) ?_
  refine z_bi hx hb dX4_init_53 (by decide) ?_
  refine z_newl hx hb w_1 hK hw (k := 15) (by decide) (n := 72) rfl (by decide) (Nat.le_of_ble_eq_true rfl) (Nat.le_of_ble_eq_true rfl) dX4_init_55 (fun ad_28 H had_28 hw => ?_)
  have e_29 : ad_28 (8) = ad_21 (8) := had_28 _ (by decide)
  rw [← e_29] at hl
  rw [← e_29]
  have e_30 : ad_28 (9) = ad_21 (9) := had_28 _ (by decide)
  rw [← e_30] at hw
  have e_31 : ad_28 (10) = ad_21 (10) := had_28 _ (by decide)
  rw [← e_31] at hw
  have e_32 : ad_28 (11) = ad_21 (11) := had_28 _ (by decide)
  rw [← e_32] at hw
  have e_33 : ad_28 (12) = ad_21 (12) := had_28 _ (by decide)
  rw [← e_33] at hw
  have e_34 : ad_28 (13) = ad_21 (13) := had_28 _ (by decide)
  rw [← e_34] at hw
  have e_35 : ad_28 (14) = ad_21 (14) := had_28 _ (by decide)
  rw [← e_35] at hw
  refine z_putF (C := RX4) (T := TX4) (N := 19) (fs := [zi (0), zi (0), .ref (ad_28 (9)), .ref (ad_28 (10)), .ref (ad_28 (11)), .ref (ad_28 (12)), .ref (ad_28 (13)), .ref (ad_28 (14)), .null, .null, .null, .null, .null, .null, .null, .null, zi (0), .null, .null]) (fs' := [zi (0), zi (0), .ref (ad_28 (9)), .ref (ad_28 (10)), .ref (ad_28 (11)), .ref (ad_28 (12)), .ref (ad_28 (13)), .ref (ad_28 (14)), .ref (ad_28 (15)), .null, .null, .null, .null, .null, .null, .null, zi (0), .null, .null]) hx hb hts w_6 tyX4_ok nmX4 hown hK hw (by decide) (zU_n (by decide) (zU_s _ _ _)) rfl 8 (by decide) w_12 rfl rfl hnm rfl rfl rfl (Nat.le_of_ble_eq_true rfl) rfl dX4_init_57 (fun H locs hw => ?_)
  refine lv_aload_n hx hb dX4_init_60 rfl (lv_at hl 0 rfl) ?_
  refine z_bi hx hb dX4_init_61 (by decide) ?_
  refine z_newl hx hb w_1 hK hw (k := 16) (by decide) (n := 6) rfl (by decide) (Nat.le_of_ble_eq_true rfl) (Nat.le_of_ble_eq_true rfl) dX4_init_63 (fun ad_36 H had_36 hw => ?_)
  have e_37 : ad_36 (8) = ad_28 (8) := had_36 _ (by decide)
  rw [← e_37] at hl
  rw [← e_37]
  have e_38 : ad_36 (9) = ad_28 (9) := had_36 _ (by decide)
  rw [← e_38] at hw
  have e_39 : ad_36 (10) = ad_28 (10) := had_36 _ (by decide)
  rw [← e_39] at hw
  have e_40 : ad_36 (11) = ad_28 (11) := had_36 _ (by decide)
  rw [← e_40] at hw
  have e_41 : ad_36 (12) = ad_28 (12) := had_36 _ (by decide)
  rw [← e_41] at hw
  have e_42 : ad_36 (13) = ad_28 (13) := had_36 _ (by decide)
  rw [← e_42] at hw
  have e_43 : ad_36 (14) = ad_28 (14) := had_36 _ (by decide)
  rw [← e_43] at hw
  have e_44 : ad_36 (15) = ad_28 (15) := had_36 _ (by decide)
  rw [← e_44] at hw
  refine z_putF (C := RX4) (T := TX4) (N := 19) (fs := [zi (0), zi (0), .ref (ad_36 (9)), .ref (ad_36 (10)), .ref (ad_36 (11)), .ref (ad_36 (12)), .ref (ad_36 (13)), .ref (ad_36 (14)), .ref (ad_36 (15)), .null, .null, .null, .null, .null, .null, .null, zi (0), .null, .null]) (fs' := [zi (0), zi (0), .ref (ad_36 (9)), .ref (ad_36 (10)), .ref (ad_36 (11)), .ref (ad_36 (12)), .ref (ad_36 (13)), .ref (ad_36 (14)), .ref (ad_36 (15)), .ref (ad_36 (16)), .null, .null, .null, .null, .null, .null, zi (0), .null, .null]) hx hb hts w_6 tyX4_ok nmX4 hown hK hw (by decide) (zU_n (by decide) (zU_s _ _ _)) rfl 9 (by decide) w_13 rfl rfl hnm rfl rfl rfl (Nat.le_of_ble_eq_true rfl) rfl dX4_init_65 (fun H locs hw => ?_)
  refine lv_aload_n hx hb dX4_init_68 rfl (lv_at hl 0 rfl) ?_
  refine z_bi hx hb dX4_init_69 (by decide) ?_
  refine z_newl hx hb w_1 hK hw (k := 17) (by decide) (n := 6) rfl (by decide) (Nat.le_of_ble_eq_true rfl) (Nat.le_of_ble_eq_true rfl) dX4_init_71 (fun ad_45 H had_45 hw => ?_)
  have e_46 : ad_45 (8) = ad_36 (8) := had_45 _ (by decide)
  rw [← e_46] at hl
  rw [← e_46]
  have e_47 : ad_45 (9) = ad_36 (9) := had_45 _ (by decide)
  rw [← e_47] at hw
  have e_48 : ad_45 (10) = ad_36 (10) := had_45 _ (by decide)
  rw [← e_48] at hw
  have e_49 : ad_45 (11) = ad_36 (11) := had_45 _ (by decide)
  rw [← e_49] at hw
  have e_50 : ad_45 (12) = ad_36 (12) := had_45 _ (by decide)
  rw [← e_50] at hw
  have e_51 : ad_45 (13) = ad_36 (13) := had_45 _ (by decide)
  rw [← e_51] at hw
  have e_52 : ad_45 (14) = ad_36 (14) := had_45 _ (by decide)
  rw [← e_52] at hw
  have e_53 : ad_45 (15) = ad_36 (15) := had_45 _ (by decide)
  rw [← e_53] at hw
  have e_54 : ad_45 (16) = ad_36 (16) := had_45 _ (by decide)
  rw [← e_54] at hw
  refine z_putF (C := RX4) (T := TX4) (N := 19) (fs := [zi (0), zi (0), .ref (ad_45 (9)), .ref (ad_45 (10)), .ref (ad_45 (11)), .ref (ad_45 (12)), .ref (ad_45 (13)), .ref (ad_45 (14)), .ref (ad_45 (15)), .ref (ad_45 (16)), .null, .null, .null, .null, .null, .null, zi (0), .null, .null]) (fs' := [zi (0), zi (0), .ref (ad_45 (9)), .ref (ad_45 (10)), .ref (ad_45 (11)), .ref (ad_45 (12)), .ref (ad_45 (13)), .ref (ad_45 (14)), .ref (ad_45 (15)), .ref (ad_45 (16)), .ref (ad_45 (17)), .null, .null, .null, .null, .null, zi (0), .null, .null]) hx hb hts w_6 tyX4_ok nmX4 hown hK hw (by decide) (zU_n (by decide) (zU_s _ _ _)) rfl 10 (by decide) w_14 rfl rfl hnm rfl rfl rfl (Nat.le_of_ble_eq_true rfl) rfl dX4_init_73 (fun H locs hw => ?_)
  refine lv_aload_n hx hb dX4_init_76 rfl (lv_at hl 0 rfl) ?_
  refine z_bi hx hb dX4_init_77 (by decide) ?_
  refine z_newz hx hb w_2 hK hw (k := 18) (by decide) (n := 6) rfl (by decide) (Nat.le_of_ble_eq_true rfl) (Nat.le_of_ble_eq_true rfl) dX4_init_79 (fun ad_55 H had_55 hw => ?_)
  have e_56 : ad_55 (8) = ad_45 (8) := had_55 _ (by decide)
  rw [← e_56] at hl
  rw [← e_56]
  have e_57 : ad_55 (9) = ad_45 (9) := had_55 _ (by decide)
  rw [← e_57] at hw
  have e_58 : ad_55 (10) = ad_45 (10) := had_55 _ (by decide)
  rw [← e_58] at hw
  have e_59 : ad_55 (11) = ad_45 (11) := had_55 _ (by decide)
  rw [← e_59] at hw
  have e_60 : ad_55 (12) = ad_45 (12) := had_55 _ (by decide)
  rw [← e_60] at hw
  have e_61 : ad_55 (13) = ad_45 (13) := had_55 _ (by decide)
  rw [← e_61] at hw
  have e_62 : ad_55 (14) = ad_45 (14) := had_55 _ (by decide)
  rw [← e_62] at hw
  have e_63 : ad_55 (15) = ad_45 (15) := had_55 _ (by decide)
  rw [← e_63] at hw
  have e_64 : ad_55 (16) = ad_45 (16) := had_55 _ (by decide)
  rw [← e_64] at hw
  have e_65 : ad_55 (17) = ad_45 (17) := had_55 _ (by decide)
  rw [← e_65] at hw
  refine z_putF (C := RX4) (T := TX4) (N := 19) (fs := [zi (0), zi (0), .ref (ad_55 (9)), .ref (ad_55 (10)), .ref (ad_55 (11)), .ref (ad_55 (12)), .ref (ad_55 (13)), .ref (ad_55 (14)), .ref (ad_55 (15)), .ref (ad_55 (16)), .ref (ad_55 (17)), .null, .null, .null, .null, .null, zi (0), .null, .null]) (fs' := [zi (0), zi (0), .ref (ad_55 (9)), .ref (ad_55 (10)), .ref (ad_55 (11)), .ref (ad_55 (12)), .ref (ad_55 (13)), .ref (ad_55 (14)), .ref (ad_55 (15)), .ref (ad_55 (16)), .ref (ad_55 (17)), .ref (ad_55 (18)), .null, .null, .null, .null, zi (0), .null, .null]) hx hb hts w_6 tyX4_ok nmX4 hown hK hw (by decide) (zU_n (by decide) (zU_s _ _ _)) rfl 11 (by decide) w_15 rfl rfl hnm rfl rfl rfl (Nat.le_of_ble_eq_true rfl) rfl dX4_init_81 (fun H locs hw => ?_)
  refine lv_aload_n hx hb dX4_init_84 rfl (lv_at hl 0 rfl) ?_
  refine z_bi hx hb dX4_init_85 (by decide) ?_
  refine z_newl hx hb w_1 hK hw (k := 19) (by decide) (n := 12) rfl (by decide) (Nat.le_of_ble_eq_true rfl) (Nat.le_of_ble_eq_true rfl) dX4_init_87 (fun ad_66 H had_66 hw => ?_)
  have e_67 : ad_66 (8) = ad_55 (8) := had_66 _ (by decide)
  rw [← e_67] at hl
  rw [← e_67]
  have e_68 : ad_66 (9) = ad_55 (9) := had_66 _ (by decide)
  rw [← e_68] at hw
  have e_69 : ad_66 (10) = ad_55 (10) := had_66 _ (by decide)
  rw [← e_69] at hw
  have e_70 : ad_66 (11) = ad_55 (11) := had_66 _ (by decide)
  rw [← e_70] at hw
  have e_71 : ad_66 (12) = ad_55 (12) := had_66 _ (by decide)
  rw [← e_71] at hw
  have e_72 : ad_66 (13) = ad_55 (13) := had_66 _ (by decide)
  rw [← e_72] at hw
  have e_73 : ad_66 (14) = ad_55 (14) := had_66 _ (by decide)
  rw [← e_73] at hw
  have e_74 : ad_66 (15) = ad_55 (15) := had_66 _ (by decide)
  rw [← e_74] at hw
  have e_75 : ad_66 (16) = ad_55 (16) := had_66 _ (by decide)
  rw [← e_75] at hw
  have e_76 : ad_66 (17) = ad_55 (17) := had_66 _ (by decide)
  rw [← e_76] at hw
  have e_77 : ad_66 (18) = ad_55 (18) := had_66 _ (by decide)
  rw [← e_77] at hw
  refine z_putF (C := RX4) (T := TX4) (N := 19) (fs := [zi (0), zi (0), .ref (ad_66 (9)), .ref (ad_66 (10)), .ref (ad_66 (11)), .ref (ad_66 (12)), .ref (ad_66 (13)), .ref (ad_66 (14)), .ref (ad_66 (15)), .ref (ad_66 (16)), .ref (ad_66 (17)), .ref (ad_66 (18)), .null, .null, .null, .null, zi (0), .null, .null]) (fs' := [zi (0), zi (0), .ref (ad_66 (9)), .ref (ad_66 (10)), .ref (ad_66 (11)), .ref (ad_66 (12)), .ref (ad_66 (13)), .ref (ad_66 (14)), .ref (ad_66 (15)), .ref (ad_66 (16)), .ref (ad_66 (17)), .ref (ad_66 (18)), .ref (ad_66 (19)), .null, .null, .null, zi (0), .null, .null]) hx hb hts w_6 tyX4_ok nmX4 hown hK hw (by decide) (zU_n (by decide) (zU_s _ _ _)) rfl 12 (by decide) w_16 rfl rfl hnm rfl rfl rfl (Nat.le_of_ble_eq_true rfl) rfl dX4_init_89 (fun H locs hw => ?_)
  refine lv_aload_n hx hb dX4_init_92 rfl (lv_at hl 0 rfl) ?_
  refine z_bi hx hb dX4_init_93 (by decide) ?_
  refine z_newl hx hb w_1 hK hw (k := 20) (by decide) (n := 12) rfl (by decide) (Nat.le_of_ble_eq_true rfl) (Nat.le_of_ble_eq_true rfl) dX4_init_95 (fun ad_78 H had_78 hw => ?_)
  have e_79 : ad_78 (8) = ad_66 (8) := had_78 _ (by decide)
  rw [← e_79] at hl
  rw [← e_79]
  have e_80 : ad_78 (9) = ad_66 (9) := had_78 _ (by decide)
  rw [← e_80] at hw
  have e_81 : ad_78 (10) = ad_66 (10) := had_78 _ (by decide)
  rw [← e_81] at hw
  have e_82 : ad_78 (11) = ad_66 (11) := had_78 _ (by decide)
  rw [← e_82] at hw
  have e_83 : ad_78 (12) = ad_66 (12) := had_78 _ (by decide)
  rw [← e_83] at hw
  have e_84 : ad_78 (13) = ad_66 (13) := had_78 _ (by decide)
  rw [← e_84] at hw
  have e_85 : ad_78 (14) = ad_66 (14) := had_78 _ (by decide)
  rw [← e_85] at hw
  have e_86 : ad_78 (15) = ad_66 (15) := had_78 _ (by decide)
  rw [← e_86] at hw
  have e_87 : ad_78 (16) = ad_66 (16) := had_78 _ (by decide)
  rw [← e_87] at hw
  have e_88 : ad_78 (17) = ad_66 (17) := had_78 _ (by decide)
  rw [← e_88] at hw
  have e_89 : ad_78 (18) = ad_66 (18) := had_78 _ (by decide)
  rw [← e_89] at hw
  have e_90 : ad_78 (19) = ad_66 (19) := had_78 _ (by decide)
  rw [← e_90] at hw
  refine z_putF (C := RX4) (T := TX4) (N := 19) (fs := [zi (0), zi (0), .ref (ad_78 (9)), .ref (ad_78 (10)), .ref (ad_78 (11)), .ref (ad_78 (12)), .ref (ad_78 (13)), .ref (ad_78 (14)), .ref (ad_78 (15)), .ref (ad_78 (16)), .ref (ad_78 (17)), .ref (ad_78 (18)), .ref (ad_78 (19)), .null, .null, .null, zi (0), .null, .null]) (fs' := [zi (0), zi (0), .ref (ad_78 (9)), .ref (ad_78 (10)), .ref (ad_78 (11)), .ref (ad_78 (12)), .ref (ad_78 (13)), .ref (ad_78 (14)), .ref (ad_78 (15)), .ref (ad_78 (16)), .ref (ad_78 (17)), .ref (ad_78 (18)), .ref (ad_78 (19)), .ref (ad_78 (20)), .null, .null, zi (0), .null, .null]) hx hb hts w_6 tyX4_ok nmX4 hown hK hw (by decide) (zU_n (by decide) (zU_s _ _ _)) rfl 13 (by decide) w_17 rfl rfl hnm rfl rfl rfl (Nat.le_of_ble_eq_true rfl) rfl dX4_init_97 (fun H locs hw => ?_)
  refine lv_aload_n hx hb dX4_init_100 rfl (lv_at hl 0 rfl) ?_
  refine z_bi hx hb dX4_init_101 (by decide) ?_
  refine z_newl hx hb w_1 hK hw (k := 21) (by decide) (n := 12) rfl (by decide) (Nat.le_of_ble_eq_true rfl) (Nat.le_of_ble_eq_true rfl) dX4_init_103 (fun ad_91 H had_91 hw => ?_)
  have e_92 : ad_91 (8) = ad_78 (8) := had_91 _ (by decide)
  rw [← e_92] at hl
  rw [← e_92]
  have e_93 : ad_91 (9) = ad_78 (9) := had_91 _ (by decide)
  rw [← e_93] at hw
  have e_94 : ad_91 (10) = ad_78 (10) := had_91 _ (by decide)
  rw [← e_94] at hw
  have e_95 : ad_91 (11) = ad_78 (11) := had_91 _ (by decide)
  rw [← e_95] at hw
  have e_96 : ad_91 (12) = ad_78 (12) := had_91 _ (by decide)
  rw [← e_96] at hw
  have e_97 : ad_91 (13) = ad_78 (13) := had_91 _ (by decide)
  rw [← e_97] at hw
  have e_98 : ad_91 (14) = ad_78 (14) := had_91 _ (by decide)
  rw [← e_98] at hw
  have e_99 : ad_91 (15) = ad_78 (15) := had_91 _ (by decide)
  rw [← e_99] at hw
  have e_100 : ad_91 (16) = ad_78 (16) := had_91 _ (by decide)
  rw [← e_100] at hw
  have e_101 : ad_91 (17) = ad_78 (17) := had_91 _ (by decide)
  rw [← e_101] at hw
  have e_102 : ad_91 (18) = ad_78 (18) := had_91 _ (by decide)
  rw [← e_102] at hw
  have e_103 : ad_91 (19) = ad_78 (19) := had_91 _ (by decide)
  rw [← e_103] at hw
  have e_104 : ad_91 (20) = ad_78 (20) := had_91 _ (by decide)
  rw [← e_104] at hw
  refine z_putF (C := RX4) (T := TX4) (N := 19) (fs := [zi (0), zi (0), .ref (ad_91 (9)), .ref (ad_91 (10)), .ref (ad_91 (11)), .ref (ad_91 (12)), .ref (ad_91 (13)), .ref (ad_91 (14)), .ref (ad_91 (15)), .ref (ad_91 (16)), .ref (ad_91 (17)), .ref (ad_91 (18)), .ref (ad_91 (19)), .ref (ad_91 (20)), .null, .null, zi (0), .null, .null]) (fs' := [zi (0), zi (0), .ref (ad_91 (9)), .ref (ad_91 (10)), .ref (ad_91 (11)), .ref (ad_91 (12)), .ref (ad_91 (13)), .ref (ad_91 (14)), .ref (ad_91 (15)), .ref (ad_91 (16)), .ref (ad_91 (17)), .ref (ad_91 (18)), .ref (ad_91 (19)), .ref (ad_91 (20)), .ref (ad_91 (21)), .null, zi (0), .null, .null]) hx hb hts w_6 tyX4_ok nmX4 hown hK hw (by decide) (zU_n (by decide) (zU_s _ _ _)) rfl 14 (by decide) w_18 rfl rfl hnm rfl rfl rfl (Nat.le_of_ble_eq_true rfl) rfl dX4_init_105 (fun H locs hw => ?_)
  refine lv_aload_n hx hb dX4_init_108 rfl (lv_at hl 0 rfl) ?_
  refine z_si hx hb dX4_init_109 (by decide) ?_
  refine z_newl hx hb w_1 hK hw (k := 22) (by decide) (n := 2600) rfl (by decide) (Nat.le_of_ble_eq_true rfl) (Nat.le_of_ble_eq_true rfl) dX4_init_112 (fun ad_105 H had_105 hw => ?_)
  have e_106 : ad_105 (8) = ad_91 (8) := had_105 _ (by decide)
  rw [← e_106] at hl
  rw [← e_106]
  have e_107 : ad_105 (9) = ad_91 (9) := had_105 _ (by decide)
  rw [← e_107] at hw
  have e_108 : ad_105 (10) = ad_91 (10) := had_105 _ (by decide)
  rw [← e_108] at hw
  have e_109 : ad_105 (11) = ad_91 (11) := had_105 _ (by decide)
  rw [← e_109] at hw
  have e_110 : ad_105 (12) = ad_91 (12) := had_105 _ (by decide)
  rw [← e_110] at hw
  have e_111 : ad_105 (13) = ad_91 (13) := had_105 _ (by decide)
  rw [← e_111] at hw
  have e_112 : ad_105 (14) = ad_91 (14) := had_105 _ (by decide)
  rw [← e_112] at hw
  have e_113 : ad_105 (15) = ad_91 (15) := had_105 _ (by decide)
  rw [← e_113] at hw
  have e_114 : ad_105 (16) = ad_91 (16) := had_105 _ (by decide)
  rw [← e_114] at hw
  have e_115 : ad_105 (17) = ad_91 (17) := had_105 _ (by decide)
  rw [← e_115] at hw
  have e_116 : ad_105 (18) = ad_91 (18) := had_105 _ (by decide)
  rw [← e_116] at hw
  have e_117 : ad_105 (19) = ad_91 (19) := had_105 _ (by decide)
  rw [← e_117] at hw
  have e_118 : ad_105 (20) = ad_91 (20) := had_105 _ (by decide)
  rw [← e_118] at hw
  have e_119 : ad_105 (21) = ad_91 (21) := had_105 _ (by decide)
  rw [← e_119] at hw
  refine z_putF (C := RX4) (T := TX4) (N := 19) (fs := [zi (0), zi (0), .ref (ad_105 (9)), .ref (ad_105 (10)), .ref (ad_105 (11)), .ref (ad_105 (12)), .ref (ad_105 (13)), .ref (ad_105 (14)), .ref (ad_105 (15)), .ref (ad_105 (16)), .ref (ad_105 (17)), .ref (ad_105 (18)), .ref (ad_105 (19)), .ref (ad_105 (20)), .ref (ad_105 (21)), .null, zi (0), .null, .null]) (fs' := [zi (0), zi (0), .ref (ad_105 (9)), .ref (ad_105 (10)), .ref (ad_105 (11)), .ref (ad_105 (12)), .ref (ad_105 (13)), .ref (ad_105 (14)), .ref (ad_105 (15)), .ref (ad_105 (16)), .ref (ad_105 (17)), .ref (ad_105 (18)), .ref (ad_105 (19)), .ref (ad_105 (20)), .ref (ad_105 (21)), .ref (ad_105 (22)), zi (0), .null, .null]) hx hb hts w_6 tyX4_ok nmX4 hown hK hw (by decide) (zU_n (by decide) (zU_s _ _ _)) rfl 15 (by decide) w_19 rfl rfl hnm rfl rfl rfl (Nat.le_of_ble_eq_true rfl) rfl dX4_init_114 (fun H locs hw => ?_)
  refine lv_aload_n hx hb dX4_init_117 rfl (lv_at hl 0 rfl) ?_
  refine z_ldc (n := -1000000) hx hb hown w_20 (by decide) dX4_init_118 ?_
  refine z_put (C := RX4) (T := TX4) (N := 19) (fs := [zi (0), zi (0), .ref (ad_105 (9)), .ref (ad_105 (10)), .ref (ad_105 (11)), .ref (ad_105 (12)), .ref (ad_105 (13)), .ref (ad_105 (14)), .ref (ad_105 (15)), .ref (ad_105 (16)), .ref (ad_105 (17)), .ref (ad_105 (18)), .ref (ad_105 (19)), .ref (ad_105 (20)), .ref (ad_105 (21)), .ref (ad_105 (22)), zi (0), .null, .null]) (fs' := [zi (0), zi (0), .ref (ad_105 (9)), .ref (ad_105 (10)), .ref (ad_105 (11)), .ref (ad_105 (12)), .ref (ad_105 (13)), .ref (ad_105 (14)), .ref (ad_105 (15)), .ref (ad_105 (16)), .ref (ad_105 (17)), .ref (ad_105 (18)), .ref (ad_105 (19)), .ref (ad_105 (20)), .ref (ad_105 (21)), .ref (ad_105 (22)), zi (-1000000), .null, .null]) hx hb hts w_6 tyX4_ok nmX4 hown hK hw (by decide) (zU_s _ _ _) rfl 16 (by decide) w_21 rfl rfl rfl rfl (Nat.le_of_ble_eq_true rfl) rfl dX4_init_120 (fun H locs hw => ?_)
  refine lv_aload_n hx hb dX4_init_123 rfl (lv_at hl 0 rfl) ?_
  refine z_bi hx hb dX4_init_124 (by decide) ?_
  refine z_newl hx hb w_1 hK hw (k := 23) (by decide) (n := 13) rfl (by decide) (Nat.le_of_ble_eq_true rfl) (Nat.le_of_ble_eq_true rfl) dX4_init_126 (fun ad_120 H had_120 hw => ?_)
  have e_121 : ad_120 (8) = ad_105 (8) := had_120 _ (by decide)
  rw [← e_121] at hl
  rw [← e_121]
  have e_122 : ad_120 (9) = ad_105 (9) := had_120 _ (by decide)
  rw [← e_122] at hw
  have e_123 : ad_120 (10) = ad_105 (10) := had_120 _ (by decide)
  rw [← e_123] at hw
  have e_124 : ad_120 (11) = ad_105 (11) := had_120 _ (by decide)
  rw [← e_124] at hw
  have e_125 : ad_120 (12) = ad_105 (12) := had_120 _ (by decide)
  rw [← e_125] at hw
  have e_126 : ad_120 (13) = ad_105 (13) := had_120 _ (by decide)
  rw [← e_126] at hw
  have e_127 : ad_120 (14) = ad_105 (14) := had_120 _ (by decide)
  rw [← e_127] at hw
  have e_128 : ad_120 (15) = ad_105 (15) := had_120 _ (by decide)
  rw [← e_128] at hw
  have e_129 : ad_120 (16) = ad_105 (16) := had_120 _ (by decide)
  rw [← e_129] at hw
  have e_130 : ad_120 (17) = ad_105 (17) := had_120 _ (by decide)
  rw [← e_130] at hw
  have e_131 : ad_120 (18) = ad_105 (18) := had_120 _ (by decide)
  rw [← e_131] at hw
  have e_132 : ad_120 (19) = ad_105 (19) := had_120 _ (by decide)
  rw [← e_132] at hw
  have e_133 : ad_120 (20) = ad_105 (20) := had_120 _ (by decide)
  rw [← e_133] at hw
  have e_134 : ad_120 (21) = ad_105 (21) := had_120 _ (by decide)
  rw [← e_134] at hw
  have e_135 : ad_120 (22) = ad_105 (22) := had_120 _ (by decide)
  rw [← e_135] at hw
  refine z_putF (C := RX4) (T := TX4) (N := 19) (fs := [zi (0), zi (0), .ref (ad_120 (9)), .ref (ad_120 (10)), .ref (ad_120 (11)), .ref (ad_120 (12)), .ref (ad_120 (13)), .ref (ad_120 (14)), .ref (ad_120 (15)), .ref (ad_120 (16)), .ref (ad_120 (17)), .ref (ad_120 (18)), .ref (ad_120 (19)), .ref (ad_120 (20)), .ref (ad_120 (21)), .ref (ad_120 (22)), zi (-1000000), .null, .null]) (fs' := [zi (0), zi (0), .ref (ad_120 (9)), .ref (ad_120 (10)), .ref (ad_120 (11)), .ref (ad_120 (12)), .ref (ad_120 (13)), .ref (ad_120 (14)), .ref (ad_120 (15)), .ref (ad_120 (16)), .ref (ad_120 (17)), .ref (ad_120 (18)), .ref (ad_120 (19)), .ref (ad_120 (20)), .ref (ad_120 (21)), .ref (ad_120 (22)), zi (-1000000), .ref (ad_120 (23)), .null]) hx hb hts w_6 tyX4_ok nmX4 hown hK hw (by decide) (zU_n (by decide) (zU_s _ _ _)) rfl 17 (by decide) w_22 rfl rfl hnm rfl rfl rfl (Nat.le_of_ble_eq_true rfl) rfl dX4_init_128 (fun H locs hw => ?_)
  refine lv_aload_n hx hb dX4_init_131 rfl (lv_at hl 0 rfl) ?_
  refine z_bi hx hb dX4_init_132 (by decide) ?_
  refine z_newl hx hb w_1 hK hw (k := 24) (by decide) (n := 13) rfl (by decide) (Nat.le_of_ble_eq_true rfl) (Nat.le_of_ble_eq_true rfl) dX4_init_134 (fun ad_136 H had_136 hw => ?_)
  have e_137 : ad_136 (8) = ad_120 (8) := had_136 _ (by decide)
  rw [← e_137] at hl
  rw [← e_137]
  have e_138 : ad_136 (9) = ad_120 (9) := had_136 _ (by decide)
  rw [← e_138] at hw
  have e_139 : ad_136 (10) = ad_120 (10) := had_136 _ (by decide)
  rw [← e_139] at hw
  have e_140 : ad_136 (11) = ad_120 (11) := had_136 _ (by decide)
  rw [← e_140] at hw
  have e_141 : ad_136 (12) = ad_120 (12) := had_136 _ (by decide)
  rw [← e_141] at hw
  have e_142 : ad_136 (13) = ad_120 (13) := had_136 _ (by decide)
  rw [← e_142] at hw
  have e_143 : ad_136 (14) = ad_120 (14) := had_136 _ (by decide)
  rw [← e_143] at hw
  have e_144 : ad_136 (15) = ad_120 (15) := had_136 _ (by decide)
  rw [← e_144] at hw
  have e_145 : ad_136 (16) = ad_120 (16) := had_136 _ (by decide)
  rw [← e_145] at hw
  have e_146 : ad_136 (17) = ad_120 (17) := had_136 _ (by decide)
  rw [← e_146] at hw
  have e_147 : ad_136 (18) = ad_120 (18) := had_136 _ (by decide)
  rw [← e_147] at hw
  have e_148 : ad_136 (19) = ad_120 (19) := had_136 _ (by decide)
  rw [← e_148] at hw
  have e_149 : ad_136 (20) = ad_120 (20) := had_136 _ (by decide)
  rw [← e_149] at hw
  have e_150 : ad_136 (21) = ad_120 (21) := had_136 _ (by decide)
  rw [← e_150] at hw
  have e_151 : ad_136 (22) = ad_120 (22) := had_136 _ (by decide)
  rw [← e_151] at hw
  have e_152 : ad_136 (23) = ad_120 (23) := had_136 _ (by decide)
  rw [← e_152] at hw
  refine z_putF (C := RX4) (T := TX4) (N := 19) (fs := [zi (0), zi (0), .ref (ad_136 (9)), .ref (ad_136 (10)), .ref (ad_136 (11)), .ref (ad_136 (12)), .ref (ad_136 (13)), .ref (ad_136 (14)), .ref (ad_136 (15)), .ref (ad_136 (16)), .ref (ad_136 (17)), .ref (ad_136 (18)), .ref (ad_136 (19)), .ref (ad_136 (20)), .ref (ad_136 (21)), .ref (ad_136 (22)), zi (-1000000), .ref (ad_136 (23)), .null]) (fs' := [zi (0), zi (0), .ref (ad_136 (9)), .ref (ad_136 (10)), .ref (ad_136 (11)), .ref (ad_136 (12)), .ref (ad_136 (13)), .ref (ad_136 (14)), .ref (ad_136 (15)), .ref (ad_136 (16)), .ref (ad_136 (17)), .ref (ad_136 (18)), .ref (ad_136 (19)), .ref (ad_136 (20)), .ref (ad_136 (21)), .ref (ad_136 (22)), zi (-1000000), .ref (ad_136 (23)), .ref (ad_136 (24))]) hx hb hts w_6 tyX4_ok nmX4 hown hK hw (by decide) (zU_n (by decide) (zU_s _ _ _)) rfl 18 (by decide) w_23 rfl rfl hnm rfl rfl rfl (Nat.le_of_ble_eq_true rfl) rfl dX4_init_136 (fun H locs hw => ?_)
  exact z_vreta hx hb hlk hr hw (fun k9 hk9 => (had_136 k9 (List.mem_append_left [23] (List.mem_append_left [22] (List.mem_append_left [21] (List.mem_append_left [20] (List.mem_append_left [19] (List.mem_append_left [18] (List.mem_append_left [17] (List.mem_append_left [16] (List.mem_append_left [15] (List.mem_append_left [14] (List.mem_append_left [13] (List.mem_append_left [12] (List.mem_append_left [11] (List.mem_append_left [10] (List.mem_append_left [9] hk9)))))))))))))))).trans ((fun k9 hk9 => (had_120 k9 (List.mem_append_left [22] (List.mem_append_left [21] (List.mem_append_left [20] (List.mem_append_left [19] (List.mem_append_left [18] (List.mem_append_left [17] (List.mem_append_left [16] (List.mem_append_left [15] (List.mem_append_left [14] (List.mem_append_left [13] (List.mem_append_left [12] (List.mem_append_left [11] (List.mem_append_left [10] (List.mem_append_left [9] hk9))))))))))))))).trans ((fun k9 hk9 => (had_105 k9 (List.mem_append_left [21] (List.mem_append_left [20] (List.mem_append_left [19] (List.mem_append_left [18] (List.mem_append_left [17] (List.mem_append_left [16] (List.mem_append_left [15] (List.mem_append_left [14] (List.mem_append_left [13] (List.mem_append_left [12] (List.mem_append_left [11] (List.mem_append_left [10] (List.mem_append_left [9] hk9)))))))))))))).trans ((fun k9 hk9 => (had_91 k9 (List.mem_append_left [20] (List.mem_append_left [19] (List.mem_append_left [18] (List.mem_append_left [17] (List.mem_append_left [16] (List.mem_append_left [15] (List.mem_append_left [14] (List.mem_append_left [13] (List.mem_append_left [12] (List.mem_append_left [11] (List.mem_append_left [10] (List.mem_append_left [9] hk9))))))))))))).trans ((fun k9 hk9 => (had_78 k9 (List.mem_append_left [19] (List.mem_append_left [18] (List.mem_append_left [17] (List.mem_append_left [16] (List.mem_append_left [15] (List.mem_append_left [14] (List.mem_append_left [13] (List.mem_append_left [12] (List.mem_append_left [11] (List.mem_append_left [10] (List.mem_append_left [9] hk9)))))))))))).trans ((fun k9 hk9 => (had_66 k9 (List.mem_append_left [18] (List.mem_append_left [17] (List.mem_append_left [16] (List.mem_append_left [15] (List.mem_append_left [14] (List.mem_append_left [13] (List.mem_append_left [12] (List.mem_append_left [11] (List.mem_append_left [10] (List.mem_append_left [9] hk9))))))))))).trans ((fun k9 hk9 => (had_55 k9 (List.mem_append_left [17] (List.mem_append_left [16] (List.mem_append_left [15] (List.mem_append_left [14] (List.mem_append_left [13] (List.mem_append_left [12] (List.mem_append_left [11] (List.mem_append_left [10] (List.mem_append_left [9] hk9)))))))))).trans ((fun k9 hk9 => (had_45 k9 (List.mem_append_left [16] (List.mem_append_left [15] (List.mem_append_left [14] (List.mem_append_left [13] (List.mem_append_left [12] (List.mem_append_left [11] (List.mem_append_left [10] (List.mem_append_left [9] hk9))))))))).trans ((fun k9 hk9 => (had_36 k9 (List.mem_append_left [15] (List.mem_append_left [14] (List.mem_append_left [13] (List.mem_append_left [12] (List.mem_append_left [11] (List.mem_append_left [10] (List.mem_append_left [9] hk9)))))))).trans ((fun k9 hk9 => (had_28 k9 (List.mem_append_left [14] (List.mem_append_left [13] (List.mem_append_left [12] (List.mem_append_left [11] (List.mem_append_left [10] (List.mem_append_left [9] hk9))))))).trans ((fun k9 hk9 => (had_21 k9 (List.mem_append_left [13] (List.mem_append_left [12] (List.mem_append_left [11] (List.mem_append_left [10] (List.mem_append_left [9] hk9)))))).trans ((fun k9 hk9 => (had_15 k9 (List.mem_append_left [12] (List.mem_append_left [11] (List.mem_append_left [10] (List.mem_append_left [9] hk9))))).trans ((fun k9 hk9 => (had_10 k9 (List.mem_append_left [11] (List.mem_append_left [10] (List.mem_append_left [9] hk9)))).trans ((fun k9 hk9 => (had_6 k9 (List.mem_append_left [10] (List.mem_append_left [9] hk9))).trans ((fun k9 hk9 => (had_3 k9 (List.mem_append_left [9] hk9)).trans ((fun k9 hk9 => (had_1 k9 hk9).trans ((fun _ _ => rfl) k9 hk9)) k9 hk9)) k9 hk9)) k9 hk9)) k9 hk9)) k9 hk9)) k9 hk9)) k9 hk9)) k9 hk9)) k9 hk9)) k9 hk9)) k9 hk9)) k9 hk9)) k9 hk9)) k9 hk9)) k9 hk9)) dX4_init_139 (Nat.le_of_ble_eq_true rfl) (Nat.le_of_ble_eq_true rfl) ⟨rfl, rfl, (zU_s _ _ _), (zU_n (by decide) (zU_n (by decide) (zU_n (by decide) (zU_n (by decide) (zU_n (by decide) (zU_n (by decide) (zU_n (by decide) (zU_n (by decide) (zU_n (by decide) (zU_n (by decide) (zU_n (by decide) (zU_n (by decide) (zU_n (by decide) (zU_n (by decide) (zU_n (by decide) (zU_n (by decide) (zU_n (by decide) (zU_n (by decide) (zU_n (by decide) (zU_n (by decide) (zU_n (by decide) (zU_n (by decide) (zU_n (by decide) (zU_n (by decide) (zU_n (by decide) (zU_n (by decide) (zU_n (by decide) (zU_n (by decide) (zU_n (by decide) (zU_n (by decide) (zU_n (by decide) (zU_n (by decide) (zU_s _ _ _))))))))))))))))))))))))))))))))), (zU_n (by decide) (zU_n (by decide) (zU_n (by decide) (zU_n (by decide) (zU_n (by decide) (zU_n (by decide) (zU_n (by decide) (zU_n (by decide) (zU_n (by decide) (zU_n (by decide) (zU_n (by decide) (zU_n (by decide) (zU_n (by decide) (zU_n (by decide) (zU_n (by decide) (zU_n (by decide) (zU_n (by decide) (zU_n (by decide) (zU_n (by decide) (zU_n (by decide) (zU_n (by decide) (zU_n (by decide) (zU_n (by decide) (zU_n (by decide) (zU_n (by decide) (zU_n (by decide) (zU_n (by decide) (zU_n (by decide) (zU_n (by decide) (zU_n (by decide) (zU_s _ _ _))))))))))))))))))))))))))))))), (zU_n (by decide) (zU_n (by decide) (zU_n (by decide) (zU_n (by decide) (zU_n (by decide) (zU_n (by decide) (zU_n (by decide) (zU_n (by decide) (zU_n (by decide) (zU_n (by decide) (zU_n (by decide) (zU_n (by decide) (zU_n (by decide) (zU_n (by decide) (zU_n (by decide) (zU_n (by decide) (zU_n (by decide) (zU_n (by decide) (zU_n (by decide) (zU_n (by decide) (zU_n (by decide) (zU_n (by decide) (zU_n (by decide) (zU_n (by decide) (zU_n (by decide) (zU_n (by decide) (zU_n (by decide) (zU_n (by decide) (zU_s _ _ _))))))))))))))))))))))))))))), (zU_n (by decide) (zU_n (by decide) (zU_n (by decide) (zU_n (by decide) (zU_n (by decide) (zU_n (by decide) (zU_n (by decide) (zU_n (by decide) (zU_n (by decide) (zU_n (by decide) (zU_n (by decide) (zU_n (by decide) (zU_n (by decide) (zU_n (by decide) (zU_n (by decide) (zU_n (by decide) (zU_n (by decide) (zU_n (by decide) (zU_n (by decide) (zU_n (by decide) (zU_n (by decide) (zU_n (by decide) (zU_n (by decide) (zU_n (by decide) (zU_n (by decide) (zU_n (by decide) (zU_s _ _ _))))))))))))))))))))))))))), (zU_n (by decide) (zU_n (by decide) (zU_n (by decide) (zU_n (by decide) (zU_n (by decide) (zU_n (by decide) (zU_n (by decide) (zU_n (by decide) (zU_n (by decide) (zU_n (by decide) (zU_n (by decide) (zU_n (by decide) (zU_n (by decide) (zU_n (by decide) (zU_n (by decide) (zU_n (by decide) (zU_n (by decide) (zU_n (by decide) (zU_n (by decide) (zU_n (by decide) (zU_n (by decide) (zU_n (by decide) (zU_n (by decide) (zU_n (by decide) (zU_s _ _ _))))))))))))))))))))))))), (zU_n (by decide) (zU_n (by decide) (zU_n (by decide) (zU_n (by decide) (zU_n (by decide) (zU_n (by decide) (zU_n (by decide) (zU_n (by decide) (zU_n (by decide) (zU_n (by decide) (zU_n (by decide) (zU_n (by decide) (zU_n (by decide) (zU_n (by decide) (zU_n (by decide) (zU_n (by decide) (zU_n (by decide) (zU_n (by decide) (zU_n (by decide) (zU_n (by decide) (zU_n (by decide) (zU_n (by decide) (zU_s _ _ _))))))))))))))))))))))), (zU_n (by decide) (zU_n (by decide) (zU_n (by decide) (zU_n (by decide) (zU_n (by decide) (zU_n (by decide) (zU_n (by decide) (zU_n (by decide) (zU_n (by decide) (zU_n (by decide) (zU_n (by decide) (zU_n (by decide) (zU_n (by decide) (zU_n (by decide) (zU_n (by decide) (zU_n (by decide) (zU_n (by decide) (zU_n (by decide) (zU_n (by decide) (zU_n (by decide) (zU_s _ _ _))))))))))))))))))))), (zU_n (by decide) (zU_n (by decide) (zU_n (by decide) (zU_n (by decide) (zU_n (by decide) (zU_n (by decide) (zU_n (by decide) (zU_n (by decide) (zU_n (by decide) (zU_n (by decide) (zU_n (by decide) (zU_n (by decide) (zU_n (by decide) (zU_n (by decide) (zU_n (by decide) (zU_n (by decide) (zU_n (by decide) (zU_n (by decide) (zU_s _ _ _))))))))))))))))))), (zU_n (by decide) (zU_n (by decide) (zU_n (by decide) (zU_n (by decide) (zU_n (by decide) (zU_n (by decide) (zU_n (by decide) (zU_n (by decide) (zU_n (by decide) (zU_n (by decide) (zU_n (by decide) (zU_n (by decide) (zU_n (by decide) (zU_n (by decide) (zU_n (by decide) (zU_n (by decide) (zU_s _ _ _))))))))))))))))), (zU_n (by decide) (zU_n (by decide) (zU_n (by decide) (zU_n (by decide) (zU_n (by decide) (zU_n (by decide) (zU_n (by decide) (zU_n (by decide) (zU_n (by decide) (zU_n (by decide) (zU_n (by decide) (zU_n (by decide) (zU_n (by decide) (zU_n (by decide) (zU_s _ _ _))))))))))))))), (zU_n (by decide) (zU_n (by decide) (zU_n (by decide) (zU_n (by decide) (zU_n (by decide) (zU_n (by decide) (zU_n (by decide) (zU_n (by decide) (zU_n (by decide) (zU_n (by decide) (zU_n (by decide) (zU_n (by decide) (zU_s _ _ _))))))))))))), (zU_n (by decide) (zU_n (by decide) (zU_n (by decide) (zU_n (by decide) (zU_n (by decide) (zU_n (by decide) (zU_n (by decide) (zU_n (by decide) (zU_n (by decide) (zU_n (by decide) (zU_s _ _ _))))))))))), (zU_n (by decide) (zU_n (by decide) (zU_n (by decide) (zU_n (by decide) (zU_n (by decide) (zU_n (by decide) (zU_n (by decide) (zU_n (by decide) (zU_s _ _ _))))))))), (zU_n (by decide) (zU_n (by decide) (zU_n (by decide) (zU_n (by decide) (zU_n (by decide) (zU_n (by decide) (zU_s _ _ _))))))), (zU_n (by decide) (zU_n (by decide) (zU_n (by decide) (zU_s _ _ _)))), (zU_n (by decide) (zU_s _ _ _)), fun j hj => (zU_n (by omega) (zU_n (by omega) (zU_n (by omega) (zU_n (by omega) (zU_n (by omega) (zU_n (by omega) (zU_n (by omega) (zU_n (by omega) (zU_n (by omega) (zU_n (by omega) (zU_n (by omega) (zU_n (by omega) (zU_n (by omega) (zU_n (by omega) (zU_n (by omega) (zU_n (by omega) (zU_n (by omega) (zU_n (by omega) (zU_n (by omega) (zU_n (by omega) (zU_n (by omega) (zU_n (by omega) (zU_n (by omega) (zU_n (by omega) (zU_n (by omega) (zU_n (by omega) (zU_n (by omega) (zU_n (by omega) (zU_n (by omega) (zU_n (by omega) (zU_n (by omega) (zU_n (by omega) (zU_n (by omega) rfl)))))))))))))))))))))))))))))))))⟩

set_option maxHeartbeats 4000000 in
set_option maxRecDepth 100000 in
theorem k_PileMoves (l : Launch) (hl0 : l.stackTraces = false) (G : zG) (ad : Nat → Nat) (ct : Nat → va_E) (sz : Nat) (h0 : ct 0 = .inr (3, [.null, .null, .null, zi (0)])) : zNa l yX3_init wsX3_init 2 34 7 2655 G [.ref (ad (0))] [0] ad ct zno sz (va_AO "PileMoves$Pile") (fun v I1 ad1 ct1 => v = none ∧ I1 = [0, 1, 2, 3, 4, 5, 6, 7] ∧ ct1 0 = .inr (3, [.ref (ad1 (1)), .ref (ad1 (2)), .ref (ad1 (3)), zi (0)]) ∧ ct1 1 = zP G (6) (fun _ => none) ∧ ct1 2 = .inr (2, [zi (0), zi (0), zi (0), zi (0)]) ∧ ct1 3 = .inr (0, [zi (0), zi (0), .ref (ad1 (4)), .ref (ad1 (5)), .ref (ad1 (6)), .ref (ad1 (7))]) ∧ ct1 4 = zI G (13) (fun _ => 0) ∧ ct1 5 = zI G (13) (fun _ => 0) ∧ ct1 6 = zL G (13) (fun _ => 0) ∧ ct1 7 = zI G (2600) (fun _ => 0)) := by
  refine z_ofWa (ret := none) hl0 (by decide +kernel) rfl (Nat.le_of_ble_eq_true rfl) ?_
  intro p e s m args below meth c A ls hA0 hsz hF hr hout hnm hw hl hE
  obtain ⟨hx, hb, hml, hown, hts, hK, hlk, hst⟩ := hF
  have hown : s.vm.findClass RX3 = some m.cls := hown
  have hl : lv_has ls 1 [(0, .ref (ad (0)))] := hl
  have w_0 := hts (.classLink RX3 9 RX1) (by decide +kernel)
  have w_1 := hts (.classLink RX3 15 RX2) (by decide +kernel)
  have w_2 := hts (.instantiable RX2 4) (by decide +kernel)
  have w_3 := hts (.initialized RX2) (by decide +kernel)
  have w_4 : ∀ w ∈ wsX20, w ∈ wsX3_init := by decide +kernel
  have w_5 := hts (.classLink RX3 22 RX0) (by decide +kernel)
  have w_6 := hts (.instantiable RX0 6) (by decide +kernel)
  have w_7 := hts (.initialized RX0) (by decide +kernel)
  have w_8 : ∀ w ∈ wsX00, w ∈ wsX3_init := by decide +kernel
  have w_9 := hts (.methodLink RX3 1 objectInit) (by decide +kernel)
  have w_10 := hts (.instanceMethod objectInit) (by decide +kernel)
  have w_11 := hts (.fieldLink RX3 11 "PileMoves" "piles" "[LPileMoves$Pile;") (by decide +kernel)
  have w_12 : ∀ w ∈ wsX30, w ∈ wsX3_init := by decide +kernel
  have w_13 := hts (.instanceMethod yX2_init) (by decide +kernel)
  have w_14 := hts (.fieldLink RX3 18 "PileMoves" "state" "LPileMoves$State;") (by decide +kernel)
  have w_15 := hts (.methodLink RX3 24 yX0_init) (by decide +kernel)
  have w_16 := hts (.instanceMethod yX0_init) (by decide +kernel)
  have w_17 := hts (.fieldLink RX3 25 "PileMoves" "latestBlow" "LPileMoves$Blow;") (by decide +kernel)
  have w_18 := hts (.fieldLink RX3 29 "PileMoves" "pileCount" "I") (by decide +kernel)
  refine lv_aload_n hx hb dX3_init_0 rfl (lv_at hl 0 rfl) ?_
  refine W.objInit hx hb hown w_9 w_10 (hts _ (by decide +kernel)) rfl (by rw [hml]; exact hl.1) rfl dX3_init_1 (Nat.le_of_ble_eq_true rfl) (Nat.le_of_ble_eq_true rfl) ?_
  refine W.eq (g2 := F0 m 4 ls []) rfl ?_
  refine lv_aload_n hx hb dX3_init_4 rfl (lv_at hl 0 rfl) ?_
  refine z_bi hx hb dX3_init_5 (by decide) ?_
  refine z_newq hx hb hown w_0 hE hK hw (k := 1) (by decide) (n := 6) rfl (by decide) (Nat.le_of_ble_eq_true rfl) (Nat.le_of_ble_eq_true rfl) dX3_init_7 (fun ad_1 H had_1 hw => ?_)
  have e_2 : ad_1 (0) = ad (0) := had_1 _ (by decide)
  rw [← e_2] at hl
  rw [← e_2]
  refine z_putF (C := RX3) (T := TX3) (N := 4) (fs := [.null, .null, .null, zi (0)]) (fs' := [.ref (ad_1 (1)), .null, .null, zi (0)]) hx hb hts w_12 tyX3_ok nmX3 hown hK hw (by decide) (zU_n (by decide) h0) rfl 0 (by decide) w_11 rfl rfl hnm rfl rfl rfl (Nat.le_of_ble_eq_true rfl) rfl dX3_init_10 (fun H locs hw => ?_)
  refine lv_aload_n hx hb dX3_init_13 rfl (lv_at hl 0 rfl) ?_
  refine z_new hx hb hts w_4 tyX2_ok hown w_1 w_2 w_3 hK hw (k := 2) (by decide) (ci := 2) rfl [zi (0), zi (0), zi (0), zi (0)] (fun j hj => by rcases (show j = 0 ∨ j = 1 ∨ j = 2 ∨ j = 3 by omega) with rfl | rfl | rfl | rfl <;> rfl) (Nat.le_of_ble_eq_true rfl) (Nat.le_of_ble_eq_true rfl) dX3_init_14 (fun ad_3 H had_3 hw => ?_)
  have e_4 : ad_3 (0) = ad_1 (0) := had_3 _ (by decide)
  rw [← e_4] at hl
  rw [← e_4]
  have e_5 : ad_3 (1) = ad_1 (1) := had_3 _ (by decide)
  rw [← e_5] at hw
  refine lv_dup hx hb dX3_init_17 rfl ?_
  refine z_kV (z_runIN (As := []) (rest := [.ref (ad_3 (2)), .ref (ad_3 (0))]) (k := 2) ⟨hx, hb, hml, hown, hts⟩ hK hw (k_State l hl0 G _ _ _ _ (by decide)) (⟨va_cnB 0 hts gX3_init_X2_init_n17 rfl rfl rfl hK.2.1.2.2.2.1 w_3 (by decide +kernel) ⟨Nat.le_of_ble_eq_true rfl, Nat.le_of_ble_eq_true rfl⟩, rfl, w_13⟩) rfl hl.1 rfl (Nat.le_of_ble_eq_true rfl) dX3_init_18 ⟨Nat.le_of_ble_eq_true rfl, Nat.le_of_ble_eq_true rfl⟩) hw (fun ct_7 H locs hP hw => ?_)
  rw [hP] at hw
  clear hP
  refine z_putF (C := RX3) (T := TX3) (N := 4) (fs := [.ref (ad_3 (1)), .null, .null, zi (0)]) (fs' := [.ref (ad_3 (1)), .ref (ad_3 (2)), .null, zi (0)]) hx hb hts w_12 tyX3_ok nmX3 hown hK hw (by decide) (zU_n (by decide) (zU_s _ _ _)) rfl 1 (by decide) w_14 rfl rfl hnm rfl rfl rfl (Nat.le_of_ble_eq_true rfl) rfl dX3_init_21 (fun H locs hw => ?_)
  refine lv_aload_n hx hb dX3_init_24 rfl (lv_at hl 0 rfl) ?_
  refine z_new hx hb hts w_8 tyX0_ok hown w_5 w_6 w_7 hK hw (k := 3) (by decide) (ci := 0) rfl [zi (0), zi (0), .null, .null, .null, .null] (fun j hj => by rcases (show j = 0 ∨ j = 1 ∨ j = 2 ∨ j = 3 ∨ j = 4 ∨ j = 5 by omega) with rfl | rfl | rfl | rfl | rfl | rfl <;> rfl) (Nat.le_of_ble_eq_true rfl) (Nat.le_of_ble_eq_true rfl) dX3_init_25 (fun ad_8 H had_8 hw => ?_)
  have e_9 : ad_8 (0) = ad_3 (0) := had_8 _ (by decide)
  rw [← e_9] at hl
  rw [← e_9]
  have e_10 : ad_8 (1) = ad_3 (1) := had_8 _ (by decide)
  rw [← e_10] at hw
  have e_11 : ad_8 (2) = ad_3 (2) := had_8 _ (by decide)
  rw [← e_11] at hw
  refine lv_dup hx hb dX3_init_28 rfl ?_
  refine z_callan (z_runIa (As := []) (rest := [.ref (ad_8 (3)), .ref (ad_8 (0))]) (k := 3) ⟨hx, hb, hml, hown, hts⟩ (k_Blow l hl0 G _ _ _ (zU_s _ _ _)) (zPreA zEB_t trivial (fun _ _ _ _ h => h) hK hw _) (cwI 0 hts gX3_init_X0_init rfl rfl rfl w_7 w_15 w_16 rfl (by decide +kernel) ⟨Nat.le_of_ble_eq_true rfl, Nat.le_of_ble_eq_true rfl⟩) rfl hl.1 rfl (Nat.le_of_ble_eq_true rfl) dX3_init_29 ⟨Nat.le_of_ble_eq_true rfl, Nat.le_of_ble_eq_true rfl⟩) hw (fun v I1 ad_12 ct_13 H locs hag_14 hP_15 hw => ?_)
  obtain ⟨rfl, rfl, g3, g4, g5, g6, g7, hoth⟩ := hP_15
  refine W.eq (g2 := F0 m 32 ls [.ref (ad_8 (3)), .ref (ad_8 (0))]) rfl ?_
  have hf0_29 : ct_13 (0) = .inr (3, [.ref (ad_8 (1)), .ref (ad_8 (2)), .null, zi (0)]) := (hoth 0 (by decide)).trans (zU_n (by decide) (zU_s _ _ _))
  have hf1_29 : ct_13 (1) = zP G (6) (fun _ => none) := (hoth 1 (by decide)).trans (zU_n (by decide) (zU_n (by decide) (zU_n (by decide) (zU_n (by decide) (zU_s _ _ _)))))
  have hf2_29 : ct_13 (2) = .inr (2, [zi (0), zi (0), zi (0), zi (0)]) := (hoth 2 (by decide)).trans (zU_n (by decide) (zU_n (by decide) (zU_s _ _ _)))
  have e_16 : ad_12 (0) = ad_8 (0) := hag_14 _ (by decide)
  rw [← e_16] at hl
  rw [← e_16]
  have e_17 : ad_12 (3) = ad_8 (3) := hag_14 _ (by decide)
  rw [← e_17]
  have e_18 : ad_12 (1) = ad_8 (1) := hag_14 _ (by decide)
  rw [← e_18] at hf0_29
  have e_19 : ad_12 (2) = ad_8 (2) := hag_14 _ (by decide)
  rw [← e_19] at hf0_29
  refine z_putF (C := RX3) (T := TX3) (N := 4) (fs := [.ref (ad_12 (1)), .ref (ad_12 (2)), .null, zi (0)]) (fs' := [.ref (ad_12 (1)), .ref (ad_12 (2)), .ref (ad_12 (3)), zi (0)]) hx hb hts w_12 tyX3_ok nmX3 hown hK hw (by decide) hf0_29 rfl 2 (by decide) w_17 rfl rfl hnm rfl rfl rfl (Nat.le_of_ble_eq_true rfl) rfl dX3_init_32 (fun H locs hw => ?_)
  refine lv_aload_n hx hb dX3_init_35 rfl (lv_at hl 0 rfl) ?_
  refine z_ic hx hb dX3_init_36 ?_
  refine z_put (C := RX3) (T := TX3) (N := 4) (fs := [.ref (ad_12 (1)), .ref (ad_12 (2)), .ref (ad_12 (3)), zi (0)]) (fs' := [.ref (ad_12 (1)), .ref (ad_12 (2)), .ref (ad_12 (3)), zi (0)]) hx hb hts w_12 tyX3_ok nmX3 hown hK hw (by decide) (zU_s _ _ _) rfl 3 (by decide) w_18 rfl rfl rfl rfl (Nat.le_of_ble_eq_true rfl) rfl dX3_init_37 (fun H locs hw => ?_)
  exact z_vreta hx hb hlk hr hw (fun k9 hk9 => (hag_14 k9 (List.mem_append_left [3] (List.mem_append_left [2] (List.mem_append_left [1] hk9)))).trans ((fun k9 hk9 => (had_8 k9 (List.mem_append_left [2] (List.mem_append_left [1] hk9))).trans ((fun k9 hk9 => (had_3 k9 (List.mem_append_left [1] hk9)).trans ((fun k9 hk9 => (had_1 k9 hk9).trans ((fun _ _ => rfl) k9 hk9)) k9 hk9)) k9 hk9)) k9 hk9)) dX3_init_40 (Nat.le_of_ble_eq_true rfl) (Nat.le_of_ble_eq_true rfl) ⟨rfl, rfl, (zU_s _ _ _), (zU_n (by decide) (zU_n (by decide) hf1_29)), (zU_n (by decide) (zU_n (by decide) hf2_29)), (zU_n (by decide) (zU_n (by decide) g3)), (zU_n (by decide) (zU_n (by decide) g4)), (zU_n (by decide) (zU_n (by decide) g5)), (zU_n (by decide) (zU_n (by decide) g6)), (zU_n (by decide) (zU_n (by decide) g7))⟩

theorem zni {I : List Nat} {k j : Nat} (h : k ∉ I) (hne : k ≠ j) : k ∉ I ++ [j] := fun h9 => by
  rcases List.mem_append.mp h9 with h1 | h1
  · exact h h1
  · exact hne (List.mem_singleton.mp h1)
/-- a new pile -/
def znw (N : Nat) (a2 a3 a4 : Int) : zPl := (N, (fun j => match j with | 0 => a2 | 1 => a3 | 2 => a4 | _ => 0), (fun _ => 0), (fun _ => 0), (fun _ => 0))
theorem znw_good {N : Nat} {a2 a3 a4 : Int} (h1 : 1 ≤ N ∧ N ≤ 12) (h2 : 1 ≤ a2 ∧ a2 ≤ 10000) (h3 : 1 ≤ a3 ∧ a3 ≤ 1000) (h4 : 0 ≤ a4 ∧ a4 ≤ 100000) : zGood (znw N a2 a3 a4) :=
  ⟨⟨by show (1 : Int) ≤ (N : Int); omega, by show (N : Int) ≤ 12; omega⟩, h2, h3, h4, ⟨show (0 : Int) ≤ 0 by decide, show (0 : Int) ≤ 1000 by decide⟩, ⟨show (0 : Int) ≤ 0 by decide, show (0 : Int) ≤ 1000000 by decide⟩, Or.inl rfl, fun _ => ⟨show (0 : Int) ≤ 0 by decide, show (0 : Int) ≤ 1000 by decide⟩, fun _ => ⟨show (0 : Int) ≤ 0 by decide, show (0 : Int) ≤ 100000 by decide⟩, fun _ => ⟨show (0 : Int) ≤ 0 by decide, show (0 : Int) ≤ 10000 by decide⟩⟩

set_option maxHeartbeats 4000000 in
set_option maxRecDepth 100000 in
theorem k_Pile (l : Launch) (hl0 : l.stackTraces = false) (G : zG) (I : List Nat) (ad : Nat → Nat) (ct : Nat → va_E) (sz : Nat) (k N : Nat) (a1 a2 a3 a4 : Int) (ha : a1 = N) (hN : N ≤ 12) (hkI : k ∈ I) (hk1 : k + 1 ∉ I) (hk2 : k + 2 ∉ I) (hk3 : k + 3 ∉ I) (hk : ct k = .inr (1, [zi (0), zi (0), zi (0), .null, .null, .null, zi (0), zi (0), zi (0)])) : zNa l yX1_init wsX1_init 1 14 3 36 G [.ref (ad (k)), zi (a1), zi (a2), zi (a3), zi (a4)] I ad ct zno sz (fun _ => True) (fun v I1 ad1 ct1 => v = none ∧ I1 = ((I ++ [k + 1]) ++ [k + 2]) ++ [k + 3] ∧ zPileAt G ad1 ct1 k (znw N a2 a3 a4) ∧ ∀ j : Nat, j < k → ct1 j = ct j) := by
  refine z_ofWa (ret := none) hl0 (by decide +kernel) rfl (Nat.le_of_ble_eq_true rfl) ?_
  intro p e s m args below meth c A ls hA0 hsz hF hr hout hnm hw hl hE
  obtain ⟨hx, hb, hml, hown, hts, hK, hlk, hst⟩ := hF
  have hown : s.vm.findClass RX1 = some m.cls := hown
  have hl : lv_has ls 5 [(0, .ref (ad (k))), (1, zi (a1)), (2, zi (a2)), (3, zi (a3)), (4, zi (a4))] := hl
  have w_0 := hts (.arrayClass .int) (by decide +kernel)
  have w_1 := hts (.methodLink RX1 1 objectInit) (by decide +kernel)
  have w_2 := hts (.instanceMethod objectInit) (by decide +kernel)
  have w_3 := hts (.fieldLink RX1 7 "PileMoves$Pile" "spring" "I") (by decide +kernel)
  have w_4 : ∀ w ∈ wsX10, w ∈ wsX1_init := by decide +kernel
  have w_5 := hts (.fieldLink RX1 13 "PileMoves$Pile" "mass" "I") (by decide +kernel)
  have w_6 := hts (.fieldLink RX1 16 "PileMoves$Pile" "cost" "I") (by decide +kernel)
  have w_7 := hts (.fieldLink RX1 19 "PileMoves$Pile" "stiff" "[I") (by decide +kernel)
  have w_8 := hts (.fieldLink RX1 23 "PileMoves$Pile" "most" "[I") (by decide +kernel)
  have w_9 := hts (.fieldLink RX1 26 "PileMoves$Pile" "sunk" "[I") (by decide +kernel)
  refine lv_aload_n hx hb dX1_init_0 rfl (lv_at hl 0 rfl) ?_
  refine W.objInit hx hb hown w_1 w_2 (hts _ (by decide +kernel)) rfl (by rw [hml]; exact hl.1) rfl dX1_init_1 (Nat.le_of_ble_eq_true rfl) (Nat.le_of_ble_eq_true rfl) ?_
  refine W.eq (g2 := F0 m 4 ls []) rfl ?_
  refine lv_aload_n hx hb dX1_init_4 rfl (lv_at hl 0 rfl) ?_
  refine lv_iload_n hx hb dX1_init_5 rfl (lv_at hl 2 rfl) ?_
  refine z_putF (C := RX1) (T := TX1) (N := 9) (fs := [zi (0), zi (0), zi (0), .null, .null, .null, zi (0), zi (0), zi (0)]) (fs' := [zi (a2), zi (0), zi (0), .null, .null, .null, zi (0), zi (0), zi (0)]) hx hb hts w_4 tyX1_ok nmX1 hown hK hw hkI hk rfl 0 (by decide) w_3 rfl rfl hnm rfl rfl rfl (Nat.le_of_ble_eq_true rfl) rfl dX1_init_6 (fun H locs hw => ?_)
  refine lv_aload_n hx hb dX1_init_9 rfl (lv_at hl 0 rfl) ?_
  refine lv_iload_n hx hb dX1_init_10 rfl (lv_at hl 3 rfl) ?_
  refine z_putF (C := RX1) (T := TX1) (N := 9) (fs := [zi (a2), zi (0), zi (0), .null, .null, .null, zi (0), zi (0), zi (0)]) (fs' := [zi (a2), zi (a3), zi (0), .null, .null, .null, zi (0), zi (0), zi (0)]) hx hb hts w_4 tyX1_ok nmX1 hown hK hw hkI (zU_s _ _ _) rfl 1 (by decide) w_5 rfl rfl hnm rfl rfl rfl (Nat.le_of_ble_eq_true rfl) rfl dX1_init_11 (fun H locs hw => ?_)
  refine lv_aload_n hx hb dX1_init_14 rfl (lv_at hl 0 rfl) ?_
  refine lv_iload hx hb dX1_init_15 (lv_at hl 4 rfl) ?_
  refine z_putF (C := RX1) (T := TX1) (N := 9) (fs := [zi (a2), zi (a3), zi (0), .null, .null, .null, zi (0), zi (0), zi (0)]) (fs' := [zi (a2), zi (a3), zi (a4), .null, .null, .null, zi (0), zi (0), zi (0)]) hx hb hts w_4 tyX1_ok nmX1 hown hK hw hkI (zU_s _ _ _) rfl 2 (by decide) w_6 rfl rfl hnm rfl rfl rfl (Nat.le_of_ble_eq_true rfl) rfl dX1_init_17 (fun H locs hw => ?_)
  refine lv_aload_n hx hb dX1_init_20 rfl (lv_at hl 0 rfl) ?_
  refine lv_iload_n hx hb dX1_init_21 rfl (lv_at hl 1 rfl) ?_
  refine z_newi hx hb w_0 hK hw (k := k + 1) hk1 (n := N) ha (by omega) (Nat.le_of_ble_eq_true rfl) (show 0 + N ≤ 36 by omega) dX1_init_22 (fun ad_1 H had_1 hw => ?_)
  have e_2 : ad_1 (k) = ad (k) := had_1 _ hkI
  rw [← e_2] at hl
  rw [← e_2]
  refine z_putF (C := RX1) (T := TX1) (N := 9) (fs := [zi (a2), zi (a3), zi (a4), .null, .null, .null, zi (0), zi (0), zi (0)]) (fs' := [zi (a2), zi (a3), zi (a4), .ref (ad_1 (k + 1)), .null, .null, zi (0), zi (0), zi (0)]) hx hb hts w_4 tyX1_ok nmX1 hown hK hw (List.mem_append_left _ hkI) (zU_n (by omega) (zU_s _ _ _)) rfl 3 (by decide) w_7 rfl rfl hnm rfl rfl rfl (Nat.le_of_ble_eq_true rfl) rfl dX1_init_24 (fun H locs hw => ?_)
  refine lv_aload_n hx hb dX1_init_27 rfl (lv_at hl 0 rfl) ?_
  refine lv_iload_n hx hb dX1_init_28 rfl (lv_at hl 1 rfl) ?_
  refine z_newi hx hb w_0 hK hw (k := k + 2) (zni hk2 (by omega)) (n := N) ha (by omega) (Nat.le_of_ble_eq_true rfl) (show 0 + N + N ≤ 36 by omega) dX1_init_29 (fun ad_3 H had_3 hw => ?_)
  have e_4 : ad_3 (k) = ad_1 (k) := had_3 _ (List.mem_append_left _ hkI)
  rw [← e_4] at hl
  rw [← e_4]
  have e_5 : ad_3 (k + 1) = ad_1 (k + 1) := had_3 _ (List.mem_append_right _ (List.mem_singleton.mpr rfl))
  rw [← e_5] at hw
  refine z_putF (C := RX1) (T := TX1) (N := 9) (fs := [zi (a2), zi (a3), zi (a4), .ref (ad_3 (k + 1)), .null, .null, zi (0), zi (0), zi (0)]) (fs' := [zi (a2), zi (a3), zi (a4), .ref (ad_3 (k + 1)), .ref (ad_3 (k + 2)), .null, zi (0), zi (0), zi (0)]) hx hb hts w_4 tyX1_ok nmX1 hown hK hw (List.mem_append_left _ (List.mem_append_left _ hkI)) (zU_n (by omega) (zU_s _ _ _)) rfl 4 (by decide) w_8 rfl rfl hnm rfl rfl rfl (Nat.le_of_ble_eq_true rfl) rfl dX1_init_31 (fun H locs hw => ?_)
  refine lv_aload_n hx hb dX1_init_34 rfl (lv_at hl 0 rfl) ?_
  refine lv_iload_n hx hb dX1_init_35 rfl (lv_at hl 1 rfl) ?_
  refine z_newi hx hb w_0 hK hw (k := k + 3) (zni (zni hk3 (by omega)) (by omega)) (n := N) ha (by omega) (Nat.le_of_ble_eq_true rfl) (show 0 + N + N + N ≤ 36 by omega) dX1_init_36 (fun ad_6 H had_6 hw => ?_)
  have e_7 : ad_6 (k) = ad_3 (k) := had_6 _ (List.mem_append_left _ (List.mem_append_left _ hkI))
  rw [← e_7] at hl
  rw [← e_7]
  have e_8 : ad_6 (k + 1) = ad_3 (k + 1) := had_6 _ (List.mem_append_left _ (List.mem_append_right _ (List.mem_singleton.mpr rfl)))
  rw [← e_8] at hw
  have e_9 : ad_6 (k + 2) = ad_3 (k + 2) := had_6 _ (List.mem_append_right _ (List.mem_singleton.mpr rfl))
  rw [← e_9] at hw
  refine z_putF (C := RX1) (T := TX1) (N := 9) (fs := [zi (a2), zi (a3), zi (a4), .ref (ad_6 (k + 1)), .ref (ad_6 (k + 2)), .null, zi (0), zi (0), zi (0)]) (fs' := [zi (a2), zi (a3), zi (a4), .ref (ad_6 (k + 1)), .ref (ad_6 (k + 2)), .ref (ad_6 (k + 3)), zi (0), zi (0), zi (0)]) hx hb hts w_4 tyX1_ok nmX1 hown hK hw (List.mem_append_left _ (List.mem_append_left _ (List.mem_append_left _ hkI))) (zU_n (by omega) (zU_s _ _ _)) rfl 5 (by decide) w_9 rfl rfl hnm rfl rfl rfl (Nat.le_of_ble_eq_true rfl) rfl dX1_init_38 (fun H locs hw => ?_)
  exact z_vreta hx hb hlk hr hw (fun k9 hk9 => (had_6 k9 (List.mem_append_left _ (List.mem_append_left _ hk9))).trans ((fun k9 hk9 => (had_3 k9 (List.mem_append_left _ hk9)).trans ((fun k9 hk9 => (had_1 k9 hk9).trans ((fun _ _ => rfl) k9 hk9)) k9 hk9)) k9 hk9)) dX1_init_41 (Nat.le_of_ble_eq_true rfl) (show 0 + N + N + N ≤ 36 by omega) ⟨rfl, rfl, ⟨(zU_s _ _ _), (zU_n (by omega) (zU_n (by omega) (zU_n (by omega) (zU_n (by omega) (zU_n (by omega) (zU_s _ _ _)))))), (zU_n (by omega) (zU_n (by omega) (zU_n (by omega) (zU_s _ _ _)))), (zU_n (by omega) (zU_s _ _ _))⟩, fun j hj => (zU_n (by omega) (zU_n (by omega) (zU_n (by omega) (zU_n (by omega) (zU_n (by omega) (zU_n (by omega) (zU_n (by omega) (zU_n (by omega) (zU_n (by omega) rfl)))))))))⟩

set_option maxHeartbeats 4000000 in
set_option maxRecDepth 100000 in
theorem k_pile (l : Launch) (hl0 : l.stackTraces = false) (G : zG) (I : List Nat) (ad : Nat → Nat) (ct : Nat → va_E) (sz : Nat) (n : Nat) (hn6 : n ≤ 6) (hI0 : 0 ∈ I) (hI1 : 1 ∈ I) (h0 : ct 0 = .inr (3, [.ref (ad 1), .ref (ad 2), .ref (ad 3), zi n])) (h1 : ct 1 = zP G 6 (zpf ad n)) (hI2 : 2 ∈ I) (hI3 : 3 ∈ I) (hms : ∀ p : Nat, p < n → zMem4 I (40 + 4 * p)) (hIb : ∀ j ∈ I, j < 40 + 4 * n) (a1 a2 a3 a4 : Int) (hz1 : zr a1) (hz2 : zr a2) (hz3 : zr a3) (hz4 : zr a4) : zNa l yX3_pile wsX3_pile 7 108 8 69 G [.ref (ad (0)), zi (a1), zi (a2), zi (a3), zi (a4)] I ad ct (fun E => (E = zIA ∧ ¬ ((1 ≤ a1 ∧ a1 ≤ 12) ∧ (1 ≤ a2 ∧ a2 ≤ 10000) ∧ (1 ≤ a3 ∧ a3 ≤ 1000) ∧ (0 ≤ a4 ∧ a4 ≤ 100000))) ∨ (E = zIS ∧ ((1 ≤ a1 ∧ a1 ≤ 12) ∧ (1 ≤ a2 ∧ a2 ≤ 10000) ∧ (1 ≤ a3 ∧ a3 ≤ 1000) ∧ (0 ≤ a4 ∧ a4 ≤ 100000)) ∧ n = 6)) sz (fun _ => True) (fun v I1 ad1 ct1 => v = some (zi n) ∧ (((1 ≤ a1 ∧ a1 ≤ 12) ∧ (1 ≤ a2 ∧ a2 ≤ 10000) ∧ (1 ≤ a3 ∧ a3 ≤ 1000) ∧ (0 ≤ a4 ∧ a4 ≤ 100000)) ∧ n < 6) ∧ I1 = (((I ++ [40 + 4 * n]) ++ [40 + 4 * n + 1]) ++ [40 + 4 * n + 2]) ++ [40 + 4 * n + 3] ∧ ct1 0 = .inr (3, [.ref (ad1 (1)), .ref (ad1 (2)), .ref (ad1 (3)), zi (((n + 1 : Nat) : Int))]) ∧ ct1 1 = zP G 6 (zpf ad1 (n + 1)) ∧ zPileAt G ad1 ct1 (40 + 4 * n) (znw (a1).toNat a2 a3 a4) ∧ ∀ j : Nat, 2 ≤ j → j < 40 + 4 * n → ct1 j = ct j) := by
  refine z_ofWa (ret := (some .int)) hl0 (by decide +kernel) rfl (Nat.le_of_ble_eq_true rfl) ?_
  intro p e s m args below meth c A ls hA0 hsz hF hr hout hnm hw hl hE
  obtain ⟨hx, hb, hml, hown, hts, hK, hlk, hst⟩ := hF
  have hown : s.vm.findClass RX3 = some m.cls := hown
  have hl : lv_has ls 6 [(0, .ref (ad (0))), (1, zi (a1)), (2, zi (a2)), (3, zi (a3)), (4, zi (a4))] := hl
  have w_0 := hts (.classLink RX3 9 RX1) (by decide +kernel)
  have w_1 := hts (.instantiable RX1 9) (by decide +kernel)
  have w_2 := hts (.initialized RX1) (by decide +kernel)
  have w_3 : ∀ w ∈ wsX10, w ∈ wsX3_pile := by decide +kernel
  have w_4 := hts (.constant RX3 37 (100000)) (by decide +kernel)
  have w_5 := hts (.fieldLink RX3 29 "PileMoves" "pileCount" "I") (by decide +kernel)
  have w_6 : ∀ w ∈ wsX30, w ∈ wsX3_pile := by decide +kernel
  have w_7 := hts (.fieldLink RX3 11 "PileMoves" "piles" "[LPileMoves$Pile;") (by decide +kernel)
  have w_8 := hts (.methodLink RX3 45 yX1_init) (by decide +kernel)
  have w_9 := hts (.instanceMethod yX1_init) (by decide +kernel)
  have w_10 := hts (.classLink RX3 38 zIS) (by decide +kernel)
  have w_11 := hts (.initialized zIS) (by decide +kernel)
  refine lv_iload_n hx hb dX3_pile_0 rfl (lv_at hl 1 rfl) ?_
  refine z_ic hx hb dX3_pile_1 ?_
  refine z_bi hx hb dX3_pile_2 (by decide) ?_
  refine z_tVg (z_runS (As := [zi (a1), zi (1), zi (12)]) (rest := []) ⟨hx, hb, hml, hown, hts⟩ hK hw (k_within l hl0 G I ad _ _ (a1) (1) (12) ⟨by omega, by omega⟩ ⟨by decide, by decide⟩ ⟨by decide, by decide⟩) (va_cwS 3 hts gX3_pile_X3_checkWithin rfl rfl rfl (by decide +kernel) ⟨Nat.le_of_ble_eq_true rfl, Nat.le_of_ble_eq_true rfl⟩) rfl hl.1 rfl (Nat.le_of_ble_eq_true rfl) dX3_pile_4 ⟨Nat.le_of_ble_eq_true rfl, Nat.le_of_ble_eq_true rfl⟩) hw hout hlk (fun E h9 => Or.inl ⟨h9.1, fun q9 => h9.2 (by omega)⟩) (Nat.le_of_ble_eq_true rfl) (Nat.le_of_ble_eq_true rfl) (fun ct_2 H locs hP hw => ?_)
  obtain ⟨⟨q4_1, q4_2⟩, hct⟩ := hP
  rw [hct] at hw
  clear hct
  refine lv_iload_n hx hb dX3_pile_7 rfl (lv_at hl 2 rfl) ?_
  refine z_ic hx hb dX3_pile_8 ?_
  refine z_si hx hb dX3_pile_9 (by decide) ?_
  refine z_tVg (z_runS (As := [zi (a2), zi (1), zi (10000)]) (rest := []) ⟨hx, hb, hml, hown, hts⟩ hK hw (k_within l hl0 G I ad _ _ (a2) (1) (10000) ⟨by omega, by omega⟩ ⟨by decide, by decide⟩ ⟨by decide, by decide⟩) (va_cwS 3 hts gX3_pile_X3_checkWithin rfl rfl rfl (by decide +kernel) ⟨Nat.le_of_ble_eq_true rfl, Nat.le_of_ble_eq_true rfl⟩) rfl hl.1 rfl (Nat.le_of_ble_eq_true rfl) dX3_pile_12 ⟨Nat.le_of_ble_eq_true rfl, Nat.le_of_ble_eq_true rfl⟩) hw hout hlk (fun E h9 => Or.inl ⟨h9.1, fun q9 => h9.2 (by omega)⟩) (Nat.le_of_ble_eq_true rfl) (Nat.le_of_ble_eq_true rfl) (fun ct_4 H locs hP hw => ?_)
  obtain ⟨⟨q12_1, q12_2⟩, hct⟩ := hP
  rw [hct] at hw
  clear hct
  refine lv_iload_n hx hb dX3_pile_15 rfl (lv_at hl 3 rfl) ?_
  refine z_ic hx hb dX3_pile_16 ?_
  refine z_si hx hb dX3_pile_17 (by decide) ?_
  refine z_tVg (z_runS (As := [zi (a3), zi (1), zi (1000)]) (rest := []) ⟨hx, hb, hml, hown, hts⟩ hK hw (k_within l hl0 G I ad _ _ (a3) (1) (1000) ⟨by omega, by omega⟩ ⟨by decide, by decide⟩ ⟨by decide, by decide⟩) (va_cwS 3 hts gX3_pile_X3_checkWithin rfl rfl rfl (by decide +kernel) ⟨Nat.le_of_ble_eq_true rfl, Nat.le_of_ble_eq_true rfl⟩) rfl hl.1 rfl (Nat.le_of_ble_eq_true rfl) dX3_pile_20 ⟨Nat.le_of_ble_eq_true rfl, Nat.le_of_ble_eq_true rfl⟩) hw hout hlk (fun E h9 => Or.inl ⟨h9.1, fun q9 => h9.2 (by omega)⟩) (Nat.le_of_ble_eq_true rfl) (Nat.le_of_ble_eq_true rfl) (fun ct_6 H locs hP hw => ?_)
  obtain ⟨⟨q20_1, q20_2⟩, hct⟩ := hP
  rw [hct] at hw
  clear hct
  refine lv_iload hx hb dX3_pile_23 (lv_at hl 4 rfl) ?_
  refine z_ic hx hb dX3_pile_25 ?_
  refine z_ldc (n := 100000) hx hb hown w_4 (by decide) dX3_pile_26 ?_
  refine z_tVg (z_runS (As := [zi (a4), zi (0), zi (100000)]) (rest := []) ⟨hx, hb, hml, hown, hts⟩ hK hw (k_within l hl0 G I ad _ _ (a4) (0) (100000) ⟨by omega, by omega⟩ ⟨by decide, by decide⟩ ⟨by decide, by decide⟩) (va_cwS 3 hts gX3_pile_X3_checkWithin rfl rfl rfl (by decide +kernel) ⟨Nat.le_of_ble_eq_true rfl, Nat.le_of_ble_eq_true rfl⟩) rfl hl.1 rfl (Nat.le_of_ble_eq_true rfl) dX3_pile_28 ⟨Nat.le_of_ble_eq_true rfl, Nat.le_of_ble_eq_true rfl⟩) hw hout hlk (fun E h9 => Or.inl ⟨h9.1, fun q9 => h9.2 (by omega)⟩) (Nat.le_of_ble_eq_true rfl) (Nat.le_of_ble_eq_true rfl) (fun ct_8 H locs hP hw => ?_)
  obtain ⟨⟨q28_1, q28_2⟩, hct⟩ := hP
  rw [hct] at hw
  clear hct
  refine lv_aload_n hx hb dX3_pile_31 rfl (lv_at hl 0 rfl) ?_
  refine z_get (C := RX3) (T := TX3) (N := 4) (fs := [.ref (ad (1)), .ref (ad (2)), .ref (ad (3)), zi (n)]) hx hb hts w_6 hown hK hw hI0 h0 rfl 3 (by decide) w_5 rfl rfl dX3_pile_32 ?_
  refine z_if_lt (tgt := 50) hx hb dX3_pile_35 (by decide) ⟨by omega, by omega⟩ (fun c_9 => ?_) (fun c_9 => ?_)
  · exact absurd c_9 (by omega)
  · refine lv_aload_n hx hb dX3_pile_38 rfl (lv_at hl 0 rfl) ?_
    refine z_get (C := RX3) (T := TX3) (N := 4) (fs := [.ref (ad (1)), .ref (ad (2)), .ref (ad (3)), zi (n)]) hx hb hts w_6 hown hK hw hI0 h0 rfl 3 (by decide) w_5 rfl rfl dX3_pile_39 ?_
    refine lv_aload_n hx hb dX3_pile_42 rfl (lv_at hl 0 rfl) ?_
    refine z_get (C := RX3) (T := TX3) (N := 4) (fs := [.ref (ad (1)), .ref (ad (2)), .ref (ad (3)), zi (n)]) hx hb hts w_6 hown hK hw hI0 h0 rfl 0 (by decide) w_7 rfl rfl dX3_pile_43 ?_
    refine z_alen (n := 6) hx hb hK hw hI1 h1 3 rfl rfl dX3_pile_46 ?_
    refine z_icmp_lt (tgt := 60) hx hb dX3_pile_47 (by decide) ⟨by omega, by omega⟩ ⟨by decide, by decide⟩ (fun c_10 => ?_) (fun c_10 => ?_)
    · refine lv_aload_n hx hb dX3_pile_60 rfl (lv_at hl 0 rfl) ?_
      refine z_get (C := RX3) (T := TX3) (N := 4) (fs := [.ref (ad (1)), .ref (ad (2)), .ref (ad (3)), zi (n)]) hx hb hts w_6 hown hK hw hI0 h0 rfl 3 (by decide) w_5 rfl rfl dX3_pile_61 ?_
      refine lv_istore (lv' := [(5, zi (n)), (0, .ref (ad (0))), (1, zi (a1)), (2, zi (a2)), (3, zi (a3)), (4, zi (a4))]) hx hb dX3_pile_64 hl (by decide) rfl (fun ls hl => ?_)
      refine lv_aload_n hx hb dX3_pile_66 rfl (lv_at hl 1 rfl) ?_
      refine z_get (C := RX3) (T := TX3) (N := 4) (fs := [.ref (ad (1)), .ref (ad (2)), .ref (ad (3)), zi (n)]) hx hb hts w_6 hown hK hw hI0 h0 rfl 0 (by decide) w_7 rfl rfl dX3_pile_67 ?_
      refine lv_iload hx hb dX3_pile_70 (lv_at hl 0 rfl) ?_
      refine z_new hx hb hts w_3 tyX1_ok hown w_0 w_1 w_2 hK hw (k := 40 + 4 * n) (fun h9 => absurd (hIb _ h9) (by omega)) (ci := 1) rfl [zi (0), zi (0), zi (0), .null, .null, .null, zi (0), zi (0), zi (0)] (fun j hj => by rcases (show j = 0 ∨ j = 1 ∨ j = 2 ∨ j = 3 ∨ j = 4 ∨ j = 5 ∨ j = 6 ∨ j = 7 ∨ j = 8 by omega) with rfl | rfl | rfl | rfl | rfl | rfl | rfl | rfl | rfl <;> rfl) (Nat.le_of_ble_eq_true rfl) (Nat.le_of_ble_eq_true rfl) dX3_pile_72 (fun ad_11 H had_11 hw => ?_)
      have e_12 : ad_11 (1) = ad (1) := had_11 _ hI1
      rw [← e_12]
      rw [← e_12] at h0
      have e_13 : ad_11 (0) = ad (0) := had_11 _ hI0
      rw [← e_13] at hl
      have e_14 : ad_11 (2) = ad (2) := had_11 _ hI2
      rw [← e_14] at h0
      have e_15 : ad_11 (3) = ad (3) := had_11 _ hI3
      rw [← e_15] at h0
      rw [← zpf_ad (ad1 := ad_11) (ad := ad) (fun p9 hp9 => had_11 _ (hms p9 hp9).1)] at h1
      refine lv_dup hx hb dX3_pile_75 rfl ?_
      refine lv_iload_n hx hb dX3_pile_76 rfl (lv_at hl 2 rfl) ?_
      refine lv_iload_n hx hb dX3_pile_77 rfl (lv_at hl 3 rfl) ?_
      refine lv_iload_n hx hb dX3_pile_78 rfl (lv_at hl 4 rfl) ?_
      refine lv_iload hx hb dX3_pile_79 (lv_at hl 5 rfl) ?_
      refine z_callan (z_runIa (As := [zi (a1), zi (a2), zi (a3), zi (a4)]) (rest := [.ref (ad_11 (40 + 4 * n)), zi (n), .ref (ad_11 (1))]) (k := 40 + 4 * n) ⟨hx, hb, hml, hown, hts⟩ (k_Pile l hl0 G _ _ _ _ (40 + 4 * n) (a1).toNat a1 a2 a3 a4 (by omega) (by omega) (List.mem_append_right _ (List.mem_singleton.mpr rfl)) (zni (fun h9 => absurd (hIb _ h9) (by omega)) (by omega)) (zni (fun h9 => absurd (hIb _ h9) (by omega)) (by omega)) (zni (fun h9 => absurd (hIb _ h9) (by omega)) (by omega)) (zU_s _ _ _)) (zPreA zEB_t trivial (fun _ _ _ _ h => h) hK hw _) (cwI 4 hts gX3_pile_X1_init rfl rfl rfl w_2 w_8 w_9 rfl (by decide +kernel) ⟨Nat.le_of_ble_eq_true rfl, Nat.le_of_ble_eq_true rfl⟩) rfl hl.1 rfl (Nat.le_of_ble_eq_true rfl) dX3_pile_81 ⟨Nat.le_of_ble_eq_true rfl, Nat.le_of_ble_eq_true rfl⟩) hw (fun v I1 ad_16 ct_17 H locs hag_18 hP_19 hw => ?_)
      obtain ⟨rfl, rfl, ⟨hp0, hp1, hp2, hp3⟩, hoth⟩ := hP_19
      refine W.eq (g2 := F0 m 84 ls [.ref (ad_11 (40 + 4 * n)), zi (n), .ref (ad_11 (1))]) rfl ?_
      have hf0_81 : ct_17 (0) = .inr (3, [.ref (ad_11 (1)), .ref (ad_11 (2)), .ref (ad_11 (3)), zi (n)]) := (hoth 0 (by omega)).trans (zU_n (by omega) h0)
      have hf1_81 : ct_17 (1) = zP G (6) (zpf ad_11 (n)) := (hoth 1 (by omega)).trans (zU_n (by omega) h1)
      rw [← zpf_ad (ad1 := ad_16) (ad := ad_11) (fun p9 hp9 => hag_18 _ (List.mem_append_left _ (hms p9 hp9).1))] at hf1_81
      have e_20 : ad_16 (1) = ad_11 (1) := hag_18 _ (List.mem_append_left _ hI1)
      rw [← e_20]
      rw [← e_20] at hf0_81
      have e_21 : ad_16 (40 + 4 * n) = ad_11 (40 + 4 * n) := hag_18 _ (List.mem_append_right _ (List.mem_singleton.mpr rfl))
      rw [← e_21]
      have e_22 : ad_16 (0) = ad_11 (0) := hag_18 _ (List.mem_append_left _ hI0)
      rw [← e_22] at hl
      have e_23 : ad_16 (2) = ad_11 (2) := hag_18 _ (List.mem_append_left _ hI2)
      rw [← e_23] at hf0_81
      have e_24 : ad_16 (3) = ad_11 (3) := hag_18 _ (List.mem_append_left _ hI3)
      rw [← e_24] at hf0_81
      refine z_aast hx hb hK hw (k := 1) (k2 := 40 + 4 * n) (List.mem_append_left _ (List.mem_append_left _ (List.mem_append_left _ (List.mem_append_left _ hI1)))) (List.mem_append_left _ (List.mem_append_left _ (List.mem_append_left _ (List.mem_append_right _ (List.mem_singleton.mpr rfl))))) hf1_81 hp0 (i := n) (by omega) (by omega) (by decide) dX3_pile_84 (fun H locs hw => ?_)
      rw [zpf_push (n := n) rfl rfl] at hw
      refine lv_aload_n hx hb dX3_pile_85 rfl (lv_at hl 1 rfl) ?_
      refine lv_dup hx hb dX3_pile_86 rfl ?_
      refine z_get (C := RX3) (T := TX3) (N := 4) (fs := [.ref (ad_16 (1)), .ref (ad_16 (2)), .ref (ad_16 (3)), zi (n)]) hx hb hts w_6 hown hK hw (List.mem_append_left _ (List.mem_append_left _ (List.mem_append_left _ (List.mem_append_left _ hI0)))) (zU_n (by decide) hf0_81) rfl 3 (by decide) w_5 rfl rfl dX3_pile_87 ?_
      refine z_ic hx hb dX3_pile_90 ?_
      refine z_iadd hx hb dX3_pile_91 ?_
      rw [show ((n) + (1) : Int) = ((n + 1 : Nat) : Int) from by omega]
      refine z_put (C := RX3) (T := TX3) (N := 4) (fs := [.ref (ad_16 (1)), .ref (ad_16 (2)), .ref (ad_16 (3)), zi (n)]) (fs' := [.ref (ad_16 (1)), .ref (ad_16 (2)), .ref (ad_16 (3)), zi (((n + 1 : Nat) : Int))]) hx hb hts w_6 tyX3_ok nmX3 hown hK hw (List.mem_append_left _ (List.mem_append_left _ (List.mem_append_left _ (List.mem_append_left _ hI0)))) (zU_n (by decide) hf0_81) rfl 3 (by decide) w_5 rfl rfl rfl rfl (Nat.le_of_ble_eq_true rfl) rfl dX3_pile_92 (fun H locs hw => ?_)
      refine lv_iload hx hb dX3_pile_95 (lv_at hl 0 rfl) ?_
      exact z_ireta hx hb hlk hr hw (fun k9 hk9 => (hag_18 k9 (List.mem_append_left _ hk9)).trans ((fun k9 hk9 => (had_11 k9 hk9).trans ((fun _ _ => rfl) k9 hk9)) k9 hk9)) dX3_pile_97 (Nat.le_of_ble_eq_true rfl) (Nat.le_of_ble_eq_true rfl) ⟨rfl, ⟨⟨⟨by omega, by omega⟩, ⟨by omega, by omega⟩, ⟨by omega, by omega⟩, by omega, by omega⟩, by omega⟩, rfl, (zU_s _ _ _), (zU_n (by decide) (zU_s _ _ _)), ⟨(zU_n (by omega) (zU_n (by omega) hp0)), (zU_n (by omega) (zU_n (by omega) hp1)), (zU_n (by omega) (zU_n (by omega) hp2)), (zU_n (by omega) (zU_n (by omega) hp3))⟩, fun j hj1 hj2 => (zU_n (by omega) (zU_n (by omega) ((hoth j (by omega)).trans (zU_n (by omega) rfl))))⟩
    · exact z_throwg hx hb hst hK hw hout hlk (cls := zIS) (text := "there are as many piles as there may be") (names := zNm) hown (by decide +kernel) zfit w_10 w_11 hK.2.1.2.2.2.2.2.2.2.2.2.1 (fun w h => hts w (List.mem_cons_of_mem _ (List.mem_append_left _ (List.mem_append_right _ h)))) hK.2.1.badS zbIS zgIS (hl.1.trans hml.symm) dX3_pile_50 dX3_pile_53 dX3_pile_54 dX3_pile_56 dX3_pile_59 (Nat.le_of_ble_eq_true rfl) (Nat.le_of_ble_eq_true rfl) (Nat.le_of_ble_eq_true rfl) (Nat.le_of_ble_eq_true rfl) (Or.inr ⟨rfl, ⟨⟨by omega, by omega⟩, ⟨by omega, by omega⟩, ⟨by omega, by omega⟩, by omega, by omega⟩, by omega⟩) (Nat.le_of_ble_eq_true rfl) (Nat.le_of_ble_eq_true rfl)
