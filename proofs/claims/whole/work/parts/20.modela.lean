set_option maxHeartbeats 4000000 in
set_option maxRecDepth 100000 in
theorem k_thrown (l : Launch) (hl0 : l.stackTraces = false) (G : zG) (I : List Nat) (ad : Nat → Nat) (ct : Nat → va_E) (sz : Nat) (n : Nat) (hn6 : n ≤ 6) (σ : Nat → zPl) (hgs : ∀ p : Nat, p < n → zGood (σ p)) (cd bl : Int) (Fmn Fsp Fms Fco Fst Fmo Fsk Fts Ftm Fjn Fpl Fgr Fab : Int → Int) (hRel : zMrel n σ Fmn Fsp Fms Fco Fst Fmo Fsk Fts Ftm Fjn) (hM : ∀ j : Nat, 8 ≤ j → j ≤ 24 → j ∈ I) (hms : zMst G ad ct n cd bl Fmn Fsp Fms Fco Fst Fmo Fsk Fts Ftm Fjn) (hmc : zMsc G ct Fpl Fgr Fab)  : zN l yX4_thrown wsX4_thrown 0 0 0 0 G [.ref (ad (8))] I ad ct zno sz (zk I (zqi fun z u => z = cd ∧ u = ct)) := by
  obtain ⟨h8, h9, h10, h11, h12, h13, h14, h15, h16, h17, h18⟩ := hms
  obtain ⟨h19, h20, h21⟩ := hmc
  refine z_ofW (ret := (some .int)) hl0 (by decide +kernel) rfl (Nat.le_of_ble_eq_true rfl) ?_
  intro p e s m args below meth c A ls hA0 hsz hF hr hout hnm hw hl
  obtain ⟨hx, hb, hml, hown, hts, hK, hlk, hst⟩ := hF
  have hown : s.vm.findClass RX4 = some m.cls := hown
  have hl : lv_has ls 1 [(0, .ref (ad (8)))] := hl
  have w_0 := hts (.fieldLink RX4 65 "PileMovesModel" "code" "I") (by decide +kernel)
  have w_1 : ∀ w ∈ wsX40, w ∈ wsX4_thrown := by decide +kernel
  refine lv_aload_n hx hb dX4_thrown_0 rfl (lv_at hl 0 rfl) ?_
  refine z_get (C := RX4) (T := TX4) (N := 19) (fs := [zi (cd), zi (n), .ref (ad (9)), .ref (ad (10)), .ref (ad (11)), .ref (ad (12)), .ref (ad (13)), .ref (ad (14)), .ref (ad (15)), .ref (ad (16)), .ref (ad (17)), .ref (ad (18)), .ref (ad (19)), .ref (ad (20)), .ref (ad (21)), .ref (ad (22)), zi (bl), .ref (ad (23)), .ref (ad (24))]) hx hb hts w_1 hown hK hw (hM 8 (by decide) (by decide)) h8 rfl 0 (by decide) w_0 rfl rfl dX4_thrown_1 ?_
  exact z_iret hx hb hlk hr hw dX4_thrown_4 (Nat.le_of_ble_eq_true rfl) (Nat.le_of_ble_eq_true rfl) ⟨rfl, _, rfl, ⟨rfl, rfl⟩⟩

set_option maxHeartbeats 4000000 in
set_option maxRecDepth 100000 in
theorem k_isPile (l : Launch) (hl0 : l.stackTraces = false) (G : zG) (I : List Nat) (ad : Nat → Nat) (ct : Nat → va_E) (sz : Nat) (n : Nat) (hn6 : n ≤ 6) (σ : Nat → zPl) (hgs : ∀ p : Nat, p < n → zGood (σ p)) (cd bl : Int) (Fmn Fsp Fms Fco Fst Fmo Fsk Fts Ftm Fjn Fpl Fgr Fab : Int → Int) (hRel : zMrel n σ Fmn Fsp Fms Fco Fst Fmo Fsk Fts Ftm Fjn) (hM : ∀ j : Nat, 8 ≤ j → j ≤ 24 → j ∈ I) (hms : zMst G ad ct n cd bl Fmn Fsp Fms Fco Fst Fmo Fsk Fts Ftm Fjn) (hmc : zMsc G ct Fpl Fgr Fab) (a : Int) (hz : zr a) : zN l yX4_isPile wsX4_isPile 1 25 0 0 G [.ref (ad (8)), zi (a)] I ad ct zno sz (zk I (zqi fun z u => z = zb (0 ≤ a ∧ a < n) ∧ u = ct)) := by
  obtain ⟨h8, h9, h10, h11, h12, h13, h14, h15, h16, h17, h18⟩ := hms
  obtain ⟨h19, h20, h21⟩ := hmc
  refine z_ofW (ret := (some .boolean)) hl0 (by decide +kernel) rfl (Nat.le_of_ble_eq_true rfl) ?_
  intro p e s m args below meth c A ls hA0 hsz hF hr hout hnm hw hl
  obtain ⟨hx, hb, hml, hown, hts, hK, hlk, hst⟩ := hF
  have hown : s.vm.findClass RX4 = some m.cls := hown
  have hl : lv_has ls 2 [(0, .ref (ad (8))), (1, zi (a))] := hl
  have w_0 := hts (.fieldLink RX4 68 "PileMovesModel" "piles" "I") (by decide +kernel)
  have w_1 : ∀ w ∈ wsX40, w ∈ wsX4_isPile := by decide +kernel
  refine lv_iload_n hx hb dX4_isPile_0 rfl (lv_at hl 1 rfl) ?_
  refine z_i2l hx hb dX4_isPile_1 ⟨by omega, by omega⟩ ?_
  refine z_lc0 hx hb dX4_isPile_2 ?_
  refine lv_aload_n hx hb dX4_isPile_3 rfl (lv_at hl 0 rfl) ?_
  refine z_get (C := RX4) (T := TX4) (N := 19) (fs := [zi (cd), zi (n), .ref (ad (9)), .ref (ad (10)), .ref (ad (11)), .ref (ad (12)), .ref (ad (13)), .ref (ad (14)), .ref (ad (15)), .ref (ad (16)), .ref (ad (17)), .ref (ad (18)), .ref (ad (19)), .ref (ad (20)), .ref (ad (21)), .ref (ad (22)), zi (bl), .ref (ad (23)), .ref (ad (24))]) hx hb hts w_1 hown hK hw (hM 8 (by decide) (by decide)) h8 rfl 1 (by decide) w_0 rfl rfl dX4_isPile_4 ?_
  refine z_i2l hx hb dX4_isPile_7 ⟨by omega, by omega⟩ ?_
  refine z_lc1 hx hb dX4_isPile_8 ?_
  refine z_lsub hx hb dX4_isPile_9 ?_
  refine z_kI (z_runS (As := [zl (a), zl (0), zl ((n) - (1))]) (rest := []) ⟨hx, hb, hml, hown, hts⟩ hK hw (k_in l hl0 G I ad _ _ (a) (0) ((n) - (1)) ⟨by omega, by omega⟩ ⟨by decide, by decide⟩ ⟨by omega, by omega⟩) (va_cwS 3 hts gX4_isPile_X4_in rfl rfl rfl (by decide +kernel) ⟨Nat.le_of_ble_eq_true rfl, Nat.le_of_ble_eq_true rfl⟩) rfl hl.1 rfl (Nat.le_of_ble_eq_true rfl) dX4_isPile_10 ⟨Nat.le_of_ble_eq_true rfl, Nat.le_of_ble_eq_true rfl⟩) hw (fun r_1 ct_2 H locs hP hw => ?_)
  obtain ⟨rfl, hct⟩ := hP
  rw [hct] at hw
  clear hct
  exact z_zret hx hb hlk hr hw (by show ite _ _ _ = _ ∨ ite _ _ _ = _; split <;> omega) dX4_isPile_13 (Nat.le_of_ble_eq_true rfl) (Nat.le_of_ble_eq_true rfl) ⟨rfl, _, rfl, ⟨by show ite _ _ _ = ite _ _ _; (repeat' split) <;> omega, rfl⟩⟩

set_option maxHeartbeats 4000000 in
set_option maxRecDepth 100000 in
theorem k_isPiece (l : Launch) (hl0 : l.stackTraces = false) (G : zG) (I : List Nat) (ad : Nat → Nat) (ct : Nat → va_E) (sz : Nat) (n : Nat) (hn6 : n ≤ 6) (σ : Nat → zPl) (hgs : ∀ p : Nat, p < n → zGood (σ p)) (cd bl : Int) (Fmn Fsp Fms Fco Fst Fmo Fsk Fts Ftm Fjn Fpl Fgr Fab : Int → Int) (hRel : zMrel n σ Fmn Fsp Fms Fco Fst Fmo Fsk Fts Ftm Fjn) (hM : ∀ j : Nat, 8 ≤ j → j ≤ 24 → j ∈ I) (hms : zMst G ad ct n cd bl Fmn Fsp Fms Fco Fst Fmo Fsk Fts Ftm Fjn) (hmc : zMsc G ct Fpl Fgr Fab) (a i : Int) (hz : zr a) (hzi : zr i) : zN l yX4_isPiece wsX4_isPiece 2 46 0 0 G [.ref (ad (8)), zi (a), zi (i)] I ad ct zno sz (zk I (zqi fun z u => z = zb ((0 ≤ a ∧ a < n) ∧ (0 ≤ i ∧ i < pn (σ a.toNat))) ∧ u = ct)) := by
  obtain ⟨h8, h9, h10, h11, h12, h13, h14, h15, h16, h17, h18⟩ := hms
  obtain ⟨h19, h20, h21⟩ := hmc
  refine z_ofW (ret := (some .boolean)) hl0 (by decide +kernel) rfl (Nat.le_of_ble_eq_true rfl) ?_
  intro p e s m args below meth c A ls hA0 hsz hF hr hout hnm hw hl
  obtain ⟨hx, hb, hml, hown, hts, hK, hlk, hst⟩ := hF
  have hown : s.vm.findClass RX4 = some m.cls := hown
  have hl : lv_has ls 3 [(0, .ref (ad (8))), (1, zi (a)), (2, zi (i))] := hl
  have w_0 := hts (.fieldLink RX4 7 "PileMovesModel" "many" "[I") (by decide +kernel)
  have w_1 : ∀ w ∈ wsX40, w ∈ wsX4_isPiece := by decide +kernel
  refine lv_aload_n hx hb dX4_isPiece_0 rfl (lv_at hl 0 rfl) ?_
  refine lv_iload_n hx hb dX4_isPiece_1 rfl (lv_at hl 1 rfl) ?_
  refine z_kI (z_runV (As := [zi (a)]) (rest := []) (k := 8) (fs := [zi (cd), zi (n), .ref (ad (9)), .ref (ad (10)), .ref (ad (11)), .ref (ad (12)), .ref (ad (13)), .ref (ad (14)), .ref (ad (15)), .ref (ad (16)), .ref (ad (17)), .ref (ad (18)), .ref (ad (19)), .ref (ad (20)), .ref (ad (21)), .ref (ad (22)), zi (bl), .ref (ad (23)), .ref (ad (24))]) ⟨hx, hb, hml, hown, hts⟩ hK hw (k_isPile l hl0 G I ad _ _ n hn6 σ hgs (cd) (bl) (Fmn) (Fsp) (Fms) (Fco) (Fst) (Fmo) (Fsk) (Fts) (Ftm) (Fjn) (Fpl) (Fgr) (Fab) hRel hM ⟨h8, h9, h10, h11, h12, h13, h14, h15, h16, h17, h18⟩ ⟨h19, h20, h21⟩ (a) ⟨by omega, by omega⟩) (cwV 1 hts gX4_isPiece_X4_isPile rfl rfl rfl (by decide +kernel) ⟨Nat.le_of_ble_eq_true rfl, Nat.le_of_ble_eq_true rfl⟩) (hM 8 (by decide) (by decide)) h8 rfl rfl rfl hl.1 rfl (Nat.le_of_ble_eq_true rfl) dX4_isPiece_2 ⟨Nat.le_of_ble_eq_true rfl, Nat.le_of_ble_eq_true rfl⟩) hw (fun r_1 ct_2 H locs hP hw => ?_)
  obtain ⟨rfl, hct⟩ := hP
  rw [hct] at hw
  clear hct
  refine z_ifb_eq (tgt := 30) hx hb dX4_isPiece_5 (by decide) (fun c_3 => ?_) (fun c_3 => ?_)
  · refine z_ic hx hb dX4_isPiece_30 ?_
    exact z_zret hx hb hlk hr hw (Or.inl rfl) dX4_isPiece_31 (Nat.le_of_ble_eq_true rfl) (Nat.le_of_ble_eq_true rfl) ⟨rfl, _, rfl, ⟨by show _ = ite _ _ _; split <;> omega, rfl⟩⟩
  · refine lv_iload_n hx hb dX4_isPiece_8 rfl (lv_at hl 2 rfl) ?_
    refine z_i2l hx hb dX4_isPiece_9 ⟨by omega, by omega⟩ ?_
    refine z_lc0 hx hb dX4_isPiece_10 ?_
    refine lv_aload_n hx hb dX4_isPiece_11 rfl (lv_at hl 0 rfl) ?_
    refine z_get (C := RX4) (T := TX4) (N := 19) (fs := [zi (cd), zi (n), .ref (ad (9)), .ref (ad (10)), .ref (ad (11)), .ref (ad (12)), .ref (ad (13)), .ref (ad (14)), .ref (ad (15)), .ref (ad (16)), .ref (ad (17)), .ref (ad (18)), .ref (ad (19)), .ref (ad (20)), .ref (ad (21)), .ref (ad (22)), zi (bl), .ref (ad (23)), .ref (ad (24))]) hx hb hts w_1 hown hK hw (hM 8 (by decide) (by decide)) h8 rfl 2 (by decide) w_0 rfl rfl dX4_isPiece_12 ?_
    refine lv_iload_n hx hb dX4_isPiece_15 rfl (lv_at hl 1 rfl) ?_
    refine z_iald (f := Fmn) hx hb hK hw (hM 9 (by decide) (by decide)) h9 (by omega) (by omega) (by decide) dX4_isPiece_16 ?_
    have hg := hgs (a.toNat) (by omega)
    have hg0 := hg
    obtain ⟨⟨g1, g2⟩, ⟨g3, g4⟩, ⟨g5, g6⟩, ⟨g7, g8⟩, ⟨g9, g10⟩, ⟨g11, g12⟩, g13, g14, g15, g16⟩ := hg0
    have gn : ((σ (a.toNat)).1 : Int) = pn (σ (a.toNat)) := rfl
    have hr0 := hRel (a.toNat) (by omega)
    rw [show (((a.toNat) : Nat) : Int) = a by omega] at hr0
    obtain ⟨r1, r2, r3, r4, r5, r6, r7, r8⟩ := hr0
    rw [show (Fmn (a) : Int) = pn (σ a.toNat) from r1]
    refine z_i2l hx hb dX4_isPiece_17 ⟨by omega, by omega⟩ ?_
    refine z_lc1 hx hb dX4_isPiece_18 ?_
    refine z_lsub hx hb dX4_isPiece_19 ?_
    refine z_kI (z_runS (As := [zl (i), zl (0), zl ((pn (σ a.toNat)) - (1))]) (rest := []) ⟨hx, hb, hml, hown, hts⟩ hK hw (k_in l hl0 G I ad _ _ (i) (0) ((pn (σ a.toNat)) - (1)) ⟨by omega, by omega⟩ ⟨by decide, by decide⟩ ⟨by omega, by omega⟩) (va_cwS 3 hts gX4_isPiece_X4_in rfl rfl rfl (by decide +kernel) ⟨Nat.le_of_ble_eq_true rfl, Nat.le_of_ble_eq_true rfl⟩) rfl hl.1 rfl (Nat.le_of_ble_eq_true rfl) dX4_isPiece_20 ⟨Nat.le_of_ble_eq_true rfl, Nat.le_of_ble_eq_true rfl⟩) hw (fun r_4 ct_5 H locs hP hw => ?_)
    obtain ⟨rfl, hct⟩ := hP
    rw [hct] at hw
    clear hct
    refine z_ifb_eq (tgt := 30) hx hb dX4_isPiece_23 (by decide) (fun c_6 => ?_) (fun c_6 => ?_)
    · refine z_ic hx hb dX4_isPiece_30 ?_
      exact z_zret hx hb hlk hr hw (Or.inl rfl) dX4_isPiece_31 (Nat.le_of_ble_eq_true rfl) (Nat.le_of_ble_eq_true rfl) ⟨rfl, _, rfl, ⟨by show _ = ite _ _ _; split <;> omega, rfl⟩⟩
    · refine z_ic hx hb dX4_isPiece_26 ?_
      refine lv_goto (tgt := 31) hx hb dX4_isPiece_27 (by decide) ?_
      exact z_zret hx hb hlk hr hw (Or.inr rfl) dX4_isPiece_31 (Nat.le_of_ble_eq_true rfl) (Nat.le_of_ble_eq_true rfl) ⟨rfl, _, rfl, ⟨by show _ = ite _ _ _; split <;> omega, rfl⟩⟩

set_option maxHeartbeats 4000000 in
set_option maxRecDepth 100000 in
theorem k_march (l : Launch) (hl0 : l.stackTraces = false) (G : zG) (I : List Nat) (ad : Nat → Nat) (ct : Nat → va_E) (sz : Nat) (n : Nat) (hn6 : n ≤ 6) (σ : Nat → zPl) (hgs : ∀ p : Nat, p < n → zGood (σ p)) (cd bl : Int) (Fmn Fsp Fms Fco Fst Fmo Fsk Fts Ftm Fjn Fpl Fgr Fab : Int → Int) (hRel : zMrel n σ Fmn Fsp Fms Fco Fst Fmo Fsk Fts Ftm Fjn) (hM : ∀ j : Nat, 8 ≤ j → j ≤ 24 → j ∈ I) (hms : zMst G ad ct n cd bl Fmn Fsp Fms Fco Fst Fmo Fsk Fts Ftm Fjn) (hmc : zMsc G ct Fpl Fgr Fab) (pp : Nat) (a : Int) (hpa : a = pp) (hpp : pp < n) (w : Int) (hw1 : -200000 ≤ w) (hw2 : w ≤ 200000) : zN l yX4_march wsX4_march 1 25 0 0 G [.ref (ad (8)), zi (a), zl (w)] I ad ct zno sz (zk I (zql fun z u => z = zld (σ pp) w ∧ ∃ P Gr Ab : Int → Int, zMar (σ pp) w (-1) P Gr Ab ∧ u = zM3 ct (zL G 12 P) (zL G 12 Gr) (zL G 12 Ab))) := by
  obtain ⟨h8, h9, h10, h11, h12, h13, h14, h15, h16, h17, h18⟩ := hms
  obtain ⟨h19, h20, h21⟩ := hmc
  have hg := hgs (pp) hpp
  have hg0 := hg
  obtain ⟨⟨g1, g2⟩, ⟨g3, g4⟩, ⟨g5, g6⟩, ⟨g7, g8⟩, ⟨g9, g10⟩, ⟨g11, g12⟩, g13, g14, g15, g16⟩ := hg0
  have gn : ((σ (pp)).1 : Int) = pn (σ (pp)) := rfl
  have hr0 := hRel (pp) hpp
  have hr0 := hRel pp hpp
  rw [← hpa] at hr0
  obtain ⟨r1, r2, r3, r4, r5, r6, r7, r8⟩ := hr0
  have rT := zmulb g9 g10 (b := w) (B := 200000) (by omega) hw2
  refine z_ofW (ret := (some .long)) hl0 (by decide +kernel) rfl (Nat.le_of_ble_eq_true rfl) ?_
  intro p e s m args below meth c A ls hA0 hsz hF hr hout hnm hw hl
  obtain ⟨hx, hb, hml, hown, hts, hK, hlk, hst⟩ := hF
  have hown : s.vm.findClass RX4 = some m.cls := hown
  have hl : lv_has ls 11 [(0, .ref (ad (8))), (1, zi (a)), (2, zl (w))] := hl
  have w_0 := hts (.fieldLink RX4 7 "PileMovesModel" "many" "[I") (by decide +kernel)
  have w_1 : ∀ w ∈ wsX40, w ∈ wsX4_march := by decide +kernel
  have w_2 := hts (.fieldLink RX4 32 "PileMovesModel" "tipStiff" "[J") (by decide +kernel)
  have w_3 := hts (.fieldLink RX4 35 "PileMovesModel" "tipMost" "[J") (by decide +kernel)
  have w_4 := hts (.fieldLink RX4 42 "PileMovesModel" "places" "[J") (by decide +kernel)
  have w_5 := hts (.fieldLink RX4 45 "PileMovesModel" "grounds" "[J") (by decide +kernel)
  have w_6 := hts (.fieldLink RX4 23 "PileMovesModel" "stiff" "[J") (by decide +kernel)
  have w_7 := hts (.fieldLink RX4 29 "PileMovesModel" "sinks" "[J") (by decide +kernel)
  have w_8 := hts (.fieldLink RX4 26 "PileMovesModel" "most" "[J") (by decide +kernel)
  have w_9 := hts (.fieldLink RX4 48 "PileMovesModel" "above" "[J") (by decide +kernel)
  have w_10 := hts (.fieldLink RX4 13 "PileMovesModel" "springs" "[J") (by decide +kernel)
  refine lv_aload_n hx hb dX4_march_0 rfl (lv_at hl 0 rfl) ?_
  refine z_get (C := RX4) (T := TX4) (N := 19) (fs := [zi (cd), zi (n), .ref (ad (9)), .ref (ad (10)), .ref (ad (11)), .ref (ad (12)), .ref (ad (13)), .ref (ad (14)), .ref (ad (15)), .ref (ad (16)), .ref (ad (17)), .ref (ad (18)), .ref (ad (19)), .ref (ad (20)), .ref (ad (21)), .ref (ad (22)), zi (bl), .ref (ad (23)), .ref (ad (24))]) hx hb hts w_1 hown hK hw (hM 8 (by decide) (by decide)) h8 rfl 2 (by decide) w_0 rfl rfl dX4_march_1 ?_
  refine lv_iload_n hx hb dX4_march_4 rfl (lv_at hl 1 rfl) ?_
  refine z_iald (f := Fmn) hx hb hK hw (hM 9 (by decide) (by decide)) h9 (by omega) (by omega) (by decide) dX4_march_5 ?_
  rw [show (Fmn (a) : Int) = pn (σ pp) from r1]
  refine z_ic hx hb dX4_march_6 ?_
  refine z_isub hx hb dX4_march_7 ?_
  refine lv_istore (lv' := [(4, zi ((pn (σ pp)) - (1))), (0, .ref (ad (8))), (1, zi (a)), (2, zl (w))]) hx hb dX4_march_8 hl (by decide) rfl (fun ls hl => ?_)
  refine lv_aload_n hx hb dX4_march_10 rfl (lv_at hl 1 rfl) ?_
  refine z_get (C := RX4) (T := TX4) (N := 19) (fs := [zi (cd), zi (n), .ref (ad (9)), .ref (ad (10)), .ref (ad (11)), .ref (ad (12)), .ref (ad (13)), .ref (ad (14)), .ref (ad (15)), .ref (ad (16)), .ref (ad (17)), .ref (ad (18)), .ref (ad (19)), .ref (ad (20)), .ref (ad (21)), .ref (ad (22)), zi (bl), .ref (ad (23)), .ref (ad (24))]) hx hb hts w_1 hown hK hw (hM 8 (by decide) (by decide)) h8 rfl 9 (by decide) w_2 rfl rfl dX4_march_11 ?_
  refine lv_iload_n hx hb dX4_march_14 rfl (lv_at hl 2 rfl) ?_
  refine z_lald (f := Fts) hx hb hK hw (hM 16 (by decide) (by decide)) h16 (by omega) (by omega) (by decide) dX4_march_15 ?_
  rw [show (Fts (a) : Int) = pts (σ pp) from r5]
  refine lv_lload_n hx hb dX4_march_16 rfl (lv_at hl 3 rfl) ?_
  refine z_lmul hx hb dX4_march_17 ?_
  refine z_lc0 hx hb dX4_march_18 ?_
  refine lv_aload_n hx hb dX4_march_19 rfl (lv_at hl 1 rfl) ?_
  refine z_get (C := RX4) (T := TX4) (N := 19) (fs := [zi (cd), zi (n), .ref (ad (9)), .ref (ad (10)), .ref (ad (11)), .ref (ad (12)), .ref (ad (13)), .ref (ad (14)), .ref (ad (15)), .ref (ad (16)), .ref (ad (17)), .ref (ad (18)), .ref (ad (19)), .ref (ad (20)), .ref (ad (21)), .ref (ad (22)), zi (bl), .ref (ad (23)), .ref (ad (24))]) hx hb hts w_1 hown hK hw (hM 8 (by decide) (by decide)) h8 rfl 10 (by decide) w_3 rfl rfl dX4_march_20 ?_
  refine lv_iload_n hx hb dX4_march_23 rfl (lv_at hl 2 rfl) ?_
  refine z_lald (f := Ftm) hx hb hK hw (hM 17 (by decide) (by decide)) h17 (by omega) (by omega) (by decide) dX4_march_24 ?_
  rw [show (Ftm (a) : Int) = ptm (σ pp) from r6]
  refine z_kL (z_runS (As := [zl ((pts (σ pp)) * (w)), zl (0), zl (ptm (σ pp))]) (rest := []) ⟨hx, hb, hml, hown, hts⟩ hK hw (k_cut l hl0 G I ad _ _ ((pts (σ pp)) * (w)) (0) (ptm (σ pp)) ⟨by omega, by omega⟩ ⟨by decide, by decide⟩ ⟨by omega, by omega⟩) (va_cwS 3 hts gX4_march_X4_cut rfl rfl rfl (by decide +kernel) ⟨Nat.le_of_ble_eq_true rfl, Nat.le_of_ble_eq_true rfl⟩) rfl hl.1 rfl (Nat.le_of_ble_eq_true rfl) dX4_march_25 ⟨Nat.le_of_ble_eq_true rfl, Nat.le_of_ble_eq_true rfl⟩) hw (fun r_1 ct_2 H locs hP hw => ?_)
  obtain ⟨rfl, hct⟩ := hP
  rw [hct] at hw
  clear hct
  rw [show (zcl ((pts (σ pp)) * (w)) (0) (ptm (σ pp)) : Int) = ztf (σ pp) (w) from rfl]
  have bT := ztf_bd hg w
  refine lv_lstore (lv' := [(5, zl (ztf (σ pp) (w))), (4, zi ((pn (σ pp)) - (1))), (0, .ref (ad (8))), (1, zi (a)), (2, zl (w))]) hx hb dX4_march_28 hl (by decide) rfl (fun ls hl => ?_)
  refine lv_lload_n hx hb dX4_march_30 rfl (lv_at hl 4 rfl) ?_
  refine lv_lstore (lv' := [(7, zl (w)), (5, zl (ztf (σ pp) (w))), (4, zi ((pn (σ pp)) - (1))), (0, .ref (ad (8))), (1, zi (a)), (2, zl (w))]) hx hb dX4_march_31 hl (by decide) rfl (fun ls hl => ?_)
  refine lv_iload hx hb dX4_march_33 (lv_at hl 2 rfl) ?_
  refine lv_istore (lv' := [(9, zi ((pn (σ pp)) - (1))), (7, zl (w)), (5, zl (ztf (σ pp) (w))), (4, zi ((pn (σ pp)) - (1))), (0, .ref (ad (8))), (1, zi (a)), (2, zl (w))]) hx hb dX4_march_35 hl (by decide) rfl (fun ls hl => ?_)
  have L37 : ∀ (nn : Nat) (K : Nat) (i : Int) (F : Int) (Pl : Int) (P : Int → Int) (Gr : Int → Int) (Ab : Int → Int), ((σ pp).1 + 1 - K) < nn → (K ≤ (σ pp).1) → (i = pn (σ pp) - 1 - K) → (F = zf (σ pp) w K) → (Pl = zp (σ pp) w K) → (zMar (σ pp) w i P Gr Ab) → ∀ (H : Heap) (locs : List Loc), zW G A s.heap H locs I ad (zM3 ct (zL G 12 P) (zL G 12 Gr) (zL G 12 Ab)) → ∀ ls, lv_has ls 11 [(0, .ref (ad (8))), (1, zi (a)), (2, zl (w)), (4, zi ((pn (σ pp)) - (1))), (5, zl (F)), (7, zl (Pl)), (9, zi (i))] → W p l e ({ frames := 1, cells := 0, slots := 0, locals := 25 } : Room) s m args below meth c H locs 0 0 (vx_MQ below (zQ G A ad (zk I (zql fun z u => z = zld (σ pp) w ∧ ∃ P Gr Ab : Int → Int, zMar (σ pp) w (-1) P Gr Ab ∧ u = zM3 ct (zL G 12 P) (zL G 12 Gr) (zL G 12 Ab)))) (zX G A I ad ct zno) args s 0 0 A) (F0 m 37 ls []) := by
    intro nn
    induction nn with
    | zero => intro K i F Pl P Gr Ab hme; exact absurd hme (Nat.not_lt_zero _)
    | succ nn ih37 =>
      intro K i F Pl P Gr Ab hme37 hKq hi hF hPl hMar H locs hw ls hl
      have bF := zf_bd2 hg w (k := K) (by omega)
      rw [← hF] at bF
      have bP := zp_bd2 hg hw1 hw2 (k := K) (by omega)
      rw [← hPl] at bP
      refine lv_iload hx hb dX4_march_37 (lv_at hl 6 rfl) ?_
      refine z_if_lt (tgt := 146) hx hb dX4_march_39 (by decide) ⟨by omega, by omega⟩ (fun c_3 => ?_) (fun c_3 => ?_)
      · refine lv_lload hx hb dX4_march_146 (lv_at hl 4 rfl) ?_
        exact z_lret hx hb hlk hr hw dX4_march_148 (Nat.le_of_ble_eq_true rfl) (Nat.le_of_ble_eq_true rfl) ⟨rfl, _, rfl, ⟨by rw [hF, show K = (σ pp).1 by omega]; rfl, P, Gr, Ab, by rw [show i = -1 by omega] at hMar; exact hMar, rfl⟩⟩
      · obtain ⟨rs1, rs2, rs3⟩ := r8 i (by omega) (by omega)
        have bs := g14 i
        have bm := g15 i
        have bk := g16 i
        have rM := zmulb (b := Pl - psk (σ pp) i) (B := 40000000) bs.1 bs.2 (by omega) (by omega)
        refine z_bi hx hb dX4_march_42 (by decide) ?_
        refine lv_iload_n hx hb dX4_march_44 rfl (lv_at hl 1 rfl) ?_
        refine z_imul hx hb dX4_march_45 ?_
        refine lv_iload hx hb dX4_march_46 (lv_at hl 6 rfl) ?_
        refine z_iadd hx hb dX4_march_48 ?_
        refine lv_istore (lv' := [(10, zi (((12) * (a)) + (i))), (0, .ref (ad (8))), (1, zi (a)), (2, zl (w)), (4, zi ((pn (σ pp)) - (1))), (5, zl (F)), (7, zl (Pl)), (9, zi (i))]) hx hb dX4_march_49 hl (by decide) rfl (fun ls hl => ?_)
        refine lv_aload_n hx hb dX4_march_51 rfl (lv_at hl 1 rfl) ?_
        refine z_get (C := RX4) (T := TX4) (N := 19) (fs := [zi (cd), zi (n), .ref (ad (9)), .ref (ad (10)), .ref (ad (11)), .ref (ad (12)), .ref (ad (13)), .ref (ad (14)), .ref (ad (15)), .ref (ad (16)), .ref (ad (17)), .ref (ad (18)), .ref (ad (19)), .ref (ad (20)), .ref (ad (21)), .ref (ad (22)), zi (bl), .ref (ad (23)), .ref (ad (24))]) hx hb hts w_1 hown hK hw (hM 8 (by decide) (by decide)) (zM3_n (by omega) h8) rfl 12 (by decide) w_4 rfl rfl dX4_march_52 ?_
        refine lv_iload hx hb dX4_march_55 (lv_at hl 7 rfl) ?_
        refine lv_lload hx hb dX4_march_57 (lv_at hl 6 rfl) ?_
        refine z_last (f := P) hx hb hK hw (hM 19 (by decide) (by decide)) rfl (by omega) (by omega) (by decide) dX4_march_59 (fun H locs hw => ?_)
        refine lv_aload_n hx hb dX4_march_60 rfl (lv_at hl 1 rfl) ?_
        refine z_get (C := RX4) (T := TX4) (N := 19) (fs := [zi (cd), zi (n), .ref (ad (9)), .ref (ad (10)), .ref (ad (11)), .ref (ad (12)), .ref (ad (13)), .ref (ad (14)), .ref (ad (15)), .ref (ad (16)), .ref (ad (17)), .ref (ad (18)), .ref (ad (19)), .ref (ad (20)), .ref (ad (21)), .ref (ad (22)), zi (bl), .ref (ad (23)), .ref (ad (24))]) hx hb hts w_1 hown hK hw (hM 8 (by decide) (by decide)) (zU_n (by decide) (zM3_n (by omega) h8)) rfl 13 (by decide) w_5 rfl rfl dX4_march_61 ?_
        refine lv_iload hx hb dX4_march_64 (lv_at hl 7 rfl) ?_
        refine lv_aload_n hx hb dX4_march_66 rfl (lv_at hl 1 rfl) ?_
        refine z_get (C := RX4) (T := TX4) (N := 19) (fs := [zi (cd), zi (n), .ref (ad (9)), .ref (ad (10)), .ref (ad (11)), .ref (ad (12)), .ref (ad (13)), .ref (ad (14)), .ref (ad (15)), .ref (ad (16)), .ref (ad (17)), .ref (ad (18)), .ref (ad (19)), .ref (ad (20)), .ref (ad (21)), .ref (ad (22)), zi (bl), .ref (ad (23)), .ref (ad (24))]) hx hb hts w_1 hown hK hw (hM 8 (by decide) (by decide)) (zU_n (by decide) (zM3_n (by omega) h8)) rfl 6 (by decide) w_6 rfl rfl dX4_march_67 ?_
        refine lv_iload hx hb dX4_march_70 (lv_at hl 0 rfl) ?_
        refine z_lald (f := Fst) hx hb hK hw (hM 13 (by decide) (by decide)) (zU_n (by decide) (zM3_n (by omega) h13)) (by omega) (by omega) (by decide) dX4_march_72 ?_
        rw [show (Fst (((12) * (a)) + (i)) : Int) = pst (σ pp) (i) from rs1]
        refine lv_lload hx hb dX4_march_73 (lv_at hl 6 rfl) ?_
        refine lv_aload_n hx hb dX4_march_75 rfl (lv_at hl 1 rfl) ?_
        refine z_get (C := RX4) (T := TX4) (N := 19) (fs := [zi (cd), zi (n), .ref (ad (9)), .ref (ad (10)), .ref (ad (11)), .ref (ad (12)), .ref (ad (13)), .ref (ad (14)), .ref (ad (15)), .ref (ad (16)), .ref (ad (17)), .ref (ad (18)), .ref (ad (19)), .ref (ad (20)), .ref (ad (21)), .ref (ad (22)), zi (bl), .ref (ad (23)), .ref (ad (24))]) hx hb hts w_1 hown hK hw (hM 8 (by decide) (by decide)) (zU_n (by decide) (zM3_n (by omega) h8)) rfl 8 (by decide) w_7 rfl rfl dX4_march_76 ?_
        refine lv_iload hx hb dX4_march_79 (lv_at hl 0 rfl) ?_
        refine z_lald (f := Fsk) hx hb hK hw (hM 15 (by decide) (by decide)) (zU_n (by decide) (zM3_n (by omega) h15)) (by omega) (by omega) (by decide) dX4_march_81 ?_
        rw [show (Fsk (((12) * (a)) + (i)) : Int) = psk (σ pp) (i) from rs3]
        refine z_lsub hx hb dX4_march_82 ?_
        refine z_lmul hx hb dX4_march_83 ?_
        refine lv_aload_n hx hb dX4_march_84 rfl (lv_at hl 1 rfl) ?_
        refine z_get (C := RX4) (T := TX4) (N := 19) (fs := [zi (cd), zi (n), .ref (ad (9)), .ref (ad (10)), .ref (ad (11)), .ref (ad (12)), .ref (ad (13)), .ref (ad (14)), .ref (ad (15)), .ref (ad (16)), .ref (ad (17)), .ref (ad (18)), .ref (ad (19)), .ref (ad (20)), .ref (ad (21)), .ref (ad (22)), zi (bl), .ref (ad (23)), .ref (ad (24))]) hx hb hts w_1 hown hK hw (hM 8 (by decide) (by decide)) (zU_n (by decide) (zM3_n (by omega) h8)) rfl 7 (by decide) w_8 rfl rfl dX4_march_85 ?_
        refine lv_iload hx hb dX4_march_88 (lv_at hl 0 rfl) ?_
        refine z_lald (f := Fmo) hx hb hK hw (hM 14 (by decide) (by decide)) (zU_n (by decide) (zM3_n (by omega) h14)) (by omega) (by omega) (by decide) dX4_march_90 ?_
        rw [show (Fmo (((12) * (a)) + (i)) : Int) = pmo (σ pp) (i) from rs2]
        refine z_lneg hx hb dX4_march_91 ?_
        refine lv_aload_n hx hb dX4_march_92 rfl (lv_at hl 1 rfl) ?_
        refine z_get (C := RX4) (T := TX4) (N := 19) (fs := [zi (cd), zi (n), .ref (ad (9)), .ref (ad (10)), .ref (ad (11)), .ref (ad (12)), .ref (ad (13)), .ref (ad (14)), .ref (ad (15)), .ref (ad (16)), .ref (ad (17)), .ref (ad (18)), .ref (ad (19)), .ref (ad (20)), .ref (ad (21)), .ref (ad (22)), zi (bl), .ref (ad (23)), .ref (ad (24))]) hx hb hts w_1 hown hK hw (hM 8 (by decide) (by decide)) (zU_n (by decide) (zM3_n (by omega) h8)) rfl 7 (by decide) w_8 rfl rfl dX4_march_93 ?_
        refine lv_iload hx hb dX4_march_96 (lv_at hl 0 rfl) ?_
        refine z_lald (f := Fmo) hx hb hK hw (hM 14 (by decide) (by decide)) (zU_n (by decide) (zM3_n (by omega) h14)) (by omega) (by omega) (by decide) dX4_march_98 ?_
        rw [show (Fmo (((12) * (a)) + (i)) : Int) = pmo (σ pp) (i) from rs2]
        refine z_kL (z_runS (As := [zl ((pst (σ pp) (i)) * ((Pl) - (psk (σ pp) (i)))), zl (-(pmo (σ pp) (i))), zl (pmo (σ pp) (i))]) (rest := [zi (i), .ref (ad (20))]) ⟨hx, hb, hml, hown, hts⟩ hK hw (k_cut l hl0 G I ad _ _ ((pst (σ pp) (i)) * ((Pl) - (psk (σ pp) (i)))) (-(pmo (σ pp) (i))) (pmo (σ pp) (i)) ⟨by omega, by omega⟩ ⟨by omega, by omega⟩ ⟨by omega, by omega⟩) (va_cwS 3 hts gX4_march_X4_cut rfl rfl rfl (by decide +kernel) ⟨Nat.le_of_ble_eq_true rfl, Nat.le_of_ble_eq_true rfl⟩) rfl hl.1 rfl (Nat.le_of_ble_eq_true rfl) dX4_march_99 ⟨Nat.le_of_ble_eq_true rfl, Nat.le_of_ble_eq_true rfl⟩) hw (fun r_4 ct_5 H locs hP hw => ?_)
        obtain ⟨rfl, hct⟩ := hP
        rw [hct] at hw
        clear hct
        rw [show (zcl ((pst (σ pp) (i)) * ((Pl) - (psk (σ pp) (i)))) (-(pmo (σ pp) (i))) (pmo (σ pp) (i)) : Int) = zgf (σ pp) (i) (Pl) from rfl]
        have bG := zgf_bd hg i Pl
        refine z_last (f := Gr) hx hb hK hw (hM 20 (by decide) (by decide)) (zU_n (by decide) rfl) (by omega) (by omega) (by decide) dX4_march_102 (fun H locs hw => ?_)
        refine lv_lload hx hb dX4_march_103 (lv_at hl 5 rfl) ?_
        refine lv_aload_n hx hb dX4_march_105 rfl (lv_at hl 1 rfl) ?_
        refine z_get (C := RX4) (T := TX4) (N := 19) (fs := [zi (cd), zi (n), .ref (ad (9)), .ref (ad (10)), .ref (ad (11)), .ref (ad (12)), .ref (ad (13)), .ref (ad (14)), .ref (ad (15)), .ref (ad (16)), .ref (ad (17)), .ref (ad (18)), .ref (ad (19)), .ref (ad (20)), .ref (ad (21)), .ref (ad (22)), zi (bl), .ref (ad (23)), .ref (ad (24))]) hx hb hts w_1 hown hK hw (hM 8 (by decide) (by decide)) (zU_n (by decide) (zU_n (by decide) (zM3_n (by omega) h8))) rfl 13 (by decide) w_5 rfl rfl dX4_march_106 ?_
        refine lv_iload hx hb dX4_march_109 (lv_at hl 7 rfl) ?_
        refine z_lald (f := zup (Gr) (i) (zgf (σ pp) (i) (Pl))) hx hb hK hw (hM 20 (by decide) (by decide)) (zU_s _ _ _) (by omega) (by omega) (by decide) dX4_march_111 ?_
        rw [show ((zup (Gr) (i) (zgf (σ pp) (i) (Pl))) (i) : Int) = zgf (σ pp) (i) (Pl) from zup_s _ _ _]
        refine z_ladd hx hb dX4_march_112 ?_
        refine lv_lstore (lv' := [(5, zl ((F) + (zgf (σ pp) (i) (Pl)))), (10, zi (((12) * (a)) + (i))), (0, .ref (ad (8))), (1, zi (a)), (2, zl (w)), (4, zi ((pn (σ pp)) - (1))), (7, zl (Pl)), (9, zi (i))]) hx hb dX4_march_113 hl (by decide) rfl (fun ls hl => ?_)
        refine lv_aload_n hx hb dX4_march_115 rfl (lv_at hl 2 rfl) ?_
        refine z_get (C := RX4) (T := TX4) (N := 19) (fs := [zi (cd), zi (n), .ref (ad (9)), .ref (ad (10)), .ref (ad (11)), .ref (ad (12)), .ref (ad (13)), .ref (ad (14)), .ref (ad (15)), .ref (ad (16)), .ref (ad (17)), .ref (ad (18)), .ref (ad (19)), .ref (ad (20)), .ref (ad (21)), .ref (ad (22)), zi (bl), .ref (ad (23)), .ref (ad (24))]) hx hb hts w_1 hown hK hw (hM 8 (by decide) (by decide)) (zU_n (by decide) (zU_n (by decide) (zM3_n (by omega) h8))) rfl 14 (by decide) w_9 rfl rfl dX4_march_116 ?_
        refine lv_iload hx hb dX4_march_119 (lv_at hl 7 rfl) ?_
        refine lv_lload hx hb dX4_march_121 (lv_at hl 0 rfl) ?_
        refine z_last (f := Ab) hx hb hK hw (hM 21 (by decide) (by decide)) (zU_n (by decide) (zU_n (by decide) rfl)) (by omega) (by omega) (by decide) dX4_march_123 (fun H locs hw => ?_)
        refine lv_lload hx hb dX4_march_124 (lv_at hl 6 rfl) ?_
        refine lv_lload hx hb dX4_march_126 (lv_at hl 0 rfl) ?_
        refine lv_aload_n hx hb dX4_march_128 rfl (lv_at hl 2 rfl) ?_
        refine z_get (C := RX4) (T := TX4) (N := 19) (fs := [zi (cd), zi (n), .ref (ad (9)), .ref (ad (10)), .ref (ad (11)), .ref (ad (12)), .ref (ad (13)), .ref (ad (14)), .ref (ad (15)), .ref (ad (16)), .ref (ad (17)), .ref (ad (18)), .ref (ad (19)), .ref (ad (20)), .ref (ad (21)), .ref (ad (22)), zi (bl), .ref (ad (23)), .ref (ad (24))]) hx hb hts w_1 hown hK hw (hM 8 (by decide) (by decide)) (zU_n (by decide) (zU_n (by decide) (zU_n (by decide) (zM3_n (by omega) h8)))) rfl 3 (by decide) w_10 rfl rfl dX4_march_129 ?_
        refine lv_iload_n hx hb dX4_march_132 rfl (lv_at hl 3 rfl) ?_
        refine z_lald (f := Fsp) hx hb hK hw (hM 10 (by decide) (by decide)) (zU_n (by decide) (zU_n (by decide) (zU_n (by decide) (zM3_n (by omega) h10)))) (by omega) (by omega) (by decide) dX4_march_133 ?_
        rw [show (Fsp (a) : Int) = psp (σ pp) from r2]
        refine z_kL (z_runS (As := [zl ((F) + (zgf (σ pp) (i) (Pl))), zl (psp (σ pp))]) (rest := [zl (Pl)]) ⟨hx, hb, hml, hown, hts⟩ hK hw (k_down l hl0 G I ad _ _ ((F) + (zgf (σ pp) (i) (Pl))) (psp (σ pp)) ⟨by omega, by omega⟩ (by omega) (by omega)) (va_cwS 2 hts gX4_march_X4_down rfl rfl rfl (by decide +kernel) ⟨Nat.le_of_ble_eq_true rfl, Nat.le_of_ble_eq_true rfl⟩) rfl hl.1 rfl (Nat.le_of_ble_eq_true rfl) dX4_march_134 ⟨Nat.le_of_ble_eq_true rfl, Nat.le_of_ble_eq_true rfl⟩) hw (fun r_6 ct_7 H locs hP hw => ?_)
        obtain ⟨rfl, hct⟩ := hP
        rw [hct] at hw
        clear hct
        refine z_ladd hx hb dX4_march_137 ?_
        refine lv_lstore (lv' := [(7, zl ((Pl) + (((F) + (zgf (σ pp) (i) (Pl))) / (psp (σ pp))))), (5, zl ((F) + (zgf (σ pp) (i) (Pl)))), (10, zi (((12) * (a)) + (i))), (0, .ref (ad (8))), (1, zi (a)), (2, zl (w)), (4, zi ((pn (σ pp)) - (1))), (9, zi (i))]) hx hb dX4_march_138 hl (by decide) rfl (fun ls hl => ?_)
        refine z_iinc (lv' := [(9, zi (i + (-1))), (7, zl ((Pl) + (((F) + (zgf (σ pp) (i) (Pl))) / (psp (σ pp))))), (5, zl ((F) + (zgf (σ pp) (i) (Pl)))), (10, zi (((12) * (a)) + (i))), (0, .ref (ad (8))), (1, zi (a)), (2, zl (w)), (4, zi ((pn (σ pp)) - (1)))]) hx hb dX4_march_140 hl (k := 7) rfl (by decide) rfl (fun ls hl => ?_)
        refine lv_goto (tgt := 37) hx hb dX4_march_143 (by decide) ?_
        exact ih37 (K + 1) (i + (-1)) ((F) + (zgf (σ pp) (i) (Pl))) ((Pl) + (((F) + (zgf (σ pp) (i) (Pl))) / (psp (σ pp)))) (zup (P) (i) (Pl)) (zup (Gr) (i) (zgf (σ pp) (i) (Pl))) (zup (Ab) (i) ((F) + (zgf (σ pp) (i) (Pl)))) (by omega) (by omega) (by omega) (by rw [zf_s, ← hF, ← hPl, ← hi]) (by rw [zp_s, zf_s, ← hF, ← hPl, ← hi]) (zMar_s hi hMar hPl (by rw [zf_s, ← hF, ← hPl, ← hi]) (by omega)) _ _ (zWe hw (by simp only [zM3_p19, zM3_p20, zM3_p21, zM3_zM3])) _ (lv_sub hl [4, 5, 6, 7, 2, 1, 0] rfl)
  exact L37 _ (0) ((pn (σ pp)) - (1)) (ztf (σ pp) (w)) (w) (Fpl) (Fgr) (Fab) (Nat.lt_succ_self _) (by omega) (by omega) rfl rfl (zMar_0 (by omega)) _ _ (zWe hw (zM3_id h19 h20 h21).symm) _ (lv_sub hl [4, 5, 6, 3, 2, 1, 0] rfl)

set_option maxHeartbeats 4000000 in
set_option maxRecDepth 100000 in
theorem k_isWithin (l : Launch) (hl0 : l.stackTraces = false) (G : zG) (I : List Nat) (ad : Nat → Nat) (ct : Nat → va_E) (sz : Nat) (n : Nat) (hn6 : n ≤ 6) (σ : Nat → zPl) (hgs : ∀ p : Nat, p < n → zGood (σ p)) (cd bl : Int) (Fmn Fsp Fms Fco Fst Fmo Fsk Fts Ftm Fjn Fpl Fgr Fab : Int → Int) (hRel : zMrel n σ Fmn Fsp Fms Fco Fst Fmo Fsk Fts Ftm Fjn) (hM : ∀ j : Nat, 8 ≤ j → j ≤ 24 → j ∈ I) (hms : zMst G ad ct n cd bl Fmn Fsp Fms Fco Fst Fmo Fsk Fts Ftm Fjn) (hmc : zMsc G ct Fpl Fgr Fab) (pp : Nat) (a : Int) (hpa : a = pp) (hpp : pp < n) (w : Int) (hw1 : -200000 ≤ w) (hw2 : w ≤ 200000) (bd : Int) (hbd : zR bd) (b : Bool) (hd : Int) (hhd : hd = if b = true then 0 else 1) : zN l yX4_isWithin wsX4_isWithin 2 55 0 0 G [.ref (ad (8)), zi (a), zl (w), zl (bd), zi (hd)] I ad ct zno sz (zk I (zqi fun z u => z = zb (zin (σ pp) b bd w = true) ∧ ∃ P Gr Ab : Int → Int, u = zM3 ct (zL G 12 P) (zL G 12 Gr) (zL G 12 Ab))) := by
  obtain ⟨h8, h9, h10, h11, h12, h13, h14, h15, h16, h17, h18⟩ := hms
  obtain ⟨h19, h20, h21⟩ := hmc
  have hg := hgs (pp) hpp
  have hg0 := hg
  obtain ⟨⟨g1, g2⟩, ⟨g3, g4⟩, ⟨g5, g6⟩, ⟨g7, g8⟩, ⟨g9, g10⟩, ⟨g11, g12⟩, g13, g14, g15, g16⟩ := hg0
  have gn : ((σ (pp)).1 : Int) = pn (σ (pp)) := rfl
  have hr0 := hRel (pp) hpp
  have hr0 := hRel pp hpp
  rw [← hpa] at hr0
  obtain ⟨r1, r2, r3, r4, r5, r6, r7, r8⟩ := hr0
  have bL := zld_bd hg w
  have bH := zhp_bd hg hw1 hw2
  refine z_ofW (ret := (some .boolean)) hl0 (by decide +kernel) rfl (Nat.le_of_ble_eq_true rfl) ?_
  intro p e s m args below meth c A ls hA0 hsz hF hr hout hnm hw hl
  obtain ⟨hx, hb, hml, hown, hts, hK, hlk, hst⟩ := hF
  have hown : s.vm.findClass RX4 = some m.cls := hown
  have hl : lv_has ls 9 [(0, .ref (ad (8))), (1, zi (a)), (2, zl (w)), (4, zl (bd)), (6, zi (hd))] := hl
  have w_0 := hts (.fieldLink RX4 42 "PileMovesModel" "places" "[J") (by decide +kernel)
  have w_1 : ∀ w ∈ wsX40, w ∈ wsX4_isWithin := by decide +kernel
  refine lv_aload_n hx hb dX4_isWithin_0 rfl (lv_at hl 0 rfl) ?_
  refine lv_iload_n hx hb dX4_isWithin_1 rfl (lv_at hl 1 rfl) ?_
  refine lv_lload_n hx hb dX4_isWithin_2 rfl (lv_at hl 2 rfl) ?_
  refine z_kL (z_runV (As := [zi (a), zl (w)]) (rest := []) (k := 8) (fs := [zi (cd), zi (n), .ref (ad (9)), .ref (ad (10)), .ref (ad (11)), .ref (ad (12)), .ref (ad (13)), .ref (ad (14)), .ref (ad (15)), .ref (ad (16)), .ref (ad (17)), .ref (ad (18)), .ref (ad (19)), .ref (ad (20)), .ref (ad (21)), .ref (ad (22)), zi (bl), .ref (ad (23)), .ref (ad (24))]) ⟨hx, hb, hml, hown, hts⟩ hK hw (k_march l hl0 G I ad _ _ n hn6 σ hgs (cd) (bl) (Fmn) (Fsp) (Fms) (Fco) (Fst) (Fmo) (Fsk) (Fts) (Ftm) (Fjn) (Fpl) (Fgr) (Fab) hRel hM ⟨h8, h9, h10, h11, h12, h13, h14, h15, h16, h17, h18⟩ ⟨h19, h20, h21⟩ (pp) (a) (by omega) hpp (w) (by omega) (by omega)) (cwV 2 hts gX4_isWithin_X4_march rfl rfl rfl (by decide +kernel) ⟨Nat.le_of_ble_eq_true rfl, Nat.le_of_ble_eq_true rfl⟩) (hM 8 (by decide) (by decide)) h8 rfl rfl rfl hl.1 rfl (Nat.le_of_ble_eq_true rfl) dX4_isWithin_3 ⟨Nat.le_of_ble_eq_true rfl, Nat.le_of_ble_eq_true rfl⟩) hw (fun r_4 ct_5 H locs hP hw => ?_)
  obtain ⟨rfl, P_1, G_2, A_3, hP_1, hct⟩ := hP
  rw [hct] at hw
  clear hct
  refine lv_lstore (lv' := [(7, zl (zld (σ (pp)) (w))), (0, .ref (ad (8))), (1, zi (a)), (2, zl (w)), (4, zl (bd)), (6, zi (hd))]) hx hb dX4_isWithin_6 hl (by decide) rfl (fun ls hl => ?_)
  refine lv_iload hx hb dX4_isWithin_8 (lv_at hl 5 rfl) ?_
  refine z_if_eq (tgt := 22) hx hb dX4_isWithin_10 (by decide) ⟨by rw [hhd]; split <;> decide, by rw [hhd]; split <;> decide⟩ (fun c_6 => ?_) (fun c_6 => ?_)
  · have hbb := zhb_t hhd c_6
    refine lv_lload hx hb dX4_isWithin_22 (lv_at hl 0 rfl) ?_
    refine lv_lload hx hb dX4_isWithin_24 (lv_at hl 4 rfl) ?_
    refine z_lcmp_gt (tgt := 34) hx hb dX4_isWithin_26 dX4_isWithin_27 (by decide) ⟨by omega, by omega⟩ ⟨by omega, by omega⟩ (fun c_7 => ?_) (fun c_7 => ?_)
    · refine z_ic hx hb dX4_isWithin_34 ?_
      exact z_zret hx hb hlk hr hw (Or.inl rfl) dX4_isWithin_35 (Nat.le_of_ble_eq_true rfl) (Nat.le_of_ble_eq_true rfl) ⟨rfl, _, rfl, by rw [hbb]; exact (if_neg (fun h9 => by have := zin_t.mp h9; omega)).symm, _, _, _, rfl⟩
    · refine z_ic hx hb dX4_isWithin_30 ?_
      refine lv_goto (tgt := 35) hx hb dX4_isWithin_31 (by decide) ?_
      exact z_zret hx hb hlk hr hw (Or.inr rfl) dX4_isWithin_35 (Nat.le_of_ble_eq_true rfl) (Nat.le_of_ble_eq_true rfl) ⟨rfl, _, rfl, by rw [hbb]; exact (if_pos (zin_t.mpr (by omega))).symm, _, _, _, rfl⟩
  · have hbb := zhb_f hhd c_6
    refine lv_aload_n hx hb dX4_isWithin_13 rfl (lv_at hl 1 rfl) ?_
    refine z_get (C := RX4) (T := TX4) (N := 19) (fs := [zi (cd), zi (n), .ref (ad (9)), .ref (ad (10)), .ref (ad (11)), .ref (ad (12)), .ref (ad (13)), .ref (ad (14)), .ref (ad (15)), .ref (ad (16)), .ref (ad (17)), .ref (ad (18)), .ref (ad (19)), .ref (ad (20)), .ref (ad (21)), .ref (ad (22)), zi (bl), .ref (ad (23)), .ref (ad (24))]) hx hb hts w_1 hown hK hw (hM 8 (by decide) (by decide)) (zM3_n (by omega) h8) rfl 12 (by decide) w_0 rfl rfl dX4_isWithin_14 ?_
    refine z_ic hx hb dX4_isWithin_17 ?_
    refine z_lald (f := P_1) hx hb hK hw (hM 19 (by decide) (by decide)) rfl (by decide) (by decide) (by decide) dX4_isWithin_18 ?_
    rw [show (P_1 (0) : Int) = zhp (σ pp) (w) from zMar_h hg hP_1 (by decide)]
    refine lv_goto (tgt := 24) hx hb dX4_isWithin_19 (by decide) ?_
    refine lv_lload hx hb dX4_isWithin_24 (lv_at hl 4 rfl) ?_
    refine z_lcmp_gt (tgt := 34) hx hb dX4_isWithin_26 dX4_isWithin_27 (by decide) ⟨by omega, by omega⟩ ⟨by omega, by omega⟩ (fun c_8 => ?_) (fun c_8 => ?_)
    · refine z_ic hx hb dX4_isWithin_34 ?_
      exact z_zret hx hb hlk hr hw (Or.inl rfl) dX4_isWithin_35 (Nat.le_of_ble_eq_true rfl) (Nat.le_of_ble_eq_true rfl) ⟨rfl, _, rfl, by rw [hbb]; exact (if_neg (fun h9 => by have := zin_f.mp h9; omega)).symm, _, _, _, rfl⟩
    · refine z_ic hx hb dX4_isWithin_30 ?_
      refine lv_goto (tgt := 35) hx hb dX4_isWithin_31 (by decide) ?_
      exact z_zret hx hb hlk hr hw (Or.inr rfl) dX4_isWithin_35 (Nat.le_of_ble_eq_true rfl) (Nat.le_of_ble_eq_true rfl) ⟨rfl, _, rfl, by rw [hbb]; exact (if_pos (zin_f.mpr (by omega))).symm, _, _, _, rfl⟩

set_option maxHeartbeats 4000000 in
set_option maxRecDepth 100000 in
theorem k_greatest (l : Launch) (hl0 : l.stackTraces = false) (G : zG) (I : List Nat) (ad : Nat → Nat) (ct : Nat → va_E) (sz : Nat) (n : Nat) (hn6 : n ≤ 6) (σ : Nat → zPl) (hgs : ∀ p : Nat, p < n → zGood (σ p)) (cd bl : Int) (Fmn Fsp Fms Fco Fst Fmo Fsk Fts Ftm Fjn Fpl Fgr Fab : Int → Int) (hRel : zMrel n σ Fmn Fsp Fms Fco Fst Fmo Fsk Fts Ftm Fjn) (hM : ∀ j : Nat, 8 ≤ j → j ≤ 24 → j ∈ I) (hms : zMst G ad ct n cd bl Fmn Fsp Fms Fco Fst Fmo Fsk Fts Ftm Fjn) (hmc : zMsc G ct Fpl Fgr Fab) (pp : Nat) (a : Int) (hpa : a = pp) (hpp : pp < n) (bd : Int) (hbd : zR bd) (b : Bool) (hd : Int) (hhd : hd = if b = true then 0 else 1) : zN l yX4_greatest wsX4_greatest 3 83 0 0 G [.ref (ad (8)), zi (a), zl (bd), zi (hd)] I ad ct zno sz (zk I (zql fun z u => z = zg (σ pp) b bd ∧ ∃ P Gr Ab : Int → Int, u = zM3 ct (zL G 12 P) (zL G 12 Gr) (zL G 12 Ab))) := by
  obtain ⟨h8, h9, h10, h11, h12, h13, h14, h15, h16, h17, h18⟩ := hms
  obtain ⟨h19, h20, h21⟩ := hmc
  have hg := hgs (pp) hpp
  have hg0 := hg
  obtain ⟨⟨g1, g2⟩, ⟨g3, g4⟩, ⟨g5, g6⟩, ⟨g7, g8⟩, ⟨g9, g10⟩, ⟨g11, g12⟩, g13, g14, g15, g16⟩ := hg0
  have gn : ((σ (pp)).1 : Int) = pn (σ (pp)) := rfl
  have hr0 := hRel (pp) hpp
  have hr0 := hRel pp hpp
  rw [← hpa] at hr0
  obtain ⟨r1, r2, r3, r4, r5, r6, r7, r8⟩ := hr0
  refine z_ofW (ret := (some .long)) hl0 (by decide +kernel) rfl (Nat.le_of_ble_eq_true rfl) ?_
  intro p e s m args below meth c A ls hA0 hsz hF hr hout hnm hw hl
  obtain ⟨hx, hb, hml, hown, hts, hK, hlk, hst⟩ := hF
  have hown : s.vm.findClass RX4 = some m.cls := hown
  have hl : lv_has ls 10 [(0, .ref (ad (8))), (1, zi (a)), (2, zl (bd)), (4, zi (hd))] := hl
  have w_0 := hts (.constantLong RX4 105 (-100000)) (by decide +kernel)
  have w_1 := hts (.constantLong RX4 113 (131072)) (by decide +kernel)
  have w_2 := hts (.constantLong RX4 85 (100000)) (by decide +kernel)
  have w_3 := hts (.constantLong RX4 115 (2)) (by decide +kernel)
  have w_4 := hts (.constantLong RX4 111 (-100001)) (by decide +kernel)
  refine lv_aload_n hx hb dX4_greatest_0 rfl (lv_at hl 0 rfl) ?_
  refine lv_iload_n hx hb dX4_greatest_1 rfl (lv_at hl 1 rfl) ?_
  refine z_ldc2 (n := -100000) hx hb hown w_0 (by decide) dX4_greatest_2 ?_
  refine lv_lload_n hx hb dX4_greatest_5 rfl (lv_at hl 2 rfl) ?_
  refine lv_iload hx hb dX4_greatest_6 (lv_at hl 3 rfl) ?_
  refine z_kI (z_runV (As := [zi (a), zl (-100000), zl (bd), zi (hd)]) (rest := []) (k := 8) (fs := [zi (cd), zi (n), .ref (ad (9)), .ref (ad (10)), .ref (ad (11)), .ref (ad (12)), .ref (ad (13)), .ref (ad (14)), .ref (ad (15)), .ref (ad (16)), .ref (ad (17)), .ref (ad (18)), .ref (ad (19)), .ref (ad (20)), .ref (ad (21)), .ref (ad (22)), zi (bl), .ref (ad (23)), .ref (ad (24))]) ⟨hx, hb, hml, hown, hts⟩ hK hw (k_isWithin l hl0 G I ad _ _ n hn6 σ hgs (cd) (bl) (Fmn) (Fsp) (Fms) (Fco) (Fst) (Fmo) (Fsk) (Fts) (Ftm) (Fjn) (Fpl) (Fgr) (Fab) hRel hM ⟨h8, h9, h10, h11, h12, h13, h14, h15, h16, h17, h18⟩ ⟨h19, h20, h21⟩ (pp) (a) (by omega) hpp (-100000) (by omega) (by omega) (bd) hbd (b) (hd) hhd) (cwV 4 hts gX4_greatest_X4_isWithin rfl rfl rfl (by decide +kernel) ⟨Nat.le_of_ble_eq_true rfl, Nat.le_of_ble_eq_true rfl⟩) (hM 8 (by decide) (by decide)) h8 rfl rfl rfl hl.1 rfl (Nat.le_of_ble_eq_true rfl) dX4_greatest_8 ⟨Nat.le_of_ble_eq_true rfl, Nat.le_of_ble_eq_true rfl⟩) hw (fun r_4 ct_5 H locs hP hw => ?_)
  obtain ⟨rfl, P_1, G_2, A_3, hct⟩ := hP
  rw [hct] at hw
  clear hct
  refine z_ifb_ne (tgt := 18) hx hb dX4_greatest_11 (by decide) (fun c_6 => ?_) (fun c_6 => ?_)
  · refine z_ldc2 (n := -100000) hx hb hown w_0 (by decide) dX4_greatest_18 ?_
    refine lv_lstore (lv' := [(5, zl (-100000)), (0, .ref (ad (8))), (1, zi (a)), (2, zl (bd)), (4, zi (hd))]) hx hb dX4_greatest_21 hl (by decide) rfl (fun ls hl => ?_)
    refine z_ldc2 (n := 131072) hx hb hown w_1 (by decide) dX4_greatest_23 ?_
    refine lv_lstore (lv' := [(7, zl (131072)), (5, zl (-100000)), (0, .ref (ad (8))), (1, zi (a)), (2, zl (bd)), (4, zi (hd))]) hx hb dX4_greatest_26 hl (by decide) rfl (fun ls hl => ?_)
    have L28 : ∀ (nn : Nat) (f : Int) (s2 : Int) (P : Int → Int) (Gr : Int → Int) (Ab : Int → Int), (s2.toNat) < nn → (zSch (zin (σ pp) b bd) f s2) → ∀ (H : Heap) (locs : List Loc), zW G A s.heap H locs I ad (zM3 ct (zL G 12 P) (zL G 12 Gr) (zL G 12 Ab)) → ∀ ls, lv_has ls 10 [(0, .ref (ad (8))), (1, zi (a)), (2, zl (bd)), (4, zi (hd)), (5, zl (f)), (7, zl (s2))] → W p l e ({ frames := 3, cells := 0, slots := 0, locals := 83 } : Room) s m args below meth c H locs 0 0 (vx_MQ below (zQ G A ad (zk I (zql fun z u => z = zg (σ pp) b bd ∧ ∃ P Gr Ab : Int → Int, u = zM3 ct (zL G 12 P) (zL G 12 Gr) (zL G 12 Ab)))) (zX G A I ad ct zno) args s 0 0 A) (F0 m 28 ls []) := by
      intro nn
      induction nn with
      | zero => intro f s2 P Gr Ab hme; exact absurd hme (Nat.not_lt_zero _)
      | succ nn ih28 =>
        intro f s2 P Gr Ab hme28 hz H locs hw ls hl
        have q1 := hz.1
        have q2 := hz.2.1
        have q4 := hz.2.2.2.1
        have q5 := hz.2.2.2.2.1
        refine lv_lload hx hb dX4_greatest_28 (lv_at hl 5 rfl) ?_
        refine z_lc0 hx hb dX4_greatest_30 ?_
        refine z_lcmp_le (tgt := 97) hx hb dX4_greatest_31 dX4_greatest_32 (by decide) ⟨by omega, by omega⟩ ⟨by decide, by decide⟩ (fun c_7 => ?_) (fun c_7 => ?_)
        · have es : s2 = 0 := by have := hz.2.2.2.1; omega
          rw [es] at hz
          have ef : f = zg (σ pp) b bd := zg_uniq (zSch_done hz) (zg_is (σ pp) b bd)
          refine lv_lload hx hb dX4_greatest_97 (lv_at hl 4 rfl) ?_
          exact z_lret hx hb hlk hr hw dX4_greatest_99 (Nat.le_of_ble_eq_true rfl) (Nat.le_of_ble_eq_true rfl) ⟨rfl, _, rfl, ⟨ef, _, _, _, rfl⟩⟩
        · refine lv_lload hx hb dX4_greatest_35 (lv_at hl 4 rfl) ?_
          refine lv_lload hx hb dX4_greatest_37 (lv_at hl 5 rfl) ?_
          refine z_ladd hx hb dX4_greatest_39 ?_
          refine z_ldc2 (n := 100000) hx hb hown w_2 (by decide) dX4_greatest_40 ?_
          refine z_lcmp_gt (tgt := 67) hx hb dX4_greatest_43 dX4_greatest_44 (by decide) ⟨by omega, by omega⟩ ⟨by decide, by decide⟩ (fun c_8 => ?_) (fun c_8 => ?_)
          · refine z_ic hx hb dX4_greatest_67 ?_
            refine lv_istore (lv' := [(9, zi (0)), (0, .ref (ad (8))), (1, zi (a)), (2, zl (bd)), (4, zi (hd)), (5, zl (f)), (7, zl (s2))]) hx hb dX4_greatest_68 hl (by decide) rfl (fun ls hl => ?_)
            refine lv_lload hx hb dX4_greatest_70 (lv_at hl 5 rfl) ?_
            refine lv_iload hx hb dX4_greatest_72 (lv_at hl 0 rfl) ?_
            refine z_if_eq (tgt := 82) hx hb dX4_greatest_74 (by decide) ⟨by decide, by decide⟩ (fun c_9 => ?_) (fun c_9 => ?_)
            · refine z_lc0 hx hb dX4_greatest_82 ?_
              refine z_ladd hx hb dX4_greatest_83 ?_
              refine lv_lstore (lv' := [(5, zl ((f) + (0))), (9, zi (0)), (0, .ref (ad (8))), (1, zi (a)), (2, zl (bd)), (4, zi (hd)), (7, zl (s2))]) hx hb dX4_greatest_84 hl (by decide) rfl (fun ls hl => ?_)
              refine lv_lload hx hb dX4_greatest_86 (lv_at hl 6 rfl) ?_
              refine z_ldc2 (n := 2) hx hb hown w_3 (by decide) dX4_greatest_88 ?_
              refine z_ldiv hx hb dX4_greatest_91 ⟨by omega, by omega⟩ ⟨by decide, by decide⟩ (by decide) ?_
              refine lv_lstore (lv' := [(7, zl ((s2).tdiv (2))), (5, zl ((f) + (0))), (9, zi (0)), (0, .ref (ad (8))), (1, zi (a)), (2, zl (bd)), (4, zi (hd))]) hx hb dX4_greatest_92 hl (by decide) rfl (fun ls hl => ?_)
              refine lv_goto (tgt := 28) hx hb dX4_greatest_94 (by decide) ?_
              obtain ⟨-, b2, b3, -⟩ := zp2_half hz.2.2.1 (by omega)
              exact ih28 ((f) + (0)) ((s2).tdiv (2)) (P) (Gr) (Ab) (by omega) (by rw [Int.add_zero]; exact zSch_far hz (by omega) (by omega)) _ _ (zWe hw (by simp only [zM3_p19, zM3_p20, zM3_p21, zM3_zM3])) _ (lv_sub hl [3, 4, 5, 6, 1, 0] rfl)
            · exact absurd c_9 (by decide)
          · refine lv_aload_n hx hb dX4_greatest_47 rfl (lv_at hl 0 rfl) ?_
            refine lv_iload_n hx hb dX4_greatest_48 rfl (lv_at hl 1 rfl) ?_
            refine lv_lload hx hb dX4_greatest_49 (lv_at hl 4 rfl) ?_
            refine lv_lload hx hb dX4_greatest_51 (lv_at hl 5 rfl) ?_
            refine z_ladd hx hb dX4_greatest_53 ?_
            refine lv_lload_n hx hb dX4_greatest_54 rfl (lv_at hl 2 rfl) ?_
            refine lv_iload hx hb dX4_greatest_55 (lv_at hl 3 rfl) ?_
            refine z_kI (z_runV (As := [zi (a), zl ((f) + (s2)), zl (bd), zi (hd)]) (rest := []) (k := 8) (fs := [zi (cd), zi (n), .ref (ad (9)), .ref (ad (10)), .ref (ad (11)), .ref (ad (12)), .ref (ad (13)), .ref (ad (14)), .ref (ad (15)), .ref (ad (16)), .ref (ad (17)), .ref (ad (18)), .ref (ad (19)), .ref (ad (20)), .ref (ad (21)), .ref (ad (22)), zi (bl), .ref (ad (23)), .ref (ad (24))]) ⟨hx, hb, hml, hown, hts⟩ hK hw (k_isWithin l hl0 G I ad _ _ n hn6 σ hgs (cd) (bl) (Fmn) (Fsp) (Fms) (Fco) (Fst) (Fmo) (Fsk) (Fts) (Ftm) (Fjn) (P) (Gr) (Ab) hRel hM ⟨(zM3_n (by omega) h8), (zM3_n (by omega) h9), (zM3_n (by omega) h10), (zM3_n (by omega) h11), (zM3_n (by omega) h12), (zM3_n (by omega) h13), (zM3_n (by omega) h14), (zM3_n (by omega) h15), (zM3_n (by omega) h16), (zM3_n (by omega) h17), (zM3_n (by omega) h18)⟩ ⟨rfl, rfl, rfl⟩ (pp) (a) (by omega) hpp ((f) + (s2)) (by omega) (by omega) (bd) hbd (b) (hd) hhd) (cwV 4 hts gX4_greatest_X4_isWithin rfl rfl rfl (by decide +kernel) ⟨Nat.le_of_ble_eq_true rfl, Nat.le_of_ble_eq_true rfl⟩) (hM 8 (by decide) (by decide)) (zM3_n (by omega) h8) rfl rfl rfl hl.1 rfl (Nat.le_of_ble_eq_true rfl) dX4_greatest_57 ⟨Nat.le_of_ble_eq_true rfl, Nat.le_of_ble_eq_true rfl⟩) hw (fun r_13 ct_14 H locs hP hw => ?_)
            obtain ⟨rfl, P_10, G_11, A_12, hct⟩ := hP
            rw [hct] at hw
            clear hct
            refine z_ifb_eq (tgt := 67) hx hb dX4_greatest_60 (by decide) (fun c_15 => ?_) (fun c_15 => ?_)
            · refine z_ic hx hb dX4_greatest_67 ?_
              refine lv_istore (lv' := [(9, zi (0)), (0, .ref (ad (8))), (1, zi (a)), (2, zl (bd)), (4, zi (hd)), (5, zl (f)), (7, zl (s2))]) hx hb dX4_greatest_68 hl (by decide) rfl (fun ls hl => ?_)
              refine lv_lload hx hb dX4_greatest_70 (lv_at hl 5 rfl) ?_
              refine lv_iload hx hb dX4_greatest_72 (lv_at hl 0 rfl) ?_
              refine z_if_eq (tgt := 82) hx hb dX4_greatest_74 (by decide) ⟨by decide, by decide⟩ (fun c_16 => ?_) (fun c_16 => ?_)
              · refine z_lc0 hx hb dX4_greatest_82 ?_
                refine z_ladd hx hb dX4_greatest_83 ?_
                refine lv_lstore (lv' := [(5, zl ((f) + (0))), (9, zi (0)), (0, .ref (ad (8))), (1, zi (a)), (2, zl (bd)), (4, zi (hd)), (7, zl (s2))]) hx hb dX4_greatest_84 hl (by decide) rfl (fun ls hl => ?_)
                refine lv_lload hx hb dX4_greatest_86 (lv_at hl 6 rfl) ?_
                refine z_ldc2 (n := 2) hx hb hown w_3 (by decide) dX4_greatest_88 ?_
                refine z_ldiv hx hb dX4_greatest_91 ⟨by omega, by omega⟩ ⟨by decide, by decide⟩ (by decide) ?_
                refine lv_lstore (lv' := [(7, zl ((s2).tdiv (2))), (5, zl ((f) + (0))), (9, zi (0)), (0, .ref (ad (8))), (1, zi (a)), (2, zl (bd)), (4, zi (hd))]) hx hb dX4_greatest_92 hl (by decide) rfl (fun ls hl => ?_)
                refine lv_goto (tgt := 28) hx hb dX4_greatest_94 (by decide) ?_
                obtain ⟨-, b2, b3, -⟩ := zp2_half hz.2.2.1 (by omega)
                exact ih28 ((f) + (0)) ((s2).tdiv (2)) (P_10) (G_11) (A_12) (by omega) (by rw [Int.add_zero]; exact zSch_no hz (by omega) (fun w9 v9 h1 h2 => zin_mono hg h1 h2) (Bool.eq_false_iff.mpr c_15)) _ _ (zWe hw (by simp only [zM3_p19, zM3_p20, zM3_p21, zM3_zM3])) _ (lv_sub hl [3, 4, 5, 6, 1, 0] rfl)
              · exact absurd c_16 (by decide)
            · refine z_ic hx hb dX4_greatest_63 ?_
              refine lv_goto (tgt := 68) hx hb dX4_greatest_64 (by decide) ?_
              refine lv_istore (lv' := [(9, zi (1)), (0, .ref (ad (8))), (1, zi (a)), (2, zl (bd)), (4, zi (hd)), (5, zl (f)), (7, zl (s2))]) hx hb dX4_greatest_68 hl (by decide) rfl (fun ls hl => ?_)
              refine lv_lload hx hb dX4_greatest_70 (lv_at hl 5 rfl) ?_
              refine lv_iload hx hb dX4_greatest_72 (lv_at hl 0 rfl) ?_
              refine z_if_eq (tgt := 82) hx hb dX4_greatest_74 (by decide) ⟨by decide, by decide⟩ (fun c_17 => ?_) (fun c_17 => ?_)
              · exact absurd c_17 (by decide)
              · refine lv_lload hx hb dX4_greatest_77 (lv_at hl 6 rfl) ?_
                refine lv_goto (tgt := 83) hx hb dX4_greatest_79 (by decide) ?_
                refine z_ladd hx hb dX4_greatest_83 ?_
                refine lv_lstore (lv' := [(5, zl ((f) + (s2))), (9, zi (1)), (0, .ref (ad (8))), (1, zi (a)), (2, zl (bd)), (4, zi (hd)), (7, zl (s2))]) hx hb dX4_greatest_84 hl (by decide) rfl (fun ls hl => ?_)
                refine lv_lload hx hb dX4_greatest_86 (lv_at hl 6 rfl) ?_
                refine z_ldc2 (n := 2) hx hb hown w_3 (by decide) dX4_greatest_88 ?_
                refine z_ldiv hx hb dX4_greatest_91 ⟨by omega, by omega⟩ ⟨by decide, by decide⟩ (by decide) ?_
                refine lv_lstore (lv' := [(7, zl ((s2).tdiv (2))), (5, zl ((f) + (s2))), (9, zi (1)), (0, .ref (ad (8))), (1, zi (a)), (2, zl (bd)), (4, zi (hd))]) hx hb dX4_greatest_92 hl (by decide) rfl (fun ls hl => ?_)
                refine lv_goto (tgt := 28) hx hb dX4_greatest_94 (by decide) ?_
                obtain ⟨-, b2, b3, -⟩ := zp2_half hz.2.2.1 (by omega)
                exact ih28 ((f) + (s2)) ((s2).tdiv (2)) (P_10) (G_11) (A_12) (by omega) (zSch_yes hz (by omega) (by omega) c_15) _ _ (zWe hw (by simp only [zM3_p19, zM3_p20, zM3_p21, zM3_zM3])) _ (lv_sub hl [3, 4, 5, 6, 1, 0] rfl)
    exact L28 _ (-100000) (131072) (P_1) (G_2) (A_3) (Nat.lt_succ_self _) (zSch_0 c_6) _ _ hw _ (lv_sub hl [2, 3, 4, 5, 1, 0] rfl)
  · refine z_ldc2 (n := -100001) hx hb hown w_4 (by decide) dX4_greatest_14 ?_
    exact z_lret hx hb hlk hr hw dX4_greatest_17 (Nat.le_of_ble_eq_true rfl) (Nat.le_of_ble_eq_true rfl) ⟨rfl, _, rfl, ⟨(zg_none hg c_6).symm, _, _, _, rfl⟩⟩

set_option maxHeartbeats 4000000 in
set_option maxRecDepth 100000 in
theorem k_stands (l : Launch) (hl0 : l.stackTraces = false) (G : zG) (I : List Nat) (ad : Nat → Nat) (ct : Nat → va_E) (sz : Nat) (n : Nat) (hn6 : n ≤ 6) (σ : Nat → zPl) (hgs : ∀ p : Nat, p < n → zGood (σ p)) (cd bl : Int) (Fmn Fsp Fms Fco Fst Fmo Fsk Fts Ftm Fjn Fpl Fgr Fab : Int → Int) (hRel : zMrel n σ Fmn Fsp Fms Fco Fst Fmo Fsk Fts Ftm Fjn) (hM : ∀ j : Nat, 8 ≤ j → j ≤ 24 → j ∈ I) (hms : zMst G ad ct n cd bl Fmn Fsp Fms Fco Fst Fmo Fsk Fts Ftm Fjn) (hmc : zMsc G ct Fpl Fgr Fab) (pp : Nat) (a : Int) (hpa : a = pp) (hpp : pp < n) (bd : Int) (hbd : zR bd) : zN l yX4_stands wsX4_stands 4 112 0 0 G [.ref (ad (8)), zi (a), zl (bd)] I ad ct zno sz (zk I (zqi fun z u => z = zb (-100000 ≤ zg (σ pp) true bd ∧ zg (σ pp) true bd < 100000) ∧ ∃ P Gr Ab : Int → Int, ((-100000 ≤ zg (σ pp) true bd ∧ zg (σ pp) true bd < 100000) → zMar (σ pp) (zg (σ pp) true bd) (-1) P Gr Ab) ∧ u = zM3 ct (zL G 12 P) (zL G 12 Gr) (zL G 12 Ab))) := by
  obtain ⟨h8, h9, h10, h11, h12, h13, h14, h15, h16, h17, h18⟩ := hms
  obtain ⟨h19, h20, h21⟩ := hmc
  have hg := hgs (pp) hpp
  have hg0 := hg
  obtain ⟨⟨g1, g2⟩, ⟨g3, g4⟩, ⟨g5, g6⟩, ⟨g7, g8⟩, ⟨g9, g10⟩, ⟨g11, g12⟩, g13, g14, g15, g16⟩ := hg0
  have gn : ((σ (pp)).1 : Int) = pn (σ (pp)) := rfl
  have hr0 := hRel (pp) hpp
  have hr0 := hRel pp hpp
  rw [← hpa] at hr0
  obtain ⟨r1, r2, r3, r4, r5, r6, r7, r8⟩ := hr0
  refine z_ofW (ret := (some .boolean)) hl0 (by decide +kernel) rfl (Nat.le_of_ble_eq_true rfl) ?_
  intro p e s m args below meth c A ls hA0 hsz hF hr hout hnm hw hl
  obtain ⟨hx, hb, hml, hown, hts, hK, hlk, hst⟩ := hF
  have hown : s.vm.findClass RX4 = some m.cls := hown
  have hl : lv_has ls 6 [(0, .ref (ad (8))), (1, zi (a)), (2, zl (bd))] := hl
  have w_0 := hts (.constantLong RX4 105 (-100000)) (by decide +kernel)
  have w_1 := hts (.constantLong RX4 85 (100000)) (by decide +kernel)
  refine lv_aload_n hx hb dX4_stands_0 rfl (lv_at hl 0 rfl) ?_
  refine lv_iload_n hx hb dX4_stands_1 rfl (lv_at hl 1 rfl) ?_
  refine lv_lload_n hx hb dX4_stands_2 rfl (lv_at hl 2 rfl) ?_
  refine z_ic hx hb dX4_stands_3 ?_
  refine z_kL (z_runV (As := [zi (a), zl (bd), zi (0)]) (rest := []) (k := 8) (fs := [zi (cd), zi (n), .ref (ad (9)), .ref (ad (10)), .ref (ad (11)), .ref (ad (12)), .ref (ad (13)), .ref (ad (14)), .ref (ad (15)), .ref (ad (16)), .ref (ad (17)), .ref (ad (18)), .ref (ad (19)), .ref (ad (20)), .ref (ad (21)), .ref (ad (22)), zi (bl), .ref (ad (23)), .ref (ad (24))]) ⟨hx, hb, hml, hown, hts⟩ hK hw (k_greatest l hl0 G I ad _ _ n hn6 σ hgs (cd) (bl) (Fmn) (Fsp) (Fms) (Fco) (Fst) (Fmo) (Fsk) (Fts) (Ftm) (Fjn) (Fpl) (Fgr) (Fab) hRel hM ⟨h8, h9, h10, h11, h12, h13, h14, h15, h16, h17, h18⟩ ⟨h19, h20, h21⟩ (pp) (a) (by omega) hpp (bd) hbd (true) (0) rfl) (cwV 3 hts gX4_stands_X4_greatest rfl rfl rfl (by decide +kernel) ⟨Nat.le_of_ble_eq_true rfl, Nat.le_of_ble_eq_true rfl⟩) (hM 8 (by decide) (by decide)) h8 rfl rfl rfl hl.1 rfl (Nat.le_of_ble_eq_true rfl) dX4_stands_4 ⟨Nat.le_of_ble_eq_true rfl, Nat.le_of_ble_eq_true rfl⟩) hw (fun r_4 ct_5 H locs hP hw => ?_)
  obtain ⟨rfl, P_1, G_2, A_3, hct⟩ := hP
  rw [hct] at hw
  clear hct
  have gb_4 := zg_bd (σ (pp)) true (bd)
  refine lv_lstore (lv' := [(4, zl (zg (σ (pp)) true (bd))), (0, .ref (ad (8))), (1, zi (a)), (2, zl (bd))]) hx hb dX4_stands_7 hl (by decide) rfl (fun ls hl => ?_)
  refine lv_lload hx hb dX4_stands_9 (lv_at hl 0 rfl) ?_
  refine z_ldc2 (n := -100000) hx hb hown w_0 (by decide) dX4_stands_11 ?_
  refine z_lcmp_lt (tgt := 27) hx hb dX4_stands_14 dX4_stands_15 (by decide) ⟨by omega, by omega⟩ ⟨by decide, by decide⟩ (fun c_6 => ?_) (fun c_6 => ?_)
  · refine z_ic hx hb dX4_stands_27 ?_
    exact z_zret hx hb hlk hr hw (Or.inl rfl) dX4_stands_28 (Nat.le_of_ble_eq_true rfl) (Nat.le_of_ble_eq_true rfl) ⟨rfl, _, rfl, (if_neg (by omega)).symm, _, _, _, fun h9 => absurd h9 (by omega), rfl⟩
  · refine lv_lload hx hb dX4_stands_18 (lv_at hl 0 rfl) ?_
    refine z_ldc2 (n := 100000) hx hb hown w_1 (by decide) dX4_stands_20 ?_
    refine z_lcmp_ne (tgt := 29) hx hb dX4_stands_23 dX4_stands_24 (by decide) ⟨by omega, by omega⟩ ⟨by decide, by decide⟩ (fun c_7 => ?_) (fun c_7 => ?_)
    · refine lv_aload_n hx hb dX4_stands_29 rfl (lv_at hl 1 rfl) ?_
      refine lv_iload_n hx hb dX4_stands_30 rfl (lv_at hl 2 rfl) ?_
      refine lv_lload hx hb dX4_stands_31 (lv_at hl 0 rfl) ?_
      refine z_kL (z_runV (As := [zi (a), zl (zg (σ (pp)) true (bd))]) (rest := []) (k := 8) (fs := [zi (cd), zi (n), .ref (ad (9)), .ref (ad (10)), .ref (ad (11)), .ref (ad (12)), .ref (ad (13)), .ref (ad (14)), .ref (ad (15)), .ref (ad (16)), .ref (ad (17)), .ref (ad (18)), .ref (ad (19)), .ref (ad (20)), .ref (ad (21)), .ref (ad (22)), zi (bl), .ref (ad (23)), .ref (ad (24))]) ⟨hx, hb, hml, hown, hts⟩ hK hw (k_march l hl0 G I ad _ _ n hn6 σ hgs (cd) (bl) (Fmn) (Fsp) (Fms) (Fco) (Fst) (Fmo) (Fsk) (Fts) (Ftm) (Fjn) (P_1) (G_2) (A_3) hRel hM ⟨(zM3_n (by omega) h8), (zM3_n (by omega) h9), (zM3_n (by omega) h10), (zM3_n (by omega) h11), (zM3_n (by omega) h12), (zM3_n (by omega) h13), (zM3_n (by omega) h14), (zM3_n (by omega) h15), (zM3_n (by omega) h16), (zM3_n (by omega) h17), (zM3_n (by omega) h18)⟩ ⟨rfl, rfl, rfl⟩ (pp) (a) (by omega) hpp (zg (σ (pp)) true (bd)) (by omega) (by omega)) (cwV 2 hts gX4_stands_X4_march rfl rfl rfl (by decide +kernel) ⟨Nat.le_of_ble_eq_true rfl, Nat.le_of_ble_eq_true rfl⟩) (hM 8 (by decide) (by decide)) (zM3_n (by omega) h8) rfl rfl rfl hl.1 rfl (Nat.le_of_ble_eq_true rfl) dX4_stands_33 ⟨Nat.le_of_ble_eq_true rfl, Nat.le_of_ble_eq_true rfl⟩) hw (fun r_11 ct_12 H locs hP hw => ?_)
      obtain ⟨rfl, P_8, G_9, A_10, hP_8, hct⟩ := hP
      rw [hct] at hw
      clear hct
      refine lv_pop2_2 hx hb dX4_stands_36 rfl ?_
      refine z_ic hx hb dX4_stands_37 ?_
      exact z_zret hx hb hlk hr hw (Or.inr rfl) dX4_stands_38 (Nat.le_of_ble_eq_true rfl) (Nat.le_of_ble_eq_true rfl) ⟨rfl, _, rfl, (if_pos (by omega)).symm, P_8, G_9, A_10, fun _ => hP_8, zM3_zM3 _ _ _ _ _ _ _⟩
    · refine z_ic hx hb dX4_stands_27 ?_
      exact z_zret hx hb hlk hr hw (Or.inl rfl) dX4_stands_28 (Nat.le_of_ble_eq_true rfl) (Nat.le_of_ble_eq_true rfl) ⟨rfl, _, rfl, (if_neg (by omega)).symm, _, _, _, fun h9 => absurd h9 (by omega), rfl⟩

set_option maxHeartbeats 4000000 in
set_option maxRecDepth 100000 in
theorem k_hasState (l : Launch) (hl0 : l.stackTraces = false) (G : zG) (I : List Nat) (ad : Nat → Nat) (ct : Nat → va_E) (sz : Nat) (n : Nat) (hn6 : n ≤ 6) (σ : Nat → zPl) (hgs : ∀ p : Nat, p < n → zGood (σ p)) (cd bl : Int) (Fmn Fsp Fms Fco Fst Fmo Fsk Fts Ftm Fjn Fpl Fgr Fab : Int → Int) (hRel : zMrel n σ Fmn Fsp Fms Fco Fst Fmo Fsk Fts Ftm Fjn) (hM : ∀ j : Nat, 8 ≤ j → j ≤ 24 → j ∈ I) (hms : zMst G ad ct n cd bl Fmn Fsp Fms Fco Fst Fmo Fsk Fts Ftm Fjn) (hmc : zMsc G ct Fpl Fgr Fab) (pp : Nat) (a : Int) (hpa : a = pp) (hpp : pp < n) (bd : Int) (hbd : zR bd) : zN l yX4_hasState wsX4_hasState 4 112 0 0 G [.ref (ad (8)), zi (a), zl (bd)] I ad ct zno sz (zk I (zqi fun z u => z = zb (-100000 ≤ zg (σ pp) false bd) ∧ ∃ P Gr Ab : Int → Int, u = zM3 ct (zL G 12 P) (zL G 12 Gr) (zL G 12 Ab))) := by
  obtain ⟨h8, h9, h10, h11, h12, h13, h14, h15, h16, h17, h18⟩ := hms
  obtain ⟨h19, h20, h21⟩ := hmc
  have hg := hgs (pp) hpp
  have hg0 := hg
  obtain ⟨⟨g1, g2⟩, ⟨g3, g4⟩, ⟨g5, g6⟩, ⟨g7, g8⟩, ⟨g9, g10⟩, ⟨g11, g12⟩, g13, g14, g15, g16⟩ := hg0
  have gn : ((σ (pp)).1 : Int) = pn (σ (pp)) := rfl
  have hr0 := hRel (pp) hpp
  have hr0 := hRel pp hpp
  rw [← hpa] at hr0
  obtain ⟨r1, r2, r3, r4, r5, r6, r7, r8⟩ := hr0
  refine z_ofW (ret := (some .boolean)) hl0 (by decide +kernel) rfl (Nat.le_of_ble_eq_true rfl) ?_
  intro p e s m args below meth c A ls hA0 hsz hF hr hout hnm hw hl
  obtain ⟨hx, hb, hml, hown, hts, hK, hlk, hst⟩ := hF
  have hown : s.vm.findClass RX4 = some m.cls := hown
  have hl : lv_has ls 4 [(0, .ref (ad (8))), (1, zi (a)), (2, zl (bd))] := hl
  have w_0 := hts (.constantLong RX4 105 (-100000)) (by decide +kernel)
  refine lv_aload_n hx hb dX4_hasState_0 rfl (lv_at hl 0 rfl) ?_
  refine lv_iload_n hx hb dX4_hasState_1 rfl (lv_at hl 1 rfl) ?_
  refine lv_lload_n hx hb dX4_hasState_2 rfl (lv_at hl 2 rfl) ?_
  refine z_ic hx hb dX4_hasState_3 ?_
  refine z_kL (z_runV (As := [zi (a), zl (bd), zi (1)]) (rest := []) (k := 8) (fs := [zi (cd), zi (n), .ref (ad (9)), .ref (ad (10)), .ref (ad (11)), .ref (ad (12)), .ref (ad (13)), .ref (ad (14)), .ref (ad (15)), .ref (ad (16)), .ref (ad (17)), .ref (ad (18)), .ref (ad (19)), .ref (ad (20)), .ref (ad (21)), .ref (ad (22)), zi (bl), .ref (ad (23)), .ref (ad (24))]) ⟨hx, hb, hml, hown, hts⟩ hK hw (k_greatest l hl0 G I ad _ _ n hn6 σ hgs (cd) (bl) (Fmn) (Fsp) (Fms) (Fco) (Fst) (Fmo) (Fsk) (Fts) (Ftm) (Fjn) (Fpl) (Fgr) (Fab) hRel hM ⟨h8, h9, h10, h11, h12, h13, h14, h15, h16, h17, h18⟩ ⟨h19, h20, h21⟩ (pp) (a) (by omega) hpp (bd) hbd (false) (1) rfl) (cwV 3 hts gX4_hasState_X4_greatest rfl rfl rfl (by decide +kernel) ⟨Nat.le_of_ble_eq_true rfl, Nat.le_of_ble_eq_true rfl⟩) (hM 8 (by decide) (by decide)) h8 rfl rfl rfl hl.1 rfl (Nat.le_of_ble_eq_true rfl) dX4_hasState_4 ⟨Nat.le_of_ble_eq_true rfl, Nat.le_of_ble_eq_true rfl⟩) hw (fun r_4 ct_5 H locs hP hw => ?_)
  obtain ⟨rfl, P_1, G_2, A_3, hct⟩ := hP
  rw [hct] at hw
  clear hct
  have gb_4 := zg_bd (σ (pp)) false (bd)
  refine z_ldc2 (n := -100000) hx hb hown w_0 (by decide) dX4_hasState_7 ?_
  refine z_lcmp_lt (tgt := 18) hx hb dX4_hasState_10 dX4_hasState_11 (by decide) ⟨by omega, by omega⟩ ⟨by decide, by decide⟩ (fun c_6 => ?_) (fun c_6 => ?_)
  · refine z_ic hx hb dX4_hasState_18 ?_
    exact z_zret hx hb hlk hr hw (Or.inl rfl) dX4_hasState_19 (Nat.le_of_ble_eq_true rfl) (Nat.le_of_ble_eq_true rfl) ⟨rfl, _, rfl, ⟨by show _ = ite _ _ _; split <;> omega, _, _, _, rfl⟩⟩
  · refine z_ic hx hb dX4_hasState_14 ?_
    refine lv_goto (tgt := 19) hx hb dX4_hasState_15 (by decide) ?_
    exact z_zret hx hb hlk hr hw (Or.inr rfl) dX4_hasState_19 (Nat.le_of_ble_eq_true rfl) (Nat.le_of_ble_eq_true rfl) ⟨rfl, _, rfl, ⟨by show _ = ite _ _ _; split <;> omega, _, _, _, rfl⟩⟩

set_option maxHeartbeats 4000000 in
set_option maxRecDepth 100000 in
theorem k_loadAt (l : Launch) (hl0 : l.stackTraces = false) (G : zG) (I : List Nat) (ad : Nat → Nat) (ct : Nat → va_E) (sz : Nat) (n : Nat) (hn6 : n ≤ 6) (σ : Nat → zPl) (hgs : ∀ p : Nat, p < n → zGood (σ p)) (cd bl : Int) (Fmn Fsp Fms Fco Fst Fmo Fsk Fts Ftm Fjn Fpl Fgr Fab : Int → Int) (hRel : zMrel n σ Fmn Fsp Fms Fco Fst Fmo Fsk Fts Ftm Fjn) (hM : ∀ j : Nat, 8 ≤ j → j ≤ 24 → j ∈ I) (hms : zMst G ad ct n cd bl Fmn Fsp Fms Fco Fst Fmo Fsk Fts Ftm Fjn) (hmc : zMsc G ct Fpl Fgr Fab) (pp : Nat) (a : Int) (hpa : a = pp) (hpp : pp < n) (bd : Int) (hbd : zR bd) : zN l yX4_loadAt wsX4_loadAt 4 112 0 0 G [.ref (ad (8)), zi (a), zl (bd)] I ad ct zno sz (zk I (zql fun z u => z = zld (σ pp) (zg (σ pp) false bd) ∧ ∃ P Gr Ab : Int → Int, u = zM3 ct (zL G 12 P) (zL G 12 Gr) (zL G 12 Ab))) := by
  obtain ⟨h8, h9, h10, h11, h12, h13, h14, h15, h16, h17, h18⟩ := hms
  obtain ⟨h19, h20, h21⟩ := hmc
  have hg := hgs (pp) hpp
  have hg0 := hg
  obtain ⟨⟨g1, g2⟩, ⟨g3, g4⟩, ⟨g5, g6⟩, ⟨g7, g8⟩, ⟨g9, g10⟩, ⟨g11, g12⟩, g13, g14, g15, g16⟩ := hg0
  have gn : ((σ (pp)).1 : Int) = pn (σ (pp)) := rfl
  have hr0 := hRel (pp) hpp
  have hr0 := hRel pp hpp
  rw [← hpa] at hr0
  obtain ⟨r1, r2, r3, r4, r5, r6, r7, r8⟩ := hr0
  refine z_ofW (ret := (some .long)) hl0 (by decide +kernel) rfl (Nat.le_of_ble_eq_true rfl) ?_
  intro p e s m args below meth c A ls hA0 hsz hF hr hout hnm hw hl
  obtain ⟨hx, hb, hml, hown, hts, hK, hlk, hst⟩ := hF
  have hown : s.vm.findClass RX4 = some m.cls := hown
  have hl : lv_has ls 4 [(0, .ref (ad (8))), (1, zi (a)), (2, zl (bd))] := hl
  refine lv_aload_n hx hb dX4_loadAt_0 rfl (lv_at hl 0 rfl) ?_
  refine lv_iload_n hx hb dX4_loadAt_1 rfl (lv_at hl 1 rfl) ?_
  refine lv_aload_n hx hb dX4_loadAt_2 rfl (lv_at hl 0 rfl) ?_
  refine lv_iload_n hx hb dX4_loadAt_3 rfl (lv_at hl 1 rfl) ?_
  refine lv_lload_n hx hb dX4_loadAt_4 rfl (lv_at hl 2 rfl) ?_
  refine z_ic hx hb dX4_loadAt_5 ?_
  refine z_kL (z_runV (As := [zi (a), zl (bd), zi (1)]) (rest := [zi (a), .ref (ad (8))]) (k := 8) (fs := [zi (cd), zi (n), .ref (ad (9)), .ref (ad (10)), .ref (ad (11)), .ref (ad (12)), .ref (ad (13)), .ref (ad (14)), .ref (ad (15)), .ref (ad (16)), .ref (ad (17)), .ref (ad (18)), .ref (ad (19)), .ref (ad (20)), .ref (ad (21)), .ref (ad (22)), zi (bl), .ref (ad (23)), .ref (ad (24))]) ⟨hx, hb, hml, hown, hts⟩ hK hw (k_greatest l hl0 G I ad _ _ n hn6 σ hgs (cd) (bl) (Fmn) (Fsp) (Fms) (Fco) (Fst) (Fmo) (Fsk) (Fts) (Ftm) (Fjn) (Fpl) (Fgr) (Fab) hRel hM ⟨h8, h9, h10, h11, h12, h13, h14, h15, h16, h17, h18⟩ ⟨h19, h20, h21⟩ (pp) (a) (by omega) hpp (bd) hbd (false) (1) rfl) (cwV 3 hts gX4_loadAt_X4_greatest rfl rfl rfl (by decide +kernel) ⟨Nat.le_of_ble_eq_true rfl, Nat.le_of_ble_eq_true rfl⟩) (hM 8 (by decide) (by decide)) h8 rfl rfl rfl hl.1 rfl (Nat.le_of_ble_eq_true rfl) dX4_loadAt_6 ⟨Nat.le_of_ble_eq_true rfl, Nat.le_of_ble_eq_true rfl⟩) hw (fun r_4 ct_5 H locs hP hw => ?_)
  obtain ⟨rfl, P_1, G_2, A_3, hct⟩ := hP
  rw [hct] at hw
  clear hct
  have gb_6 := zg_bd (σ (pp)) false (bd)
  refine z_kL (z_runV (As := [zi (a), zl (zg (σ (pp)) false (bd))]) (rest := []) (k := 8) (fs := [zi (cd), zi (n), .ref (ad (9)), .ref (ad (10)), .ref (ad (11)), .ref (ad (12)), .ref (ad (13)), .ref (ad (14)), .ref (ad (15)), .ref (ad (16)), .ref (ad (17)), .ref (ad (18)), .ref (ad (19)), .ref (ad (20)), .ref (ad (21)), .ref (ad (22)), zi (bl), .ref (ad (23)), .ref (ad (24))]) ⟨hx, hb, hml, hown, hts⟩ hK hw (k_march l hl0 G I ad _ _ n hn6 σ hgs (cd) (bl) (Fmn) (Fsp) (Fms) (Fco) (Fst) (Fmo) (Fsk) (Fts) (Ftm) (Fjn) (P_1) (G_2) (A_3) hRel hM ⟨(zM3_n (by omega) h8), (zM3_n (by omega) h9), (zM3_n (by omega) h10), (zM3_n (by omega) h11), (zM3_n (by omega) h12), (zM3_n (by omega) h13), (zM3_n (by omega) h14), (zM3_n (by omega) h15), (zM3_n (by omega) h16), (zM3_n (by omega) h17), (zM3_n (by omega) h18)⟩ ⟨rfl, rfl, rfl⟩ (pp) (a) (by omega) hpp (zg (σ (pp)) false (bd)) (by omega) (by omega)) (cwV 2 hts gX4_loadAt_X4_march rfl rfl rfl (by decide +kernel) ⟨Nat.le_of_ble_eq_true rfl, Nat.le_of_ble_eq_true rfl⟩) (hM 8 (by decide) (by decide)) (zM3_n (by omega) h8) rfl rfl rfl hl.1 rfl (Nat.le_of_ble_eq_true rfl) dX4_loadAt_9 ⟨Nat.le_of_ble_eq_true rfl, Nat.le_of_ble_eq_true rfl⟩) hw (fun r_9 ct_10 H locs hP hw => ?_)
  obtain ⟨rfl, P_6, G_7, A_8, hP_6, hct⟩ := hP
  rw [hct] at hw
  clear hct
  exact z_lret hx hb hlk hr hw dX4_loadAt_12 (Nat.le_of_ble_eq_true rfl) (Nat.le_of_ble_eq_true rfl) ⟨rfl, _, rfl, ⟨rfl, _, _, _, zM3_zM3 _ _ _ _ _ _ _⟩⟩

set_option maxHeartbeats 4000000 in
set_option maxRecDepth 100000 in
theorem m_under (l : Launch) (hl0 : l.stackTraces = false) (G : zG) (I : List Nat) (ad : Nat → Nat) (ct : Nat → va_E) (sz : Nat) (n : Nat) (hn6 : n ≤ 6) (σ : Nat → zPl) (hgs : ∀ p : Nat, p < n → zGood (σ p)) (cd bl : Int) (Fmn Fsp Fms Fco Fst Fmo Fsk Fts Ftm Fjn Fpl Fgr Fab : Int → Int) (hRel : zMrel n σ Fmn Fsp Fms Fco Fst Fmo Fsk Fts Ftm Fjn) (hM : ∀ j : Nat, 8 ≤ j → j ≤ 24 → j ∈ I) (hms : zMst G ad ct n cd bl Fmn Fsp Fms Fco Fst Fmo Fsk Fts Ftm Fjn) (hmc : zMsc G ct Fpl Fgr Fab) (a1 a2 : Int) (hz1 : zr a1) (hz2 : zr a2) : zN l yX4_under wsX4_under 5 137 0 0 G [.ref (ad (8)), zi (a1), zi (a2)] I ad ct zno sz (zk I (zqi fun z u => ∃ (cd9 : Int) (P Gr Ab : Int → Int), ((((0 ≤ a1 ∧ a1 < n) ∧ (0 ≤ a2 ∧ a2 ≤ 10000000)) ∧ cd9 = 0 ∧ z = zun (σ (a1).toNat) a2) ∨ (¬ ((0 ≤ a1 ∧ a1 < n) ∧ (0 ≤ a2 ∧ a2 ≤ 10000000)) ∧ cd9 = 1)) ∧ u = zM3 (zU ct 8 (zmo ad n (cd9) bl)) (zL G 12 P) (zL G 12 Gr) (zL G 12 Ab))) := by
  obtain ⟨h8, h9, h10, h11, h12, h13, h14, h15, h16, h17, h18⟩ := hms
  obtain ⟨h19, h20, h21⟩ := hmc
  refine z_ofW (ret := (some .int)) hl0 (by decide +kernel) rfl (Nat.le_of_ble_eq_true rfl) ?_
  intro p e s m args below meth c A ls hA0 hsz hF hr hout hnm hw hl
  obtain ⟨hx, hb, hml, hown, hts, hK, hlk, hst⟩ := hF
  have hown : s.vm.findClass RX4 = some m.cls := hown
  have hl : lv_has ls 3 [(0, .ref (ad (8))), (1, zi (a1)), (2, zi (a2))] := hl
  have w_0 := hts (.fieldLink RX4 65 "PileMovesModel" "code" "I") (by decide +kernel)
  have w_1 : ∀ w ∈ wsX40, w ∈ wsX4_under := by decide +kernel
  have w_2 := hts (.constantLong RX4 121 (10000000)) (by decide +kernel)
  have w_3 := hts (.constant RX4 54 (-1000000)) (by decide +kernel)
  have w_4 := hts (.fieldLink RX4 42 "PileMovesModel" "places" "[J") (by decide +kernel)
  refine lv_aload_n hx hb dX4_under_0 rfl (lv_at hl 0 rfl) ?_
  refine lv_aload_n hx hb dX4_under_1 rfl (lv_at hl 0 rfl) ?_
  refine lv_iload_n hx hb dX4_under_2 rfl (lv_at hl 1 rfl) ?_
  refine z_kI (z_runV (As := [zi (a1)]) (rest := [.ref (ad (8))]) (k := 8) (fs := [zi (cd), zi (n), .ref (ad (9)), .ref (ad (10)), .ref (ad (11)), .ref (ad (12)), .ref (ad (13)), .ref (ad (14)), .ref (ad (15)), .ref (ad (16)), .ref (ad (17)), .ref (ad (18)), .ref (ad (19)), .ref (ad (20)), .ref (ad (21)), .ref (ad (22)), zi (bl), .ref (ad (23)), .ref (ad (24))]) ⟨hx, hb, hml, hown, hts⟩ hK hw (k_isPile l hl0 G I ad _ _ n hn6 σ hgs (cd) (bl) (Fmn) (Fsp) (Fms) (Fco) (Fst) (Fmo) (Fsk) (Fts) (Ftm) (Fjn) (Fpl) (Fgr) (Fab) hRel hM ⟨h8, h9, h10, h11, h12, h13, h14, h15, h16, h17, h18⟩ ⟨h19, h20, h21⟩ (a1) ⟨by omega, by omega⟩) (cwV 1 hts gX4_under_X4_isPile rfl rfl rfl (by decide +kernel) ⟨Nat.le_of_ble_eq_true rfl, Nat.le_of_ble_eq_true rfl⟩) (hM 8 (by decide) (by decide)) h8 rfl rfl rfl hl.1 rfl (Nat.le_of_ble_eq_true rfl) dX4_under_3 ⟨Nat.le_of_ble_eq_true rfl, Nat.le_of_ble_eq_true rfl⟩) hw (fun r_1 ct_2 H locs hP hw => ?_)
  obtain ⟨rfl, hct⟩ := hP
  rw [hct] at hw
  clear hct
  refine z_ifb_eq (tgt := 25) hx hb dX4_under_6 (by decide) (fun c_3 => ?_) (fun c_3 => ?_)
  · refine z_ic hx hb dX4_under_25 ?_
    refine z_put (C := RX4) (T := TX4) (N := 19) (fs := [zi (cd), zi (n), .ref (ad (9)), .ref (ad (10)), .ref (ad (11)), .ref (ad (12)), .ref (ad (13)), .ref (ad (14)), .ref (ad (15)), .ref (ad (16)), .ref (ad (17)), .ref (ad (18)), .ref (ad (19)), .ref (ad (20)), .ref (ad (21)), .ref (ad (22)), zi (bl), .ref (ad (23)), .ref (ad (24))]) (fs' := [zi (1), zi (n), .ref (ad (9)), .ref (ad (10)), .ref (ad (11)), .ref (ad (12)), .ref (ad (13)), .ref (ad (14)), .ref (ad (15)), .ref (ad (16)), .ref (ad (17)), .ref (ad (18)), .ref (ad (19)), .ref (ad (20)), .ref (ad (21)), .ref (ad (22)), zi (bl), .ref (ad (23)), .ref (ad (24))]) hx hb hts w_1 tyX4_ok nmX4 hown hK hw (hM 8 (by decide) (by decide)) h8 rfl 0 (by decide) w_0 rfl rfl rfl rfl (Nat.le_of_ble_eq_true rfl) rfl dX4_under_26 (fun H locs hw => ?_)
    refine lv_aload_n hx hb dX4_under_29 rfl (lv_at hl 0 rfl) ?_
    refine z_get (C := RX4) (T := TX4) (N := 19) (fs := [zi (1), zi (n), .ref (ad (9)), .ref (ad (10)), .ref (ad (11)), .ref (ad (12)), .ref (ad (13)), .ref (ad (14)), .ref (ad (15)), .ref (ad (16)), .ref (ad (17)), .ref (ad (18)), .ref (ad (19)), .ref (ad (20)), .ref (ad (21)), .ref (ad (22)), zi (bl), .ref (ad (23)), .ref (ad (24))]) hx hb hts w_1 hown hK hw (hM 8 (by decide) (by decide)) (zU_s _ _ _) rfl 0 (by decide) w_0 rfl rfl dX4_under_30 ?_
    refine z_if_le (tgt := 40) hx hb dX4_under_33 (by decide) ⟨by decide, by decide⟩ (fun c_4 => ?_) (fun c_4 => ?_)
    · exact absurd c_4 (by decide)
    · refine z_ic hx hb dX4_under_36 ?_
      refine lv_goto (tgt := 62) hx hb dX4_under_37 (by decide) ?_
      exact z_iret hx hb hlk hr hw dX4_under_62 (Nat.le_of_ble_eq_true rfl) (Nat.le_of_ble_eq_true rfl) ⟨rfl, _, rfl, ⟨1, _, _, _, Or.inr ⟨by omega, rfl⟩, (zM3_id (zU_n (by decide) h19) (zU_n (by decide) h20) (zU_n (by decide) h21)).symm⟩⟩
  · refine lv_iload_n hx hb dX4_under_9 rfl (lv_at hl 2 rfl) ?_
    refine z_i2l hx hb dX4_under_10 ⟨by omega, by omega⟩ ?_
    refine z_lc0 hx hb dX4_under_11 ?_
    refine z_ldc2 (n := 10000000) hx hb hown w_2 (by decide) dX4_under_12 ?_
    refine z_kI (z_runS (As := [zl (a2), zl (0), zl (10000000)]) (rest := [.ref (ad (8))]) ⟨hx, hb, hml, hown, hts⟩ hK hw (k_in l hl0 G I ad _ _ (a2) (0) (10000000) ⟨by omega, by omega⟩ ⟨by decide, by decide⟩ ⟨by decide, by decide⟩) (va_cwS 3 hts gX4_under_X4_in rfl rfl rfl (by decide +kernel) ⟨Nat.le_of_ble_eq_true rfl, Nat.le_of_ble_eq_true rfl⟩) rfl hl.1 rfl (Nat.le_of_ble_eq_true rfl) dX4_under_15 ⟨Nat.le_of_ble_eq_true rfl, Nat.le_of_ble_eq_true rfl⟩) hw (fun r_5 ct_6 H locs hP hw => ?_)
    obtain ⟨rfl, hct⟩ := hP
    rw [hct] at hw
    clear hct
    refine z_ifb_eq (tgt := 25) hx hb dX4_under_18 (by decide) (fun c_7 => ?_) (fun c_7 => ?_)
    · refine z_ic hx hb dX4_under_25 ?_
      refine z_put (C := RX4) (T := TX4) (N := 19) (fs := [zi (cd), zi (n), .ref (ad (9)), .ref (ad (10)), .ref (ad (11)), .ref (ad (12)), .ref (ad (13)), .ref (ad (14)), .ref (ad (15)), .ref (ad (16)), .ref (ad (17)), .ref (ad (18)), .ref (ad (19)), .ref (ad (20)), .ref (ad (21)), .ref (ad (22)), zi (bl), .ref (ad (23)), .ref (ad (24))]) (fs' := [zi (1), zi (n), .ref (ad (9)), .ref (ad (10)), .ref (ad (11)), .ref (ad (12)), .ref (ad (13)), .ref (ad (14)), .ref (ad (15)), .ref (ad (16)), .ref (ad (17)), .ref (ad (18)), .ref (ad (19)), .ref (ad (20)), .ref (ad (21)), .ref (ad (22)), zi (bl), .ref (ad (23)), .ref (ad (24))]) hx hb hts w_1 tyX4_ok nmX4 hown hK hw (hM 8 (by decide) (by decide)) h8 rfl 0 (by decide) w_0 rfl rfl rfl rfl (Nat.le_of_ble_eq_true rfl) rfl dX4_under_26 (fun H locs hw => ?_)
      refine lv_aload_n hx hb dX4_under_29 rfl (lv_at hl 0 rfl) ?_
      refine z_get (C := RX4) (T := TX4) (N := 19) (fs := [zi (1), zi (n), .ref (ad (9)), .ref (ad (10)), .ref (ad (11)), .ref (ad (12)), .ref (ad (13)), .ref (ad (14)), .ref (ad (15)), .ref (ad (16)), .ref (ad (17)), .ref (ad (18)), .ref (ad (19)), .ref (ad (20)), .ref (ad (21)), .ref (ad (22)), zi (bl), .ref (ad (23)), .ref (ad (24))]) hx hb hts w_1 hown hK hw (hM 8 (by decide) (by decide)) (zU_s _ _ _) rfl 0 (by decide) w_0 rfl rfl dX4_under_30 ?_
      refine z_if_le (tgt := 40) hx hb dX4_under_33 (by decide) ⟨by decide, by decide⟩ (fun c_8 => ?_) (fun c_8 => ?_)
      · exact absurd c_8 (by decide)
      · refine z_ic hx hb dX4_under_36 ?_
        refine lv_goto (tgt := 62) hx hb dX4_under_37 (by decide) ?_
        exact z_iret hx hb hlk hr hw dX4_under_62 (Nat.le_of_ble_eq_true rfl) (Nat.le_of_ble_eq_true rfl) ⟨rfl, _, rfl, ⟨1, _, _, _, Or.inr ⟨by omega, rfl⟩, (zM3_id (zU_n (by decide) h19) (zU_n (by decide) h20) (zU_n (by decide) h21)).symm⟩⟩
    · refine z_ic hx hb dX4_under_21 ?_
      refine lv_goto (tgt := 26) hx hb dX4_under_22 (by decide) ?_
      refine z_put (C := RX4) (T := TX4) (N := 19) (fs := [zi (cd), zi (n), .ref (ad (9)), .ref (ad (10)), .ref (ad (11)), .ref (ad (12)), .ref (ad (13)), .ref (ad (14)), .ref (ad (15)), .ref (ad (16)), .ref (ad (17)), .ref (ad (18)), .ref (ad (19)), .ref (ad (20)), .ref (ad (21)), .ref (ad (22)), zi (bl), .ref (ad (23)), .ref (ad (24))]) (fs' := [zi (0), zi (n), .ref (ad (9)), .ref (ad (10)), .ref (ad (11)), .ref (ad (12)), .ref (ad (13)), .ref (ad (14)), .ref (ad (15)), .ref (ad (16)), .ref (ad (17)), .ref (ad (18)), .ref (ad (19)), .ref (ad (20)), .ref (ad (21)), .ref (ad (22)), zi (bl), .ref (ad (23)), .ref (ad (24))]) hx hb hts w_1 tyX4_ok nmX4 hown hK hw (hM 8 (by decide) (by decide)) h8 rfl 0 (by decide) w_0 rfl rfl rfl rfl (Nat.le_of_ble_eq_true rfl) rfl dX4_under_26 (fun H locs hw => ?_)
      refine lv_aload_n hx hb dX4_under_29 rfl (lv_at hl 0 rfl) ?_
      refine z_get (C := RX4) (T := TX4) (N := 19) (fs := [zi (0), zi (n), .ref (ad (9)), .ref (ad (10)), .ref (ad (11)), .ref (ad (12)), .ref (ad (13)), .ref (ad (14)), .ref (ad (15)), .ref (ad (16)), .ref (ad (17)), .ref (ad (18)), .ref (ad (19)), .ref (ad (20)), .ref (ad (21)), .ref (ad (22)), zi (bl), .ref (ad (23)), .ref (ad (24))]) hx hb hts w_1 hown hK hw (hM 8 (by decide) (by decide)) (zU_s _ _ _) rfl 0 (by decide) w_0 rfl rfl dX4_under_30 ?_
      refine z_if_le (tgt := 40) hx hb dX4_under_33 (by decide) ⟨by decide, by decide⟩ (fun c_9 => ?_) (fun c_9 => ?_)
      · have hg := hgs ((a1).toNat) (by omega)
        have hg0 := hg
        obtain ⟨⟨g1, g2⟩, ⟨g3, g4⟩, ⟨g5, g6⟩, ⟨g7, g8⟩, ⟨g9, g10⟩, ⟨g11, g12⟩, g13, g14, g15, g16⟩ := hg0
        have gn : ((σ ((a1).toNat)).1 : Int) = pn (σ ((a1).toNat)) := rfl
        have hr0 := hRel ((a1).toNat) (by omega)
        rw [show ((((a1).toNat) : Nat) : Int) = a1 by omega] at hr0
        obtain ⟨r1, r2, r3, r4, r5, r6, r7, r8⟩ := hr0
        refine lv_aload_n hx hb dX4_under_40 rfl (lv_at hl 0 rfl) ?_
        refine lv_iload_n hx hb dX4_under_41 rfl (lv_at hl 1 rfl) ?_
        refine lv_iload_n hx hb dX4_under_42 rfl (lv_at hl 2 rfl) ?_
        refine z_i2l hx hb dX4_under_43 ⟨by omega, by omega⟩ ?_
        refine z_kI (z_runV (As := [zi (a1), zl (a2)]) (rest := []) (k := 8) (fs := [zi (0), zi (n), .ref (ad (9)), .ref (ad (10)), .ref (ad (11)), .ref (ad (12)), .ref (ad (13)), .ref (ad (14)), .ref (ad (15)), .ref (ad (16)), .ref (ad (17)), .ref (ad (18)), .ref (ad (19)), .ref (ad (20)), .ref (ad (21)), .ref (ad (22)), zi (bl), .ref (ad (23)), .ref (ad (24))]) ⟨hx, hb, hml, hown, hts⟩ hK hw (k_stands l hl0 G I ad _ _ n hn6 σ hgs (0) (bl) (Fmn) (Fsp) (Fms) (Fco) (Fst) (Fmo) (Fsk) (Fts) (Ftm) (Fjn) (Fpl) (Fgr) (Fab) hRel hM ⟨(zU_s _ _ _), (zU_n (by decide) h9), (zU_n (by decide) h10), (zU_n (by decide) h11), (zU_n (by decide) h12), (zU_n (by decide) h13), (zU_n (by decide) h14), (zU_n (by decide) h15), (zU_n (by decide) h16), (zU_n (by decide) h17), (zU_n (by decide) h18)⟩ ⟨(zU_n (by decide) h19), (zU_n (by decide) h20), (zU_n (by decide) h21)⟩ ((a1).toNat) (a1) (by omega) (by omega) (a2) ⟨by omega, by omega⟩) (cwV 2 hts gX4_under_X4_stands rfl rfl rfl (by decide +kernel) ⟨Nat.le_of_ble_eq_true rfl, Nat.le_of_ble_eq_true rfl⟩) (hM 8 (by decide) (by decide)) (zU_s _ _ _) rfl rfl rfl hl.1 rfl (Nat.le_of_ble_eq_true rfl) dX4_under_44 ⟨Nat.le_of_ble_eq_true rfl, Nat.le_of_ble_eq_true rfl⟩) hw (fun r_13 ct_14 H locs hP hw => ?_)
        obtain ⟨rfl, P_10, G_11, A_12, hP_10, hct⟩ := hP
        rw [hct] at hw
        clear hct
        have gb_44 := zg_bd (σ ((a1).toNat)) true (a2)
        refine z_ifb_eq (tgt := 60) hx hb dX4_under_47 (by decide) (fun c_15 => ?_) (fun c_15 => ?_)
        · refine z_ldc (n := -1000000) hx hb hown w_3 (by decide) dX4_under_60 ?_
          exact z_iret hx hb hlk hr hw dX4_under_62 (Nat.le_of_ble_eq_true rfl) (Nat.le_of_ble_eq_true rfl) ⟨rfl, _, rfl, ⟨0, _, _, _, Or.inl ⟨⟨⟨by omega, by omega⟩, by omega, by omega⟩, rfl, (if_neg (by assumption)).symm⟩, by first | exact rfl | exact zM3_zM3 _ _ _ _ _ _ _⟩⟩
        · refine lv_aload_n hx hb dX4_under_50 rfl (lv_at hl 0 rfl) ?_
          refine z_get (C := RX4) (T := TX4) (N := 19) (fs := [zi (0), zi (n), .ref (ad (9)), .ref (ad (10)), .ref (ad (11)), .ref (ad (12)), .ref (ad (13)), .ref (ad (14)), .ref (ad (15)), .ref (ad (16)), .ref (ad (17)), .ref (ad (18)), .ref (ad (19)), .ref (ad (20)), .ref (ad (21)), .ref (ad (22)), zi (bl), .ref (ad (23)), .ref (ad (24))]) hx hb hts w_1 hown hK hw (hM 8 (by decide) (by decide)) (zM3_n (by omega) (zU_s _ _ _)) rfl 12 (by decide) w_4 rfl rfl dX4_under_51 ?_
          refine z_ic hx hb dX4_under_54 ?_
          refine z_lald (f := P_10) hx hb hK hw (hM 19 (by decide) (by decide)) rfl (by decide) (by decide) (by decide) dX4_under_55 ?_
          rw [show (P_10 (0) : Int) = zhp (σ (a1).toNat) (zg (σ (a1).toNat) true a2) from zMar_h hg (hP_10 c_15) (by decide)]
          have bH := zhp_bd hg (w := zg (σ (a1).toNat) true a2) (by omega) (by omega)
          refine z_l2i hx hb dX4_under_56 ⟨by omega, by omega⟩ ?_
          refine lv_goto (tgt := 62) hx hb dX4_under_57 (by decide) ?_
          exact z_iret hx hb hlk hr hw dX4_under_62 (Nat.le_of_ble_eq_true rfl) (Nat.le_of_ble_eq_true rfl) ⟨rfl, _, rfl, ⟨0, _, _, _, Or.inl ⟨⟨⟨by omega, by omega⟩, by omega, by omega⟩, rfl, (if_pos (by assumption)).symm⟩, by first | exact rfl | exact zM3_zM3 _ _ _ _ _ _ _⟩⟩
      · exact absurd c_9 (by decide)

set_option maxHeartbeats 4000000 in
set_option maxRecDepth 100000 in
theorem m_piece (l : Launch) (hl0 : l.stackTraces = false) (G : zG) (I : List Nat) (ad : Nat → Nat) (ct : Nat → va_E) (sz : Nat) (n : Nat) (hn6 : n ≤ 6) (σ : Nat → zPl) (hgs : ∀ p : Nat, p < n → zGood (σ p)) (cd bl : Int) (Fmn Fsp Fms Fco Fst Fmo Fsk Fts Ftm Fjn Fpl Fgr Fab : Int → Int) (hRel : zMrel n σ Fmn Fsp Fms Fco Fst Fmo Fsk Fts Ftm Fjn) (hM : ∀ j : Nat, 8 ≤ j → j ≤ 24 → j ∈ I) (hms : zMst G ad ct n cd bl Fmn Fsp Fms Fco Fst Fmo Fsk Fts Ftm Fjn) (hmc : zMsc G ct Fpl Fgr Fab) (a1 a2 a3 a4 : Int) (hz1 : zr a1) (hz2 : zr a2) (hz3 : zr a3) (hz4 : zr a4) : zN l yX4_piece wsX4_piece 5 137 0 0 G [.ref (ad (8)), zi (a1), zi (a2), zi (a3), zi (a4)] I ad ct zno sz (zk I (zqi fun z u => ∃ (cd9 : Int) (P Gr Ab : Int → Int), (((((0 ≤ a1 ∧ a1 < n) ∧ (0 ≤ a3 ∧ a3 < pn (σ (a1).toNat))) ∧ (0 ≤ a2 ∧ a2 ≤ 10000000) ∧ (0 ≤ a4 ∧ a4 ≤ 2)) ∧ cd9 = 0 ∧ z = zpc (σ (a1).toNat) a2 a3 a4) ∨ (¬ (((0 ≤ a1 ∧ a1 < n) ∧ (0 ≤ a3 ∧ a3 < pn (σ (a1).toNat))) ∧ (0 ≤ a2 ∧ a2 ≤ 10000000) ∧ (0 ≤ a4 ∧ a4 ≤ 2)) ∧ cd9 = 1)) ∧ u = zM3 (zU ct 8 (zmo ad n (cd9) bl)) (zL G 12 P) (zL G 12 Gr) (zL G 12 Ab))) := by
  obtain ⟨h8, h9, h10, h11, h12, h13, h14, h15, h16, h17, h18⟩ := hms
  obtain ⟨h19, h20, h21⟩ := hmc
  refine z_ofW (ret := (some .int)) hl0 (by decide +kernel) rfl (Nat.le_of_ble_eq_true rfl) ?_
  intro p e s m args below meth c A ls hA0 hsz hF hr hout hnm hw hl
  obtain ⟨hx, hb, hml, hown, hts, hK, hlk, hst⟩ := hF
  have hown : s.vm.findClass RX4 = some m.cls := hown
  have hl : lv_has ls 5 [(0, .ref (ad (8))), (1, zi (a1)), (2, zi (a2)), (3, zi (a3)), (4, zi (a4))] := hl
  have w_0 := hts (.fieldLink RX4 65 "PileMovesModel" "code" "I") (by decide +kernel)
  have w_1 : ∀ w ∈ wsX40, w ∈ wsX4_piece := by decide +kernel
  have w_2 := hts (.constantLong RX4 121 (10000000)) (by decide +kernel)
  have w_3 := hts (.constantLong RX4 115 (2)) (by decide +kernel)
  have w_4 := hts (.fieldLink RX4 48 "PileMovesModel" "above" "[J") (by decide +kernel)
  have w_5 := hts (.fieldLink RX4 45 "PileMovesModel" "grounds" "[J") (by decide +kernel)
  have w_6 := hts (.fieldLink RX4 42 "PileMovesModel" "places" "[J") (by decide +kernel)
  have w_7 := hts (.constant RX4 54 (-1000000)) (by decide +kernel)
  refine lv_aload_n hx hb dX4_piece_0 rfl (lv_at hl 0 rfl) ?_
  refine lv_aload_n hx hb dX4_piece_1 rfl (lv_at hl 0 rfl) ?_
  refine lv_iload_n hx hb dX4_piece_2 rfl (lv_at hl 1 rfl) ?_
  refine lv_iload_n hx hb dX4_piece_3 rfl (lv_at hl 3 rfl) ?_
  refine z_kI (z_runV (As := [zi (a1), zi (a3)]) (rest := [.ref (ad (8))]) (k := 8) (fs := [zi (cd), zi (n), .ref (ad (9)), .ref (ad (10)), .ref (ad (11)), .ref (ad (12)), .ref (ad (13)), .ref (ad (14)), .ref (ad (15)), .ref (ad (16)), .ref (ad (17)), .ref (ad (18)), .ref (ad (19)), .ref (ad (20)), .ref (ad (21)), .ref (ad (22)), zi (bl), .ref (ad (23)), .ref (ad (24))]) ⟨hx, hb, hml, hown, hts⟩ hK hw (k_isPiece l hl0 G I ad _ _ n hn6 σ hgs (cd) (bl) (Fmn) (Fsp) (Fms) (Fco) (Fst) (Fmo) (Fsk) (Fts) (Ftm) (Fjn) (Fpl) (Fgr) (Fab) hRel hM ⟨h8, h9, h10, h11, h12, h13, h14, h15, h16, h17, h18⟩ ⟨h19, h20, h21⟩ (a1) (a3) ⟨by omega, by omega⟩ ⟨by omega, by omega⟩) (cwV 2 hts gX4_piece_X4_isPiece rfl rfl rfl (by decide +kernel) ⟨Nat.le_of_ble_eq_true rfl, Nat.le_of_ble_eq_true rfl⟩) (hM 8 (by decide) (by decide)) h8 rfl rfl rfl hl.1 rfl (Nat.le_of_ble_eq_true rfl) dX4_piece_4 ⟨Nat.le_of_ble_eq_true rfl, Nat.le_of_ble_eq_true rfl⟩) hw (fun r_1 ct_2 H locs hP hw => ?_)
  obtain ⟨rfl, hct⟩ := hP
  rw [hct] at hw
  clear hct
  refine z_ifb_eq (tgt := 39) hx hb dX4_piece_7 (by decide) (fun c_3 => ?_) (fun c_3 => ?_)
  · refine z_ic hx hb dX4_piece_39 ?_
    refine z_put (C := RX4) (T := TX4) (N := 19) (fs := [zi (cd), zi (n), .ref (ad (9)), .ref (ad (10)), .ref (ad (11)), .ref (ad (12)), .ref (ad (13)), .ref (ad (14)), .ref (ad (15)), .ref (ad (16)), .ref (ad (17)), .ref (ad (18)), .ref (ad (19)), .ref (ad (20)), .ref (ad (21)), .ref (ad (22)), zi (bl), .ref (ad (23)), .ref (ad (24))]) (fs' := [zi (1), zi (n), .ref (ad (9)), .ref (ad (10)), .ref (ad (11)), .ref (ad (12)), .ref (ad (13)), .ref (ad (14)), .ref (ad (15)), .ref (ad (16)), .ref (ad (17)), .ref (ad (18)), .ref (ad (19)), .ref (ad (20)), .ref (ad (21)), .ref (ad (22)), zi (bl), .ref (ad (23)), .ref (ad (24))]) hx hb hts w_1 tyX4_ok nmX4 hown hK hw (hM 8 (by decide) (by decide)) h8 rfl 0 (by decide) w_0 rfl rfl rfl rfl (Nat.le_of_ble_eq_true rfl) rfl dX4_piece_40 (fun H locs hw => ?_)
    refine lv_aload_n hx hb dX4_piece_43 rfl (lv_at hl 0 rfl) ?_
    refine z_get (C := RX4) (T := TX4) (N := 19) (fs := [zi (1), zi (n), .ref (ad (9)), .ref (ad (10)), .ref (ad (11)), .ref (ad (12)), .ref (ad (13)), .ref (ad (14)), .ref (ad (15)), .ref (ad (16)), .ref (ad (17)), .ref (ad (18)), .ref (ad (19)), .ref (ad (20)), .ref (ad (21)), .ref (ad (22)), zi (bl), .ref (ad (23)), .ref (ad (24))]) hx hb hts w_1 hown hK hw (hM 8 (by decide) (by decide)) (zU_s _ _ _) rfl 0 (by decide) w_0 rfl rfl dX4_piece_44 ?_
    refine z_if_le (tgt := 52) hx hb dX4_piece_47 (by decide) ⟨by decide, by decide⟩ (fun c_4 => ?_) (fun c_4 => ?_)
    · exact absurd c_4 (by decide)
    · refine z_ic hx hb dX4_piece_50 ?_
      exact z_iret hx hb hlk hr hw dX4_piece_51 (Nat.le_of_ble_eq_true rfl) (Nat.le_of_ble_eq_true rfl) ⟨rfl, _, rfl, ⟨1, _, _, _, Or.inr ⟨by omega, rfl⟩, (zM3_id (zU_n (by decide) h19) (zU_n (by decide) h20) (zU_n (by decide) h21)).symm⟩⟩
  · refine lv_iload_n hx hb dX4_piece_10 rfl (lv_at hl 2 rfl) ?_
    refine z_i2l hx hb dX4_piece_11 ⟨by omega, by omega⟩ ?_
    refine z_lc0 hx hb dX4_piece_12 ?_
    refine z_ldc2 (n := 10000000) hx hb hown w_2 (by decide) dX4_piece_13 ?_
    refine z_kI (z_runS (As := [zl (a2), zl (0), zl (10000000)]) (rest := [.ref (ad (8))]) ⟨hx, hb, hml, hown, hts⟩ hK hw (k_in l hl0 G I ad _ _ (a2) (0) (10000000) ⟨by omega, by omega⟩ ⟨by decide, by decide⟩ ⟨by decide, by decide⟩) (va_cwS 3 hts gX4_piece_X4_in rfl rfl rfl (by decide +kernel) ⟨Nat.le_of_ble_eq_true rfl, Nat.le_of_ble_eq_true rfl⟩) rfl hl.1 rfl (Nat.le_of_ble_eq_true rfl) dX4_piece_16 ⟨Nat.le_of_ble_eq_true rfl, Nat.le_of_ble_eq_true rfl⟩) hw (fun r_5 ct_6 H locs hP hw => ?_)
    obtain ⟨rfl, hct⟩ := hP
    rw [hct] at hw
    clear hct
    refine z_ifb_eq (tgt := 39) hx hb dX4_piece_19 (by decide) (fun c_7 => ?_) (fun c_7 => ?_)
    · refine z_ic hx hb dX4_piece_39 ?_
      refine z_put (C := RX4) (T := TX4) (N := 19) (fs := [zi (cd), zi (n), .ref (ad (9)), .ref (ad (10)), .ref (ad (11)), .ref (ad (12)), .ref (ad (13)), .ref (ad (14)), .ref (ad (15)), .ref (ad (16)), .ref (ad (17)), .ref (ad (18)), .ref (ad (19)), .ref (ad (20)), .ref (ad (21)), .ref (ad (22)), zi (bl), .ref (ad (23)), .ref (ad (24))]) (fs' := [zi (1), zi (n), .ref (ad (9)), .ref (ad (10)), .ref (ad (11)), .ref (ad (12)), .ref (ad (13)), .ref (ad (14)), .ref (ad (15)), .ref (ad (16)), .ref (ad (17)), .ref (ad (18)), .ref (ad (19)), .ref (ad (20)), .ref (ad (21)), .ref (ad (22)), zi (bl), .ref (ad (23)), .ref (ad (24))]) hx hb hts w_1 tyX4_ok nmX4 hown hK hw (hM 8 (by decide) (by decide)) h8 rfl 0 (by decide) w_0 rfl rfl rfl rfl (Nat.le_of_ble_eq_true rfl) rfl dX4_piece_40 (fun H locs hw => ?_)
      refine lv_aload_n hx hb dX4_piece_43 rfl (lv_at hl 0 rfl) ?_
      refine z_get (C := RX4) (T := TX4) (N := 19) (fs := [zi (1), zi (n), .ref (ad (9)), .ref (ad (10)), .ref (ad (11)), .ref (ad (12)), .ref (ad (13)), .ref (ad (14)), .ref (ad (15)), .ref (ad (16)), .ref (ad (17)), .ref (ad (18)), .ref (ad (19)), .ref (ad (20)), .ref (ad (21)), .ref (ad (22)), zi (bl), .ref (ad (23)), .ref (ad (24))]) hx hb hts w_1 hown hK hw (hM 8 (by decide) (by decide)) (zU_s _ _ _) rfl 0 (by decide) w_0 rfl rfl dX4_piece_44 ?_
      refine z_if_le (tgt := 52) hx hb dX4_piece_47 (by decide) ⟨by decide, by decide⟩ (fun c_8 => ?_) (fun c_8 => ?_)
      · exact absurd c_8 (by decide)
      · refine z_ic hx hb dX4_piece_50 ?_
        exact z_iret hx hb hlk hr hw dX4_piece_51 (Nat.le_of_ble_eq_true rfl) (Nat.le_of_ble_eq_true rfl) ⟨rfl, _, rfl, ⟨1, _, _, _, Or.inr ⟨by omega, rfl⟩, (zM3_id (zU_n (by decide) h19) (zU_n (by decide) h20) (zU_n (by decide) h21)).symm⟩⟩
    · refine lv_iload hx hb dX4_piece_22 (lv_at hl 4 rfl) ?_
      refine z_i2l hx hb dX4_piece_24 ⟨by omega, by omega⟩ ?_
      refine z_lc0 hx hb dX4_piece_25 ?_
      refine z_ldc2 (n := 2) hx hb hown w_3 (by decide) dX4_piece_26 ?_
      refine z_kI (z_runS (As := [zl (a4), zl (0), zl (2)]) (rest := [.ref (ad (8))]) ⟨hx, hb, hml, hown, hts⟩ hK hw (k_in l hl0 G I ad _ _ (a4) (0) (2) ⟨by omega, by omega⟩ ⟨by decide, by decide⟩ ⟨by decide, by decide⟩) (va_cwS 3 hts gX4_piece_X4_in rfl rfl rfl (by decide +kernel) ⟨Nat.le_of_ble_eq_true rfl, Nat.le_of_ble_eq_true rfl⟩) rfl hl.1 rfl (Nat.le_of_ble_eq_true rfl) dX4_piece_29 ⟨Nat.le_of_ble_eq_true rfl, Nat.le_of_ble_eq_true rfl⟩) hw (fun r_9 ct_10 H locs hP hw => ?_)
      obtain ⟨rfl, hct⟩ := hP
      rw [hct] at hw
      clear hct
      refine z_ifb_eq (tgt := 39) hx hb dX4_piece_32 (by decide) (fun c_11 => ?_) (fun c_11 => ?_)
      · refine z_ic hx hb dX4_piece_39 ?_
        refine z_put (C := RX4) (T := TX4) (N := 19) (fs := [zi (cd), zi (n), .ref (ad (9)), .ref (ad (10)), .ref (ad (11)), .ref (ad (12)), .ref (ad (13)), .ref (ad (14)), .ref (ad (15)), .ref (ad (16)), .ref (ad (17)), .ref (ad (18)), .ref (ad (19)), .ref (ad (20)), .ref (ad (21)), .ref (ad (22)), zi (bl), .ref (ad (23)), .ref (ad (24))]) (fs' := [zi (1), zi (n), .ref (ad (9)), .ref (ad (10)), .ref (ad (11)), .ref (ad (12)), .ref (ad (13)), .ref (ad (14)), .ref (ad (15)), .ref (ad (16)), .ref (ad (17)), .ref (ad (18)), .ref (ad (19)), .ref (ad (20)), .ref (ad (21)), .ref (ad (22)), zi (bl), .ref (ad (23)), .ref (ad (24))]) hx hb hts w_1 tyX4_ok nmX4 hown hK hw (hM 8 (by decide) (by decide)) h8 rfl 0 (by decide) w_0 rfl rfl rfl rfl (Nat.le_of_ble_eq_true rfl) rfl dX4_piece_40 (fun H locs hw => ?_)
        refine lv_aload_n hx hb dX4_piece_43 rfl (lv_at hl 0 rfl) ?_
        refine z_get (C := RX4) (T := TX4) (N := 19) (fs := [zi (1), zi (n), .ref (ad (9)), .ref (ad (10)), .ref (ad (11)), .ref (ad (12)), .ref (ad (13)), .ref (ad (14)), .ref (ad (15)), .ref (ad (16)), .ref (ad (17)), .ref (ad (18)), .ref (ad (19)), .ref (ad (20)), .ref (ad (21)), .ref (ad (22)), zi (bl), .ref (ad (23)), .ref (ad (24))]) hx hb hts w_1 hown hK hw (hM 8 (by decide) (by decide)) (zU_s _ _ _) rfl 0 (by decide) w_0 rfl rfl dX4_piece_44 ?_
        refine z_if_le (tgt := 52) hx hb dX4_piece_47 (by decide) ⟨by decide, by decide⟩ (fun c_12 => ?_) (fun c_12 => ?_)
        · exact absurd c_12 (by decide)
        · refine z_ic hx hb dX4_piece_50 ?_
          exact z_iret hx hb hlk hr hw dX4_piece_51 (Nat.le_of_ble_eq_true rfl) (Nat.le_of_ble_eq_true rfl) ⟨rfl, _, rfl, ⟨1, _, _, _, Or.inr ⟨by omega, rfl⟩, (zM3_id (zU_n (by decide) h19) (zU_n (by decide) h20) (zU_n (by decide) h21)).symm⟩⟩
      · refine z_ic hx hb dX4_piece_35 ?_
        refine lv_goto (tgt := 40) hx hb dX4_piece_36 (by decide) ?_
        refine z_put (C := RX4) (T := TX4) (N := 19) (fs := [zi (cd), zi (n), .ref (ad (9)), .ref (ad (10)), .ref (ad (11)), .ref (ad (12)), .ref (ad (13)), .ref (ad (14)), .ref (ad (15)), .ref (ad (16)), .ref (ad (17)), .ref (ad (18)), .ref (ad (19)), .ref (ad (20)), .ref (ad (21)), .ref (ad (22)), zi (bl), .ref (ad (23)), .ref (ad (24))]) (fs' := [zi (0), zi (n), .ref (ad (9)), .ref (ad (10)), .ref (ad (11)), .ref (ad (12)), .ref (ad (13)), .ref (ad (14)), .ref (ad (15)), .ref (ad (16)), .ref (ad (17)), .ref (ad (18)), .ref (ad (19)), .ref (ad (20)), .ref (ad (21)), .ref (ad (22)), zi (bl), .ref (ad (23)), .ref (ad (24))]) hx hb hts w_1 tyX4_ok nmX4 hown hK hw (hM 8 (by decide) (by decide)) h8 rfl 0 (by decide) w_0 rfl rfl rfl rfl (Nat.le_of_ble_eq_true rfl) rfl dX4_piece_40 (fun H locs hw => ?_)
        refine lv_aload_n hx hb dX4_piece_43 rfl (lv_at hl 0 rfl) ?_
        refine z_get (C := RX4) (T := TX4) (N := 19) (fs := [zi (0), zi (n), .ref (ad (9)), .ref (ad (10)), .ref (ad (11)), .ref (ad (12)), .ref (ad (13)), .ref (ad (14)), .ref (ad (15)), .ref (ad (16)), .ref (ad (17)), .ref (ad (18)), .ref (ad (19)), .ref (ad (20)), .ref (ad (21)), .ref (ad (22)), zi (bl), .ref (ad (23)), .ref (ad (24))]) hx hb hts w_1 hown hK hw (hM 8 (by decide) (by decide)) (zU_s _ _ _) rfl 0 (by decide) w_0 rfl rfl dX4_piece_44 ?_
        refine z_if_le (tgt := 52) hx hb dX4_piece_47 (by decide) ⟨by decide, by decide⟩ (fun c_13 => ?_) (fun c_13 => ?_)
        · have hg := hgs ((a1).toNat) (by omega)
          have hg0 := hg
          obtain ⟨⟨g1, g2⟩, ⟨g3, g4⟩, ⟨g5, g6⟩, ⟨g7, g8⟩, ⟨g9, g10⟩, ⟨g11, g12⟩, g13, g14, g15, g16⟩ := hg0
          have gn : ((σ ((a1).toNat)).1 : Int) = pn (σ ((a1).toNat)) := rfl
          have hr0 := hRel ((a1).toNat) (by omega)
          rw [show ((((a1).toNat) : Nat) : Int) = a1 by omega] at hr0
          obtain ⟨r1, r2, r3, r4, r5, r6, r7, r8⟩ := hr0
          refine lv_aload_n hx hb dX4_piece_52 rfl (lv_at hl 0 rfl) ?_
          refine lv_iload_n hx hb dX4_piece_53 rfl (lv_at hl 1 rfl) ?_
          refine lv_iload_n hx hb dX4_piece_54 rfl (lv_at hl 2 rfl) ?_
          refine z_i2l hx hb dX4_piece_55 ⟨by omega, by omega⟩ ?_
          refine z_kI (z_runV (As := [zi (a1), zl (a2)]) (rest := []) (k := 8) (fs := [zi (0), zi (n), .ref (ad (9)), .ref (ad (10)), .ref (ad (11)), .ref (ad (12)), .ref (ad (13)), .ref (ad (14)), .ref (ad (15)), .ref (ad (16)), .ref (ad (17)), .ref (ad (18)), .ref (ad (19)), .ref (ad (20)), .ref (ad (21)), .ref (ad (22)), zi (bl), .ref (ad (23)), .ref (ad (24))]) ⟨hx, hb, hml, hown, hts⟩ hK hw (k_stands l hl0 G I ad _ _ n hn6 σ hgs (0) (bl) (Fmn) (Fsp) (Fms) (Fco) (Fst) (Fmo) (Fsk) (Fts) (Ftm) (Fjn) (Fpl) (Fgr) (Fab) hRel hM ⟨(zU_s _ _ _), (zU_n (by decide) h9), (zU_n (by decide) h10), (zU_n (by decide) h11), (zU_n (by decide) h12), (zU_n (by decide) h13), (zU_n (by decide) h14), (zU_n (by decide) h15), (zU_n (by decide) h16), (zU_n (by decide) h17), (zU_n (by decide) h18)⟩ ⟨(zU_n (by decide) h19), (zU_n (by decide) h20), (zU_n (by decide) h21)⟩ ((a1).toNat) (a1) (by omega) (by omega) (a2) ⟨by omega, by omega⟩) (cwV 2 hts gX4_piece_X4_stands rfl rfl rfl (by decide +kernel) ⟨Nat.le_of_ble_eq_true rfl, Nat.le_of_ble_eq_true rfl⟩) (hM 8 (by decide) (by decide)) (zU_s _ _ _) rfl rfl rfl hl.1 rfl (Nat.le_of_ble_eq_true rfl) dX4_piece_56 ⟨Nat.le_of_ble_eq_true rfl, Nat.le_of_ble_eq_true rfl⟩) hw (fun r_17 ct_18 H locs hP hw => ?_)
          obtain ⟨rfl, P_14, G_15, A_16, hP_14, hct⟩ := hP
          rw [hct] at hw
          clear hct
          have gb_56 := zg_bd (σ ((a1).toNat)) true (a2)
          refine z_ifb_ne (tgt := 65) hx hb dX4_piece_59 (by decide) (fun c_19 => ?_) (fun c_19 => ?_)
          · refine lv_iload hx hb dX4_piece_65 (lv_at hl 4 rfl) ?_
            refine z_if_ne (tgt := 79) hx hb dX4_piece_67 (by decide) ⟨by omega, by omega⟩ (fun c_20 => ?_) (fun c_20 => ?_)
            · refine lv_iload hx hb dX4_piece_79 (lv_at hl 4 rfl) ?_
              refine z_ic hx hb dX4_piece_81 ?_
              refine z_icmp_ne (tgt := 94) hx hb dX4_piece_82 (by decide) ⟨by omega, by omega⟩ ⟨by decide, by decide⟩ (fun c_21 => ?_) (fun c_21 => ?_)
              · refine lv_aload_n hx hb dX4_piece_94 rfl (lv_at hl 0 rfl) ?_
                refine z_get (C := RX4) (T := TX4) (N := 19) (fs := [zi (0), zi (n), .ref (ad (9)), .ref (ad (10)), .ref (ad (11)), .ref (ad (12)), .ref (ad (13)), .ref (ad (14)), .ref (ad (15)), .ref (ad (16)), .ref (ad (17)), .ref (ad (18)), .ref (ad (19)), .ref (ad (20)), .ref (ad (21)), .ref (ad (22)), zi (bl), .ref (ad (23)), .ref (ad (24))]) hx hb hts w_1 hown hK hw (hM 8 (by decide) (by decide)) (zM3_n (by omega) (zU_s _ _ _)) rfl 14 (by decide) w_4 rfl rfl dX4_piece_95 ?_
                refine lv_iload_n hx hb dX4_piece_98 rfl (lv_at hl 3 rfl) ?_
                refine z_lald (f := A_16) hx hb hK hw (hM 21 (by decide) (by decide)) rfl (by omega) (by omega) (by decide) dX4_piece_99 ?_
                rw [show (A_16 (a3) : Int) = zf (σ (a1).toNat) (zg (σ (a1).toNat) true a2) ((pn (σ (a1).toNat) - 1 - a3).toNat + 1) from (hP_14 c_19 a3 (by omega) (by omega)).2.2]
                have bv := zf_bd2 hg (zg (σ (a1).toNat) true a2) (k := (pn (σ (a1).toNat) - 1 - a3).toNat + 1) (by omega)
                refine z_l2i hx hb dX4_piece_100 ⟨by omega, by omega⟩ ?_
                exact z_iret hx hb hlk hr hw dX4_piece_101 (Nat.le_of_ble_eq_true rfl) (Nat.le_of_ble_eq_true rfl) ⟨rfl, _, rfl, ⟨0, _, _, _, Or.inl ⟨by omega, rfl, by unfold zpc; rw [if_pos (by assumption), if_neg (by omega), if_neg (by omega)]⟩, by first | exact rfl | exact zM3_zM3 _ _ _ _ _ _ _⟩⟩
              · refine lv_aload_n hx hb dX4_piece_85 rfl (lv_at hl 0 rfl) ?_
                refine z_get (C := RX4) (T := TX4) (N := 19) (fs := [zi (0), zi (n), .ref (ad (9)), .ref (ad (10)), .ref (ad (11)), .ref (ad (12)), .ref (ad (13)), .ref (ad (14)), .ref (ad (15)), .ref (ad (16)), .ref (ad (17)), .ref (ad (18)), .ref (ad (19)), .ref (ad (20)), .ref (ad (21)), .ref (ad (22)), zi (bl), .ref (ad (23)), .ref (ad (24))]) hx hb hts w_1 hown hK hw (hM 8 (by decide) (by decide)) (zM3_n (by omega) (zU_s _ _ _)) rfl 13 (by decide) w_5 rfl rfl dX4_piece_86 ?_
                refine lv_iload_n hx hb dX4_piece_89 rfl (lv_at hl 3 rfl) ?_
                refine z_lald (f := G_15) hx hb hK hw (hM 20 (by decide) (by decide)) rfl (by omega) (by omega) (by decide) dX4_piece_90 ?_
                refine lv_goto (tgt := 100) hx hb dX4_piece_91 (by decide) ?_
                rw [show (G_15 (a3) : Int) = zgf (σ (a1).toNat) (a3) (zp (σ (a1).toNat) (zg (σ (a1).toNat) true a2) ((pn (σ (a1).toNat) - 1 - a3).toNat)) from (hP_14 c_19 a3 (by omega) (by omega)).2.1]
                have bv := zgf_bd hg a3 (zp (σ (a1).toNat) (zg (σ (a1).toNat) true a2) ((pn (σ (a1).toNat) - 1 - a3).toNat))
                refine z_l2i hx hb dX4_piece_100 ⟨by omega, by omega⟩ ?_
                exact z_iret hx hb hlk hr hw dX4_piece_101 (Nat.le_of_ble_eq_true rfl) (Nat.le_of_ble_eq_true rfl) ⟨rfl, _, rfl, ⟨0, _, _, _, Or.inl ⟨by omega, rfl, by unfold zpc; rw [if_pos (by assumption), if_neg (by omega), if_pos (by omega)]⟩, by first | exact rfl | exact zM3_zM3 _ _ _ _ _ _ _⟩⟩
            · refine lv_aload_n hx hb dX4_piece_70 rfl (lv_at hl 0 rfl) ?_
              refine z_get (C := RX4) (T := TX4) (N := 19) (fs := [zi (0), zi (n), .ref (ad (9)), .ref (ad (10)), .ref (ad (11)), .ref (ad (12)), .ref (ad (13)), .ref (ad (14)), .ref (ad (15)), .ref (ad (16)), .ref (ad (17)), .ref (ad (18)), .ref (ad (19)), .ref (ad (20)), .ref (ad (21)), .ref (ad (22)), zi (bl), .ref (ad (23)), .ref (ad (24))]) hx hb hts w_1 hown hK hw (hM 8 (by decide) (by decide)) (zM3_n (by omega) (zU_s _ _ _)) rfl 12 (by decide) w_6 rfl rfl dX4_piece_71 ?_
              refine lv_iload_n hx hb dX4_piece_74 rfl (lv_at hl 3 rfl) ?_
              refine z_lald (f := P_14) hx hb hK hw (hM 19 (by decide) (by decide)) rfl (by omega) (by omega) (by decide) dX4_piece_75 ?_
              refine lv_goto (tgt := 100) hx hb dX4_piece_76 (by decide) ?_
              rw [show (P_14 (a3) : Int) = zp (σ (a1).toNat) (zg (σ (a1).toNat) true a2) ((pn (σ (a1).toNat) - 1 - a3).toNat) from (hP_14 c_19 a3 (by omega) (by omega)).1]
              have bv := zp_bd2 hg (w := zg (σ (a1).toNat) true a2) (k := (pn (σ (a1).toNat) - 1 - a3).toNat) (by omega) (by omega) (by omega)
              refine z_l2i hx hb dX4_piece_100 ⟨by omega, by omega⟩ ?_
              exact z_iret hx hb hlk hr hw dX4_piece_101 (Nat.le_of_ble_eq_true rfl) (Nat.le_of_ble_eq_true rfl) ⟨rfl, _, rfl, ⟨0, _, _, _, Or.inl ⟨by omega, rfl, by unfold zpc; rw [if_pos (by assumption), if_pos (by omega)]⟩, by first | exact rfl | exact zM3_zM3 _ _ _ _ _ _ _⟩⟩
          · refine z_ldc (n := -1000000) hx hb hown w_7 (by decide) dX4_piece_62 ?_
            exact z_iret hx hb hlk hr hw dX4_piece_64 (Nat.le_of_ble_eq_true rfl) (Nat.le_of_ble_eq_true rfl) ⟨rfl, _, rfl, ⟨0, _, _, _, Or.inl ⟨by omega, rfl, by unfold zpc; rw [if_neg (by assumption)]⟩, by first | exact rfl | exact zM3_zM3 _ _ _ _ _ _ _⟩⟩
        · exact absurd c_13 (by decide)

set_option maxHeartbeats 4000000 in
set_option maxRecDepth 100000 in
theorem m_load (l : Launch) (hl0 : l.stackTraces = false) (G : zG) (I : List Nat) (ad : Nat → Nat) (ct : Nat → va_E) (sz : Nat) (n : Nat) (hn6 : n ≤ 6) (σ : Nat → zPl) (hgs : ∀ p : Nat, p < n → zGood (σ p)) (cd bl : Int) (Fmn Fsp Fms Fco Fst Fmo Fsk Fts Ftm Fjn Fpl Fgr Fab : Int → Int) (hRel : zMrel n σ Fmn Fsp Fms Fco Fst Fmo Fsk Fts Ftm Fjn) (hM : ∀ j : Nat, 8 ≤ j → j ≤ 24 → j ∈ I) (hms : zMst G ad ct n cd bl Fmn Fsp Fms Fco Fst Fmo Fsk Fts Ftm Fjn) (hmc : zMsc G ct Fpl Fgr Fab) (a1 a2 : Int) (hz1 : zr a1) (hz2 : zr a2) : zN l yX4_load wsX4_load 5 135 0 0 G [.ref (ad (8)), zi (a1), zi (a2)] I ad ct zno sz (zk I (zqi fun z u => ∃ (cd9 : Int) (P Gr Ab : Int → Int), ((((0 ≤ a1 ∧ a1 < n) ∧ (-100000 ≤ a2 ∧ a2 ≤ 100000)) ∧ cd9 = 0 ∧ z = zld (σ (a1).toNat) (zg (σ (a1).toNat) false a2)) ∨ (¬ ((0 ≤ a1 ∧ a1 < n) ∧ (-100000 ≤ a2 ∧ a2 ≤ 100000)) ∧ cd9 = 1)) ∧ u = zM3 (zU ct 8 (zmo ad n (cd9) bl)) (zL G 12 P) (zL G 12 Gr) (zL G 12 Ab))) := by
  obtain ⟨h8, h9, h10, h11, h12, h13, h14, h15, h16, h17, h18⟩ := hms
  obtain ⟨h19, h20, h21⟩ := hmc
  refine z_ofW (ret := (some .int)) hl0 (by decide +kernel) rfl (Nat.le_of_ble_eq_true rfl) ?_
  intro p e s m args below meth c A ls hA0 hsz hF hr hout hnm hw hl
  obtain ⟨hx, hb, hml, hown, hts, hK, hlk, hst⟩ := hF
  have hown : s.vm.findClass RX4 = some m.cls := hown
  have hl : lv_has ls 3 [(0, .ref (ad (8))), (1, zi (a1)), (2, zi (a2))] := hl
  have w_0 := hts (.fieldLink RX4 65 "PileMovesModel" "code" "I") (by decide +kernel)
  have w_1 : ∀ w ∈ wsX40, w ∈ wsX4_load := by decide +kernel
  have w_2 := hts (.constantLong RX4 105 (-100000)) (by decide +kernel)
  have w_3 := hts (.constantLong RX4 85 (100000)) (by decide +kernel)
  refine lv_aload_n hx hb dX4_load_0 rfl (lv_at hl 0 rfl) ?_
  refine lv_aload_n hx hb dX4_load_1 rfl (lv_at hl 0 rfl) ?_
  refine lv_iload_n hx hb dX4_load_2 rfl (lv_at hl 1 rfl) ?_
  refine z_kI (z_runV (As := [zi (a1)]) (rest := [.ref (ad (8))]) (k := 8) (fs := [zi (cd), zi (n), .ref (ad (9)), .ref (ad (10)), .ref (ad (11)), .ref (ad (12)), .ref (ad (13)), .ref (ad (14)), .ref (ad (15)), .ref (ad (16)), .ref (ad (17)), .ref (ad (18)), .ref (ad (19)), .ref (ad (20)), .ref (ad (21)), .ref (ad (22)), zi (bl), .ref (ad (23)), .ref (ad (24))]) ⟨hx, hb, hml, hown, hts⟩ hK hw (k_isPile l hl0 G I ad _ _ n hn6 σ hgs (cd) (bl) (Fmn) (Fsp) (Fms) (Fco) (Fst) (Fmo) (Fsk) (Fts) (Ftm) (Fjn) (Fpl) (Fgr) (Fab) hRel hM ⟨h8, h9, h10, h11, h12, h13, h14, h15, h16, h17, h18⟩ ⟨h19, h20, h21⟩ (a1) ⟨by omega, by omega⟩) (cwV 1 hts gX4_load_X4_isPile rfl rfl rfl (by decide +kernel) ⟨Nat.le_of_ble_eq_true rfl, Nat.le_of_ble_eq_true rfl⟩) (hM 8 (by decide) (by decide)) h8 rfl rfl rfl hl.1 rfl (Nat.le_of_ble_eq_true rfl) dX4_load_3 ⟨Nat.le_of_ble_eq_true rfl, Nat.le_of_ble_eq_true rfl⟩) hw (fun r_1 ct_2 H locs hP hw => ?_)
  obtain ⟨rfl, hct⟩ := hP
  rw [hct] at hw
  clear hct
  refine z_ifb_eq (tgt := 27) hx hb dX4_load_6 (by decide) (fun c_3 => ?_) (fun c_3 => ?_)
  · refine z_ic hx hb dX4_load_27 ?_
    refine z_put (C := RX4) (T := TX4) (N := 19) (fs := [zi (cd), zi (n), .ref (ad (9)), .ref (ad (10)), .ref (ad (11)), .ref (ad (12)), .ref (ad (13)), .ref (ad (14)), .ref (ad (15)), .ref (ad (16)), .ref (ad (17)), .ref (ad (18)), .ref (ad (19)), .ref (ad (20)), .ref (ad (21)), .ref (ad (22)), zi (bl), .ref (ad (23)), .ref (ad (24))]) (fs' := [zi (1), zi (n), .ref (ad (9)), .ref (ad (10)), .ref (ad (11)), .ref (ad (12)), .ref (ad (13)), .ref (ad (14)), .ref (ad (15)), .ref (ad (16)), .ref (ad (17)), .ref (ad (18)), .ref (ad (19)), .ref (ad (20)), .ref (ad (21)), .ref (ad (22)), zi (bl), .ref (ad (23)), .ref (ad (24))]) hx hb hts w_1 tyX4_ok nmX4 hown hK hw (hM 8 (by decide) (by decide)) h8 rfl 0 (by decide) w_0 rfl rfl rfl rfl (Nat.le_of_ble_eq_true rfl) rfl dX4_load_28 (fun H locs hw => ?_)
    refine lv_aload_n hx hb dX4_load_31 rfl (lv_at hl 0 rfl) ?_
    refine z_get (C := RX4) (T := TX4) (N := 19) (fs := [zi (1), zi (n), .ref (ad (9)), .ref (ad (10)), .ref (ad (11)), .ref (ad (12)), .ref (ad (13)), .ref (ad (14)), .ref (ad (15)), .ref (ad (16)), .ref (ad (17)), .ref (ad (18)), .ref (ad (19)), .ref (ad (20)), .ref (ad (21)), .ref (ad (22)), zi (bl), .ref (ad (23)), .ref (ad (24))]) hx hb hts w_1 hown hK hw (hM 8 (by decide) (by decide)) (zU_s _ _ _) rfl 0 (by decide) w_0 rfl rfl dX4_load_32 ?_
    refine z_if_le (tgt := 42) hx hb dX4_load_35 (by decide) ⟨by decide, by decide⟩ (fun c_4 => ?_) (fun c_4 => ?_)
    · exact absurd c_4 (by decide)
    · refine z_ic hx hb dX4_load_38 ?_
      refine lv_goto (tgt := 65) hx hb dX4_load_39 (by decide) ?_
      exact z_iret hx hb hlk hr hw dX4_load_65 (Nat.le_of_ble_eq_true rfl) (Nat.le_of_ble_eq_true rfl) ⟨rfl, _, rfl, ⟨1, _, _, _, Or.inr ⟨by omega, rfl⟩, (zM3_id (zU_n (by decide) h19) (zU_n (by decide) h20) (zU_n (by decide) h21)).symm⟩⟩
  · refine lv_iload_n hx hb dX4_load_9 rfl (lv_at hl 2 rfl) ?_
    refine z_i2l hx hb dX4_load_10 ⟨by omega, by omega⟩ ?_
    refine z_ldc2 (n := -100000) hx hb hown w_2 (by decide) dX4_load_11 ?_
    refine z_ldc2 (n := 100000) hx hb hown w_3 (by decide) dX4_load_14 ?_
    refine z_kI (z_runS (As := [zl (a2), zl (-100000), zl (100000)]) (rest := [.ref (ad (8))]) ⟨hx, hb, hml, hown, hts⟩ hK hw (k_in l hl0 G I ad _ _ (a2) (-100000) (100000) ⟨by omega, by omega⟩ ⟨by decide, by decide⟩ ⟨by decide, by decide⟩) (va_cwS 3 hts gX4_load_X4_in rfl rfl rfl (by decide +kernel) ⟨Nat.le_of_ble_eq_true rfl, Nat.le_of_ble_eq_true rfl⟩) rfl hl.1 rfl (Nat.le_of_ble_eq_true rfl) dX4_load_17 ⟨Nat.le_of_ble_eq_true rfl, Nat.le_of_ble_eq_true rfl⟩) hw (fun r_5 ct_6 H locs hP hw => ?_)
    obtain ⟨rfl, hct⟩ := hP
    rw [hct] at hw
    clear hct
    refine z_ifb_eq (tgt := 27) hx hb dX4_load_20 (by decide) (fun c_7 => ?_) (fun c_7 => ?_)
    · refine z_ic hx hb dX4_load_27 ?_
      refine z_put (C := RX4) (T := TX4) (N := 19) (fs := [zi (cd), zi (n), .ref (ad (9)), .ref (ad (10)), .ref (ad (11)), .ref (ad (12)), .ref (ad (13)), .ref (ad (14)), .ref (ad (15)), .ref (ad (16)), .ref (ad (17)), .ref (ad (18)), .ref (ad (19)), .ref (ad (20)), .ref (ad (21)), .ref (ad (22)), zi (bl), .ref (ad (23)), .ref (ad (24))]) (fs' := [zi (1), zi (n), .ref (ad (9)), .ref (ad (10)), .ref (ad (11)), .ref (ad (12)), .ref (ad (13)), .ref (ad (14)), .ref (ad (15)), .ref (ad (16)), .ref (ad (17)), .ref (ad (18)), .ref (ad (19)), .ref (ad (20)), .ref (ad (21)), .ref (ad (22)), zi (bl), .ref (ad (23)), .ref (ad (24))]) hx hb hts w_1 tyX4_ok nmX4 hown hK hw (hM 8 (by decide) (by decide)) h8 rfl 0 (by decide) w_0 rfl rfl rfl rfl (Nat.le_of_ble_eq_true rfl) rfl dX4_load_28 (fun H locs hw => ?_)
      refine lv_aload_n hx hb dX4_load_31 rfl (lv_at hl 0 rfl) ?_
      refine z_get (C := RX4) (T := TX4) (N := 19) (fs := [zi (1), zi (n), .ref (ad (9)), .ref (ad (10)), .ref (ad (11)), .ref (ad (12)), .ref (ad (13)), .ref (ad (14)), .ref (ad (15)), .ref (ad (16)), .ref (ad (17)), .ref (ad (18)), .ref (ad (19)), .ref (ad (20)), .ref (ad (21)), .ref (ad (22)), zi (bl), .ref (ad (23)), .ref (ad (24))]) hx hb hts w_1 hown hK hw (hM 8 (by decide) (by decide)) (zU_s _ _ _) rfl 0 (by decide) w_0 rfl rfl dX4_load_32 ?_
      refine z_if_le (tgt := 42) hx hb dX4_load_35 (by decide) ⟨by decide, by decide⟩ (fun c_8 => ?_) (fun c_8 => ?_)
      · exact absurd c_8 (by decide)
      · refine z_ic hx hb dX4_load_38 ?_
        refine lv_goto (tgt := 65) hx hb dX4_load_39 (by decide) ?_
        exact z_iret hx hb hlk hr hw dX4_load_65 (Nat.le_of_ble_eq_true rfl) (Nat.le_of_ble_eq_true rfl) ⟨rfl, _, rfl, ⟨1, _, _, _, Or.inr ⟨by omega, rfl⟩, (zM3_id (zU_n (by decide) h19) (zU_n (by decide) h20) (zU_n (by decide) h21)).symm⟩⟩
    · refine z_ic hx hb dX4_load_23 ?_
      refine lv_goto (tgt := 28) hx hb dX4_load_24 (by decide) ?_
      refine z_put (C := RX4) (T := TX4) (N := 19) (fs := [zi (cd), zi (n), .ref (ad (9)), .ref (ad (10)), .ref (ad (11)), .ref (ad (12)), .ref (ad (13)), .ref (ad (14)), .ref (ad (15)), .ref (ad (16)), .ref (ad (17)), .ref (ad (18)), .ref (ad (19)), .ref (ad (20)), .ref (ad (21)), .ref (ad (22)), zi (bl), .ref (ad (23)), .ref (ad (24))]) (fs' := [zi (0), zi (n), .ref (ad (9)), .ref (ad (10)), .ref (ad (11)), .ref (ad (12)), .ref (ad (13)), .ref (ad (14)), .ref (ad (15)), .ref (ad (16)), .ref (ad (17)), .ref (ad (18)), .ref (ad (19)), .ref (ad (20)), .ref (ad (21)), .ref (ad (22)), zi (bl), .ref (ad (23)), .ref (ad (24))]) hx hb hts w_1 tyX4_ok nmX4 hown hK hw (hM 8 (by decide) (by decide)) h8 rfl 0 (by decide) w_0 rfl rfl rfl rfl (Nat.le_of_ble_eq_true rfl) rfl dX4_load_28 (fun H locs hw => ?_)
      refine lv_aload_n hx hb dX4_load_31 rfl (lv_at hl 0 rfl) ?_
      refine z_get (C := RX4) (T := TX4) (N := 19) (fs := [zi (0), zi (n), .ref (ad (9)), .ref (ad (10)), .ref (ad (11)), .ref (ad (12)), .ref (ad (13)), .ref (ad (14)), .ref (ad (15)), .ref (ad (16)), .ref (ad (17)), .ref (ad (18)), .ref (ad (19)), .ref (ad (20)), .ref (ad (21)), .ref (ad (22)), zi (bl), .ref (ad (23)), .ref (ad (24))]) hx hb hts w_1 hown hK hw (hM 8 (by decide) (by decide)) (zU_s _ _ _) rfl 0 (by decide) w_0 rfl rfl dX4_load_32 ?_
      refine z_if_le (tgt := 42) hx hb dX4_load_35 (by decide) ⟨by decide, by decide⟩ (fun c_9 => ?_) (fun c_9 => ?_)
      · have hg := hgs ((a1).toNat) (by omega)
        have hg0 := hg
        obtain ⟨⟨g1, g2⟩, ⟨g3, g4⟩, ⟨g5, g6⟩, ⟨g7, g8⟩, ⟨g9, g10⟩, ⟨g11, g12⟩, g13, g14, g15, g16⟩ := hg0
        have gn : ((σ ((a1).toNat)).1 : Int) = pn (σ ((a1).toNat)) := rfl
        have hr0 := hRel ((a1).toNat) (by omega)
        rw [show ((((a1).toNat) : Nat) : Int) = a1 by omega] at hr0
        obtain ⟨r1, r2, r3, r4, r5, r6, r7, r8⟩ := hr0
        refine lv_aload_n hx hb dX4_load_42 rfl (lv_at hl 0 rfl) ?_
        refine lv_iload_n hx hb dX4_load_43 rfl (lv_at hl 1 rfl) ?_
        refine lv_iload_n hx hb dX4_load_44 rfl (lv_at hl 2 rfl) ?_
        refine z_i2l hx hb dX4_load_45 ⟨by omega, by omega⟩ ?_
        refine z_kI (z_runV (As := [zi (a1), zl (a2)]) (rest := []) (k := 8) (fs := [zi (0), zi (n), .ref (ad (9)), .ref (ad (10)), .ref (ad (11)), .ref (ad (12)), .ref (ad (13)), .ref (ad (14)), .ref (ad (15)), .ref (ad (16)), .ref (ad (17)), .ref (ad (18)), .ref (ad (19)), .ref (ad (20)), .ref (ad (21)), .ref (ad (22)), zi (bl), .ref (ad (23)), .ref (ad (24))]) ⟨hx, hb, hml, hown, hts⟩ hK hw (k_hasState l hl0 G I ad _ _ n hn6 σ hgs (0) (bl) (Fmn) (Fsp) (Fms) (Fco) (Fst) (Fmo) (Fsk) (Fts) (Ftm) (Fjn) (Fpl) (Fgr) (Fab) hRel hM ⟨(zU_s _ _ _), (zU_n (by decide) h9), (zU_n (by decide) h10), (zU_n (by decide) h11), (zU_n (by decide) h12), (zU_n (by decide) h13), (zU_n (by decide) h14), (zU_n (by decide) h15), (zU_n (by decide) h16), (zU_n (by decide) h17), (zU_n (by decide) h18)⟩ ⟨(zU_n (by decide) h19), (zU_n (by decide) h20), (zU_n (by decide) h21)⟩ ((a1).toNat) (a1) (by omega) (by omega) (a2) ⟨by omega, by omega⟩) (cwV 2 hts gX4_load_X4_hasState rfl rfl rfl (by decide +kernel) ⟨Nat.le_of_ble_eq_true rfl, Nat.le_of_ble_eq_true rfl⟩) (hM 8 (by decide) (by decide)) (zU_s _ _ _) rfl rfl rfl hl.1 rfl (Nat.le_of_ble_eq_true rfl) dX4_load_46 ⟨Nat.le_of_ble_eq_true rfl, Nat.le_of_ble_eq_true rfl⟩) hw (fun r_13 ct_14 H locs hP hw => ?_)
        obtain ⟨rfl, P_10, G_11, A_12, hct⟩ := hP
        rw [hct] at hw
        clear hct
        refine z_ifb_eq (tgt := 63) hx hb dX4_load_49 (by decide) (fun c_15 => ?_) (fun c_15 => ?_)
        · exact absurd (zat_ok hg (by omega)) c_15
        · refine lv_aload_n hx hb dX4_load_52 rfl (lv_at hl 0 rfl) ?_
          refine lv_iload_n hx hb dX4_load_53 rfl (lv_at hl 1 rfl) ?_
          refine lv_iload_n hx hb dX4_load_54 rfl (lv_at hl 2 rfl) ?_
          refine z_i2l hx hb dX4_load_55 ⟨by omega, by omega⟩ ?_
          refine z_kL (z_runV (As := [zi (a1), zl (a2)]) (rest := []) (k := 8) (fs := [zi (0), zi (n), .ref (ad (9)), .ref (ad (10)), .ref (ad (11)), .ref (ad (12)), .ref (ad (13)), .ref (ad (14)), .ref (ad (15)), .ref (ad (16)), .ref (ad (17)), .ref (ad (18)), .ref (ad (19)), .ref (ad (20)), .ref (ad (21)), .ref (ad (22)), zi (bl), .ref (ad (23)), .ref (ad (24))]) ⟨hx, hb, hml, hown, hts⟩ hK hw (k_loadAt l hl0 G I ad _ _ n hn6 σ hgs (0) (bl) (Fmn) (Fsp) (Fms) (Fco) (Fst) (Fmo) (Fsk) (Fts) (Ftm) (Fjn) (P_10) (G_11) (A_12) hRel hM ⟨(zM3_n (by omega) (zU_s _ _ _)), (zM3_n (by omega) (zU_n (by decide) h9)), (zM3_n (by omega) (zU_n (by decide) h10)), (zM3_n (by omega) (zU_n (by decide) h11)), (zM3_n (by omega) (zU_n (by decide) h12)), (zM3_n (by omega) (zU_n (by decide) h13)), (zM3_n (by omega) (zU_n (by decide) h14)), (zM3_n (by omega) (zU_n (by decide) h15)), (zM3_n (by omega) (zU_n (by decide) h16)), (zM3_n (by omega) (zU_n (by decide) h17)), (zM3_n (by omega) (zU_n (by decide) h18))⟩ ⟨rfl, rfl, rfl⟩ ((a1).toNat) (a1) (by omega) (by omega) (a2) ⟨by omega, by omega⟩) (cwV 2 hts gX4_load_X4_loadAt rfl rfl rfl (by decide +kernel) ⟨Nat.le_of_ble_eq_true rfl, Nat.le_of_ble_eq_true rfl⟩) (hM 8 (by decide) (by decide)) (zM3_n (by omega) (zU_s _ _ _)) rfl rfl rfl hl.1 rfl (Nat.le_of_ble_eq_true rfl) dX4_load_56 ⟨Nat.le_of_ble_eq_true rfl, Nat.le_of_ble_eq_true rfl⟩) hw (fun r_19 ct_20 H locs hP hw => ?_)
          obtain ⟨rfl, P_16, G_17, A_18, hct⟩ := hP
          rw [hct] at hw
          clear hct
          have lb_56 := zld_bd (hgs ((a1).toNat) (by omega)) (zg (σ ((a1).toNat)) false (a2))
          refine z_l2i hx hb dX4_load_59 ⟨by omega, by omega⟩ ?_
          refine lv_goto (tgt := 65) hx hb dX4_load_60 (by decide) ?_
          exact z_iret hx hb hlk hr hw dX4_load_65 (Nat.le_of_ble_eq_true rfl) (Nat.le_of_ble_eq_true rfl) ⟨rfl, _, rfl, ⟨0, _, _, _, Or.inl ⟨by omega, rfl, rfl⟩, by first | exact rfl | exact zM3_zM3 _ _ _ _ _ _ _⟩⟩
      · exact absurd c_9 (by decide)

set_option maxHeartbeats 4000000 in
set_option maxRecDepth 100000 in
theorem m_hold (l : Launch) (hl0 : l.stackTraces = false) (G : zG) (I : List Nat) (ad : Nat → Nat) (ct : Nat → va_E) (sz : Nat) (n : Nat) (hn6 : n ≤ 6) (σ : Nat → zPl) (hgs : ∀ p : Nat, p < n → zGood (σ p)) (cd bl : Int) (Fmn Fsp Fms Fco Fst Fmo Fsk Fts Ftm Fjn Fpl Fgr Fab : Int → Int) (hRel : zMrel n σ Fmn Fsp Fms Fco Fst Fmo Fsk Fts Ftm Fjn) (hM : ∀ j : Nat, 8 ≤ j → j ≤ 24 → j ∈ I) (hms : zMst G ad ct n cd bl Fmn Fsp Fms Fco Fst Fmo Fsk Fts Ftm Fjn) (hmc : zMsc G ct Fpl Fgr Fab) (a1 : Int) (hz1 : zr a1) : zN l yX4_hold wsX4_hold 2 46 0 0 G [.ref (ad (8)), zi (a1)] I ad ct zno sz (zk I (zqi fun z u => ∃ (cd9 : Int), (((0 ≤ a1 ∧ a1 < n) ∧ cd9 = 0 ∧ z = zho (σ (a1).toNat) (σ (a1).toNat).1) ∨ (¬ (0 ≤ a1 ∧ a1 < n) ∧ cd9 = 1)) ∧ u = zU ct 8 (zmo ad n cd9 bl))) := by
  obtain ⟨h8, h9, h10, h11, h12, h13, h14, h15, h16, h17, h18⟩ := hms
  obtain ⟨h19, h20, h21⟩ := hmc
  refine z_ofW (ret := (some .int)) hl0 (by decide +kernel) rfl (Nat.le_of_ble_eq_true rfl) ?_
  intro p e s m args below meth c A ls hA0 hsz hF hr hout hnm hw hl
  obtain ⟨hx, hb, hml, hown, hts, hK, hlk, hst⟩ := hF
  have hown : s.vm.findClass RX4 = some m.cls := hown
  have hl : lv_has ls 5 [(0, .ref (ad (8))), (1, zi (a1))] := hl
  have w_0 := hts (.fieldLink RX4 65 "PileMovesModel" "code" "I") (by decide +kernel)
  have w_1 : ∀ w ∈ wsX40, w ∈ wsX4_hold := by decide +kernel
  have w_2 := hts (.fieldLink RX4 7 "PileMovesModel" "many" "[I") (by decide +kernel)
  have w_3 := hts (.fieldLink RX4 26 "PileMovesModel" "most" "[J") (by decide +kernel)
  have w_4 := hts (.constantLong RX4 133 (7)) (by decide +kernel)
  have w_5 := hts (.constantLong RX4 135 (10)) (by decide +kernel)
  refine lv_aload_n hx hb dX4_hold_0 rfl (lv_at hl 0 rfl) ?_
  refine lv_aload_n hx hb dX4_hold_1 rfl (lv_at hl 0 rfl) ?_
  refine lv_iload_n hx hb dX4_hold_2 rfl (lv_at hl 1 rfl) ?_
  refine z_kI (z_runV (As := [zi (a1)]) (rest := [.ref (ad (8))]) (k := 8) (fs := [zi (cd), zi (n), .ref (ad (9)), .ref (ad (10)), .ref (ad (11)), .ref (ad (12)), .ref (ad (13)), .ref (ad (14)), .ref (ad (15)), .ref (ad (16)), .ref (ad (17)), .ref (ad (18)), .ref (ad (19)), .ref (ad (20)), .ref (ad (21)), .ref (ad (22)), zi (bl), .ref (ad (23)), .ref (ad (24))]) ⟨hx, hb, hml, hown, hts⟩ hK hw (k_isPile l hl0 G I ad _ _ n hn6 σ hgs (cd) (bl) (Fmn) (Fsp) (Fms) (Fco) (Fst) (Fmo) (Fsk) (Fts) (Ftm) (Fjn) (Fpl) (Fgr) (Fab) hRel hM ⟨h8, h9, h10, h11, h12, h13, h14, h15, h16, h17, h18⟩ ⟨h19, h20, h21⟩ (a1) ⟨by omega, by omega⟩) (cwV 1 hts gX4_hold_X4_isPile rfl rfl rfl (by decide +kernel) ⟨Nat.le_of_ble_eq_true rfl, Nat.le_of_ble_eq_true rfl⟩) (hM 8 (by decide) (by decide)) h8 rfl rfl rfl hl.1 rfl (Nat.le_of_ble_eq_true rfl) dX4_hold_3 ⟨Nat.le_of_ble_eq_true rfl, Nat.le_of_ble_eq_true rfl⟩) hw (fun r_1 ct_2 H locs hP hw => ?_)
  obtain ⟨rfl, hct⟩ := hP
  rw [hct] at hw
  clear hct
  refine z_ifb_eq (tgt := 13) hx hb dX4_hold_6 (by decide) (fun c_3 => ?_) (fun c_3 => ?_)
  · refine z_ic hx hb dX4_hold_13 ?_
    refine z_put (C := RX4) (T := TX4) (N := 19) (fs := [zi (cd), zi (n), .ref (ad (9)), .ref (ad (10)), .ref (ad (11)), .ref (ad (12)), .ref (ad (13)), .ref (ad (14)), .ref (ad (15)), .ref (ad (16)), .ref (ad (17)), .ref (ad (18)), .ref (ad (19)), .ref (ad (20)), .ref (ad (21)), .ref (ad (22)), zi (bl), .ref (ad (23)), .ref (ad (24))]) (fs' := [zi (1), zi (n), .ref (ad (9)), .ref (ad (10)), .ref (ad (11)), .ref (ad (12)), .ref (ad (13)), .ref (ad (14)), .ref (ad (15)), .ref (ad (16)), .ref (ad (17)), .ref (ad (18)), .ref (ad (19)), .ref (ad (20)), .ref (ad (21)), .ref (ad (22)), zi (bl), .ref (ad (23)), .ref (ad (24))]) hx hb hts w_1 tyX4_ok nmX4 hown hK hw (hM 8 (by decide) (by decide)) h8 rfl 0 (by decide) w_0 rfl rfl rfl rfl (Nat.le_of_ble_eq_true rfl) rfl dX4_hold_14 (fun H locs hw => ?_)
    refine z_lc0 hx hb dX4_hold_17 ?_
    refine lv_lstore_n (lv' := [(2, zl (0)), (0, .ref (ad (8))), (1, zi (a1))]) hx hb dX4_hold_18 rfl hl (by decide) rfl (fun ls hl => ?_)
    refine z_ic hx hb dX4_hold_19 ?_
    refine lv_istore (lv' := [(4, zi (0)), (2, zl (0)), (0, .ref (ad (8))), (1, zi (a1))]) hx hb dX4_hold_20 hl (by decide) rfl (fun ls hl => ?_)
    refine lv_aload_n hx hb dX4_hold_22 rfl (lv_at hl 2 rfl) ?_
    refine z_get (C := RX4) (T := TX4) (N := 19) (fs := [zi (1), zi (n), .ref (ad (9)), .ref (ad (10)), .ref (ad (11)), .ref (ad (12)), .ref (ad (13)), .ref (ad (14)), .ref (ad (15)), .ref (ad (16)), .ref (ad (17)), .ref (ad (18)), .ref (ad (19)), .ref (ad (20)), .ref (ad (21)), .ref (ad (22)), zi (bl), .ref (ad (23)), .ref (ad (24))]) hx hb hts w_1 hown hK hw (hM 8 (by decide) (by decide)) (zU_s _ _ _) rfl 0 (by decide) w_0 rfl rfl dX4_hold_23 ?_
    refine z_if_ne (tgt := 69) hx hb dX4_hold_26 (by decide) ⟨by decide, by decide⟩ (fun c_4 => ?_) (fun c_4 => ?_)
    · refine lv_lload_n hx hb dX4_hold_69 rfl (lv_at hl 1 rfl) ?_
      refine z_l2i hx hb dX4_hold_70 ⟨by decide, by decide⟩ ?_
      exact z_iret hx hb hlk hr hw dX4_hold_71 (Nat.le_of_ble_eq_true rfl) (Nat.le_of_ble_eq_true rfl) ⟨rfl, _, rfl, ⟨1, Or.inr ⟨by omega, rfl⟩, rfl⟩⟩
    · exact absurd c_4 (by decide)
  · refine z_ic hx hb dX4_hold_9 ?_
    refine lv_goto (tgt := 14) hx hb dX4_hold_10 (by decide) ?_
    refine z_put (C := RX4) (T := TX4) (N := 19) (fs := [zi (cd), zi (n), .ref (ad (9)), .ref (ad (10)), .ref (ad (11)), .ref (ad (12)), .ref (ad (13)), .ref (ad (14)), .ref (ad (15)), .ref (ad (16)), .ref (ad (17)), .ref (ad (18)), .ref (ad (19)), .ref (ad (20)), .ref (ad (21)), .ref (ad (22)), zi (bl), .ref (ad (23)), .ref (ad (24))]) (fs' := [zi (0), zi (n), .ref (ad (9)), .ref (ad (10)), .ref (ad (11)), .ref (ad (12)), .ref (ad (13)), .ref (ad (14)), .ref (ad (15)), .ref (ad (16)), .ref (ad (17)), .ref (ad (18)), .ref (ad (19)), .ref (ad (20)), .ref (ad (21)), .ref (ad (22)), zi (bl), .ref (ad (23)), .ref (ad (24))]) hx hb hts w_1 tyX4_ok nmX4 hown hK hw (hM 8 (by decide) (by decide)) h8 rfl 0 (by decide) w_0 rfl rfl rfl rfl (Nat.le_of_ble_eq_true rfl) rfl dX4_hold_14 (fun H locs hw => ?_)
    have hg := hgs ((a1).toNat) (by omega)
    have hg0 := hg
    obtain ⟨⟨g1, g2⟩, ⟨g3, g4⟩, ⟨g5, g6⟩, ⟨g7, g8⟩, ⟨g9, g10⟩, ⟨g11, g12⟩, g13, g14, g15, g16⟩ := hg0
    have gn : ((σ ((a1).toNat)).1 : Int) = pn (σ ((a1).toNat)) := rfl
    have hr0 := hRel ((a1).toNat) (by omega)
    rw [show ((((a1).toNat) : Nat) : Int) = a1 by omega] at hr0
    obtain ⟨r1, r2, r3, r4, r5, r6, r7, r8⟩ := hr0
    refine z_lc0 hx hb dX4_hold_17 ?_
    refine lv_lstore_n (lv' := [(2, zl (0)), (0, .ref (ad (8))), (1, zi (a1))]) hx hb dX4_hold_18 rfl hl (by decide) rfl (fun ls hl => ?_)
    refine z_ic hx hb dX4_hold_19 ?_
    refine lv_istore (lv' := [(4, zi (0)), (2, zl (0)), (0, .ref (ad (8))), (1, zi (a1))]) hx hb dX4_hold_20 hl (by decide) rfl (fun ls hl => ?_)
    have L22 : ∀ (nn : Nat) (K : Nat) (i : Int) (sm : Int), ((σ (a1).toNat).1 - K) < nn → (i = K) → (K ≤ (σ (a1).toNat).1) → (sm = zho (σ (a1).toNat) K) → ∀ (H : Heap) (locs : List Loc), zW G A s.heap H locs I ad (zU ct (8) (.inr (4, [zi (0), zi (n), .ref (ad (9)), .ref (ad (10)), .ref (ad (11)), .ref (ad (12)), .ref (ad (13)), .ref (ad (14)), .ref (ad (15)), .ref (ad (16)), .ref (ad (17)), .ref (ad (18)), .ref (ad (19)), .ref (ad (20)), .ref (ad (21)), .ref (ad (22)), zi (bl), .ref (ad (23)), .ref (ad (24))]))) → ∀ ls, lv_has ls 5 [(0, .ref (ad (8))), (1, zi (a1)), (2, zl (sm)), (4, zi (i))] → W p l e ({ frames := 2, cells := 0, slots := 0, locals := 46 } : Room) s m args below meth c H locs 0 0 (vx_MQ below (zQ G A ad (zk I (zqi fun z u => ∃ (cd9 : Int), (((0 ≤ a1 ∧ a1 < n) ∧ cd9 = 0 ∧ z = zho (σ (a1).toNat) (σ (a1).toNat).1) ∨ (¬ (0 ≤ a1 ∧ a1 < n) ∧ cd9 = 1)) ∧ u = zU ct 8 (zmo ad n cd9 bl)))) (zX G A I ad ct zno) args s 0 0 A) (F0 m 22 ls []) := by
      intro nn
      induction nn with
      | zero => intro K i sm hme; exact absurd hme (Nat.not_lt_zero _)
      | succ nn ih22 =>
        intro K i sm hme22 hi hK9 hsm H locs hw ls hl
        have bh := zho_bd hg K
        refine lv_aload_n hx hb dX4_hold_22 rfl (lv_at hl 0 rfl) ?_
        refine z_get (C := RX4) (T := TX4) (N := 19) (fs := [zi (0), zi (n), .ref (ad (9)), .ref (ad (10)), .ref (ad (11)), .ref (ad (12)), .ref (ad (13)), .ref (ad (14)), .ref (ad (15)), .ref (ad (16)), .ref (ad (17)), .ref (ad (18)), .ref (ad (19)), .ref (ad (20)), .ref (ad (21)), .ref (ad (22)), zi (bl), .ref (ad (23)), .ref (ad (24))]) hx hb hts w_1 hown hK hw (hM 8 (by decide) (by decide)) (zU_s _ _ _) rfl 0 (by decide) w_0 rfl rfl dX4_hold_23 ?_
        refine z_if_ne (tgt := 69) hx hb dX4_hold_26 (by decide) ⟨by decide, by decide⟩ (fun c_5 => ?_) (fun c_5 => ?_)
        · exact absurd c_5 (by decide)
        · refine lv_iload hx hb dX4_hold_29 (lv_at hl 3 rfl) ?_
          refine lv_aload_n hx hb dX4_hold_31 rfl (lv_at hl 0 rfl) ?_
          refine z_get (C := RX4) (T := TX4) (N := 19) (fs := [zi (0), zi (n), .ref (ad (9)), .ref (ad (10)), .ref (ad (11)), .ref (ad (12)), .ref (ad (13)), .ref (ad (14)), .ref (ad (15)), .ref (ad (16)), .ref (ad (17)), .ref (ad (18)), .ref (ad (19)), .ref (ad (20)), .ref (ad (21)), .ref (ad (22)), zi (bl), .ref (ad (23)), .ref (ad (24))]) hx hb hts w_1 hown hK hw (hM 8 (by decide) (by decide)) (zU_s _ _ _) rfl 2 (by decide) w_2 rfl rfl dX4_hold_32 ?_
          refine lv_iload_n hx hb dX4_hold_35 rfl (lv_at hl 1 rfl) ?_
          refine z_iald (f := Fmn) hx hb hK hw (hM 9 (by decide) (by decide)) (zU_n (by decide) h9) (by omega) (by omega) (by decide) dX4_hold_36 ?_
          rw [show (Fmn (a1) : Int) = pn (σ (a1).toNat) from r1]
          refine z_icmp_ge (tgt := 69) hx hb dX4_hold_37 (by decide) ⟨by omega, by omega⟩ ⟨by omega, by omega⟩ (fun c_6 => ?_) (fun c_6 => ?_)
          · refine lv_lload_n hx hb dX4_hold_69 rfl (lv_at hl 2 rfl) ?_
            refine z_l2i hx hb dX4_hold_70 ⟨by omega, by omega⟩ ?_
            exact z_iret hx hb hlk hr hw dX4_hold_71 (Nat.le_of_ble_eq_true rfl) (Nat.le_of_ble_eq_true rfl) ⟨rfl, _, rfl, ⟨0, Or.inl ⟨by omega, rfl, by rw [hsm, show K = (σ (a1).toNat).1 by omega]⟩, rfl⟩⟩
          · refine lv_lload_n hx hb dX4_hold_40 rfl (lv_at hl 2 rfl) ?_
            refine lv_aload_n hx hb dX4_hold_41 rfl (lv_at hl 0 rfl) ?_
            refine z_get (C := RX4) (T := TX4) (N := 19) (fs := [zi (0), zi (n), .ref (ad (9)), .ref (ad (10)), .ref (ad (11)), .ref (ad (12)), .ref (ad (13)), .ref (ad (14)), .ref (ad (15)), .ref (ad (16)), .ref (ad (17)), .ref (ad (18)), .ref (ad (19)), .ref (ad (20)), .ref (ad (21)), .ref (ad (22)), zi (bl), .ref (ad (23)), .ref (ad (24))]) hx hb hts w_1 hown hK hw (hM 8 (by decide) (by decide)) (zU_s _ _ _) rfl 7 (by decide) w_3 rfl rfl dX4_hold_42 ?_
            refine z_bi hx hb dX4_hold_45 (by decide) ?_
            refine lv_iload_n hx hb dX4_hold_47 rfl (lv_at hl 1 rfl) ?_
            refine z_imul hx hb dX4_hold_48 ?_
            refine lv_iload hx hb dX4_hold_49 (lv_at hl 3 rfl) ?_
            refine z_iadd hx hb dX4_hold_51 ?_
            refine z_lald (f := Fmo) hx hb hK hw (hM 14 (by decide) (by decide)) (zU_n (by decide) h14) (by omega) (by omega) (by decide) dX4_hold_52 ?_
            rw [show (Fmo (((12) * (a1)) + (i)) : Int) = pmo (σ (a1).toNat) (i) from (r8 (i) (by omega) (by omega)).2.1]
            have b1 := g15 (i)
            refine z_ldc2 (n := 7) hx hb hown w_4 (by decide) dX4_hold_53 ?_
            refine z_lmul hx hb dX4_hold_56 ?_
            refine z_ldc2 (n := 10) hx hb hown w_5 (by decide) dX4_hold_57 ?_
            refine z_ldiv hx hb dX4_hold_60 ⟨by omega, by omega⟩ ⟨by decide, by decide⟩ (by decide) ?_
            refine z_ladd hx hb dX4_hold_61 ?_
            refine lv_lstore_n (lv' := [(2, zl ((sm) + (((pmo (σ (a1).toNat) (i)) * (7)).tdiv (10)))), (0, .ref (ad (8))), (1, zi (a1)), (4, zi (i))]) hx hb dX4_hold_62 rfl hl (by decide) rfl (fun ls hl => ?_)
            refine z_iinc (lv' := [(4, zi (i + 1)), (2, zl ((sm) + (((pmo (σ (a1).toNat) (i)) * (7)).tdiv (10)))), (0, .ref (ad (8))), (1, zi (a1))]) hx hb dX4_hold_63 hl (k := 3) rfl (by decide) rfl (fun ls hl => ?_)
            refine lv_goto (tgt := 22) hx hb dX4_hold_66 (by decide) ?_
            exact ih22 (K + 1) (i + 1) ((sm) + (((pmo (σ (a1).toNat) (i)) * (7)).tdiv (10))) (by omega) (by omega) (by omega) (by rw [hsm, hi, Int.mul_comm (pmo (σ (a1).toNat) K) 7]; rfl) _ _ hw _ (lv_sub hl [2, 3, 1, 0] rfl)
    exact L22 _ (0) (0) (0) (Nat.lt_succ_self _) rfl (by omega) rfl _ _ hw _ (lv_sub hl [2, 3, 1, 0] rfl)

set_option maxHeartbeats 4000000 in
set_option maxRecDepth 100000 in
theorem m_ground (l : Launch) (hl0 : l.stackTraces = false) (G : zG) (I : List Nat) (ad : Nat → Nat) (ct : Nat → va_E) (sz : Nat) (n : Nat) (hn6 : n ≤ 6) (σ : Nat → zPl) (hgs : ∀ p : Nat, p < n → zGood (σ p)) (cd bl : Int) (Fmn Fsp Fms Fco Fst Fmo Fsk Fts Ftm Fjn Fpl Fgr Fab : Int → Int) (hRel : zMrel n σ Fmn Fsp Fms Fco Fst Fmo Fsk Fts Ftm Fjn) (hM : ∀ j : Nat, 8 ≤ j → j ≤ 24 → j ∈ I) (hms : zMst G ad ct n cd bl Fmn Fsp Fms Fco Fst Fmo Fsk Fts Ftm Fjn) (hmc : zMsc G ct Fpl Fgr Fab) (a1 a2 a3 a4 : Int) (hz1 : zr a1) (hz2 : zr a2) (hz3 : zr a3) (hz4 : zr a4) : zN l yX4_ground wsX4_ground 3 68 0 0 G [.ref (ad (8)), zi (a1), zi (a2), zi (a3), zi (a4)] I ad ct zno sz (zk I (zqv fun u => ((((0 ≤ a1 ∧ a1 < n) ∧ (0 ≤ a2 ∧ a2 < pn (σ (a1).toNat))) ∧ (0 ≤ a3 ∧ a3 ≤ 1000) ∧ (0 ≤ a4 ∧ a4 ≤ 100000)) ∧ u = zU (zU (zU ct 8 (zmo ad n (0) bl)) 13 (zL G 72 (zup Fst (12 * a1 + a2) a3))) 14 (zL G 72 (zup Fmo (12 * a1 + a2) a4))) ∨ (¬ (((0 ≤ a1 ∧ a1 < n) ∧ (0 ≤ a2 ∧ a2 < pn (σ (a1).toNat))) ∧ (0 ≤ a3 ∧ a3 ≤ 1000) ∧ (0 ≤ a4 ∧ a4 ≤ 100000)) ∧ u = zU ct 8 (zmo ad n (1) bl)))) := by
  obtain ⟨h8, h9, h10, h11, h12, h13, h14, h15, h16, h17, h18⟩ := hms
  obtain ⟨h19, h20, h21⟩ := hmc
  refine z_ofW (ret := none) hl0 (by decide +kernel) rfl (Nat.le_of_ble_eq_true rfl) ?_
  intro p e s m args below meth c A ls hA0 hsz hF hr hout hnm hw hl
  obtain ⟨hx, hb, hml, hown, hts, hK, hlk, hst⟩ := hF
  have hown : s.vm.findClass RX4 = some m.cls := hown
  have hl : lv_has ls 5 [(0, .ref (ad (8))), (1, zi (a1)), (2, zi (a2)), (3, zi (a3)), (4, zi (a4))] := hl
  have w_0 := hts (.fieldLink RX4 65 "PileMovesModel" "code" "I") (by decide +kernel)
  have w_1 : ∀ w ∈ wsX40, w ∈ wsX4_ground := by decide +kernel
  have w_2 := hts (.constantLong RX4 83 (1000)) (by decide +kernel)
  have w_3 := hts (.constantLong RX4 85 (100000)) (by decide +kernel)
  have w_4 := hts (.fieldLink RX4 23 "PileMovesModel" "stiff" "[J") (by decide +kernel)
  have w_5 := hts (.fieldLink RX4 26 "PileMovesModel" "most" "[J") (by decide +kernel)
  refine lv_aload_n hx hb dX4_ground_0 rfl (lv_at hl 0 rfl) ?_
  refine lv_aload_n hx hb dX4_ground_1 rfl (lv_at hl 0 rfl) ?_
  refine lv_iload_n hx hb dX4_ground_2 rfl (lv_at hl 1 rfl) ?_
  refine lv_iload_n hx hb dX4_ground_3 rfl (lv_at hl 2 rfl) ?_
  refine z_kI (z_runV (As := [zi (a1), zi (a2)]) (rest := [.ref (ad (8))]) (k := 8) (fs := [zi (cd), zi (n), .ref (ad (9)), .ref (ad (10)), .ref (ad (11)), .ref (ad (12)), .ref (ad (13)), .ref (ad (14)), .ref (ad (15)), .ref (ad (16)), .ref (ad (17)), .ref (ad (18)), .ref (ad (19)), .ref (ad (20)), .ref (ad (21)), .ref (ad (22)), zi (bl), .ref (ad (23)), .ref (ad (24))]) ⟨hx, hb, hml, hown, hts⟩ hK hw (k_isPiece l hl0 G I ad _ _ n hn6 σ hgs (cd) (bl) (Fmn) (Fsp) (Fms) (Fco) (Fst) (Fmo) (Fsk) (Fts) (Ftm) (Fjn) (Fpl) (Fgr) (Fab) hRel hM ⟨h8, h9, h10, h11, h12, h13, h14, h15, h16, h17, h18⟩ ⟨h19, h20, h21⟩ (a1) (a2) ⟨by omega, by omega⟩ ⟨by omega, by omega⟩) (cwV 2 hts gX4_ground_X4_isPiece rfl rfl rfl (by decide +kernel) ⟨Nat.le_of_ble_eq_true rfl, Nat.le_of_ble_eq_true rfl⟩) (hM 8 (by decide) (by decide)) h8 rfl rfl rfl hl.1 rfl (Nat.le_of_ble_eq_true rfl) dX4_ground_4 ⟨Nat.le_of_ble_eq_true rfl, Nat.le_of_ble_eq_true rfl⟩) hw (fun r_1 ct_2 H locs hP hw => ?_)
  obtain ⟨rfl, hct⟩ := hP
  rw [hct] at hw
  clear hct
  refine z_ifb_eq (tgt := 39) hx hb dX4_ground_7 (by decide) (fun c_3 => ?_) (fun c_3 => ?_)
  · refine z_ic hx hb dX4_ground_39 ?_
    refine z_put (C := RX4) (T := TX4) (N := 19) (fs := [zi (cd), zi (n), .ref (ad (9)), .ref (ad (10)), .ref (ad (11)), .ref (ad (12)), .ref (ad (13)), .ref (ad (14)), .ref (ad (15)), .ref (ad (16)), .ref (ad (17)), .ref (ad (18)), .ref (ad (19)), .ref (ad (20)), .ref (ad (21)), .ref (ad (22)), zi (bl), .ref (ad (23)), .ref (ad (24))]) (fs' := [zi (1), zi (n), .ref (ad (9)), .ref (ad (10)), .ref (ad (11)), .ref (ad (12)), .ref (ad (13)), .ref (ad (14)), .ref (ad (15)), .ref (ad (16)), .ref (ad (17)), .ref (ad (18)), .ref (ad (19)), .ref (ad (20)), .ref (ad (21)), .ref (ad (22)), zi (bl), .ref (ad (23)), .ref (ad (24))]) hx hb hts w_1 tyX4_ok nmX4 hown hK hw (hM 8 (by decide) (by decide)) h8 rfl 0 (by decide) w_0 rfl rfl rfl rfl (Nat.le_of_ble_eq_true rfl) rfl dX4_ground_40 (fun H locs hw => ?_)
    refine lv_aload_n hx hb dX4_ground_43 rfl (lv_at hl 0 rfl) ?_
    refine z_get (C := RX4) (T := TX4) (N := 19) (fs := [zi (1), zi (n), .ref (ad (9)), .ref (ad (10)), .ref (ad (11)), .ref (ad (12)), .ref (ad (13)), .ref (ad (14)), .ref (ad (15)), .ref (ad (16)), .ref (ad (17)), .ref (ad (18)), .ref (ad (19)), .ref (ad (20)), .ref (ad (21)), .ref (ad (22)), zi (bl), .ref (ad (23)), .ref (ad (24))]) hx hb hts w_1 hown hK hw (hM 8 (by decide) (by decide)) (zU_s _ _ _) rfl 0 (by decide) w_0 rfl rfl dX4_ground_44 ?_
    refine z_if_ne (tgt := 77) hx hb dX4_ground_47 (by decide) ⟨by decide, by decide⟩ (fun c_4 => ?_) (fun c_4 => ?_)
    · exact z_vret hx hb hlk hr hw dX4_ground_77 (Nat.le_of_ble_eq_true rfl) (Nat.le_of_ble_eq_true rfl) ⟨rfl, rfl, Or.inr ⟨by omega, rfl⟩⟩
    · exact absurd c_4 (by decide)
  · refine lv_iload_n hx hb dX4_ground_10 rfl (lv_at hl 3 rfl) ?_
    refine z_i2l hx hb dX4_ground_11 ⟨by omega, by omega⟩ ?_
    refine z_lc0 hx hb dX4_ground_12 ?_
    refine z_ldc2 (n := 1000) hx hb hown w_2 (by decide) dX4_ground_13 ?_
    refine z_kI (z_runS (As := [zl (a3), zl (0), zl (1000)]) (rest := [.ref (ad (8))]) ⟨hx, hb, hml, hown, hts⟩ hK hw (k_in l hl0 G I ad _ _ (a3) (0) (1000) ⟨by omega, by omega⟩ ⟨by decide, by decide⟩ ⟨by decide, by decide⟩) (va_cwS 3 hts gX4_ground_X4_in rfl rfl rfl (by decide +kernel) ⟨Nat.le_of_ble_eq_true rfl, Nat.le_of_ble_eq_true rfl⟩) rfl hl.1 rfl (Nat.le_of_ble_eq_true rfl) dX4_ground_16 ⟨Nat.le_of_ble_eq_true rfl, Nat.le_of_ble_eq_true rfl⟩) hw (fun r_5 ct_6 H locs hP hw => ?_)
    obtain ⟨rfl, hct⟩ := hP
    rw [hct] at hw
    clear hct
    refine z_ifb_eq (tgt := 39) hx hb dX4_ground_19 (by decide) (fun c_7 => ?_) (fun c_7 => ?_)
    · refine z_ic hx hb dX4_ground_39 ?_
      refine z_put (C := RX4) (T := TX4) (N := 19) (fs := [zi (cd), zi (n), .ref (ad (9)), .ref (ad (10)), .ref (ad (11)), .ref (ad (12)), .ref (ad (13)), .ref (ad (14)), .ref (ad (15)), .ref (ad (16)), .ref (ad (17)), .ref (ad (18)), .ref (ad (19)), .ref (ad (20)), .ref (ad (21)), .ref (ad (22)), zi (bl), .ref (ad (23)), .ref (ad (24))]) (fs' := [zi (1), zi (n), .ref (ad (9)), .ref (ad (10)), .ref (ad (11)), .ref (ad (12)), .ref (ad (13)), .ref (ad (14)), .ref (ad (15)), .ref (ad (16)), .ref (ad (17)), .ref (ad (18)), .ref (ad (19)), .ref (ad (20)), .ref (ad (21)), .ref (ad (22)), zi (bl), .ref (ad (23)), .ref (ad (24))]) hx hb hts w_1 tyX4_ok nmX4 hown hK hw (hM 8 (by decide) (by decide)) h8 rfl 0 (by decide) w_0 rfl rfl rfl rfl (Nat.le_of_ble_eq_true rfl) rfl dX4_ground_40 (fun H locs hw => ?_)
      refine lv_aload_n hx hb dX4_ground_43 rfl (lv_at hl 0 rfl) ?_
      refine z_get (C := RX4) (T := TX4) (N := 19) (fs := [zi (1), zi (n), .ref (ad (9)), .ref (ad (10)), .ref (ad (11)), .ref (ad (12)), .ref (ad (13)), .ref (ad (14)), .ref (ad (15)), .ref (ad (16)), .ref (ad (17)), .ref (ad (18)), .ref (ad (19)), .ref (ad (20)), .ref (ad (21)), .ref (ad (22)), zi (bl), .ref (ad (23)), .ref (ad (24))]) hx hb hts w_1 hown hK hw (hM 8 (by decide) (by decide)) (zU_s _ _ _) rfl 0 (by decide) w_0 rfl rfl dX4_ground_44 ?_
      refine z_if_ne (tgt := 77) hx hb dX4_ground_47 (by decide) ⟨by decide, by decide⟩ (fun c_8 => ?_) (fun c_8 => ?_)
      · exact z_vret hx hb hlk hr hw dX4_ground_77 (Nat.le_of_ble_eq_true rfl) (Nat.le_of_ble_eq_true rfl) ⟨rfl, rfl, Or.inr ⟨by omega, rfl⟩⟩
      · exact absurd c_8 (by decide)
    · refine lv_iload hx hb dX4_ground_22 (lv_at hl 4 rfl) ?_
      refine z_i2l hx hb dX4_ground_24 ⟨by omega, by omega⟩ ?_
      refine z_lc0 hx hb dX4_ground_25 ?_
      refine z_ldc2 (n := 100000) hx hb hown w_3 (by decide) dX4_ground_26 ?_
      refine z_kI (z_runS (As := [zl (a4), zl (0), zl (100000)]) (rest := [.ref (ad (8))]) ⟨hx, hb, hml, hown, hts⟩ hK hw (k_in l hl0 G I ad _ _ (a4) (0) (100000) ⟨by omega, by omega⟩ ⟨by decide, by decide⟩ ⟨by decide, by decide⟩) (va_cwS 3 hts gX4_ground_X4_in rfl rfl rfl (by decide +kernel) ⟨Nat.le_of_ble_eq_true rfl, Nat.le_of_ble_eq_true rfl⟩) rfl hl.1 rfl (Nat.le_of_ble_eq_true rfl) dX4_ground_29 ⟨Nat.le_of_ble_eq_true rfl, Nat.le_of_ble_eq_true rfl⟩) hw (fun r_9 ct_10 H locs hP hw => ?_)
      obtain ⟨rfl, hct⟩ := hP
      rw [hct] at hw
      clear hct
      refine z_ifb_eq (tgt := 39) hx hb dX4_ground_32 (by decide) (fun c_11 => ?_) (fun c_11 => ?_)
      · refine z_ic hx hb dX4_ground_39 ?_
        refine z_put (C := RX4) (T := TX4) (N := 19) (fs := [zi (cd), zi (n), .ref (ad (9)), .ref (ad (10)), .ref (ad (11)), .ref (ad (12)), .ref (ad (13)), .ref (ad (14)), .ref (ad (15)), .ref (ad (16)), .ref (ad (17)), .ref (ad (18)), .ref (ad (19)), .ref (ad (20)), .ref (ad (21)), .ref (ad (22)), zi (bl), .ref (ad (23)), .ref (ad (24))]) (fs' := [zi (1), zi (n), .ref (ad (9)), .ref (ad (10)), .ref (ad (11)), .ref (ad (12)), .ref (ad (13)), .ref (ad (14)), .ref (ad (15)), .ref (ad (16)), .ref (ad (17)), .ref (ad (18)), .ref (ad (19)), .ref (ad (20)), .ref (ad (21)), .ref (ad (22)), zi (bl), .ref (ad (23)), .ref (ad (24))]) hx hb hts w_1 tyX4_ok nmX4 hown hK hw (hM 8 (by decide) (by decide)) h8 rfl 0 (by decide) w_0 rfl rfl rfl rfl (Nat.le_of_ble_eq_true rfl) rfl dX4_ground_40 (fun H locs hw => ?_)
        refine lv_aload_n hx hb dX4_ground_43 rfl (lv_at hl 0 rfl) ?_
        refine z_get (C := RX4) (T := TX4) (N := 19) (fs := [zi (1), zi (n), .ref (ad (9)), .ref (ad (10)), .ref (ad (11)), .ref (ad (12)), .ref (ad (13)), .ref (ad (14)), .ref (ad (15)), .ref (ad (16)), .ref (ad (17)), .ref (ad (18)), .ref (ad (19)), .ref (ad (20)), .ref (ad (21)), .ref (ad (22)), zi (bl), .ref (ad (23)), .ref (ad (24))]) hx hb hts w_1 hown hK hw (hM 8 (by decide) (by decide)) (zU_s _ _ _) rfl 0 (by decide) w_0 rfl rfl dX4_ground_44 ?_
        refine z_if_ne (tgt := 77) hx hb dX4_ground_47 (by decide) ⟨by decide, by decide⟩ (fun c_12 => ?_) (fun c_12 => ?_)
        · exact z_vret hx hb hlk hr hw dX4_ground_77 (Nat.le_of_ble_eq_true rfl) (Nat.le_of_ble_eq_true rfl) ⟨rfl, rfl, Or.inr ⟨by omega, rfl⟩⟩
        · exact absurd c_12 (by decide)
      · refine z_ic hx hb dX4_ground_35 ?_
        refine lv_goto (tgt := 40) hx hb dX4_ground_36 (by decide) ?_
        refine z_put (C := RX4) (T := TX4) (N := 19) (fs := [zi (cd), zi (n), .ref (ad (9)), .ref (ad (10)), .ref (ad (11)), .ref (ad (12)), .ref (ad (13)), .ref (ad (14)), .ref (ad (15)), .ref (ad (16)), .ref (ad (17)), .ref (ad (18)), .ref (ad (19)), .ref (ad (20)), .ref (ad (21)), .ref (ad (22)), zi (bl), .ref (ad (23)), .ref (ad (24))]) (fs' := [zi (0), zi (n), .ref (ad (9)), .ref (ad (10)), .ref (ad (11)), .ref (ad (12)), .ref (ad (13)), .ref (ad (14)), .ref (ad (15)), .ref (ad (16)), .ref (ad (17)), .ref (ad (18)), .ref (ad (19)), .ref (ad (20)), .ref (ad (21)), .ref (ad (22)), zi (bl), .ref (ad (23)), .ref (ad (24))]) hx hb hts w_1 tyX4_ok nmX4 hown hK hw (hM 8 (by decide) (by decide)) h8 rfl 0 (by decide) w_0 rfl rfl rfl rfl (Nat.le_of_ble_eq_true rfl) rfl dX4_ground_40 (fun H locs hw => ?_)
        refine lv_aload_n hx hb dX4_ground_43 rfl (lv_at hl 0 rfl) ?_
        refine z_get (C := RX4) (T := TX4) (N := 19) (fs := [zi (0), zi (n), .ref (ad (9)), .ref (ad (10)), .ref (ad (11)), .ref (ad (12)), .ref (ad (13)), .ref (ad (14)), .ref (ad (15)), .ref (ad (16)), .ref (ad (17)), .ref (ad (18)), .ref (ad (19)), .ref (ad (20)), .ref (ad (21)), .ref (ad (22)), zi (bl), .ref (ad (23)), .ref (ad (24))]) hx hb hts w_1 hown hK hw (hM 8 (by decide) (by decide)) (zU_s _ _ _) rfl 0 (by decide) w_0 rfl rfl dX4_ground_44 ?_
        refine z_if_ne (tgt := 77) hx hb dX4_ground_47 (by decide) ⟨by decide, by decide⟩ (fun c_13 => ?_) (fun c_13 => ?_)
        · exact absurd c_13 (by decide)
        · have hg := hgs ((a1).toNat) (by omega)
          have hg0 := hg
          obtain ⟨⟨g1, g2⟩, ⟨g3, g4⟩, ⟨g5, g6⟩, ⟨g7, g8⟩, ⟨g9, g10⟩, ⟨g11, g12⟩, g13, g14, g15, g16⟩ := hg0
          have gn : ((σ ((a1).toNat)).1 : Int) = pn (σ ((a1).toNat)) := rfl
          have hr0 := hRel ((a1).toNat) (by omega)
          rw [show ((((a1).toNat) : Nat) : Int) = a1 by omega] at hr0
          obtain ⟨r1, r2, r3, r4, r5, r6, r7, r8⟩ := hr0
          refine lv_aload_n hx hb dX4_ground_50 rfl (lv_at hl 0 rfl) ?_
          refine z_get (C := RX4) (T := TX4) (N := 19) (fs := [zi (0), zi (n), .ref (ad (9)), .ref (ad (10)), .ref (ad (11)), .ref (ad (12)), .ref (ad (13)), .ref (ad (14)), .ref (ad (15)), .ref (ad (16)), .ref (ad (17)), .ref (ad (18)), .ref (ad (19)), .ref (ad (20)), .ref (ad (21)), .ref (ad (22)), zi (bl), .ref (ad (23)), .ref (ad (24))]) hx hb hts w_1 hown hK hw (hM 8 (by decide) (by decide)) (zU_s _ _ _) rfl 6 (by decide) w_4 rfl rfl dX4_ground_51 ?_
          refine z_bi hx hb dX4_ground_54 (by decide) ?_
          refine lv_iload_n hx hb dX4_ground_56 rfl (lv_at hl 1 rfl) ?_
          refine z_imul hx hb dX4_ground_57 ?_
          refine lv_iload_n hx hb dX4_ground_58 rfl (lv_at hl 2 rfl) ?_
          refine z_iadd hx hb dX4_ground_59 ?_
          refine lv_iload_n hx hb dX4_ground_60 rfl (lv_at hl 3 rfl) ?_
          refine z_i2l hx hb dX4_ground_61 ⟨by omega, by omega⟩ ?_
          refine z_last (f := Fst) hx hb hK hw (hM 13 (by decide) (by decide)) (zU_n (by decide) h13) (by omega) (by omega) (by decide) dX4_ground_62 (fun H locs hw => ?_)
          refine lv_aload_n hx hb dX4_ground_63 rfl (lv_at hl 0 rfl) ?_
          refine z_get (C := RX4) (T := TX4) (N := 19) (fs := [zi (0), zi (n), .ref (ad (9)), .ref (ad (10)), .ref (ad (11)), .ref (ad (12)), .ref (ad (13)), .ref (ad (14)), .ref (ad (15)), .ref (ad (16)), .ref (ad (17)), .ref (ad (18)), .ref (ad (19)), .ref (ad (20)), .ref (ad (21)), .ref (ad (22)), zi (bl), .ref (ad (23)), .ref (ad (24))]) hx hb hts w_1 hown hK hw (hM 8 (by decide) (by decide)) (zU_n (by decide) (zU_s _ _ _)) rfl 7 (by decide) w_5 rfl rfl dX4_ground_64 ?_
          refine z_bi hx hb dX4_ground_67 (by decide) ?_
          refine lv_iload_n hx hb dX4_ground_69 rfl (lv_at hl 1 rfl) ?_
          refine z_imul hx hb dX4_ground_70 ?_
          refine lv_iload_n hx hb dX4_ground_71 rfl (lv_at hl 2 rfl) ?_
          refine z_iadd hx hb dX4_ground_72 ?_
          refine lv_iload hx hb dX4_ground_73 (lv_at hl 4 rfl) ?_
          refine z_i2l hx hb dX4_ground_75 ⟨by omega, by omega⟩ ?_
          refine z_last (f := Fmo) hx hb hK hw (hM 14 (by decide) (by decide)) (zU_n (by decide) (zU_n (by decide) h14)) (by omega) (by omega) (by decide) dX4_ground_76 (fun H locs hw => ?_)
          exact z_vret hx hb hlk hr hw dX4_ground_77 (Nat.le_of_ble_eq_true rfl) (Nat.le_of_ble_eq_true rfl) ⟨rfl, rfl, Or.inl ⟨by omega, rfl⟩⟩

set_option maxHeartbeats 4000000 in
set_option maxRecDepth 100000 in
theorem m_sinks (l : Launch) (hl0 : l.stackTraces = false) (G : zG) (I : List Nat) (ad : Nat → Nat) (ct : Nat → va_E) (sz : Nat) (n : Nat) (hn6 : n ≤ 6) (σ : Nat → zPl) (hgs : ∀ p : Nat, p < n → zGood (σ p)) (cd bl : Int) (Fmn Fsp Fms Fco Fst Fmo Fsk Fts Ftm Fjn Fpl Fgr Fab : Int → Int) (hRel : zMrel n σ Fmn Fsp Fms Fco Fst Fmo Fsk Fts Ftm Fjn) (hM : ∀ j : Nat, 8 ≤ j → j ≤ 24 → j ∈ I) (hms : zMst G ad ct n cd bl Fmn Fsp Fms Fco Fst Fmo Fsk Fts Ftm Fjn) (hmc : zMsc G ct Fpl Fgr Fab) (a1 a2 a3 : Int) (hz1 : zr a1) (hz2 : zr a2) (hz3 : zr a3) : zN l yX4_sinks wsX4_sinks 3 68 0 0 G [.ref (ad (8)), zi (a1), zi (a2), zi (a3)] I ad ct zno sz (zk I (zqi fun z u => ((((0 ≤ a1 ∧ a1 < n) ∧ (0 ≤ a2 ∧ a2 < pn (σ (a1).toNat))) ∧ (0 ≤ a3 ∧ a3 ≤ 10000)) ∧ z = psk (σ (a1).toNat) a2 ∧ u = zU (zU ct 8 (zmo ad n (0) bl)) 15 (zL G 72 (zup Fsk (12 * a1 + a2) a3))) ∨ (¬ (((0 ≤ a1 ∧ a1 < n) ∧ (0 ≤ a2 ∧ a2 < pn (σ (a1).toNat))) ∧ (0 ≤ a3 ∧ a3 ≤ 10000)) ∧ u = zU ct 8 (zmo ad n (1) bl)))) := by
  obtain ⟨h8, h9, h10, h11, h12, h13, h14, h15, h16, h17, h18⟩ := hms
  obtain ⟨h19, h20, h21⟩ := hmc
  refine z_ofW (ret := (some .int)) hl0 (by decide +kernel) rfl (Nat.le_of_ble_eq_true rfl) ?_
  intro p e s m args below meth c A ls hA0 hsz hF hr hout hnm hw hl
  obtain ⟨hx, hb, hml, hown, hts, hK, hlk, hst⟩ := hF
  have hown : s.vm.findClass RX4 = some m.cls := hown
  have hl : lv_has ls 6 [(0, .ref (ad (8))), (1, zi (a1)), (2, zi (a2)), (3, zi (a3))] := hl
  have w_0 := hts (.fieldLink RX4 65 "PileMovesModel" "code" "I") (by decide +kernel)
  have w_1 : ∀ w ∈ wsX40, w ∈ wsX4_sinks := by decide +kernel
  have w_2 := hts (.constantLong RX4 81 (10000)) (by decide +kernel)
  have w_3 := hts (.fieldLink RX4 29 "PileMovesModel" "sinks" "[J") (by decide +kernel)
  refine lv_aload_n hx hb dX4_sinks_0 rfl (lv_at hl 0 rfl) ?_
  refine lv_aload_n hx hb dX4_sinks_1 rfl (lv_at hl 0 rfl) ?_
  refine lv_iload_n hx hb dX4_sinks_2 rfl (lv_at hl 1 rfl) ?_
  refine lv_iload_n hx hb dX4_sinks_3 rfl (lv_at hl 2 rfl) ?_
  refine z_kI (z_runV (As := [zi (a1), zi (a2)]) (rest := [.ref (ad (8))]) (k := 8) (fs := [zi (cd), zi (n), .ref (ad (9)), .ref (ad (10)), .ref (ad (11)), .ref (ad (12)), .ref (ad (13)), .ref (ad (14)), .ref (ad (15)), .ref (ad (16)), .ref (ad (17)), .ref (ad (18)), .ref (ad (19)), .ref (ad (20)), .ref (ad (21)), .ref (ad (22)), zi (bl), .ref (ad (23)), .ref (ad (24))]) ⟨hx, hb, hml, hown, hts⟩ hK hw (k_isPiece l hl0 G I ad _ _ n hn6 σ hgs (cd) (bl) (Fmn) (Fsp) (Fms) (Fco) (Fst) (Fmo) (Fsk) (Fts) (Ftm) (Fjn) (Fpl) (Fgr) (Fab) hRel hM ⟨h8, h9, h10, h11, h12, h13, h14, h15, h16, h17, h18⟩ ⟨h19, h20, h21⟩ (a1) (a2) ⟨by omega, by omega⟩ ⟨by omega, by omega⟩) (cwV 2 hts gX4_sinks_X4_isPiece rfl rfl rfl (by decide +kernel) ⟨Nat.le_of_ble_eq_true rfl, Nat.le_of_ble_eq_true rfl⟩) (hM 8 (by decide) (by decide)) h8 rfl rfl rfl hl.1 rfl (Nat.le_of_ble_eq_true rfl) dX4_sinks_4 ⟨Nat.le_of_ble_eq_true rfl, Nat.le_of_ble_eq_true rfl⟩) hw (fun r_1 ct_2 H locs hP hw => ?_)
  obtain ⟨rfl, hct⟩ := hP
  rw [hct] at hw
  clear hct
  refine z_ifb_eq (tgt := 26) hx hb dX4_sinks_7 (by decide) (fun c_3 => ?_) (fun c_3 => ?_)
  · refine z_ic hx hb dX4_sinks_26 ?_
    refine z_put (C := RX4) (T := TX4) (N := 19) (fs := [zi (cd), zi (n), .ref (ad (9)), .ref (ad (10)), .ref (ad (11)), .ref (ad (12)), .ref (ad (13)), .ref (ad (14)), .ref (ad (15)), .ref (ad (16)), .ref (ad (17)), .ref (ad (18)), .ref (ad (19)), .ref (ad (20)), .ref (ad (21)), .ref (ad (22)), zi (bl), .ref (ad (23)), .ref (ad (24))]) (fs' := [zi (1), zi (n), .ref (ad (9)), .ref (ad (10)), .ref (ad (11)), .ref (ad (12)), .ref (ad (13)), .ref (ad (14)), .ref (ad (15)), .ref (ad (16)), .ref (ad (17)), .ref (ad (18)), .ref (ad (19)), .ref (ad (20)), .ref (ad (21)), .ref (ad (22)), zi (bl), .ref (ad (23)), .ref (ad (24))]) hx hb hts w_1 tyX4_ok nmX4 hown hK hw (hM 8 (by decide) (by decide)) h8 rfl 0 (by decide) w_0 rfl rfl rfl rfl (Nat.le_of_ble_eq_true rfl) rfl dX4_sinks_27 (fun H locs hw => ?_)
    refine lv_aload_n hx hb dX4_sinks_30 rfl (lv_at hl 0 rfl) ?_
    refine z_get (C := RX4) (T := TX4) (N := 19) (fs := [zi (1), zi (n), .ref (ad (9)), .ref (ad (10)), .ref (ad (11)), .ref (ad (12)), .ref (ad (13)), .ref (ad (14)), .ref (ad (15)), .ref (ad (16)), .ref (ad (17)), .ref (ad (18)), .ref (ad (19)), .ref (ad (20)), .ref (ad (21)), .ref (ad (22)), zi (bl), .ref (ad (23)), .ref (ad (24))]) hx hb hts w_1 hown hK hw (hM 8 (by decide) (by decide)) (zU_s _ _ _) rfl 0 (by decide) w_0 rfl rfl dX4_sinks_31 ?_
    refine z_if_le (tgt := 39) hx hb dX4_sinks_34 (by decide) ⟨by decide, by decide⟩ (fun c_4 => ?_) (fun c_4 => ?_)
    · exact absurd c_4 (by decide)
    · refine z_ic hx hb dX4_sinks_37 ?_
      exact z_iret hx hb hlk hr hw dX4_sinks_38 (Nat.le_of_ble_eq_true rfl) (Nat.le_of_ble_eq_true rfl) ⟨rfl, _, rfl, Or.inr ⟨by omega, rfl⟩⟩
  · refine lv_iload_n hx hb dX4_sinks_10 rfl (lv_at hl 3 rfl) ?_
    refine z_i2l hx hb dX4_sinks_11 ⟨by omega, by omega⟩ ?_
    refine z_lc0 hx hb dX4_sinks_12 ?_
    refine z_ldc2 (n := 10000) hx hb hown w_2 (by decide) dX4_sinks_13 ?_
    refine z_kI (z_runS (As := [zl (a3), zl (0), zl (10000)]) (rest := [.ref (ad (8))]) ⟨hx, hb, hml, hown, hts⟩ hK hw (k_in l hl0 G I ad _ _ (a3) (0) (10000) ⟨by omega, by omega⟩ ⟨by decide, by decide⟩ ⟨by decide, by decide⟩) (va_cwS 3 hts gX4_sinks_X4_in rfl rfl rfl (by decide +kernel) ⟨Nat.le_of_ble_eq_true rfl, Nat.le_of_ble_eq_true rfl⟩) rfl hl.1 rfl (Nat.le_of_ble_eq_true rfl) dX4_sinks_16 ⟨Nat.le_of_ble_eq_true rfl, Nat.le_of_ble_eq_true rfl⟩) hw (fun r_5 ct_6 H locs hP hw => ?_)
    obtain ⟨rfl, hct⟩ := hP
    rw [hct] at hw
    clear hct
    refine z_ifb_eq (tgt := 26) hx hb dX4_sinks_19 (by decide) (fun c_7 => ?_) (fun c_7 => ?_)
    · refine z_ic hx hb dX4_sinks_26 ?_
      refine z_put (C := RX4) (T := TX4) (N := 19) (fs := [zi (cd), zi (n), .ref (ad (9)), .ref (ad (10)), .ref (ad (11)), .ref (ad (12)), .ref (ad (13)), .ref (ad (14)), .ref (ad (15)), .ref (ad (16)), .ref (ad (17)), .ref (ad (18)), .ref (ad (19)), .ref (ad (20)), .ref (ad (21)), .ref (ad (22)), zi (bl), .ref (ad (23)), .ref (ad (24))]) (fs' := [zi (1), zi (n), .ref (ad (9)), .ref (ad (10)), .ref (ad (11)), .ref (ad (12)), .ref (ad (13)), .ref (ad (14)), .ref (ad (15)), .ref (ad (16)), .ref (ad (17)), .ref (ad (18)), .ref (ad (19)), .ref (ad (20)), .ref (ad (21)), .ref (ad (22)), zi (bl), .ref (ad (23)), .ref (ad (24))]) hx hb hts w_1 tyX4_ok nmX4 hown hK hw (hM 8 (by decide) (by decide)) h8 rfl 0 (by decide) w_0 rfl rfl rfl rfl (Nat.le_of_ble_eq_true rfl) rfl dX4_sinks_27 (fun H locs hw => ?_)
      refine lv_aload_n hx hb dX4_sinks_30 rfl (lv_at hl 0 rfl) ?_
      refine z_get (C := RX4) (T := TX4) (N := 19) (fs := [zi (1), zi (n), .ref (ad (9)), .ref (ad (10)), .ref (ad (11)), .ref (ad (12)), .ref (ad (13)), .ref (ad (14)), .ref (ad (15)), .ref (ad (16)), .ref (ad (17)), .ref (ad (18)), .ref (ad (19)), .ref (ad (20)), .ref (ad (21)), .ref (ad (22)), zi (bl), .ref (ad (23)), .ref (ad (24))]) hx hb hts w_1 hown hK hw (hM 8 (by decide) (by decide)) (zU_s _ _ _) rfl 0 (by decide) w_0 rfl rfl dX4_sinks_31 ?_
      refine z_if_le (tgt := 39) hx hb dX4_sinks_34 (by decide) ⟨by decide, by decide⟩ (fun c_8 => ?_) (fun c_8 => ?_)
      · exact absurd c_8 (by decide)
      · refine z_ic hx hb dX4_sinks_37 ?_
        exact z_iret hx hb hlk hr hw dX4_sinks_38 (Nat.le_of_ble_eq_true rfl) (Nat.le_of_ble_eq_true rfl) ⟨rfl, _, rfl, Or.inr ⟨by omega, rfl⟩⟩
    · refine z_ic hx hb dX4_sinks_22 ?_
      refine lv_goto (tgt := 27) hx hb dX4_sinks_23 (by decide) ?_
      refine z_put (C := RX4) (T := TX4) (N := 19) (fs := [zi (cd), zi (n), .ref (ad (9)), .ref (ad (10)), .ref (ad (11)), .ref (ad (12)), .ref (ad (13)), .ref (ad (14)), .ref (ad (15)), .ref (ad (16)), .ref (ad (17)), .ref (ad (18)), .ref (ad (19)), .ref (ad (20)), .ref (ad (21)), .ref (ad (22)), zi (bl), .ref (ad (23)), .ref (ad (24))]) (fs' := [zi (0), zi (n), .ref (ad (9)), .ref (ad (10)), .ref (ad (11)), .ref (ad (12)), .ref (ad (13)), .ref (ad (14)), .ref (ad (15)), .ref (ad (16)), .ref (ad (17)), .ref (ad (18)), .ref (ad (19)), .ref (ad (20)), .ref (ad (21)), .ref (ad (22)), zi (bl), .ref (ad (23)), .ref (ad (24))]) hx hb hts w_1 tyX4_ok nmX4 hown hK hw (hM 8 (by decide) (by decide)) h8 rfl 0 (by decide) w_0 rfl rfl rfl rfl (Nat.le_of_ble_eq_true rfl) rfl dX4_sinks_27 (fun H locs hw => ?_)
      refine lv_aload_n hx hb dX4_sinks_30 rfl (lv_at hl 0 rfl) ?_
      refine z_get (C := RX4) (T := TX4) (N := 19) (fs := [zi (0), zi (n), .ref (ad (9)), .ref (ad (10)), .ref (ad (11)), .ref (ad (12)), .ref (ad (13)), .ref (ad (14)), .ref (ad (15)), .ref (ad (16)), .ref (ad (17)), .ref (ad (18)), .ref (ad (19)), .ref (ad (20)), .ref (ad (21)), .ref (ad (22)), zi (bl), .ref (ad (23)), .ref (ad (24))]) hx hb hts w_1 hown hK hw (hM 8 (by decide) (by decide)) (zU_s _ _ _) rfl 0 (by decide) w_0 rfl rfl dX4_sinks_31 ?_
      refine z_if_le (tgt := 39) hx hb dX4_sinks_34 (by decide) ⟨by decide, by decide⟩ (fun c_9 => ?_) (fun c_9 => ?_)
      · have hg := hgs ((a1).toNat) (by omega)
        have hg0 := hg
        obtain ⟨⟨g1, g2⟩, ⟨g3, g4⟩, ⟨g5, g6⟩, ⟨g7, g8⟩, ⟨g9, g10⟩, ⟨g11, g12⟩, g13, g14, g15, g16⟩ := hg0
        have gn : ((σ ((a1).toNat)).1 : Int) = pn (σ ((a1).toNat)) := rfl
        have hr0 := hRel ((a1).toNat) (by omega)
        rw [show ((((a1).toNat) : Nat) : Int) = a1 by omega] at hr0
        obtain ⟨r1, r2, r3, r4, r5, r6, r7, r8⟩ := hr0
        refine lv_aload_n hx hb dX4_sinks_39 rfl (lv_at hl 0 rfl) ?_
        refine z_get (C := RX4) (T := TX4) (N := 19) (fs := [zi (0), zi (n), .ref (ad (9)), .ref (ad (10)), .ref (ad (11)), .ref (ad (12)), .ref (ad (13)), .ref (ad (14)), .ref (ad (15)), .ref (ad (16)), .ref (ad (17)), .ref (ad (18)), .ref (ad (19)), .ref (ad (20)), .ref (ad (21)), .ref (ad (22)), zi (bl), .ref (ad (23)), .ref (ad (24))]) hx hb hts w_1 hown hK hw (hM 8 (by decide) (by decide)) (zU_s _ _ _) rfl 8 (by decide) w_3 rfl rfl dX4_sinks_40 ?_
        refine z_bi hx hb dX4_sinks_43 (by decide) ?_
        refine lv_iload_n hx hb dX4_sinks_45 rfl (lv_at hl 1 rfl) ?_
        refine z_imul hx hb dX4_sinks_46 ?_
        refine lv_iload_n hx hb dX4_sinks_47 rfl (lv_at hl 2 rfl) ?_
        refine z_iadd hx hb dX4_sinks_48 ?_
        refine z_lald (f := Fsk) hx hb hK hw (hM 15 (by decide) (by decide)) (zU_n (by decide) h15) (by omega) (by omega) (by decide) dX4_sinks_49 ?_
        rw [show (Fsk (((12) * (a1)) + (a2)) : Int) = psk (σ (a1).toNat) (a2) from (r8 (a2) (by omega) (by omega)).2.2]
        have b1 := g16 (a2)
        refine lv_lstore (lv' := [(4, zl (psk (σ (a1).toNat) (a2))), (0, .ref (ad (8))), (1, zi (a1)), (2, zi (a2)), (3, zi (a3))]) hx hb dX4_sinks_50 hl (by decide) rfl (fun ls hl => ?_)
        refine lv_aload_n hx hb dX4_sinks_52 rfl (lv_at hl 1 rfl) ?_
        refine z_get (C := RX4) (T := TX4) (N := 19) (fs := [zi (0), zi (n), .ref (ad (9)), .ref (ad (10)), .ref (ad (11)), .ref (ad (12)), .ref (ad (13)), .ref (ad (14)), .ref (ad (15)), .ref (ad (16)), .ref (ad (17)), .ref (ad (18)), .ref (ad (19)), .ref (ad (20)), .ref (ad (21)), .ref (ad (22)), zi (bl), .ref (ad (23)), .ref (ad (24))]) hx hb hts w_1 hown hK hw (hM 8 (by decide) (by decide)) (zU_s _ _ _) rfl 8 (by decide) w_3 rfl rfl dX4_sinks_53 ?_
        refine z_bi hx hb dX4_sinks_56 (by decide) ?_
        refine lv_iload_n hx hb dX4_sinks_58 rfl (lv_at hl 2 rfl) ?_
        refine z_imul hx hb dX4_sinks_59 ?_
        refine lv_iload_n hx hb dX4_sinks_60 rfl (lv_at hl 3 rfl) ?_
        refine z_iadd hx hb dX4_sinks_61 ?_
        refine lv_iload_n hx hb dX4_sinks_62 rfl (lv_at hl 4 rfl) ?_
        refine z_i2l hx hb dX4_sinks_63 ⟨by omega, by omega⟩ ?_
        refine z_last (f := Fsk) hx hb hK hw (hM 15 (by decide) (by decide)) (zU_n (by decide) h15) (by omega) (by omega) (by decide) dX4_sinks_64 (fun H locs hw => ?_)
        refine lv_lload hx hb dX4_sinks_65 (lv_at hl 0 rfl) ?_
        refine z_l2i hx hb dX4_sinks_67 ⟨by omega, by omega⟩ ?_
        exact z_iret hx hb hlk hr hw dX4_sinks_68 (Nat.le_of_ble_eq_true rfl) (Nat.le_of_ble_eq_true rfl) ⟨rfl, _, rfl, Or.inl ⟨by omega, rfl, rfl⟩⟩
      · exact absurd c_9 (by decide)

set_option maxHeartbeats 4000000 in
set_option maxRecDepth 100000 in
theorem m_tip (l : Launch) (hl0 : l.stackTraces = false) (G : zG) (I : List Nat) (ad : Nat → Nat) (ct : Nat → va_E) (sz : Nat) (n : Nat) (hn6 : n ≤ 6) (σ : Nat → zPl) (hgs : ∀ p : Nat, p < n → zGood (σ p)) (cd bl : Int) (Fmn Fsp Fms Fco Fst Fmo Fsk Fts Ftm Fjn Fpl Fgr Fab : Int → Int) (hRel : zMrel n σ Fmn Fsp Fms Fco Fst Fmo Fsk Fts Ftm Fjn) (hM : ∀ j : Nat, 8 ≤ j → j ≤ 24 → j ∈ I) (hms : zMst G ad ct n cd bl Fmn Fsp Fms Fco Fst Fmo Fsk Fts Ftm Fjn) (hmc : zMsc G ct Fpl Fgr Fab) (a1 a2 a3 : Int) (hz1 : zr a1) (hz2 : zr a2) (hz3 : zr a3) : zN l yX4_tip wsX4_tip 2 46 0 0 G [.ref (ad (8)), zi (a1), zi (a2), zi (a3)] I ad ct zno sz (zk I (zqv fun u => (((0 ≤ a1 ∧ a1 < n) ∧ (0 ≤ a2 ∧ a2 ≤ 1000) ∧ (0 ≤ a3 ∧ a3 ≤ 1000000)) ∧ u = zU (zU (zU ct 8 (zmo ad n (0) bl)) 16 (zL G 6 (zup Fts a1 a2))) 17 (zL G 6 (zup Ftm a1 a3))) ∨ (¬ ((0 ≤ a1 ∧ a1 < n) ∧ (0 ≤ a2 ∧ a2 ≤ 1000) ∧ (0 ≤ a3 ∧ a3 ≤ 1000000)) ∧ u = zU ct 8 (zmo ad n (1) bl)))) := by
  obtain ⟨h8, h9, h10, h11, h12, h13, h14, h15, h16, h17, h18⟩ := hms
  obtain ⟨h19, h20, h21⟩ := hmc
  refine z_ofW (ret := none) hl0 (by decide +kernel) rfl (Nat.le_of_ble_eq_true rfl) ?_
  intro p e s m args below meth c A ls hA0 hsz hF hr hout hnm hw hl
  obtain ⟨hx, hb, hml, hown, hts, hK, hlk, hst⟩ := hF
  have hown : s.vm.findClass RX4 = some m.cls := hown
  have hl : lv_has ls 4 [(0, .ref (ad (8))), (1, zi (a1)), (2, zi (a2)), (3, zi (a3))] := hl
  have w_0 := hts (.fieldLink RX4 65 "PileMovesModel" "code" "I") (by decide +kernel)
  have w_1 : ∀ w ∈ wsX40, w ∈ wsX4_tip := by decide +kernel
  have w_2 := hts (.constantLong RX4 83 (1000)) (by decide +kernel)
  have w_3 := hts (.constantLong RX4 91 (1000000)) (by decide +kernel)
  have w_4 := hts (.fieldLink RX4 32 "PileMovesModel" "tipStiff" "[J") (by decide +kernel)
  have w_5 := hts (.fieldLink RX4 35 "PileMovesModel" "tipMost" "[J") (by decide +kernel)
  refine lv_aload_n hx hb dX4_tip_0 rfl (lv_at hl 0 rfl) ?_
  refine lv_aload_n hx hb dX4_tip_1 rfl (lv_at hl 0 rfl) ?_
  refine lv_iload_n hx hb dX4_tip_2 rfl (lv_at hl 1 rfl) ?_
  refine z_kI (z_runV (As := [zi (a1)]) (rest := [.ref (ad (8))]) (k := 8) (fs := [zi (cd), zi (n), .ref (ad (9)), .ref (ad (10)), .ref (ad (11)), .ref (ad (12)), .ref (ad (13)), .ref (ad (14)), .ref (ad (15)), .ref (ad (16)), .ref (ad (17)), .ref (ad (18)), .ref (ad (19)), .ref (ad (20)), .ref (ad (21)), .ref (ad (22)), zi (bl), .ref (ad (23)), .ref (ad (24))]) ⟨hx, hb, hml, hown, hts⟩ hK hw (k_isPile l hl0 G I ad _ _ n hn6 σ hgs (cd) (bl) (Fmn) (Fsp) (Fms) (Fco) (Fst) (Fmo) (Fsk) (Fts) (Ftm) (Fjn) (Fpl) (Fgr) (Fab) hRel hM ⟨h8, h9, h10, h11, h12, h13, h14, h15, h16, h17, h18⟩ ⟨h19, h20, h21⟩ (a1) ⟨by omega, by omega⟩) (cwV 1 hts gX4_tip_X4_isPile rfl rfl rfl (by decide +kernel) ⟨Nat.le_of_ble_eq_true rfl, Nat.le_of_ble_eq_true rfl⟩) (hM 8 (by decide) (by decide)) h8 rfl rfl rfl hl.1 rfl (Nat.le_of_ble_eq_true rfl) dX4_tip_3 ⟨Nat.le_of_ble_eq_true rfl, Nat.le_of_ble_eq_true rfl⟩) hw (fun r_1 ct_2 H locs hP hw => ?_)
  obtain ⟨rfl, hct⟩ := hP
  rw [hct] at hw
  clear hct
  refine z_ifb_eq (tgt := 37) hx hb dX4_tip_6 (by decide) (fun c_3 => ?_) (fun c_3 => ?_)
  · refine z_ic hx hb dX4_tip_37 ?_
    refine z_put (C := RX4) (T := TX4) (N := 19) (fs := [zi (cd), zi (n), .ref (ad (9)), .ref (ad (10)), .ref (ad (11)), .ref (ad (12)), .ref (ad (13)), .ref (ad (14)), .ref (ad (15)), .ref (ad (16)), .ref (ad (17)), .ref (ad (18)), .ref (ad (19)), .ref (ad (20)), .ref (ad (21)), .ref (ad (22)), zi (bl), .ref (ad (23)), .ref (ad (24))]) (fs' := [zi (1), zi (n), .ref (ad (9)), .ref (ad (10)), .ref (ad (11)), .ref (ad (12)), .ref (ad (13)), .ref (ad (14)), .ref (ad (15)), .ref (ad (16)), .ref (ad (17)), .ref (ad (18)), .ref (ad (19)), .ref (ad (20)), .ref (ad (21)), .ref (ad (22)), zi (bl), .ref (ad (23)), .ref (ad (24))]) hx hb hts w_1 tyX4_ok nmX4 hown hK hw (hM 8 (by decide) (by decide)) h8 rfl 0 (by decide) w_0 rfl rfl rfl rfl (Nat.le_of_ble_eq_true rfl) rfl dX4_tip_38 (fun H locs hw => ?_)
    refine lv_aload_n hx hb dX4_tip_41 rfl (lv_at hl 0 rfl) ?_
    refine z_get (C := RX4) (T := TX4) (N := 19) (fs := [zi (1), zi (n), .ref (ad (9)), .ref (ad (10)), .ref (ad (11)), .ref (ad (12)), .ref (ad (13)), .ref (ad (14)), .ref (ad (15)), .ref (ad (16)), .ref (ad (17)), .ref (ad (18)), .ref (ad (19)), .ref (ad (20)), .ref (ad (21)), .ref (ad (22)), zi (bl), .ref (ad (23)), .ref (ad (24))]) hx hb hts w_1 hown hK hw (hM 8 (by decide) (by decide)) (zU_s _ _ _) rfl 0 (by decide) w_0 rfl rfl dX4_tip_42 ?_
    refine z_if_ne (tgt := 64) hx hb dX4_tip_45 (by decide) ⟨by decide, by decide⟩ (fun c_4 => ?_) (fun c_4 => ?_)
    · exact z_vret hx hb hlk hr hw dX4_tip_64 (Nat.le_of_ble_eq_true rfl) (Nat.le_of_ble_eq_true rfl) ⟨rfl, rfl, Or.inr ⟨by omega, rfl⟩⟩
    · exact absurd c_4 (by decide)
  · refine lv_iload_n hx hb dX4_tip_9 rfl (lv_at hl 2 rfl) ?_
    refine z_i2l hx hb dX4_tip_10 ⟨by omega, by omega⟩ ?_
    refine z_lc0 hx hb dX4_tip_11 ?_
    refine z_ldc2 (n := 1000) hx hb hown w_2 (by decide) dX4_tip_12 ?_
    refine z_kI (z_runS (As := [zl (a2), zl (0), zl (1000)]) (rest := [.ref (ad (8))]) ⟨hx, hb, hml, hown, hts⟩ hK hw (k_in l hl0 G I ad _ _ (a2) (0) (1000) ⟨by omega, by omega⟩ ⟨by decide, by decide⟩ ⟨by decide, by decide⟩) (va_cwS 3 hts gX4_tip_X4_in rfl rfl rfl (by decide +kernel) ⟨Nat.le_of_ble_eq_true rfl, Nat.le_of_ble_eq_true rfl⟩) rfl hl.1 rfl (Nat.le_of_ble_eq_true rfl) dX4_tip_15 ⟨Nat.le_of_ble_eq_true rfl, Nat.le_of_ble_eq_true rfl⟩) hw (fun r_5 ct_6 H locs hP hw => ?_)
    obtain ⟨rfl, hct⟩ := hP
    rw [hct] at hw
    clear hct
    refine z_ifb_eq (tgt := 37) hx hb dX4_tip_18 (by decide) (fun c_7 => ?_) (fun c_7 => ?_)
    · refine z_ic hx hb dX4_tip_37 ?_
      refine z_put (C := RX4) (T := TX4) (N := 19) (fs := [zi (cd), zi (n), .ref (ad (9)), .ref (ad (10)), .ref (ad (11)), .ref (ad (12)), .ref (ad (13)), .ref (ad (14)), .ref (ad (15)), .ref (ad (16)), .ref (ad (17)), .ref (ad (18)), .ref (ad (19)), .ref (ad (20)), .ref (ad (21)), .ref (ad (22)), zi (bl), .ref (ad (23)), .ref (ad (24))]) (fs' := [zi (1), zi (n), .ref (ad (9)), .ref (ad (10)), .ref (ad (11)), .ref (ad (12)), .ref (ad (13)), .ref (ad (14)), .ref (ad (15)), .ref (ad (16)), .ref (ad (17)), .ref (ad (18)), .ref (ad (19)), .ref (ad (20)), .ref (ad (21)), .ref (ad (22)), zi (bl), .ref (ad (23)), .ref (ad (24))]) hx hb hts w_1 tyX4_ok nmX4 hown hK hw (hM 8 (by decide) (by decide)) h8 rfl 0 (by decide) w_0 rfl rfl rfl rfl (Nat.le_of_ble_eq_true rfl) rfl dX4_tip_38 (fun H locs hw => ?_)
      refine lv_aload_n hx hb dX4_tip_41 rfl (lv_at hl 0 rfl) ?_
      refine z_get (C := RX4) (T := TX4) (N := 19) (fs := [zi (1), zi (n), .ref (ad (9)), .ref (ad (10)), .ref (ad (11)), .ref (ad (12)), .ref (ad (13)), .ref (ad (14)), .ref (ad (15)), .ref (ad (16)), .ref (ad (17)), .ref (ad (18)), .ref (ad (19)), .ref (ad (20)), .ref (ad (21)), .ref (ad (22)), zi (bl), .ref (ad (23)), .ref (ad (24))]) hx hb hts w_1 hown hK hw (hM 8 (by decide) (by decide)) (zU_s _ _ _) rfl 0 (by decide) w_0 rfl rfl dX4_tip_42 ?_
      refine z_if_ne (tgt := 64) hx hb dX4_tip_45 (by decide) ⟨by decide, by decide⟩ (fun c_8 => ?_) (fun c_8 => ?_)
      · exact z_vret hx hb hlk hr hw dX4_tip_64 (Nat.le_of_ble_eq_true rfl) (Nat.le_of_ble_eq_true rfl) ⟨rfl, rfl, Or.inr ⟨by omega, rfl⟩⟩
      · exact absurd c_8 (by decide)
    · refine lv_iload_n hx hb dX4_tip_21 rfl (lv_at hl 3 rfl) ?_
      refine z_i2l hx hb dX4_tip_22 ⟨by omega, by omega⟩ ?_
      refine z_lc0 hx hb dX4_tip_23 ?_
      refine z_ldc2 (n := 1000000) hx hb hown w_3 (by decide) dX4_tip_24 ?_
      refine z_kI (z_runS (As := [zl (a3), zl (0), zl (1000000)]) (rest := [.ref (ad (8))]) ⟨hx, hb, hml, hown, hts⟩ hK hw (k_in l hl0 G I ad _ _ (a3) (0) (1000000) ⟨by omega, by omega⟩ ⟨by decide, by decide⟩ ⟨by decide, by decide⟩) (va_cwS 3 hts gX4_tip_X4_in rfl rfl rfl (by decide +kernel) ⟨Nat.le_of_ble_eq_true rfl, Nat.le_of_ble_eq_true rfl⟩) rfl hl.1 rfl (Nat.le_of_ble_eq_true rfl) dX4_tip_27 ⟨Nat.le_of_ble_eq_true rfl, Nat.le_of_ble_eq_true rfl⟩) hw (fun r_9 ct_10 H locs hP hw => ?_)
      obtain ⟨rfl, hct⟩ := hP
      rw [hct] at hw
      clear hct
      refine z_ifb_eq (tgt := 37) hx hb dX4_tip_30 (by decide) (fun c_11 => ?_) (fun c_11 => ?_)
      · refine z_ic hx hb dX4_tip_37 ?_
        refine z_put (C := RX4) (T := TX4) (N := 19) (fs := [zi (cd), zi (n), .ref (ad (9)), .ref (ad (10)), .ref (ad (11)), .ref (ad (12)), .ref (ad (13)), .ref (ad (14)), .ref (ad (15)), .ref (ad (16)), .ref (ad (17)), .ref (ad (18)), .ref (ad (19)), .ref (ad (20)), .ref (ad (21)), .ref (ad (22)), zi (bl), .ref (ad (23)), .ref (ad (24))]) (fs' := [zi (1), zi (n), .ref (ad (9)), .ref (ad (10)), .ref (ad (11)), .ref (ad (12)), .ref (ad (13)), .ref (ad (14)), .ref (ad (15)), .ref (ad (16)), .ref (ad (17)), .ref (ad (18)), .ref (ad (19)), .ref (ad (20)), .ref (ad (21)), .ref (ad (22)), zi (bl), .ref (ad (23)), .ref (ad (24))]) hx hb hts w_1 tyX4_ok nmX4 hown hK hw (hM 8 (by decide) (by decide)) h8 rfl 0 (by decide) w_0 rfl rfl rfl rfl (Nat.le_of_ble_eq_true rfl) rfl dX4_tip_38 (fun H locs hw => ?_)
        refine lv_aload_n hx hb dX4_tip_41 rfl (lv_at hl 0 rfl) ?_
        refine z_get (C := RX4) (T := TX4) (N := 19) (fs := [zi (1), zi (n), .ref (ad (9)), .ref (ad (10)), .ref (ad (11)), .ref (ad (12)), .ref (ad (13)), .ref (ad (14)), .ref (ad (15)), .ref (ad (16)), .ref (ad (17)), .ref (ad (18)), .ref (ad (19)), .ref (ad (20)), .ref (ad (21)), .ref (ad (22)), zi (bl), .ref (ad (23)), .ref (ad (24))]) hx hb hts w_1 hown hK hw (hM 8 (by decide) (by decide)) (zU_s _ _ _) rfl 0 (by decide) w_0 rfl rfl dX4_tip_42 ?_
        refine z_if_ne (tgt := 64) hx hb dX4_tip_45 (by decide) ⟨by decide, by decide⟩ (fun c_12 => ?_) (fun c_12 => ?_)
        · exact z_vret hx hb hlk hr hw dX4_tip_64 (Nat.le_of_ble_eq_true rfl) (Nat.le_of_ble_eq_true rfl) ⟨rfl, rfl, Or.inr ⟨by omega, rfl⟩⟩
        · exact absurd c_12 (by decide)
      · refine z_ic hx hb dX4_tip_33 ?_
        refine lv_goto (tgt := 38) hx hb dX4_tip_34 (by decide) ?_
        refine z_put (C := RX4) (T := TX4) (N := 19) (fs := [zi (cd), zi (n), .ref (ad (9)), .ref (ad (10)), .ref (ad (11)), .ref (ad (12)), .ref (ad (13)), .ref (ad (14)), .ref (ad (15)), .ref (ad (16)), .ref (ad (17)), .ref (ad (18)), .ref (ad (19)), .ref (ad (20)), .ref (ad (21)), .ref (ad (22)), zi (bl), .ref (ad (23)), .ref (ad (24))]) (fs' := [zi (0), zi (n), .ref (ad (9)), .ref (ad (10)), .ref (ad (11)), .ref (ad (12)), .ref (ad (13)), .ref (ad (14)), .ref (ad (15)), .ref (ad (16)), .ref (ad (17)), .ref (ad (18)), .ref (ad (19)), .ref (ad (20)), .ref (ad (21)), .ref (ad (22)), zi (bl), .ref (ad (23)), .ref (ad (24))]) hx hb hts w_1 tyX4_ok nmX4 hown hK hw (hM 8 (by decide) (by decide)) h8 rfl 0 (by decide) w_0 rfl rfl rfl rfl (Nat.le_of_ble_eq_true rfl) rfl dX4_tip_38 (fun H locs hw => ?_)
        refine lv_aload_n hx hb dX4_tip_41 rfl (lv_at hl 0 rfl) ?_
        refine z_get (C := RX4) (T := TX4) (N := 19) (fs := [zi (0), zi (n), .ref (ad (9)), .ref (ad (10)), .ref (ad (11)), .ref (ad (12)), .ref (ad (13)), .ref (ad (14)), .ref (ad (15)), .ref (ad (16)), .ref (ad (17)), .ref (ad (18)), .ref (ad (19)), .ref (ad (20)), .ref (ad (21)), .ref (ad (22)), zi (bl), .ref (ad (23)), .ref (ad (24))]) hx hb hts w_1 hown hK hw (hM 8 (by decide) (by decide)) (zU_s _ _ _) rfl 0 (by decide) w_0 rfl rfl dX4_tip_42 ?_
        refine z_if_ne (tgt := 64) hx hb dX4_tip_45 (by decide) ⟨by decide, by decide⟩ (fun c_13 => ?_) (fun c_13 => ?_)
        · exact absurd c_13 (by decide)
        · refine lv_aload_n hx hb dX4_tip_48 rfl (lv_at hl 0 rfl) ?_
          refine z_get (C := RX4) (T := TX4) (N := 19) (fs := [zi (0), zi (n), .ref (ad (9)), .ref (ad (10)), .ref (ad (11)), .ref (ad (12)), .ref (ad (13)), .ref (ad (14)), .ref (ad (15)), .ref (ad (16)), .ref (ad (17)), .ref (ad (18)), .ref (ad (19)), .ref (ad (20)), .ref (ad (21)), .ref (ad (22)), zi (bl), .ref (ad (23)), .ref (ad (24))]) hx hb hts w_1 hown hK hw (hM 8 (by decide) (by decide)) (zU_s _ _ _) rfl 9 (by decide) w_4 rfl rfl dX4_tip_49 ?_
          refine lv_iload_n hx hb dX4_tip_52 rfl (lv_at hl 1 rfl) ?_
          refine lv_iload_n hx hb dX4_tip_53 rfl (lv_at hl 2 rfl) ?_
          refine z_i2l hx hb dX4_tip_54 ⟨by omega, by omega⟩ ?_
          refine z_last (f := Fts) hx hb hK hw (hM 16 (by decide) (by decide)) (zU_n (by decide) h16) (by omega) (by omega) (by decide) dX4_tip_55 (fun H locs hw => ?_)
          refine lv_aload_n hx hb dX4_tip_56 rfl (lv_at hl 0 rfl) ?_
          refine z_get (C := RX4) (T := TX4) (N := 19) (fs := [zi (0), zi (n), .ref (ad (9)), .ref (ad (10)), .ref (ad (11)), .ref (ad (12)), .ref (ad (13)), .ref (ad (14)), .ref (ad (15)), .ref (ad (16)), .ref (ad (17)), .ref (ad (18)), .ref (ad (19)), .ref (ad (20)), .ref (ad (21)), .ref (ad (22)), zi (bl), .ref (ad (23)), .ref (ad (24))]) hx hb hts w_1 hown hK hw (hM 8 (by decide) (by decide)) (zU_n (by decide) (zU_s _ _ _)) rfl 10 (by decide) w_5 rfl rfl dX4_tip_57 ?_
          refine lv_iload_n hx hb dX4_tip_60 rfl (lv_at hl 1 rfl) ?_
          refine lv_iload_n hx hb dX4_tip_61 rfl (lv_at hl 3 rfl) ?_
          refine z_i2l hx hb dX4_tip_62 ⟨by omega, by omega⟩ ?_
          refine z_last (f := Ftm) hx hb hK hw (hM 17 (by decide) (by decide)) (zU_n (by decide) (zU_n (by decide) h17)) (by omega) (by omega) (by decide) dX4_tip_63 (fun H locs hw => ?_)
          exact z_vret hx hb hlk hr hw dX4_tip_64 (Nat.le_of_ble_eq_true rfl) (Nat.le_of_ble_eq_true rfl) ⟨rfl, rfl, Or.inl ⟨by omega, rfl⟩⟩

set_option maxHeartbeats 4000000 in
set_option maxRecDepth 100000 in
theorem m_join (l : Launch) (hl0 : l.stackTraces = false) (G : zG) (I : List Nat) (ad : Nat → Nat) (ct : Nat → va_E) (sz : Nat) (n : Nat) (hn6 : n ≤ 6) (σ : Nat → zPl) (hgs : ∀ p : Nat, p < n → zGood (σ p)) (cd bl : Int) (Fmn Fsp Fms Fco Fst Fmo Fsk Fts Ftm Fjn Fpl Fgr Fab : Int → Int) (hRel : zMrel n σ Fmn Fsp Fms Fco Fst Fmo Fsk Fts Ftm Fjn) (hM : ∀ j : Nat, 8 ≤ j → j ≤ 24 → j ∈ I) (hms : zMst G ad ct n cd bl Fmn Fsp Fms Fco Fst Fmo Fsk Fts Ftm Fjn) (hmc : zMsc G ct Fpl Fgr Fab) (a1 bi : Int) (hz1 : zr a1) (hbi : bi = 0 ∨ bi = 1) : zN l yX4_join wsX4_join 2 46 0 0 G [.ref (ad (8)), zi (a1), zi (bi)] I ad ct zno sz (zk I (zqi fun z u => ((0 ≤ a1 ∧ a1 < n) ∧ z = pjo (σ (a1).toNat) ∧ u = zU (zU ct 8 (zmo ad n (0) bl)) 18 (zZ G 6 (zup Fjn a1 bi))) ∨ (¬ (0 ≤ a1 ∧ a1 < n) ∧ u = zU ct 8 (zmo ad n (1) bl)))) := by
  obtain ⟨h8, h9, h10, h11, h12, h13, h14, h15, h16, h17, h18⟩ := hms
  obtain ⟨h19, h20, h21⟩ := hmc
  refine z_ofW (ret := (some .boolean)) hl0 (by decide +kernel) rfl (Nat.le_of_ble_eq_true rfl) ?_
  intro p e s m args below meth c A ls hA0 hsz hF hr hout hnm hw hl
  obtain ⟨hx, hb, hml, hown, hts, hK, hlk, hst⟩ := hF
  have hown : s.vm.findClass RX4 = some m.cls := hown
  have hl : lv_has ls 4 [(0, .ref (ad (8))), (1, zi (a1)), (2, zi (bi))] := hl
  have w_0 := hts (.fieldLink RX4 65 "PileMovesModel" "code" "I") (by decide +kernel)
  have w_1 : ∀ w ∈ wsX40, w ∈ wsX4_join := by decide +kernel
  have w_2 := hts (.fieldLink RX4 38 "PileMovesModel" "isIn" "[Z") (by decide +kernel)
  refine lv_aload_n hx hb dX4_join_0 rfl (lv_at hl 0 rfl) ?_
  refine lv_aload_n hx hb dX4_join_1 rfl (lv_at hl 0 rfl) ?_
  refine lv_iload_n hx hb dX4_join_2 rfl (lv_at hl 1 rfl) ?_
  refine z_kI (z_runV (As := [zi (a1)]) (rest := [.ref (ad (8))]) (k := 8) (fs := [zi (cd), zi (n), .ref (ad (9)), .ref (ad (10)), .ref (ad (11)), .ref (ad (12)), .ref (ad (13)), .ref (ad (14)), .ref (ad (15)), .ref (ad (16)), .ref (ad (17)), .ref (ad (18)), .ref (ad (19)), .ref (ad (20)), .ref (ad (21)), .ref (ad (22)), zi (bl), .ref (ad (23)), .ref (ad (24))]) ⟨hx, hb, hml, hown, hts⟩ hK hw (k_isPile l hl0 G I ad _ _ n hn6 σ hgs (cd) (bl) (Fmn) (Fsp) (Fms) (Fco) (Fst) (Fmo) (Fsk) (Fts) (Ftm) (Fjn) (Fpl) (Fgr) (Fab) hRel hM ⟨h8, h9, h10, h11, h12, h13, h14, h15, h16, h17, h18⟩ ⟨h19, h20, h21⟩ (a1) ⟨by omega, by omega⟩) (cwV 1 hts gX4_join_X4_isPile rfl rfl rfl (by decide +kernel) ⟨Nat.le_of_ble_eq_true rfl, Nat.le_of_ble_eq_true rfl⟩) (hM 8 (by decide) (by decide)) h8 rfl rfl rfl hl.1 rfl (Nat.le_of_ble_eq_true rfl) dX4_join_3 ⟨Nat.le_of_ble_eq_true rfl, Nat.le_of_ble_eq_true rfl⟩) hw (fun r_1 ct_2 H locs hP hw => ?_)
  obtain ⟨rfl, hct⟩ := hP
  rw [hct] at hw
  clear hct
  refine z_ifb_eq (tgt := 13) hx hb dX4_join_6 (by decide) (fun c_3 => ?_) (fun c_3 => ?_)
  · refine z_ic hx hb dX4_join_13 ?_
    refine z_put (C := RX4) (T := TX4) (N := 19) (fs := [zi (cd), zi (n), .ref (ad (9)), .ref (ad (10)), .ref (ad (11)), .ref (ad (12)), .ref (ad (13)), .ref (ad (14)), .ref (ad (15)), .ref (ad (16)), .ref (ad (17)), .ref (ad (18)), .ref (ad (19)), .ref (ad (20)), .ref (ad (21)), .ref (ad (22)), zi (bl), .ref (ad (23)), .ref (ad (24))]) (fs' := [zi (1), zi (n), .ref (ad (9)), .ref (ad (10)), .ref (ad (11)), .ref (ad (12)), .ref (ad (13)), .ref (ad (14)), .ref (ad (15)), .ref (ad (16)), .ref (ad (17)), .ref (ad (18)), .ref (ad (19)), .ref (ad (20)), .ref (ad (21)), .ref (ad (22)), zi (bl), .ref (ad (23)), .ref (ad (24))]) hx hb hts w_1 tyX4_ok nmX4 hown hK hw (hM 8 (by decide) (by decide)) h8 rfl 0 (by decide) w_0 rfl rfl rfl rfl (Nat.le_of_ble_eq_true rfl) rfl dX4_join_14 (fun H locs hw => ?_)
    refine lv_aload_n hx hb dX4_join_17 rfl (lv_at hl 0 rfl) ?_
    refine z_get (C := RX4) (T := TX4) (N := 19) (fs := [zi (1), zi (n), .ref (ad (9)), .ref (ad (10)), .ref (ad (11)), .ref (ad (12)), .ref (ad (13)), .ref (ad (14)), .ref (ad (15)), .ref (ad (16)), .ref (ad (17)), .ref (ad (18)), .ref (ad (19)), .ref (ad (20)), .ref (ad (21)), .ref (ad (22)), zi (bl), .ref (ad (23)), .ref (ad (24))]) hx hb hts w_1 hown hK hw (hM 8 (by decide) (by decide)) (zU_s _ _ _) rfl 0 (by decide) w_0 rfl rfl dX4_join_18 ?_
    refine z_if_le (tgt := 26) hx hb dX4_join_21 (by decide) ⟨by decide, by decide⟩ (fun c_4 => ?_) (fun c_4 => ?_)
    · exact absurd c_4 (by decide)
    · refine z_ic hx hb dX4_join_24 ?_
      exact z_zret hx hb hlk hr hw (Or.inl rfl) dX4_join_25 (Nat.le_of_ble_eq_true rfl) (Nat.le_of_ble_eq_true rfl) ⟨rfl, _, rfl, Or.inr ⟨by omega, rfl⟩⟩
  · refine z_ic hx hb dX4_join_9 ?_
    refine lv_goto (tgt := 14) hx hb dX4_join_10 (by decide) ?_
    refine z_put (C := RX4) (T := TX4) (N := 19) (fs := [zi (cd), zi (n), .ref (ad (9)), .ref (ad (10)), .ref (ad (11)), .ref (ad (12)), .ref (ad (13)), .ref (ad (14)), .ref (ad (15)), .ref (ad (16)), .ref (ad (17)), .ref (ad (18)), .ref (ad (19)), .ref (ad (20)), .ref (ad (21)), .ref (ad (22)), zi (bl), .ref (ad (23)), .ref (ad (24))]) (fs' := [zi (0), zi (n), .ref (ad (9)), .ref (ad (10)), .ref (ad (11)), .ref (ad (12)), .ref (ad (13)), .ref (ad (14)), .ref (ad (15)), .ref (ad (16)), .ref (ad (17)), .ref (ad (18)), .ref (ad (19)), .ref (ad (20)), .ref (ad (21)), .ref (ad (22)), zi (bl), .ref (ad (23)), .ref (ad (24))]) hx hb hts w_1 tyX4_ok nmX4 hown hK hw (hM 8 (by decide) (by decide)) h8 rfl 0 (by decide) w_0 rfl rfl rfl rfl (Nat.le_of_ble_eq_true rfl) rfl dX4_join_14 (fun H locs hw => ?_)
    refine lv_aload_n hx hb dX4_join_17 rfl (lv_at hl 0 rfl) ?_
    refine z_get (C := RX4) (T := TX4) (N := 19) (fs := [zi (0), zi (n), .ref (ad (9)), .ref (ad (10)), .ref (ad (11)), .ref (ad (12)), .ref (ad (13)), .ref (ad (14)), .ref (ad (15)), .ref (ad (16)), .ref (ad (17)), .ref (ad (18)), .ref (ad (19)), .ref (ad (20)), .ref (ad (21)), .ref (ad (22)), zi (bl), .ref (ad (23)), .ref (ad (24))]) hx hb hts w_1 hown hK hw (hM 8 (by decide) (by decide)) (zU_s _ _ _) rfl 0 (by decide) w_0 rfl rfl dX4_join_18 ?_
    refine z_if_le (tgt := 26) hx hb dX4_join_21 (by decide) ⟨by decide, by decide⟩ (fun c_5 => ?_) (fun c_5 => ?_)
    · have hg := hgs ((a1).toNat) (by omega)
      have hg0 := hg
      obtain ⟨⟨g1, g2⟩, ⟨g3, g4⟩, ⟨g5, g6⟩, ⟨g7, g8⟩, ⟨g9, g10⟩, ⟨g11, g12⟩, g13, g14, g15, g16⟩ := hg0
      have gn : ((σ ((a1).toNat)).1 : Int) = pn (σ ((a1).toNat)) := rfl
      have hr0 := hRel ((a1).toNat) (by omega)
      rw [show ((((a1).toNat) : Nat) : Int) = a1 by omega] at hr0
      obtain ⟨r1, r2, r3, r4, r5, r6, r7, r8⟩ := hr0
      refine lv_aload_n hx hb dX4_join_26 rfl (lv_at hl 0 rfl) ?_
      refine z_get (C := RX4) (T := TX4) (N := 19) (fs := [zi (0), zi (n), .ref (ad (9)), .ref (ad (10)), .ref (ad (11)), .ref (ad (12)), .ref (ad (13)), .ref (ad (14)), .ref (ad (15)), .ref (ad (16)), .ref (ad (17)), .ref (ad (18)), .ref (ad (19)), .ref (ad (20)), .ref (ad (21)), .ref (ad (22)), zi (bl), .ref (ad (23)), .ref (ad (24))]) hx hb hts w_1 hown hK hw (hM 8 (by decide) (by decide)) (zU_s _ _ _) rfl 11 (by decide) w_2 rfl rfl dX4_join_27 ?_
      refine lv_iload_n hx hb dX4_join_30 rfl (lv_at hl 1 rfl) ?_
      refine z_zald (f := Fjn) hx hb hK hw (hM 18 (by decide) (by decide)) (zU_n (by decide) h18) (by omega) (by omega) (by decide) dX4_join_31 ?_
      rw [show (Fjn (a1) : Int) = pjo (σ (a1).toNat) from r7]
      refine lv_istore_n (lv' := [(3, zi (pjo (σ (a1).toNat))), (0, .ref (ad (8))), (1, zi (a1)), (2, zi (bi))]) hx hb dX4_join_32 rfl hl (by decide) rfl (fun ls hl => ?_)
      refine lv_aload_n hx hb dX4_join_33 rfl (lv_at hl 1 rfl) ?_
      refine z_get (C := RX4) (T := TX4) (N := 19) (fs := [zi (0), zi (n), .ref (ad (9)), .ref (ad (10)), .ref (ad (11)), .ref (ad (12)), .ref (ad (13)), .ref (ad (14)), .ref (ad (15)), .ref (ad (16)), .ref (ad (17)), .ref (ad (18)), .ref (ad (19)), .ref (ad (20)), .ref (ad (21)), .ref (ad (22)), zi (bl), .ref (ad (23)), .ref (ad (24))]) hx hb hts w_1 hown hK hw (hM 8 (by decide) (by decide)) (zU_s _ _ _) rfl 11 (by decide) w_2 rfl rfl dX4_join_34 ?_
      refine lv_iload_n hx hb dX4_join_37 rfl (lv_at hl 2 rfl) ?_
      refine lv_iload_n hx hb dX4_join_38 rfl (lv_at hl 3 rfl) ?_
      refine z_zast (f := Fjn) hx hb hK hw (hM 18 (by decide) (by decide)) (zU_n (by decide) h18) (by omega) (by omega) (by decide) hbi dX4_join_39 (fun H locs hw => ?_)
      refine lv_iload_n hx hb dX4_join_40 rfl (lv_at hl 0 rfl) ?_
      exact z_zret hx hb hlk hr hw g13 dX4_join_41 (Nat.le_of_ble_eq_true rfl) (Nat.le_of_ble_eq_true rfl) ⟨rfl, _, rfl, Or.inl ⟨by omega, rfl, rfl⟩⟩
    · exact absurd c_5 (by decide)
