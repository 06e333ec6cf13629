theorem zfit : ∀ n ∈ zNm, Bundle.fit n = true := by decide +kernel
theorem zpf_k {ad : Nat → Nat} {n K : Nat} {i : Int} (hi : i = K) (h : K < n) : va_rf (zpf ad n i) = .ref (ad (40 + 4 * K)) := by subst hi; exact zpf_s (by omega) (by omega)

set_option maxHeartbeats 4000000 in
set_option maxRecDepth 100000 in
theorem k_within (l : Launch) (hl0 : l.stackTraces = false) (G : zG) (I : List Nat) (ad : Nat → Nat) (ct : Nat → va_E) (sz : Nat) (x lo hi : Int) (hz1 : zr x) (hz2 : zr lo) (hz3 : zr hi) : zN l yX3_checkWithin wsX3_checkWithin 6 86 1 6 G [zi (x), zi (lo), zi (hi)] I ad ct (fun E => E = zIA ∧ ¬ (lo ≤ x ∧ x ≤ hi)) sz (zk I (zqv fun u => (lo ≤ x ∧ x ≤ hi) ∧ u = ct)) := by
  refine z_ofW (ret := none) hl0 (by decide +kernel) rfl (Nat.le_of_ble_eq_true rfl) ?_
  intro p e s m args below meth c A ls hA0 hsz hF hr hout hnm hw hl
  obtain ⟨hx, hb, hml, hown, hts, hK, hlk, hst⟩ := hF
  have hown : s.vm.findClass RX3 = some m.cls := hown
  have hl : lv_has ls 3 [(0, zi (x)), (1, zi (lo)), (2, zi (hi))] := hl
  have w_0 := hts (.classLink RX3 112 zIA) (by decide +kernel)
  have w_1 := hts (.initialized zIA) (by decide +kernel)
  refine lv_iload_n hx hb dX3_checkWithin_0 rfl (lv_at hl 0 rfl) ?_
  refine lv_iload_n hx hb dX3_checkWithin_1 rfl (lv_at hl 1 rfl) ?_
  refine z_icmp_lt (tgt := 10) hx hb dX3_checkWithin_2 (by decide) hz1 hz2 (fun c_1 => ?_) (fun c_1 => ?_)
  · exact z_throw hx hb hst hK hw hout hlk (cls := zIA) (text := "a number is out of its bounds") (names := zNm) hown (by decide +kernel) zfit w_0 w_1 hK.2.1.2.2.2.2.2.2.2.2.1 (fun w h => hts w (List.mem_cons_of_mem _ (List.mem_append_right _ h))) hK.2.1.badA zbIA zgIA (hl.1.trans hml.symm) dX3_checkWithin_10 dX3_checkWithin_13 dX3_checkWithin_14 dX3_checkWithin_16 dX3_checkWithin_19 (Nat.le_of_ble_eq_true rfl) (Nat.le_of_ble_eq_true rfl) (Nat.le_of_ble_eq_true rfl) (Nat.le_of_ble_eq_true rfl) (⟨rfl, by omega⟩) (Nat.le_of_ble_eq_true rfl) (Nat.le_of_ble_eq_true rfl)
  · refine lv_iload_n hx hb dX3_checkWithin_5 rfl (lv_at hl 0 rfl) ?_
    refine lv_iload_n hx hb dX3_checkWithin_6 rfl (lv_at hl 2 rfl) ?_
    refine z_icmp_le (tgt := 20) hx hb dX3_checkWithin_7 (by decide) hz1 hz3 (fun c_2 => ?_) (fun c_2 => ?_)
    · exact z_vret hx hb hlk hr hw dX3_checkWithin_20 (Nat.le_of_ble_eq_true rfl) (Nat.le_of_ble_eq_true rfl) ⟨rfl, rfl, ⟨by omega, rfl⟩⟩
    · exact z_throw hx hb hst hK hw hout hlk (cls := zIA) (text := "a number is out of its bounds") (names := zNm) hown (by decide +kernel) zfit w_0 w_1 hK.2.1.2.2.2.2.2.2.2.2.1 (fun w h => hts w (List.mem_cons_of_mem _ (List.mem_append_right _ h))) hK.2.1.badA zbIA zgIA (hl.1.trans hml.symm) dX3_checkWithin_10 dX3_checkWithin_13 dX3_checkWithin_14 dX3_checkWithin_16 dX3_checkWithin_19 (Nat.le_of_ble_eq_true rfl) (Nat.le_of_ble_eq_true rfl) (Nat.le_of_ble_eq_true rfl) (Nat.le_of_ble_eq_true rfl) (⟨rfl, by omega⟩) (Nat.le_of_ble_eq_true rfl) (Nat.le_of_ble_eq_true rfl)

set_option maxHeartbeats 4000000 in
set_option maxRecDepth 100000 in
theorem k_cload (l : Launch) (hl0 : l.stackTraces = false) (G : zG) (I : List Nat) (ad : Nat → Nat) (ct : Nat → va_E) (sz : Nat) (x : Int) (hz1 : zr x) : zN l yX3_checkLoad wsX3_checkLoad 7 108 1 6 G [zi (x)] I ad ct (fun E => E = zIA ∧ ¬ (0 ≤ x ∧ x ≤ 10000000)) sz (zk I (zqv fun u => (0 ≤ x ∧ x ≤ 10000000) ∧ u = ct)) := by
  refine z_ofW (ret := none) hl0 (by decide +kernel) rfl (Nat.le_of_ble_eq_true rfl) ?_
  intro p e s m args below meth c A ls hA0 hsz hF hr hout hnm hw hl
  obtain ⟨hx, hb, hml, hown, hts, hK, hlk, hst⟩ := hF
  have hown : s.vm.findClass RX3 = some m.cls := hown
  have hl : lv_has ls 1 [(0, zi (x))] := hl
  have w_0 := hts (.constant RX3 140 (10000000)) (by decide +kernel)
  refine lv_iload_n hx hb dX3_checkLoad_0 rfl (lv_at hl 0 rfl) ?_
  refine z_ic hx hb dX3_checkLoad_1 ?_
  refine z_ldc (n := 10000000) hx hb hown w_0 (by decide) dX3_checkLoad_2 ?_
  refine z_tV (z_runS (As := [zi (x), zi (0), zi (10000000)]) (rest := []) ⟨hx, hb, hml, hown, hts⟩ hK hw (k_within l hl0 G I ad _ _ (x) (0) (10000000) hz1 ⟨by decide, by decide⟩ ⟨by decide, by decide⟩) (va_cwS 3 hts gX3_checkLoad_X3_checkWithin rfl rfl rfl (by decide +kernel) ⟨Nat.le_of_ble_eq_true rfl, Nat.le_of_ble_eq_true rfl⟩) rfl hl.1 rfl (Nat.le_of_ble_eq_true rfl) dX3_checkLoad_4 ⟨Nat.le_of_ble_eq_true rfl, Nat.le_of_ble_eq_true rfl⟩) hw hout hlk (fun E h9 => ⟨h9.1, fun q9 => h9.2 (by omega)⟩) (Nat.le_of_ble_eq_true rfl) (Nat.le_of_ble_eq_true rfl) (fun ct_2 H locs hP hw => ?_)
  obtain ⟨⟨q4_1, q4_2⟩, hct⟩ := hP
  rw [hct] at hw
  clear hct
  exact z_vret hx hb hlk hr hw dX3_checkLoad_7 (Nat.le_of_ble_eq_true rfl) (Nat.le_of_ble_eq_true rfl) ⟨rfl, rfl, ⟨by omega, rfl⟩⟩

set_option maxHeartbeats 4000000 in
set_option maxRecDepth 100000 in
theorem k_cpiece (l : Launch) (hl0 : l.stackTraces = false) (G : zG) (I : List Nat) (ad : Nat → Nat) (ct : Nat → va_E) (sz : Nat) (k : Nat) (q : zPl) (hg : zGood q) (hk : zMem4 I k) (hp : zPileAt G ad ct k q) (x : Int) (hz1 : zr x) : zN l yX3_checkPiece wsX3_checkPiece 7 108 1 6 G [.ref (ad (k)), zi (x)] I ad ct (fun E => E = zIA ∧ ¬ (0 ≤ x ∧ x < pn q)) sz (zk I (zqv fun u => (0 ≤ x ∧ x < pn q) ∧ u = ct)) := by
  obtain ⟨hp0, hp1, hp2, hp3⟩ := hp
  obtain ⟨hk0, hk1, hk2, hk3⟩ := hk
  have hg0 := hg
  obtain ⟨⟨g1, g2⟩, ⟨g3, g4⟩, ⟨g5, g6⟩, ⟨g7, g8⟩, ⟨g9, g10⟩, ⟨g11, g12⟩, g13, g14, g15, g16⟩ := hg0
  have gn : (q.1 : Int) = pn q := rfl
  refine z_ofW (ret := none) hl0 (by decide +kernel) rfl (Nat.le_of_ble_eq_true rfl) ?_
  intro p e s m args below meth c A ls hA0 hsz hF hr hout hnm hw hl
  obtain ⟨hx, hb, hml, hown, hts, hK, hlk, hst⟩ := hF
  have hown : s.vm.findClass RX3 = some m.cls := hown
  have hl : lv_has ls 2 [(0, .ref (ad (k))), (1, zi (x))] := hl
  refine lv_iload_n hx hb dX3_checkPiece_0 rfl (lv_at hl 1 rfl) ?_
  refine z_ic hx hb dX3_checkPiece_1 ?_
  refine lv_aload_n hx hb dX3_checkPiece_2 rfl (lv_at hl 0 rfl) ?_
  refine z_kI (z_runV (As := []) (rest := [zi (0), zi (x)]) (k := k) (fs := [zi (psp q), zi (pma q), zi (pco q), .ref (ad (k + 1)), .ref (ad (k + 2)), .ref (ad (k + 3)), zi (pts q), zi (ptm q), zi (pjo q)]) ⟨hx, hb, hml, hown, hts⟩ hK hw (k_pieces l hl0 G I ad _ _ (k) q hg ⟨hk0, hk1, hk2, hk3⟩ ⟨hp0, hp1, hp2, hp3⟩) (cwV 0 hts gX3_checkPiece_X1_pieces rfl rfl rfl (by decide +kernel) ⟨Nat.le_of_ble_eq_true rfl, Nat.le_of_ble_eq_true rfl⟩) hk0 hp0 rfl rfl rfl hl.1 rfl (Nat.le_of_ble_eq_true rfl) dX3_checkPiece_3 ⟨Nat.le_of_ble_eq_true rfl, Nat.le_of_ble_eq_true rfl⟩) hw (fun r_1 ct_2 H locs hP hw => ?_)
  obtain ⟨rfl, hct⟩ := hP
  rw [hct] at hw
  clear hct
  refine z_ic hx hb dX3_checkPiece_6 ?_
  refine z_isub hx hb dX3_checkPiece_7 ?_
  refine z_tV (z_runS (As := [zi (x), zi (0), zi ((pn q) - (1))]) (rest := []) ⟨hx, hb, hml, hown, hts⟩ hK hw (k_within l hl0 G I ad _ _ (x) (0) ((pn q) - (1)) hz1 ⟨by decide, by decide⟩ ⟨by omega, by omega⟩) (va_cwS 3 hts gX3_checkPiece_X3_checkWithin rfl rfl rfl (by decide +kernel) ⟨Nat.le_of_ble_eq_true rfl, Nat.le_of_ble_eq_true rfl⟩) rfl hl.1 rfl (Nat.le_of_ble_eq_true rfl) dX3_checkPiece_8 ⟨Nat.le_of_ble_eq_true rfl, Nat.le_of_ble_eq_true rfl⟩) hw hout hlk (fun E h9 => ⟨h9.1, fun q9 => h9.2 (by omega)⟩) (Nat.le_of_ble_eq_true rfl) (Nat.le_of_ble_eq_true rfl) (fun ct_4 H locs hP hw => ?_)
  obtain ⟨⟨q8_1, q8_2⟩, hct⟩ := hP
  rw [hct] at hw
  clear hct
  exact z_vret hx hb hlk hr hw dX3_checkPiece_11 (Nat.le_of_ble_eq_true rfl) (Nat.le_of_ble_eq_true rfl) ⟨rfl, rfl, ⟨by omega, rfl⟩⟩

set_option maxHeartbeats 4000000 in
set_option maxRecDepth 100000 in
theorem k_pileOf (l : Launch) (hl0 : l.stackTraces = false) (G : zG) (I : List Nat) (ad : Nat → Nat) (ct : Nat → va_E) (sz : Nat) (n : Nat) (hn6 : n ≤ 6) (hI0 : 0 ∈ I) (hI1 : 1 ∈ I) (h0 : ct 0 = .inr (3, [.ref (ad 1), .ref (ad 2), .ref (ad 3), zi n])) (h1 : ct 1 = zP G 6 (zpf ad n)) (a1 : Int) (hz1 : zr a1) : zN l yX3_pileOf wsX3_pileOf 6 86 1 6 G [.ref (ad (0)), zi (a1)] I ad ct (fun E => E = zIA ∧ ¬ (0 ≤ a1 ∧ a1 < n)) sz (zk I (zqa fun z u => z = ad (40 + 4 * a1.toNat) ∧ (0 ≤ a1 ∧ a1 < n) ∧ u = ct)) := by
  refine z_ofW (ret := (some (.object "PileMoves$Pile"))) hl0 (by decide +kernel) rfl (Nat.le_of_ble_eq_true rfl) ?_
  intro p e s m args below meth c A ls hA0 hsz hF hr hout hnm hw hl
  obtain ⟨hx, hb, hml, hown, hts, hK, hlk, hst⟩ := hF
  have hown : s.vm.findClass RX3 = some m.cls := hown
  have hl : lv_has ls 2 [(0, .ref (ad (0))), (1, zi (a1))] := hl
  have w_0 := hts (.classLink RX3 112 zIA) (by decide +kernel)
  have w_1 := hts (.initialized zIA) (by decide +kernel)
  have w_2 := hts (.fieldLink RX3 11 "PileMoves" "piles" "[LPileMoves$Pile;") (by decide +kernel)
  have w_3 : ∀ w ∈ wsX30, w ∈ wsX3_pileOf := by decide +kernel
  refine lv_iload_n hx hb dX3_pileOf_0 rfl (lv_at hl 1 rfl) ?_
  refine z_if_lt (tgt := 22) hx hb dX3_pileOf_1 (by decide) hz1 (fun c_1 => ?_) (fun c_1 => ?_)
  · exact z_throw hx hb hst hK hw hout hlk (cls := zIA) (text := "there is no such pile") (names := zNm) hown (by decide +kernel) zfit w_0 w_1 hK.2.1.2.2.2.2.2.2.2.2.2.2.1 (fun w h => hts w (List.mem_cons_of_mem _ (List.mem_append_right _ h))) hK.2.1.badA zbIA zgIA (hl.1.trans hml.symm) dX3_pileOf_22 dX3_pileOf_25 dX3_pileOf_26 dX3_pileOf_28 dX3_pileOf_31 (Nat.le_of_ble_eq_true rfl) (Nat.le_of_ble_eq_true rfl) (Nat.le_of_ble_eq_true rfl) (Nat.le_of_ble_eq_true rfl) (⟨rfl, by omega⟩) (Nat.le_of_ble_eq_true rfl) (Nat.le_of_ble_eq_true rfl)
  · refine lv_iload_n hx hb dX3_pileOf_4 rfl (lv_at hl 1 rfl) ?_
    refine lv_aload_n hx hb dX3_pileOf_5 rfl (lv_at hl 0 rfl) ?_
    refine z_get (C := RX3) (T := TX3) (N := 4) (fs := [.ref (ad (1)), .ref (ad (2)), .ref (ad (3)), zi (n)]) hx hb hts w_3 hown hK hw hI0 h0 rfl 0 (by decide) w_2 rfl rfl dX3_pileOf_6 ?_
    refine z_alen (n := 6) hx hb hK hw hI1 h1 3 rfl rfl dX3_pileOf_9 ?_
    refine z_icmp_ge (tgt := 22) hx hb dX3_pileOf_10 (by decide) hz1 ⟨by decide, by decide⟩ (fun c_2 => ?_) (fun c_2 => ?_)
    · exact z_throw hx hb hst hK hw hout hlk (cls := zIA) (text := "there is no such pile") (names := zNm) hown (by decide +kernel) zfit w_0 w_1 hK.2.1.2.2.2.2.2.2.2.2.2.2.1 (fun w h => hts w (List.mem_cons_of_mem _ (List.mem_append_right _ h))) hK.2.1.badA zbIA zgIA (hl.1.trans hml.symm) dX3_pileOf_22 dX3_pileOf_25 dX3_pileOf_26 dX3_pileOf_28 dX3_pileOf_31 (Nat.le_of_ble_eq_true rfl) (Nat.le_of_ble_eq_true rfl) (Nat.le_of_ble_eq_true rfl) (Nat.le_of_ble_eq_true rfl) (⟨rfl, by omega⟩) (Nat.le_of_ble_eq_true rfl) (Nat.le_of_ble_eq_true rfl)
    · refine lv_aload_n hx hb dX3_pileOf_13 rfl (lv_at hl 0 rfl) ?_
      refine z_get (C := RX3) (T := TX3) (N := 4) (fs := [.ref (ad (1)), .ref (ad (2)), .ref (ad (3)), zi (n)]) hx hb hts w_3 hown hK hw hI0 h0 rfl 0 (by decide) w_2 rfl rfl dX3_pileOf_14 ?_
      refine lv_iload_n hx hb dX3_pileOf_17 rfl (lv_at hl 1 rfl) ?_
      by_cases hin18 : (a1) < (n : Int)
      · refine z_aald (f := zpf ad n) (v := .ref (ad (40 + 4 * (a1).toNat))) hx hb hK hw hI1 h1 (by omega) (by omega) (by decide) (zpf_s (by omega) (by omega)) dX3_pileOf_18 ?_
        refine lv_ifnonnull (tgt := 32) hx hb dX3_pileOf_19 (by decide) ?_
        refine lv_aload_n hx hb dX3_pileOf_32 rfl (lv_at hl 0 rfl) ?_
        refine z_get (C := RX3) (T := TX3) (N := 4) (fs := [.ref (ad (1)), .ref (ad (2)), .ref (ad (3)), zi (n)]) hx hb hts w_3 hown hK hw hI0 h0 rfl 0 (by decide) w_2 rfl rfl dX3_pileOf_33 ?_
        refine lv_iload_n hx hb dX3_pileOf_36 rfl (lv_at hl 1 rfl) ?_
        refine z_aald (f := zpf ad n) (v := .ref (ad (40 + 4 * a1.toNat))) hx hb hK hw hI1 h1 (by omega) (by omega) (by decide) (zpf_s (by omega) (by omega)) dX3_pileOf_37 ?_
        exact z_aret hx hb hlk hr hw dX3_pileOf_38 (Nat.le_of_ble_eq_true rfl) (Nat.le_of_ble_eq_true rfl) ⟨rfl, _, rfl, rfl, ⟨by omega, by omega⟩, rfl⟩
      · refine z_aald (f := zpf ad n) (v := .null) hx hb hK hw hI1 h1 (by omega) (by omega) (by decide) (zpf_n hin18) dX3_pileOf_18 ?_
        refine lv_ifnonnullN hx hb dX3_pileOf_19 ?_
        exact z_throw hx hb hst hK hw hout hlk (cls := zIA) (text := "there is no such pile") (names := zNm) hown (by decide +kernel) zfit w_0 w_1 hK.2.1.2.2.2.2.2.2.2.2.2.2.1 (fun w h => hts w (List.mem_cons_of_mem _ (List.mem_append_right _ h))) hK.2.1.badA zbIA zgIA (hl.1.trans hml.symm) dX3_pileOf_22 dX3_pileOf_25 dX3_pileOf_26 dX3_pileOf_28 dX3_pileOf_31 (Nat.le_of_ble_eq_true rfl) (Nat.le_of_ble_eq_true rfl) (Nat.le_of_ble_eq_true rfl) (Nat.le_of_ble_eq_true rfl) (⟨rfl, by omega⟩) (Nat.le_of_ble_eq_true rfl) (Nat.le_of_ble_eq_true rfl)

set_option maxHeartbeats 4000000 in
set_option maxRecDepth 100000 in
theorem k_ground (l : Launch) (hl0 : l.stackTraces = false) (G : zG) (I : List Nat) (ad : Nat → Nat) (ct : Nat → va_E) (sz : Nat) (n : Nat) (hn6 : n ≤ 6) (hI0 : 0 ∈ I) (hI1 : 1 ∈ I) (h0 : ct 0 = .inr (3, [.ref (ad 1), .ref (ad 2), .ref (ad 3), zi n])) (h1 : ct 1 = zP G 6 (zpf ad n)) (σ : Nat → zPl) (hgs : ∀ p : Nat, p < n → zGood (σ p)) (hms : ∀ p : Nat, p < n → zMem4 I (40 + 4 * p)) (hps : ∀ p : Nat, p < n → zPileAt G ad ct (40 + 4 * p) (σ p)) (a1 a2 a3 a4 : Int) (hz1 : zr a1) (hz2 : zr a2) (hz3 : zr a3) (hz4 : zr a4) : zN l yX3_ground wsX3_ground 8 129 4 24 G [.ref (ad (0)), zi (a1), zi (a2), zi (a3), zi (a4)] I ad ct (fun E => E = zIA ∧ ¬ ((0 ≤ a1 ∧ a1 < n) ∧ (0 ≤ a2 ∧ a2 < pn (σ (a1).toNat)) ∧ (0 ≤ a3 ∧ a3 ≤ 1000) ∧ (0 ≤ a4 ∧ a4 ≤ 100000))) sz (zk I (zqv fun u => ((0 ≤ a1 ∧ a1 < n) ∧ (0 ≤ a2 ∧ a2 < pn (σ (a1).toNat)) ∧ (0 ≤ a3 ∧ a3 ≤ 1000) ∧ (0 ≤ a4 ∧ a4 ≤ 100000)) ∧ u = zU (zU ct (40 + 4 * (a1).toNat + 1) (zI G (σ (a1).toNat).1 (zup (pst (σ (a1).toNat)) a2 a3))) (40 + 4 * (a1).toNat + 2) (zI G (σ (a1).toNat).1 (zup (pmo (σ (a1).toNat)) a2 a4)))) := by
  refine z_ofW (ret := none) hl0 (by decide +kernel) rfl (Nat.le_of_ble_eq_true rfl) ?_
  intro p e s m args below meth c A ls hA0 hsz hF hr hout hnm hw hl
  obtain ⟨hx, hb, hml, hown, hts, hK, hlk, hst⟩ := hF
  have hown : s.vm.findClass RX3 = some m.cls := hown
  have hl : lv_has ls 6 [(0, .ref (ad (0))), (1, zi (a1)), (2, zi (a2)), (3, zi (a3)), (4, zi (a4))] := hl
  have w_0 := hts (.constant RX3 37 (100000)) (by decide +kernel)
  have w_1 := hts (.fieldLink RX3 56 "PileMoves$Pile" "stiff" "[I") (by decide +kernel)
  have w_2 : ∀ w ∈ wsX10, w ∈ wsX3_ground := by decide +kernel
  have w_3 := hts (.fieldLink RX3 60 "PileMoves$Pile" "most" "[I") (by decide +kernel)
  refine lv_aload_n hx hb dX3_ground_0 rfl (lv_at hl 0 rfl) ?_
  refine lv_iload_n hx hb dX3_ground_1 rfl (lv_at hl 1 rfl) ?_
  refine z_tA (z_runV (As := [zi (a1)]) (rest := []) (k := 0) (fs := [.ref (ad (1)), .ref (ad (2)), .ref (ad (3)), zi (n)]) ⟨hx, hb, hml, hown, hts⟩ hK hw (k_pileOf l hl0 G I ad _ _ n hn6 hI0 hI1 h0 h1 (a1) hz1) (cwV 1 hts gX3_ground_X3_pileOf rfl rfl rfl (by decide +kernel) ⟨Nat.le_of_ble_eq_true rfl, Nat.le_of_ble_eq_true rfl⟩) hI0 h0 rfl rfl rfl hl.1 rfl (Nat.le_of_ble_eq_true rfl) dX3_ground_2 ⟨Nat.le_of_ble_eq_true rfl, Nat.le_of_ble_eq_true rfl⟩) hw hout hlk (fun E h9 => ⟨h9.1, fun q9 => h9.2 (by omega)⟩) (Nat.le_of_ble_eq_true rfl) (Nat.le_of_ble_eq_true rfl) (fun r_1 ct_2 H locs hP hw => ?_)
  obtain ⟨rfl, ⟨q2_1, q2_2⟩, hct⟩ := hP
  rw [hct] at hw
  clear hct
  obtain ⟨hp0, hp1, hp2, hp3⟩ := hps (a1).toNat (by omega)
  obtain ⟨hk0, hk1, hk2, hk3⟩ := hms (a1).toNat (by omega)
  have hg := hgs (a1).toNat (by omega)
  have hg0 := hg
  obtain ⟨⟨g1, g2⟩, ⟨g3, g4⟩, ⟨g5, g6⟩, ⟨g7, g8⟩, ⟨g9, g10⟩, ⟨g11, g12⟩, g13, g14, g15, g16⟩ := hg0
  have gn : (((σ (a1).toNat)).1 : Int) = pn (σ (a1).toNat) := rfl
  refine lv_astore (lv' := [(5, .ref (ad (40 + 4 * (a1).toNat))), (0, .ref (ad (0))), (1, zi (a1)), (2, zi (a2)), (3, zi (a3)), (4, zi (a4))]) hx hb dX3_ground_5 hl (by decide) rfl (fun ls hl => ?_)
  refine lv_aload hx hb dX3_ground_7 (lv_at hl 0 rfl) ?_
  refine lv_iload_n hx hb dX3_ground_9 rfl (lv_at hl 3 rfl) ?_
  refine z_tV (z_runS (As := [.ref (ad (40 + 4 * (a1).toNat)), zi (a2)]) (rest := []) ⟨hx, hb, hml, hown, hts⟩ hK hw (k_cpiece l hl0 G I ad _ _ (40 + 4 * (a1).toNat) (σ (a1).toNat) hg ⟨hk0, hk1, hk2, hk3⟩ ⟨hp0, hp1, hp2, hp3⟩ (a2) hz2) (va_cwS 2 hts gX3_ground_X3_checkPiece rfl rfl rfl (by decide +kernel) ⟨Nat.le_of_ble_eq_true rfl, Nat.le_of_ble_eq_true rfl⟩) rfl hl.1 rfl (Nat.le_of_ble_eq_true rfl) dX3_ground_10 ⟨Nat.le_of_ble_eq_true rfl, Nat.le_of_ble_eq_true rfl⟩) hw hout hlk (fun E h9 => ⟨h9.1, fun q9 => h9.2 (by omega)⟩) (Nat.le_of_ble_eq_true rfl) (Nat.le_of_ble_eq_true rfl) (fun ct_4 H locs hP hw => ?_)
  obtain ⟨⟨q10_1, q10_2⟩, hct⟩ := hP
  rw [hct] at hw
  clear hct
  refine lv_iload_n hx hb dX3_ground_13 rfl (lv_at hl 4 rfl) ?_
  refine z_ic hx hb dX3_ground_14 ?_
  refine z_si hx hb dX3_ground_15 (by decide) ?_
  refine z_tV (z_runS (As := [zi (a3), zi (0), zi (1000)]) (rest := []) ⟨hx, hb, hml, hown, hts⟩ hK hw (k_within l hl0 G I ad _ _ (a3) (0) (1000) hz3 ⟨by decide, by decide⟩ ⟨by decide, by decide⟩) (va_cwS 3 hts gX3_ground_X3_checkWithin rfl rfl rfl (by decide +kernel) ⟨Nat.le_of_ble_eq_true rfl, Nat.le_of_ble_eq_true rfl⟩) rfl hl.1 rfl (Nat.le_of_ble_eq_true rfl) dX3_ground_18 ⟨Nat.le_of_ble_eq_true rfl, Nat.le_of_ble_eq_true rfl⟩) hw hout hlk (fun E h9 => ⟨h9.1, fun q9 => h9.2 (by omega)⟩) (Nat.le_of_ble_eq_true rfl) (Nat.le_of_ble_eq_true rfl) (fun ct_6 H locs hP hw => ?_)
  obtain ⟨⟨q18_1, q18_2⟩, hct⟩ := hP
  rw [hct] at hw
  clear hct
  refine lv_iload hx hb dX3_ground_21 (lv_at hl 5 rfl) ?_
  refine z_ic hx hb dX3_ground_23 ?_
  refine z_ldc (n := 100000) hx hb hown w_0 (by decide) dX3_ground_24 ?_
  refine z_tV (z_runS (As := [zi (a4), zi (0), zi (100000)]) (rest := []) ⟨hx, hb, hml, hown, hts⟩ hK hw (k_within l hl0 G I ad _ _ (a4) (0) (100000) hz4 ⟨by decide, by decide⟩ ⟨by decide, by decide⟩) (va_cwS 3 hts gX3_ground_X3_checkWithin rfl rfl rfl (by decide +kernel) ⟨Nat.le_of_ble_eq_true rfl, Nat.le_of_ble_eq_true rfl⟩) rfl hl.1 rfl (Nat.le_of_ble_eq_true rfl) dX3_ground_26 ⟨Nat.le_of_ble_eq_true rfl, Nat.le_of_ble_eq_true rfl⟩) hw hout hlk (fun E h9 => ⟨h9.1, fun q9 => h9.2 (by omega)⟩) (Nat.le_of_ble_eq_true rfl) (Nat.le_of_ble_eq_true rfl) (fun ct_8 H locs hP hw => ?_)
  obtain ⟨⟨q26_1, q26_2⟩, hct⟩ := hP
  rw [hct] at hw
  clear hct
  refine lv_aload hx hb dX3_ground_29 (lv_at hl 0 rfl) ?_
  refine z_get (C := RX1) (T := TX1) (N := 9) (fs := [zi (psp (σ (a1).toNat)), zi (pma (σ (a1).toNat)), zi (pco (σ (a1).toNat)), .ref (ad (40 + 4 * (a1).toNat + 1)), .ref (ad (40 + 4 * (a1).toNat + 2)), .ref (ad (40 + 4 * (a1).toNat + 3)), zi (pts (σ (a1).toNat)), zi (ptm (σ (a1).toNat)), zi (pjo (σ (a1).toNat))]) hx hb hts w_2 hown hK hw hk0 hp0 rfl 3 (by decide) w_1 rfl rfl dX3_ground_31 ?_
  refine lv_iload_n hx hb dX3_ground_34 rfl (lv_at hl 3 rfl) ?_
  refine lv_iload_n hx hb dX3_ground_35 rfl (lv_at hl 4 rfl) ?_
  refine z_iast (f := pst (σ (a1).toNat)) hx hb hK hw hk1 hp1 (by omega) (by omega) (by omega) dX3_ground_36 (fun H locs hw => ?_)
  refine lv_aload hx hb dX3_ground_37 (lv_at hl 0 rfl) ?_
  refine z_get (C := RX1) (T := TX1) (N := 9) (fs := [zi (psp (σ (a1).toNat)), zi (pma (σ (a1).toNat)), zi (pco (σ (a1).toNat)), .ref (ad (40 + 4 * (a1).toNat + 1)), .ref (ad (40 + 4 * (a1).toNat + 2)), .ref (ad (40 + 4 * (a1).toNat + 3)), zi (pts (σ (a1).toNat)), zi (ptm (σ (a1).toNat)), zi (pjo (σ (a1).toNat))]) hx hb hts w_2 hown hK hw hk0 (zU_n (by omega) hp0) rfl 4 (by decide) w_3 rfl rfl dX3_ground_39 ?_
  refine lv_iload_n hx hb dX3_ground_42 rfl (lv_at hl 3 rfl) ?_
  refine lv_iload hx hb dX3_ground_43 (lv_at hl 5 rfl) ?_
  refine z_iast (f := pmo (σ (a1).toNat)) hx hb hK hw hk2 (zU_n (by omega) hp2) (by omega) (by omega) (by omega) dX3_ground_45 (fun H locs hw => ?_)
  exact z_vret hx hb hlk hr hw dX3_ground_46 (Nat.le_of_ble_eq_true rfl) (Nat.le_of_ble_eq_true rfl) ⟨rfl, rfl, ⟨⟨⟨by omega, by omega⟩, ⟨by omega, by omega⟩, ⟨by omega, by omega⟩, ⟨by omega, by omega⟩⟩, rfl⟩⟩

set_option maxHeartbeats 4000000 in
set_option maxRecDepth 100000 in
theorem k_sinks (l : Launch) (hl0 : l.stackTraces = false) (G : zG) (I : List Nat) (ad : Nat → Nat) (ct : Nat → va_E) (sz : Nat) (n : Nat) (hn6 : n ≤ 6) (hI0 : 0 ∈ I) (hI1 : 1 ∈ I) (h0 : ct 0 = .inr (3, [.ref (ad 1), .ref (ad 2), .ref (ad 3), zi n])) (h1 : ct 1 = zP G 6 (zpf ad n)) (σ : Nat → zPl) (hgs : ∀ p : Nat, p < n → zGood (σ p)) (hms : ∀ p : Nat, p < n → zMem4 I (40 + 4 * p)) (hps : ∀ p : Nat, p < n → zPileAt G ad ct (40 + 4 * p) (σ p)) (a1 a2 a3 : Int) (hz1 : zr a1) (hz2 : zr a2) (hz3 : zr a3) : zN l yX3_sinks wsX3_sinks 8 129 3 18 G [.ref (ad (0)), zi (a1), zi (a2), zi (a3)] I ad ct (fun E => E = zIA ∧ ¬ ((0 ≤ a1 ∧ a1 < n) ∧ (0 ≤ a2 ∧ a2 < pn (σ (a1).toNat)) ∧ (0 ≤ a3 ∧ a3 ≤ 10000))) sz (zk I (zqi fun z u => ((0 ≤ a1 ∧ a1 < n) ∧ (0 ≤ a2 ∧ a2 < pn (σ (a1).toNat)) ∧ (0 ≤ a3 ∧ a3 ≤ 10000)) ∧ z = psk (σ (a1).toNat) a2 ∧ u = zU ct (40 + 4 * (a1).toNat + 3) (zI G (σ (a1).toNat).1 (zup (psk (σ (a1).toNat)) a2 a3)))) := by
  refine z_ofW (ret := (some .int)) hl0 (by decide +kernel) rfl (Nat.le_of_ble_eq_true rfl) ?_
  intro p e s m args below meth c A ls hA0 hsz hF hr hout hnm hw hl
  obtain ⟨hx, hb, hml, hown, hts, hK, hlk, hst⟩ := hF
  have hown : s.vm.findClass RX3 = some m.cls := hown
  have hl : lv_has ls 6 [(0, .ref (ad (0))), (1, zi (a1)), (2, zi (a2)), (3, zi (a3))] := hl
  have w_0 := hts (.fieldLink RX3 63 "PileMoves$Pile" "sunk" "[I") (by decide +kernel)
  have w_1 : ∀ w ∈ wsX10, w ∈ wsX3_sinks := by decide +kernel
  refine lv_aload_n hx hb dX3_sinks_0 rfl (lv_at hl 0 rfl) ?_
  refine lv_iload_n hx hb dX3_sinks_1 rfl (lv_at hl 1 rfl) ?_
  refine z_tA (z_runV (As := [zi (a1)]) (rest := []) (k := 0) (fs := [.ref (ad (1)), .ref (ad (2)), .ref (ad (3)), zi (n)]) ⟨hx, hb, hml, hown, hts⟩ hK hw (k_pileOf l hl0 G I ad _ _ n hn6 hI0 hI1 h0 h1 (a1) hz1) (cwV 1 hts gX3_sinks_X3_pileOf rfl rfl rfl (by decide +kernel) ⟨Nat.le_of_ble_eq_true rfl, Nat.le_of_ble_eq_true rfl⟩) hI0 h0 rfl rfl rfl hl.1 rfl (Nat.le_of_ble_eq_true rfl) dX3_sinks_2 ⟨Nat.le_of_ble_eq_true rfl, Nat.le_of_ble_eq_true rfl⟩) hw hout hlk (fun E h9 => ⟨h9.1, fun q9 => h9.2 (by omega)⟩) (Nat.le_of_ble_eq_true rfl) (Nat.le_of_ble_eq_true rfl) (fun r_1 ct_2 H locs hP hw => ?_)
  obtain ⟨rfl, ⟨q2_1, q2_2⟩, hct⟩ := hP
  rw [hct] at hw
  clear hct
  obtain ⟨hp0, hp1, hp2, hp3⟩ := hps (a1).toNat (by omega)
  obtain ⟨hk0, hk1, hk2, hk3⟩ := hms (a1).toNat (by omega)
  have hg := hgs (a1).toNat (by omega)
  have hg0 := hg
  obtain ⟨⟨g1, g2⟩, ⟨g3, g4⟩, ⟨g5, g6⟩, ⟨g7, g8⟩, ⟨g9, g10⟩, ⟨g11, g12⟩, g13, g14, g15, g16⟩ := hg0
  have gn : (((σ (a1).toNat)).1 : Int) = pn (σ (a1).toNat) := rfl
  refine lv_astore (lv' := [(4, .ref (ad (40 + 4 * (a1).toNat))), (0, .ref (ad (0))), (1, zi (a1)), (2, zi (a2)), (3, zi (a3))]) hx hb dX3_sinks_5 hl (by decide) rfl (fun ls hl => ?_)
  refine lv_aload hx hb dX3_sinks_7 (lv_at hl 0 rfl) ?_
  refine lv_iload_n hx hb dX3_sinks_9 rfl (lv_at hl 3 rfl) ?_
  refine z_tV (z_runS (As := [.ref (ad (40 + 4 * (a1).toNat)), zi (a2)]) (rest := []) ⟨hx, hb, hml, hown, hts⟩ hK hw (k_cpiece l hl0 G I ad _ _ (40 + 4 * (a1).toNat) (σ (a1).toNat) hg ⟨hk0, hk1, hk2, hk3⟩ ⟨hp0, hp1, hp2, hp3⟩ (a2) hz2) (va_cwS 2 hts gX3_sinks_X3_checkPiece rfl rfl rfl (by decide +kernel) ⟨Nat.le_of_ble_eq_true rfl, Nat.le_of_ble_eq_true rfl⟩) rfl hl.1 rfl (Nat.le_of_ble_eq_true rfl) dX3_sinks_10 ⟨Nat.le_of_ble_eq_true rfl, Nat.le_of_ble_eq_true rfl⟩) hw hout hlk (fun E h9 => ⟨h9.1, fun q9 => h9.2 (by omega)⟩) (Nat.le_of_ble_eq_true rfl) (Nat.le_of_ble_eq_true rfl) (fun ct_4 H locs hP hw => ?_)
  obtain ⟨⟨q10_1, q10_2⟩, hct⟩ := hP
  rw [hct] at hw
  clear hct
  refine lv_iload_n hx hb dX3_sinks_13 rfl (lv_at hl 4 rfl) ?_
  refine z_ic hx hb dX3_sinks_14 ?_
  refine z_si hx hb dX3_sinks_15 (by decide) ?_
  refine z_tV (z_runS (As := [zi (a3), zi (0), zi (10000)]) (rest := []) ⟨hx, hb, hml, hown, hts⟩ hK hw (k_within l hl0 G I ad _ _ (a3) (0) (10000) hz3 ⟨by decide, by decide⟩ ⟨by decide, by decide⟩) (va_cwS 3 hts gX3_sinks_X3_checkWithin rfl rfl rfl (by decide +kernel) ⟨Nat.le_of_ble_eq_true rfl, Nat.le_of_ble_eq_true rfl⟩) rfl hl.1 rfl (Nat.le_of_ble_eq_true rfl) dX3_sinks_18 ⟨Nat.le_of_ble_eq_true rfl, Nat.le_of_ble_eq_true rfl⟩) hw hout hlk (fun E h9 => ⟨h9.1, fun q9 => h9.2 (by omega)⟩) (Nat.le_of_ble_eq_true rfl) (Nat.le_of_ble_eq_true rfl) (fun ct_6 H locs hP hw => ?_)
  obtain ⟨⟨q18_1, q18_2⟩, hct⟩ := hP
  rw [hct] at hw
  clear hct
  refine lv_aload hx hb dX3_sinks_21 (lv_at hl 0 rfl) ?_
  refine z_get (C := RX1) (T := TX1) (N := 9) (fs := [zi (psp (σ (a1).toNat)), zi (pma (σ (a1).toNat)), zi (pco (σ (a1).toNat)), .ref (ad (40 + 4 * (a1).toNat + 1)), .ref (ad (40 + 4 * (a1).toNat + 2)), .ref (ad (40 + 4 * (a1).toNat + 3)), zi (pts (σ (a1).toNat)), zi (ptm (σ (a1).toNat)), zi (pjo (σ (a1).toNat))]) hx hb hts w_1 hown hK hw hk0 hp0 rfl 5 (by decide) w_0 rfl rfl dX3_sinks_23 ?_
  refine lv_iload_n hx hb dX3_sinks_26 rfl (lv_at hl 3 rfl) ?_
  refine z_iald (f := psk (σ (a1).toNat)) hx hb hK hw hk3 hp3 (by omega) (by omega) (by omega) dX3_sinks_27 ?_
  refine lv_istore (lv' := [(5, zi ((psk (σ (a1).toNat)) (a2))), (4, .ref (ad (40 + 4 * (a1).toNat))), (0, .ref (ad (0))), (1, zi (a1)), (2, zi (a2)), (3, zi (a3))]) hx hb dX3_sinks_28 hl (by decide) rfl (fun ls hl => ?_)
  refine lv_aload hx hb dX3_sinks_30 (lv_at hl 1 rfl) ?_
  refine z_get (C := RX1) (T := TX1) (N := 9) (fs := [zi (psp (σ (a1).toNat)), zi (pma (σ (a1).toNat)), zi (pco (σ (a1).toNat)), .ref (ad (40 + 4 * (a1).toNat + 1)), .ref (ad (40 + 4 * (a1).toNat + 2)), .ref (ad (40 + 4 * (a1).toNat + 3)), zi (pts (σ (a1).toNat)), zi (ptm (σ (a1).toNat)), zi (pjo (σ (a1).toNat))]) hx hb hts w_1 hown hK hw hk0 hp0 rfl 5 (by decide) w_0 rfl rfl dX3_sinks_32 ?_
  refine lv_iload_n hx hb dX3_sinks_35 rfl (lv_at hl 4 rfl) ?_
  refine lv_iload_n hx hb dX3_sinks_36 rfl (lv_at hl 5 rfl) ?_
  refine z_iast (f := psk (σ (a1).toNat)) hx hb hK hw hk3 hp3 (by omega) (by omega) (by omega) dX3_sinks_37 (fun H locs hw => ?_)
  refine lv_iload hx hb dX3_sinks_38 (lv_at hl 0 rfl) ?_
  exact z_iret hx hb hlk hr hw dX3_sinks_40 (Nat.le_of_ble_eq_true rfl) (Nat.le_of_ble_eq_true rfl) ⟨rfl, _, rfl, ⟨⟨⟨by omega, by omega⟩, ⟨by omega, by omega⟩, ⟨by omega, by omega⟩⟩, rfl, rfl⟩⟩

set_option maxHeartbeats 4000000 in
set_option maxRecDepth 100000 in
theorem k_tip (l : Launch) (hl0 : l.stackTraces = false) (G : zG) (I : List Nat) (ad : Nat → Nat) (ct : Nat → va_E) (sz : Nat) (n : Nat) (hn6 : n ≤ 6) (hI0 : 0 ∈ I) (hI1 : 1 ∈ I) (h0 : ct 0 = .inr (3, [.ref (ad 1), .ref (ad 2), .ref (ad 3), zi n])) (h1 : ct 1 = zP G 6 (zpf ad n)) (σ : Nat → zPl) (hgs : ∀ p : Nat, p < n → zGood (σ p)) (hms : ∀ p : Nat, p < n → zMem4 I (40 + 4 * p)) (hps : ∀ p : Nat, p < n → zPileAt G ad ct (40 + 4 * p) (σ p)) (a1 a2 a3 : Int) (hz1 : zr a1) (hz2 : zr a2) (hz3 : zr a3) : zN l yX3_tip wsX3_tip 7 108 3 18 G [.ref (ad (0)), zi (a1), zi (a2), zi (a3)] I ad ct (fun E => E = zIA ∧ ¬ ((0 ≤ a1 ∧ a1 < n) ∧ (0 ≤ a2 ∧ a2 ≤ 1000) ∧ (0 ≤ a3 ∧ a3 ≤ 1000000))) sz (zk I (zqv fun u => ((0 ≤ a1 ∧ a1 < n) ∧ (0 ≤ a2 ∧ a2 ≤ 1000) ∧ (0 ≤ a3 ∧ a3 ≤ 1000000)) ∧ u = zU ct (40 + 4 * (a1).toNat) (.inr (1, [zi (psp (σ (a1).toNat)), zi (pma (σ (a1).toNat)), zi (pco (σ (a1).toNat)), .ref (ad (40 + 4 * (a1).toNat + 1)), .ref (ad (40 + 4 * (a1).toNat + 2)), .ref (ad (40 + 4 * (a1).toNat + 3)), zi (a2), zi (a3), zi (pjo (σ (a1).toNat))])))) := by
  refine z_ofW (ret := none) hl0 (by decide +kernel) rfl (Nat.le_of_ble_eq_true rfl) ?_
  intro p e s m args below meth c A ls hA0 hsz hF hr hout hnm hw hl
  obtain ⟨hx, hb, hml, hown, hts, hK, hlk, hst⟩ := hF
  have hown : s.vm.findClass RX3 = some m.cls := hown
  have hl : lv_has ls 5 [(0, .ref (ad (0))), (1, zi (a1)), (2, zi (a2)), (3, zi (a3))] := hl
  have w_0 := hts (.constant RX3 66 (1000000)) (by decide +kernel)
  have w_1 := hts (.fieldLink RX3 67 "PileMoves$Pile" "tipStiff" "I") (by decide +kernel)
  have w_2 : ∀ w ∈ wsX10, w ∈ wsX3_tip := by decide +kernel
  have w_3 := hts (.fieldLink RX3 70 "PileMoves$Pile" "tipMost" "I") (by decide +kernel)
  refine lv_aload_n hx hb dX3_tip_0 rfl (lv_at hl 0 rfl) ?_
  refine lv_iload_n hx hb dX3_tip_1 rfl (lv_at hl 1 rfl) ?_
  refine z_tA (z_runV (As := [zi (a1)]) (rest := []) (k := 0) (fs := [.ref (ad (1)), .ref (ad (2)), .ref (ad (3)), zi (n)]) ⟨hx, hb, hml, hown, hts⟩ hK hw (k_pileOf l hl0 G I ad _ _ n hn6 hI0 hI1 h0 h1 (a1) hz1) (cwV 1 hts gX3_tip_X3_pileOf rfl rfl rfl (by decide +kernel) ⟨Nat.le_of_ble_eq_true rfl, Nat.le_of_ble_eq_true rfl⟩) hI0 h0 rfl rfl rfl hl.1 rfl (Nat.le_of_ble_eq_true rfl) dX3_tip_2 ⟨Nat.le_of_ble_eq_true rfl, Nat.le_of_ble_eq_true rfl⟩) hw hout hlk (fun E h9 => ⟨h9.1, fun q9 => h9.2 (by omega)⟩) (Nat.le_of_ble_eq_true rfl) (Nat.le_of_ble_eq_true rfl) (fun r_1 ct_2 H locs hP hw => ?_)
  obtain ⟨rfl, ⟨q2_1, q2_2⟩, hct⟩ := hP
  rw [hct] at hw
  clear hct
  obtain ⟨hp0, hp1, hp2, hp3⟩ := hps (a1).toNat (by omega)
  obtain ⟨hk0, hk1, hk2, hk3⟩ := hms (a1).toNat (by omega)
  have hg := hgs (a1).toNat (by omega)
  have hg0 := hg
  obtain ⟨⟨g1, g2⟩, ⟨g3, g4⟩, ⟨g5, g6⟩, ⟨g7, g8⟩, ⟨g9, g10⟩, ⟨g11, g12⟩, g13, g14, g15, g16⟩ := hg0
  have gn : (((σ (a1).toNat)).1 : Int) = pn (σ (a1).toNat) := rfl
  refine lv_astore (lv' := [(4, .ref (ad (40 + 4 * (a1).toNat))), (0, .ref (ad (0))), (1, zi (a1)), (2, zi (a2)), (3, zi (a3))]) hx hb dX3_tip_5 hl (by decide) rfl (fun ls hl => ?_)
  refine lv_iload_n hx hb dX3_tip_7 rfl (lv_at hl 3 rfl) ?_
  refine z_ic hx hb dX3_tip_8 ?_
  refine z_si hx hb dX3_tip_9 (by decide) ?_
  refine z_tV (z_runS (As := [zi (a2), zi (0), zi (1000)]) (rest := []) ⟨hx, hb, hml, hown, hts⟩ hK hw (k_within l hl0 G I ad _ _ (a2) (0) (1000) hz2 ⟨by decide, by decide⟩ ⟨by decide, by decide⟩) (va_cwS 3 hts gX3_tip_X3_checkWithin rfl rfl rfl (by decide +kernel) ⟨Nat.le_of_ble_eq_true rfl, Nat.le_of_ble_eq_true rfl⟩) rfl hl.1 rfl (Nat.le_of_ble_eq_true rfl) dX3_tip_12 ⟨Nat.le_of_ble_eq_true rfl, Nat.le_of_ble_eq_true rfl⟩) hw hout hlk (fun E h9 => ⟨h9.1, fun q9 => h9.2 (by omega)⟩) (Nat.le_of_ble_eq_true rfl) (Nat.le_of_ble_eq_true rfl) (fun ct_4 H locs hP hw => ?_)
  obtain ⟨⟨q12_1, q12_2⟩, hct⟩ := hP
  rw [hct] at hw
  clear hct
  refine lv_iload_n hx hb dX3_tip_15 rfl (lv_at hl 4 rfl) ?_
  refine z_ic hx hb dX3_tip_16 ?_
  refine z_ldc (n := 1000000) hx hb hown w_0 (by decide) dX3_tip_17 ?_
  refine z_tV (z_runS (As := [zi (a3), zi (0), zi (1000000)]) (rest := []) ⟨hx, hb, hml, hown, hts⟩ hK hw (k_within l hl0 G I ad _ _ (a3) (0) (1000000) hz3 ⟨by decide, by decide⟩ ⟨by decide, by decide⟩) (va_cwS 3 hts gX3_tip_X3_checkWithin rfl rfl rfl (by decide +kernel) ⟨Nat.le_of_ble_eq_true rfl, Nat.le_of_ble_eq_true rfl⟩) rfl hl.1 rfl (Nat.le_of_ble_eq_true rfl) dX3_tip_19 ⟨Nat.le_of_ble_eq_true rfl, Nat.le_of_ble_eq_true rfl⟩) hw hout hlk (fun E h9 => ⟨h9.1, fun q9 => h9.2 (by omega)⟩) (Nat.le_of_ble_eq_true rfl) (Nat.le_of_ble_eq_true rfl) (fun ct_6 H locs hP hw => ?_)
  obtain ⟨⟨q19_1, q19_2⟩, hct⟩ := hP
  rw [hct] at hw
  clear hct
  refine lv_aload hx hb dX3_tip_22 (lv_at hl 0 rfl) ?_
  refine lv_iload_n hx hb dX3_tip_24 rfl (lv_at hl 3 rfl) ?_
  refine z_put (C := RX1) (T := TX1) (N := 9) (fs := [zi (psp (σ (a1).toNat)), zi (pma (σ (a1).toNat)), zi (pco (σ (a1).toNat)), .ref (ad (40 + 4 * (a1).toNat + 1)), .ref (ad (40 + 4 * (a1).toNat + 2)), .ref (ad (40 + 4 * (a1).toNat + 3)), zi (pts (σ (a1).toNat)), zi (ptm (σ (a1).toNat)), zi (pjo (σ (a1).toNat))]) (fs' := [zi (psp (σ (a1).toNat)), zi (pma (σ (a1).toNat)), zi (pco (σ (a1).toNat)), .ref (ad (40 + 4 * (a1).toNat + 1)), .ref (ad (40 + 4 * (a1).toNat + 2)), .ref (ad (40 + 4 * (a1).toNat + 3)), zi (a2), zi (ptm (σ (a1).toNat)), zi (pjo (σ (a1).toNat))]) hx hb hts w_2 tyX1_ok nmX1 hown hK hw hk0 hp0 rfl 6 (by decide) w_1 rfl rfl rfl rfl (Nat.le_of_ble_eq_true rfl) rfl dX3_tip_25 (fun H locs hw => ?_)
  refine lv_aload hx hb dX3_tip_28 (lv_at hl 0 rfl) ?_
  refine lv_iload_n hx hb dX3_tip_30 rfl (lv_at hl 4 rfl) ?_
  refine z_put (C := RX1) (T := TX1) (N := 9) (fs := [zi (psp (σ (a1).toNat)), zi (pma (σ (a1).toNat)), zi (pco (σ (a1).toNat)), .ref (ad (40 + 4 * (a1).toNat + 1)), .ref (ad (40 + 4 * (a1).toNat + 2)), .ref (ad (40 + 4 * (a1).toNat + 3)), zi (a2), zi (ptm (σ (a1).toNat)), zi (pjo (σ (a1).toNat))]) (fs' := [zi (psp (σ (a1).toNat)), zi (pma (σ (a1).toNat)), zi (pco (σ (a1).toNat)), .ref (ad (40 + 4 * (a1).toNat + 1)), .ref (ad (40 + 4 * (a1).toNat + 2)), .ref (ad (40 + 4 * (a1).toNat + 3)), zi (a2), zi (a3), zi (pjo (σ (a1).toNat))]) hx hb hts w_2 tyX1_ok nmX1 hown hK hw hk0 (zU_s _ _ _) rfl 7 (by decide) w_3 rfl rfl rfl rfl (Nat.le_of_ble_eq_true rfl) rfl dX3_tip_31 (fun H locs hw => ?_)
  exact z_vret hx hb hlk hr hw dX3_tip_34 (Nat.le_of_ble_eq_true rfl) (Nat.le_of_ble_eq_true rfl) ⟨rfl, rfl, ⟨⟨⟨by omega, by omega⟩, ⟨by omega, by omega⟩, ⟨by omega, by omega⟩⟩, by simp only [zU_zU]⟩⟩

def zun (q : zPl) (load : Int) : Int := if -100000 ≤ zg q true load ∧ zg q true load < 100000 then zhp q (zg q true load) else -1000000

set_option maxHeartbeats 4000000 in
set_option maxRecDepth 100000 in
theorem k_under (l : Launch) (hl0 : l.stackTraces = false) (G : zG) (I : List Nat) (ad : Nat → Nat) (ct : Nat → va_E) (sz : Nat) (n : Nat) (hn6 : n ≤ 6) (hI0 : 0 ∈ I) (hI1 : 1 ∈ I) (h0 : ct 0 = .inr (3, [.ref (ad 1), .ref (ad 2), .ref (ad 3), zi n])) (h1 : ct 1 = zP G 6 (zpf ad n)) (σ : Nat → zPl) (hgs : ∀ p : Nat, p < n → zGood (σ p)) (hms : ∀ p : Nat, p < n → zMem4 I (40 + 4 * p)) (hps : ∀ p : Nat, p < n → zPileAt G ad ct (40 + 4 * p) (σ p)) (w p0 f0 a0 : Int) (h2m : 2 ∈ I) (h2 : ct 2 = .inr (2, [zi w, zi p0, zi f0, zi a0])) (a1 a2 : Int) (hz1 : zr a1) (hz2 : zr a2) : zN l yX3_under wsX3_under 8 128 2 12 G [.ref (ad (0)), zi (a1), zi (a2)] I ad ct (fun E => E = zIA ∧ ¬ ((0 ≤ a1 ∧ a1 < n) ∧ (0 ≤ a2 ∧ a2 ≤ 10000000))) sz (zk I (zqi fun z u => ((0 ≤ a1 ∧ a1 < n) ∧ (0 ≤ a2 ∧ a2 ≤ 10000000)) ∧ z = zun (σ (a1).toNat) a2 ∧ ∃ w1 p1 f1 a9 : Int, u = zU ct 2 (.inr (2, [zi w1, zi p1, zi f1, zi a9])))) := by
  refine z_ofW (ret := (some .int)) hl0 (by decide +kernel) rfl (Nat.le_of_ble_eq_true rfl) ?_
  intro p e s m args below meth c A ls hA0 hsz hF hr hout hnm hw hl
  obtain ⟨hx, hb, hml, hown, hts, hK, hlk, hst⟩ := hF
  have hown : s.vm.findClass RX3 = some m.cls := hown
  have hl : lv_has ls 4 [(0, .ref (ad (0))), (1, zi (a1)), (2, zi (a2))] := hl
  have w_0 := hts (.fieldLink RX3 18 "PileMoves" "state" "LPileMoves$State;") (by decide +kernel)
  have w_1 : ∀ w ∈ wsX30, w ∈ wsX3_under := by decide +kernel
  have w_2 := hts (.constant RX3 84 (-1000000)) (by decide +kernel)
  have w_3 := hts (.fieldLink RX3 81 "PileMoves$State" "place" "I") (by decide +kernel)
  have w_4 : ∀ w ∈ wsX20, w ∈ wsX3_under := by decide +kernel
  refine lv_aload_n hx hb dX3_under_0 rfl (lv_at hl 0 rfl) ?_
  refine lv_iload_n hx hb dX3_under_1 rfl (lv_at hl 1 rfl) ?_
  refine z_tA (z_runV (As := [zi (a1)]) (rest := []) (k := 0) (fs := [.ref (ad (1)), .ref (ad (2)), .ref (ad (3)), zi (n)]) ⟨hx, hb, hml, hown, hts⟩ hK hw (k_pileOf l hl0 G I ad _ _ n hn6 hI0 hI1 h0 h1 (a1) hz1) (cwV 1 hts gX3_under_X3_pileOf rfl rfl rfl (by decide +kernel) ⟨Nat.le_of_ble_eq_true rfl, Nat.le_of_ble_eq_true rfl⟩) hI0 h0 rfl rfl rfl hl.1 rfl (Nat.le_of_ble_eq_true rfl) dX3_under_2 ⟨Nat.le_of_ble_eq_true rfl, Nat.le_of_ble_eq_true rfl⟩) hw hout hlk (fun E h9 => ⟨h9.1, fun q9 => h9.2 (by omega)⟩) (Nat.le_of_ble_eq_true rfl) (Nat.le_of_ble_eq_true rfl) (fun r_1 ct_2 H locs hP hw => ?_)
  obtain ⟨rfl, ⟨q2_1, q2_2⟩, hct⟩ := hP
  rw [hct] at hw
  clear hct
  obtain ⟨hp0, hp1, hp2, hp3⟩ := hps (a1).toNat (by omega)
  obtain ⟨hk0, hk1, hk2, hk3⟩ := hms (a1).toNat (by omega)
  have hg := hgs (a1).toNat (by omega)
  have hg0 := hg
  obtain ⟨⟨g1, g2⟩, ⟨g3, g4⟩, ⟨g5, g6⟩, ⟨g7, g8⟩, ⟨g9, g10⟩, ⟨g11, g12⟩, g13, g14, g15, g16⟩ := hg0
  have gn : (((σ (a1).toNat)).1 : Int) = pn (σ (a1).toNat) := rfl
  refine lv_astore_n (lv' := [(3, .ref (ad (40 + 4 * (a1).toNat))), (0, .ref (ad (0))), (1, zi (a1)), (2, zi (a2))]) hx hb dX3_under_5 rfl hl (by decide) rfl (fun ls hl => ?_)
  refine lv_iload_n hx hb dX3_under_6 rfl (lv_at hl 3 rfl) ?_
  refine z_tV (z_runS (As := [zi (a2)]) (rest := []) ⟨hx, hb, hml, hown, hts⟩ hK hw (k_cload l hl0 G I ad _ _ (a2) hz2) (va_cwS 1 hts gX3_under_X3_checkLoad rfl rfl rfl (by decide +kernel) ⟨Nat.le_of_ble_eq_true rfl, Nat.le_of_ble_eq_true rfl⟩) rfl hl.1 rfl (Nat.le_of_ble_eq_true rfl) dX3_under_7 ⟨Nat.le_of_ble_eq_true rfl, Nat.le_of_ble_eq_true rfl⟩) hw hout hlk (fun E h9 => ⟨h9.1, fun q9 => h9.2 (by omega)⟩) (Nat.le_of_ble_eq_true rfl) (Nat.le_of_ble_eq_true rfl) (fun ct_4 H locs hP hw => ?_)
  obtain ⟨⟨q7_1, q7_2⟩, hct⟩ := hP
  rw [hct] at hw
  clear hct
  refine lv_aload_n hx hb dX3_under_10 rfl (lv_at hl 1 rfl) ?_
  refine z_get (C := RX3) (T := TX3) (N := 4) (fs := [.ref (ad (1)), .ref (ad (2)), .ref (ad (3)), zi (n)]) hx hb hts w_1 hown hK hw hI0 h0 rfl 1 (by decide) w_0 rfl rfl dX3_under_11 ?_
  refine lv_aload_n hx hb dX3_under_14 rfl (lv_at hl 0 rfl) ?_
  refine lv_iload_n hx hb dX3_under_15 rfl (lv_at hl 3 rfl) ?_
  refine z_kI (z_runV (As := [.ref (ad (40 + 4 * (a1).toNat)), zi (a2)]) (rest := []) (k := 2) (fs := [zi (w), zi (p0), zi (f0), zi (a0)]) ⟨hx, hb, hml, hown, hts⟩ hK hw (k_findUnder l hl0 G I ad _ _ (40 + 4 * (a1).toNat) (σ (a1).toNat) hg ⟨hk0, hk1, hk2, hk3⟩ ⟨hp0, hp1, hp2, hp3⟩ (w) (p0) (f0) (a0) h2m h2 (by omega) (a2) hz2) (cwV 2 hts gX3_under_X2_findUnder rfl rfl rfl (by decide +kernel) ⟨Nat.le_of_ble_eq_true rfl, Nat.le_of_ble_eq_true rfl⟩) h2m h2 rfl rfl rfl hl.1 rfl (Nat.le_of_ble_eq_true rfl) dX3_under_16 ⟨Nat.le_of_ble_eq_true rfl, Nat.le_of_ble_eq_true rfl⟩) hw (fun r_5 ct_6 H locs hP hw => ?_)
  obtain ⟨rfl, hct⟩ := hP
  rw [hct] at hw
  clear hct
  refine z_ifb_eq (tgt := 32) hx hb dX3_under_19 (by decide) (fun c_7 => ?_) (fun c_7 => ?_)
  · refine z_ldc (n := -1000000) hx hb hown w_2 (by decide) dX3_under_32 ?_
    exact z_iret hx hb hlk hr hw dX3_under_34 (Nat.le_of_ble_eq_true rfl) (Nat.le_of_ble_eq_true rfl) ⟨rfl, _, rfl, ⟨⟨⟨by omega, by omega⟩, ⟨by omega, by omega⟩⟩, (if_neg (by assumption)).symm, _, _, _, _, rfl⟩⟩
  · refine lv_aload_n hx hb dX3_under_22 rfl (lv_at hl 1 rfl) ?_
    refine z_get (C := RX3) (T := TX3) (N := 4) (fs := [.ref (ad (1)), .ref (ad (2)), .ref (ad (3)), zi (n)]) hx hb hts w_1 hown hK hw hI0 (zU_n (by decide) h0) rfl 1 (by decide) w_0 rfl rfl dX3_under_23 ?_
    refine z_get (C := RX2) (T := TX2) (N := 4) (fs := [zi (zg (σ (a1).toNat) true (a2)), zi (zhp (σ (a1).toNat) (zg (σ (a1).toNat) true (a2))), zi (zgf (σ (a1).toNat) 0 (zhp (σ (a1).toNat) (zg (σ (a1).toNat) true (a2)))), zi (zld (σ (a1).toNat) (zg (σ (a1).toNat) true (a2)))]) hx hb hts w_4 hown hK hw h2m (zU_s _ _ _) rfl 1 (by decide) w_3 rfl rfl dX3_under_26 ?_
    refine lv_goto (tgt := 34) hx hb dX3_under_29 (by decide) ?_
    exact z_iret hx hb hlk hr hw dX3_under_34 (Nat.le_of_ble_eq_true rfl) (Nat.le_of_ble_eq_true rfl) ⟨rfl, _, rfl, ⟨⟨⟨by omega, by omega⟩, ⟨by omega, by omega⟩⟩, (if_pos (by assumption)).symm, _, _, _, _, rfl⟩⟩

/-- piece: what of the piece i in the state under a load -/
def zpc (q : zPl) (load i what : Int) : Int := if -100000 ≤ zg q true load ∧ zg q true load < 100000 then (if what = 0 then zp q (zg q true load) (pn q - 1 - i).toNat else if what = 1 then zgf q i (zp q (zg q true load) (pn q - 1 - i).toNat) else zf q (zg q true load) ((pn q - 1 - i).toNat + 1)) else -1000000

set_option maxHeartbeats 4000000 in
set_option maxRecDepth 100000 in
theorem k_piece (l : Launch) (hl0 : l.stackTraces = false) (G : zG) (I : List Nat) (ad : Nat → Nat) (ct : Nat → va_E) (sz : Nat) (n : Nat) (hn6 : n ≤ 6) (hI0 : 0 ∈ I) (hI1 : 1 ∈ I) (h0 : ct 0 = .inr (3, [.ref (ad 1), .ref (ad 2), .ref (ad 3), zi n])) (h1 : ct 1 = zP G 6 (zpf ad n)) (σ : Nat → zPl) (hgs : ∀ p : Nat, p < n → zGood (σ p)) (hms : ∀ p : Nat, p < n → zMem4 I (40 + 4 * p)) (hps : ∀ p : Nat, p < n → zPileAt G ad ct (40 + 4 * p) (σ p)) (w p0 f0 a0 : Int) (h2m : 2 ∈ I) (h2 : ct 2 = .inr (2, [zi w, zi p0, zi f0, zi a0])) (a1 a2 a3 a4 : Int) (hz1 : zr a1) (hz2 : zr a2) (hz3 : zr a3) (hz4 : zr a4) : zN l yX3_piece wsX3_piece 8 129 4 24 G [.ref (ad (0)), zi (a1), zi (a2), zi (a3), zi (a4)] I ad ct (fun E => E = zIA ∧ ¬ ((0 ≤ a1 ∧ a1 < n) ∧ (0 ≤ a2 ∧ a2 ≤ 10000000) ∧ (0 ≤ a3 ∧ a3 < pn (σ (a1).toNat)) ∧ (0 ≤ a4 ∧ a4 ≤ 2))) sz (zk I (zqi fun z u => ((0 ≤ a1 ∧ a1 < n) ∧ (0 ≤ a2 ∧ a2 ≤ 10000000) ∧ (0 ≤ a3 ∧ a3 < pn (σ (a1).toNat)) ∧ (0 ≤ a4 ∧ a4 ≤ 2)) ∧ z = zpc (σ (a1).toNat) a2 a3 a4 ∧ ∃ w1 p1 f1 a9 : Int, u = zU ct 2 (.inr (2, [zi w1, zi p1, zi f1, zi a9])))) := by
  refine z_ofW (ret := (some .int)) hl0 (by decide +kernel) rfl (Nat.le_of_ble_eq_true rfl) ?_
  intro p e s m args below meth c A ls hA0 hsz hF hr hout hnm hw hl
  obtain ⟨hx, hb, hml, hown, hts, hK, hlk, hst⟩ := hF
  have hown : s.vm.findClass RX3 = some m.cls := hown
  have hl : lv_has ls 6 [(0, .ref (ad (0))), (1, zi (a1)), (2, zi (a2)), (3, zi (a3)), (4, zi (a4))] := hl
  have w_0 := hts (.fieldLink RX3 18 "PileMoves" "state" "LPileMoves$State;") (by decide +kernel)
  have w_1 : ∀ w ∈ wsX30, w ∈ wsX3_piece := by decide +kernel
  have w_2 := hts (.fieldLink RX3 91 "PileMoves$State" "forceAbove" "I") (by decide +kernel)
  have w_3 : ∀ w ∈ wsX20, w ∈ wsX3_piece := by decide +kernel
  have w_4 := hts (.fieldLink RX3 88 "PileMoves$State" "groundForce" "I") (by decide +kernel)
  have w_5 := hts (.fieldLink RX3 81 "PileMoves$State" "place" "I") (by decide +kernel)
  have w_6 := hts (.constant RX3 84 (-1000000)) (by decide +kernel)
  refine lv_aload_n hx hb dX3_piece_0 rfl (lv_at hl 0 rfl) ?_
  refine lv_iload_n hx hb dX3_piece_1 rfl (lv_at hl 1 rfl) ?_
  refine z_tA (z_runV (As := [zi (a1)]) (rest := []) (k := 0) (fs := [.ref (ad (1)), .ref (ad (2)), .ref (ad (3)), zi (n)]) ⟨hx, hb, hml, hown, hts⟩ hK hw (k_pileOf l hl0 G I ad _ _ n hn6 hI0 hI1 h0 h1 (a1) hz1) (cwV 1 hts gX3_piece_X3_pileOf rfl rfl rfl (by decide +kernel) ⟨Nat.le_of_ble_eq_true rfl, Nat.le_of_ble_eq_true rfl⟩) hI0 h0 rfl rfl rfl hl.1 rfl (Nat.le_of_ble_eq_true rfl) dX3_piece_2 ⟨Nat.le_of_ble_eq_true rfl, Nat.le_of_ble_eq_true rfl⟩) hw hout hlk (fun E h9 => ⟨h9.1, fun q9 => h9.2 (by omega)⟩) (Nat.le_of_ble_eq_true rfl) (Nat.le_of_ble_eq_true rfl) (fun r_1 ct_2 H locs hP hw => ?_)
  obtain ⟨rfl, ⟨q2_1, q2_2⟩, hct⟩ := hP
  rw [hct] at hw
  clear hct
  obtain ⟨hp0, hp1, hp2, hp3⟩ := hps (a1).toNat (by omega)
  obtain ⟨hk0, hk1, hk2, hk3⟩ := hms (a1).toNat (by omega)
  have hg := hgs (a1).toNat (by omega)
  have hg0 := hg
  obtain ⟨⟨g1, g2⟩, ⟨g3, g4⟩, ⟨g5, g6⟩, ⟨g7, g8⟩, ⟨g9, g10⟩, ⟨g11, g12⟩, g13, g14, g15, g16⟩ := hg0
  have gn : (((σ (a1).toNat)).1 : Int) = pn (σ (a1).toNat) := rfl
  refine lv_astore (lv' := [(5, .ref (ad (40 + 4 * (a1).toNat))), (0, .ref (ad (0))), (1, zi (a1)), (2, zi (a2)), (3, zi (a3)), (4, zi (a4))]) hx hb dX3_piece_5 hl (by decide) rfl (fun ls hl => ?_)
  refine lv_iload_n hx hb dX3_piece_7 rfl (lv_at hl 3 rfl) ?_
  refine z_tV (z_runS (As := [zi (a2)]) (rest := []) ⟨hx, hb, hml, hown, hts⟩ hK hw (k_cload l hl0 G I ad _ _ (a2) hz2) (va_cwS 1 hts gX3_piece_X3_checkLoad rfl rfl rfl (by decide +kernel) ⟨Nat.le_of_ble_eq_true rfl, Nat.le_of_ble_eq_true rfl⟩) rfl hl.1 rfl (Nat.le_of_ble_eq_true rfl) dX3_piece_8 ⟨Nat.le_of_ble_eq_true rfl, Nat.le_of_ble_eq_true rfl⟩) hw hout hlk (fun E h9 => ⟨h9.1, fun q9 => h9.2 (by omega)⟩) (Nat.le_of_ble_eq_true rfl) (Nat.le_of_ble_eq_true rfl) (fun ct_4 H locs hP hw => ?_)
  obtain ⟨⟨q8_1, q8_2⟩, hct⟩ := hP
  rw [hct] at hw
  clear hct
  refine lv_aload hx hb dX3_piece_11 (lv_at hl 0 rfl) ?_
  refine lv_iload_n hx hb dX3_piece_13 rfl (lv_at hl 4 rfl) ?_
  refine z_tV (z_runS (As := [.ref (ad (40 + 4 * (a1).toNat)), zi (a3)]) (rest := []) ⟨hx, hb, hml, hown, hts⟩ hK hw (k_cpiece l hl0 G I ad _ _ (40 + 4 * (a1).toNat) (σ (a1).toNat) hg ⟨hk0, hk1, hk2, hk3⟩ ⟨hp0, hp1, hp2, hp3⟩ (a3) hz3) (va_cwS 2 hts gX3_piece_X3_checkPiece rfl rfl rfl (by decide +kernel) ⟨Nat.le_of_ble_eq_true rfl, Nat.le_of_ble_eq_true rfl⟩) rfl hl.1 rfl (Nat.le_of_ble_eq_true rfl) dX3_piece_14 ⟨Nat.le_of_ble_eq_true rfl, Nat.le_of_ble_eq_true rfl⟩) hw hout hlk (fun E h9 => ⟨h9.1, fun q9 => h9.2 (by omega)⟩) (Nat.le_of_ble_eq_true rfl) (Nat.le_of_ble_eq_true rfl) (fun ct_6 H locs hP hw => ?_)
  obtain ⟨⟨q14_1, q14_2⟩, hct⟩ := hP
  rw [hct] at hw
  clear hct
  refine lv_iload hx hb dX3_piece_17 (lv_at hl 5 rfl) ?_
  refine z_ic hx hb dX3_piece_19 ?_
  refine z_ic hx hb dX3_piece_20 ?_
  refine z_tV (z_runS (As := [zi (a4), zi (0), zi (2)]) (rest := []) ⟨hx, hb, hml, hown, hts⟩ hK hw (k_within l hl0 G I ad _ _ (a4) (0) (2) hz4 ⟨by decide, by decide⟩ ⟨by decide, by decide⟩) (va_cwS 3 hts gX3_piece_X3_checkWithin rfl rfl rfl (by decide +kernel) ⟨Nat.le_of_ble_eq_true rfl, Nat.le_of_ble_eq_true rfl⟩) rfl hl.1 rfl (Nat.le_of_ble_eq_true rfl) dX3_piece_21 ⟨Nat.le_of_ble_eq_true rfl, Nat.le_of_ble_eq_true rfl⟩) hw hout hlk (fun E h9 => ⟨h9.1, fun q9 => h9.2 (by omega)⟩) (Nat.le_of_ble_eq_true rfl) (Nat.le_of_ble_eq_true rfl) (fun ct_8 H locs hP hw => ?_)
  obtain ⟨⟨q21_1, q21_2⟩, hct⟩ := hP
  rw [hct] at hw
  clear hct
  refine lv_aload_n hx hb dX3_piece_24 rfl (lv_at hl 1 rfl) ?_
  refine z_get (C := RX3) (T := TX3) (N := 4) (fs := [.ref (ad (1)), .ref (ad (2)), .ref (ad (3)), zi (n)]) hx hb hts w_1 hown hK hw hI0 h0 rfl 1 (by decide) w_0 rfl rfl dX3_piece_25 ?_
  refine lv_aload hx hb dX3_piece_28 (lv_at hl 0 rfl) ?_
  refine lv_iload_n hx hb dX3_piece_30 rfl (lv_at hl 3 rfl) ?_
  refine z_kI (z_runV (As := [.ref (ad (40 + 4 * (a1).toNat)), zi (a2)]) (rest := []) (k := 2) (fs := [zi (w), zi (p0), zi (f0), zi (a0)]) ⟨hx, hb, hml, hown, hts⟩ hK hw (k_findUnder l hl0 G I ad _ _ (40 + 4 * (a1).toNat) (σ (a1).toNat) hg ⟨hk0, hk1, hk2, hk3⟩ ⟨hp0, hp1, hp2, hp3⟩ (w) (p0) (f0) (a0) h2m h2 (by omega) (a2) hz2) (cwV 2 hts gX3_piece_X2_findUnder rfl rfl rfl (by decide +kernel) ⟨Nat.le_of_ble_eq_true rfl, Nat.le_of_ble_eq_true rfl⟩) h2m h2 rfl rfl rfl hl.1 rfl (Nat.le_of_ble_eq_true rfl) dX3_piece_31 ⟨Nat.le_of_ble_eq_true rfl, Nat.le_of_ble_eq_true rfl⟩) hw (fun r_9 ct_10 H locs hP hw => ?_)
  obtain ⟨rfl, hct⟩ := hP
  rw [hct] at hw
  clear hct
  refine z_ifb_ne (tgt := 40) hx hb dX3_piece_34 (by decide) (fun c_11 => ?_) (fun c_11 => ?_)
  · refine lv_aload_n hx hb dX3_piece_40 rfl (lv_at hl 1 rfl) ?_
    refine z_get (C := RX3) (T := TX3) (N := 4) (fs := [.ref (ad (1)), .ref (ad (2)), .ref (ad (3)), zi (n)]) hx hb hts w_1 hown hK hw hI0 (zU_n (by decide) h0) rfl 1 (by decide) w_0 rfl rfl dX3_piece_41 ?_
    refine lv_aload hx hb dX3_piece_44 (lv_at hl 0 rfl) ?_
    refine lv_iload_n hx hb dX3_piece_46 rfl (lv_at hl 4 rfl) ?_
    refine z_kV (z_runV (As := [.ref (ad (40 + 4 * (a1).toNat)), zi (a3)]) (rest := []) (k := 2) (fs := [zi (zg (σ (a1).toNat) true (a2)), zi (zhp (σ (a1).toNat) (zg (σ (a1).toNat) true (a2))), zi (zgf (σ (a1).toNat) 0 (zhp (σ (a1).toNat) (zg (σ (a1).toNat) true (a2)))), zi (zld (σ (a1).toNat) (zg (σ (a1).toNat) true (a2)))]) ⟨hx, hb, hml, hown, hts⟩ hK hw (k_climb l hl0 G I ad _ _ (40 + 4 * (a1).toNat) (σ (a1).toNat) hg ⟨hk0, hk1, hk2, hk3⟩ ⟨(zU_n (by omega) hp0), (zU_n (by omega) hp1), (zU_n (by omega) hp2), (zU_n (by omega) hp3)⟩ (zg (σ (a1).toNat) true (a2)) (zhp (σ (a1).toNat) (zg (σ (a1).toNat) true (a2))) (zgf (σ (a1).toNat) 0 (zhp (σ (a1).toNat) (zg (σ (a1).toNat) true (a2)))) (zld (σ (a1).toNat) (zg (σ (a1).toNat) true (a2))) h2m (zU_s _ _ _) (by omega) (by omega) (by omega) ((pn (σ (a1).toNat) - 1 - a3).toNat) (a3) (by omega) (by omega)) (cwV 2 hts gX3_piece_X2_climb rfl rfl rfl (by decide +kernel) ⟨Nat.le_of_ble_eq_true rfl, Nat.le_of_ble_eq_true rfl⟩) h2m (zU_s _ _ _) rfl rfl rfl hl.1 rfl (Nat.le_of_ble_eq_true rfl) dX3_piece_47 ⟨Nat.le_of_ble_eq_true rfl, Nat.le_of_ble_eq_true rfl⟩) hw (fun ct_13 H locs hP hw => ?_)
    rw [hP] at hw
    clear hP
    refine lv_iload hx hb dX3_piece_50 (lv_at hl 5 rfl) ?_
    refine z_if_ne (tgt := 63) hx hb dX3_piece_52 (by decide) hz4 (fun c_14 => ?_) (fun c_14 => ?_)
    · refine lv_iload hx hb dX3_piece_63 (lv_at hl 5 rfl) ?_
      refine z_ic hx hb dX3_piece_65 ?_
      refine z_icmp_ne (tgt := 79) hx hb dX3_piece_66 (by decide) hz4 ⟨by decide, by decide⟩ (fun c_15 => ?_) (fun c_15 => ?_)
      · refine lv_aload_n hx hb dX3_piece_79 rfl (lv_at hl 1 rfl) ?_
        refine z_get (C := RX3) (T := TX3) (N := 4) (fs := [.ref (ad (1)), .ref (ad (2)), .ref (ad (3)), zi (n)]) hx hb hts w_1 hown hK hw hI0 (zU_n (by decide) (zU_n (by decide) h0)) rfl 1 (by decide) w_0 rfl rfl dX3_piece_80 ?_
        refine z_get (C := RX2) (T := TX2) (N := 4) (fs := [zi (zg (σ (a1).toNat) true (a2)), zi (zp (σ (a1).toNat) (zg (σ (a1).toNat) true (a2)) ((pn (σ (a1).toNat) - 1 - a3).toNat)), zi (zgf (σ (a1).toNat) (a3) (zp (σ (a1).toNat) (zg (σ (a1).toNat) true (a2)) ((pn (σ (a1).toNat) - 1 - a3).toNat))), zi (zf (σ (a1).toNat) (zg (σ (a1).toNat) true (a2)) ((pn (σ (a1).toNat) - 1 - a3).toNat + 1))]) hx hb hts w_3 hown hK hw h2m (zU_s _ _ _) rfl 3 (by decide) w_2 rfl rfl dX3_piece_83 ?_
        exact z_iret hx hb hlk hr hw dX3_piece_86 (Nat.le_of_ble_eq_true rfl) (Nat.le_of_ble_eq_true rfl) ⟨rfl, _, rfl, ⟨⟨by omega, by omega⟩, ⟨by omega, by omega⟩, ⟨by omega, by omega⟩, ⟨by omega, by omega⟩⟩, by unfold zpc; rw [if_pos (by assumption), if_neg (by omega), if_neg (by omega)], _, _, _, _, by simp only [zU_zU]; rfl⟩
      · refine lv_aload_n hx hb dX3_piece_69 rfl (lv_at hl 1 rfl) ?_
        refine z_get (C := RX3) (T := TX3) (N := 4) (fs := [.ref (ad (1)), .ref (ad (2)), .ref (ad (3)), zi (n)]) hx hb hts w_1 hown hK hw hI0 (zU_n (by decide) (zU_n (by decide) h0)) rfl 1 (by decide) w_0 rfl rfl dX3_piece_70 ?_
        refine z_get (C := RX2) (T := TX2) (N := 4) (fs := [zi (zg (σ (a1).toNat) true (a2)), zi (zp (σ (a1).toNat) (zg (σ (a1).toNat) true (a2)) ((pn (σ (a1).toNat) - 1 - a3).toNat)), zi (zgf (σ (a1).toNat) (a3) (zp (σ (a1).toNat) (zg (σ (a1).toNat) true (a2)) ((pn (σ (a1).toNat) - 1 - a3).toNat))), zi (zf (σ (a1).toNat) (zg (σ (a1).toNat) true (a2)) ((pn (σ (a1).toNat) - 1 - a3).toNat + 1))]) hx hb hts w_3 hown hK hw h2m (zU_s _ _ _) rfl 2 (by decide) w_4 rfl rfl dX3_piece_73 ?_
        refine lv_goto (tgt := 86) hx hb dX3_piece_76 (by decide) ?_
        exact z_iret hx hb hlk hr hw dX3_piece_86 (Nat.le_of_ble_eq_true rfl) (Nat.le_of_ble_eq_true rfl) ⟨rfl, _, rfl, ⟨⟨by omega, by omega⟩, ⟨by omega, by omega⟩, ⟨by omega, by omega⟩, ⟨by omega, by omega⟩⟩, by unfold zpc; rw [if_pos (by assumption), if_neg (by omega), if_pos (by omega)], _, _, _, _, by simp only [zU_zU]; rfl⟩
    · refine lv_aload_n hx hb dX3_piece_55 rfl (lv_at hl 1 rfl) ?_
      refine z_get (C := RX3) (T := TX3) (N := 4) (fs := [.ref (ad (1)), .ref (ad (2)), .ref (ad (3)), zi (n)]) hx hb hts w_1 hown hK hw hI0 (zU_n (by decide) (zU_n (by decide) h0)) rfl 1 (by decide) w_0 rfl rfl dX3_piece_56 ?_
      refine z_get (C := RX2) (T := TX2) (N := 4) (fs := [zi (zg (σ (a1).toNat) true (a2)), zi (zp (σ (a1).toNat) (zg (σ (a1).toNat) true (a2)) ((pn (σ (a1).toNat) - 1 - a3).toNat)), zi (zgf (σ (a1).toNat) (a3) (zp (σ (a1).toNat) (zg (σ (a1).toNat) true (a2)) ((pn (σ (a1).toNat) - 1 - a3).toNat))), zi (zf (σ (a1).toNat) (zg (σ (a1).toNat) true (a2)) ((pn (σ (a1).toNat) - 1 - a3).toNat + 1))]) hx hb hts w_3 hown hK hw h2m (zU_s _ _ _) rfl 1 (by decide) w_5 rfl rfl dX3_piece_59 ?_
      exact z_iret hx hb hlk hr hw dX3_piece_62 (Nat.le_of_ble_eq_true rfl) (Nat.le_of_ble_eq_true rfl) ⟨rfl, _, rfl, ⟨⟨by omega, by omega⟩, ⟨by omega, by omega⟩, ⟨by omega, by omega⟩, ⟨by omega, by omega⟩⟩, by unfold zpc; rw [if_pos (by assumption), if_pos (by omega)], _, _, _, _, by simp only [zU_zU]; rfl⟩
  · refine z_ldc (n := -1000000) hx hb hown w_6 (by decide) dX3_piece_37 ?_
    exact z_iret hx hb hlk hr hw dX3_piece_39 (Nat.le_of_ble_eq_true rfl) (Nat.le_of_ble_eq_true rfl) ⟨rfl, _, rfl, ⟨⟨by omega, by omega⟩, ⟨by omega, by omega⟩, ⟨by omega, by omega⟩, ⟨by omega, by omega⟩⟩, by unfold zpc; rw [if_neg (by assumption)], _, _, _, _, rfl⟩

set_option maxHeartbeats 4000000 in
set_option maxRecDepth 100000 in
theorem k_load (l : Launch) (hl0 : l.stackTraces = false) (G : zG) (I : List Nat) (ad : Nat → Nat) (ct : Nat → va_E) (sz : Nat) (n : Nat) (hn6 : n ≤ 6) (hI0 : 0 ∈ I) (hI1 : 1 ∈ I) (h0 : ct 0 = .inr (3, [.ref (ad 1), .ref (ad 2), .ref (ad 3), zi n])) (h1 : ct 1 = zP G 6 (zpf ad n)) (σ : Nat → zPl) (hgs : ∀ p : Nat, p < n → zGood (σ p)) (hms : ∀ p : Nat, p < n → zMem4 I (40 + 4 * p)) (hps : ∀ p : Nat, p < n → zPileAt G ad ct (40 + 4 * p) (σ p)) (w p0 f0 a0 : Int) (h2m : 2 ∈ I) (h2 : ct 2 = .inr (2, [zi w, zi p0, zi f0, zi a0])) (a1 a2 : Int) (hz1 : zr a1) (hz2 : zr a2) : zN l yX3_load wsX3_load 7 108 2 12 G [.ref (ad (0)), zi (a1), zi (a2)] I ad ct (fun E => E = zIA ∧ ¬ ((0 ≤ a1 ∧ a1 < n) ∧ (-100000 ≤ a2 ∧ a2 ≤ 100000))) sz (zk I (zqi fun z u => ((0 ≤ a1 ∧ a1 < n) ∧ (-100000 ≤ a2 ∧ a2 ≤ 100000)) ∧ z = zld (σ (a1).toNat) (zg (σ (a1).toNat) false a2) ∧ ∃ w1 p1 f1 a9 : Int, u = zU ct 2 (.inr (2, [zi w1, zi p1, zi f1, zi a9])))) := by
  refine z_ofW (ret := (some .int)) hl0 (by decide +kernel) rfl (Nat.le_of_ble_eq_true rfl) ?_
  intro p e s m args below meth c A ls hA0 hsz hF hr hout hnm hw hl
  obtain ⟨hx, hb, hml, hown, hts, hK, hlk, hst⟩ := hF
  have hown : s.vm.findClass RX3 = some m.cls := hown
  have hl : lv_has ls 4 [(0, .ref (ad (0))), (1, zi (a1)), (2, zi (a2))] := hl
  have w_0 := hts (.constant RX3 94 (-100000)) (by decide +kernel)
  have w_1 := hts (.constant RX3 37 (100000)) (by decide +kernel)
  have w_2 := hts (.fieldLink RX3 18 "PileMoves" "state" "LPileMoves$State;") (by decide +kernel)
  have w_3 : ∀ w ∈ wsX30, w ∈ wsX3_load := by decide +kernel
  have w_4 := hts (.fieldLink RX3 91 "PileMoves$State" "forceAbove" "I") (by decide +kernel)
  have w_5 : ∀ w ∈ wsX20, w ∈ wsX3_load := by decide +kernel
  refine lv_aload_n hx hb dX3_load_0 rfl (lv_at hl 0 rfl) ?_
  refine lv_iload_n hx hb dX3_load_1 rfl (lv_at hl 1 rfl) ?_
  refine z_tA (z_runV (As := [zi (a1)]) (rest := []) (k := 0) (fs := [.ref (ad (1)), .ref (ad (2)), .ref (ad (3)), zi (n)]) ⟨hx, hb, hml, hown, hts⟩ hK hw (k_pileOf l hl0 G I ad _ _ n hn6 hI0 hI1 h0 h1 (a1) hz1) (cwV 1 hts gX3_load_X3_pileOf rfl rfl rfl (by decide +kernel) ⟨Nat.le_of_ble_eq_true rfl, Nat.le_of_ble_eq_true rfl⟩) hI0 h0 rfl rfl rfl hl.1 rfl (Nat.le_of_ble_eq_true rfl) dX3_load_2 ⟨Nat.le_of_ble_eq_true rfl, Nat.le_of_ble_eq_true rfl⟩) hw hout hlk (fun E h9 => ⟨h9.1, fun q9 => h9.2 (by omega)⟩) (Nat.le_of_ble_eq_true rfl) (Nat.le_of_ble_eq_true rfl) (fun r_1 ct_2 H locs hP hw => ?_)
  obtain ⟨rfl, ⟨q2_1, q2_2⟩, hct⟩ := hP
  rw [hct] at hw
  clear hct
  obtain ⟨hp0, hp1, hp2, hp3⟩ := hps (a1).toNat (by omega)
  obtain ⟨hk0, hk1, hk2, hk3⟩ := hms (a1).toNat (by omega)
  have hg := hgs (a1).toNat (by omega)
  have hg0 := hg
  obtain ⟨⟨g1, g2⟩, ⟨g3, g4⟩, ⟨g5, g6⟩, ⟨g7, g8⟩, ⟨g9, g10⟩, ⟨g11, g12⟩, g13, g14, g15, g16⟩ := hg0
  have gn : (((σ (a1).toNat)).1 : Int) = pn (σ (a1).toNat) := rfl
  refine lv_astore_n (lv' := [(3, .ref (ad (40 + 4 * (a1).toNat))), (0, .ref (ad (0))), (1, zi (a1)), (2, zi (a2))]) hx hb dX3_load_5 rfl hl (by decide) rfl (fun ls hl => ?_)
  refine lv_iload_n hx hb dX3_load_6 rfl (lv_at hl 3 rfl) ?_
  refine z_ldc (n := -100000) hx hb hown w_0 (by decide) dX3_load_7 ?_
  refine z_ldc (n := 100000) hx hb hown w_1 (by decide) dX3_load_9 ?_
  refine z_tV (z_runS (As := [zi (a2), zi (-100000), zi (100000)]) (rest := []) ⟨hx, hb, hml, hown, hts⟩ hK hw (k_within l hl0 G I ad _ _ (a2) (-100000) (100000) hz2 ⟨by decide, by decide⟩ ⟨by decide, by decide⟩) (va_cwS 3 hts gX3_load_X3_checkWithin rfl rfl rfl (by decide +kernel) ⟨Nat.le_of_ble_eq_true rfl, Nat.le_of_ble_eq_true rfl⟩) rfl hl.1 rfl (Nat.le_of_ble_eq_true rfl) dX3_load_11 ⟨Nat.le_of_ble_eq_true rfl, Nat.le_of_ble_eq_true rfl⟩) hw hout hlk (fun E h9 => ⟨h9.1, fun q9 => h9.2 (by omega)⟩) (Nat.le_of_ble_eq_true rfl) (Nat.le_of_ble_eq_true rfl) (fun ct_4 H locs hP hw => ?_)
  obtain ⟨⟨q11_1, q11_2⟩, hct⟩ := hP
  rw [hct] at hw
  clear hct
  refine lv_aload_n hx hb dX3_load_14 rfl (lv_at hl 1 rfl) ?_
  refine z_get (C := RX3) (T := TX3) (N := 4) (fs := [.ref (ad (1)), .ref (ad (2)), .ref (ad (3)), zi (n)]) hx hb hts w_3 hown hK hw hI0 h0 rfl 1 (by decide) w_2 rfl rfl dX3_load_15 ?_
  refine lv_aload_n hx hb dX3_load_18 rfl (lv_at hl 0 rfl) ?_
  refine lv_iload_n hx hb dX3_load_19 rfl (lv_at hl 3 rfl) ?_
  refine z_kI (z_runV (As := [.ref (ad (40 + 4 * (a1).toNat)), zi (a2)]) (rest := []) (k := 2) (fs := [zi (w), zi (p0), zi (f0), zi (a0)]) ⟨hx, hb, hml, hown, hts⟩ hK hw (k_findAt l hl0 G I ad _ _ (40 + 4 * (a1).toNat) (σ (a1).toNat) hg ⟨hk0, hk1, hk2, hk3⟩ ⟨hp0, hp1, hp2, hp3⟩ (w) (p0) (f0) (a0) h2m h2 (by omega) (a2) hz2) (cwV 2 hts gX3_load_X2_findAt rfl rfl rfl (by decide +kernel) ⟨Nat.le_of_ble_eq_true rfl, Nat.le_of_ble_eq_true rfl⟩) h2m h2 rfl rfl rfl hl.1 rfl (Nat.le_of_ble_eq_true rfl) dX3_load_20 ⟨Nat.le_of_ble_eq_true rfl, Nat.le_of_ble_eq_true rfl⟩) hw (fun r_5 ct_6 H locs hP hw => ?_)
  obtain ⟨rfl, hct⟩ := hP
  rw [hct] at hw
  clear hct
  refine z_ifb_eq (tgt := 36) hx hb dX3_load_23 (by decide) (fun c_7 => ?_) (fun c_7 => ?_)
  · exact absurd (zat_ok hg (by omega)) c_7
  · refine lv_aload_n hx hb dX3_load_26 rfl (lv_at hl 1 rfl) ?_
    refine z_get (C := RX3) (T := TX3) (N := 4) (fs := [.ref (ad (1)), .ref (ad (2)), .ref (ad (3)), zi (n)]) hx hb hts w_3 hown hK hw hI0 (zU_n (by decide) h0) rfl 1 (by decide) w_2 rfl rfl dX3_load_27 ?_
    refine z_get (C := RX2) (T := TX2) (N := 4) (fs := [zi (zg (σ (a1).toNat) false (a2)), zi (zhp (σ (a1).toNat) (zg (σ (a1).toNat) false (a2))), zi (zgf (σ (a1).toNat) 0 (zhp (σ (a1).toNat) (zg (σ (a1).toNat) false (a2)))), zi (zld (σ (a1).toNat) (zg (σ (a1).toNat) false (a2)))]) hx hb hts w_5 hown hK hw h2m (zU_s _ _ _) rfl 3 (by decide) w_4 rfl rfl dX3_load_30 ?_
    refine lv_goto (tgt := 38) hx hb dX3_load_33 (by decide) ?_
    exact z_iret hx hb hlk hr hw dX3_load_38 (Nat.le_of_ble_eq_true rfl) (Nat.le_of_ble_eq_true rfl) ⟨rfl, _, rfl, ⟨⟨⟨by omega, by omega⟩, ⟨by omega, by omega⟩⟩, rfl, _, _, _, _, rfl⟩⟩

set_option maxHeartbeats 4000000 in
set_option maxRecDepth 100000 in
theorem k_hold (l : Launch) (hl0 : l.stackTraces = false) (G : zG) (I : List Nat) (ad : Nat → Nat) (ct : Nat → va_E) (sz : Nat) (n : Nat) (hn6 : n ≤ 6) (hI0 : 0 ∈ I) (hI1 : 1 ∈ I) (h0 : ct 0 = .inr (3, [.ref (ad 1), .ref (ad 2), .ref (ad 3), zi n])) (h1 : ct 1 = zP G 6 (zpf ad n)) (σ : Nat → zPl) (hgs : ∀ p : Nat, p < n → zGood (σ p)) (hms : ∀ p : Nat, p < n → zMem4 I (40 + 4 * p)) (hps : ∀ p : Nat, p < n → zPileAt G ad ct (40 + 4 * p) (σ p)) (a1 : Int) (hz1 : zr a1) : zN l yX3_hold wsX3_hold 7 107 1 6 G [.ref (ad (0)), zi (a1)] I ad ct (fun E => E = zIA ∧ ¬ (0 ≤ a1 ∧ a1 < n)) sz (zk I (zqi fun z u => (0 ≤ a1 ∧ a1 < n) ∧ z = zho (σ (a1).toNat) (σ (a1).toNat).1 ∧ u = ct)) := by
  refine z_ofW (ret := (some .int)) hl0 (by decide +kernel) rfl (Nat.le_of_ble_eq_true rfl) ?_
  intro p e s m args below meth c A ls hA0 hsz hF hr hout hnm hw hl
  obtain ⟨hx, hb, hml, hown, hts, hK, hlk, hst⟩ := hF
  have hown : s.vm.findClass RX3 = some m.cls := hown
  have hl : lv_has ls 8 [(0, .ref (ad (0))), (1, zi (a1))] := hl
  have w_0 := hts (.fieldLink RX3 60 "PileMoves$Pile" "most" "[I") (by decide +kernel)
  have w_1 : ∀ w ∈ wsX10, w ∈ wsX3_hold := by decide +kernel
  refine lv_aload_n hx hb dX3_hold_0 rfl (lv_at hl 0 rfl) ?_
  refine lv_iload_n hx hb dX3_hold_1 rfl (lv_at hl 1 rfl) ?_
  refine z_tA (z_runV (As := [zi (a1)]) (rest := []) (k := 0) (fs := [.ref (ad (1)), .ref (ad (2)), .ref (ad (3)), zi (n)]) ⟨hx, hb, hml, hown, hts⟩ hK hw (k_pileOf l hl0 G I ad _ _ n hn6 hI0 hI1 h0 h1 (a1) hz1) (cwV 1 hts gX3_hold_X3_pileOf rfl rfl rfl (by decide +kernel) ⟨Nat.le_of_ble_eq_true rfl, Nat.le_of_ble_eq_true rfl⟩) hI0 h0 rfl rfl rfl hl.1 rfl (Nat.le_of_ble_eq_true rfl) dX3_hold_2 ⟨Nat.le_of_ble_eq_true rfl, Nat.le_of_ble_eq_true rfl⟩) hw hout hlk (fun E h9 => ⟨h9.1, fun q9 => h9.2 (by omega)⟩) (Nat.le_of_ble_eq_true rfl) (Nat.le_of_ble_eq_true rfl) (fun r_1 ct_2 H locs hP hw => ?_)
  obtain ⟨rfl, ⟨q2_1, q2_2⟩, hct⟩ := hP
  rw [hct] at hw
  clear hct
  obtain ⟨hp0, hp1, hp2, hp3⟩ := hps (a1).toNat (by omega)
  obtain ⟨hk0, hk1, hk2, hk3⟩ := hms (a1).toNat (by omega)
  have hg := hgs (a1).toNat (by omega)
  have hg0 := hg
  obtain ⟨⟨g1, g2⟩, ⟨g3, g4⟩, ⟨g5, g6⟩, ⟨g7, g8⟩, ⟨g9, g10⟩, ⟨g11, g12⟩, g13, g14, g15, g16⟩ := hg0
  have gn : (((σ (a1).toNat)).1 : Int) = pn (σ (a1).toNat) := rfl
  refine lv_astore_n (lv' := [(2, .ref (ad (40 + 4 * (a1).toNat))), (0, .ref (ad (0))), (1, zi (a1))]) hx hb dX3_hold_5 rfl hl (by decide) rfl (fun ls hl => ?_)
  refine z_ic hx hb dX3_hold_6 ?_
  refine lv_istore_n (lv' := [(3, zi (0)), (2, .ref (ad (40 + 4 * (a1).toNat))), (0, .ref (ad (0))), (1, zi (a1))]) hx hb dX3_hold_7 rfl hl (by decide) rfl (fun ls hl => ?_)
  refine lv_aload_n hx hb dX3_hold_8 rfl (lv_at hl 1 rfl) ?_
  refine z_get (C := RX1) (T := TX1) (N := 9) (fs := [zi (psp (σ (a1).toNat)), zi (pma (σ (a1).toNat)), zi (pco (σ (a1).toNat)), .ref (ad (40 + 4 * (a1).toNat + 1)), .ref (ad (40 + 4 * (a1).toNat + 2)), .ref (ad (40 + 4 * (a1).toNat + 3)), zi (pts (σ (a1).toNat)), zi (ptm (σ (a1).toNat)), zi (pjo (σ (a1).toNat))]) hx hb hts w_1 hown hK hw hk0 hp0 rfl 4 (by decide) w_0 rfl rfl dX3_hold_9 ?_
  refine lv_astore (lv' := [(4, .ref (ad (40 + 4 * (a1).toNat + 2))), (3, zi (0)), (2, .ref (ad (40 + 4 * (a1).toNat))), (0, .ref (ad (0))), (1, zi (a1))]) hx hb dX3_hold_12 hl (by decide) rfl (fun ls hl => ?_)
  refine lv_aload hx hb dX3_hold_14 (lv_at hl 0 rfl) ?_
  refine z_alen (n := pn (σ (a1).toNat)) hx hb hK hw hk2 hp2 0 rfl rfl dX3_hold_16 ?_
  refine lv_istore (lv' := [(5, zi (pn (σ (a1).toNat))), (4, .ref (ad (40 + 4 * (a1).toNat + 2))), (3, zi (0)), (2, .ref (ad (40 + 4 * (a1).toNat))), (0, .ref (ad (0))), (1, zi (a1))]) hx hb dX3_hold_17 hl (by decide) rfl (fun ls hl => ?_)
  refine z_ic hx hb dX3_hold_19 ?_
  refine lv_istore (lv' := [(6, zi (0)), (5, zi (pn (σ (a1).toNat))), (4, .ref (ad (40 + 4 * (a1).toNat + 2))), (3, zi (0)), (2, .ref (ad (40 + 4 * (a1).toNat))), (0, .ref (ad (0))), (1, zi (a1))]) hx hb dX3_hold_20 hl (by decide) rfl (fun ls hl => ?_)
  have L22 : ∀ (nn : Nat) (K : Nat) (i : Int) (sm : Int), ((σ (a1).toNat).1 - K) < nn → (i = K) → (K ≤ (σ (a1).toNat).1) → (sm = zho (σ (a1).toNat) K) → ∀ (H : Heap) (locs : List Loc), zW G A s.heap H locs I ad ct → ∀ ls, lv_has ls 8 [(0, .ref (ad (0))), (1, zi (a1)), (2, .ref (ad (40 + 4 * (a1).toNat))), (3, zi (sm)), (4, .ref (ad (40 + 4 * (a1).toNat + 2))), (5, zi (pn (σ (a1).toNat))), (6, zi (i))] → W p l e ({ frames := 7, cells := 1, slots := 6, locals := 107 } : Room) s m args below meth c H locs 1 6 (vx_MQ below (zQ G A ad (zk I (zqi fun z u => (0 ≤ a1 ∧ a1 < n) ∧ z = zho (σ (a1).toNat) (σ (a1).toNat).1 ∧ u = ct))) (zX G A I ad ct (fun E => E = zIA ∧ ¬ (0 ≤ a1 ∧ a1 < n))) args s 1 6 A) (F0 m 22 ls []) := by
    intro nn
    induction nn with
    | zero => intro K i sm hme; exact absurd hme (Nat.not_lt_zero _)
    | succ nn ih22 =>
      intro K i sm hme22 hi hK9 hsm H locs hw ls hl
      refine lv_iload hx hb dX3_hold_22 (lv_at hl 6 rfl) ?_
      refine lv_iload hx hb dX3_hold_24 (lv_at hl 5 rfl) ?_
      refine z_icmp_ge (tgt := 53) hx hb dX3_hold_26 (by decide) ⟨by omega, by omega⟩ ⟨by omega, by omega⟩ (fun c_3 => ?_) (fun c_3 => ?_)
      · refine lv_iload_n hx hb dX3_hold_53 rfl (lv_at hl 3 rfl) ?_
        exact z_iret hx hb hlk hr hw dX3_hold_54 (Nat.le_of_ble_eq_true rfl) (Nat.le_of_ble_eq_true rfl) ⟨rfl, _, rfl, ⟨⟨by omega, by omega⟩, by rw [hsm, show K = (σ (a1).toNat).1 by omega], rfl⟩⟩
      · refine lv_aload hx hb dX3_hold_29 (lv_at hl 4 rfl) ?_
        refine lv_iload hx hb dX3_hold_31 (lv_at hl 6 rfl) ?_
        refine z_iald (f := pmo (σ (a1).toNat)) hx hb hK hw hk2 hp2 (by omega) (by omega) (by omega) dX3_hold_33 ?_
        refine lv_istore (lv' := [(7, zi ((pmo (σ (a1).toNat)) (i))), (0, .ref (ad (0))), (1, zi (a1)), (2, .ref (ad (40 + 4 * (a1).toNat))), (3, zi (sm)), (4, .ref (ad (40 + 4 * (a1).toNat + 2))), (5, zi (pn (σ (a1).toNat))), (6, zi (i))]) hx hb dX3_hold_34 hl (by decide) rfl (fun ls hl => ?_)
        refine lv_iload_n hx hb dX3_hold_36 rfl (lv_at hl 4 rfl) ?_
        refine z_bi hx hb dX3_hold_37 (by decide) ?_
        refine lv_iload hx hb dX3_hold_39 (lv_at hl 0 rfl) ?_
        have b1 := g15 (i)
        refine z_imul hx hb dX3_hold_41 ?_
        refine z_bi hx hb dX3_hold_42 (by decide) ?_
        refine z_idiv hx hb dX3_hold_44 ⟨by omega, by omega⟩ ⟨by decide, by decide⟩ (by decide) ?_
        refine z_iadd hx hb dX3_hold_45 ?_
        refine lv_istore_n (lv' := [(3, zi ((sm) + (((7) * ((pmo (σ (a1).toNat)) (i))).tdiv (10)))), (7, zi ((pmo (σ (a1).toNat)) (i))), (0, .ref (ad (0))), (1, zi (a1)), (2, .ref (ad (40 + 4 * (a1).toNat))), (4, .ref (ad (40 + 4 * (a1).toNat + 2))), (5, zi (pn (σ (a1).toNat))), (6, zi (i))]) hx hb dX3_hold_46 rfl hl (by decide) rfl (fun ls hl => ?_)
        refine z_iinc (lv' := [(6, zi (i + 1)), (3, zi ((sm) + (((7) * ((pmo (σ (a1).toNat)) (i))).tdiv (10)))), (7, zi ((pmo (σ (a1).toNat)) (i))), (0, .ref (ad (0))), (1, zi (a1)), (2, .ref (ad (40 + 4 * (a1).toNat))), (4, .ref (ad (40 + 4 * (a1).toNat + 2))), (5, zi (pn (σ (a1).toNat)))]) hx hb dX3_hold_47 hl (k := 7) rfl (by decide) rfl (fun ls hl => ?_)
        refine lv_goto (tgt := 22) hx hb dX3_hold_50 (by decide) ?_
        exact ih22 (K + 1) (i + 1) ((sm) + (((7) * ((pmo (σ (a1).toNat)) (i))).tdiv (10))) (by omega) (by omega) (by omega) (by rw [hsm, hi]; rfl) _ _ hw _ (lv_sub hl [3, 4, 5, 1, 6, 7, 0] rfl)
  exact L22 _ (0) (0) (0) (Nat.lt_succ_self _) rfl (by omega) rfl _ _ hw _ (lv_sub hl [5, 6, 4, 3, 2, 1, 0] rfl)

set_option maxHeartbeats 4000000 in
set_option maxRecDepth 100000 in
theorem k_join (l : Launch) (hl0 : l.stackTraces = false) (G : zG) (I : List Nat) (ad : Nat → Nat) (ct : Nat → va_E) (sz : Nat) (n : Nat) (hn6 : n ≤ 6) (hI0 : 0 ∈ I) (hI1 : 1 ∈ I) (h0 : ct 0 = .inr (3, [.ref (ad 1), .ref (ad 2), .ref (ad 3), zi n])) (h1 : ct 1 = zP G 6 (zpf ad n)) (σ : Nat → zPl) (hgs : ∀ p : Nat, p < n → zGood (σ p)) (hms : ∀ p : Nat, p < n → zMem4 I (40 + 4 * p)) (hps : ∀ p : Nat, p < n → zPileAt G ad ct (40 + 4 * p) (σ p)) (a1 bi : Int) (hz1 : zr a1) (hbi : bi = 0 ∨ bi = 1) : zN l yX3_join wsX3_join 7 107 1 6 G [.ref (ad (0)), zi (a1), zi (bi)] I ad ct (fun E => E = zIA ∧ ¬ (0 ≤ a1 ∧ a1 < n)) sz (zk I (zqi fun z u => (0 ≤ a1 ∧ a1 < n) ∧ z = pjo (σ (a1).toNat) ∧ u = zU ct (40 + 4 * (a1).toNat) (.inr (1, [zi (psp (σ (a1).toNat)), zi (pma (σ (a1).toNat)), zi (pco (σ (a1).toNat)), .ref (ad (40 + 4 * (a1).toNat + 1)), .ref (ad (40 + 4 * (a1).toNat + 2)), .ref (ad (40 + 4 * (a1).toNat + 3)), zi (pts (σ (a1).toNat)), zi (ptm (σ (a1).toNat)), zi (bi)])))) := by
  refine z_ofW (ret := (some .boolean)) hl0 (by decide +kernel) rfl (Nat.le_of_ble_eq_true rfl) ?_
  intro p e s m args below meth c A ls hA0 hsz hF hr hout hnm hw hl
  obtain ⟨hx, hb, hml, hown, hts, hK, hlk, hst⟩ := hF
  have hown : s.vm.findClass RX3 = some m.cls := hown
  have hl : lv_has ls 5 [(0, .ref (ad (0))), (1, zi (a1)), (2, zi (bi))] := hl
  have w_0 := hts (.fieldLink RX3 101 "PileMoves$Pile" "joined" "Z") (by decide +kernel)
  have w_1 : ∀ w ∈ wsX10, w ∈ wsX3_join := by decide +kernel
  refine lv_aload_n hx hb dX3_join_0 rfl (lv_at hl 0 rfl) ?_
  refine lv_iload_n hx hb dX3_join_1 rfl (lv_at hl 1 rfl) ?_
  refine z_tA (z_runV (As := [zi (a1)]) (rest := []) (k := 0) (fs := [.ref (ad (1)), .ref (ad (2)), .ref (ad (3)), zi (n)]) ⟨hx, hb, hml, hown, hts⟩ hK hw (k_pileOf l hl0 G I ad _ _ n hn6 hI0 hI1 h0 h1 (a1) hz1) (cwV 1 hts gX3_join_X3_pileOf rfl rfl rfl (by decide +kernel) ⟨Nat.le_of_ble_eq_true rfl, Nat.le_of_ble_eq_true rfl⟩) hI0 h0 rfl rfl rfl hl.1 rfl (Nat.le_of_ble_eq_true rfl) dX3_join_2 ⟨Nat.le_of_ble_eq_true rfl, Nat.le_of_ble_eq_true rfl⟩) hw hout hlk (fun E h9 => ⟨h9.1, fun q9 => h9.2 (by omega)⟩) (Nat.le_of_ble_eq_true rfl) (Nat.le_of_ble_eq_true rfl) (fun r_1 ct_2 H locs hP hw => ?_)
  obtain ⟨rfl, ⟨q2_1, q2_2⟩, hct⟩ := hP
  rw [hct] at hw
  clear hct
  obtain ⟨hp0, hp1, hp2, hp3⟩ := hps (a1).toNat (by omega)
  obtain ⟨hk0, hk1, hk2, hk3⟩ := hms (a1).toNat (by omega)
  have hg := hgs (a1).toNat (by omega)
  have hg0 := hg
  obtain ⟨⟨g1, g2⟩, ⟨g3, g4⟩, ⟨g5, g6⟩, ⟨g7, g8⟩, ⟨g9, g10⟩, ⟨g11, g12⟩, g13, g14, g15, g16⟩ := hg0
  have gn : (((σ (a1).toNat)).1 : Int) = pn (σ (a1).toNat) := rfl
  refine lv_astore_n (lv' := [(3, .ref (ad (40 + 4 * (a1).toNat))), (0, .ref (ad (0))), (1, zi (a1)), (2, zi (bi))]) hx hb dX3_join_5 rfl hl (by decide) rfl (fun ls hl => ?_)
  refine lv_aload_n hx hb dX3_join_6 rfl (lv_at hl 0 rfl) ?_
  refine z_get (C := RX1) (T := TX1) (N := 9) (fs := [zi (psp (σ (a1).toNat)), zi (pma (σ (a1).toNat)), zi (pco (σ (a1).toNat)), .ref (ad (40 + 4 * (a1).toNat + 1)), .ref (ad (40 + 4 * (a1).toNat + 2)), .ref (ad (40 + 4 * (a1).toNat + 3)), zi (pts (σ (a1).toNat)), zi (ptm (σ (a1).toNat)), zi (pjo (σ (a1).toNat))]) hx hb hts w_1 hown hK hw hk0 hp0 rfl 8 (by decide) w_0 rfl rfl dX3_join_7 ?_
  refine lv_istore (lv' := [(4, zi (pjo (σ (a1).toNat))), (3, .ref (ad (40 + 4 * (a1).toNat))), (0, .ref (ad (0))), (1, zi (a1)), (2, zi (bi))]) hx hb dX3_join_10 hl (by decide) rfl (fun ls hl => ?_)
  refine lv_aload_n hx hb dX3_join_12 rfl (lv_at hl 1 rfl) ?_
  refine lv_iload_n hx hb dX3_join_13 rfl (lv_at hl 4 rfl) ?_
  refine z_put (C := RX1) (T := TX1) (N := 9) (fs := [zi (psp (σ (a1).toNat)), zi (pma (σ (a1).toNat)), zi (pco (σ (a1).toNat)), .ref (ad (40 + 4 * (a1).toNat + 1)), .ref (ad (40 + 4 * (a1).toNat + 2)), .ref (ad (40 + 4 * (a1).toNat + 3)), zi (pts (σ (a1).toNat)), zi (ptm (σ (a1).toNat)), zi (pjo (σ (a1).toNat))]) (fs' := [zi (psp (σ (a1).toNat)), zi (pma (σ (a1).toNat)), zi (pco (σ (a1).toNat)), .ref (ad (40 + 4 * (a1).toNat + 1)), .ref (ad (40 + 4 * (a1).toNat + 2)), .ref (ad (40 + 4 * (a1).toNat + 3)), zi (pts (σ (a1).toNat)), zi (ptm (σ (a1).toNat)), zi (bi)]) hx hb hts w_1 tyX1_ok nmX1 hown hK hw hk0 hp0 rfl 8 (by decide) w_0 rfl rfl (by rcases hbi with rfl | rfl <;> rfl) (by rcases hbi with rfl | rfl <;> rfl) (Nat.le_of_ble_eq_true rfl) rfl dX3_join_14 (fun H locs hw => ?_)
  refine lv_iload hx hb dX3_join_17 (lv_at hl 0 rfl) ?_
  exact z_zret hx hb hlk hr hw g13 dX3_join_19 (Nat.le_of_ble_eq_true rfl) (Nat.le_of_ble_eq_true rfl) ⟨rfl, _, rfl, ⟨⟨by omega, by omega⟩, rfl, rfl⟩⟩
