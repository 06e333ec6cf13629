set_option maxHeartbeats 4000000 in
set_option maxRecDepth 100000 in
theorem k_isEmpty (l : Launch) (hl0 : l.stackTraces = false) (G : zG) (I : List Nat) (ad : Nat → Nat) (ct : Nat → va_E) (sz : Nat) (n : Nat) (hn6 : n ≤ 6) (σ : Nat → zPl) (hgs : ∀ p : Nat, p < n → zGood (σ p)) (cd bl : Int) (Fmn Fsp Fms Fco Fst Fmo Fsk Fts Ftm Fjn Fpl Fgr Fab : Int → Int) (hRel : zMrel n σ Fmn Fsp Fms Fco Fst Fmo Fsk Fts Ftm Fjn) (hM : ∀ j : Nat, 8 ≤ j → j ≤ 24 → j ∈ I) (hms : zMst G ad ct n cd bl Fmn Fsp Fms Fco Fst Fmo Fsk Fts Ftm Fjn) (hmc : zMsc G ct Fpl Fgr Fab)  : zN l yX4_isEmpty wsX4_isEmpty 0 0 0 0 G [.ref (ad (8))] I ad ct zno sz (zk I (zqi fun z u => ((z = 1 ∧ zemp σ n) ∨ (z = 0 ∧ ¬ zemp σ n)) ∧ u = ct)) := by
  obtain ⟨h8, h9, h10, h11, h12, h13, h14, h15, h16, h17, h18⟩ := hms
  obtain ⟨h19, h20, h21⟩ := hmc
  refine z_ofW (ret := (some .boolean)) hl0 (by decide +kernel) rfl (Nat.le_of_ble_eq_true rfl) ?_
  intro p e s m args below meth c A ls hA0 hsz hF hr hout hnm hw hl
  obtain ⟨hx, hb, hml, hown, hts, hK, hlk, hst⟩ := hF
  have hown : s.vm.findClass RX4 = some m.cls := hown
  have hl : lv_has ls 3 [(0, .ref (ad (8)))] := hl
  have w_0 := hts (.fieldLink RX4 68 "PileMovesModel" "piles" "I") (by decide +kernel)
  have w_1 : ∀ w ∈ wsX40, w ∈ wsX4_isEmpty := by decide +kernel
  have w_2 := hts (.fieldLink RX4 38 "PileMovesModel" "isIn" "[Z") (by decide +kernel)
  refine z_ic hx hb dX4_isEmpty_0 ?_
  refine lv_istore_n (lv' := [(1, zi (1)), (0, .ref (ad (8)))]) hx hb dX4_isEmpty_1 rfl hl (by decide) rfl (fun ls hl => ?_)
  refine z_ic hx hb dX4_isEmpty_2 ?_
  refine lv_istore_n (lv' := [(2, zi (0)), (1, zi (1)), (0, .ref (ad (8)))]) hx hb dX4_isEmpty_3 rfl hl (by decide) rfl (fun ls hl => ?_)
  have L4 : ∀ (nn : Nat) (K : Nat) (i : Int) (e9 : Int), (n - K) < nn → (i = K) → (K ≤ n) → ((e9 = 1 ∧ zemp σ K) ∨ (e9 = 0 ∧ ¬ zemp σ K)) → ∀ (H : Heap) (locs : List Loc), zW G A s.heap H locs I ad ct → ∀ ls, lv_has ls 3 [(0, .ref (ad (8))), (1, zi (e9)), (2, zi (i))] → W p l e ({ frames := 0, cells := 0, slots := 0, locals := 0 } : Room) s m args below meth c H locs 0 0 (vx_MQ below (zQ G A ad (zk I (zqi fun z u => ((z = 1 ∧ zemp σ n) ∨ (z = 0 ∧ ¬ zemp σ n)) ∧ u = ct))) (zX G A I ad ct zno) args s 0 0 A) (F0 m 4 ls []) := by
    intro nn
    induction nn with
    | zero => intro K i e9 hme; exact absurd hme (Nat.not_lt_zero _)
    | succ nn ih4 =>
      intro K i e9 hme4 hi hKn he H locs hw ls hl
      refine lv_iload_n hx hb dX4_isEmpty_4 rfl (lv_at hl 2 rfl) ?_
      refine lv_aload_n hx hb dX4_isEmpty_5 rfl (lv_at hl 0 rfl) ?_
      refine z_get (C := RX4) (T := TX4) (N := 19) (fs := [zi (cd), zi (n), .ref (ad (9)), .ref (ad (10)), .ref (ad (11)), .ref (ad (12)), .ref (ad (13)), .ref (ad (14)), .ref (ad (15)), .ref (ad (16)), .ref (ad (17)), .ref (ad (18)), .ref (ad (19)), .ref (ad (20)), .ref (ad (21)), .ref (ad (22)), zi (bl), .ref (ad (23)), .ref (ad (24))]) hx hb hts w_1 hown hK hw (hM 8 (by decide) (by decide)) h8 rfl 1 (by decide) w_0 rfl rfl dX4_isEmpty_6 ?_
      refine z_icmp_ge (tgt := 37) hx hb dX4_isEmpty_9 (by decide) ⟨by omega, by omega⟩ ⟨by omega, by omega⟩ (fun c_1 => ?_) (fun c_1 => ?_)
      · refine lv_iload_n hx hb dX4_isEmpty_37 rfl (lv_at hl 1 rfl) ?_
        exact z_zret hx hb hlk hr hw (by rcases he with h8 | h8 <;> omega) dX4_isEmpty_38 (Nat.le_of_ble_eq_true rfl) (Nat.le_of_ble_eq_true rfl) ⟨rfl, _, rfl, ⟨by rw [show n = K by omega]; exact he, rfl⟩⟩
      · refine lv_iload_n hx hb dX4_isEmpty_12 rfl (lv_at hl 1 rfl) ?_
        refine z_if_eq (tgt := 29) hx hb dX4_isEmpty_13 (by decide) ⟨by omega, by omega⟩ (fun c_2 => ?_) (fun c_2 => ?_)
        · refine z_ic hx hb dX4_isEmpty_29 ?_
          refine lv_istore_n (lv' := [(1, zi (0)), (0, .ref (ad (8))), (2, zi (i))]) hx hb dX4_isEmpty_30 rfl hl (by decide) rfl (fun ls hl => ?_)
          refine z_iinc (lv' := [(2, zi (i + 1)), (1, zi (0)), (0, .ref (ad (8)))]) hx hb dX4_isEmpty_31 hl (k := 2) rfl (by decide) rfl (fun ls hl => ?_)
          refine lv_goto (tgt := 4) hx hb dX4_isEmpty_34 (by decide) ?_
          exact ih4 (K + 1) (i + 1) (0) (by omega) (by omega) (by omega) (Or.inr ⟨rfl, fun h9 => he.elim (fun h8 => absurd h8.1 (by omega)) (fun h8 => h8.2 (fun p9 hp9 => h9 p9 (by omega)))⟩) _ _ hw _ (lv_sub hl [2, 1, 0] rfl)
        · refine lv_aload_n hx hb dX4_isEmpty_16 rfl (lv_at hl 0 rfl) ?_
          refine z_get (C := RX4) (T := TX4) (N := 19) (fs := [zi (cd), zi (n), .ref (ad (9)), .ref (ad (10)), .ref (ad (11)), .ref (ad (12)), .ref (ad (13)), .ref (ad (14)), .ref (ad (15)), .ref (ad (16)), .ref (ad (17)), .ref (ad (18)), .ref (ad (19)), .ref (ad (20)), .ref (ad (21)), .ref (ad (22)), zi (bl), .ref (ad (23)), .ref (ad (24))]) hx hb hts w_1 hown hK hw (hM 8 (by decide) (by decide)) h8 rfl 11 (by decide) w_2 rfl rfl dX4_isEmpty_17 ?_
          refine lv_iload_n hx hb dX4_isEmpty_20 rfl (lv_at hl 2 rfl) ?_
          refine z_zald (f := Fjn) hx hb hK hw (hM 18 (by decide) (by decide)) h18 (by omega) (by omega) (by decide) dX4_isEmpty_21 ?_
          have hr0 := hRel K (by omega)
          rw [← hi] at hr0
          rw [show (Fjn (i) : Int) = pjo (σ K) from hr0.2.2.2.2.2.2.1]
          have g13 := (hgs K (by omega)).2.2.2.2.2.2.1
          refine z_if_ne (tgt := 29) hx hb dX4_isEmpty_22 (by decide) ⟨by omega, by omega⟩ (fun c_3 => ?_) (fun c_3 => ?_)
          · refine z_ic hx hb dX4_isEmpty_29 ?_
            refine lv_istore_n (lv' := [(1, zi (0)), (0, .ref (ad (8))), (2, zi (i))]) hx hb dX4_isEmpty_30 rfl hl (by decide) rfl (fun ls hl => ?_)
            refine z_iinc (lv' := [(2, zi (i + 1)), (1, zi (0)), (0, .ref (ad (8)))]) hx hb dX4_isEmpty_31 hl (k := 2) rfl (by decide) rfl (fun ls hl => ?_)
            refine lv_goto (tgt := 4) hx hb dX4_isEmpty_34 (by decide) ?_
            exact ih4 (K + 1) (i + 1) (0) (by omega) (by omega) (by omega) (Or.inr ⟨rfl, fun h9 => c_3 (h9 K (by omega))⟩) _ _ hw _ (lv_sub hl [2, 1, 0] rfl)
          · refine z_ic hx hb dX4_isEmpty_25 ?_
            refine lv_goto (tgt := 30) hx hb dX4_isEmpty_26 (by decide) ?_
            refine lv_istore_n (lv' := [(1, zi (1)), (0, .ref (ad (8))), (2, zi (i))]) hx hb dX4_isEmpty_30 rfl hl (by decide) rfl (fun ls hl => ?_)
            refine z_iinc (lv' := [(2, zi (i + 1)), (1, zi (1)), (0, .ref (ad (8)))]) hx hb dX4_isEmpty_31 hl (k := 2) rfl (by decide) rfl (fun ls hl => ?_)
            refine lv_goto (tgt := 4) hx hb dX4_isEmpty_34 (by decide) ?_
            exact ih4 (K + 1) (i + 1) (1) (by omega) (by omega) (by omega) (Or.inl ⟨rfl, zemp_s (he.elim (fun h8 => h8.2) (fun h8 => absurd h8.1 (by omega))) c_3⟩) _ _ hw _ (lv_sub hl [2, 1, 0] rfl)
  exact L4 _ (0) (0) (1) (Nat.lt_succ_self _) rfl (by omega) (Or.inl ⟨rfl, fun p9 hp9 => absurd hp9 (Nat.not_lt_zero _)⟩) _ _ hw _ (lv_sub hl [2, 1, 0] rfl)

set_option maxHeartbeats 4000000 in
set_option maxRecDepth 100000 in
theorem k_loads (l : Launch) (hl0 : l.stackTraces = false) (G : zG) (I : List Nat) (ad : Nat → Nat) (ct : Nat → va_E) (sz : Nat) (n : Nat) (hn6 : n ≤ 6) (σ : Nat → zPl) (hgs : ∀ p : Nat, p < n → zGood (σ p)) (cd bl : Int) (Fmn Fsp Fms Fco Fst Fmo Fsk Fts Ftm Fjn Fpl Fgr Fab : Int → Int) (hRel : zMrel n σ Fmn Fsp Fms Fco Fst Fmo Fsk Fts Ftm Fjn) (hM : ∀ j : Nat, 8 ≤ j → j ≤ 24 → j ∈ I) (hms : zMst G ad ct n cd bl Fmn Fsp Fms Fco Fst Fmo Fsk Fts Ftm Fjn) (hmc : zMsc G ct Fpl Fgr Fab) (s9 : Int) (hs0 : -100000 ≤ s9) (hs1 : s9 ≤ 100000) : zN l yX4_loads wsX4_loads 5 135 0 0 G [.ref (ad (8)), zl (s9)] I ad ct zno sz (zk I (zql fun z u => z = zgl σ s9 n ∧ ∃ P Gr Ab : Int → Int, u = zM3 ct (zL G 12 P) (zL G 12 Gr) (zL G 12 Ab))) := by
  obtain ⟨h8, h9, h10, h11, h12, h13, h14, h15, h16, h17, h18⟩ := hms
  obtain ⟨h19, h20, h21⟩ := hmc
  refine z_ofW (ret := (some .long)) hl0 (by decide +kernel) rfl (Nat.le_of_ble_eq_true rfl) ?_
  intro p e s m args below meth c A ls hA0 hsz hF hr hout hnm hw hl
  obtain ⟨hx, hb, hml, hown, hts, hK, hlk, hst⟩ := hF
  have hown : s.vm.findClass RX4 = some m.cls := hown
  have hl : lv_has ls 6 [(0, .ref (ad (8))), (1, zl (s9))] := hl
  have w_0 := hts (.fieldLink RX4 68 "PileMovesModel" "piles" "I") (by decide +kernel)
  have w_1 : ∀ w ∈ wsX40, w ∈ wsX4_loads := by decide +kernel
  have w_2 := hts (.fieldLink RX4 38 "PileMovesModel" "isIn" "[Z") (by decide +kernel)
  refine z_lc0 hx hb dX4_loads_0 ?_
  refine lv_lstore_n (lv' := [(3, zl (0)), (0, .ref (ad (8))), (1, zl (s9))]) hx hb dX4_loads_1 rfl hl (by decide) rfl (fun ls hl => ?_)
  refine z_ic hx hb dX4_loads_2 ?_
  refine lv_istore (lv' := [(5, zi (0)), (3, zl (0)), (0, .ref (ad (8))), (1, zl (s9))]) hx hb dX4_loads_3 hl (by decide) rfl (fun ls hl => ?_)
  have L5 : ∀ (nn : Nat) (K : Nat) (i : Int) (sm : Int) (P : Int → Int) (Gr : Int → Int) (Ab : Int → Int), (n - K) < nn → (i = K) → (K ≤ n) → (sm = zgl σ s9 K) → ∀ (H : Heap) (locs : List Loc), zW G A s.heap H locs I ad (zM3 ct (zL G 12 P) (zL G 12 Gr) (zL G 12 Ab)) → ∀ ls, lv_has ls 6 [(0, .ref (ad (8))), (1, zl (s9)), (3, zl (sm)), (5, zi (i))] → W p l e ({ frames := 5, cells := 0, slots := 0, locals := 135 } : Room) s m args below meth c H locs 0 0 (vx_MQ below (zQ G A ad (zk I (zql fun z u => z = zgl σ s9 n ∧ ∃ P Gr Ab : Int → Int, u = zM3 ct (zL G 12 P) (zL G 12 Gr) (zL G 12 Ab)))) (zX G A I ad ct zno) args s 0 0 A) (F0 m 5 ls []) := by
    intro nn
    induction nn with
    | zero => intro K i sm P Gr Ab hme; exact absurd hme (Nat.not_lt_zero _)
    | succ nn ih5 =>
      intro K i sm P Gr Ab hme5 hi hKn hsm H locs hw ls hl
      refine lv_iload hx hb dX4_loads_5 (lv_at hl 3 rfl) ?_
      refine lv_aload_n hx hb dX4_loads_7 rfl (lv_at hl 0 rfl) ?_
      refine z_get (C := RX4) (T := TX4) (N := 19) (fs := [zi (cd), zi (n), .ref (ad (9)), .ref (ad (10)), .ref (ad (11)), .ref (ad (12)), .ref (ad (13)), .ref (ad (14)), .ref (ad (15)), .ref (ad (16)), .ref (ad (17)), .ref (ad (18)), .ref (ad (19)), .ref (ad (20)), .ref (ad (21)), .ref (ad (22)), zi (bl), .ref (ad (23)), .ref (ad (24))]) hx hb hts w_1 hown hK hw (hM 8 (by decide) (by decide)) (zM3_n (by omega) h8) rfl 1 (by decide) w_0 rfl rfl dX4_loads_8 ?_
      refine z_icmp_ge (tgt := 44) hx hb dX4_loads_11 (by decide) ⟨by omega, by omega⟩ ⟨by omega, by omega⟩ (fun c_1 => ?_) (fun c_1 => ?_)
      · refine lv_lload_n hx hb dX4_loads_44 rfl (lv_at hl 2 rfl) ?_
        exact z_lret hx hb hlk hr hw dX4_loads_45 (Nat.le_of_ble_eq_true rfl) (Nat.le_of_ble_eq_true rfl) ⟨rfl, _, rfl, ⟨by rw [hsm, show K = n by omega], P, Gr, Ab, rfl⟩⟩
      · refine lv_lload_n hx hb dX4_loads_14 rfl (lv_at hl 2 rfl) ?_
        refine lv_aload_n hx hb dX4_loads_15 rfl (lv_at hl 0 rfl) ?_
        refine z_get (C := RX4) (T := TX4) (N := 19) (fs := [zi (cd), zi (n), .ref (ad (9)), .ref (ad (10)), .ref (ad (11)), .ref (ad (12)), .ref (ad (13)), .ref (ad (14)), .ref (ad (15)), .ref (ad (16)), .ref (ad (17)), .ref (ad (18)), .ref (ad (19)), .ref (ad (20)), .ref (ad (21)), .ref (ad (22)), zi (bl), .ref (ad (23)), .ref (ad (24))]) hx hb hts w_1 hown hK hw (hM 8 (by decide) (by decide)) (zM3_n (by omega) h8) rfl 11 (by decide) w_2 rfl rfl dX4_loads_16 ?_
        refine lv_iload hx hb dX4_loads_19 (lv_at hl 3 rfl) ?_
        refine z_zald (f := Fjn) hx hb hK hw (hM 18 (by decide) (by decide)) (zM3_n (by omega) h18) (by omega) (by omega) (by decide) dX4_loads_21 ?_
        have hr0 := hRel K (by omega)
        rw [← hi] at hr0
        rw [show (Fjn (i) : Int) = pjo (σ K) from hr0.2.2.2.2.2.2.1]
        have g13 := (hgs K (by omega)).2.2.2.2.2.2.1
        refine z_if_eq (tgt := 35) hx hb dX4_loads_22 (by decide) ⟨by omega, by omega⟩ (fun c_2 => ?_) (fun c_2 => ?_)
        · refine z_lc0 hx hb dX4_loads_35 ?_
          refine z_ladd hx hb dX4_loads_36 ?_
          refine lv_lstore_n (lv' := [(3, zl ((sm) + (0))), (0, .ref (ad (8))), (1, zl (s9)), (5, zi (i))]) hx hb dX4_loads_37 rfl hl (by decide) rfl (fun ls hl => ?_)
          refine z_iinc (lv' := [(5, zi (i + 1)), (3, zl ((sm) + (0))), (0, .ref (ad (8))), (1, zl (s9))]) hx hb dX4_loads_38 hl (k := 3) rfl (by decide) rfl (fun ls hl => ?_)
          refine lv_goto (tgt := 5) hx hb dX4_loads_41 (by decide) ?_
          exact ih5 (K + 1) (i + 1) ((sm) + (0)) (P) (Gr) (Ab) (by omega) (by omega) (by omega) (by rw [hsm]; show _ = zgl σ s9 K + ite _ _ _; rw [if_pos (by assumption)]) _ _ hw _ (lv_sub hl [2, 3, 1, 0] rfl)
        · refine lv_aload_n hx hb dX4_loads_25 rfl (lv_at hl 0 rfl) ?_
          refine lv_iload hx hb dX4_loads_26 (lv_at hl 3 rfl) ?_
          refine lv_lload_n hx hb dX4_loads_28 rfl (lv_at hl 1 rfl) ?_
          refine z_kL (z_runV (As := [zi (i), zl (s9)]) (rest := [zl (sm)]) (k := 8) (fs := [zi (cd), zi (n), .ref (ad (9)), .ref (ad (10)), .ref (ad (11)), .ref (ad (12)), .ref (ad (13)), .ref (ad (14)), .ref (ad (15)), .ref (ad (16)), .ref (ad (17)), .ref (ad (18)), .ref (ad (19)), .ref (ad (20)), .ref (ad (21)), .ref (ad (22)), zi (bl), .ref (ad (23)), .ref (ad (24))]) ⟨hx, hb, hml, hown, hts⟩ hK hw (k_loadAt l hl0 G I ad _ _ n hn6 σ hgs (cd) (bl) (Fmn) (Fsp) (Fms) (Fco) (Fst) (Fmo) (Fsk) (Fts) (Ftm) (Fjn) (P) (Gr) (Ab) hRel hM ⟨(zM3_n (by omega) h8), (zM3_n (by omega) h9), (zM3_n (by omega) h10), (zM3_n (by omega) h11), (zM3_n (by omega) h12), (zM3_n (by omega) h13), (zM3_n (by omega) h14), (zM3_n (by omega) h15), (zM3_n (by omega) h16), (zM3_n (by omega) h17), (zM3_n (by omega) h18)⟩ ⟨rfl, rfl, rfl⟩ (K) (i) (by omega) (by omega) (s9) ⟨by omega, by omega⟩) (cwV 2 hts gX4_loads_X4_loadAt rfl rfl rfl (by decide +kernel) ⟨Nat.le_of_ble_eq_true rfl, Nat.le_of_ble_eq_true rfl⟩) (hM 8 (by decide) (by decide)) (zM3_n (by omega) h8) rfl rfl rfl hl.1 rfl (Nat.le_of_ble_eq_true rfl) dX4_loads_29 ⟨Nat.le_of_ble_eq_true rfl, Nat.le_of_ble_eq_true rfl⟩) hw (fun r_6 ct_7 H locs hP hw => ?_)
          obtain ⟨rfl, P_3, G_4, A_5, hct⟩ := hP
          rw [hct] at hw
          clear hct
          have lb_29 := zld_bd (hgs (K) (by omega)) (zg (σ (K)) false (s9))
          refine lv_goto (tgt := 36) hx hb dX4_loads_32 (by decide) ?_
          refine z_ladd hx hb dX4_loads_36 ?_
          refine lv_lstore_n (lv' := [(3, zl ((sm) + (zld (σ (K)) (zg (σ (K)) false (s9))))), (0, .ref (ad (8))), (1, zl (s9)), (5, zi (i))]) hx hb dX4_loads_37 rfl hl (by decide) rfl (fun ls hl => ?_)
          refine z_iinc (lv' := [(5, zi (i + 1)), (3, zl ((sm) + (zld (σ (K)) (zg (σ (K)) false (s9))))), (0, .ref (ad (8))), (1, zl (s9))]) hx hb dX4_loads_38 hl (k := 3) rfl (by decide) rfl (fun ls hl => ?_)
          refine lv_goto (tgt := 5) hx hb dX4_loads_41 (by decide) ?_
          exact ih5 (K + 1) (i + 1) ((sm) + (zld (σ (K)) (zg (σ (K)) false (s9)))) (P_3) (G_4) (A_5) (by omega) (by omega) (by omega) (by rw [hsm]; show _ = zgl σ s9 K + ite _ _ _; rw [if_neg (by assumption)]) _ _ (zWe hw (by simp only [zM3_p19, zM3_p20, zM3_p21, zM3_zM3])) _ (lv_sub hl [2, 3, 1, 0] rfl)
  exact L5 _ (0) (0) (0) (Fpl) (Fgr) (Fab) (Nat.lt_succ_self _) rfl (by omega) rfl _ _ (zWe hw (zM3_id h19 h20 h21).symm) _ (lv_sub hl [2, 3, 1, 0] rfl)

theorem zse_lt {σ : Nat → zPl} {n : Nat} {ld s : Int} (h1 : ¬ zgl σ 10000 n ≤ ld) (h2 : s ≤ 10000) (h3 : zgl σ s n ≤ ld) : s < 10000 := by
  by_cases h : s = 10000
  · rw [h] at h3; exact absurd h3 h1
  · omega
theorem zse_lt2 {σ : Nat → zPl} {n : Nat} {ld s : Int} (h1 : ¬ zgl σ 10000 n ≤ ld) (h2 : s ≤ 10000) (h3 : ¬ ld < zgl σ s n) : s < 10000 := zse_lt h1 h2 (by omega)

set_option maxHeartbeats 4000000 in
set_option maxRecDepth 100000 in
theorem k_settles (l : Launch) (hl0 : l.stackTraces = false) (G : zG) (I : List Nat) (ad : Nat → Nat) (ct : Nat → va_E) (sz : Nat) (n : Nat) (hn6 : n ≤ 6) (σ : Nat → zPl) (hgs : ∀ p : Nat, p < n → zGood (σ p)) (cd bl : Int) (Fmn Fsp Fms Fco Fst Fmo Fsk Fts Ftm Fjn Fpl Fgr Fab : Int → Int) (hRel : zMrel n σ Fmn Fsp Fms Fco Fst Fmo Fsk Fts Ftm Fjn) (hM : ∀ j : Nat, 8 ≤ j → j ≤ 24 → j ∈ I) (hms : zMst G ad ct n cd bl Fmn Fsp Fms Fco Fst Fmo Fsk Fts Ftm Fjn) (hmc : zMsc G ct Fpl Fgr Fab) (ld : Int) (hz1 : zr ld) : zN l yX4_settles wsX4_settles 6 160 0 0 G [.ref (ad (8)), zl (ld)] I ad ct zno sz (zk I (zqi fun z u => z = zgs σ n ld ∧ ∃ P Gr Ab : Int → Int, u = zM3 ct (zL G 12 P) (zL G 12 Gr) (zL G 12 Ab))) := by
  obtain ⟨h8, h9, h10, h11, h12, h13, h14, h15, h16, h17, h18⟩ := hms
  obtain ⟨h19, h20, h21⟩ := hmc
  have bL : ∀ s : Int, -13200000 ≤ zgl σ s n ∧ zgl σ s n ≤ 13200000 := fun s => by have := zgl_bd hgs s n (Nat.le_refl n); omega
  have bL0 := bL 0
  have bL1 := bL 10000
  refine z_ofW (ret := (some .int)) hl0 (by decide +kernel) rfl (Nat.le_of_ble_eq_true rfl) ?_
  intro p e s m args below meth c A ls hA0 hsz hF hr hout hnm hw hl
  obtain ⟨hx, hb, hml, hown, hts, hK, hlk, hst⟩ := hF
  have hown : s.vm.findClass RX4 = some m.cls := hown
  have hl : lv_has ls 6 [(0, .ref (ad (8))), (1, zl (ld))] := hl
  have w_0 := hts (.fieldLink RX4 68 "PileMovesModel" "piles" "I") (by decide +kernel)
  have w_1 : ∀ w ∈ wsX40, w ∈ wsX4_settles := by decide +kernel
  have w_2 := hts (.constant RX4 54 (-1000000)) (by decide +kernel)
  have w_3 := hts (.constantLong RX4 81 (10000)) (by decide +kernel)
  have w_4 := hts (.fieldLink RX4 38 "PileMovesModel" "isIn" "[Z") (by decide +kernel)
  refine z_ic hx hb dX4_settles_0 ?_
  refine lv_istore_n (lv' := [(3, zi (0)), (0, .ref (ad (8))), (1, zl (ld))]) hx hb dX4_settles_1 rfl hl (by decide) rfl (fun ls hl => ?_)
  have L2 : ∀ (nn : Nat) (K : Nat) (i : Int) (P : Int → Int) (Gr : Int → Int) (Ab : Int → Int), (n - K) < nn → (i = K) → (K ≤ n) → ∀ (H : Heap) (locs : List Loc), zW G A s.heap H locs I ad (zM3 ct (zL G 12 P) (zL G 12 Gr) (zL G 12 Ab)) → ∀ ls, lv_has ls 6 [(0, .ref (ad (8))), (1, zl (ld)), (3, zi (i))] → W p l e ({ frames := 6, cells := 0, slots := 0, locals := 160 } : Room) s m args below meth c H locs 0 0 (vx_MQ below (zQ G A ad (zk I (zqi fun z u => z = zgs σ n ld ∧ ∃ P Gr Ab : Int → Int, u = zM3 ct (zL G 12 P) (zL G 12 Gr) (zL G 12 Ab)))) (zX G A I ad ct zno) args s 0 0 A) (F0 m 2 ls []) := by
    intro nn
    induction nn with
    | zero => intro K i P Gr Ab hme; exact absurd hme (Nat.not_lt_zero _)
    | succ nn ih2 =>
      intro K i P Gr Ab hme2 hi hKn H locs hw ls hl
      refine lv_iload_n hx hb dX4_settles_2 rfl (lv_at hl 2 rfl) ?_
      refine lv_aload_n hx hb dX4_settles_3 rfl (lv_at hl 0 rfl) ?_
      refine z_get (C := RX4) (T := TX4) (N := 19) (fs := [zi (cd), zi (n), .ref (ad (9)), .ref (ad (10)), .ref (ad (11)), .ref (ad (12)), .ref (ad (13)), .ref (ad (14)), .ref (ad (15)), .ref (ad (16)), .ref (ad (17)), .ref (ad (18)), .ref (ad (19)), .ref (ad (20)), .ref (ad (21)), .ref (ad (22)), zi (bl), .ref (ad (23)), .ref (ad (24))]) hx hb hts w_1 hown hK hw (hM 8 (by decide) (by decide)) (zM3_n (by omega) h8) rfl 1 (by decide) w_0 rfl rfl dX4_settles_4 ?_
      refine z_icmp_ge (tgt := 37) hx hb dX4_settles_7 (by decide) ⟨by omega, by omega⟩ ⟨by omega, by omega⟩ (fun c_1 => ?_) (fun c_1 => ?_)
      · refine lv_aload_n hx hb dX4_settles_37 rfl (lv_at hl 0 rfl) ?_
        refine z_lc0 hx hb dX4_settles_38 ?_
        refine z_kL (z_runV (As := [zl (0)]) (rest := []) (k := 8) (fs := [zi (cd), zi (n), .ref (ad (9)), .ref (ad (10)), .ref (ad (11)), .ref (ad (12)), .ref (ad (13)), .ref (ad (14)), .ref (ad (15)), .ref (ad (16)), .ref (ad (17)), .ref (ad (18)), .ref (ad (19)), .ref (ad (20)), .ref (ad (21)), .ref (ad (22)), zi (bl), .ref (ad (23)), .ref (ad (24))]) ⟨hx, hb, hml, hown, hts⟩ hK hw (k_loads l hl0 G I ad _ _ n hn6 σ hgs (cd) (bl) (Fmn) (Fsp) (Fms) (Fco) (Fst) (Fmo) (Fsk) (Fts) (Ftm) (Fjn) (P) (Gr) (Ab) hRel hM ⟨(zM3_n (by omega) h8), (zM3_n (by omega) h9), (zM3_n (by omega) h10), (zM3_n (by omega) h11), (zM3_n (by omega) h12), (zM3_n (by omega) h13), (zM3_n (by omega) h14), (zM3_n (by omega) h15), (zM3_n (by omega) h16), (zM3_n (by omega) h17), (zM3_n (by omega) h18)⟩ ⟨rfl, rfl, rfl⟩ (0) (by omega) (by omega)) (cwV 1 hts gX4_settles_X4_loads rfl rfl rfl (by decide +kernel) ⟨Nat.le_of_ble_eq_true rfl, Nat.le_of_ble_eq_true rfl⟩) (hM 8 (by decide) (by decide)) (zM3_n (by omega) h8) rfl rfl rfl hl.1 rfl (Nat.le_of_ble_eq_true rfl) dX4_settles_39 ⟨Nat.le_of_ble_eq_true rfl, Nat.le_of_ble_eq_true rfl⟩) hw (fun r_5 ct_6 H locs hP hw => ?_)
        obtain ⟨rfl, P_2, G_3, A_4, hct⟩ := hP
        rw [hct] at hw
        clear hct
        refine lv_lload_n hx hb dX4_settles_42 rfl (lv_at hl 1 rfl) ?_
        refine z_lcmp_gt (tgt := 59) hx hb dX4_settles_43 dX4_settles_44 (by decide) ⟨by omega, by omega⟩ ⟨by omega, by omega⟩ (fun c_7 => ?_) (fun c_7 => ?_)
        · refine z_ldc (n := -1000000) hx hb hown w_2 (by decide) dX4_settles_59 ?_
          exact z_iret hx hb hlk hr hw dX4_settles_61 (Nat.le_of_ble_eq_true rfl) (Nat.le_of_ble_eq_true rfl) ⟨rfl, _, rfl, by unfold zgs; rw [if_pos (by omega)], _, _, _, by first | exact rfl | exact zM3_zM3 _ _ _ _ _ _ _ | (simp only [zM3_zM3]; rfl)⟩
        · refine lv_aload_n hx hb dX4_settles_47 rfl (lv_at hl 0 rfl) ?_
          refine z_ldc2 (n := 10000) hx hb hown w_3 (by decide) dX4_settles_48 ?_
          refine z_kL (z_runV (As := [zl (10000)]) (rest := []) (k := 8) (fs := [zi (cd), zi (n), .ref (ad (9)), .ref (ad (10)), .ref (ad (11)), .ref (ad (12)), .ref (ad (13)), .ref (ad (14)), .ref (ad (15)), .ref (ad (16)), .ref (ad (17)), .ref (ad (18)), .ref (ad (19)), .ref (ad (20)), .ref (ad (21)), .ref (ad (22)), zi (bl), .ref (ad (23)), .ref (ad (24))]) ⟨hx, hb, hml, hown, hts⟩ hK hw (k_loads l hl0 G I ad _ _ n hn6 σ hgs (cd) (bl) (Fmn) (Fsp) (Fms) (Fco) (Fst) (Fmo) (Fsk) (Fts) (Ftm) (Fjn) (P_2) (G_3) (A_4) hRel hM ⟨(zM3_n (by omega) (zM3_n (by omega) h8)), (zM3_n (by omega) (zM3_n (by omega) h9)), (zM3_n (by omega) (zM3_n (by omega) h10)), (zM3_n (by omega) (zM3_n (by omega) h11)), (zM3_n (by omega) (zM3_n (by omega) h12)), (zM3_n (by omega) (zM3_n (by omega) h13)), (zM3_n (by omega) (zM3_n (by omega) h14)), (zM3_n (by omega) (zM3_n (by omega) h15)), (zM3_n (by omega) (zM3_n (by omega) h16)), (zM3_n (by omega) (zM3_n (by omega) h17)), (zM3_n (by omega) (zM3_n (by omega) h18))⟩ ⟨rfl, rfl, rfl⟩ (10000) (by omega) (by omega)) (cwV 1 hts gX4_settles_X4_loads rfl rfl rfl (by decide +kernel) ⟨Nat.le_of_ble_eq_true rfl, Nat.le_of_ble_eq_true rfl⟩) (hM 8 (by decide) (by decide)) (zM3_n (by omega) (zM3_n (by omega) h8)) rfl rfl rfl hl.1 rfl (Nat.le_of_ble_eq_true rfl) dX4_settles_51 ⟨Nat.le_of_ble_eq_true rfl, Nat.le_of_ble_eq_true rfl⟩) hw (fun r_11 ct_12 H locs hP hw => ?_)
          obtain ⟨rfl, P_8, G_9, A_10, hct⟩ := hP
          rw [hct] at hw
          clear hct
          refine lv_lload_n hx hb dX4_settles_54 rfl (lv_at hl 1 rfl) ?_
          refine z_lcmp_gt (tgt := 62) hx hb dX4_settles_55 dX4_settles_56 (by decide) ⟨by omega, by omega⟩ ⟨by omega, by omega⟩ (fun c_13 => ?_) (fun c_13 => ?_)
          · have hL1 : ¬ zgl σ 10000 n ≤ ld := by omega
            refine z_ic hx hb dX4_settles_62 ?_
            refine lv_istore_n (lv' := [(3, zi (0)), (0, .ref (ad (8))), (1, zl (ld))]) hx hb dX4_settles_63 rfl hl (by decide) rfl (fun ls hl => ?_)
            refine z_si hx hb dX4_settles_64 (by decide) ?_
            refine lv_istore (lv' := [(4, zi (8192)), (3, zi (0)), (0, .ref (ad (8))), (1, zl (ld))]) hx hb dX4_settles_67 hl (by decide) rfl (fun ls hl => ?_)
            have L69 : ∀ (nn : Nat) (j9 : Nat) (s9 : Int) (st9 : Int) (P1 : Int → Int) (Gr1 : Int → Int) (Ab1 : Int → Int), (j9) < nn → (j9 ≤ 14) → (st9 = zpw j9) → (zgo (fun s => zgl σ s n) ld j9 s9 = zgo (fun s => zgl σ s n) ld 14 0) → (0 ≤ s9) → (s9 < 10000) → ∀ (H : Heap) (locs : List Loc), zW G A s.heap H locs I ad (zM3 ct (zL G 12 P1) (zL G 12 Gr1) (zL G 12 Ab1)) → ∀ ls, lv_has ls 6 [(0, .ref (ad (8))), (1, zl (ld)), (3, zi (s9)), (4, zi (st9))] → W p l e ({ frames := 6, cells := 0, slots := 0, locals := 160 } : Room) s m args below meth c H locs 0 0 (vx_MQ below (zQ G A ad (zk I (zqi fun z u => z = zgs σ n ld ∧ ∃ P Gr Ab : Int → Int, u = zM3 ct (zL G 12 P) (zL G 12 Gr) (zL G 12 Ab)))) (zX G A I ad ct zno) args s 0 0 A) (F0 m 69 ls []) := by
              intro nn
              induction nn with
              | zero => intro j9 s9 st9 P1 Gr1 Ab1 hme; exact absurd hme (Nat.not_lt_zero _)
              | succ nn ih69 =>
                intro j9 s9 st9 P1 Gr1 Ab1 hme69 hj9 hst9 hres hs0 hs1 H locs hw ls hl
                have b9 := zpw_bd j9 hj9
                refine lv_iload hx hb dX4_settles_69 (lv_at hl 3 rfl) ?_
                refine z_if_le (tgt := 128) hx hb dX4_settles_71 (by decide) ⟨by omega, by omega⟩ (fun c_14 => ?_) (fun c_14 => ?_)
                · refine lv_iload_n hx hb dX4_settles_128 rfl (lv_at hl 2 rfl) ?_
                  exact z_iret hx hb hlk hr hw dX4_settles_129 (Nat.le_of_ble_eq_true rfl) (Nat.le_of_ble_eq_true rfl) ⟨rfl, _, rfl, by unfold zgs; rw [if_neg (by omega), ← hres, zpw_z (j := j9) (by omega)]; rfl, _, _, _, by first | exact rfl | exact zM3_zM3 _ _ _ _ _ _ _ | (simp only [zM3_zM3]; rfl)⟩
                · obtain ⟨j, rfl⟩ := zpw_succ (j := j9) (by omega)
                  refine lv_iload_n hx hb dX4_settles_74 rfl (lv_at hl 2 rfl) ?_
                  refine lv_iload hx hb dX4_settles_75 (lv_at hl 3 rfl) ?_
                  refine z_iadd hx hb dX4_settles_77 ?_
                  refine z_si hx hb dX4_settles_78 (by decide) ?_
                  refine z_icmp_gt (tgt := 102) hx hb dX4_settles_81 (by decide) ⟨by omega, by omega⟩ ⟨by decide, by decide⟩ (fun c_15 => ?_) (fun c_15 => ?_)
                  · refine z_ic hx hb dX4_settles_102 ?_
                    refine lv_istore (lv' := [(5, zi (0)), (0, .ref (ad (8))), (1, zl (ld)), (3, zi (s9)), (4, zi (st9))]) hx hb dX4_settles_103 hl (by decide) rfl (fun ls hl => ?_)
                    refine lv_iload_n hx hb dX4_settles_105 rfl (lv_at hl 3 rfl) ?_
                    refine lv_iload hx hb dX4_settles_106 (lv_at hl 0 rfl) ?_
                    refine z_if_eq (tgt := 116) hx hb dX4_settles_108 (by decide) ⟨by decide, by decide⟩ (fun c_16 => ?_) (fun c_16 => ?_)
                    · refine z_ic hx hb dX4_settles_116 ?_
                      refine z_iadd hx hb dX4_settles_117 ?_
                      refine lv_istore_n (lv' := [(3, zi ((s9) + (0))), (5, zi (0)), (0, .ref (ad (8))), (1, zl (ld)), (4, zi (st9))]) hx hb dX4_settles_118 rfl hl (by decide) rfl (fun ls hl => ?_)
                      refine lv_iload hx hb dX4_settles_119 (lv_at hl 4 rfl) ?_
                      refine z_ic hx hb dX4_settles_121 ?_
                      refine z_idiv hx hb dX4_settles_122 ⟨by omega, by omega⟩ ⟨by decide, by decide⟩ (by decide) ?_
                      refine lv_istore (lv' := [(4, zi ((st9).tdiv (2))), (3, zi ((s9) + (0))), (5, zi (0)), (0, .ref (ad (8))), (1, zl (ld))]) hx hb dX4_settles_123 hl (by decide) rfl (fun ls hl => ?_)
                      refine lv_goto (tgt := 69) hx hb dX4_settles_125 (by decide) ?_
                      exact ih69 (j) ((s9) + (0)) ((st9).tdiv (2)) (P1) (Gr1) (Ab1) (by omega) (by omega) (by rw [hst9]; exact zpw_half j) (by rw [← hres, Int.add_zero]; show zgo _ _ j _ = zgo _ _ j (ite _ _ _); rw [if_neg (fun h => by have := h.1; omega)]) (by omega) (by omega) _ _ hw _ (lv_sub hl [3, 4, 1, 0] rfl)
                    · exact absurd c_16 (by decide)
                  · refine lv_aload_n hx hb dX4_settles_84 rfl (lv_at hl 0 rfl) ?_
                    refine lv_iload_n hx hb dX4_settles_85 rfl (lv_at hl 2 rfl) ?_
                    refine lv_iload hx hb dX4_settles_86 (lv_at hl 3 rfl) ?_
                    refine z_iadd hx hb dX4_settles_88 ?_
                    refine z_i2l hx hb dX4_settles_89 ⟨by omega, by omega⟩ ?_
                    refine z_kL (z_runV (As := [zl ((s9) + (st9))]) (rest := []) (k := 8) (fs := [zi (cd), zi (n), .ref (ad (9)), .ref (ad (10)), .ref (ad (11)), .ref (ad (12)), .ref (ad (13)), .ref (ad (14)), .ref (ad (15)), .ref (ad (16)), .ref (ad (17)), .ref (ad (18)), .ref (ad (19)), .ref (ad (20)), .ref (ad (21)), .ref (ad (22)), zi (bl), .ref (ad (23)), .ref (ad (24))]) ⟨hx, hb, hml, hown, hts⟩ hK hw (k_loads l hl0 G I ad _ _ n hn6 σ hgs (cd) (bl) (Fmn) (Fsp) (Fms) (Fco) (Fst) (Fmo) (Fsk) (Fts) (Ftm) (Fjn) (P1) (Gr1) (Ab1) hRel hM ⟨(zM3_n (by omega) h8), (zM3_n (by omega) h9), (zM3_n (by omega) h10), (zM3_n (by omega) h11), (zM3_n (by omega) h12), (zM3_n (by omega) h13), (zM3_n (by omega) h14), (zM3_n (by omega) h15), (zM3_n (by omega) h16), (zM3_n (by omega) h17), (zM3_n (by omega) h18)⟩ ⟨rfl, rfl, rfl⟩ ((s9) + (st9)) (by omega) (by omega)) (cwV 1 hts gX4_settles_X4_loads rfl rfl rfl (by decide +kernel) ⟨Nat.le_of_ble_eq_true rfl, Nat.le_of_ble_eq_true rfl⟩) (hM 8 (by decide) (by decide)) (zM3_n (by omega) h8) rfl rfl rfl hl.1 rfl (Nat.le_of_ble_eq_true rfl) dX4_settles_90 ⟨Nat.le_of_ble_eq_true rfl, Nat.le_of_ble_eq_true rfl⟩) hw (fun r_20 ct_21 H locs hP hw => ?_)
                    obtain ⟨rfl, P_17, G_18, A_19, hct⟩ := hP
                    rw [hct] at hw
                    clear hct
                    have b8 := bL (s9 + st9)
                    refine lv_lload_n hx hb dX4_settles_93 rfl (lv_at hl 1 rfl) ?_
                    refine z_lcmp_gt (tgt := 102) hx hb dX4_settles_94 dX4_settles_95 (by decide) ⟨by omega, by omega⟩ ⟨by omega, by omega⟩ (fun c_22 => ?_) (fun c_22 => ?_)
                    · refine z_ic hx hb dX4_settles_102 ?_
                      refine lv_istore (lv' := [(5, zi (0)), (0, .ref (ad (8))), (1, zl (ld)), (3, zi (s9)), (4, zi (st9))]) hx hb dX4_settles_103 hl (by decide) rfl (fun ls hl => ?_)
                      refine lv_iload_n hx hb dX4_settles_105 rfl (lv_at hl 3 rfl) ?_
                      refine lv_iload hx hb dX4_settles_106 (lv_at hl 0 rfl) ?_
                      refine z_if_eq (tgt := 116) hx hb dX4_settles_108 (by decide) ⟨by decide, by decide⟩ (fun c_23 => ?_) (fun c_23 => ?_)
                      · refine z_ic hx hb dX4_settles_116 ?_
                        refine z_iadd hx hb dX4_settles_117 ?_
                        refine lv_istore_n (lv' := [(3, zi ((s9) + (0))), (5, zi (0)), (0, .ref (ad (8))), (1, zl (ld)), (4, zi (st9))]) hx hb dX4_settles_118 rfl hl (by decide) rfl (fun ls hl => ?_)
                        refine lv_iload hx hb dX4_settles_119 (lv_at hl 4 rfl) ?_
                        refine z_ic hx hb dX4_settles_121 ?_
                        refine z_idiv hx hb dX4_settles_122 ⟨by omega, by omega⟩ ⟨by decide, by decide⟩ (by decide) ?_
                        refine lv_istore (lv' := [(4, zi ((st9).tdiv (2))), (3, zi ((s9) + (0))), (5, zi (0)), (0, .ref (ad (8))), (1, zl (ld))]) hx hb dX4_settles_123 hl (by decide) rfl (fun ls hl => ?_)
                        refine lv_goto (tgt := 69) hx hb dX4_settles_125 (by decide) ?_
                        exact ih69 (j) ((s9) + (0)) ((st9).tdiv (2)) (P_17) (G_18) (A_19) (by omega) (by omega) (by rw [hst9]; exact zpw_half j) (by rw [← hres, Int.add_zero]; show zgo _ _ j _ = zgo _ _ j (ite _ _ _); rw [if_neg (fun h => by have h9 : zgl σ (s9 + zpw (j + 1)) n ≤ ld := h.2; rw [← hst9] at h9; omega)]) (by omega) (by omega) _ _ (zWe hw (by simp only [zM3_p19, zM3_p20, zM3_p21, zM3_zM3])) _ (lv_sub hl [3, 4, 1, 0] rfl)
                      · exact absurd c_23 (by decide)
                    · refine z_ic hx hb dX4_settles_98 ?_
                      refine lv_goto (tgt := 103) hx hb dX4_settles_99 (by decide) ?_
                      refine lv_istore (lv' := [(5, zi (1)), (0, .ref (ad (8))), (1, zl (ld)), (3, zi (s9)), (4, zi (st9))]) hx hb dX4_settles_103 hl (by decide) rfl (fun ls hl => ?_)
                      refine lv_iload_n hx hb dX4_settles_105 rfl (lv_at hl 3 rfl) ?_
                      refine lv_iload hx hb dX4_settles_106 (lv_at hl 0 rfl) ?_
                      refine z_if_eq (tgt := 116) hx hb dX4_settles_108 (by decide) ⟨by decide, by decide⟩ (fun c_24 => ?_) (fun c_24 => ?_)
                      · exact absurd c_24 (by decide)
                      · refine lv_iload hx hb dX4_settles_111 (lv_at hl 4 rfl) ?_
                        refine lv_goto (tgt := 117) hx hb dX4_settles_113 (by decide) ?_
                        refine z_iadd hx hb dX4_settles_117 ?_
                        refine lv_istore_n (lv' := [(3, zi ((s9) + (st9))), (5, zi (1)), (0, .ref (ad (8))), (1, zl (ld)), (4, zi (st9))]) hx hb dX4_settles_118 rfl hl (by decide) rfl (fun ls hl => ?_)
                        refine lv_iload hx hb dX4_settles_119 (lv_at hl 4 rfl) ?_
                        refine z_ic hx hb dX4_settles_121 ?_
                        refine z_idiv hx hb dX4_settles_122 ⟨by omega, by omega⟩ ⟨by decide, by decide⟩ (by decide) ?_
                        refine lv_istore (lv' := [(4, zi ((st9).tdiv (2))), (3, zi ((s9) + (st9))), (5, zi (1)), (0, .ref (ad (8))), (1, zl (ld))]) hx hb dX4_settles_123 hl (by decide) rfl (fun ls hl => ?_)
                        refine lv_goto (tgt := 69) hx hb dX4_settles_125 (by decide) ?_
                        exact ih69 (j) ((s9) + (st9)) ((st9).tdiv (2)) (P_17) (G_18) (A_19) (by omega) (by omega) (by rw [hst9]; exact zpw_half j) (by rw [← hres]; show zgo _ _ j _ = zgo _ _ j (ite _ _ _); rw [if_pos (And.intro (zse_lt hL1 (by omega) (show zgl σ (s9 + zpw (j + 1)) n ≤ ld by rw [← hst9]; omega)) (show zgl σ (s9 + zpw (j + 1)) n ≤ ld by rw [← hst9]; omega)), hst9]) (by omega) (zse_lt2 hL1 (by omega) (by omega)) _ _ (zWe hw (by simp only [zM3_p19, zM3_p20, zM3_p21, zM3_zM3])) _ (lv_sub hl [3, 4, 1, 0] rfl)
            exact L69 _ (14) (0) (8192) (P_8) (G_9) (A_10) (Nat.lt_succ_self _) (by omega) (by decide) rfl (by omega) (by omega) _ _ (zWe hw (by simp only [zM3_p19, zM3_p20, zM3_p21, zM3_zM3])) _ (lv_sub hl [2, 3, 1, 0] rfl)
          · refine z_ldc (n := -1000000) hx hb hown w_2 (by decide) dX4_settles_59 ?_
            exact z_iret hx hb hlk hr hw dX4_settles_61 (Nat.le_of_ble_eq_true rfl) (Nat.le_of_ble_eq_true rfl) ⟨rfl, _, rfl, by unfold zgs; rw [if_pos (by omega)], _, _, _, by first | exact rfl | exact zM3_zM3 _ _ _ _ _ _ _ | (simp only [zM3_zM3]; rfl)⟩
      · refine lv_aload_n hx hb dX4_settles_10 rfl (lv_at hl 0 rfl) ?_
        refine z_get (C := RX4) (T := TX4) (N := 19) (fs := [zi (cd), zi (n), .ref (ad (9)), .ref (ad (10)), .ref (ad (11)), .ref (ad (12)), .ref (ad (13)), .ref (ad (14)), .ref (ad (15)), .ref (ad (16)), .ref (ad (17)), .ref (ad (18)), .ref (ad (19)), .ref (ad (20)), .ref (ad (21)), .ref (ad (22)), zi (bl), .ref (ad (23)), .ref (ad (24))]) hx hb hts w_1 hown hK hw (hM 8 (by decide) (by decide)) (zM3_n (by omega) h8) rfl 11 (by decide) w_4 rfl rfl dX4_settles_11 ?_
        refine lv_iload_n hx hb dX4_settles_14 rfl (lv_at hl 2 rfl) ?_
        refine z_zald (f := Fjn) hx hb hK hw (hM 18 (by decide) (by decide)) (zM3_n (by omega) h18) (by omega) (by omega) (by decide) dX4_settles_15 ?_
        have hr0 := hRel K (by omega)
        rw [← hi] at hr0
        rw [show (Fjn (i) : Int) = pjo (σ K) from hr0.2.2.2.2.2.2.1]
        have hg := hgs K (by omega)
        have g13 := hg.2.2.2.2.2.2.1
        refine z_if_eq (tgt := 31) hx hb dX4_settles_16 (by decide) ⟨by omega, by omega⟩ (fun c_25 => ?_) (fun c_25 => ?_)
        · refine z_iinc (lv' := [(3, zi (i + 1)), (0, .ref (ad (8))), (1, zl (ld))]) hx hb dX4_settles_31 hl (k := 2) rfl (by decide) rfl (fun ls hl => ?_)
          refine lv_goto (tgt := 2) hx hb dX4_settles_34 (by decide) ?_
          exact ih2 (K + 1) (i + 1) (P) (Gr) (Ab) (by omega) (by omega) (by omega) _ _ hw _ (lv_sub hl [1, 2, 0] rfl)
        · refine lv_aload_n hx hb dX4_settles_19 rfl (lv_at hl 0 rfl) ?_
          refine lv_iload_n hx hb dX4_settles_20 rfl (lv_at hl 2 rfl) ?_
          refine z_lc0 hx hb dX4_settles_21 ?_
          refine z_kI (z_runV (As := [zi (i), zl (0)]) (rest := []) (k := 8) (fs := [zi (cd), zi (n), .ref (ad (9)), .ref (ad (10)), .ref (ad (11)), .ref (ad (12)), .ref (ad (13)), .ref (ad (14)), .ref (ad (15)), .ref (ad (16)), .ref (ad (17)), .ref (ad (18)), .ref (ad (19)), .ref (ad (20)), .ref (ad (21)), .ref (ad (22)), zi (bl), .ref (ad (23)), .ref (ad (24))]) ⟨hx, hb, hml, hown, hts⟩ hK hw (k_hasState l hl0 G I ad _ _ n hn6 σ hgs (cd) (bl) (Fmn) (Fsp) (Fms) (Fco) (Fst) (Fmo) (Fsk) (Fts) (Ftm) (Fjn) (P) (Gr) (Ab) hRel hM ⟨(zM3_n (by omega) h8), (zM3_n (by omega) h9), (zM3_n (by omega) h10), (zM3_n (by omega) h11), (zM3_n (by omega) h12), (zM3_n (by omega) h13), (zM3_n (by omega) h14), (zM3_n (by omega) h15), (zM3_n (by omega) h16), (zM3_n (by omega) h17), (zM3_n (by omega) h18)⟩ ⟨rfl, rfl, rfl⟩ (K) (i) (by omega) (by omega) (0) ⟨by decide, by decide⟩) (cwV 2 hts gX4_settles_X4_hasState rfl rfl rfl (by decide +kernel) ⟨Nat.le_of_ble_eq_true rfl, Nat.le_of_ble_eq_true rfl⟩) (hM 8 (by decide) (by decide)) (zM3_n (by omega) h8) rfl rfl rfl hl.1 rfl (Nat.le_of_ble_eq_true rfl) dX4_settles_22 ⟨Nat.le_of_ble_eq_true rfl, Nat.le_of_ble_eq_true rfl⟩) hw (fun r_29 ct_30 H locs hP hw => ?_)
          obtain ⟨rfl, P_26, G_27, A_28, hct⟩ := hP
          rw [hct] at hw
          clear hct
          refine z_ifb_ne (tgt := 31) hx hb dX4_settles_25 (by decide) (fun c_31 => ?_) (fun c_31 => ?_)
          · refine z_iinc (lv' := [(3, zi (i + 1)), (0, .ref (ad (8))), (1, zl (ld))]) hx hb dX4_settles_31 hl (k := 2) rfl (by decide) rfl (fun ls hl => ?_)
            refine lv_goto (tgt := 2) hx hb dX4_settles_34 (by decide) ?_
            exact ih2 (K + 1) (i + 1) (P_26) (G_27) (A_28) (by omega) (by omega) (by omega) _ _ (zWe hw (by simp only [zM3_p19, zM3_p20, zM3_p21, zM3_zM3])) _ (lv_sub hl [1, 2, 0] rfl)
          · exact absurd (zat_ok hg (by omega)) c_31
  exact L2 _ (0) (0) (Fpl) (Fgr) (Fab) (Nat.lt_succ_self _) rfl (by omega) _ _ (zWe hw (zM3_id h19 h20 h21).symm) _ (lv_sub hl [1, 2, 0] rfl)

set_option maxHeartbeats 4000000 in
set_option maxRecDepth 100000 in
theorem m_group (l : Launch) (hl0 : l.stackTraces = false) (G : zG) (I : List Nat) (ad : Nat → Nat) (ct : Nat → va_E) (sz : Nat) (n : Nat) (hn6 : n ≤ 6) (σ : Nat → zPl) (hgs : ∀ p : Nat, p < n → zGood (σ p)) (cd bl : Int) (Fmn Fsp Fms Fco Fst Fmo Fsk Fts Ftm Fjn Fpl Fgr Fab : Int → Int) (hRel : zMrel n σ Fmn Fsp Fms Fco Fst Fmo Fsk Fts Ftm Fjn) (hM : ∀ j : Nat, 8 ≤ j → j ≤ 24 → j ∈ I) (hms : zMst G ad ct n cd bl Fmn Fsp Fms Fco Fst Fmo Fsk Fts Ftm Fjn) (hmc : zMsc G ct Fpl Fgr Fab) (a1 : Int) (hz1 : zr a1) : zN l yX4_group wsX4_group 7 185 0 0 G [.ref (ad (8)), zi (a1)] I ad ct zno sz (zk I (zqi fun z u => ∃ (cd9 : Int) (P Gr Ab : Int → Int), ((cd9 = 0 ∧ ((0 ≤ a1 ∧ a1 ≤ 10000000) ∧ ¬ zemp σ n) ∧ z = zgs σ n a1) ∨ (cd9 = 1 ∧ ¬ (0 ≤ a1 ∧ a1 ≤ 10000000)) ∨ (cd9 = 2 ∧ (0 ≤ a1 ∧ a1 ≤ 10000000) ∧ zemp σ n)) ∧ u = zM3 (zU ct 8 (zmo ad n (cd9) bl)) (zL G 12 P) (zL G 12 Gr) (zL G 12 Ab))) := by
  obtain ⟨h8, h9, h10, h11, h12, h13, h14, h15, h16, h17, h18⟩ := hms
  obtain ⟨h19, h20, h21⟩ := hmc
  refine z_ofW (ret := (some .int)) hl0 (by decide +kernel) rfl (Nat.le_of_ble_eq_true rfl) ?_
  intro p e s m args below meth c A ls hA0 hsz hF hr hout hnm hw hl
  obtain ⟨hx, hb, hml, hown, hts, hK, hlk, hst⟩ := hF
  have hown : s.vm.findClass RX4 = some m.cls := hown
  have hl : lv_has ls 2 [(0, .ref (ad (8))), (1, zi (a1))] := hl
  have w_0 := hts (.constantLong RX4 121 (10000000)) (by decide +kernel)
  have w_1 := hts (.fieldLink RX4 65 "PileMovesModel" "code" "I") (by decide +kernel)
  have w_2 : ∀ w ∈ wsX40, w ∈ wsX4_group := by decide +kernel
  refine lv_aload_n hx hb dX4_group_0 rfl (lv_at hl 0 rfl) ?_
  refine lv_iload_n hx hb dX4_group_1 rfl (lv_at hl 1 rfl) ?_
  refine z_i2l hx hb dX4_group_2 ⟨by omega, by omega⟩ ?_
  refine z_lc0 hx hb dX4_group_3 ?_
  refine z_ldc2 (n := 10000000) hx hb hown w_0 (by decide) dX4_group_4 ?_
  refine z_kI (z_runS (As := [zl (a1), zl (0), zl (10000000)]) (rest := [.ref (ad (8))]) ⟨hx, hb, hml, hown, hts⟩ hK hw (k_in l hl0 G I ad _ _ (a1) (0) (10000000) ⟨by omega, by omega⟩ ⟨by decide, by decide⟩ ⟨by decide, by decide⟩) (va_cwS 3 hts gX4_group_X4_in rfl rfl rfl (by decide +kernel) ⟨Nat.le_of_ble_eq_true rfl, Nat.le_of_ble_eq_true rfl⟩) rfl hl.1 rfl (Nat.le_of_ble_eq_true rfl) dX4_group_7 ⟨Nat.le_of_ble_eq_true rfl, Nat.le_of_ble_eq_true rfl⟩) hw (fun r_1 ct_2 H locs hP hw => ?_)
  obtain ⟨rfl, hct⟩ := hP
  rw [hct] at hw
  clear hct
  refine z_ifb_ne (tgt := 17) hx hb dX4_group_10 (by decide) (fun c_3 => ?_) (fun c_3 => ?_)
  · refine lv_aload_n hx hb dX4_group_17 rfl (lv_at hl 0 rfl) ?_
    refine z_kI (z_runV (As := []) (rest := [.ref (ad (8))]) (k := 8) (fs := [zi (cd), zi (n), .ref (ad (9)), .ref (ad (10)), .ref (ad (11)), .ref (ad (12)), .ref (ad (13)), .ref (ad (14)), .ref (ad (15)), .ref (ad (16)), .ref (ad (17)), .ref (ad (18)), .ref (ad (19)), .ref (ad (20)), .ref (ad (21)), .ref (ad (22)), zi (bl), .ref (ad (23)), .ref (ad (24))]) ⟨hx, hb, hml, hown, hts⟩ hK hw (k_isEmpty l hl0 G I ad _ _ n hn6 σ hgs (cd) (bl) (Fmn) (Fsp) (Fms) (Fco) (Fst) (Fmo) (Fsk) (Fts) (Ftm) (Fjn) (Fpl) (Fgr) (Fab) hRel hM ⟨h8, h9, h10, h11, h12, h13, h14, h15, h16, h17, h18⟩ ⟨h19, h20, h21⟩) (cwV 0 hts gX4_group_X4_isEmpty rfl rfl rfl (by decide +kernel) ⟨Nat.le_of_ble_eq_true rfl, Nat.le_of_ble_eq_true rfl⟩) (hM 8 (by decide) (by decide)) h8 rfl rfl rfl hl.1 rfl (Nat.le_of_ble_eq_true rfl) dX4_group_18 ⟨Nat.le_of_ble_eq_true rfl, Nat.le_of_ble_eq_true rfl⟩) hw (fun r_4 ct_5 H locs hP hw => ?_)
    obtain ⟨hE, hct⟩ := hP
    rw [hct] at hw
    clear hct
    refine z_if_eq (tgt := 28) hx hb dX4_group_21 (by decide) ⟨by omega, by omega⟩ (fun c_6 => ?_) (fun c_6 => ?_)
    · refine z_ic hx hb dX4_group_28 ?_
      refine z_put (C := RX4) (T := TX4) (N := 19) (fs := [zi (cd), zi (n), .ref (ad (9)), .ref (ad (10)), .ref (ad (11)), .ref (ad (12)), .ref (ad (13)), .ref (ad (14)), .ref (ad (15)), .ref (ad (16)), .ref (ad (17)), .ref (ad (18)), .ref (ad (19)), .ref (ad (20)), .ref (ad (21)), .ref (ad (22)), zi (bl), .ref (ad (23)), .ref (ad (24))]) (fs' := [zi (0), zi (n), .ref (ad (9)), .ref (ad (10)), .ref (ad (11)), .ref (ad (12)), .ref (ad (13)), .ref (ad (14)), .ref (ad (15)), .ref (ad (16)), .ref (ad (17)), .ref (ad (18)), .ref (ad (19)), .ref (ad (20)), .ref (ad (21)), .ref (ad (22)), zi (bl), .ref (ad (23)), .ref (ad (24))]) hx hb hts w_2 tyX4_ok nmX4 hown hK hw (hM 8 (by decide) (by decide)) h8 rfl 0 (by decide) w_1 rfl rfl rfl rfl (Nat.le_of_ble_eq_true rfl) rfl dX4_group_29 (fun H locs hw => ?_)
      refine lv_aload_n hx hb dX4_group_32 rfl (lv_at hl 0 rfl) ?_
      refine z_get (C := RX4) (T := TX4) (N := 19) (fs := [zi (0), zi (n), .ref (ad (9)), .ref (ad (10)), .ref (ad (11)), .ref (ad (12)), .ref (ad (13)), .ref (ad (14)), .ref (ad (15)), .ref (ad (16)), .ref (ad (17)), .ref (ad (18)), .ref (ad (19)), .ref (ad (20)), .ref (ad (21)), .ref (ad (22)), zi (bl), .ref (ad (23)), .ref (ad (24))]) hx hb hts w_2 hown hK hw (hM 8 (by decide) (by decide)) (zU_s _ _ _) rfl 0 (by decide) w_1 rfl rfl dX4_group_33 ?_
      refine z_if_le (tgt := 43) hx hb dX4_group_36 (by decide) ⟨by decide, by decide⟩ (fun c_7 => ?_) (fun c_7 => ?_)
      · refine lv_aload_n hx hb dX4_group_43 rfl (lv_at hl 0 rfl) ?_
        refine lv_iload_n hx hb dX4_group_44 rfl (lv_at hl 1 rfl) ?_
        refine z_i2l hx hb dX4_group_45 ⟨by omega, by omega⟩ ?_
        refine z_kI (z_runV (As := [zl (a1)]) (rest := []) (k := 8) (fs := [zi (0), zi (n), .ref (ad (9)), .ref (ad (10)), .ref (ad (11)), .ref (ad (12)), .ref (ad (13)), .ref (ad (14)), .ref (ad (15)), .ref (ad (16)), .ref (ad (17)), .ref (ad (18)), .ref (ad (19)), .ref (ad (20)), .ref (ad (21)), .ref (ad (22)), zi (bl), .ref (ad (23)), .ref (ad (24))]) ⟨hx, hb, hml, hown, hts⟩ hK hw (k_settles l hl0 G I ad _ _ n hn6 σ hgs (0) (bl) (Fmn) (Fsp) (Fms) (Fco) (Fst) (Fmo) (Fsk) (Fts) (Ftm) (Fjn) (Fpl) (Fgr) (Fab) hRel hM ⟨(zU_s _ _ _), (zU_n (by decide) h9), (zU_n (by decide) h10), (zU_n (by decide) h11), (zU_n (by decide) h12), (zU_n (by decide) h13), (zU_n (by decide) h14), (zU_n (by decide) h15), (zU_n (by decide) h16), (zU_n (by decide) h17), (zU_n (by decide) h18)⟩ ⟨(zU_n (by decide) h19), (zU_n (by decide) h20), (zU_n (by decide) h21)⟩ (a1) (by first | assumption | exact ⟨by omega, by omega⟩)) (cwV 1 hts gX4_group_X4_settles rfl rfl rfl (by decide +kernel) ⟨Nat.le_of_ble_eq_true rfl, Nat.le_of_ble_eq_true rfl⟩) (hM 8 (by decide) (by decide)) (zU_s _ _ _) rfl rfl rfl hl.1 rfl (Nat.le_of_ble_eq_true rfl) dX4_group_46 ⟨Nat.le_of_ble_eq_true rfl, Nat.le_of_ble_eq_true rfl⟩) hw (fun r_11 ct_12 H locs hP hw => ?_)
        obtain ⟨rfl, P_8, G_9, A_10, hct⟩ := hP
        rw [hct] at hw
        clear hct
        have bS := zgs_bd σ n (a1)
        exact z_iret hx hb hlk hr hw dX4_group_49 (Nat.le_of_ble_eq_true rfl) (Nat.le_of_ble_eq_true rfl) ⟨rfl, _, rfl, ⟨0, _, _, _, Or.inl ⟨rfl, ⟨⟨by omega, by omega⟩, fun h9 => hE.elim (fun h8 => absurd h8.1 (by omega)) (fun h8 => h8.2 h9)⟩, rfl⟩, by first | exact rfl | exact zM3_zM3 _ _ _ _ _ _ _⟩⟩
      · exact absurd c_7 (by decide)
    · refine z_ic hx hb dX4_group_24 ?_
      refine lv_goto (tgt := 29) hx hb dX4_group_25 (by decide) ?_
      refine z_put (C := RX4) (T := TX4) (N := 19) (fs := [zi (cd), zi (n), .ref (ad (9)), .ref (ad (10)), .ref (ad (11)), .ref (ad (12)), .ref (ad (13)), .ref (ad (14)), .ref (ad (15)), .ref (ad (16)), .ref (ad (17)), .ref (ad (18)), .ref (ad (19)), .ref (ad (20)), .ref (ad (21)), .ref (ad (22)), zi (bl), .ref (ad (23)), .ref (ad (24))]) (fs' := [zi (2), zi (n), .ref (ad (9)), .ref (ad (10)), .ref (ad (11)), .ref (ad (12)), .ref (ad (13)), .ref (ad (14)), .ref (ad (15)), .ref (ad (16)), .ref (ad (17)), .ref (ad (18)), .ref (ad (19)), .ref (ad (20)), .ref (ad (21)), .ref (ad (22)), zi (bl), .ref (ad (23)), .ref (ad (24))]) hx hb hts w_2 tyX4_ok nmX4 hown hK hw (hM 8 (by decide) (by decide)) h8 rfl 0 (by decide) w_1 rfl rfl rfl rfl (Nat.le_of_ble_eq_true rfl) rfl dX4_group_29 (fun H locs hw => ?_)
      refine lv_aload_n hx hb dX4_group_32 rfl (lv_at hl 0 rfl) ?_
      refine z_get (C := RX4) (T := TX4) (N := 19) (fs := [zi (2), zi (n), .ref (ad (9)), .ref (ad (10)), .ref (ad (11)), .ref (ad (12)), .ref (ad (13)), .ref (ad (14)), .ref (ad (15)), .ref (ad (16)), .ref (ad (17)), .ref (ad (18)), .ref (ad (19)), .ref (ad (20)), .ref (ad (21)), .ref (ad (22)), zi (bl), .ref (ad (23)), .ref (ad (24))]) hx hb hts w_2 hown hK hw (hM 8 (by decide) (by decide)) (zU_s _ _ _) rfl 0 (by decide) w_1 rfl rfl dX4_group_33 ?_
      refine z_if_le (tgt := 43) hx hb dX4_group_36 (by decide) ⟨by decide, by decide⟩ (fun c_13 => ?_) (fun c_13 => ?_)
      · exact absurd c_13 (by decide)
      · refine z_ic hx hb dX4_group_39 ?_
        refine lv_goto (tgt := 49) hx hb dX4_group_40 (by decide) ?_
        exact z_iret hx hb hlk hr hw dX4_group_49 (Nat.le_of_ble_eq_true rfl) (Nat.le_of_ble_eq_true rfl) ⟨rfl, _, rfl, ⟨2, _, _, _, Or.inr (Or.inr ⟨rfl, ⟨by omega, by omega⟩, hE.elim (fun h8 => h8.2) (fun h8 => absurd h8.1 (by omega))⟩), (zM3_id (zU_n (by decide) h19) (zU_n (by decide) h20) (zU_n (by decide) h21)).symm⟩⟩
  · refine z_ic hx hb dX4_group_13 ?_
    refine lv_goto (tgt := 29) hx hb dX4_group_14 (by decide) ?_
    refine z_put (C := RX4) (T := TX4) (N := 19) (fs := [zi (cd), zi (n), .ref (ad (9)), .ref (ad (10)), .ref (ad (11)), .ref (ad (12)), .ref (ad (13)), .ref (ad (14)), .ref (ad (15)), .ref (ad (16)), .ref (ad (17)), .ref (ad (18)), .ref (ad (19)), .ref (ad (20)), .ref (ad (21)), .ref (ad (22)), zi (bl), .ref (ad (23)), .ref (ad (24))]) (fs' := [zi (1), zi (n), .ref (ad (9)), .ref (ad (10)), .ref (ad (11)), .ref (ad (12)), .ref (ad (13)), .ref (ad (14)), .ref (ad (15)), .ref (ad (16)), .ref (ad (17)), .ref (ad (18)), .ref (ad (19)), .ref (ad (20)), .ref (ad (21)), .ref (ad (22)), zi (bl), .ref (ad (23)), .ref (ad (24))]) hx hb hts w_2 tyX4_ok nmX4 hown hK hw (hM 8 (by decide) (by decide)) h8 rfl 0 (by decide) w_1 rfl rfl rfl rfl (Nat.le_of_ble_eq_true rfl) rfl dX4_group_29 (fun H locs hw => ?_)
    refine lv_aload_n hx hb dX4_group_32 rfl (lv_at hl 0 rfl) ?_
    refine z_get (C := RX4) (T := TX4) (N := 19) (fs := [zi (1), zi (n), .ref (ad (9)), .ref (ad (10)), .ref (ad (11)), .ref (ad (12)), .ref (ad (13)), .ref (ad (14)), .ref (ad (15)), .ref (ad (16)), .ref (ad (17)), .ref (ad (18)), .ref (ad (19)), .ref (ad (20)), .ref (ad (21)), .ref (ad (22)), zi (bl), .ref (ad (23)), .ref (ad (24))]) hx hb hts w_2 hown hK hw (hM 8 (by decide) (by decide)) (zU_s _ _ _) rfl 0 (by decide) w_1 rfl rfl dX4_group_33 ?_
    refine z_if_le (tgt := 43) hx hb dX4_group_36 (by decide) ⟨by decide, by decide⟩ (fun c_14 => ?_) (fun c_14 => ?_)
    · exact absurd c_14 (by decide)
    · refine z_ic hx hb dX4_group_39 ?_
      refine lv_goto (tgt := 49) hx hb dX4_group_40 (by decide) ?_
      exact z_iret hx hb hlk hr hw dX4_group_49 (Nat.le_of_ble_eq_true rfl) (Nat.le_of_ble_eq_true rfl) ⟨rfl, _, rfl, ⟨1, _, _, _, Or.inr (Or.inl ⟨rfl, by omega⟩), (zM3_id (zU_n (by decide) h19) (zU_n (by decide) h20) (zU_n (by decide) h21)).symm⟩⟩

set_option maxHeartbeats 4000000 in
set_option maxRecDepth 100000 in
theorem m_share (l : Launch) (hl0 : l.stackTraces = false) (G : zG) (I : List Nat) (ad : Nat → Nat) (ct : Nat → va_E) (sz : Nat) (n : Nat) (hn6 : n ≤ 6) (σ : Nat → zPl) (hgs : ∀ p : Nat, p < n → zGood (σ p)) (cd bl : Int) (Fmn Fsp Fms Fco Fst Fmo Fsk Fts Ftm Fjn Fpl Fgr Fab : Int → Int) (hRel : zMrel n σ Fmn Fsp Fms Fco Fst Fmo Fsk Fts Ftm Fjn) (hM : ∀ j : Nat, 8 ≤ j → j ≤ 24 → j ∈ I) (hms : zMst G ad ct n cd bl Fmn Fsp Fms Fco Fst Fmo Fsk Fts Ftm Fjn) (hmc : zMsc G ct Fpl Fgr Fab) (a1 a2 : Int) (hz1 : zr a1) (hz2 : zr a2) : zN l yX4_share wsX4_share 7 185 0 0 G [.ref (ad (8)), zi (a1), zi (a2)] I ad ct zno sz (zk I (zqi fun z u => ∃ (cd9 : Int) (P Gr Ab : Int → Int), ((cd9 = 0 ∧ (((0 ≤ a1 ∧ a1 ≤ 10000000) ∧ (0 ≤ a2 ∧ a2 < n)) ∧ ¬ zemp σ n) ∧ pjo (σ (a2).toNat) ≠ 0 ∧ z = zsh σ n a1 (a2).toNat) ∨ (cd9 = 1 ∧ ¬ ((0 ≤ a1 ∧ a1 ≤ 10000000) ∧ (0 ≤ a2 ∧ a2 < n))) ∨ (cd9 = 1 ∧ (((0 ≤ a1 ∧ a1 ≤ 10000000) ∧ (0 ≤ a2 ∧ a2 < n)) ∧ ¬ zemp σ n) ∧ pjo (σ (a2).toNat) = 0) ∨ (cd9 = 2 ∧ ((0 ≤ a1 ∧ a1 ≤ 10000000) ∧ (0 ≤ a2 ∧ a2 < n)) ∧ zemp σ n)) ∧ u = zM3 (zU ct 8 (zmo ad n (cd9) bl)) (zL G 12 P) (zL G 12 Gr) (zL G 12 Ab))) := by
  obtain ⟨h8, h9, h10, h11, h12, h13, h14, h15, h16, h17, h18⟩ := hms
  obtain ⟨h19, h20, h21⟩ := hmc
  refine z_ofW (ret := (some .int)) hl0 (by decide +kernel) rfl (Nat.le_of_ble_eq_true rfl) ?_
  intro p e s m args below meth c A ls hA0 hsz hF hr hout hnm hw hl
  obtain ⟨hx, hb, hml, hown, hts, hK, hlk, hst⟩ := hF
  have hown : s.vm.findClass RX4 = some m.cls := hown
  have hl : lv_has ls 4 [(0, .ref (ad (8))), (1, zi (a1)), (2, zi (a2))] := hl
  have w_0 := hts (.constantLong RX4 121 (10000000)) (by decide +kernel)
  have w_1 := hts (.fieldLink RX4 65 "PileMovesModel" "code" "I") (by decide +kernel)
  have w_2 : ∀ w ∈ wsX40, w ∈ wsX4_share := by decide +kernel
  have w_3 := hts (.fieldLink RX4 38 "PileMovesModel" "isIn" "[Z") (by decide +kernel)
  have w_4 := hts (.constant RX4 54 (-1000000)) (by decide +kernel)
  refine lv_aload_n hx hb dX4_share_0 rfl (lv_at hl 0 rfl) ?_
  refine lv_iload_n hx hb dX4_share_1 rfl (lv_at hl 1 rfl) ?_
  refine z_i2l hx hb dX4_share_2 ⟨by omega, by omega⟩ ?_
  refine z_lc0 hx hb dX4_share_3 ?_
  refine z_ldc2 (n := 10000000) hx hb hown w_0 (by decide) dX4_share_4 ?_
  refine z_kI (z_runS (As := [zl (a1), zl (0), zl (10000000)]) (rest := [.ref (ad (8))]) ⟨hx, hb, hml, hown, hts⟩ hK hw (k_in l hl0 G I ad _ _ (a1) (0) (10000000) ⟨by omega, by omega⟩ ⟨by decide, by decide⟩ ⟨by decide, by decide⟩) (va_cwS 3 hts gX4_share_X4_in rfl rfl rfl (by decide +kernel) ⟨Nat.le_of_ble_eq_true rfl, Nat.le_of_ble_eq_true rfl⟩) rfl hl.1 rfl (Nat.le_of_ble_eq_true rfl) dX4_share_7 ⟨Nat.le_of_ble_eq_true rfl, Nat.le_of_ble_eq_true rfl⟩) hw (fun r_1 ct_2 H locs hP hw => ?_)
  obtain ⟨rfl, hct⟩ := hP
  rw [hct] at hw
  clear hct
  refine z_ifb_eq (tgt := 21) hx hb dX4_share_10 (by decide) (fun c_3 => ?_) (fun c_3 => ?_)
  · refine z_ic hx hb dX4_share_21 ?_
    refine lv_goto (tgt := 50) hx hb dX4_share_22 (by decide) ?_
    refine z_put (C := RX4) (T := TX4) (N := 19) (fs := [zi (cd), zi (n), .ref (ad (9)), .ref (ad (10)), .ref (ad (11)), .ref (ad (12)), .ref (ad (13)), .ref (ad (14)), .ref (ad (15)), .ref (ad (16)), .ref (ad (17)), .ref (ad (18)), .ref (ad (19)), .ref (ad (20)), .ref (ad (21)), .ref (ad (22)), zi (bl), .ref (ad (23)), .ref (ad (24))]) (fs' := [zi (1), zi (n), .ref (ad (9)), .ref (ad (10)), .ref (ad (11)), .ref (ad (12)), .ref (ad (13)), .ref (ad (14)), .ref (ad (15)), .ref (ad (16)), .ref (ad (17)), .ref (ad (18)), .ref (ad (19)), .ref (ad (20)), .ref (ad (21)), .ref (ad (22)), zi (bl), .ref (ad (23)), .ref (ad (24))]) hx hb hts w_2 tyX4_ok nmX4 hown hK hw (hM 8 (by decide) (by decide)) h8 rfl 0 (by decide) w_1 rfl rfl rfl rfl (Nat.le_of_ble_eq_true rfl) rfl dX4_share_50 (fun H locs hw => ?_)
    refine lv_aload_n hx hb dX4_share_53 rfl (lv_at hl 0 rfl) ?_
    refine z_get (C := RX4) (T := TX4) (N := 19) (fs := [zi (1), zi (n), .ref (ad (9)), .ref (ad (10)), .ref (ad (11)), .ref (ad (12)), .ref (ad (13)), .ref (ad (14)), .ref (ad (15)), .ref (ad (16)), .ref (ad (17)), .ref (ad (18)), .ref (ad (19)), .ref (ad (20)), .ref (ad (21)), .ref (ad (22)), zi (bl), .ref (ad (23)), .ref (ad (24))]) hx hb hts w_2 hown hK hw (hM 8 (by decide) (by decide)) (zU_s _ _ _) rfl 0 (by decide) w_1 rfl rfl dX4_share_54 ?_
    refine z_if_le (tgt := 62) hx hb dX4_share_57 (by decide) ⟨by decide, by decide⟩ (fun c_4 => ?_) (fun c_4 => ?_)
    · exact absurd c_4 (by decide)
    · refine z_ic hx hb dX4_share_60 ?_
      exact z_iret hx hb hlk hr hw dX4_share_61 (Nat.le_of_ble_eq_true rfl) (Nat.le_of_ble_eq_true rfl) ⟨rfl, _, rfl, ⟨1, _, _, _, Or.inr (Or.inl ⟨rfl, by omega⟩), (zM3_id (zU_n (by decide) h19) (zU_n (by decide) h20) (zU_n (by decide) h21)).symm⟩⟩
  · refine lv_aload_n hx hb dX4_share_13 rfl (lv_at hl 0 rfl) ?_
    refine lv_iload_n hx hb dX4_share_14 rfl (lv_at hl 2 rfl) ?_
    refine z_kI (z_runV (As := [zi (a2)]) (rest := [.ref (ad (8))]) (k := 8) (fs := [zi (cd), zi (n), .ref (ad (9)), .ref (ad (10)), .ref (ad (11)), .ref (ad (12)), .ref (ad (13)), .ref (ad (14)), .ref (ad (15)), .ref (ad (16)), .ref (ad (17)), .ref (ad (18)), .ref (ad (19)), .ref (ad (20)), .ref (ad (21)), .ref (ad (22)), zi (bl), .ref (ad (23)), .ref (ad (24))]) ⟨hx, hb, hml, hown, hts⟩ hK hw (k_isPile l hl0 G I ad _ _ n hn6 σ hgs (cd) (bl) (Fmn) (Fsp) (Fms) (Fco) (Fst) (Fmo) (Fsk) (Fts) (Ftm) (Fjn) (Fpl) (Fgr) (Fab) hRel hM ⟨h8, h9, h10, h11, h12, h13, h14, h15, h16, h17, h18⟩ ⟨h19, h20, h21⟩ (a2) ⟨by omega, by omega⟩) (cwV 1 hts gX4_share_X4_isPile rfl rfl rfl (by decide +kernel) ⟨Nat.le_of_ble_eq_true rfl, Nat.le_of_ble_eq_true rfl⟩) (hM 8 (by decide) (by decide)) h8 rfl rfl rfl hl.1 rfl (Nat.le_of_ble_eq_true rfl) dX4_share_15 ⟨Nat.le_of_ble_eq_true rfl, Nat.le_of_ble_eq_true rfl⟩) hw (fun r_5 ct_6 H locs hP hw => ?_)
    obtain ⟨rfl, hct⟩ := hP
    rw [hct] at hw
    clear hct
    refine z_ifb_ne (tgt := 25) hx hb dX4_share_18 (by decide) (fun c_7 => ?_) (fun c_7 => ?_)
    · refine lv_aload_n hx hb dX4_share_25 rfl (lv_at hl 0 rfl) ?_
      refine z_kI (z_runV (As := []) (rest := [.ref (ad (8))]) (k := 8) (fs := [zi (cd), zi (n), .ref (ad (9)), .ref (ad (10)), .ref (ad (11)), .ref (ad (12)), .ref (ad (13)), .ref (ad (14)), .ref (ad (15)), .ref (ad (16)), .ref (ad (17)), .ref (ad (18)), .ref (ad (19)), .ref (ad (20)), .ref (ad (21)), .ref (ad (22)), zi (bl), .ref (ad (23)), .ref (ad (24))]) ⟨hx, hb, hml, hown, hts⟩ hK hw (k_isEmpty l hl0 G I ad _ _ n hn6 σ hgs (cd) (bl) (Fmn) (Fsp) (Fms) (Fco) (Fst) (Fmo) (Fsk) (Fts) (Ftm) (Fjn) (Fpl) (Fgr) (Fab) hRel hM ⟨h8, h9, h10, h11, h12, h13, h14, h15, h16, h17, h18⟩ ⟨h19, h20, h21⟩) (cwV 0 hts gX4_share_X4_isEmpty rfl rfl rfl (by decide +kernel) ⟨Nat.le_of_ble_eq_true rfl, Nat.le_of_ble_eq_true rfl⟩) (hM 8 (by decide) (by decide)) h8 rfl rfl rfl hl.1 rfl (Nat.le_of_ble_eq_true rfl) dX4_share_26 ⟨Nat.le_of_ble_eq_true rfl, Nat.le_of_ble_eq_true rfl⟩) hw (fun r_8 ct_9 H locs hP hw => ?_)
      obtain ⟨hE, hct⟩ := hP
      rw [hct] at hw
      clear hct
      refine z_if_eq (tgt := 36) hx hb dX4_share_29 (by decide) ⟨by omega, by omega⟩ (fun c_10 => ?_) (fun c_10 => ?_)
      · refine lv_aload_n hx hb dX4_share_36 rfl (lv_at hl 0 rfl) ?_
        refine z_get (C := RX4) (T := TX4) (N := 19) (fs := [zi (cd), zi (n), .ref (ad (9)), .ref (ad (10)), .ref (ad (11)), .ref (ad (12)), .ref (ad (13)), .ref (ad (14)), .ref (ad (15)), .ref (ad (16)), .ref (ad (17)), .ref (ad (18)), .ref (ad (19)), .ref (ad (20)), .ref (ad (21)), .ref (ad (22)), zi (bl), .ref (ad (23)), .ref (ad (24))]) hx hb hts w_2 hown hK hw (hM 8 (by decide) (by decide)) h8 rfl 11 (by decide) w_3 rfl rfl dX4_share_37 ?_
        refine lv_iload_n hx hb dX4_share_40 rfl (lv_at hl 2 rfl) ?_
        refine z_zald (f := Fjn) hx hb hK hw (hM 18 (by decide) (by decide)) h18 (by omega) (by omega) (by decide) dX4_share_41 ?_
        have hg := hgs ((a2).toNat) (by omega)
        have hg0 := hg
        obtain ⟨⟨g1, g2⟩, ⟨g3, g4⟩, ⟨g5, g6⟩, ⟨g7, g8⟩, ⟨g9, g10⟩, ⟨g11, g12⟩, g13, g14, g15, g16⟩ := hg0
        have gn : ((σ ((a2).toNat)).1 : Int) = pn (σ ((a2).toNat)) := rfl
        have hr0 := hRel ((a2).toNat) (by omega)
        rw [show ((((a2).toNat) : Nat) : Int) = a2 by omega] at hr0
        obtain ⟨r1, r2, r3, r4, r5, r6, r7, r8⟩ := hr0
        rw [show (Fjn (a2) : Int) = pjo (σ (a2).toNat) from r7]
        refine z_if_ne (tgt := 49) hx hb dX4_share_42 (by decide) ⟨by omega, by omega⟩ (fun c_11 => ?_) (fun c_11 => ?_)
        · refine z_ic hx hb dX4_share_49 ?_
          refine z_put (C := RX4) (T := TX4) (N := 19) (fs := [zi (cd), zi (n), .ref (ad (9)), .ref (ad (10)), .ref (ad (11)), .ref (ad (12)), .ref (ad (13)), .ref (ad (14)), .ref (ad (15)), .ref (ad (16)), .ref (ad (17)), .ref (ad (18)), .ref (ad (19)), .ref (ad (20)), .ref (ad (21)), .ref (ad (22)), zi (bl), .ref (ad (23)), .ref (ad (24))]) (fs' := [zi (0), zi (n), .ref (ad (9)), .ref (ad (10)), .ref (ad (11)), .ref (ad (12)), .ref (ad (13)), .ref (ad (14)), .ref (ad (15)), .ref (ad (16)), .ref (ad (17)), .ref (ad (18)), .ref (ad (19)), .ref (ad (20)), .ref (ad (21)), .ref (ad (22)), zi (bl), .ref (ad (23)), .ref (ad (24))]) hx hb hts w_2 tyX4_ok nmX4 hown hK hw (hM 8 (by decide) (by decide)) h8 rfl 0 (by decide) w_1 rfl rfl rfl rfl (Nat.le_of_ble_eq_true rfl) rfl dX4_share_50 (fun H locs hw => ?_)
          refine lv_aload_n hx hb dX4_share_53 rfl (lv_at hl 0 rfl) ?_
          refine z_get (C := RX4) (T := TX4) (N := 19) (fs := [zi (0), zi (n), .ref (ad (9)), .ref (ad (10)), .ref (ad (11)), .ref (ad (12)), .ref (ad (13)), .ref (ad (14)), .ref (ad (15)), .ref (ad (16)), .ref (ad (17)), .ref (ad (18)), .ref (ad (19)), .ref (ad (20)), .ref (ad (21)), .ref (ad (22)), zi (bl), .ref (ad (23)), .ref (ad (24))]) hx hb hts w_2 hown hK hw (hM 8 (by decide) (by decide)) (zU_s _ _ _) rfl 0 (by decide) w_1 rfl rfl dX4_share_54 ?_
          refine z_if_le (tgt := 62) hx hb dX4_share_57 (by decide) ⟨by decide, by decide⟩ (fun c_12 => ?_) (fun c_12 => ?_)
          · refine lv_aload_n hx hb dX4_share_62 rfl (lv_at hl 0 rfl) ?_
            refine lv_iload_n hx hb dX4_share_63 rfl (lv_at hl 1 rfl) ?_
            refine z_i2l hx hb dX4_share_64 ⟨by omega, by omega⟩ ?_
            refine z_kI (z_runV (As := [zl (a1)]) (rest := []) (k := 8) (fs := [zi (0), zi (n), .ref (ad (9)), .ref (ad (10)), .ref (ad (11)), .ref (ad (12)), .ref (ad (13)), .ref (ad (14)), .ref (ad (15)), .ref (ad (16)), .ref (ad (17)), .ref (ad (18)), .ref (ad (19)), .ref (ad (20)), .ref (ad (21)), .ref (ad (22)), zi (bl), .ref (ad (23)), .ref (ad (24))]) ⟨hx, hb, hml, hown, hts⟩ hK hw (k_settles l hl0 G I ad _ _ n hn6 σ hgs (0) (bl) (Fmn) (Fsp) (Fms) (Fco) (Fst) (Fmo) (Fsk) (Fts) (Ftm) (Fjn) (Fpl) (Fgr) (Fab) hRel hM ⟨(zU_s _ _ _), (zU_n (by decide) h9), (zU_n (by decide) h10), (zU_n (by decide) h11), (zU_n (by decide) h12), (zU_n (by decide) h13), (zU_n (by decide) h14), (zU_n (by decide) h15), (zU_n (by decide) h16), (zU_n (by decide) h17), (zU_n (by decide) h18)⟩ ⟨(zU_n (by decide) h19), (zU_n (by decide) h20), (zU_n (by decide) h21)⟩ (a1) (by first | assumption | exact ⟨by omega, by omega⟩)) (cwV 1 hts gX4_share_X4_settles rfl rfl rfl (by decide +kernel) ⟨Nat.le_of_ble_eq_true rfl, Nat.le_of_ble_eq_true rfl⟩) (hM 8 (by decide) (by decide)) (zU_s _ _ _) rfl rfl rfl hl.1 rfl (Nat.le_of_ble_eq_true rfl) dX4_share_65 ⟨Nat.le_of_ble_eq_true rfl, Nat.le_of_ble_eq_true rfl⟩) hw (fun r_16 ct_17 H locs hP hw => ?_)
            obtain ⟨rfl, P_13, G_14, A_15, hct⟩ := hP
            rw [hct] at hw
            clear hct
            have bS := zgs_bd σ n (a1)
            refine lv_istore_n (lv' := [(3, zi (zgs σ n (a1))), (0, .ref (ad (8))), (1, zi (a1)), (2, zi (a2))]) hx hb dX4_share_68 rfl hl (by decide) rfl (fun ls hl => ?_)
            refine lv_iload_n hx hb dX4_share_69 rfl (lv_at hl 0 rfl) ?_
            refine z_ldc (n := -1000000) hx hb hown w_4 (by decide) dX4_share_70 ?_
            refine z_icmp_ne (tgt := 80) hx hb dX4_share_72 (by decide) ⟨by omega, by omega⟩ ⟨by decide, by decide⟩ (fun c_18 => ?_) (fun c_18 => ?_)
            · refine lv_aload_n hx hb dX4_share_80 rfl (lv_at hl 1 rfl) ?_
              refine lv_iload_n hx hb dX4_share_81 rfl (lv_at hl 3 rfl) ?_
              refine lv_iload_n hx hb dX4_share_82 rfl (lv_at hl 0 rfl) ?_
              refine z_i2l hx hb dX4_share_83 ⟨by omega, by omega⟩ ?_
              refine z_kL (z_runV (As := [zi (a2), zl (zgs σ n (a1))]) (rest := []) (k := 8) (fs := [zi (0), zi (n), .ref (ad (9)), .ref (ad (10)), .ref (ad (11)), .ref (ad (12)), .ref (ad (13)), .ref (ad (14)), .ref (ad (15)), .ref (ad (16)), .ref (ad (17)), .ref (ad (18)), .ref (ad (19)), .ref (ad (20)), .ref (ad (21)), .ref (ad (22)), zi (bl), .ref (ad (23)), .ref (ad (24))]) ⟨hx, hb, hml, hown, hts⟩ hK hw (k_loadAt l hl0 G I ad _ _ n hn6 σ hgs (0) (bl) (Fmn) (Fsp) (Fms) (Fco) (Fst) (Fmo) (Fsk) (Fts) (Ftm) (Fjn) (P_13) (G_14) (A_15) hRel hM ⟨(zM3_n (by omega) (zU_s _ _ _)), (zM3_n (by omega) (zU_n (by decide) h9)), (zM3_n (by omega) (zU_n (by decide) h10)), (zM3_n (by omega) (zU_n (by decide) h11)), (zM3_n (by omega) (zU_n (by decide) h12)), (zM3_n (by omega) (zU_n (by decide) h13)), (zM3_n (by omega) (zU_n (by decide) h14)), (zM3_n (by omega) (zU_n (by decide) h15)), (zM3_n (by omega) (zU_n (by decide) h16)), (zM3_n (by omega) (zU_n (by decide) h17)), (zM3_n (by omega) (zU_n (by decide) h18))⟩ ⟨rfl, rfl, rfl⟩ ((a2).toNat) (a2) (by omega) (by omega) (zgs σ n (a1)) ⟨by omega, by omega⟩) (cwV 2 hts gX4_share_X4_loadAt rfl rfl rfl (by decide +kernel) ⟨Nat.le_of_ble_eq_true rfl, Nat.le_of_ble_eq_true rfl⟩) (hM 8 (by decide) (by decide)) (zM3_n (by omega) (zU_s _ _ _)) rfl rfl rfl hl.1 rfl (Nat.le_of_ble_eq_true rfl) dX4_share_84 ⟨Nat.le_of_ble_eq_true rfl, Nat.le_of_ble_eq_true rfl⟩) hw (fun r_22 ct_23 H locs hP hw => ?_)
              obtain ⟨rfl, P_19, G_20, A_21, hct⟩ := hP
              rw [hct] at hw
              clear hct
              have lb_84 := zld_bd (hgs ((a2).toNat) (by omega)) (zg (σ ((a2).toNat)) false (zgs σ n (a1)))
              refine z_l2i hx hb dX4_share_87 ⟨by omega, by omega⟩ ?_
              exact z_iret hx hb hlk hr hw dX4_share_88 (Nat.le_of_ble_eq_true rfl) (Nat.le_of_ble_eq_true rfl) ⟨rfl, _, rfl, ⟨0, _, _, _, Or.inl ⟨rfl, ⟨⟨⟨by omega, by omega⟩, by omega, by omega⟩, fun h9 => hE.elim (fun h8 => absurd h8.1 (by omega)) (fun h8 => h8.2 h9)⟩, by omega, (if_neg (by omega)).symm⟩, by first | exact rfl | exact zM3_zM3 _ _ _ _ _ _ _⟩⟩
            · refine z_ldc (n := -1000000) hx hb hown w_4 (by decide) dX4_share_75 ?_
              refine lv_goto (tgt := 88) hx hb dX4_share_77 (by decide) ?_
              exact z_iret hx hb hlk hr hw dX4_share_88 (Nat.le_of_ble_eq_true rfl) (Nat.le_of_ble_eq_true rfl) ⟨rfl, _, rfl, ⟨0, _, _, _, Or.inl ⟨rfl, ⟨⟨⟨by omega, by omega⟩, by omega, by omega⟩, fun h9 => hE.elim (fun h8 => absurd h8.1 (by omega)) (fun h8 => h8.2 h9)⟩, by omega, (if_pos (by omega)).symm⟩, by first | exact rfl | exact zM3_zM3 _ _ _ _ _ _ _⟩⟩
          · exact absurd c_12 (by decide)
        · refine z_ic hx hb dX4_share_45 ?_
          refine lv_goto (tgt := 50) hx hb dX4_share_46 (by decide) ?_
          refine z_put (C := RX4) (T := TX4) (N := 19) (fs := [zi (cd), zi (n), .ref (ad (9)), .ref (ad (10)), .ref (ad (11)), .ref (ad (12)), .ref (ad (13)), .ref (ad (14)), .ref (ad (15)), .ref (ad (16)), .ref (ad (17)), .ref (ad (18)), .ref (ad (19)), .ref (ad (20)), .ref (ad (21)), .ref (ad (22)), zi (bl), .ref (ad (23)), .ref (ad (24))]) (fs' := [zi (1), zi (n), .ref (ad (9)), .ref (ad (10)), .ref (ad (11)), .ref (ad (12)), .ref (ad (13)), .ref (ad (14)), .ref (ad (15)), .ref (ad (16)), .ref (ad (17)), .ref (ad (18)), .ref (ad (19)), .ref (ad (20)), .ref (ad (21)), .ref (ad (22)), zi (bl), .ref (ad (23)), .ref (ad (24))]) hx hb hts w_2 tyX4_ok nmX4 hown hK hw (hM 8 (by decide) (by decide)) h8 rfl 0 (by decide) w_1 rfl rfl rfl rfl (Nat.le_of_ble_eq_true rfl) rfl dX4_share_50 (fun H locs hw => ?_)
          refine lv_aload_n hx hb dX4_share_53 rfl (lv_at hl 0 rfl) ?_
          refine z_get (C := RX4) (T := TX4) (N := 19) (fs := [zi (1), zi (n), .ref (ad (9)), .ref (ad (10)), .ref (ad (11)), .ref (ad (12)), .ref (ad (13)), .ref (ad (14)), .ref (ad (15)), .ref (ad (16)), .ref (ad (17)), .ref (ad (18)), .ref (ad (19)), .ref (ad (20)), .ref (ad (21)), .ref (ad (22)), zi (bl), .ref (ad (23)), .ref (ad (24))]) hx hb hts w_2 hown hK hw (hM 8 (by decide) (by decide)) (zU_s _ _ _) rfl 0 (by decide) w_1 rfl rfl dX4_share_54 ?_
          refine z_if_le (tgt := 62) hx hb dX4_share_57 (by decide) ⟨by decide, by decide⟩ (fun c_24 => ?_) (fun c_24 => ?_)
          · exact absurd c_24 (by decide)
          · refine z_ic hx hb dX4_share_60 ?_
            exact z_iret hx hb hlk hr hw dX4_share_61 (Nat.le_of_ble_eq_true rfl) (Nat.le_of_ble_eq_true rfl) ⟨rfl, _, rfl, ⟨1, _, _, _, Or.inr (Or.inr (Or.inl ⟨rfl, ⟨⟨⟨by omega, by omega⟩, by omega, by omega⟩, fun h9 => hE.elim (fun h8 => absurd h8.1 (by omega)) (fun h8 => h8.2 h9)⟩, by omega⟩)), (zM3_id (zU_n (by decide) h19) (zU_n (by decide) h20) (zU_n (by decide) h21)).symm⟩⟩
      · refine z_ic hx hb dX4_share_32 ?_
        refine lv_goto (tgt := 50) hx hb dX4_share_33 (by decide) ?_
        refine z_put (C := RX4) (T := TX4) (N := 19) (fs := [zi (cd), zi (n), .ref (ad (9)), .ref (ad (10)), .ref (ad (11)), .ref (ad (12)), .ref (ad (13)), .ref (ad (14)), .ref (ad (15)), .ref (ad (16)), .ref (ad (17)), .ref (ad (18)), .ref (ad (19)), .ref (ad (20)), .ref (ad (21)), .ref (ad (22)), zi (bl), .ref (ad (23)), .ref (ad (24))]) (fs' := [zi (2), zi (n), .ref (ad (9)), .ref (ad (10)), .ref (ad (11)), .ref (ad (12)), .ref (ad (13)), .ref (ad (14)), .ref (ad (15)), .ref (ad (16)), .ref (ad (17)), .ref (ad (18)), .ref (ad (19)), .ref (ad (20)), .ref (ad (21)), .ref (ad (22)), zi (bl), .ref (ad (23)), .ref (ad (24))]) hx hb hts w_2 tyX4_ok nmX4 hown hK hw (hM 8 (by decide) (by decide)) h8 rfl 0 (by decide) w_1 rfl rfl rfl rfl (Nat.le_of_ble_eq_true rfl) rfl dX4_share_50 (fun H locs hw => ?_)
        refine lv_aload_n hx hb dX4_share_53 rfl (lv_at hl 0 rfl) ?_
        refine z_get (C := RX4) (T := TX4) (N := 19) (fs := [zi (2), zi (n), .ref (ad (9)), .ref (ad (10)), .ref (ad (11)), .ref (ad (12)), .ref (ad (13)), .ref (ad (14)), .ref (ad (15)), .ref (ad (16)), .ref (ad (17)), .ref (ad (18)), .ref (ad (19)), .ref (ad (20)), .ref (ad (21)), .ref (ad (22)), zi (bl), .ref (ad (23)), .ref (ad (24))]) hx hb hts w_2 hown hK hw (hM 8 (by decide) (by decide)) (zU_s _ _ _) rfl 0 (by decide) w_1 rfl rfl dX4_share_54 ?_
        refine z_if_le (tgt := 62) hx hb dX4_share_57 (by decide) ⟨by decide, by decide⟩ (fun c_25 => ?_) (fun c_25 => ?_)
        · exact absurd c_25 (by decide)
        · refine z_ic hx hb dX4_share_60 ?_
          exact z_iret hx hb hlk hr hw dX4_share_61 (Nat.le_of_ble_eq_true rfl) (Nat.le_of_ble_eq_true rfl) ⟨rfl, _, rfl, ⟨2, _, _, _, Or.inr (Or.inr (Or.inr ⟨rfl, ⟨⟨by omega, by omega⟩, by omega, by omega⟩, hE.elim (fun h8 => h8.2) (fun h8 => absurd h8.1 (by omega))⟩)), (zM3_id (zU_n (by decide) h19) (zU_n (by decide) h20) (zU_n (by decide) h21)).symm⟩⟩
    · refine z_ic hx hb dX4_share_21 ?_
      refine lv_goto (tgt := 50) hx hb dX4_share_22 (by decide) ?_
      refine z_put (C := RX4) (T := TX4) (N := 19) (fs := [zi (cd), zi (n), .ref (ad (9)), .ref (ad (10)), .ref (ad (11)), .ref (ad (12)), .ref (ad (13)), .ref (ad (14)), .ref (ad (15)), .ref (ad (16)), .ref (ad (17)), .ref (ad (18)), .ref (ad (19)), .ref (ad (20)), .ref (ad (21)), .ref (ad (22)), zi (bl), .ref (ad (23)), .ref (ad (24))]) (fs' := [zi (1), zi (n), .ref (ad (9)), .ref (ad (10)), .ref (ad (11)), .ref (ad (12)), .ref (ad (13)), .ref (ad (14)), .ref (ad (15)), .ref (ad (16)), .ref (ad (17)), .ref (ad (18)), .ref (ad (19)), .ref (ad (20)), .ref (ad (21)), .ref (ad (22)), zi (bl), .ref (ad (23)), .ref (ad (24))]) hx hb hts w_2 tyX4_ok nmX4 hown hK hw (hM 8 (by decide) (by decide)) h8 rfl 0 (by decide) w_1 rfl rfl rfl rfl (Nat.le_of_ble_eq_true rfl) rfl dX4_share_50 (fun H locs hw => ?_)
      refine lv_aload_n hx hb dX4_share_53 rfl (lv_at hl 0 rfl) ?_
      refine z_get (C := RX4) (T := TX4) (N := 19) (fs := [zi (1), zi (n), .ref (ad (9)), .ref (ad (10)), .ref (ad (11)), .ref (ad (12)), .ref (ad (13)), .ref (ad (14)), .ref (ad (15)), .ref (ad (16)), .ref (ad (17)), .ref (ad (18)), .ref (ad (19)), .ref (ad (20)), .ref (ad (21)), .ref (ad (22)), zi (bl), .ref (ad (23)), .ref (ad (24))]) hx hb hts w_2 hown hK hw (hM 8 (by decide) (by decide)) (zU_s _ _ _) rfl 0 (by decide) w_1 rfl rfl dX4_share_54 ?_
      refine z_if_le (tgt := 62) hx hb dX4_share_57 (by decide) ⟨by decide, by decide⟩ (fun c_26 => ?_) (fun c_26 => ?_)
      · exact absurd c_26 (by decide)
      · refine z_ic hx hb dX4_share_60 ?_
        exact z_iret hx hb hlk hr hw dX4_share_61 (Nat.le_of_ble_eq_true rfl) (Nat.le_of_ble_eq_true rfl) ⟨rfl, _, rfl, ⟨1, _, _, _, Or.inr (Or.inl ⟨rfl, by omega⟩), (zM3_id (zU_n (by decide) h19) (zU_n (by decide) h20) (zU_n (by decide) h21)).symm⟩⟩

set_option maxHeartbeats 4000000 in
set_option maxRecDepth 100000 in
theorem m_cheapest (l : Launch) (hl0 : l.stackTraces = false) (G : zG) (I : List Nat) (ad : Nat → Nat) (ct : Nat → va_E) (sz : Nat) (n : Nat) (hn6 : n ≤ 6) (σ : Nat → zPl) (hgs : ∀ p : Nat, p < n → zGood (σ p)) (cd bl : Int) (Fmn Fsp Fms Fco Fst Fmo Fsk Fts Ftm Fjn Fpl Fgr Fab : Int → Int) (hRel : zMrel n σ Fmn Fsp Fms Fco Fst Fmo Fsk Fts Ftm Fjn) (hM : ∀ j : Nat, 8 ≤ j → j ≤ 24 → j ∈ I) (hms : zMst G ad ct n cd bl Fmn Fsp Fms Fco Fst Fmo Fsk Fts Ftm Fjn) (hmc : zMsc G ct Fpl Fgr Fab) (a1 a2 : Int) (hz1 : zr a1) (hz2 : zr a2) : zN l yX4_cheapest wsX4_cheapest 5 137 0 0 G [.ref (ad (8)), zi (a1), zi (a2)] I ad ct zno sz (zk I (zqi fun z u => ∃ (cd9 : Int) (P Gr Ab : Int → Int), ((((0 ≤ a1 ∧ a1 ≤ 10000000) ∧ (0 ≤ a2 ∧ a2 ≤ 100000)) ∧ cd9 = 0 ∧ z = zch σ a1 a2 n) ∨ (¬ ((0 ≤ a1 ∧ a1 ≤ 10000000) ∧ (0 ≤ a2 ∧ a2 ≤ 100000)) ∧ cd9 = 1)) ∧ u = zM3 (zU ct 8 (zmo ad n (cd9) bl)) (zL G 12 P) (zL G 12 Gr) (zL G 12 Ab))) := by
  obtain ⟨h8, h9, h10, h11, h12, h13, h14, h15, h16, h17, h18⟩ := hms
  obtain ⟨h19, h20, h21⟩ := hmc
  refine z_ofW (ret := (some .int)) hl0 (by decide +kernel) rfl (Nat.le_of_ble_eq_true rfl) ?_
  intro p e s m args below meth c A ls hA0 hsz hF hr hout hnm hw hl
  obtain ⟨hx, hb, hml, hown, hts, hK, hlk, hst⟩ := hF
  have hown : s.vm.findClass RX4 = some m.cls := hown
  have hl : lv_has ls 6 [(0, .ref (ad (8))), (1, zi (a1)), (2, zi (a2))] := hl
  have w_0 := hts (.constantLong RX4 121 (10000000)) (by decide +kernel)
  have w_1 := hts (.fieldLink RX4 65 "PileMovesModel" "code" "I") (by decide +kernel)
  have w_2 : ∀ w ∈ wsX40, w ∈ wsX4_cheapest := by decide +kernel
  have w_3 := hts (.constant RX4 54 (-1000000)) (by decide +kernel)
  have w_4 := hts (.constantLong RX4 85 (100000)) (by decide +kernel)
  have w_5 := hts (.fieldLink RX4 68 "PileMovesModel" "piles" "I") (by decide +kernel)
  have w_6 := hts (.fieldLink RX4 42 "PileMovesModel" "places" "[J") (by decide +kernel)
  have w_7 := hts (.fieldLink RX4 20 "PileMovesModel" "costs" "[I") (by decide +kernel)
  refine lv_aload_n hx hb dX4_cheapest_0 rfl (lv_at hl 0 rfl) ?_
  refine lv_iload_n hx hb dX4_cheapest_1 rfl (lv_at hl 1 rfl) ?_
  refine z_i2l hx hb dX4_cheapest_2 ⟨by omega, by omega⟩ ?_
  refine z_lc0 hx hb dX4_cheapest_3 ?_
  refine z_ldc2 (n := 10000000) hx hb hown w_0 (by decide) dX4_cheapest_4 ?_
  refine z_kI (z_runS (As := [zl (a1), zl (0), zl (10000000)]) (rest := [.ref (ad (8))]) ⟨hx, hb, hml, hown, hts⟩ hK hw (k_in l hl0 G I ad _ _ (a1) (0) (10000000) ⟨by omega, by omega⟩ ⟨by decide, by decide⟩ ⟨by decide, by decide⟩) (va_cwS 3 hts gX4_cheapest_X4_in rfl rfl rfl (by decide +kernel) ⟨Nat.le_of_ble_eq_true rfl, Nat.le_of_ble_eq_true rfl⟩) rfl hl.1 rfl (Nat.le_of_ble_eq_true rfl) dX4_cheapest_7 ⟨Nat.le_of_ble_eq_true rfl, Nat.le_of_ble_eq_true rfl⟩) hw (fun r_1 ct_2 H locs hP hw => ?_)
  obtain ⟨rfl, hct⟩ := hP
  rw [hct] at hw
  clear hct
  refine z_ifb_eq (tgt := 29) hx hb dX4_cheapest_10 (by decide) (fun c_3 => ?_) (fun c_3 => ?_)
  · refine z_ic hx hb dX4_cheapest_29 ?_
    refine z_put (C := RX4) (T := TX4) (N := 19) (fs := [zi (cd), zi (n), .ref (ad (9)), .ref (ad (10)), .ref (ad (11)), .ref (ad (12)), .ref (ad (13)), .ref (ad (14)), .ref (ad (15)), .ref (ad (16)), .ref (ad (17)), .ref (ad (18)), .ref (ad (19)), .ref (ad (20)), .ref (ad (21)), .ref (ad (22)), zi (bl), .ref (ad (23)), .ref (ad (24))]) (fs' := [zi (1), zi (n), .ref (ad (9)), .ref (ad (10)), .ref (ad (11)), .ref (ad (12)), .ref (ad (13)), .ref (ad (14)), .ref (ad (15)), .ref (ad (16)), .ref (ad (17)), .ref (ad (18)), .ref (ad (19)), .ref (ad (20)), .ref (ad (21)), .ref (ad (22)), zi (bl), .ref (ad (23)), .ref (ad (24))]) hx hb hts w_2 tyX4_ok nmX4 hown hK hw (hM 8 (by decide) (by decide)) h8 rfl 0 (by decide) w_1 rfl rfl rfl rfl (Nat.le_of_ble_eq_true rfl) rfl dX4_cheapest_30 (fun H locs hw => ?_)
    refine z_ldc (n := -1000000) hx hb hown w_3 (by decide) dX4_cheapest_33 ?_
    refine lv_istore_n (lv' := [(3, zi (-1000000)), (0, .ref (ad (8))), (1, zi (a1)), (2, zi (a2))]) hx hb dX4_cheapest_35 rfl hl (by decide) rfl (fun ls hl => ?_)
    refine z_ic hx hb dX4_cheapest_36 ?_
    refine lv_istore (lv' := [(4, zi (0)), (3, zi (-1000000)), (0, .ref (ad (8))), (1, zi (a1)), (2, zi (a2))]) hx hb dX4_cheapest_37 hl (by decide) rfl (fun ls hl => ?_)
    refine lv_aload_n hx hb dX4_cheapest_39 rfl (lv_at hl 2 rfl) ?_
    refine z_get (C := RX4) (T := TX4) (N := 19) (fs := [zi (1), zi (n), .ref (ad (9)), .ref (ad (10)), .ref (ad (11)), .ref (ad (12)), .ref (ad (13)), .ref (ad (14)), .ref (ad (15)), .ref (ad (16)), .ref (ad (17)), .ref (ad (18)), .ref (ad (19)), .ref (ad (20)), .ref (ad (21)), .ref (ad (22)), zi (bl), .ref (ad (23)), .ref (ad (24))]) hx hb hts w_2 hown hK hw (hM 8 (by decide) (by decide)) (zU_s _ _ _) rfl 0 (by decide) w_1 rfl rfl dX4_cheapest_40 ?_
    refine z_if_ne (tgt := 125) hx hb dX4_cheapest_43 (by decide) ⟨by decide, by decide⟩ (fun c_4 => ?_) (fun c_4 => ?_)
    · refine lv_aload_n hx hb dX4_cheapest_125 rfl (lv_at hl 2 rfl) ?_
      refine z_get (C := RX4) (T := TX4) (N := 19) (fs := [zi (1), zi (n), .ref (ad (9)), .ref (ad (10)), .ref (ad (11)), .ref (ad (12)), .ref (ad (13)), .ref (ad (14)), .ref (ad (15)), .ref (ad (16)), .ref (ad (17)), .ref (ad (18)), .ref (ad (19)), .ref (ad (20)), .ref (ad (21)), .ref (ad (22)), zi (bl), .ref (ad (23)), .ref (ad (24))]) hx hb hts w_2 hown hK hw (hM 8 (by decide) (by decide)) (zU_s _ _ _) rfl 0 (by decide) w_1 rfl rfl dX4_cheapest_126 ?_
      refine z_if_le (tgt := 136) hx hb dX4_cheapest_129 (by decide) ⟨by decide, by decide⟩ (fun c_5 => ?_) (fun c_5 => ?_)
      · exact absurd c_5 (by decide)
      · refine z_ic hx hb dX4_cheapest_132 ?_
        refine lv_goto (tgt := 137) hx hb dX4_cheapest_133 (by decide) ?_
        exact z_iret hx hb hlk hr hw dX4_cheapest_137 (Nat.le_of_ble_eq_true rfl) (Nat.le_of_ble_eq_true rfl) ⟨rfl, _, rfl, ⟨1, _, _, _, Or.inr ⟨by omega, rfl⟩, (zM3_id (zU_n (by decide) h19) (zU_n (by decide) h20) (zU_n (by decide) h21)).symm⟩⟩
    · exact absurd c_4 (by decide)
  · refine lv_iload_n hx hb dX4_cheapest_13 rfl (lv_at hl 2 rfl) ?_
    refine z_i2l hx hb dX4_cheapest_14 ⟨by omega, by omega⟩ ?_
    refine z_lc0 hx hb dX4_cheapest_15 ?_
    refine z_ldc2 (n := 100000) hx hb hown w_4 (by decide) dX4_cheapest_16 ?_
    refine z_kI (z_runS (As := [zl (a2), zl (0), zl (100000)]) (rest := [.ref (ad (8))]) ⟨hx, hb, hml, hown, hts⟩ hK hw (k_in l hl0 G I ad _ _ (a2) (0) (100000) ⟨by omega, by omega⟩ ⟨by decide, by decide⟩ ⟨by decide, by decide⟩) (va_cwS 3 hts gX4_cheapest_X4_in rfl rfl rfl (by decide +kernel) ⟨Nat.le_of_ble_eq_true rfl, Nat.le_of_ble_eq_true rfl⟩) rfl hl.1 rfl (Nat.le_of_ble_eq_true rfl) dX4_cheapest_19 ⟨Nat.le_of_ble_eq_true rfl, Nat.le_of_ble_eq_true rfl⟩) hw (fun r_6 ct_7 H locs hP hw => ?_)
    obtain ⟨rfl, hct⟩ := hP
    rw [hct] at hw
    clear hct
    refine z_ifb_eq (tgt := 29) hx hb dX4_cheapest_22 (by decide) (fun c_8 => ?_) (fun c_8 => ?_)
    · refine z_ic hx hb dX4_cheapest_29 ?_
      refine z_put (C := RX4) (T := TX4) (N := 19) (fs := [zi (cd), zi (n), .ref (ad (9)), .ref (ad (10)), .ref (ad (11)), .ref (ad (12)), .ref (ad (13)), .ref (ad (14)), .ref (ad (15)), .ref (ad (16)), .ref (ad (17)), .ref (ad (18)), .ref (ad (19)), .ref (ad (20)), .ref (ad (21)), .ref (ad (22)), zi (bl), .ref (ad (23)), .ref (ad (24))]) (fs' := [zi (1), zi (n), .ref (ad (9)), .ref (ad (10)), .ref (ad (11)), .ref (ad (12)), .ref (ad (13)), .ref (ad (14)), .ref (ad (15)), .ref (ad (16)), .ref (ad (17)), .ref (ad (18)), .ref (ad (19)), .ref (ad (20)), .ref (ad (21)), .ref (ad (22)), zi (bl), .ref (ad (23)), .ref (ad (24))]) hx hb hts w_2 tyX4_ok nmX4 hown hK hw (hM 8 (by decide) (by decide)) h8 rfl 0 (by decide) w_1 rfl rfl rfl rfl (Nat.le_of_ble_eq_true rfl) rfl dX4_cheapest_30 (fun H locs hw => ?_)
      refine z_ldc (n := -1000000) hx hb hown w_3 (by decide) dX4_cheapest_33 ?_
      refine lv_istore_n (lv' := [(3, zi (-1000000)), (0, .ref (ad (8))), (1, zi (a1)), (2, zi (a2))]) hx hb dX4_cheapest_35 rfl hl (by decide) rfl (fun ls hl => ?_)
      refine z_ic hx hb dX4_cheapest_36 ?_
      refine lv_istore (lv' := [(4, zi (0)), (3, zi (-1000000)), (0, .ref (ad (8))), (1, zi (a1)), (2, zi (a2))]) hx hb dX4_cheapest_37 hl (by decide) rfl (fun ls hl => ?_)
      refine lv_aload_n hx hb dX4_cheapest_39 rfl (lv_at hl 2 rfl) ?_
      refine z_get (C := RX4) (T := TX4) (N := 19) (fs := [zi (1), zi (n), .ref (ad (9)), .ref (ad (10)), .ref (ad (11)), .ref (ad (12)), .ref (ad (13)), .ref (ad (14)), .ref (ad (15)), .ref (ad (16)), .ref (ad (17)), .ref (ad (18)), .ref (ad (19)), .ref (ad (20)), .ref (ad (21)), .ref (ad (22)), zi (bl), .ref (ad (23)), .ref (ad (24))]) hx hb hts w_2 hown hK hw (hM 8 (by decide) (by decide)) (zU_s _ _ _) rfl 0 (by decide) w_1 rfl rfl dX4_cheapest_40 ?_
      refine z_if_ne (tgt := 125) hx hb dX4_cheapest_43 (by decide) ⟨by decide, by decide⟩ (fun c_9 => ?_) (fun c_9 => ?_)
      · refine lv_aload_n hx hb dX4_cheapest_125 rfl (lv_at hl 2 rfl) ?_
        refine z_get (C := RX4) (T := TX4) (N := 19) (fs := [zi (1), zi (n), .ref (ad (9)), .ref (ad (10)), .ref (ad (11)), .ref (ad (12)), .ref (ad (13)), .ref (ad (14)), .ref (ad (15)), .ref (ad (16)), .ref (ad (17)), .ref (ad (18)), .ref (ad (19)), .ref (ad (20)), .ref (ad (21)), .ref (ad (22)), zi (bl), .ref (ad (23)), .ref (ad (24))]) hx hb hts w_2 hown hK hw (hM 8 (by decide) (by decide)) (zU_s _ _ _) rfl 0 (by decide) w_1 rfl rfl dX4_cheapest_126 ?_
        refine z_if_le (tgt := 136) hx hb dX4_cheapest_129 (by decide) ⟨by decide, by decide⟩ (fun c_10 => ?_) (fun c_10 => ?_)
        · exact absurd c_10 (by decide)
        · refine z_ic hx hb dX4_cheapest_132 ?_
          refine lv_goto (tgt := 137) hx hb dX4_cheapest_133 (by decide) ?_
          exact z_iret hx hb hlk hr hw dX4_cheapest_137 (Nat.le_of_ble_eq_true rfl) (Nat.le_of_ble_eq_true rfl) ⟨rfl, _, rfl, ⟨1, _, _, _, Or.inr ⟨by omega, rfl⟩, (zM3_id (zU_n (by decide) h19) (zU_n (by decide) h20) (zU_n (by decide) h21)).symm⟩⟩
      · exact absurd c_9 (by decide)
    · refine z_ic hx hb dX4_cheapest_25 ?_
      refine lv_goto (tgt := 30) hx hb dX4_cheapest_26 (by decide) ?_
      refine z_put (C := RX4) (T := TX4) (N := 19) (fs := [zi (cd), zi (n), .ref (ad (9)), .ref (ad (10)), .ref (ad (11)), .ref (ad (12)), .ref (ad (13)), .ref (ad (14)), .ref (ad (15)), .ref (ad (16)), .ref (ad (17)), .ref (ad (18)), .ref (ad (19)), .ref (ad (20)), .ref (ad (21)), .ref (ad (22)), zi (bl), .ref (ad (23)), .ref (ad (24))]) (fs' := [zi (0), zi (n), .ref (ad (9)), .ref (ad (10)), .ref (ad (11)), .ref (ad (12)), .ref (ad (13)), .ref (ad (14)), .ref (ad (15)), .ref (ad (16)), .ref (ad (17)), .ref (ad (18)), .ref (ad (19)), .ref (ad (20)), .ref (ad (21)), .ref (ad (22)), zi (bl), .ref (ad (23)), .ref (ad (24))]) hx hb hts w_2 tyX4_ok nmX4 hown hK hw (hM 8 (by decide) (by decide)) h8 rfl 0 (by decide) w_1 rfl rfl rfl rfl (Nat.le_of_ble_eq_true rfl) rfl dX4_cheapest_30 (fun H locs hw => ?_)
      refine z_ldc (n := -1000000) hx hb hown w_3 (by decide) dX4_cheapest_33 ?_
      refine lv_istore_n (lv' := [(3, zi (-1000000)), (0, .ref (ad (8))), (1, zi (a1)), (2, zi (a2))]) hx hb dX4_cheapest_35 rfl hl (by decide) rfl (fun ls hl => ?_)
      refine z_ic hx hb dX4_cheapest_36 ?_
      refine lv_istore (lv' := [(4, zi (0)), (3, zi (-1000000)), (0, .ref (ad (8))), (1, zi (a1)), (2, zi (a2))]) hx hb dX4_cheapest_37 hl (by decide) rfl (fun ls hl => ?_)
      have L39 : ∀ (nn : Nat) (K : Nat) (i : Int) (be : Int) (P : Int → Int) (Gr : Int → Int) (Ab : Int → Int), (n - K) < nn → (i = K) → (K ≤ n) → (be = zch σ a1 a2 K) → ∀ (H : Heap) (locs : List Loc), zW G A s.heap H locs I ad (zM3 (zU ct 8 (zmo ad n (0) (bl))) (zL G 12 P) (zL G 12 Gr) (zL G 12 Ab)) → ∀ ls, lv_has ls 6 [(0, .ref (ad (8))), (1, zi (a1)), (2, zi (a2)), (3, zi (be)), (4, zi (i))] → W p l e ({ frames := 5, cells := 0, slots := 0, locals := 137 } : Room) s m args below meth c H locs 0 0 (vx_MQ below (zQ G A ad (zk I (zqi fun z u => ∃ (cd9 : Int) (P Gr Ab : Int → Int), ((((0 ≤ a1 ∧ a1 ≤ 10000000) ∧ (0 ≤ a2 ∧ a2 ≤ 100000)) ∧ cd9 = 0 ∧ z = zch σ a1 a2 n) ∨ (¬ ((0 ≤ a1 ∧ a1 ≤ 10000000) ∧ (0 ≤ a2 ∧ a2 ≤ 100000)) ∧ cd9 = 1)) ∧ u = zM3 (zU ct 8 (zmo ad n (cd9) bl)) (zL G 12 P) (zL G 12 Gr) (zL G 12 Ab)))) (zX G A I ad ct zno) args s 0 0 A) (F0 m 39 ls []) := by
        intro nn
        induction nn with
        | zero => intro K i be P Gr Ab hme; exact absurd hme (Nat.not_lt_zero _)
        | succ nn ih39 =>
          intro K i be P Gr Ab hme39 hi hKn hbe H locs hw ls hl
          have bb := zch_bd σ a1 a2 K
          rw [← hbe] at bb
          refine lv_aload_n hx hb dX4_cheapest_39 rfl (lv_at hl 0 rfl) ?_
          refine z_get (C := RX4) (T := TX4) (N := 19) (fs := [zi (0), zi (n), .ref (ad (9)), .ref (ad (10)), .ref (ad (11)), .ref (ad (12)), .ref (ad (13)), .ref (ad (14)), .ref (ad (15)), .ref (ad (16)), .ref (ad (17)), .ref (ad (18)), .ref (ad (19)), .ref (ad (20)), .ref (ad (21)), .ref (ad (22)), zi (bl), .ref (ad (23)), .ref (ad (24))]) hx hb hts w_2 hown hK hw (hM 8 (by decide) (by decide)) (zM3_n (by omega) (zU_s _ _ _)) rfl 0 (by decide) w_1 rfl rfl dX4_cheapest_40 ?_
          refine z_if_ne (tgt := 125) hx hb dX4_cheapest_43 (by decide) ⟨by decide, by decide⟩ (fun c_11 => ?_) (fun c_11 => ?_)
          · exact absurd c_11 (by decide)
          · refine lv_iload hx hb dX4_cheapest_46 (lv_at hl 4 rfl) ?_
            refine lv_aload_n hx hb dX4_cheapest_48 rfl (lv_at hl 0 rfl) ?_
            refine z_get (C := RX4) (T := TX4) (N := 19) (fs := [zi (0), zi (n), .ref (ad (9)), .ref (ad (10)), .ref (ad (11)), .ref (ad (12)), .ref (ad (13)), .ref (ad (14)), .ref (ad (15)), .ref (ad (16)), .ref (ad (17)), .ref (ad (18)), .ref (ad (19)), .ref (ad (20)), .ref (ad (21)), .ref (ad (22)), zi (bl), .ref (ad (23)), .ref (ad (24))]) hx hb hts w_2 hown hK hw (hM 8 (by decide) (by decide)) (zM3_n (by omega) (zU_s _ _ _)) rfl 1 (by decide) w_5 rfl rfl dX4_cheapest_49 ?_
            refine z_icmp_ge (tgt := 125) hx hb dX4_cheapest_52 (by decide) ⟨by omega, by omega⟩ ⟨by omega, by omega⟩ (fun c_12 => ?_) (fun c_12 => ?_)
            · refine lv_aload_n hx hb dX4_cheapest_125 rfl (lv_at hl 0 rfl) ?_
              refine z_get (C := RX4) (T := TX4) (N := 19) (fs := [zi (0), zi (n), .ref (ad (9)), .ref (ad (10)), .ref (ad (11)), .ref (ad (12)), .ref (ad (13)), .ref (ad (14)), .ref (ad (15)), .ref (ad (16)), .ref (ad (17)), .ref (ad (18)), .ref (ad (19)), .ref (ad (20)), .ref (ad (21)), .ref (ad (22)), zi (bl), .ref (ad (23)), .ref (ad (24))]) hx hb hts w_2 hown hK hw (hM 8 (by decide) (by decide)) (zM3_n (by omega) (zU_s _ _ _)) rfl 0 (by decide) w_1 rfl rfl dX4_cheapest_126 ?_
              refine z_if_le (tgt := 136) hx hb dX4_cheapest_129 (by decide) ⟨by decide, by decide⟩ (fun c_13 => ?_) (fun c_13 => ?_)
              · refine lv_iload_n hx hb dX4_cheapest_136 rfl (lv_at hl 3 rfl) ?_
                exact z_iret hx hb hlk hr hw dX4_cheapest_137 (Nat.le_of_ble_eq_true rfl) (Nat.le_of_ble_eq_true rfl) ⟨rfl, _, rfl, ⟨0, _, _, _, Or.inl ⟨by omega, rfl, by rw [hbe, show K = n by omega]⟩, rfl⟩⟩
              · exact absurd c_13 (by decide)
            · refine lv_aload_n hx hb dX4_cheapest_55 rfl (lv_at hl 0 rfl) ?_
              refine lv_iload hx hb dX4_cheapest_56 (lv_at hl 4 rfl) ?_
              refine lv_iload_n hx hb dX4_cheapest_58 rfl (lv_at hl 1 rfl) ?_
              refine z_i2l hx hb dX4_cheapest_59 ⟨by omega, by omega⟩ ?_
              refine z_kI (z_runV (As := [zi (i), zl (a1)]) (rest := []) (k := 8) (fs := [zi (0), zi (n), .ref (ad (9)), .ref (ad (10)), .ref (ad (11)), .ref (ad (12)), .ref (ad (13)), .ref (ad (14)), .ref (ad (15)), .ref (ad (16)), .ref (ad (17)), .ref (ad (18)), .ref (ad (19)), .ref (ad (20)), .ref (ad (21)), .ref (ad (22)), zi (bl), .ref (ad (23)), .ref (ad (24))]) ⟨hx, hb, hml, hown, hts⟩ hK hw (k_stands l hl0 G I ad _ _ n hn6 σ hgs (0) (bl) (Fmn) (Fsp) (Fms) (Fco) (Fst) (Fmo) (Fsk) (Fts) (Ftm) (Fjn) (P) (Gr) (Ab) hRel hM ⟨(zM3_n (by omega) (zU_s _ _ _)), (zM3_n (by omega) (zU_n (by decide) h9)), (zM3_n (by omega) (zU_n (by decide) h10)), (zM3_n (by omega) (zU_n (by decide) h11)), (zM3_n (by omega) (zU_n (by decide) h12)), (zM3_n (by omega) (zU_n (by decide) h13)), (zM3_n (by omega) (zU_n (by decide) h14)), (zM3_n (by omega) (zU_n (by decide) h15)), (zM3_n (by omega) (zU_n (by decide) h16)), (zM3_n (by omega) (zU_n (by decide) h17)), (zM3_n (by omega) (zU_n (by decide) h18))⟩ ⟨rfl, rfl, rfl⟩ (K) (i) (by omega) (by omega) (a1) ⟨by omega, by omega⟩) (cwV 2 hts gX4_cheapest_X4_stands rfl rfl rfl (by decide +kernel) ⟨Nat.le_of_ble_eq_true rfl, Nat.le_of_ble_eq_true rfl⟩) (hM 8 (by decide) (by decide)) (zM3_n (by omega) (zU_s _ _ _)) rfl rfl rfl hl.1 rfl (Nat.le_of_ble_eq_true rfl) dX4_cheapest_60 ⟨Nat.le_of_ble_eq_true rfl, Nat.le_of_ble_eq_true rfl⟩) hw (fun r_17 ct_18 H locs hP hw => ?_)
              obtain ⟨rfl, P_14, G_15, A_16, hP_14, hct⟩ := hP
              rw [hct] at hw
              clear hct
              have gb_60 := zg_bd (σ (K)) true (a1)
              refine z_ifb_eq (tgt := 82) hx hb dX4_cheapest_63 (by decide) (fun c_19 => ?_) (fun c_19 => ?_)
              · refine z_ic hx hb dX4_cheapest_82 ?_
                refine lv_istore (lv' := [(5, zi (0)), (0, .ref (ad (8))), (1, zi (a1)), (2, zi (a2)), (3, zi (be)), (4, zi (i))]) hx hb dX4_cheapest_83 hl (by decide) rfl (fun ls hl => ?_)
                refine lv_iload hx hb dX4_cheapest_85 (lv_at hl 0 rfl) ?_
                refine z_if_eq (tgt := 117) hx hb dX4_cheapest_87 (by decide) ⟨by decide, by decide⟩ (fun c_20 => ?_) (fun c_20 => ?_)
                · refine lv_iload_n hx hb dX4_cheapest_117 rfl (lv_at hl 4 rfl) ?_
                  refine lv_istore_n (lv' := [(3, zi (be)), (5, zi (0)), (0, .ref (ad (8))), (1, zi (a1)), (2, zi (a2)), (4, zi (i))]) hx hb dX4_cheapest_118 rfl hl (by decide) rfl (fun ls hl => ?_)
                  refine z_iinc (lv' := [(4, zi (i + 1)), (3, zi (be)), (5, zi (0)), (0, .ref (ad (8))), (1, zi (a1)), (2, zi (a2))]) hx hb dX4_cheapest_119 hl (k := 5) rfl (by decide) rfl (fun ls hl => ?_)
                  refine lv_goto (tgt := 39) hx hb dX4_cheapest_122 (by decide) ?_
                  exact ih39 (K + 1) (i + 1) (be) (P_14) (G_15) (A_16) (by omega) (by omega) (by omega) (by show _ = ite _ _ _; rw [if_neg (fun h9 => absurd h9.2.1 (by assumption))]; exact hbe) _ _ (zWe hw (by simp only [zM3_p19, zM3_p20, zM3_p21, zM3_zM3])) _ (lv_sub hl [3, 4, 5, 1, 0] rfl)
                · exact absurd c_20 (by decide)
              · have hg := hgs K (by omega)
                refine lv_aload_n hx hb dX4_cheapest_66 rfl (lv_at hl 0 rfl) ?_
                refine z_get (C := RX4) (T := TX4) (N := 19) (fs := [zi (0), zi (n), .ref (ad (9)), .ref (ad (10)), .ref (ad (11)), .ref (ad (12)), .ref (ad (13)), .ref (ad (14)), .ref (ad (15)), .ref (ad (16)), .ref (ad (17)), .ref (ad (18)), .ref (ad (19)), .ref (ad (20)), .ref (ad (21)), .ref (ad (22)), zi (bl), .ref (ad (23)), .ref (ad (24))]) hx hb hts w_2 hown hK hw (hM 8 (by decide) (by decide)) (zM3_n (by omega) (zM3_n (by omega) (zU_s _ _ _))) rfl 12 (by decide) w_6 rfl rfl dX4_cheapest_67 ?_
                refine z_ic hx hb dX4_cheapest_70 ?_
                refine z_lald (f := P_14) hx hb hK hw (hM 19 (by decide) (by decide)) rfl (by decide) (by decide) (by decide) dX4_cheapest_71 ?_
                rw [show (P_14 (0) : Int) = zhp (σ K) (zg (σ K) true (a1)) from zMar_h hg (hP_14 c_19) (by decide)]
                have bH := zhp_bd hg (w := zg (σ K) true (a1)) (by omega) (by omega)
                refine lv_iload_n hx hb dX4_cheapest_72 rfl (lv_at hl 2 rfl) ?_
                refine z_i2l hx hb dX4_cheapest_73 ⟨by omega, by omega⟩ ?_
                refine z_lcmp_gt (tgt := 82) hx hb dX4_cheapest_74 dX4_cheapest_75 (by decide) ⟨by omega, by omega⟩ ⟨by omega, by omega⟩ (fun c_21 => ?_) (fun c_21 => ?_)
                · refine z_ic hx hb dX4_cheapest_82 ?_
                  refine lv_istore (lv' := [(5, zi (0)), (0, .ref (ad (8))), (1, zi (a1)), (2, zi (a2)), (3, zi (be)), (4, zi (i))]) hx hb dX4_cheapest_83 hl (by decide) rfl (fun ls hl => ?_)
                  refine lv_iload hx hb dX4_cheapest_85 (lv_at hl 0 rfl) ?_
                  refine z_if_eq (tgt := 117) hx hb dX4_cheapest_87 (by decide) ⟨by decide, by decide⟩ (fun c_22 => ?_) (fun c_22 => ?_)
                  · refine lv_iload_n hx hb dX4_cheapest_117 rfl (lv_at hl 4 rfl) ?_
                    refine lv_istore_n (lv' := [(3, zi (be)), (5, zi (0)), (0, .ref (ad (8))), (1, zi (a1)), (2, zi (a2)), (4, zi (i))]) hx hb dX4_cheapest_118 rfl hl (by decide) rfl (fun ls hl => ?_)
                    refine z_iinc (lv' := [(4, zi (i + 1)), (3, zi (be)), (5, zi (0)), (0, .ref (ad (8))), (1, zi (a1)), (2, zi (a2))]) hx hb dX4_cheapest_119 hl (k := 5) rfl (by decide) rfl (fun ls hl => ?_)
                    refine lv_goto (tgt := 39) hx hb dX4_cheapest_122 (by decide) ?_
                    exact ih39 (K + 1) (i + 1) (be) (P_14) (G_15) (A_16) (by omega) (by omega) (by omega) (by show _ = ite _ _ _; rw [if_neg (fun h9 => absurd h9.2.2 (by omega))]; exact hbe) _ _ (zWe hw (by simp only [zM3_p19, zM3_p20, zM3_p21, zM3_zM3])) _ (lv_sub hl [3, 4, 5, 1, 0] rfl)
                  · exact absurd c_22 (by decide)
                · refine z_ic hx hb dX4_cheapest_78 ?_
                  refine lv_goto (tgt := 83) hx hb dX4_cheapest_79 (by decide) ?_
                  refine lv_istore (lv' := [(5, zi (1)), (0, .ref (ad (8))), (1, zi (a1)), (2, zi (a2)), (3, zi (be)), (4, zi (i))]) hx hb dX4_cheapest_83 hl (by decide) rfl (fun ls hl => ?_)
                  refine lv_iload hx hb dX4_cheapest_85 (lv_at hl 0 rfl) ?_
                  refine z_if_eq (tgt := 117) hx hb dX4_cheapest_87 (by decide) ⟨by decide, by decide⟩ (fun c_23 => ?_) (fun c_23 => ?_)
                  · exact absurd c_23 (by decide)
                  · refine lv_iload_n hx hb dX4_cheapest_90 rfl (lv_at hl 4 rfl) ?_
                    refine z_ldc (n := -1000000) hx hb hown w_3 (by decide) dX4_cheapest_91 ?_
                    refine z_icmp_eq (tgt := 112) hx hb dX4_cheapest_93 (by decide) ⟨by omega, by omega⟩ ⟨by decide, by decide⟩ (fun c_24 => ?_) (fun c_24 => ?_)
                    · refine lv_iload hx hb dX4_cheapest_112 (lv_at hl 5 rfl) ?_
                      refine lv_goto (tgt := 118) hx hb dX4_cheapest_114 (by decide) ?_
                      refine lv_istore_n (lv' := [(3, zi (i)), (5, zi (1)), (0, .ref (ad (8))), (1, zi (a1)), (2, zi (a2)), (4, zi (i))]) hx hb dX4_cheapest_118 rfl hl (by decide) rfl (fun ls hl => ?_)
                      refine z_iinc (lv' := [(4, zi (i + 1)), (3, zi (i)), (5, zi (1)), (0, .ref (ad (8))), (1, zi (a1)), (2, zi (a2))]) hx hb dX4_cheapest_119 hl (k := 5) rfl (by decide) rfl (fun ls hl => ?_)
                      refine lv_goto (tgt := 39) hx hb dX4_cheapest_122 (by decide) ?_
                      exact ih39 (K + 1) (i + 1) (i) (P_14) (G_15) (A_16) (by omega) (by omega) (by omega) (by show _ = ite _ _ _; rw [if_pos ⟨Or.inl (by omega), by assumption, by omega⟩]; omega) _ _ (zWe hw (by simp only [zM3_p19, zM3_p20, zM3_p21, zM3_zM3])) _ (lv_sub hl [3, 4, 5, 1, 0] rfl)
                    · refine lv_aload_n hx hb dX4_cheapest_96 rfl (lv_at hl 1 rfl) ?_
                      refine z_get (C := RX4) (T := TX4) (N := 19) (fs := [zi (0), zi (n), .ref (ad (9)), .ref (ad (10)), .ref (ad (11)), .ref (ad (12)), .ref (ad (13)), .ref (ad (14)), .ref (ad (15)), .ref (ad (16)), .ref (ad (17)), .ref (ad (18)), .ref (ad (19)), .ref (ad (20)), .ref (ad (21)), .ref (ad (22)), zi (bl), .ref (ad (23)), .ref (ad (24))]) hx hb hts w_2 hown hK hw (hM 8 (by decide) (by decide)) (zM3_n (by omega) (zM3_n (by omega) (zU_s _ _ _))) rfl 5 (by decide) w_7 rfl rfl dX4_cheapest_97 ?_
                      refine lv_iload hx hb dX4_cheapest_100 (lv_at hl 5 rfl) ?_
                      refine z_iald (f := Fco) hx hb hK hw (hM 12 (by decide) (by decide)) (zM3_n (by omega) (zM3_n (by omega) (zU_n (by decide) h12))) (by omega) (by omega) (by decide) dX4_cheapest_102 ?_
                      have hr0 := hRel K (by omega)
                      rw [← hi] at hr0
                      rw [show (Fco (i) : Int) = pco (σ K) from hr0.2.2.2.1]
                      have gc := hg.2.2.2.1
                      refine lv_aload_n hx hb dX4_cheapest_103 rfl (lv_at hl 1 rfl) ?_
                      refine z_get (C := RX4) (T := TX4) (N := 19) (fs := [zi (0), zi (n), .ref (ad (9)), .ref (ad (10)), .ref (ad (11)), .ref (ad (12)), .ref (ad (13)), .ref (ad (14)), .ref (ad (15)), .ref (ad (16)), .ref (ad (17)), .ref (ad (18)), .ref (ad (19)), .ref (ad (20)), .ref (ad (21)), .ref (ad (22)), zi (bl), .ref (ad (23)), .ref (ad (24))]) hx hb hts w_2 hown hK hw (hM 8 (by decide) (by decide)) (zM3_n (by omega) (zM3_n (by omega) (zU_s _ _ _))) rfl 5 (by decide) w_7 rfl rfl dX4_cheapest_104 ?_
                      refine lv_iload_n hx hb dX4_cheapest_107 rfl (lv_at hl 4 rfl) ?_
                      refine z_iald (f := Fco) hx hb hK hw (hM 12 (by decide) (by decide)) (zM3_n (by omega) (zM3_n (by omega) (zU_n (by decide) h12))) (by omega) (by omega) (by decide) dX4_cheapest_108 ?_
                      have hr1 := hRel (be).toNat (by omega)
                      rw [show (((be).toNat : Nat) : Int) = be by omega] at hr1
                      rw [show (Fco (be) : Int) = pco (σ (be).toNat) from hr1.2.2.2.1]
                      have gc2 := (hgs (be).toNat (by omega)).2.2.2.1
                      refine z_icmp_ge (tgt := 117) hx hb dX4_cheapest_109 (by decide) ⟨by omega, by omega⟩ ⟨by omega, by omega⟩ (fun c_25 => ?_) (fun c_25 => ?_)
                      · refine lv_iload_n hx hb dX4_cheapest_117 rfl (lv_at hl 4 rfl) ?_
                        refine lv_istore_n (lv' := [(3, zi (be)), (5, zi (1)), (0, .ref (ad (8))), (1, zi (a1)), (2, zi (a2)), (4, zi (i))]) hx hb dX4_cheapest_118 rfl hl (by decide) rfl (fun ls hl => ?_)
                        refine z_iinc (lv' := [(4, zi (i + 1)), (3, zi (be)), (5, zi (1)), (0, .ref (ad (8))), (1, zi (a1)), (2, zi (a2))]) hx hb dX4_cheapest_119 hl (k := 5) rfl (by decide) rfl (fun ls hl => ?_)
                        refine lv_goto (tgt := 39) hx hb dX4_cheapest_122 (by decide) ?_
                        exact ih39 (K + 1) (i + 1) (be) (P_14) (G_15) (A_16) (by omega) (by omega) (by omega) (by show _ = ite _ _ _; rw [if_neg (fun h9 => by rcases h9.1 with h8 | h8 <;> rw [← hbe] at h8 <;> omega)]; exact hbe) _ _ (zWe hw (by simp only [zM3_p19, zM3_p20, zM3_p21, zM3_zM3])) _ (lv_sub hl [3, 4, 5, 1, 0] rfl)
                      · refine lv_iload hx hb dX4_cheapest_112 (lv_at hl 5 rfl) ?_
                        refine lv_goto (tgt := 118) hx hb dX4_cheapest_114 (by decide) ?_
                        refine lv_istore_n (lv' := [(3, zi (i)), (5, zi (1)), (0, .ref (ad (8))), (1, zi (a1)), (2, zi (a2)), (4, zi (i))]) hx hb dX4_cheapest_118 rfl hl (by decide) rfl (fun ls hl => ?_)
                        refine z_iinc (lv' := [(4, zi (i + 1)), (3, zi (i)), (5, zi (1)), (0, .ref (ad (8))), (1, zi (a1)), (2, zi (a2))]) hx hb dX4_cheapest_119 hl (k := 5) rfl (by decide) rfl (fun ls hl => ?_)
                        refine lv_goto (tgt := 39) hx hb dX4_cheapest_122 (by decide) ?_
                        exact ih39 (K + 1) (i + 1) (i) (P_14) (G_15) (A_16) (by omega) (by omega) (by omega) (by show _ = ite _ _ _; rw [if_pos ⟨Or.inr (by rw [← hbe]; omega), by assumption, by omega⟩]; omega) _ _ (zWe hw (by simp only [zM3_p19, zM3_p20, zM3_p21, zM3_zM3])) _ (lv_sub hl [3, 4, 5, 1, 0] rfl)
      exact L39 _ (0) (0) (-1000000) (Fpl) (Fgr) (Fab) (Nat.lt_succ_self _) rfl (by omega) rfl _ _ (zWe hw (zM3_id (zU_n (by decide) h19) (zU_n (by decide) h20) (zU_n (by decide) h21)).symm) _ (lv_sub hl [2, 3, 4, 1, 0] rfl)
