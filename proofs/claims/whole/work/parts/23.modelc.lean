set_option maxHeartbeats 4000000 in
set_option maxRecDepth 100000 in
theorem k_round (l : Launch) (hl0 : l.stackTraces = false) (G : zG) (I : List Nat) (ad : Nat → Nat) (ct : Nat → va_E) (sz : Nat) (n : Nat) (hn6 : n ≤ 6) (σ : Nat → zPl) (hgs : ∀ p : Nat, p < n → zGood (σ p)) (cd bl : Int) (Fmn Fsp Fms Fco Fst Fmo Fsk Fts Ftm Fjn Fpl Fgr Fab : Int → Int) (hRel : zMrel n σ Fmn Fsp Fms Fco Fst Fmo Fsk Fts Ftm Fjn) (hM : ∀ j : Nat, 8 ≤ j → j ≤ 24 → j ∈ I) (hms : zMst G ad ct n cd bl Fmn Fsp Fms Fco Fst Fmo Fsk Fts Ftm Fjn) (hmc : zMsc G ct Fpl Fgr Fab) (pp : Nat) (a : Int) (hpa : a = pp) (hpp : pp < n) (Fwv Fat Fsd : Int → Int) (hmb : zMbl G ct Fwv Fat Fsd) (ro : Int) (hro0 : 0 ≤ ro) (hro1 : ro < 200) (hm : Int) (hm1 : 1 ≤ hm) (hm2 : hm ≤ 10000) (hfB : zB (σ pp) Fat) (hsB : ∀ x : Int, 0 ≤ x → x ≤ pn (σ pp) → -1000000000 ≤ Fsd x ∧ Fsd x ≤ 1000000000) : zN l yX4_round wsX4_round 1 25 0 0 G [.ref (ad (8)), zi (a), zi (ro), zl (hm)] I ad ct zno sz (zk I (zqv fun u => ∃ f2 g2 wv2 : Int → Int, (∀ x : Int, 0 ≤ x → x ≤ pn (σ pp) → f2 x = znp (σ pp) hm Fat Fsd x) ∧ (∀ x : Int, 0 ≤ x → x ≤ pn (σ pp) → g2 x = znv (σ pp) hm Fat Fsd x) ∧ zwr Fwv wv2 (znp (σ pp) hm Fat Fsd) (13 * ro) (pn (σ pp) + 1) ∧ u = zW3 ct (zL G 2600 wv2) (zL G 13 f2) (zL G 13 g2))) := by
  obtain ⟨h8, h9, h10, h11, h12, h13, h14, h15, h16, h17, h18⟩ := hms
  obtain ⟨h19, h20, h21⟩ := hmc
  obtain ⟨h22, h23, h24⟩ := hmb
  have hg := hgs (pp) hpp
  have hg0 := hg
  obtain ⟨⟨g1, g2⟩, ⟨g3, g4⟩, ⟨g5, g6⟩, ⟨g7, g8⟩, ⟨g9, g10⟩, ⟨g11, g12⟩, g13, g14, g15, g16⟩ := hg0
  have gn : ((σ (pp)).1 : Int) = pn (σ (pp)) := rfl
  have hr0 := hRel (pp) hpp
  have hr0 := hRel pp hpp
  rw [← hpa] at hr0
  obtain ⟨r1, r2, r3, r4, r5, r6, r7, r8⟩ := hr0
  refine z_ofW (ret := none) hl0 (by decide +kernel) rfl (Nat.le_of_ble_eq_true rfl) ?_
  intro p e s m args below meth c A ls hA0 hsz hF hr hout hnm hw hl
  obtain ⟨hx, hb, hml, hown, hts, hK, hlk, hst⟩ := hF
  have hown : s.vm.findClass RX4 = some m.cls := hown
  have hl : lv_has ls 16 [(0, .ref (ad (8))), (1, zi (a)), (2, zi (ro)), (3, zl (hm))] := hl
  have w_0 := hts (.fieldLink RX4 7 "PileMovesModel" "many" "[I") (by decide +kernel)
  have w_1 : ∀ w ∈ wsX40, w ∈ wsX4_round := by decide +kernel
  have w_2 := hts (.constantLong RX4 135 (10)) (by decide +kernel)
  have w_3 := hts (.fieldLink RX4 59 "PileMovesModel" "at" "[J") (by decide +kernel)
  have w_4 := hts (.fieldLink RX4 62 "PileMovesModel" "speeds" "[J") (by decide +kernel)
  have w_5 := hts (.constantLong RX4 149 (-1000)) (by decide +kernel)
  have w_6 := hts (.constantLong RX4 151 (-1000000000)) (by decide +kernel)
  have w_7 := hts (.constantLong RX4 153 (1000000000)) (by decide +kernel)
  have w_8 := hts (.constantLong RX4 83 (1000)) (by decide +kernel)
  have w_9 := hts (.fieldLink RX4 51 "PileMovesModel" "waves" "[J") (by decide +kernel)
  have w_10 := hts (.fieldLink RX4 23 "PileMovesModel" "stiff" "[J") (by decide +kernel)
  have w_11 := hts (.fieldLink RX4 26 "PileMovesModel" "most" "[J") (by decide +kernel)
  have w_12 := hts (.fieldLink RX4 32 "PileMovesModel" "tipStiff" "[J") (by decide +kernel)
  have w_13 := hts (.fieldLink RX4 35 "PileMovesModel" "tipMost" "[J") (by decide +kernel)
  have w_14 := hts (.fieldLink RX4 17 "PileMovesModel" "masses" "[J") (by decide +kernel)
  have w_15 := hts (.fieldLink RX4 13 "PileMovesModel" "springs" "[J") (by decide +kernel)
  refine lv_aload_n hx hb dX4_round_0 rfl (lv_at hl 0 rfl) ?_
  refine z_get (C := RX4) (T := TX4) (N := 19) (fs := [zi (cd), zi (n), .ref (ad (9)), .ref (ad (10)), .ref (ad (11)), .ref (ad (12)), .ref (ad (13)), .ref (ad (14)), .ref (ad (15)), .ref (ad (16)), .ref (ad (17)), .ref (ad (18)), .ref (ad (19)), .ref (ad (20)), .ref (ad (21)), .ref (ad (22)), zi (bl), .ref (ad (23)), .ref (ad (24))]) hx hb hts w_1 hown hK hw (hM 8 (by decide) (by decide)) h8 rfl 2 (by decide) w_0 rfl rfl dX4_round_1 ?_
  refine lv_iload_n hx hb dX4_round_4 rfl (lv_at hl 1 rfl) ?_
  refine z_iald (f := Fmn) hx hb hK hw (hM 9 (by decide) (by decide)) h9 (by omega) (by omega) (by decide) dX4_round_5 ?_
  rw [show (Fmn (a) : Int) = pn (σ pp) from r1]
  have bn := hfB (pn (σ pp)) (by omega) (by omega)
  have b0 := hfB 0 (by omega) (by omega)
  have sn := hsB (pn (σ pp)) (by omega) (by omega)
  refine lv_istore (lv' := [(5, zi (pn (σ pp))), (0, .ref (ad (8))), (1, zi (a)), (2, zi (ro)), (3, zl (hm))]) hx hb dX4_round_6 hl (by decide) rfl (fun ls hl => ?_)
  refine z_ldc2 (n := 10) hx hb hown w_2 (by decide) dX4_round_8 ?_
  refine lv_aload_n hx hb dX4_round_11 rfl (lv_at hl 1 rfl) ?_
  refine z_get (C := RX4) (T := TX4) (N := 19) (fs := [zi (cd), zi (n), .ref (ad (9)), .ref (ad (10)), .ref (ad (11)), .ref (ad (12)), .ref (ad (13)), .ref (ad (14)), .ref (ad (15)), .ref (ad (16)), .ref (ad (17)), .ref (ad (18)), .ref (ad (19)), .ref (ad (20)), .ref (ad (21)), .ref (ad (22)), zi (bl), .ref (ad (23)), .ref (ad (24))]) hx hb hts w_1 hown hK hw (hM 8 (by decide) (by decide)) h8 rfl 17 (by decide) w_3 rfl rfl dX4_round_12 ?_
  refine lv_iload hx hb dX4_round_15 (lv_at hl 0 rfl) ?_
  refine z_lald (f := Fat) hx hb hK hw (hM 23 (by decide) (by decide)) h23 (by omega) (by omega) (by decide) dX4_round_17 ?_
  refine lv_aload_n hx hb dX4_round_18 rfl (lv_at hl 1 rfl) ?_
  refine z_get (C := RX4) (T := TX4) (N := 19) (fs := [zi (cd), zi (n), .ref (ad (9)), .ref (ad (10)), .ref (ad (11)), .ref (ad (12)), .ref (ad (13)), .ref (ad (14)), .ref (ad (15)), .ref (ad (16)), .ref (ad (17)), .ref (ad (18)), .ref (ad (19)), .ref (ad (20)), .ref (ad (21)), .ref (ad (22)), zi (bl), .ref (ad (23)), .ref (ad (24))]) hx hb hts w_1 hown hK hw (hM 8 (by decide) (by decide)) h8 rfl 17 (by decide) w_3 rfl rfl dX4_round_19 ?_
  refine z_ic hx hb dX4_round_22 ?_
  refine z_lald (f := Fat) hx hb hK hw (hM 23 (by decide) (by decide)) h23 (by decide) (by decide) (by decide) dX4_round_23 ?_
  refine z_lsub hx hb dX4_round_24 ?_
  refine z_lmul hx hb dX4_round_25 ?_
  refine lv_lstore (lv' := [(6, zl ((10) * ((Fat (pn (σ pp))) - (Fat (0))))), (5, zi (pn (σ pp))), (0, .ref (ad (8))), (1, zi (a)), (2, zi (ro)), (3, zl (hm))]) hx hb dX4_round_26 hl (by decide) rfl (fun ls hl => ?_)
  refine lv_lload hx hb dX4_round_28 (lv_at hl 0 rfl) ?_
  refine z_lc0 hx hb dX4_round_30 ?_
  refine z_lcmp_ge (tgt := 39) hx hb dX4_round_31 dX4_round_32 (by decide) ⟨by omega, by omega⟩ ⟨by decide, by decide⟩ (fun c_1 => ?_) (fun c_1 => ?_)
  · refine lv_lload hx hb dX4_round_39 (lv_at hl 0 rfl) ?_
    rw [show ((10) * ((Fat (pn (σ pp))) - (Fat (0))) : Int) = zcu (σ pp) Fat from (if_neg (by omega)).symm]
    have bC := zcu_bd hg hfB
    have hdC := ztdivb (x := (-1000) * zcu (σ pp) Fat) (d := hm) (B := 4000000000000) hm1 (by omega) (by omega)
    refine lv_lstore (lv' := [(6, zl (zcu (σ pp) Fat)), (5, zi (pn (σ pp))), (0, .ref (ad (8))), (1, zi (a)), (2, zi (ro)), (3, zl (hm))]) hx hb dX4_round_41 hl (by decide) rfl (fun ls hl => ?_)
    refine lv_aload_n hx hb dX4_round_43 rfl (lv_at hl 2 rfl) ?_
    refine z_get (C := RX4) (T := TX4) (N := 19) (fs := [zi (cd), zi (n), .ref (ad (9)), .ref (ad (10)), .ref (ad (11)), .ref (ad (12)), .ref (ad (13)), .ref (ad (14)), .ref (ad (15)), .ref (ad (16)), .ref (ad (17)), .ref (ad (18)), .ref (ad (19)), .ref (ad (20)), .ref (ad (21)), .ref (ad (22)), zi (bl), .ref (ad (23)), .ref (ad (24))]) hx hb hts w_1 hown hK hw (hM 8 (by decide) (by decide)) h8 rfl 18 (by decide) w_4 rfl rfl dX4_round_44 ?_
    refine lv_iload hx hb dX4_round_47 (lv_at hl 1 rfl) ?_
    refine lv_aload_n hx hb dX4_round_49 rfl (lv_at hl 2 rfl) ?_
    refine z_get (C := RX4) (T := TX4) (N := 19) (fs := [zi (cd), zi (n), .ref (ad (9)), .ref (ad (10)), .ref (ad (11)), .ref (ad (12)), .ref (ad (13)), .ref (ad (14)), .ref (ad (15)), .ref (ad (16)), .ref (ad (17)), .ref (ad (18)), .ref (ad (19)), .ref (ad (20)), .ref (ad (21)), .ref (ad (22)), zi (bl), .ref (ad (23)), .ref (ad (24))]) hx hb hts w_1 hown hK hw (hM 8 (by decide) (by decide)) h8 rfl 18 (by decide) w_4 rfl rfl dX4_round_50 ?_
    refine lv_iload hx hb dX4_round_53 (lv_at hl 1 rfl) ?_
    refine z_lald (f := Fsd) hx hb hK hw (hM 24 (by decide) (by decide)) h24 (by omega) (by omega) (by decide) dX4_round_55 ?_
    refine z_ldc2 (n := -1000) hx hb hown w_5 (by decide) dX4_round_56 ?_
    refine lv_lload hx hb dX4_round_59 (lv_at hl 0 rfl) ?_
    refine z_lmul hx hb dX4_round_61 ?_
    refine lv_lload_n hx hb dX4_round_62 rfl (lv_at hl 5 rfl) ?_
    refine z_ldiv hx hb dX4_round_63 ⟨by omega, by omega⟩ ⟨by omega, by omega⟩ (by omega) ?_
    refine z_ladd hx hb dX4_round_64 ?_
    refine z_ldc2 (n := -1000000000) hx hb hown w_6 (by decide) dX4_round_65 ?_
    refine z_ldc2 (n := 1000000000) hx hb hown w_7 (by decide) dX4_round_68 ?_
    refine z_kL (z_runS (As := [zl ((Fsd (pn (σ pp))) + (((-1000) * (zcu (σ pp) Fat)).tdiv (hm))), zl (-1000000000), zl (1000000000)]) (rest := [zi (pn (σ pp)), .ref (ad (24))]) ⟨hx, hb, hml, hown, hts⟩ hK hw (k_cut l hl0 G I ad _ _ ((Fsd (pn (σ pp))) + (((-1000) * (zcu (σ pp) Fat)).tdiv (hm))) (-1000000000) (1000000000) ⟨by omega, by omega⟩ ⟨by decide, by decide⟩ ⟨by decide, by decide⟩) (va_cwS 3 hts gX4_round_X4_cut rfl rfl rfl (by decide +kernel) ⟨Nat.le_of_ble_eq_true rfl, Nat.le_of_ble_eq_true rfl⟩) rfl hl.1 rfl (Nat.le_of_ble_eq_true rfl) dX4_round_71 ⟨Nat.le_of_ble_eq_true rfl, Nat.le_of_ble_eq_true rfl⟩) hw (fun r_2 ct_3 H locs hP hw => ?_)
    obtain ⟨rfl, hct⟩ := hP
    rw [hct] at hw
    clear hct
    rw [show (zcl ((Fsd (pn (σ pp))) + (((-1000) * (zcu (σ pp) Fat)).tdiv (hm))) (-1000000000) (1000000000) : Int) = znv (σ pp) hm Fat Fsd (pn (σ pp)) from zhv _ _ _ _]
    refine z_last (f := Fsd) hx hb hK hw (hM 24 (by decide) (by decide)) h24 (by omega) (by omega) (by decide) dX4_round_74 (fun H locs hw => ?_)
    refine lv_lload hx hb dX4_round_75 (lv_at hl 0 rfl) ?_
    refine lv_lstore (lv' := [(8, zl (zcu (σ pp) Fat)), (6, zl (zcu (σ pp) Fat)), (5, zi (pn (σ pp))), (0, .ref (ad (8))), (1, zi (a)), (2, zi (ro)), (3, zl (hm))]) hx hb dX4_round_77 hl (by decide) rfl (fun ls hl => ?_)
    refine z_ic hx hb dX4_round_79 ?_
    refine lv_istore (lv' := [(10, zi (0)), (8, zl (zcu (σ pp) Fat)), (6, zl (zcu (σ pp) Fat)), (5, zi (pn (σ pp))), (0, .ref (ad (8))), (1, zi (a)), (2, zi (ro)), (3, zl (hm))]) hx hb dX4_round_80 hl (by decide) rfl (fun ls hl => ?_)
    have L82 : ∀ (nn : Nat) (i : Int) (g2 : Int → Int) (pr : Int), ((13 - i).toNat) < nn → (0 ≤ i) → (i ≤ pn (σ pp)) → (zmw Fsd g2 (znv (σ pp) hm Fat Fsd) (pn (σ pp)) i) → (i < pn (σ pp) → pr = zab (σ pp) Fat i) → (-4000000000 ≤ pr ∧ pr ≤ 4000000000) → ∀ (H : Heap) (locs : List Loc), zW G A s.heap H locs I ad (zW3 ct (zL G 2600 Fwv) (zL G 13 Fat) (zL G 13 g2)) → ∀ ls, lv_has ls 16 [(0, .ref (ad (8))), (1, zi (a)), (2, zi (ro)), (3, zl (hm)), (5, zi (pn (σ pp))), (8, zl (pr)), (10, zi (i))] → W p l e ({ frames := 1, cells := 0, slots := 0, locals := 25 } : Room) s m args below meth c H locs 0 0 (vx_MQ below (zQ G A ad (zk I (zqv fun u => ∃ f2 g2 wv2 : Int → Int, (∀ x : Int, 0 ≤ x → x ≤ pn (σ pp) → f2 x = znp (σ pp) hm Fat Fsd x) ∧ (∀ x : Int, 0 ≤ x → x ≤ pn (σ pp) → g2 x = znv (σ pp) hm Fat Fsd x) ∧ zwr Fwv wv2 (znp (σ pp) hm Fat Fsd) (13 * ro) (pn (σ pp) + 1) ∧ u = zW3 ct (zL G 2600 wv2) (zL G 13 f2) (zL G 13 g2)))) (zX G A I ad ct zno) args s 0 0 A) (F0 m 82 ls []) := by
      intro nn
      induction nn with
      | zero => intro i g2 pr hme; exact absurd hme (Nat.not_lt_zero _)
      | succ nn ih82 =>
        intro i g2 pr hme82 hi0 hi1 hg2 hpr hprb H locs hw ls hl
        refine lv_iload hx hb dX4_round_82 (lv_at hl 6 rfl) ?_
        refine lv_iload hx hb dX4_round_84 (lv_at hl 4 rfl) ?_
        refine z_icmp_ge (tgt := 260) hx hb dX4_round_86 (by decide) ⟨by omega, by omega⟩ ⟨by omega, by omega⟩ (fun c_4 => ?_) (fun c_4 => ?_)
        · have hge := zmw_e hg2 (by omega)
          refine z_ic hx hb dX4_round_260 ?_
          refine lv_istore (lv' := [(10, zi (0)), (0, .ref (ad (8))), (1, zi (a)), (2, zi (ro)), (3, zl (hm)), (5, zi (pn (σ pp))), (8, zl (pr))]) hx hb dX4_round_261 hl (by decide) rfl (fun ls hl => ?_)
          have L263 : ∀ (nn : Nat) (i : Int) (f2 : Int → Int) (wv2 : Int → Int), ((14 - i).toNat) < nn → (0 ≤ i) → (i ≤ pn (σ pp) + 1) → (zmid Fat f2 (znp (σ pp) hm Fat Fsd) (pn (σ pp)) i) → (zwr Fwv wv2 (znp (σ pp) hm Fat Fsd) (13 * ro) i) → ∀ (H : Heap) (locs : List Loc), zW G A s.heap H locs I ad (zW3 ct (zL G 2600 wv2) (zL G 13 f2) (zL G 13 g2)) → ∀ ls, lv_has ls 16 [(0, .ref (ad (8))), (1, zi (a)), (2, zi (ro)), (3, zl (hm)), (5, zi (pn (σ pp))), (10, zi (i))] → W p l e ({ frames := 1, cells := 0, slots := 0, locals := 25 } : Room) s m args below meth c H locs 0 0 (vx_MQ below (zQ G A ad (zk I (zqv fun u => ∃ f2 g2 wv2 : Int → Int, (∀ x : Int, 0 ≤ x → x ≤ pn (σ pp) → f2 x = znp (σ pp) hm Fat Fsd x) ∧ (∀ x : Int, 0 ≤ x → x ≤ pn (σ pp) → g2 x = znv (σ pp) hm Fat Fsd x) ∧ zwr Fwv wv2 (znp (σ pp) hm Fat Fsd) (13 * ro) (pn (σ pp) + 1) ∧ u = zW3 ct (zL G 2600 wv2) (zL G 13 f2) (zL G 13 g2)))) (zX G A I ad ct zno) args s 0 0 A) (F0 m 263 ls []) := by
            intro nn
            induction nn with
            | zero => intro i f2 wv2 hme; exact absurd hme (Nat.not_lt_zero _)
            | succ nn ih263 =>
              intro i f2 wv2 hme263 hi0 hi1 hf2 hwv H locs hw ls hl
              refine lv_iload hx hb dX4_round_263 (lv_at hl 5 rfl) ?_
              refine lv_iload hx hb dX4_round_265 (lv_at hl 4 rfl) ?_
              refine z_icmp_gt (tgt := 316) hx hb dX4_round_267 (by decide) ⟨by omega, by omega⟩ ⟨by omega, by omega⟩ (fun c_5 => ?_) (fun c_5 => ?_)
              · exact z_vret hx hb hlk hr hw dX4_round_316 (Nat.le_of_ble_eq_true rfl) (Nat.le_of_ble_eq_true rfl) ⟨rfl, rfl, ⟨f2, g2, wv2, zmid_e hf2 (by omega), hge, by rw [show i = pn (σ pp) + 1 by omega] at hwv; exact hwv, rfl⟩⟩
              · refine lv_aload_n hx hb dX4_round_270 rfl (lv_at hl 0 rfl) ?_
                refine z_get (C := RX4) (T := TX4) (N := 19) (fs := [zi (cd), zi (n), .ref (ad (9)), .ref (ad (10)), .ref (ad (11)), .ref (ad (12)), .ref (ad (13)), .ref (ad (14)), .ref (ad (15)), .ref (ad (16)), .ref (ad (17)), .ref (ad (18)), .ref (ad (19)), .ref (ad (20)), .ref (ad (21)), .ref (ad (22)), zi (bl), .ref (ad (23)), .ref (ad (24))]) hx hb hts w_1 hown hK hw (hM 8 (by decide) (by decide)) (zW3_n (by omega) h8) rfl 17 (by decide) w_3 rfl rfl dX4_round_271 ?_
                refine lv_iload hx hb dX4_round_274 (lv_at hl 5 rfl) ?_
                refine lv_dup2_11 hx hb dX4_round_276 rfl rfl ?_
                refine z_lald (f := f2) hx hb hK hw (hM 23 (by decide) (by decide)) rfl (by omega) (by omega) (by decide) dX4_round_277 ?_
                rw [show (f2 (i) : Int) = Fat (i) from zmid_at hf2 (by omega) (by omega)]
                have bv := znv_bd (σ pp) hm Fat Fsd i
                refine lv_aload_n hx hb dX4_round_278 rfl (lv_at hl 0 rfl) ?_
                refine z_get (C := RX4) (T := TX4) (N := 19) (fs := [zi (cd), zi (n), .ref (ad (9)), .ref (ad (10)), .ref (ad (11)), .ref (ad (12)), .ref (ad (13)), .ref (ad (14)), .ref (ad (15)), .ref (ad (16)), .ref (ad (17)), .ref (ad (18)), .ref (ad (19)), .ref (ad (20)), .ref (ad (21)), .ref (ad (22)), zi (bl), .ref (ad (23)), .ref (ad (24))]) hx hb hts w_1 hown hK hw (hM 8 (by decide) (by decide)) (zW3_n (by omega) h8) rfl 18 (by decide) w_4 rfl rfl dX4_round_279 ?_
                refine lv_iload hx hb dX4_round_282 (lv_at hl 5 rfl) ?_
                refine z_lald (f := g2) hx hb hK hw (hM 24 (by decide) (by decide)) rfl (by omega) (by omega) (by decide) dX4_round_284 ?_
                rw [show (g2 (i) : Int) = znv (σ pp) hm Fat Fsd (i) from hge i (by omega) (by omega)]
                refine z_ldc2 (n := 1000) hx hb hown w_8 (by decide) dX4_round_285 ?_
                refine z_ldiv hx hb dX4_round_288 ⟨by omega, by omega⟩ ⟨by decide, by decide⟩ (by decide) ?_
                refine z_ladd hx hb dX4_round_289 ?_
                rw [show ((Fat (i)) + ((znv (σ pp) hm Fat Fsd (i)).tdiv (1000)) : Int) = znp (σ pp) hm Fat Fsd (i) from rfl]
                refine z_last (f := f2) hx hb hK hw (hM 23 (by decide) (by decide)) rfl (by omega) (by omega) (by decide) dX4_round_290 (fun H locs hw => ?_)
                refine lv_aload_n hx hb dX4_round_291 rfl (lv_at hl 0 rfl) ?_
                refine z_get (C := RX4) (T := TX4) (N := 19) (fs := [zi (cd), zi (n), .ref (ad (9)), .ref (ad (10)), .ref (ad (11)), .ref (ad (12)), .ref (ad (13)), .ref (ad (14)), .ref (ad (15)), .ref (ad (16)), .ref (ad (17)), .ref (ad (18)), .ref (ad (19)), .ref (ad (20)), .ref (ad (21)), .ref (ad (22)), zi (bl), .ref (ad (23)), .ref (ad (24))]) hx hb hts w_1 hown hK hw (hM 8 (by decide) (by decide)) (zU_n (by decide) (zW3_n (by omega) h8)) rfl 15 (by decide) w_9 rfl rfl dX4_round_292 ?_
                refine z_bi hx hb dX4_round_295 (by decide) ?_
                refine lv_iload_n hx hb dX4_round_297 rfl (lv_at hl 2 rfl) ?_
                refine z_imul hx hb dX4_round_298 ?_
                refine lv_iload hx hb dX4_round_299 (lv_at hl 5 rfl) ?_
                refine z_iadd hx hb dX4_round_301 ?_
                refine lv_aload_n hx hb dX4_round_302 rfl (lv_at hl 0 rfl) ?_
                refine z_get (C := RX4) (T := TX4) (N := 19) (fs := [zi (cd), zi (n), .ref (ad (9)), .ref (ad (10)), .ref (ad (11)), .ref (ad (12)), .ref (ad (13)), .ref (ad (14)), .ref (ad (15)), .ref (ad (16)), .ref (ad (17)), .ref (ad (18)), .ref (ad (19)), .ref (ad (20)), .ref (ad (21)), .ref (ad (22)), zi (bl), .ref (ad (23)), .ref (ad (24))]) hx hb hts w_1 hown hK hw (hM 8 (by decide) (by decide)) (zU_n (by decide) (zW3_n (by omega) h8)) rfl 17 (by decide) w_3 rfl rfl dX4_round_303 ?_
                refine lv_iload hx hb dX4_round_306 (lv_at hl 5 rfl) ?_
                refine z_lald (f := zup (f2) (i) (znp (σ pp) hm Fat Fsd (i))) hx hb hK hw (hM 23 (by decide) (by decide)) (zU_s _ _ _) (by omega) (by omega) (by decide) dX4_round_308 ?_
                rw [show ((zup (f2) (i) (znp (σ pp) hm Fat Fsd (i))) (i) : Int) = znp (σ pp) hm Fat Fsd (i) from zup_s _ _ _]
                refine z_last (f := wv2) hx hb hK hw (hM 22 (by decide) (by decide)) (zU_n (by decide) rfl) (by omega) (by omega) (by decide) dX4_round_309 (fun H locs hw => ?_)
                refine z_iinc (lv' := [(10, zi (i + 1)), (0, .ref (ad (8))), (1, zi (a)), (2, zi (ro)), (3, zl (hm)), (5, zi (pn (σ pp)))]) hx hb dX4_round_310 hl (k := 5) rfl (by decide) rfl (fun ls hl => ?_)
                refine lv_goto (tgt := 263) hx hb dX4_round_313 (by decide) ?_
                exact ih263 (i + 1) (zup (f2) (i) (znp (σ pp) hm Fat Fsd (i))) (zup (wv2) (((13) * (ro)) + (i)) (znp (σ pp) hm Fat Fsd (i))) (by omega) (by omega) (by omega) (zmid_s hf2 rfl) (zwr_s hwv (by omega) (by omega) rfl) _ _ (zWe hw (by simp only [zW3_p22, zW3_p23, zW3_p24, zW3_zW3])) _ (lv_sub hl [1, 2, 3, 4, 5, 0] rfl)
          exact L263 _ (0) (Fat) (Fwv) (Nat.lt_succ_self _) (by omega) (by omega) (zmid_0 _ _ _) (zwr_0 _ _ _) _ _ (zWe hw (by simp only [zW3_p22, zW3_p23, zW3_p24, zW3_zW3])) _ (lv_sub hl [1, 2, 3, 4, 5, 0] rfl)
        · obtain ⟨rs1, rs2, rs3⟩ := r8 i (by omega) (by omega)
          have bs := g14 i
          have bm := g15 i
          have bf := hfB i (by omega) (by omega)
          have bg := hsB i (by omega) (by omega)
          have b7 := zmulb (B := 200000000) bs.1 bs.2 bf.1 bf.2
          have b8 := zt1000 (x := pst (σ pp) i * Fat i) (B := 200000000) (by omega) (by omega)
          have bG := zgb_bd hg Fat i
          refine z_bi hx hb dX4_round_89 (by decide) ?_
          refine lv_iload_n hx hb dX4_round_91 rfl (lv_at hl 1 rfl) ?_
          refine z_imul hx hb dX4_round_92 ?_
          refine lv_iload hx hb dX4_round_93 (lv_at hl 6 rfl) ?_
          refine z_iadd hx hb dX4_round_95 ?_
          refine lv_istore (lv' := [(11, zi (((12) * (a)) + (i))), (0, .ref (ad (8))), (1, zi (a)), (2, zi (ro)), (3, zl (hm)), (5, zi (pn (σ pp))), (8, zl (pr)), (10, zi (i))]) hx hb dX4_round_96 hl (by decide) rfl (fun ls hl => ?_)
          refine lv_aload_n hx hb dX4_round_98 rfl (lv_at hl 1 rfl) ?_
          refine z_get (C := RX4) (T := TX4) (N := 19) (fs := [zi (cd), zi (n), .ref (ad (9)), .ref (ad (10)), .ref (ad (11)), .ref (ad (12)), .ref (ad (13)), .ref (ad (14)), .ref (ad (15)), .ref (ad (16)), .ref (ad (17)), .ref (ad (18)), .ref (ad (19)), .ref (ad (20)), .ref (ad (21)), .ref (ad (22)), zi (bl), .ref (ad (23)), .ref (ad (24))]) hx hb hts w_1 hown hK hw (hM 8 (by decide) (by decide)) (zW3_n (by omega) h8) rfl 6 (by decide) w_10 rfl rfl dX4_round_99 ?_
          refine lv_iload hx hb dX4_round_102 (lv_at hl 0 rfl) ?_
          refine z_lald (f := Fst) hx hb hK hw (hM 13 (by decide) (by decide)) (zW3_n (by omega) h13) (by omega) (by omega) (by decide) dX4_round_104 ?_
          rw [show (Fst (((12) * (a)) + (i)) : Int) = pst (σ pp) (i) from rs1]
          refine lv_aload_n hx hb dX4_round_105 rfl (lv_at hl 1 rfl) ?_
          refine z_get (C := RX4) (T := TX4) (N := 19) (fs := [zi (cd), zi (n), .ref (ad (9)), .ref (ad (10)), .ref (ad (11)), .ref (ad (12)), .ref (ad (13)), .ref (ad (14)), .ref (ad (15)), .ref (ad (16)), .ref (ad (17)), .ref (ad (18)), .ref (ad (19)), .ref (ad (20)), .ref (ad (21)), .ref (ad (22)), zi (bl), .ref (ad (23)), .ref (ad (24))]) hx hb hts w_1 hown hK hw (hM 8 (by decide) (by decide)) (zW3_n (by omega) h8) rfl 17 (by decide) w_3 rfl rfl dX4_round_106 ?_
          refine lv_iload hx hb dX4_round_109 (lv_at hl 7 rfl) ?_
          refine z_lald (f := Fat) hx hb hK hw (hM 23 (by decide) (by decide)) rfl (by omega) (by omega) (by decide) dX4_round_111 ?_
          refine z_lmul hx hb dX4_round_112 ?_
          refine z_ldc2 (n := 1000) hx hb hown w_8 (by decide) dX4_round_113 ?_
          refine z_ldiv hx hb dX4_round_116 ⟨by omega, by omega⟩ ⟨by decide, by decide⟩ (by decide) ?_
          refine lv_aload_n hx hb dX4_round_117 rfl (lv_at hl 1 rfl) ?_
          refine z_get (C := RX4) (T := TX4) (N := 19) (fs := [zi (cd), zi (n), .ref (ad (9)), .ref (ad (10)), .ref (ad (11)), .ref (ad (12)), .ref (ad (13)), .ref (ad (14)), .ref (ad (15)), .ref (ad (16)), .ref (ad (17)), .ref (ad (18)), .ref (ad (19)), .ref (ad (20)), .ref (ad (21)), .ref (ad (22)), zi (bl), .ref (ad (23)), .ref (ad (24))]) hx hb hts w_1 hown hK hw (hM 8 (by decide) (by decide)) (zW3_n (by omega) h8) rfl 7 (by decide) w_11 rfl rfl dX4_round_118 ?_
          refine lv_iload hx hb dX4_round_121 (lv_at hl 0 rfl) ?_
          refine z_lald (f := Fmo) hx hb hK hw (hM 14 (by decide) (by decide)) (zW3_n (by omega) h14) (by omega) (by omega) (by decide) dX4_round_123 ?_
          rw [show (Fmo (((12) * (a)) + (i)) : Int) = pmo (σ pp) (i) from rs2]
          refine z_lneg hx hb dX4_round_124 ?_
          refine lv_aload_n hx hb dX4_round_125 rfl (lv_at hl 1 rfl) ?_
          refine z_get (C := RX4) (T := TX4) (N := 19) (fs := [zi (cd), zi (n), .ref (ad (9)), .ref (ad (10)), .ref (ad (11)), .ref (ad (12)), .ref (ad (13)), .ref (ad (14)), .ref (ad (15)), .ref (ad (16)), .ref (ad (17)), .ref (ad (18)), .ref (ad (19)), .ref (ad (20)), .ref (ad (21)), .ref (ad (22)), zi (bl), .ref (ad (23)), .ref (ad (24))]) hx hb hts w_1 hown hK hw (hM 8 (by decide) (by decide)) (zW3_n (by omega) h8) rfl 7 (by decide) w_11 rfl rfl dX4_round_126 ?_
          refine lv_iload hx hb dX4_round_129 (lv_at hl 0 rfl) ?_
          refine z_lald (f := Fmo) hx hb hK hw (hM 14 (by decide) (by decide)) (zW3_n (by omega) h14) (by omega) (by omega) (by decide) dX4_round_131 ?_
          rw [show (Fmo (((12) * (a)) + (i)) : Int) = pmo (σ pp) (i) from rs2]
          refine z_kL (z_runS (As := [zl (((pst (σ pp) (i)) * (Fat (i))).tdiv (1000)), zl (-(pmo (σ pp) (i))), zl (pmo (σ pp) (i))]) (rest := []) ⟨hx, hb, hml, hown, hts⟩ hK hw (k_cut l hl0 G I ad _ _ (((pst (σ pp) (i)) * (Fat (i))).tdiv (1000)) (-(pmo (σ pp) (i))) (pmo (σ pp) (i)) ⟨by omega, by omega⟩ ⟨by omega, by omega⟩ ⟨by omega, by omega⟩) (va_cwS 3 hts gX4_round_X4_cut rfl rfl rfl (by decide +kernel) ⟨Nat.le_of_ble_eq_true rfl, Nat.le_of_ble_eq_true rfl⟩) rfl hl.1 rfl (Nat.le_of_ble_eq_true rfl) dX4_round_132 ⟨Nat.le_of_ble_eq_true rfl, Nat.le_of_ble_eq_true rfl⟩) hw (fun r_6 ct_7 H locs hP hw => ?_)
          obtain ⟨rfl, hct⟩ := hP
          rw [hct] at hw
          clear hct
          rw [show (zcl (((pst (σ pp) (i)) * (Fat (i))).tdiv (1000)) (-(pmo (σ pp) (i))) (pmo (σ pp) (i)) : Int) = zgb (σ pp) Fat (i) from rfl]
          refine lv_lstore (lv' := [(12, zl (zgb (σ pp) Fat (i))), (11, zi (((12) * (a)) + (i))), (0, .ref (ad (8))), (1, zi (a)), (2, zi (ro)), (3, zl (hm)), (5, zi (pn (σ pp))), (8, zl (pr)), (10, zi (i))]) hx hb dX4_round_135 hl (by decide) rfl (fun ls hl => ?_)
          refine lv_iload hx hb dX4_round_137 (lv_at hl 8 rfl) ?_
          refine z_ic hx hb dX4_round_139 ?_
          refine z_iadd hx hb dX4_round_140 ?_
          refine lv_iload hx hb dX4_round_141 (lv_at hl 6 rfl) ?_
          refine z_icmp_ge (tgt := 177) hx hb dX4_round_143 (by decide) ⟨by omega, by omega⟩ ⟨by omega, by omega⟩ (fun c_8 => ?_) (fun c_8 => ?_)
          · refine lv_aload_n hx hb dX4_round_177 rfl (lv_at hl 2 rfl) ?_
            refine z_get (C := RX4) (T := TX4) (N := 19) (fs := [zi (cd), zi (n), .ref (ad (9)), .ref (ad (10)), .ref (ad (11)), .ref (ad (12)), .ref (ad (13)), .ref (ad (14)), .ref (ad (15)), .ref (ad (16)), .ref (ad (17)), .ref (ad (18)), .ref (ad (19)), .ref (ad (20)), .ref (ad (21)), .ref (ad (22)), zi (bl), .ref (ad (23)), .ref (ad (24))]) hx hb hts w_1 hown hK hw (hM 8 (by decide) (by decide)) (zW3_n (by omega) h8) rfl 9 (by decide) w_12 rfl rfl dX4_round_178 ?_
            refine lv_iload_n hx hb dX4_round_181 rfl (lv_at hl 3 rfl) ?_
            refine z_lald (f := Fts) hx hb hK hw (hM 16 (by decide) (by decide)) (zW3_n (by omega) h16) (by omega) (by omega) (by decide) dX4_round_182 ?_
            rw [show (Fts (a) : Int) = pts (σ pp) from r5]
            have b9 := zmulb (B := 200000000) g9 g10 bf.1 bf.2
            have b10 := zt1000 (x := pts (σ pp) * Fat i) (B := 200000000) (by omega) (by omega)
            refine lv_aload_n hx hb dX4_round_183 rfl (lv_at hl 2 rfl) ?_
            refine z_get (C := RX4) (T := TX4) (N := 19) (fs := [zi (cd), zi (n), .ref (ad (9)), .ref (ad (10)), .ref (ad (11)), .ref (ad (12)), .ref (ad (13)), .ref (ad (14)), .ref (ad (15)), .ref (ad (16)), .ref (ad (17)), .ref (ad (18)), .ref (ad (19)), .ref (ad (20)), .ref (ad (21)), .ref (ad (22)), zi (bl), .ref (ad (23)), .ref (ad (24))]) hx hb hts w_1 hown hK hw (hM 8 (by decide) (by decide)) (zW3_n (by omega) h8) rfl 17 (by decide) w_3 rfl rfl dX4_round_184 ?_
            refine lv_iload hx hb dX4_round_187 (lv_at hl 8 rfl) ?_
            refine z_lald (f := Fat) hx hb hK hw (hM 23 (by decide) (by decide)) rfl (by omega) (by omega) (by decide) dX4_round_189 ?_
            refine z_lmul hx hb dX4_round_190 ?_
            refine z_ldc2 (n := 1000) hx hb hown w_8 (by decide) dX4_round_191 ?_
            refine z_ldiv hx hb dX4_round_194 ⟨by omega, by omega⟩ ⟨by decide, by decide⟩ (by decide) ?_
            refine z_lc0 hx hb dX4_round_195 ?_
            refine lv_aload_n hx hb dX4_round_196 rfl (lv_at hl 2 rfl) ?_
            refine z_get (C := RX4) (T := TX4) (N := 19) (fs := [zi (cd), zi (n), .ref (ad (9)), .ref (ad (10)), .ref (ad (11)), .ref (ad (12)), .ref (ad (13)), .ref (ad (14)), .ref (ad (15)), .ref (ad (16)), .ref (ad (17)), .ref (ad (18)), .ref (ad (19)), .ref (ad (20)), .ref (ad (21)), .ref (ad (22)), zi (bl), .ref (ad (23)), .ref (ad (24))]) hx hb hts w_1 hown hK hw (hM 8 (by decide) (by decide)) (zW3_n (by omega) h8) rfl 10 (by decide) w_13 rfl rfl dX4_round_197 ?_
            refine lv_iload_n hx hb dX4_round_200 rfl (lv_at hl 3 rfl) ?_
            refine z_lald (f := Ftm) hx hb hK hw (hM 17 (by decide) (by decide)) (zW3_n (by omega) h17) (by omega) (by omega) (by decide) dX4_round_201 ?_
            rw [show (Ftm (a) : Int) = ptm (σ pp) from r6]
            refine z_kL (z_runS (As := [zl (((pts (σ pp)) * (Fat (i))).tdiv (1000)), zl (0), zl (ptm (σ pp))]) (rest := []) ⟨hx, hb, hml, hown, hts⟩ hK hw (k_cut l hl0 G I ad _ _ (((pts (σ pp)) * (Fat (i))).tdiv (1000)) (0) (ptm (σ pp)) ⟨by omega, by omega⟩ ⟨by decide, by decide⟩ ⟨by omega, by omega⟩) (va_cwS 3 hts gX4_round_X4_cut rfl rfl rfl (by decide +kernel) ⟨Nat.le_of_ble_eq_true rfl, Nat.le_of_ble_eq_true rfl⟩) rfl hl.1 rfl (Nat.le_of_ble_eq_true rfl) dX4_round_202 ⟨Nat.le_of_ble_eq_true rfl, Nat.le_of_ble_eq_true rfl⟩) hw (fun r_9 ct_10 H locs hP hw => ?_)
            obtain ⟨rfl, hct⟩ := hP
            rw [hct] at hw
            clear hct
            rw [show (zcl (((pts (σ pp)) * (Fat (i))).tdiv (1000)) (0) (ptm (σ pp)) : Int) = zbe (σ pp) Fat (i) from by unfold zbe ztb; rw [if_neg (by omega), show pn (σ pp) - 1 = i by omega]]
            have bB := zbe_bd hg hfB hi0 (by omega)
            refine lv_lstore (lv' := [(14, zl (zbe (σ pp) Fat (i))), (12, zl (zgb (σ pp) Fat (i))), (11, zi (((12) * (a)) + (i))), (0, .ref (ad (8))), (1, zi (a)), (2, zi (ro)), (3, zl (hm)), (5, zi (pn (σ pp))), (8, zl (pr)), (10, zi (i))]) hx hb dX4_round_205 hl (by decide) rfl (fun ls hl => ?_)
            refine lv_aload_n hx hb dX4_round_207 rfl (lv_at hl 3 rfl) ?_
            refine z_get (C := RX4) (T := TX4) (N := 19) (fs := [zi (cd), zi (n), .ref (ad (9)), .ref (ad (10)), .ref (ad (11)), .ref (ad (12)), .ref (ad (13)), .ref (ad (14)), .ref (ad (15)), .ref (ad (16)), .ref (ad (17)), .ref (ad (18)), .ref (ad (19)), .ref (ad (20)), .ref (ad (21)), .ref (ad (22)), zi (bl), .ref (ad (23)), .ref (ad (24))]) hx hb hts w_1 hown hK hw (hM 8 (by decide) (by decide)) (zW3_n (by omega) h8) rfl 18 (by decide) w_4 rfl rfl dX4_round_208 ?_
            refine lv_iload hx hb dX4_round_211 (lv_at hl 9 rfl) ?_
            refine lv_aload_n hx hb dX4_round_213 rfl (lv_at hl 3 rfl) ?_
            refine z_get (C := RX4) (T := TX4) (N := 19) (fs := [zi (cd), zi (n), .ref (ad (9)), .ref (ad (10)), .ref (ad (11)), .ref (ad (12)), .ref (ad (13)), .ref (ad (14)), .ref (ad (15)), .ref (ad (16)), .ref (ad (17)), .ref (ad (18)), .ref (ad (19)), .ref (ad (20)), .ref (ad (21)), .ref (ad (22)), zi (bl), .ref (ad (23)), .ref (ad (24))]) hx hb hts w_1 hown hK hw (hM 8 (by decide) (by decide)) (zW3_n (by omega) h8) rfl 18 (by decide) w_4 rfl rfl dX4_round_214 ?_
            refine lv_iload hx hb dX4_round_217 (lv_at hl 9 rfl) ?_
            refine z_lald (f := g2) hx hb hK hw (hM 24 (by decide) (by decide)) rfl (by omega) (by omega) (by decide) dX4_round_219 ?_
            rw [show (g2 (i) : Int) = Fsd (i) from zmw_at hg2 (by omega) (by omega)]
            refine z_ldc2 (n := 1000) hx hb hown w_8 (by decide) dX4_round_220 ?_
            refine lv_lload hx hb dX4_round_223 (lv_at hl 8 rfl) ?_
            refine lv_lload hx hb dX4_round_225 (lv_at hl 1 rfl) ?_
            refine z_lsub hx hb dX4_round_227 ?_
            refine lv_lload hx hb dX4_round_228 (lv_at hl 0 rfl) ?_
            refine z_lsub hx hb dX4_round_230 ?_
            refine z_lmul hx hb dX4_round_231 ?_
            refine lv_aload_n hx hb dX4_round_232 rfl (lv_at hl 3 rfl) ?_
            refine z_get (C := RX4) (T := TX4) (N := 19) (fs := [zi (cd), zi (n), .ref (ad (9)), .ref (ad (10)), .ref (ad (11)), .ref (ad (12)), .ref (ad (13)), .ref (ad (14)), .ref (ad (15)), .ref (ad (16)), .ref (ad (17)), .ref (ad (18)), .ref (ad (19)), .ref (ad (20)), .ref (ad (21)), .ref (ad (22)), zi (bl), .ref (ad (23)), .ref (ad (24))]) hx hb hts w_1 hown hK hw (hM 8 (by decide) (by decide)) (zW3_n (by omega) h8) rfl 4 (by decide) w_14 rfl rfl dX4_round_233 ?_
            refine lv_iload_n hx hb dX4_round_236 rfl (lv_at hl 4 rfl) ?_
            refine z_lald (f := Fms) hx hb hK hw (hM 11 (by decide) (by decide)) (zW3_n (by omega) h11) (by omega) (by omega) (by decide) dX4_round_237 ?_
            rw [show (Fms (a) : Int) = pma (σ pp) from r3]
            have hdM := ztdivb (x := 1000 * (pr - zgb (σ pp) Fat i - zbe (σ pp) Fat i)) (d := pma (σ pp)) (B := 20000000000000) g5 (by omega) (by omega)
            refine z_ldiv hx hb dX4_round_238 ⟨by omega, by omega⟩ ⟨by omega, by omega⟩ (by omega) ?_
            refine z_ladd hx hb dX4_round_239 ?_
            refine z_ldc2 (n := -1000000000) hx hb hown w_6 (by decide) dX4_round_240 ?_
            refine z_ldc2 (n := 1000000000) hx hb hown w_7 (by decide) dX4_round_243 ?_
            refine z_kL (z_runS (As := [zl ((Fsd (i)) + (((1000) * (((pr) - (zgb (σ pp) Fat (i))) - (zbe (σ pp) Fat (i)))).tdiv (pma (σ pp)))), zl (-1000000000), zl (1000000000)]) (rest := [zi (i), .ref (ad (24))]) ⟨hx, hb, hml, hown, hts⟩ hK hw (k_cut l hl0 G I ad _ _ ((Fsd (i)) + (((1000) * (((pr) - (zgb (σ pp) Fat (i))) - (zbe (σ pp) Fat (i)))).tdiv (pma (σ pp)))) (-1000000000) (1000000000) ⟨by omega, by omega⟩ ⟨by decide, by decide⟩ ⟨by decide, by decide⟩) (va_cwS 3 hts gX4_round_X4_cut rfl rfl rfl (by decide +kernel) ⟨Nat.le_of_ble_eq_true rfl, Nat.le_of_ble_eq_true rfl⟩) rfl hl.1 rfl (Nat.le_of_ble_eq_true rfl) dX4_round_246 ⟨Nat.le_of_ble_eq_true rfl, Nat.le_of_ble_eq_true rfl⟩) hw (fun r_11 ct_12 H locs hP hw => ?_)
            obtain ⟨rfl, hct⟩ := hP
            rw [hct] at hw
            clear hct
            rw [show (zcl ((Fsd (i)) + (((1000) * (((pr) - (zgb (σ pp) Fat (i))) - (zbe (σ pp) Fat (i)))).tdiv (pma (σ pp)))) (-1000000000) (1000000000) : Int) = znv (σ pp) hm Fat Fsd (i) from zhv2 _ _ (by omega) (hpr (by omega))]
            refine z_last (f := g2) hx hb hK hw (hM 24 (by decide) (by decide)) rfl (by omega) (by omega) (by decide) dX4_round_249 (fun H locs hw => ?_)
            refine lv_lload hx hb dX4_round_250 (lv_at hl 0 rfl) ?_
            refine lv_lstore (lv' := [(8, zl (zbe (σ pp) Fat (i))), (14, zl (zbe (σ pp) Fat (i))), (12, zl (zgb (σ pp) Fat (i))), (11, zi (((12) * (a)) + (i))), (0, .ref (ad (8))), (1, zi (a)), (2, zi (ro)), (3, zl (hm)), (5, zi (pn (σ pp))), (10, zi (i))]) hx hb dX4_round_252 hl (by decide) rfl (fun ls hl => ?_)
            refine z_iinc (lv' := [(10, zi (i + 1)), (8, zl (zbe (σ pp) Fat (i))), (14, zl (zbe (σ pp) Fat (i))), (12, zl (zgb (σ pp) Fat (i))), (11, zi (((12) * (a)) + (i))), (0, .ref (ad (8))), (1, zi (a)), (2, zi (ro)), (3, zl (hm)), (5, zi (pn (σ pp)))]) hx hb dX4_round_254 hl (k := 9) rfl (by decide) rfl (fun ls hl => ?_)
            refine lv_goto (tgt := 82) hx hb dX4_round_257 (by decide) ?_
            exact ih82 (i + 1) (zup (g2) (i) (znv (σ pp) hm Fat Fsd (i))) (zbe (σ pp) Fat (i)) (by omega) (by omega) (by omega) (zmw_s hg2 rfl) (fun h9 => zab_s (by omega) (by omega)) (by omega) _ _ (zWe hw (by simp only [zW3_p22, zW3_p23, zW3_p24, zW3_zW3])) _ (lv_sub hl [5, 6, 7, 8, 9, 1, 0] rfl)
          · refine lv_aload_n hx hb dX4_round_146 rfl (lv_at hl 2 rfl) ?_
            refine z_get (C := RX4) (T := TX4) (N := 19) (fs := [zi (cd), zi (n), .ref (ad (9)), .ref (ad (10)), .ref (ad (11)), .ref (ad (12)), .ref (ad (13)), .ref (ad (14)), .ref (ad (15)), .ref (ad (16)), .ref (ad (17)), .ref (ad (18)), .ref (ad (19)), .ref (ad (20)), .ref (ad (21)), .ref (ad (22)), zi (bl), .ref (ad (23)), .ref (ad (24))]) hx hb hts w_1 hown hK hw (hM 8 (by decide) (by decide)) (zW3_n (by omega) h8) rfl 3 (by decide) w_15 rfl rfl dX4_round_147 ?_
            refine lv_iload_n hx hb dX4_round_150 rfl (lv_at hl 3 rfl) ?_
            refine z_lald (f := Fsp) hx hb hK hw (hM 10 (by decide) (by decide)) (zW3_n (by omega) h10) (by omega) (by omega) (by decide) dX4_round_151 ?_
            rw [show (Fsp (a) : Int) = psp (σ pp) from r2]
            have b4 := (zsf_bd hg hfB (i := i) (by omega) (by omega)).1
            refine lv_aload_n hx hb dX4_round_152 rfl (lv_at hl 2 rfl) ?_
            refine z_get (C := RX4) (T := TX4) (N := 19) (fs := [zi (cd), zi (n), .ref (ad (9)), .ref (ad (10)), .ref (ad (11)), .ref (ad (12)), .ref (ad (13)), .ref (ad (14)), .ref (ad (15)), .ref (ad (16)), .ref (ad (17)), .ref (ad (18)), .ref (ad (19)), .ref (ad (20)), .ref (ad (21)), .ref (ad (22)), zi (bl), .ref (ad (23)), .ref (ad (24))]) hx hb hts w_1 hown hK hw (hM 8 (by decide) (by decide)) (zW3_n (by omega) h8) rfl 17 (by decide) w_3 rfl rfl dX4_round_153 ?_
            refine lv_iload hx hb dX4_round_156 (lv_at hl 8 rfl) ?_
            refine z_lald (f := Fat) hx hb hK hw (hM 23 (by decide) (by decide)) rfl (by omega) (by omega) (by decide) dX4_round_158 ?_
            refine lv_aload_n hx hb dX4_round_159 rfl (lv_at hl 2 rfl) ?_
            refine z_get (C := RX4) (T := TX4) (N := 19) (fs := [zi (cd), zi (n), .ref (ad (9)), .ref (ad (10)), .ref (ad (11)), .ref (ad (12)), .ref (ad (13)), .ref (ad (14)), .ref (ad (15)), .ref (ad (16)), .ref (ad (17)), .ref (ad (18)), .ref (ad (19)), .ref (ad (20)), .ref (ad (21)), .ref (ad (22)), zi (bl), .ref (ad (23)), .ref (ad (24))]) hx hb hts w_1 hown hK hw (hM 8 (by decide) (by decide)) (zW3_n (by omega) h8) rfl 17 (by decide) w_3 rfl rfl dX4_round_160 ?_
            refine lv_iload hx hb dX4_round_163 (lv_at hl 8 rfl) ?_
            refine z_ic hx hb dX4_round_165 ?_
            refine z_iadd hx hb dX4_round_166 ?_
            refine z_lald (f := Fat) hx hb hK hw (hM 23 (by decide) (by decide)) rfl (by omega) (by omega) (by decide) dX4_round_167 ?_
            refine z_lsub hx hb dX4_round_168 ?_
            refine z_lmul hx hb dX4_round_169 ?_
            refine z_ldc2 (n := 1000) hx hb hown w_8 (by decide) dX4_round_170 ?_
            refine z_ldiv hx hb dX4_round_173 ⟨by omega, by omega⟩ ⟨by decide, by decide⟩ (by decide) ?_
            rw [show (((psp (σ pp)) * ((Fat (i)) - (Fat ((i) + (1))))).tdiv (1000) : Int) = zsf (σ pp) Fat (i) from rfl]
            refine lv_goto (tgt := 205) hx hb dX4_round_174 (by decide) ?_
            rw [show (zsf (σ pp) Fat (i) : Int) = zbe (σ pp) Fat (i) from (if_pos (by omega)).symm]
            have bB := zbe_bd hg hfB hi0 (by omega)
            refine lv_lstore (lv' := [(14, zl (zbe (σ pp) Fat (i))), (12, zl (zgb (σ pp) Fat (i))), (11, zi (((12) * (a)) + (i))), (0, .ref (ad (8))), (1, zi (a)), (2, zi (ro)), (3, zl (hm)), (5, zi (pn (σ pp))), (8, zl (pr)), (10, zi (i))]) hx hb dX4_round_205 hl (by decide) rfl (fun ls hl => ?_)
            refine lv_aload_n hx hb dX4_round_207 rfl (lv_at hl 3 rfl) ?_
            refine z_get (C := RX4) (T := TX4) (N := 19) (fs := [zi (cd), zi (n), .ref (ad (9)), .ref (ad (10)), .ref (ad (11)), .ref (ad (12)), .ref (ad (13)), .ref (ad (14)), .ref (ad (15)), .ref (ad (16)), .ref (ad (17)), .ref (ad (18)), .ref (ad (19)), .ref (ad (20)), .ref (ad (21)), .ref (ad (22)), zi (bl), .ref (ad (23)), .ref (ad (24))]) hx hb hts w_1 hown hK hw (hM 8 (by decide) (by decide)) (zW3_n (by omega) h8) rfl 18 (by decide) w_4 rfl rfl dX4_round_208 ?_
            refine lv_iload hx hb dX4_round_211 (lv_at hl 9 rfl) ?_
            refine lv_aload_n hx hb dX4_round_213 rfl (lv_at hl 3 rfl) ?_
            refine z_get (C := RX4) (T := TX4) (N := 19) (fs := [zi (cd), zi (n), .ref (ad (9)), .ref (ad (10)), .ref (ad (11)), .ref (ad (12)), .ref (ad (13)), .ref (ad (14)), .ref (ad (15)), .ref (ad (16)), .ref (ad (17)), .ref (ad (18)), .ref (ad (19)), .ref (ad (20)), .ref (ad (21)), .ref (ad (22)), zi (bl), .ref (ad (23)), .ref (ad (24))]) hx hb hts w_1 hown hK hw (hM 8 (by decide) (by decide)) (zW3_n (by omega) h8) rfl 18 (by decide) w_4 rfl rfl dX4_round_214 ?_
            refine lv_iload hx hb dX4_round_217 (lv_at hl 9 rfl) ?_
            refine z_lald (f := g2) hx hb hK hw (hM 24 (by decide) (by decide)) rfl (by omega) (by omega) (by decide) dX4_round_219 ?_
            rw [show (g2 (i) : Int) = Fsd (i) from zmw_at hg2 (by omega) (by omega)]
            refine z_ldc2 (n := 1000) hx hb hown w_8 (by decide) dX4_round_220 ?_
            refine lv_lload hx hb dX4_round_223 (lv_at hl 8 rfl) ?_
            refine lv_lload hx hb dX4_round_225 (lv_at hl 1 rfl) ?_
            refine z_lsub hx hb dX4_round_227 ?_
            refine lv_lload hx hb dX4_round_228 (lv_at hl 0 rfl) ?_
            refine z_lsub hx hb dX4_round_230 ?_
            refine z_lmul hx hb dX4_round_231 ?_
            refine lv_aload_n hx hb dX4_round_232 rfl (lv_at hl 3 rfl) ?_
            refine z_get (C := RX4) (T := TX4) (N := 19) (fs := [zi (cd), zi (n), .ref (ad (9)), .ref (ad (10)), .ref (ad (11)), .ref (ad (12)), .ref (ad (13)), .ref (ad (14)), .ref (ad (15)), .ref (ad (16)), .ref (ad (17)), .ref (ad (18)), .ref (ad (19)), .ref (ad (20)), .ref (ad (21)), .ref (ad (22)), zi (bl), .ref (ad (23)), .ref (ad (24))]) hx hb hts w_1 hown hK hw (hM 8 (by decide) (by decide)) (zW3_n (by omega) h8) rfl 4 (by decide) w_14 rfl rfl dX4_round_233 ?_
            refine lv_iload_n hx hb dX4_round_236 rfl (lv_at hl 4 rfl) ?_
            refine z_lald (f := Fms) hx hb hK hw (hM 11 (by decide) (by decide)) (zW3_n (by omega) h11) (by omega) (by omega) (by decide) dX4_round_237 ?_
            rw [show (Fms (a) : Int) = pma (σ pp) from r3]
            have hdM := ztdivb (x := 1000 * (pr - zgb (σ pp) Fat i - zbe (σ pp) Fat i)) (d := pma (σ pp)) (B := 20000000000000) g5 (by omega) (by omega)
            refine z_ldiv hx hb dX4_round_238 ⟨by omega, by omega⟩ ⟨by omega, by omega⟩ (by omega) ?_
            refine z_ladd hx hb dX4_round_239 ?_
            refine z_ldc2 (n := -1000000000) hx hb hown w_6 (by decide) dX4_round_240 ?_
            refine z_ldc2 (n := 1000000000) hx hb hown w_7 (by decide) dX4_round_243 ?_
            refine z_kL (z_runS (As := [zl ((Fsd (i)) + (((1000) * (((pr) - (zgb (σ pp) Fat (i))) - (zbe (σ pp) Fat (i)))).tdiv (pma (σ pp)))), zl (-1000000000), zl (1000000000)]) (rest := [zi (i), .ref (ad (24))]) ⟨hx, hb, hml, hown, hts⟩ hK hw (k_cut l hl0 G I ad _ _ ((Fsd (i)) + (((1000) * (((pr) - (zgb (σ pp) Fat (i))) - (zbe (σ pp) Fat (i)))).tdiv (pma (σ pp)))) (-1000000000) (1000000000) ⟨by omega, by omega⟩ ⟨by decide, by decide⟩ ⟨by decide, by decide⟩) (va_cwS 3 hts gX4_round_X4_cut rfl rfl rfl (by decide +kernel) ⟨Nat.le_of_ble_eq_true rfl, Nat.le_of_ble_eq_true rfl⟩) rfl hl.1 rfl (Nat.le_of_ble_eq_true rfl) dX4_round_246 ⟨Nat.le_of_ble_eq_true rfl, Nat.le_of_ble_eq_true rfl⟩) hw (fun r_13 ct_14 H locs hP hw => ?_)
            obtain ⟨rfl, hct⟩ := hP
            rw [hct] at hw
            clear hct
            rw [show (zcl ((Fsd (i)) + (((1000) * (((pr) - (zgb (σ pp) Fat (i))) - (zbe (σ pp) Fat (i)))).tdiv (pma (σ pp)))) (-1000000000) (1000000000) : Int) = znv (σ pp) hm Fat Fsd (i) from zhv2 _ _ (by omega) (hpr (by omega))]
            refine z_last (f := g2) hx hb hK hw (hM 24 (by decide) (by decide)) rfl (by omega) (by omega) (by decide) dX4_round_249 (fun H locs hw => ?_)
            refine lv_lload hx hb dX4_round_250 (lv_at hl 0 rfl) ?_
            refine lv_lstore (lv' := [(8, zl (zbe (σ pp) Fat (i))), (14, zl (zbe (σ pp) Fat (i))), (12, zl (zgb (σ pp) Fat (i))), (11, zi (((12) * (a)) + (i))), (0, .ref (ad (8))), (1, zi (a)), (2, zi (ro)), (3, zl (hm)), (5, zi (pn (σ pp))), (10, zi (i))]) hx hb dX4_round_252 hl (by decide) rfl (fun ls hl => ?_)
            refine z_iinc (lv' := [(10, zi (i + 1)), (8, zl (zbe (σ pp) Fat (i))), (14, zl (zbe (σ pp) Fat (i))), (12, zl (zgb (σ pp) Fat (i))), (11, zi (((12) * (a)) + (i))), (0, .ref (ad (8))), (1, zi (a)), (2, zi (ro)), (3, zl (hm)), (5, zi (pn (σ pp)))]) hx hb dX4_round_254 hl (k := 9) rfl (by decide) rfl (fun ls hl => ?_)
            refine lv_goto (tgt := 82) hx hb dX4_round_257 (by decide) ?_
            exact ih82 (i + 1) (zup (g2) (i) (znv (σ pp) hm Fat Fsd (i))) (zbe (σ pp) Fat (i)) (by omega) (by omega) (by omega) (zmw_s hg2 rfl) (fun h9 => zab_s (by omega) (by omega)) (by omega) _ _ (zWe hw (by simp only [zW3_p22, zW3_p23, zW3_p24, zW3_zW3])) _ (lv_sub hl [5, 6, 7, 8, 9, 1, 0] rfl)
    exact L82 _ (0) (zup (Fsd) (pn (σ pp)) (znv (σ pp) hm Fat Fsd (pn (σ pp)))) (zcu (σ pp) Fat) (Nat.lt_succ_self _) (by omega) (by omega) (zmw_0 rfl) (fun _ => rfl) (by omega) _ _ (zWe (zWe hw (congrArg (fun w9 => zU w9 24 _) (zW3_id h22 h23 h24).symm)) (by simp only [zW3_p24])) _ (lv_sub hl [4, 5, 6, 7, 3, 1, 0] rfl)
  · refine z_lc0 hx hb dX4_round_35 ?_
    refine lv_goto (tgt := 41) hx hb dX4_round_36 (by decide) ?_
    refine W.eq (g2 := F0 m 41 ls (zl (zcu (σ pp) Fat) :: [])) (congrArg (fun z9 : Int => F0 m 41 ls (zl z9 :: [])) (show (0 : Int) = zcu (σ pp) Fat from (if_pos (by omega)).symm)) ?_
    have bC := zcu_bd hg hfB
    have hdC := ztdivb (x := (-1000) * zcu (σ pp) Fat) (d := hm) (B := 4000000000000) hm1 (by omega) (by omega)
    refine lv_lstore (lv' := [(6, zl (zcu (σ pp) Fat)), (5, zi (pn (σ pp))), (0, .ref (ad (8))), (1, zi (a)), (2, zi (ro)), (3, zl (hm))]) hx hb dX4_round_41 hl (by decide) rfl (fun ls hl => ?_)
    refine lv_aload_n hx hb dX4_round_43 rfl (lv_at hl 2 rfl) ?_
    refine z_get (C := RX4) (T := TX4) (N := 19) (fs := [zi (cd), zi (n), .ref (ad (9)), .ref (ad (10)), .ref (ad (11)), .ref (ad (12)), .ref (ad (13)), .ref (ad (14)), .ref (ad (15)), .ref (ad (16)), .ref (ad (17)), .ref (ad (18)), .ref (ad (19)), .ref (ad (20)), .ref (ad (21)), .ref (ad (22)), zi (bl), .ref (ad (23)), .ref (ad (24))]) hx hb hts w_1 hown hK hw (hM 8 (by decide) (by decide)) h8 rfl 18 (by decide) w_4 rfl rfl dX4_round_44 ?_
    refine lv_iload hx hb dX4_round_47 (lv_at hl 1 rfl) ?_
    refine lv_aload_n hx hb dX4_round_49 rfl (lv_at hl 2 rfl) ?_
    refine z_get (C := RX4) (T := TX4) (N := 19) (fs := [zi (cd), zi (n), .ref (ad (9)), .ref (ad (10)), .ref (ad (11)), .ref (ad (12)), .ref (ad (13)), .ref (ad (14)), .ref (ad (15)), .ref (ad (16)), .ref (ad (17)), .ref (ad (18)), .ref (ad (19)), .ref (ad (20)), .ref (ad (21)), .ref (ad (22)), zi (bl), .ref (ad (23)), .ref (ad (24))]) hx hb hts w_1 hown hK hw (hM 8 (by decide) (by decide)) h8 rfl 18 (by decide) w_4 rfl rfl dX4_round_50 ?_
    refine lv_iload hx hb dX4_round_53 (lv_at hl 1 rfl) ?_
    refine z_lald (f := Fsd) hx hb hK hw (hM 24 (by decide) (by decide)) h24 (by omega) (by omega) (by decide) dX4_round_55 ?_
    refine z_ldc2 (n := -1000) hx hb hown w_5 (by decide) dX4_round_56 ?_
    refine lv_lload hx hb dX4_round_59 (lv_at hl 0 rfl) ?_
    refine z_lmul hx hb dX4_round_61 ?_
    refine lv_lload_n hx hb dX4_round_62 rfl (lv_at hl 5 rfl) ?_
    refine z_ldiv hx hb dX4_round_63 ⟨by omega, by omega⟩ ⟨by omega, by omega⟩ (by omega) ?_
    refine z_ladd hx hb dX4_round_64 ?_
    refine z_ldc2 (n := -1000000000) hx hb hown w_6 (by decide) dX4_round_65 ?_
    refine z_ldc2 (n := 1000000000) hx hb hown w_7 (by decide) dX4_round_68 ?_
    refine z_kL (z_runS (As := [zl ((Fsd (pn (σ pp))) + (((-1000) * (zcu (σ pp) Fat)).tdiv (hm))), zl (-1000000000), zl (1000000000)]) (rest := [zi (pn (σ pp)), .ref (ad (24))]) ⟨hx, hb, hml, hown, hts⟩ hK hw (k_cut l hl0 G I ad _ _ ((Fsd (pn (σ pp))) + (((-1000) * (zcu (σ pp) Fat)).tdiv (hm))) (-1000000000) (1000000000) ⟨by omega, by omega⟩ ⟨by decide, by decide⟩ ⟨by decide, by decide⟩) (va_cwS 3 hts gX4_round_X4_cut rfl rfl rfl (by decide +kernel) ⟨Nat.le_of_ble_eq_true rfl, Nat.le_of_ble_eq_true rfl⟩) rfl hl.1 rfl (Nat.le_of_ble_eq_true rfl) dX4_round_71 ⟨Nat.le_of_ble_eq_true rfl, Nat.le_of_ble_eq_true rfl⟩) hw (fun r_15 ct_16 H locs hP hw => ?_)
    obtain ⟨rfl, hct⟩ := hP
    rw [hct] at hw
    clear hct
    rw [show (zcl ((Fsd (pn (σ pp))) + (((-1000) * (zcu (σ pp) Fat)).tdiv (hm))) (-1000000000) (1000000000) : Int) = znv (σ pp) hm Fat Fsd (pn (σ pp)) from zhv _ _ _ _]
    refine z_last (f := Fsd) hx hb hK hw (hM 24 (by decide) (by decide)) h24 (by omega) (by omega) (by decide) dX4_round_74 (fun H locs hw => ?_)
    refine lv_lload hx hb dX4_round_75 (lv_at hl 0 rfl) ?_
    refine lv_lstore (lv' := [(8, zl (zcu (σ pp) Fat)), (6, zl (zcu (σ pp) Fat)), (5, zi (pn (σ pp))), (0, .ref (ad (8))), (1, zi (a)), (2, zi (ro)), (3, zl (hm))]) hx hb dX4_round_77 hl (by decide) rfl (fun ls hl => ?_)
    refine z_ic hx hb dX4_round_79 ?_
    refine lv_istore (lv' := [(10, zi (0)), (8, zl (zcu (σ pp) Fat)), (6, zl (zcu (σ pp) Fat)), (5, zi (pn (σ pp))), (0, .ref (ad (8))), (1, zi (a)), (2, zi (ro)), (3, zl (hm))]) hx hb dX4_round_80 hl (by decide) rfl (fun ls hl => ?_)
    have L82 : ∀ (nn : Nat) (i : Int) (g2 : Int → Int) (pr : Int), ((13 - i).toNat) < nn → (0 ≤ i) → (i ≤ pn (σ pp)) → (zmw Fsd g2 (znv (σ pp) hm Fat Fsd) (pn (σ pp)) i) → (i < pn (σ pp) → pr = zab (σ pp) Fat i) → (-4000000000 ≤ pr ∧ pr ≤ 4000000000) → ∀ (H : Heap) (locs : List Loc), zW G A s.heap H locs I ad (zW3 ct (zL G 2600 Fwv) (zL G 13 Fat) (zL G 13 g2)) → ∀ ls, lv_has ls 16 [(0, .ref (ad (8))), (1, zi (a)), (2, zi (ro)), (3, zl (hm)), (5, zi (pn (σ pp))), (8, zl (pr)), (10, zi (i))] → W p l e ({ frames := 1, cells := 0, slots := 0, locals := 25 } : Room) s m args below meth c H locs 0 0 (vx_MQ below (zQ G A ad (zk I (zqv fun u => ∃ f2 g2 wv2 : Int → Int, (∀ x : Int, 0 ≤ x → x ≤ pn (σ pp) → f2 x = znp (σ pp) hm Fat Fsd x) ∧ (∀ x : Int, 0 ≤ x → x ≤ pn (σ pp) → g2 x = znv (σ pp) hm Fat Fsd x) ∧ zwr Fwv wv2 (znp (σ pp) hm Fat Fsd) (13 * ro) (pn (σ pp) + 1) ∧ u = zW3 ct (zL G 2600 wv2) (zL G 13 f2) (zL G 13 g2)))) (zX G A I ad ct zno) args s 0 0 A) (F0 m 82 ls []) := by
      intro nn
      induction nn with
      | zero => intro i g2 pr hme; exact absurd hme (Nat.not_lt_zero _)
      | succ nn ih82 =>
        intro i g2 pr hme82 hi0 hi1 hg2 hpr hprb H locs hw ls hl
        refine lv_iload hx hb dX4_round_82 (lv_at hl 6 rfl) ?_
        refine lv_iload hx hb dX4_round_84 (lv_at hl 4 rfl) ?_
        refine z_icmp_ge (tgt := 260) hx hb dX4_round_86 (by decide) ⟨by omega, by omega⟩ ⟨by omega, by omega⟩ (fun c_17 => ?_) (fun c_17 => ?_)
        · have hge := zmw_e hg2 (by omega)
          refine z_ic hx hb dX4_round_260 ?_
          refine lv_istore (lv' := [(10, zi (0)), (0, .ref (ad (8))), (1, zi (a)), (2, zi (ro)), (3, zl (hm)), (5, zi (pn (σ pp))), (8, zl (pr))]) hx hb dX4_round_261 hl (by decide) rfl (fun ls hl => ?_)
          have L263 : ∀ (nn : Nat) (i : Int) (f2 : Int → Int) (wv2 : Int → Int), ((14 - i).toNat) < nn → (0 ≤ i) → (i ≤ pn (σ pp) + 1) → (zmid Fat f2 (znp (σ pp) hm Fat Fsd) (pn (σ pp)) i) → (zwr Fwv wv2 (znp (σ pp) hm Fat Fsd) (13 * ro) i) → ∀ (H : Heap) (locs : List Loc), zW G A s.heap H locs I ad (zW3 ct (zL G 2600 wv2) (zL G 13 f2) (zL G 13 g2)) → ∀ ls, lv_has ls 16 [(0, .ref (ad (8))), (1, zi (a)), (2, zi (ro)), (3, zl (hm)), (5, zi (pn (σ pp))), (10, zi (i))] → W p l e ({ frames := 1, cells := 0, slots := 0, locals := 25 } : Room) s m args below meth c H locs 0 0 (vx_MQ below (zQ G A ad (zk I (zqv fun u => ∃ f2 g2 wv2 : Int → Int, (∀ x : Int, 0 ≤ x → x ≤ pn (σ pp) → f2 x = znp (σ pp) hm Fat Fsd x) ∧ (∀ x : Int, 0 ≤ x → x ≤ pn (σ pp) → g2 x = znv (σ pp) hm Fat Fsd x) ∧ zwr Fwv wv2 (znp (σ pp) hm Fat Fsd) (13 * ro) (pn (σ pp) + 1) ∧ u = zW3 ct (zL G 2600 wv2) (zL G 13 f2) (zL G 13 g2)))) (zX G A I ad ct zno) args s 0 0 A) (F0 m 263 ls []) := by
            intro nn
            induction nn with
            | zero => intro i f2 wv2 hme; exact absurd hme (Nat.not_lt_zero _)
            | succ nn ih263 =>
              intro i f2 wv2 hme263 hi0 hi1 hf2 hwv H locs hw ls hl
              refine lv_iload hx hb dX4_round_263 (lv_at hl 5 rfl) ?_
              refine lv_iload hx hb dX4_round_265 (lv_at hl 4 rfl) ?_
              refine z_icmp_gt (tgt := 316) hx hb dX4_round_267 (by decide) ⟨by omega, by omega⟩ ⟨by omega, by omega⟩ (fun c_18 => ?_) (fun c_18 => ?_)
              · exact z_vret hx hb hlk hr hw dX4_round_316 (Nat.le_of_ble_eq_true rfl) (Nat.le_of_ble_eq_true rfl) ⟨rfl, rfl, ⟨f2, g2, wv2, zmid_e hf2 (by omega), hge, by rw [show i = pn (σ pp) + 1 by omega] at hwv; exact hwv, rfl⟩⟩
              · refine lv_aload_n hx hb dX4_round_270 rfl (lv_at hl 0 rfl) ?_
                refine z_get (C := RX4) (T := TX4) (N := 19) (fs := [zi (cd), zi (n), .ref (ad (9)), .ref (ad (10)), .ref (ad (11)), .ref (ad (12)), .ref (ad (13)), .ref (ad (14)), .ref (ad (15)), .ref (ad (16)), .ref (ad (17)), .ref (ad (18)), .ref (ad (19)), .ref (ad (20)), .ref (ad (21)), .ref (ad (22)), zi (bl), .ref (ad (23)), .ref (ad (24))]) hx hb hts w_1 hown hK hw (hM 8 (by decide) (by decide)) (zW3_n (by omega) h8) rfl 17 (by decide) w_3 rfl rfl dX4_round_271 ?_
                refine lv_iload hx hb dX4_round_274 (lv_at hl 5 rfl) ?_
                refine lv_dup2_11 hx hb dX4_round_276 rfl rfl ?_
                refine z_lald (f := f2) hx hb hK hw (hM 23 (by decide) (by decide)) rfl (by omega) (by omega) (by decide) dX4_round_277 ?_
                rw [show (f2 (i) : Int) = Fat (i) from zmid_at hf2 (by omega) (by omega)]
                have bv := znv_bd (σ pp) hm Fat Fsd i
                refine lv_aload_n hx hb dX4_round_278 rfl (lv_at hl 0 rfl) ?_
                refine z_get (C := RX4) (T := TX4) (N := 19) (fs := [zi (cd), zi (n), .ref (ad (9)), .ref (ad (10)), .ref (ad (11)), .ref (ad (12)), .ref (ad (13)), .ref (ad (14)), .ref (ad (15)), .ref (ad (16)), .ref (ad (17)), .ref (ad (18)), .ref (ad (19)), .ref (ad (20)), .ref (ad (21)), .ref (ad (22)), zi (bl), .ref (ad (23)), .ref (ad (24))]) hx hb hts w_1 hown hK hw (hM 8 (by decide) (by decide)) (zW3_n (by omega) h8) rfl 18 (by decide) w_4 rfl rfl dX4_round_279 ?_
                refine lv_iload hx hb dX4_round_282 (lv_at hl 5 rfl) ?_
                refine z_lald (f := g2) hx hb hK hw (hM 24 (by decide) (by decide)) rfl (by omega) (by omega) (by decide) dX4_round_284 ?_
                rw [show (g2 (i) : Int) = znv (σ pp) hm Fat Fsd (i) from hge i (by omega) (by omega)]
                refine z_ldc2 (n := 1000) hx hb hown w_8 (by decide) dX4_round_285 ?_
                refine z_ldiv hx hb dX4_round_288 ⟨by omega, by omega⟩ ⟨by decide, by decide⟩ (by decide) ?_
                refine z_ladd hx hb dX4_round_289 ?_
                rw [show ((Fat (i)) + ((znv (σ pp) hm Fat Fsd (i)).tdiv (1000)) : Int) = znp (σ pp) hm Fat Fsd (i) from rfl]
                refine z_last (f := f2) hx hb hK hw (hM 23 (by decide) (by decide)) rfl (by omega) (by omega) (by decide) dX4_round_290 (fun H locs hw => ?_)
                refine lv_aload_n hx hb dX4_round_291 rfl (lv_at hl 0 rfl) ?_
                refine z_get (C := RX4) (T := TX4) (N := 19) (fs := [zi (cd), zi (n), .ref (ad (9)), .ref (ad (10)), .ref (ad (11)), .ref (ad (12)), .ref (ad (13)), .ref (ad (14)), .ref (ad (15)), .ref (ad (16)), .ref (ad (17)), .ref (ad (18)), .ref (ad (19)), .ref (ad (20)), .ref (ad (21)), .ref (ad (22)), zi (bl), .ref (ad (23)), .ref (ad (24))]) hx hb hts w_1 hown hK hw (hM 8 (by decide) (by decide)) (zU_n (by decide) (zW3_n (by omega) h8)) rfl 15 (by decide) w_9 rfl rfl dX4_round_292 ?_
                refine z_bi hx hb dX4_round_295 (by decide) ?_
                refine lv_iload_n hx hb dX4_round_297 rfl (lv_at hl 2 rfl) ?_
                refine z_imul hx hb dX4_round_298 ?_
                refine lv_iload hx hb dX4_round_299 (lv_at hl 5 rfl) ?_
                refine z_iadd hx hb dX4_round_301 ?_
                refine lv_aload_n hx hb dX4_round_302 rfl (lv_at hl 0 rfl) ?_
                refine z_get (C := RX4) (T := TX4) (N := 19) (fs := [zi (cd), zi (n), .ref (ad (9)), .ref (ad (10)), .ref (ad (11)), .ref (ad (12)), .ref (ad (13)), .ref (ad (14)), .ref (ad (15)), .ref (ad (16)), .ref (ad (17)), .ref (ad (18)), .ref (ad (19)), .ref (ad (20)), .ref (ad (21)), .ref (ad (22)), zi (bl), .ref (ad (23)), .ref (ad (24))]) hx hb hts w_1 hown hK hw (hM 8 (by decide) (by decide)) (zU_n (by decide) (zW3_n (by omega) h8)) rfl 17 (by decide) w_3 rfl rfl dX4_round_303 ?_
                refine lv_iload hx hb dX4_round_306 (lv_at hl 5 rfl) ?_
                refine z_lald (f := zup (f2) (i) (znp (σ pp) hm Fat Fsd (i))) hx hb hK hw (hM 23 (by decide) (by decide)) (zU_s _ _ _) (by omega) (by omega) (by decide) dX4_round_308 ?_
                rw [show ((zup (f2) (i) (znp (σ pp) hm Fat Fsd (i))) (i) : Int) = znp (σ pp) hm Fat Fsd (i) from zup_s _ _ _]
                refine z_last (f := wv2) hx hb hK hw (hM 22 (by decide) (by decide)) (zU_n (by decide) rfl) (by omega) (by omega) (by decide) dX4_round_309 (fun H locs hw => ?_)
                refine z_iinc (lv' := [(10, zi (i + 1)), (0, .ref (ad (8))), (1, zi (a)), (2, zi (ro)), (3, zl (hm)), (5, zi (pn (σ pp)))]) hx hb dX4_round_310 hl (k := 5) rfl (by decide) rfl (fun ls hl => ?_)
                refine lv_goto (tgt := 263) hx hb dX4_round_313 (by decide) ?_
                exact ih263 (i + 1) (zup (f2) (i) (znp (σ pp) hm Fat Fsd (i))) (zup (wv2) (((13) * (ro)) + (i)) (znp (σ pp) hm Fat Fsd (i))) (by omega) (by omega) (by omega) (zmid_s hf2 rfl) (zwr_s hwv (by omega) (by omega) rfl) _ _ (zWe hw (by simp only [zW3_p22, zW3_p23, zW3_p24, zW3_zW3])) _ (lv_sub hl [1, 2, 3, 4, 5, 0] rfl)
          exact L263 _ (0) (Fat) (Fwv) (Nat.lt_succ_self _) (by omega) (by omega) (zmid_0 _ _ _) (zwr_0 _ _ _) _ _ (zWe hw (by simp only [zW3_p22, zW3_p23, zW3_p24, zW3_zW3])) _ (lv_sub hl [1, 2, 3, 4, 5, 0] rfl)
        · obtain ⟨rs1, rs2, rs3⟩ := r8 i (by omega) (by omega)
          have bs := g14 i
          have bm := g15 i
          have bf := hfB i (by omega) (by omega)
          have bg := hsB i (by omega) (by omega)
          have b7 := zmulb (B := 200000000) bs.1 bs.2 bf.1 bf.2
          have b8 := zt1000 (x := pst (σ pp) i * Fat i) (B := 200000000) (by omega) (by omega)
          have bG := zgb_bd hg Fat i
          refine z_bi hx hb dX4_round_89 (by decide) ?_
          refine lv_iload_n hx hb dX4_round_91 rfl (lv_at hl 1 rfl) ?_
          refine z_imul hx hb dX4_round_92 ?_
          refine lv_iload hx hb dX4_round_93 (lv_at hl 6 rfl) ?_
          refine z_iadd hx hb dX4_round_95 ?_
          refine lv_istore (lv' := [(11, zi (((12) * (a)) + (i))), (0, .ref (ad (8))), (1, zi (a)), (2, zi (ro)), (3, zl (hm)), (5, zi (pn (σ pp))), (8, zl (pr)), (10, zi (i))]) hx hb dX4_round_96 hl (by decide) rfl (fun ls hl => ?_)
          refine lv_aload_n hx hb dX4_round_98 rfl (lv_at hl 1 rfl) ?_
          refine z_get (C := RX4) (T := TX4) (N := 19) (fs := [zi (cd), zi (n), .ref (ad (9)), .ref (ad (10)), .ref (ad (11)), .ref (ad (12)), .ref (ad (13)), .ref (ad (14)), .ref (ad (15)), .ref (ad (16)), .ref (ad (17)), .ref (ad (18)), .ref (ad (19)), .ref (ad (20)), .ref (ad (21)), .ref (ad (22)), zi (bl), .ref (ad (23)), .ref (ad (24))]) hx hb hts w_1 hown hK hw (hM 8 (by decide) (by decide)) (zW3_n (by omega) h8) rfl 6 (by decide) w_10 rfl rfl dX4_round_99 ?_
          refine lv_iload hx hb dX4_round_102 (lv_at hl 0 rfl) ?_
          refine z_lald (f := Fst) hx hb hK hw (hM 13 (by decide) (by decide)) (zW3_n (by omega) h13) (by omega) (by omega) (by decide) dX4_round_104 ?_
          rw [show (Fst (((12) * (a)) + (i)) : Int) = pst (σ pp) (i) from rs1]
          refine lv_aload_n hx hb dX4_round_105 rfl (lv_at hl 1 rfl) ?_
          refine z_get (C := RX4) (T := TX4) (N := 19) (fs := [zi (cd), zi (n), .ref (ad (9)), .ref (ad (10)), .ref (ad (11)), .ref (ad (12)), .ref (ad (13)), .ref (ad (14)), .ref (ad (15)), .ref (ad (16)), .ref (ad (17)), .ref (ad (18)), .ref (ad (19)), .ref (ad (20)), .ref (ad (21)), .ref (ad (22)), zi (bl), .ref (ad (23)), .ref (ad (24))]) hx hb hts w_1 hown hK hw (hM 8 (by decide) (by decide)) (zW3_n (by omega) h8) rfl 17 (by decide) w_3 rfl rfl dX4_round_106 ?_
          refine lv_iload hx hb dX4_round_109 (lv_at hl 7 rfl) ?_
          refine z_lald (f := Fat) hx hb hK hw (hM 23 (by decide) (by decide)) rfl (by omega) (by omega) (by decide) dX4_round_111 ?_
          refine z_lmul hx hb dX4_round_112 ?_
          refine z_ldc2 (n := 1000) hx hb hown w_8 (by decide) dX4_round_113 ?_
          refine z_ldiv hx hb dX4_round_116 ⟨by omega, by omega⟩ ⟨by decide, by decide⟩ (by decide) ?_
          refine lv_aload_n hx hb dX4_round_117 rfl (lv_at hl 1 rfl) ?_
          refine z_get (C := RX4) (T := TX4) (N := 19) (fs := [zi (cd), zi (n), .ref (ad (9)), .ref (ad (10)), .ref (ad (11)), .ref (ad (12)), .ref (ad (13)), .ref (ad (14)), .ref (ad (15)), .ref (ad (16)), .ref (ad (17)), .ref (ad (18)), .ref (ad (19)), .ref (ad (20)), .ref (ad (21)), .ref (ad (22)), zi (bl), .ref (ad (23)), .ref (ad (24))]) hx hb hts w_1 hown hK hw (hM 8 (by decide) (by decide)) (zW3_n (by omega) h8) rfl 7 (by decide) w_11 rfl rfl dX4_round_118 ?_
          refine lv_iload hx hb dX4_round_121 (lv_at hl 0 rfl) ?_
          refine z_lald (f := Fmo) hx hb hK hw (hM 14 (by decide) (by decide)) (zW3_n (by omega) h14) (by omega) (by omega) (by decide) dX4_round_123 ?_
          rw [show (Fmo (((12) * (a)) + (i)) : Int) = pmo (σ pp) (i) from rs2]
          refine z_lneg hx hb dX4_round_124 ?_
          refine lv_aload_n hx hb dX4_round_125 rfl (lv_at hl 1 rfl) ?_
          refine z_get (C := RX4) (T := TX4) (N := 19) (fs := [zi (cd), zi (n), .ref (ad (9)), .ref (ad (10)), .ref (ad (11)), .ref (ad (12)), .ref (ad (13)), .ref (ad (14)), .ref (ad (15)), .ref (ad (16)), .ref (ad (17)), .ref (ad (18)), .ref (ad (19)), .ref (ad (20)), .ref (ad (21)), .ref (ad (22)), zi (bl), .ref (ad (23)), .ref (ad (24))]) hx hb hts w_1 hown hK hw (hM 8 (by decide) (by decide)) (zW3_n (by omega) h8) rfl 7 (by decide) w_11 rfl rfl dX4_round_126 ?_
          refine lv_iload hx hb dX4_round_129 (lv_at hl 0 rfl) ?_
          refine z_lald (f := Fmo) hx hb hK hw (hM 14 (by decide) (by decide)) (zW3_n (by omega) h14) (by omega) (by omega) (by decide) dX4_round_131 ?_
          rw [show (Fmo (((12) * (a)) + (i)) : Int) = pmo (σ pp) (i) from rs2]
          refine z_kL (z_runS (As := [zl (((pst (σ pp) (i)) * (Fat (i))).tdiv (1000)), zl (-(pmo (σ pp) (i))), zl (pmo (σ pp) (i))]) (rest := []) ⟨hx, hb, hml, hown, hts⟩ hK hw (k_cut l hl0 G I ad _ _ (((pst (σ pp) (i)) * (Fat (i))).tdiv (1000)) (-(pmo (σ pp) (i))) (pmo (σ pp) (i)) ⟨by omega, by omega⟩ ⟨by omega, by omega⟩ ⟨by omega, by omega⟩) (va_cwS 3 hts gX4_round_X4_cut rfl rfl rfl (by decide +kernel) ⟨Nat.le_of_ble_eq_true rfl, Nat.le_of_ble_eq_true rfl⟩) rfl hl.1 rfl (Nat.le_of_ble_eq_true rfl) dX4_round_132 ⟨Nat.le_of_ble_eq_true rfl, Nat.le_of_ble_eq_true rfl⟩) hw (fun r_19 ct_20 H locs hP hw => ?_)
          obtain ⟨rfl, hct⟩ := hP
          rw [hct] at hw
          clear hct
          rw [show (zcl (((pst (σ pp) (i)) * (Fat (i))).tdiv (1000)) (-(pmo (σ pp) (i))) (pmo (σ pp) (i)) : Int) = zgb (σ pp) Fat (i) from rfl]
          refine lv_lstore (lv' := [(12, zl (zgb (σ pp) Fat (i))), (11, zi (((12) * (a)) + (i))), (0, .ref (ad (8))), (1, zi (a)), (2, zi (ro)), (3, zl (hm)), (5, zi (pn (σ pp))), (8, zl (pr)), (10, zi (i))]) hx hb dX4_round_135 hl (by decide) rfl (fun ls hl => ?_)
          refine lv_iload hx hb dX4_round_137 (lv_at hl 8 rfl) ?_
          refine z_ic hx hb dX4_round_139 ?_
          refine z_iadd hx hb dX4_round_140 ?_
          refine lv_iload hx hb dX4_round_141 (lv_at hl 6 rfl) ?_
          refine z_icmp_ge (tgt := 177) hx hb dX4_round_143 (by decide) ⟨by omega, by omega⟩ ⟨by omega, by omega⟩ (fun c_21 => ?_) (fun c_21 => ?_)
          · refine lv_aload_n hx hb dX4_round_177 rfl (lv_at hl 2 rfl) ?_
            refine z_get (C := RX4) (T := TX4) (N := 19) (fs := [zi (cd), zi (n), .ref (ad (9)), .ref (ad (10)), .ref (ad (11)), .ref (ad (12)), .ref (ad (13)), .ref (ad (14)), .ref (ad (15)), .ref (ad (16)), .ref (ad (17)), .ref (ad (18)), .ref (ad (19)), .ref (ad (20)), .ref (ad (21)), .ref (ad (22)), zi (bl), .ref (ad (23)), .ref (ad (24))]) hx hb hts w_1 hown hK hw (hM 8 (by decide) (by decide)) (zW3_n (by omega) h8) rfl 9 (by decide) w_12 rfl rfl dX4_round_178 ?_
            refine lv_iload_n hx hb dX4_round_181 rfl (lv_at hl 3 rfl) ?_
            refine z_lald (f := Fts) hx hb hK hw (hM 16 (by decide) (by decide)) (zW3_n (by omega) h16) (by omega) (by omega) (by decide) dX4_round_182 ?_
            rw [show (Fts (a) : Int) = pts (σ pp) from r5]
            have b9 := zmulb (B := 200000000) g9 g10 bf.1 bf.2
            have b10 := zt1000 (x := pts (σ pp) * Fat i) (B := 200000000) (by omega) (by omega)
            refine lv_aload_n hx hb dX4_round_183 rfl (lv_at hl 2 rfl) ?_
            refine z_get (C := RX4) (T := TX4) (N := 19) (fs := [zi (cd), zi (n), .ref (ad (9)), .ref (ad (10)), .ref (ad (11)), .ref (ad (12)), .ref (ad (13)), .ref (ad (14)), .ref (ad (15)), .ref (ad (16)), .ref (ad (17)), .ref (ad (18)), .ref (ad (19)), .ref (ad (20)), .ref (ad (21)), .ref (ad (22)), zi (bl), .ref (ad (23)), .ref (ad (24))]) hx hb hts w_1 hown hK hw (hM 8 (by decide) (by decide)) (zW3_n (by omega) h8) rfl 17 (by decide) w_3 rfl rfl dX4_round_184 ?_
            refine lv_iload hx hb dX4_round_187 (lv_at hl 8 rfl) ?_
            refine z_lald (f := Fat) hx hb hK hw (hM 23 (by decide) (by decide)) rfl (by omega) (by omega) (by decide) dX4_round_189 ?_
            refine z_lmul hx hb dX4_round_190 ?_
            refine z_ldc2 (n := 1000) hx hb hown w_8 (by decide) dX4_round_191 ?_
            refine z_ldiv hx hb dX4_round_194 ⟨by omega, by omega⟩ ⟨by decide, by decide⟩ (by decide) ?_
            refine z_lc0 hx hb dX4_round_195 ?_
            refine lv_aload_n hx hb dX4_round_196 rfl (lv_at hl 2 rfl) ?_
            refine z_get (C := RX4) (T := TX4) (N := 19) (fs := [zi (cd), zi (n), .ref (ad (9)), .ref (ad (10)), .ref (ad (11)), .ref (ad (12)), .ref (ad (13)), .ref (ad (14)), .ref (ad (15)), .ref (ad (16)), .ref (ad (17)), .ref (ad (18)), .ref (ad (19)), .ref (ad (20)), .ref (ad (21)), .ref (ad (22)), zi (bl), .ref (ad (23)), .ref (ad (24))]) hx hb hts w_1 hown hK hw (hM 8 (by decide) (by decide)) (zW3_n (by omega) h8) rfl 10 (by decide) w_13 rfl rfl dX4_round_197 ?_
            refine lv_iload_n hx hb dX4_round_200 rfl (lv_at hl 3 rfl) ?_
            refine z_lald (f := Ftm) hx hb hK hw (hM 17 (by decide) (by decide)) (zW3_n (by omega) h17) (by omega) (by omega) (by decide) dX4_round_201 ?_
            rw [show (Ftm (a) : Int) = ptm (σ pp) from r6]
            refine z_kL (z_runS (As := [zl (((pts (σ pp)) * (Fat (i))).tdiv (1000)), zl (0), zl (ptm (σ pp))]) (rest := []) ⟨hx, hb, hml, hown, hts⟩ hK hw (k_cut l hl0 G I ad _ _ (((pts (σ pp)) * (Fat (i))).tdiv (1000)) (0) (ptm (σ pp)) ⟨by omega, by omega⟩ ⟨by decide, by decide⟩ ⟨by omega, by omega⟩) (va_cwS 3 hts gX4_round_X4_cut rfl rfl rfl (by decide +kernel) ⟨Nat.le_of_ble_eq_true rfl, Nat.le_of_ble_eq_true rfl⟩) rfl hl.1 rfl (Nat.le_of_ble_eq_true rfl) dX4_round_202 ⟨Nat.le_of_ble_eq_true rfl, Nat.le_of_ble_eq_true rfl⟩) hw (fun r_22 ct_23 H locs hP hw => ?_)
            obtain ⟨rfl, hct⟩ := hP
            rw [hct] at hw
            clear hct
            rw [show (zcl (((pts (σ pp)) * (Fat (i))).tdiv (1000)) (0) (ptm (σ pp)) : Int) = zbe (σ pp) Fat (i) from by unfold zbe ztb; rw [if_neg (by omega), show pn (σ pp) - 1 = i by omega]]
            have bB := zbe_bd hg hfB hi0 (by omega)
            refine lv_lstore (lv' := [(14, zl (zbe (σ pp) Fat (i))), (12, zl (zgb (σ pp) Fat (i))), (11, zi (((12) * (a)) + (i))), (0, .ref (ad (8))), (1, zi (a)), (2, zi (ro)), (3, zl (hm)), (5, zi (pn (σ pp))), (8, zl (pr)), (10, zi (i))]) hx hb dX4_round_205 hl (by decide) rfl (fun ls hl => ?_)
            refine lv_aload_n hx hb dX4_round_207 rfl (lv_at hl 3 rfl) ?_
            refine z_get (C := RX4) (T := TX4) (N := 19) (fs := [zi (cd), zi (n), .ref (ad (9)), .ref (ad (10)), .ref (ad (11)), .ref (ad (12)), .ref (ad (13)), .ref (ad (14)), .ref (ad (15)), .ref (ad (16)), .ref (ad (17)), .ref (ad (18)), .ref (ad (19)), .ref (ad (20)), .ref (ad (21)), .ref (ad (22)), zi (bl), .ref (ad (23)), .ref (ad (24))]) hx hb hts w_1 hown hK hw (hM 8 (by decide) (by decide)) (zW3_n (by omega) h8) rfl 18 (by decide) w_4 rfl rfl dX4_round_208 ?_
            refine lv_iload hx hb dX4_round_211 (lv_at hl 9 rfl) ?_
            refine lv_aload_n hx hb dX4_round_213 rfl (lv_at hl 3 rfl) ?_
            refine z_get (C := RX4) (T := TX4) (N := 19) (fs := [zi (cd), zi (n), .ref (ad (9)), .ref (ad (10)), .ref (ad (11)), .ref (ad (12)), .ref (ad (13)), .ref (ad (14)), .ref (ad (15)), .ref (ad (16)), .ref (ad (17)), .ref (ad (18)), .ref (ad (19)), .ref (ad (20)), .ref (ad (21)), .ref (ad (22)), zi (bl), .ref (ad (23)), .ref (ad (24))]) hx hb hts w_1 hown hK hw (hM 8 (by decide) (by decide)) (zW3_n (by omega) h8) rfl 18 (by decide) w_4 rfl rfl dX4_round_214 ?_
            refine lv_iload hx hb dX4_round_217 (lv_at hl 9 rfl) ?_
            refine z_lald (f := g2) hx hb hK hw (hM 24 (by decide) (by decide)) rfl (by omega) (by omega) (by decide) dX4_round_219 ?_
            rw [show (g2 (i) : Int) = Fsd (i) from zmw_at hg2 (by omega) (by omega)]
            refine z_ldc2 (n := 1000) hx hb hown w_8 (by decide) dX4_round_220 ?_
            refine lv_lload hx hb dX4_round_223 (lv_at hl 8 rfl) ?_
            refine lv_lload hx hb dX4_round_225 (lv_at hl 1 rfl) ?_
            refine z_lsub hx hb dX4_round_227 ?_
            refine lv_lload hx hb dX4_round_228 (lv_at hl 0 rfl) ?_
            refine z_lsub hx hb dX4_round_230 ?_
            refine z_lmul hx hb dX4_round_231 ?_
            refine lv_aload_n hx hb dX4_round_232 rfl (lv_at hl 3 rfl) ?_
            refine z_get (C := RX4) (T := TX4) (N := 19) (fs := [zi (cd), zi (n), .ref (ad (9)), .ref (ad (10)), .ref (ad (11)), .ref (ad (12)), .ref (ad (13)), .ref (ad (14)), .ref (ad (15)), .ref (ad (16)), .ref (ad (17)), .ref (ad (18)), .ref (ad (19)), .ref (ad (20)), .ref (ad (21)), .ref (ad (22)), zi (bl), .ref (ad (23)), .ref (ad (24))]) hx hb hts w_1 hown hK hw (hM 8 (by decide) (by decide)) (zW3_n (by omega) h8) rfl 4 (by decide) w_14 rfl rfl dX4_round_233 ?_
            refine lv_iload_n hx hb dX4_round_236 rfl (lv_at hl 4 rfl) ?_
            refine z_lald (f := Fms) hx hb hK hw (hM 11 (by decide) (by decide)) (zW3_n (by omega) h11) (by omega) (by omega) (by decide) dX4_round_237 ?_
            rw [show (Fms (a) : Int) = pma (σ pp) from r3]
            have hdM := ztdivb (x := 1000 * (pr - zgb (σ pp) Fat i - zbe (σ pp) Fat i)) (d := pma (σ pp)) (B := 20000000000000) g5 (by omega) (by omega)
            refine z_ldiv hx hb dX4_round_238 ⟨by omega, by omega⟩ ⟨by omega, by omega⟩ (by omega) ?_
            refine z_ladd hx hb dX4_round_239 ?_
            refine z_ldc2 (n := -1000000000) hx hb hown w_6 (by decide) dX4_round_240 ?_
            refine z_ldc2 (n := 1000000000) hx hb hown w_7 (by decide) dX4_round_243 ?_
            refine z_kL (z_runS (As := [zl ((Fsd (i)) + (((1000) * (((pr) - (zgb (σ pp) Fat (i))) - (zbe (σ pp) Fat (i)))).tdiv (pma (σ pp)))), zl (-1000000000), zl (1000000000)]) (rest := [zi (i), .ref (ad (24))]) ⟨hx, hb, hml, hown, hts⟩ hK hw (k_cut l hl0 G I ad _ _ ((Fsd (i)) + (((1000) * (((pr) - (zgb (σ pp) Fat (i))) - (zbe (σ pp) Fat (i)))).tdiv (pma (σ pp)))) (-1000000000) (1000000000) ⟨by omega, by omega⟩ ⟨by decide, by decide⟩ ⟨by decide, by decide⟩) (va_cwS 3 hts gX4_round_X4_cut rfl rfl rfl (by decide +kernel) ⟨Nat.le_of_ble_eq_true rfl, Nat.le_of_ble_eq_true rfl⟩) rfl hl.1 rfl (Nat.le_of_ble_eq_true rfl) dX4_round_246 ⟨Nat.le_of_ble_eq_true rfl, Nat.le_of_ble_eq_true rfl⟩) hw (fun r_24 ct_25 H locs hP hw => ?_)
            obtain ⟨rfl, hct⟩ := hP
            rw [hct] at hw
            clear hct
            rw [show (zcl ((Fsd (i)) + (((1000) * (((pr) - (zgb (σ pp) Fat (i))) - (zbe (σ pp) Fat (i)))).tdiv (pma (σ pp)))) (-1000000000) (1000000000) : Int) = znv (σ pp) hm Fat Fsd (i) from zhv2 _ _ (by omega) (hpr (by omega))]
            refine z_last (f := g2) hx hb hK hw (hM 24 (by decide) (by decide)) rfl (by omega) (by omega) (by decide) dX4_round_249 (fun H locs hw => ?_)
            refine lv_lload hx hb dX4_round_250 (lv_at hl 0 rfl) ?_
            refine lv_lstore (lv' := [(8, zl (zbe (σ pp) Fat (i))), (14, zl (zbe (σ pp) Fat (i))), (12, zl (zgb (σ pp) Fat (i))), (11, zi (((12) * (a)) + (i))), (0, .ref (ad (8))), (1, zi (a)), (2, zi (ro)), (3, zl (hm)), (5, zi (pn (σ pp))), (10, zi (i))]) hx hb dX4_round_252 hl (by decide) rfl (fun ls hl => ?_)
            refine z_iinc (lv' := [(10, zi (i + 1)), (8, zl (zbe (σ pp) Fat (i))), (14, zl (zbe (σ pp) Fat (i))), (12, zl (zgb (σ pp) Fat (i))), (11, zi (((12) * (a)) + (i))), (0, .ref (ad (8))), (1, zi (a)), (2, zi (ro)), (3, zl (hm)), (5, zi (pn (σ pp)))]) hx hb dX4_round_254 hl (k := 9) rfl (by decide) rfl (fun ls hl => ?_)
            refine lv_goto (tgt := 82) hx hb dX4_round_257 (by decide) ?_
            exact ih82 (i + 1) (zup (g2) (i) (znv (σ pp) hm Fat Fsd (i))) (zbe (σ pp) Fat (i)) (by omega) (by omega) (by omega) (zmw_s hg2 rfl) (fun h9 => zab_s (by omega) (by omega)) (by omega) _ _ (zWe hw (by simp only [zW3_p22, zW3_p23, zW3_p24, zW3_zW3])) _ (lv_sub hl [5, 6, 7, 8, 9, 1, 0] rfl)
          · refine lv_aload_n hx hb dX4_round_146 rfl (lv_at hl 2 rfl) ?_
            refine z_get (C := RX4) (T := TX4) (N := 19) (fs := [zi (cd), zi (n), .ref (ad (9)), .ref (ad (10)), .ref (ad (11)), .ref (ad (12)), .ref (ad (13)), .ref (ad (14)), .ref (ad (15)), .ref (ad (16)), .ref (ad (17)), .ref (ad (18)), .ref (ad (19)), .ref (ad (20)), .ref (ad (21)), .ref (ad (22)), zi (bl), .ref (ad (23)), .ref (ad (24))]) hx hb hts w_1 hown hK hw (hM 8 (by decide) (by decide)) (zW3_n (by omega) h8) rfl 3 (by decide) w_15 rfl rfl dX4_round_147 ?_
            refine lv_iload_n hx hb dX4_round_150 rfl (lv_at hl 3 rfl) ?_
            refine z_lald (f := Fsp) hx hb hK hw (hM 10 (by decide) (by decide)) (zW3_n (by omega) h10) (by omega) (by omega) (by decide) dX4_round_151 ?_
            rw [show (Fsp (a) : Int) = psp (σ pp) from r2]
            have b4 := (zsf_bd hg hfB (i := i) (by omega) (by omega)).1
            refine lv_aload_n hx hb dX4_round_152 rfl (lv_at hl 2 rfl) ?_
            refine z_get (C := RX4) (T := TX4) (N := 19) (fs := [zi (cd), zi (n), .ref (ad (9)), .ref (ad (10)), .ref (ad (11)), .ref (ad (12)), .ref (ad (13)), .ref (ad (14)), .ref (ad (15)), .ref (ad (16)), .ref (ad (17)), .ref (ad (18)), .ref (ad (19)), .ref (ad (20)), .ref (ad (21)), .ref (ad (22)), zi (bl), .ref (ad (23)), .ref (ad (24))]) hx hb hts w_1 hown hK hw (hM 8 (by decide) (by decide)) (zW3_n (by omega) h8) rfl 17 (by decide) w_3 rfl rfl dX4_round_153 ?_
            refine lv_iload hx hb dX4_round_156 (lv_at hl 8 rfl) ?_
            refine z_lald (f := Fat) hx hb hK hw (hM 23 (by decide) (by decide)) rfl (by omega) (by omega) (by decide) dX4_round_158 ?_
            refine lv_aload_n hx hb dX4_round_159 rfl (lv_at hl 2 rfl) ?_
            refine z_get (C := RX4) (T := TX4) (N := 19) (fs := [zi (cd), zi (n), .ref (ad (9)), .ref (ad (10)), .ref (ad (11)), .ref (ad (12)), .ref (ad (13)), .ref (ad (14)), .ref (ad (15)), .ref (ad (16)), .ref (ad (17)), .ref (ad (18)), .ref (ad (19)), .ref (ad (20)), .ref (ad (21)), .ref (ad (22)), zi (bl), .ref (ad (23)), .ref (ad (24))]) hx hb hts w_1 hown hK hw (hM 8 (by decide) (by decide)) (zW3_n (by omega) h8) rfl 17 (by decide) w_3 rfl rfl dX4_round_160 ?_
            refine lv_iload hx hb dX4_round_163 (lv_at hl 8 rfl) ?_
            refine z_ic hx hb dX4_round_165 ?_
            refine z_iadd hx hb dX4_round_166 ?_
            refine z_lald (f := Fat) hx hb hK hw (hM 23 (by decide) (by decide)) rfl (by omega) (by omega) (by decide) dX4_round_167 ?_
            refine z_lsub hx hb dX4_round_168 ?_
            refine z_lmul hx hb dX4_round_169 ?_
            refine z_ldc2 (n := 1000) hx hb hown w_8 (by decide) dX4_round_170 ?_
            refine z_ldiv hx hb dX4_round_173 ⟨by omega, by omega⟩ ⟨by decide, by decide⟩ (by decide) ?_
            rw [show (((psp (σ pp)) * ((Fat (i)) - (Fat ((i) + (1))))).tdiv (1000) : Int) = zsf (σ pp) Fat (i) from rfl]
            refine lv_goto (tgt := 205) hx hb dX4_round_174 (by decide) ?_
            rw [show (zsf (σ pp) Fat (i) : Int) = zbe (σ pp) Fat (i) from (if_pos (by omega)).symm]
            have bB := zbe_bd hg hfB hi0 (by omega)
            refine lv_lstore (lv' := [(14, zl (zbe (σ pp) Fat (i))), (12, zl (zgb (σ pp) Fat (i))), (11, zi (((12) * (a)) + (i))), (0, .ref (ad (8))), (1, zi (a)), (2, zi (ro)), (3, zl (hm)), (5, zi (pn (σ pp))), (8, zl (pr)), (10, zi (i))]) hx hb dX4_round_205 hl (by decide) rfl (fun ls hl => ?_)
            refine lv_aload_n hx hb dX4_round_207 rfl (lv_at hl 3 rfl) ?_
            refine z_get (C := RX4) (T := TX4) (N := 19) (fs := [zi (cd), zi (n), .ref (ad (9)), .ref (ad (10)), .ref (ad (11)), .ref (ad (12)), .ref (ad (13)), .ref (ad (14)), .ref (ad (15)), .ref (ad (16)), .ref (ad (17)), .ref (ad (18)), .ref (ad (19)), .ref (ad (20)), .ref (ad (21)), .ref (ad (22)), zi (bl), .ref (ad (23)), .ref (ad (24))]) hx hb hts w_1 hown hK hw (hM 8 (by decide) (by decide)) (zW3_n (by omega) h8) rfl 18 (by decide) w_4 rfl rfl dX4_round_208 ?_
            refine lv_iload hx hb dX4_round_211 (lv_at hl 9 rfl) ?_
            refine lv_aload_n hx hb dX4_round_213 rfl (lv_at hl 3 rfl) ?_
            refine z_get (C := RX4) (T := TX4) (N := 19) (fs := [zi (cd), zi (n), .ref (ad (9)), .ref (ad (10)), .ref (ad (11)), .ref (ad (12)), .ref (ad (13)), .ref (ad (14)), .ref (ad (15)), .ref (ad (16)), .ref (ad (17)), .ref (ad (18)), .ref (ad (19)), .ref (ad (20)), .ref (ad (21)), .ref (ad (22)), zi (bl), .ref (ad (23)), .ref (ad (24))]) hx hb hts w_1 hown hK hw (hM 8 (by decide) (by decide)) (zW3_n (by omega) h8) rfl 18 (by decide) w_4 rfl rfl dX4_round_214 ?_
            refine lv_iload hx hb dX4_round_217 (lv_at hl 9 rfl) ?_
            refine z_lald (f := g2) hx hb hK hw (hM 24 (by decide) (by decide)) rfl (by omega) (by omega) (by decide) dX4_round_219 ?_
            rw [show (g2 (i) : Int) = Fsd (i) from zmw_at hg2 (by omega) (by omega)]
            refine z_ldc2 (n := 1000) hx hb hown w_8 (by decide) dX4_round_220 ?_
            refine lv_lload hx hb dX4_round_223 (lv_at hl 8 rfl) ?_
            refine lv_lload hx hb dX4_round_225 (lv_at hl 1 rfl) ?_
            refine z_lsub hx hb dX4_round_227 ?_
            refine lv_lload hx hb dX4_round_228 (lv_at hl 0 rfl) ?_
            refine z_lsub hx hb dX4_round_230 ?_
            refine z_lmul hx hb dX4_round_231 ?_
            refine lv_aload_n hx hb dX4_round_232 rfl (lv_at hl 3 rfl) ?_
            refine z_get (C := RX4) (T := TX4) (N := 19) (fs := [zi (cd), zi (n), .ref (ad (9)), .ref (ad (10)), .ref (ad (11)), .ref (ad (12)), .ref (ad (13)), .ref (ad (14)), .ref (ad (15)), .ref (ad (16)), .ref (ad (17)), .ref (ad (18)), .ref (ad (19)), .ref (ad (20)), .ref (ad (21)), .ref (ad (22)), zi (bl), .ref (ad (23)), .ref (ad (24))]) hx hb hts w_1 hown hK hw (hM 8 (by decide) (by decide)) (zW3_n (by omega) h8) rfl 4 (by decide) w_14 rfl rfl dX4_round_233 ?_
            refine lv_iload_n hx hb dX4_round_236 rfl (lv_at hl 4 rfl) ?_
            refine z_lald (f := Fms) hx hb hK hw (hM 11 (by decide) (by decide)) (zW3_n (by omega) h11) (by omega) (by omega) (by decide) dX4_round_237 ?_
            rw [show (Fms (a) : Int) = pma (σ pp) from r3]
            have hdM := ztdivb (x := 1000 * (pr - zgb (σ pp) Fat i - zbe (σ pp) Fat i)) (d := pma (σ pp)) (B := 20000000000000) g5 (by omega) (by omega)
            refine z_ldiv hx hb dX4_round_238 ⟨by omega, by omega⟩ ⟨by omega, by omega⟩ (by omega) ?_
            refine z_ladd hx hb dX4_round_239 ?_
            refine z_ldc2 (n := -1000000000) hx hb hown w_6 (by decide) dX4_round_240 ?_
            refine z_ldc2 (n := 1000000000) hx hb hown w_7 (by decide) dX4_round_243 ?_
            refine z_kL (z_runS (As := [zl ((Fsd (i)) + (((1000) * (((pr) - (zgb (σ pp) Fat (i))) - (zbe (σ pp) Fat (i)))).tdiv (pma (σ pp)))), zl (-1000000000), zl (1000000000)]) (rest := [zi (i), .ref (ad (24))]) ⟨hx, hb, hml, hown, hts⟩ hK hw (k_cut l hl0 G I ad _ _ ((Fsd (i)) + (((1000) * (((pr) - (zgb (σ pp) Fat (i))) - (zbe (σ pp) Fat (i)))).tdiv (pma (σ pp)))) (-1000000000) (1000000000) ⟨by omega, by omega⟩ ⟨by decide, by decide⟩ ⟨by decide, by decide⟩) (va_cwS 3 hts gX4_round_X4_cut rfl rfl rfl (by decide +kernel) ⟨Nat.le_of_ble_eq_true rfl, Nat.le_of_ble_eq_true rfl⟩) rfl hl.1 rfl (Nat.le_of_ble_eq_true rfl) dX4_round_246 ⟨Nat.le_of_ble_eq_true rfl, Nat.le_of_ble_eq_true rfl⟩) hw (fun r_26 ct_27 H locs hP hw => ?_)
            obtain ⟨rfl, hct⟩ := hP
            rw [hct] at hw
            clear hct
            rw [show (zcl ((Fsd (i)) + (((1000) * (((pr) - (zgb (σ pp) Fat (i))) - (zbe (σ pp) Fat (i)))).tdiv (pma (σ pp)))) (-1000000000) (1000000000) : Int) = znv (σ pp) hm Fat Fsd (i) from zhv2 _ _ (by omega) (hpr (by omega))]
            refine z_last (f := g2) hx hb hK hw (hM 24 (by decide) (by decide)) rfl (by omega) (by omega) (by decide) dX4_round_249 (fun H locs hw => ?_)
            refine lv_lload hx hb dX4_round_250 (lv_at hl 0 rfl) ?_
            refine lv_lstore (lv' := [(8, zl (zbe (σ pp) Fat (i))), (14, zl (zbe (σ pp) Fat (i))), (12, zl (zgb (σ pp) Fat (i))), (11, zi (((12) * (a)) + (i))), (0, .ref (ad (8))), (1, zi (a)), (2, zi (ro)), (3, zl (hm)), (5, zi (pn (σ pp))), (10, zi (i))]) hx hb dX4_round_252 hl (by decide) rfl (fun ls hl => ?_)
            refine z_iinc (lv' := [(10, zi (i + 1)), (8, zl (zbe (σ pp) Fat (i))), (14, zl (zbe (σ pp) Fat (i))), (12, zl (zgb (σ pp) Fat (i))), (11, zi (((12) * (a)) + (i))), (0, .ref (ad (8))), (1, zi (a)), (2, zi (ro)), (3, zl (hm)), (5, zi (pn (σ pp)))]) hx hb dX4_round_254 hl (k := 9) rfl (by decide) rfl (fun ls hl => ?_)
            refine lv_goto (tgt := 82) hx hb dX4_round_257 (by decide) ?_
            exact ih82 (i + 1) (zup (g2) (i) (znv (σ pp) hm Fat Fsd (i))) (zbe (σ pp) Fat (i)) (by omega) (by omega) (by omega) (zmw_s hg2 rfl) (fun h9 => zab_s (by omega) (by omega)) (by omega) _ _ (zWe hw (by simp only [zW3_p22, zW3_p23, zW3_p24, zW3_zW3])) _ (lv_sub hl [5, 6, 7, 8, 9, 1, 0] rfl)
    exact L82 _ (0) (zup (Fsd) (pn (σ pp)) (znv (σ pp) hm Fat Fsd (pn (σ pp)))) (zcu (σ pp) Fat) (Nat.lt_succ_self _) (by omega) (by omega) (zmw_0 rfl) (fun _ => rfl) (by omega) _ _ (zWe (zWe hw (congrArg (fun w9 => zU w9 24 _) (zW3_id h22 h23 h24).symm)) (by simp only [zW3_p24])) _ (lv_sub hl [4, 5, 6, 7, 3, 1, 0] rfl)

set_option maxHeartbeats 4000000 in
set_option maxRecDepth 100000 in
theorem m_blow (l : Launch) (hl0 : l.stackTraces = false) (G : zG) (I : List Nat) (ad : Nat → Nat) (ct : Nat → va_E) (sz : Nat) (n : Nat) (hn6 : n ≤ 6) (σ : Nat → zPl) (hgs : ∀ p : Nat, p < n → zGood (σ p)) (cd bl : Int) (Fmn Fsp Fms Fco Fst Fmo Fsk Fts Ftm Fjn Fpl Fgr Fab : Int → Int) (hRel : zMrel n σ Fmn Fsp Fms Fco Fst Fmo Fsk Fts Ftm Fjn) (hM : ∀ j : Nat, 8 ≤ j → j ≤ 24 → j ∈ I) (hms : zMst G ad ct n cd bl Fmn Fsp Fms Fco Fst Fmo Fsk Fts Ftm Fjn) (hmc : zMsc G ct Fpl Fgr Fab) (Fwv Fat Fsd : Int → Int) (hmb : zMbl G ct Fwv Fat Fsd) (a1 a2 a3 : Int) (hz1 : zr a1) (hz2 : zr a2) (hz3 : zr a3) : zN l yX4_blow wsX4_blow 2 60 0 0 G [.ref (ad (8)), zi (a1), zi (a2), zi (a3)] I ad ct zno sz (zk I (zqi fun z u => ∃ (cd9 bl9 : Int) (f g wv : Int → Int), ((((0 ≤ a1 ∧ a1 < n) ∧ (1 ≤ a2 ∧ a2 ≤ 10000) ∧ (1 ≤ a3 ∧ a3 ≤ 1000)) ∧ cd9 = 0 ∧ bl9 = a1 ∧ z = zset (σ (a1).toNat) a2 a3 ∧ zwv (σ (a1).toNat) a2 a3 200 wv) ∨ (¬ ((0 ≤ a1 ∧ a1 < n) ∧ (1 ≤ a2 ∧ a2 ≤ 10000) ∧ (1 ≤ a3 ∧ a3 ≤ 1000)) ∧ cd9 = 1 ∧ bl9 = bl ∧ wv = Fwv)) ∧ u = zW3 (zU ct 8 (zmo ad n cd9 bl9)) (zL G 2600 wv) (zL G 13 f) (zL G 13 g))) := by
  obtain ⟨h8, h9, h10, h11, h12, h13, h14, h15, h16, h17, h18⟩ := hms
  obtain ⟨h19, h20, h21⟩ := hmc
  obtain ⟨h22, h23, h24⟩ := hmb
  refine z_ofW (ret := (some .int)) hl0 (by decide +kernel) rfl (Nat.le_of_ble_eq_true rfl) ?_
  intro p e s m args below meth c A ls hA0 hsz hF hr hout hnm hw hl
  obtain ⟨hx, hb, hml, hown, hts, hK, hlk, hst⟩ := hF
  have hown : s.vm.findClass RX4 = some m.cls := hown
  have hl : lv_has ls 9 [(0, .ref (ad (8))), (1, zi (a1)), (2, zi (a2)), (3, zi (a3))] := hl
  have w_0 := hts (.fieldLink RX4 65 "PileMovesModel" "code" "I") (by decide +kernel)
  have w_1 : ∀ w ∈ wsX40, w ∈ wsX4_blow := by decide +kernel
  have w_2 := hts (.constantLong RX4 81 (10000)) (by decide +kernel)
  have w_3 := hts (.constantLong RX4 83 (1000)) (by decide +kernel)
  have w_4 := hts (.fieldLink RX4 7 "PileMovesModel" "many" "[I") (by decide +kernel)
  have w_5 := hts (.fieldLink RX4 62 "PileMovesModel" "speeds" "[J") (by decide +kernel)
  have w_6 := hts (.fieldLink RX4 55 "PileMovesModel" "blown" "I") (by decide +kernel)
  have w_7 := hts (.fieldLink RX4 32 "PileMovesModel" "tipStiff" "[J") (by decide +kernel)
  have w_8 := hts (.fieldLink RX4 35 "PileMovesModel" "tipMost" "[J") (by decide +kernel)
  have w_9 := hts (.fieldLink RX4 59 "PileMovesModel" "at" "[J") (by decide +kernel)
  refine lv_aload_n hx hb dX4_blow_0 rfl (lv_at hl 0 rfl) ?_
  refine lv_aload_n hx hb dX4_blow_1 rfl (lv_at hl 0 rfl) ?_
  refine lv_iload_n hx hb dX4_blow_2 rfl (lv_at hl 1 rfl) ?_
  refine z_kI (z_runV (As := [zi (a1)]) (rest := [.ref (ad (8))]) (k := 8) (fs := [zi (cd), zi (n), .ref (ad (9)), .ref (ad (10)), .ref (ad (11)), .ref (ad (12)), .ref (ad (13)), .ref (ad (14)), .ref (ad (15)), .ref (ad (16)), .ref (ad (17)), .ref (ad (18)), .ref (ad (19)), .ref (ad (20)), .ref (ad (21)), .ref (ad (22)), zi (bl), .ref (ad (23)), .ref (ad (24))]) ⟨hx, hb, hml, hown, hts⟩ hK hw (k_isPile l hl0 G I ad _ _ n hn6 σ hgs (cd) (bl) (Fmn) (Fsp) (Fms) (Fco) (Fst) (Fmo) (Fsk) (Fts) (Ftm) (Fjn) (Fpl) (Fgr) (Fab) hRel hM ⟨h8, h9, h10, h11, h12, h13, h14, h15, h16, h17, h18⟩ ⟨h19, h20, h21⟩ (a1) ⟨by omega, by omega⟩) (cwV 1 hts gX4_blow_X4_isPile rfl rfl rfl (by decide +kernel) ⟨Nat.le_of_ble_eq_true rfl, Nat.le_of_ble_eq_true rfl⟩) (hM 8 (by decide) (by decide)) h8 rfl rfl rfl hl.1 rfl (Nat.le_of_ble_eq_true rfl) dX4_blow_3 ⟨Nat.le_of_ble_eq_true rfl, Nat.le_of_ble_eq_true rfl⟩) hw (fun r_1 ct_2 H locs hP hw => ?_)
  obtain ⟨rfl, hct⟩ := hP
  rw [hct] at hw
  clear hct
  refine z_ifb_eq (tgt := 37) hx hb dX4_blow_6 (by decide) (fun c_3 => ?_) (fun c_3 => ?_)
  · refine z_ic hx hb dX4_blow_37 ?_
    refine z_put (C := RX4) (T := TX4) (N := 19) (fs := [zi (cd), zi (n), .ref (ad (9)), .ref (ad (10)), .ref (ad (11)), .ref (ad (12)), .ref (ad (13)), .ref (ad (14)), .ref (ad (15)), .ref (ad (16)), .ref (ad (17)), .ref (ad (18)), .ref (ad (19)), .ref (ad (20)), .ref (ad (21)), .ref (ad (22)), zi (bl), .ref (ad (23)), .ref (ad (24))]) (fs' := [zi (1), zi (n), .ref (ad (9)), .ref (ad (10)), .ref (ad (11)), .ref (ad (12)), .ref (ad (13)), .ref (ad (14)), .ref (ad (15)), .ref (ad (16)), .ref (ad (17)), .ref (ad (18)), .ref (ad (19)), .ref (ad (20)), .ref (ad (21)), .ref (ad (22)), zi (bl), .ref (ad (23)), .ref (ad (24))]) hx hb hts w_1 tyX4_ok nmX4 hown hK hw (hM 8 (by decide) (by decide)) h8 rfl 0 (by decide) w_0 rfl rfl rfl rfl (Nat.le_of_ble_eq_true rfl) rfl dX4_blow_38 (fun H locs hw => ?_)
    refine lv_aload_n hx hb dX4_blow_41 rfl (lv_at hl 0 rfl) ?_
    refine z_get (C := RX4) (T := TX4) (N := 19) (fs := [zi (1), zi (n), .ref (ad (9)), .ref (ad (10)), .ref (ad (11)), .ref (ad (12)), .ref (ad (13)), .ref (ad (14)), .ref (ad (15)), .ref (ad (16)), .ref (ad (17)), .ref (ad (18)), .ref (ad (19)), .ref (ad (20)), .ref (ad (21)), .ref (ad (22)), zi (bl), .ref (ad (23)), .ref (ad (24))]) hx hb hts w_1 hown hK hw (hM 8 (by decide) (by decide)) (zU_s _ _ _) rfl 0 (by decide) w_0 rfl rfl dX4_blow_42 ?_
    refine z_if_le (tgt := 50) hx hb dX4_blow_45 (by decide) ⟨by decide, by decide⟩ (fun c_4 => ?_) (fun c_4 => ?_)
    · exact absurd c_4 (by decide)
    · refine z_ic hx hb dX4_blow_48 ?_
      exact z_iret hx hb hlk hr hw dX4_blow_49 (Nat.le_of_ble_eq_true rfl) (Nat.le_of_ble_eq_true rfl) ⟨rfl, _, rfl, ⟨1, bl, Fat, Fsd, Fwv, Or.inr ⟨by omega, rfl, rfl, rfl⟩, (zW3_id (zU_n (by decide) h22) (zU_n (by decide) h23) (zU_n (by decide) h24)).symm⟩⟩
  · refine lv_iload_n hx hb dX4_blow_9 rfl (lv_at hl 2 rfl) ?_
    refine z_i2l hx hb dX4_blow_10 ⟨by omega, by omega⟩ ?_
    refine z_lc1 hx hb dX4_blow_11 ?_
    refine z_ldc2 (n := 10000) hx hb hown w_2 (by decide) dX4_blow_12 ?_
    refine z_kI (z_runS (As := [zl (a2), zl (1), zl (10000)]) (rest := [.ref (ad (8))]) ⟨hx, hb, hml, hown, hts⟩ hK hw (k_in l hl0 G I ad _ _ (a2) (1) (10000) ⟨by omega, by omega⟩ ⟨by decide, by decide⟩ ⟨by decide, by decide⟩) (va_cwS 3 hts gX4_blow_X4_in rfl rfl rfl (by decide +kernel) ⟨Nat.le_of_ble_eq_true rfl, Nat.le_of_ble_eq_true rfl⟩) rfl hl.1 rfl (Nat.le_of_ble_eq_true rfl) dX4_blow_15 ⟨Nat.le_of_ble_eq_true rfl, Nat.le_of_ble_eq_true rfl⟩) hw (fun r_5 ct_6 H locs hP hw => ?_)
    obtain ⟨rfl, hct⟩ := hP
    rw [hct] at hw
    clear hct
    refine z_ifb_eq (tgt := 37) hx hb dX4_blow_18 (by decide) (fun c_7 => ?_) (fun c_7 => ?_)
    · refine z_ic hx hb dX4_blow_37 ?_
      refine z_put (C := RX4) (T := TX4) (N := 19) (fs := [zi (cd), zi (n), .ref (ad (9)), .ref (ad (10)), .ref (ad (11)), .ref (ad (12)), .ref (ad (13)), .ref (ad (14)), .ref (ad (15)), .ref (ad (16)), .ref (ad (17)), .ref (ad (18)), .ref (ad (19)), .ref (ad (20)), .ref (ad (21)), .ref (ad (22)), zi (bl), .ref (ad (23)), .ref (ad (24))]) (fs' := [zi (1), zi (n), .ref (ad (9)), .ref (ad (10)), .ref (ad (11)), .ref (ad (12)), .ref (ad (13)), .ref (ad (14)), .ref (ad (15)), .ref (ad (16)), .ref (ad (17)), .ref (ad (18)), .ref (ad (19)), .ref (ad (20)), .ref (ad (21)), .ref (ad (22)), zi (bl), .ref (ad (23)), .ref (ad (24))]) hx hb hts w_1 tyX4_ok nmX4 hown hK hw (hM 8 (by decide) (by decide)) h8 rfl 0 (by decide) w_0 rfl rfl rfl rfl (Nat.le_of_ble_eq_true rfl) rfl dX4_blow_38 (fun H locs hw => ?_)
      refine lv_aload_n hx hb dX4_blow_41 rfl (lv_at hl 0 rfl) ?_
      refine z_get (C := RX4) (T := TX4) (N := 19) (fs := [zi (1), zi (n), .ref (ad (9)), .ref (ad (10)), .ref (ad (11)), .ref (ad (12)), .ref (ad (13)), .ref (ad (14)), .ref (ad (15)), .ref (ad (16)), .ref (ad (17)), .ref (ad (18)), .ref (ad (19)), .ref (ad (20)), .ref (ad (21)), .ref (ad (22)), zi (bl), .ref (ad (23)), .ref (ad (24))]) hx hb hts w_1 hown hK hw (hM 8 (by decide) (by decide)) (zU_s _ _ _) rfl 0 (by decide) w_0 rfl rfl dX4_blow_42 ?_
      refine z_if_le (tgt := 50) hx hb dX4_blow_45 (by decide) ⟨by decide, by decide⟩ (fun c_8 => ?_) (fun c_8 => ?_)
      · exact absurd c_8 (by decide)
      · refine z_ic hx hb dX4_blow_48 ?_
        exact z_iret hx hb hlk hr hw dX4_blow_49 (Nat.le_of_ble_eq_true rfl) (Nat.le_of_ble_eq_true rfl) ⟨rfl, _, rfl, ⟨1, bl, Fat, Fsd, Fwv, Or.inr ⟨by omega, rfl, rfl, rfl⟩, (zW3_id (zU_n (by decide) h22) (zU_n (by decide) h23) (zU_n (by decide) h24)).symm⟩⟩
    · refine lv_iload_n hx hb dX4_blow_21 rfl (lv_at hl 3 rfl) ?_
      refine z_i2l hx hb dX4_blow_22 ⟨by omega, by omega⟩ ?_
      refine z_lc1 hx hb dX4_blow_23 ?_
      refine z_ldc2 (n := 1000) hx hb hown w_3 (by decide) dX4_blow_24 ?_
      refine z_kI (z_runS (As := [zl (a3), zl (1), zl (1000)]) (rest := [.ref (ad (8))]) ⟨hx, hb, hml, hown, hts⟩ hK hw (k_in l hl0 G I ad _ _ (a3) (1) (1000) ⟨by omega, by omega⟩ ⟨by decide, by decide⟩ ⟨by decide, by decide⟩) (va_cwS 3 hts gX4_blow_X4_in rfl rfl rfl (by decide +kernel) ⟨Nat.le_of_ble_eq_true rfl, Nat.le_of_ble_eq_true rfl⟩) rfl hl.1 rfl (Nat.le_of_ble_eq_true rfl) dX4_blow_27 ⟨Nat.le_of_ble_eq_true rfl, Nat.le_of_ble_eq_true rfl⟩) hw (fun r_9 ct_10 H locs hP hw => ?_)
      obtain ⟨rfl, hct⟩ := hP
      rw [hct] at hw
      clear hct
      refine z_ifb_eq (tgt := 37) hx hb dX4_blow_30 (by decide) (fun c_11 => ?_) (fun c_11 => ?_)
      · refine z_ic hx hb dX4_blow_37 ?_
        refine z_put (C := RX4) (T := TX4) (N := 19) (fs := [zi (cd), zi (n), .ref (ad (9)), .ref (ad (10)), .ref (ad (11)), .ref (ad (12)), .ref (ad (13)), .ref (ad (14)), .ref (ad (15)), .ref (ad (16)), .ref (ad (17)), .ref (ad (18)), .ref (ad (19)), .ref (ad (20)), .ref (ad (21)), .ref (ad (22)), zi (bl), .ref (ad (23)), .ref (ad (24))]) (fs' := [zi (1), zi (n), .ref (ad (9)), .ref (ad (10)), .ref (ad (11)), .ref (ad (12)), .ref (ad (13)), .ref (ad (14)), .ref (ad (15)), .ref (ad (16)), .ref (ad (17)), .ref (ad (18)), .ref (ad (19)), .ref (ad (20)), .ref (ad (21)), .ref (ad (22)), zi (bl), .ref (ad (23)), .ref (ad (24))]) hx hb hts w_1 tyX4_ok nmX4 hown hK hw (hM 8 (by decide) (by decide)) h8 rfl 0 (by decide) w_0 rfl rfl rfl rfl (Nat.le_of_ble_eq_true rfl) rfl dX4_blow_38 (fun H locs hw => ?_)
        refine lv_aload_n hx hb dX4_blow_41 rfl (lv_at hl 0 rfl) ?_
        refine z_get (C := RX4) (T := TX4) (N := 19) (fs := [zi (1), zi (n), .ref (ad (9)), .ref (ad (10)), .ref (ad (11)), .ref (ad (12)), .ref (ad (13)), .ref (ad (14)), .ref (ad (15)), .ref (ad (16)), .ref (ad (17)), .ref (ad (18)), .ref (ad (19)), .ref (ad (20)), .ref (ad (21)), .ref (ad (22)), zi (bl), .ref (ad (23)), .ref (ad (24))]) hx hb hts w_1 hown hK hw (hM 8 (by decide) (by decide)) (zU_s _ _ _) rfl 0 (by decide) w_0 rfl rfl dX4_blow_42 ?_
        refine z_if_le (tgt := 50) hx hb dX4_blow_45 (by decide) ⟨by decide, by decide⟩ (fun c_12 => ?_) (fun c_12 => ?_)
        · exact absurd c_12 (by decide)
        · refine z_ic hx hb dX4_blow_48 ?_
          exact z_iret hx hb hlk hr hw dX4_blow_49 (Nat.le_of_ble_eq_true rfl) (Nat.le_of_ble_eq_true rfl) ⟨rfl, _, rfl, ⟨1, bl, Fat, Fsd, Fwv, Or.inr ⟨by omega, rfl, rfl, rfl⟩, (zW3_id (zU_n (by decide) h22) (zU_n (by decide) h23) (zU_n (by decide) h24)).symm⟩⟩
      · refine z_ic hx hb dX4_blow_33 ?_
        refine lv_goto (tgt := 38) hx hb dX4_blow_34 (by decide) ?_
        refine z_put (C := RX4) (T := TX4) (N := 19) (fs := [zi (cd), zi (n), .ref (ad (9)), .ref (ad (10)), .ref (ad (11)), .ref (ad (12)), .ref (ad (13)), .ref (ad (14)), .ref (ad (15)), .ref (ad (16)), .ref (ad (17)), .ref (ad (18)), .ref (ad (19)), .ref (ad (20)), .ref (ad (21)), .ref (ad (22)), zi (bl), .ref (ad (23)), .ref (ad (24))]) (fs' := [zi (0), zi (n), .ref (ad (9)), .ref (ad (10)), .ref (ad (11)), .ref (ad (12)), .ref (ad (13)), .ref (ad (14)), .ref (ad (15)), .ref (ad (16)), .ref (ad (17)), .ref (ad (18)), .ref (ad (19)), .ref (ad (20)), .ref (ad (21)), .ref (ad (22)), zi (bl), .ref (ad (23)), .ref (ad (24))]) hx hb hts w_1 tyX4_ok nmX4 hown hK hw (hM 8 (by decide) (by decide)) h8 rfl 0 (by decide) w_0 rfl rfl rfl rfl (Nat.le_of_ble_eq_true rfl) rfl dX4_blow_38 (fun H locs hw => ?_)
        refine lv_aload_n hx hb dX4_blow_41 rfl (lv_at hl 0 rfl) ?_
        refine z_get (C := RX4) (T := TX4) (N := 19) (fs := [zi (0), zi (n), .ref (ad (9)), .ref (ad (10)), .ref (ad (11)), .ref (ad (12)), .ref (ad (13)), .ref (ad (14)), .ref (ad (15)), .ref (ad (16)), .ref (ad (17)), .ref (ad (18)), .ref (ad (19)), .ref (ad (20)), .ref (ad (21)), .ref (ad (22)), zi (bl), .ref (ad (23)), .ref (ad (24))]) hx hb hts w_1 hown hK hw (hM 8 (by decide) (by decide)) (zU_s _ _ _) rfl 0 (by decide) w_0 rfl rfl dX4_blow_42 ?_
        refine z_if_le (tgt := 50) hx hb dX4_blow_45 (by decide) ⟨by decide, by decide⟩ (fun c_13 => ?_) (fun c_13 => ?_)
        · have hg := hgs ((a1).toNat) (by omega)
          have hg0 := hg
          obtain ⟨⟨g1, g2⟩, ⟨g3, g4⟩, ⟨g5, g6⟩, ⟨g7, g8⟩, ⟨g9, g10⟩, ⟨g11, g12⟩, g13, g14, g15, g16⟩ := hg0
          have gn : ((σ ((a1).toNat)).1 : Int) = pn (σ ((a1).toNat)) := rfl
          have hr0 := hRel ((a1).toNat) (by omega)
          rw [show ((((a1).toNat) : Nat) : Int) = a1 by omega] at hr0
          obtain ⟨r1, r2, r3, r4, r5, r6, r7, r8⟩ := hr0
          refine lv_aload_n hx hb dX4_blow_50 rfl (lv_at hl 0 rfl) ?_
          refine z_get (C := RX4) (T := TX4) (N := 19) (fs := [zi (0), zi (n), .ref (ad (9)), .ref (ad (10)), .ref (ad (11)), .ref (ad (12)), .ref (ad (13)), .ref (ad (14)), .ref (ad (15)), .ref (ad (16)), .ref (ad (17)), .ref (ad (18)), .ref (ad (19)), .ref (ad (20)), .ref (ad (21)), .ref (ad (22)), zi (bl), .ref (ad (23)), .ref (ad (24))]) hx hb hts w_1 hown hK hw (hM 8 (by decide) (by decide)) (zU_s _ _ _) rfl 2 (by decide) w_4 rfl rfl dX4_blow_51 ?_
          refine lv_iload_n hx hb dX4_blow_54 rfl (lv_at hl 1 rfl) ?_
          refine z_iald (f := Fmn) hx hb hK hw (hM 9 (by decide) (by decide)) (zU_n (by decide) h9) (by omega) (by omega) (by decide) dX4_blow_55 ?_
          rw [show (Fmn (a1) : Int) = pn (σ (a1).toNat) from r1]
          refine lv_istore (lv' := [(4, zi (pn (σ (a1).toNat))), (0, .ref (ad (8))), (1, zi (a1)), (2, zi (a2)), (3, zi (a3))]) hx hb dX4_blow_56 hl (by decide) rfl (fun ls hl => ?_)
          refine z_ic hx hb dX4_blow_58 ?_
          refine lv_istore (lv' := [(5, zi (0)), (4, zi (pn (σ (a1).toNat))), (0, .ref (ad (8))), (1, zi (a1)), (2, zi (a2)), (3, zi (a3))]) hx hb dX4_blow_59 hl (by decide) rfl (fun ls hl => ?_)
          have L61 : ∀ (nn : Nat) (i : Int) (f1 : Int → Int) (g1 : Int → Int), ((14 - i).toNat) < nn → (0 ≤ i) → (i ≤ pn (σ (a1).toNat) + 1) → (∀ x : Int, 0 ≤ x → x < i → f1 x = 0) → (∀ x : Int, 0 ≤ x → x < i → g1 x = 0) → ∀ (H : Heap) (locs : List Loc), zW G A s.heap H locs I ad (zW3 (zU ct 8 (zmo ad n (0) (bl))) (zL G 2600 Fwv) (zL G 13 f1) (zL G 13 g1)) → ∀ ls, lv_has ls 9 [(0, .ref (ad (8))), (1, zi (a1)), (2, zi (a2)), (3, zi (a3)), (4, zi (pn (σ (a1).toNat))), (5, zi (i))] → W p l e ({ frames := 2, cells := 0, slots := 0, locals := 60 } : Room) s m args below meth c H locs 0 0 (vx_MQ below (zQ G A ad (zk I (zqi fun z u => ∃ (cd9 bl9 : Int) (f g wv : Int → Int), ((((0 ≤ a1 ∧ a1 < n) ∧ (1 ≤ a2 ∧ a2 ≤ 10000) ∧ (1 ≤ a3 ∧ a3 ≤ 1000)) ∧ cd9 = 0 ∧ bl9 = a1 ∧ z = zset (σ (a1).toNat) a2 a3 ∧ zwv (σ (a1).toNat) a2 a3 200 wv) ∨ (¬ ((0 ≤ a1 ∧ a1 < n) ∧ (1 ≤ a2 ∧ a2 ≤ 10000) ∧ (1 ≤ a3 ∧ a3 ≤ 1000)) ∧ cd9 = 1 ∧ bl9 = bl ∧ wv = Fwv)) ∧ u = zW3 (zU ct 8 (zmo ad n cd9 bl9)) (zL G 2600 wv) (zL G 13 f) (zL G 13 g)))) (zX G A I ad ct zno) args s 0 0 A) (F0 m 61 ls []) := by
            intro nn
            induction nn with
            | zero => intro i f1 g1 hme; exact absurd hme (Nat.not_lt_zero _)
            | succ nn ih61 =>
              intro i f1 g1 hme61 hi0 hi1 hf hg9 H locs hw ls hl
              refine lv_iload hx hb dX4_blow_61 (lv_at hl 5 rfl) ?_
              refine lv_iload hx hb dX4_blow_63 (lv_at hl 4 rfl) ?_
              refine z_icmp_gt (tgt := 90) hx hb dX4_blow_65 (by decide) ⟨by omega, by omega⟩ ⟨by omega, by omega⟩ (fun c_14 => ?_) (fun c_14 => ?_)
              · refine lv_aload_n hx hb dX4_blow_90 rfl (lv_at hl 0 rfl) ?_
                refine z_get (C := RX4) (T := TX4) (N := 19) (fs := [zi (0), zi (n), .ref (ad (9)), .ref (ad (10)), .ref (ad (11)), .ref (ad (12)), .ref (ad (13)), .ref (ad (14)), .ref (ad (15)), .ref (ad (16)), .ref (ad (17)), .ref (ad (18)), .ref (ad (19)), .ref (ad (20)), .ref (ad (21)), .ref (ad (22)), zi (bl), .ref (ad (23)), .ref (ad (24))]) hx hb hts w_1 hown hK hw (hM 8 (by decide) (by decide)) (zW3_n (by omega) (zU_s _ _ _)) rfl 18 (by decide) w_5 rfl rfl dX4_blow_91 ?_
                refine lv_iload hx hb dX4_blow_94 (lv_at hl 4 rfl) ?_
                refine z_ldc2 (n := 1000) hx hb hown w_3 (by decide) dX4_blow_96 ?_
                refine lv_iload_n hx hb dX4_blow_99 rfl (lv_at hl 3 rfl) ?_
                refine z_i2l hx hb dX4_blow_100 ⟨by omega, by omega⟩ ?_
                refine z_lmul hx hb dX4_blow_101 ?_
                refine z_last (f := g1) hx hb hK hw (hM 24 (by decide) (by decide)) rfl (by omega) (by omega) (by decide) dX4_blow_102 (fun H locs hw => ?_)
                refine z_lc0 hx hb dX4_blow_103 ?_
                refine lv_lstore (lv' := [(5, zl (0)), (0, .ref (ad (8))), (1, zi (a1)), (2, zi (a2)), (3, zi (a3)), (4, zi (pn (σ (a1).toNat)))]) hx hb dX4_blow_104 hl (by decide) rfl (fun ls hl => ?_)
                refine z_ic hx hb dX4_blow_106 ?_
                refine lv_istore (lv' := [(7, zi (0)), (5, zl (0)), (0, .ref (ad (8))), (1, zi (a1)), (2, zi (a2)), (3, zi (a3)), (4, zi (pn (σ (a1).toNat)))]) hx hb dX4_blow_107 hl (by decide) rfl (fun ls hl => ?_)
                have L109 : ∀ (nn : Nat) (K : Nat) (r : Int) (dp : Int) (f1 : Int → Int) (g1 : Int → Int) (wv1 : Int → Int), (200 - K) < nn → (r = K) → (K ≤ 200) → (zEq (σ (a1).toNat) f1 (zro (σ (a1).toNat) a2 a3 K).1) → (zEq (σ (a1).toNat) g1 (zro (σ (a1).toNat) a2 a3 K).2) → (dp = zdp (σ (a1).toNat) a2 a3 K) → (zwv (σ (a1).toNat) a2 a3 K wv1) → ∀ (H : Heap) (locs : List Loc), zW G A s.heap H locs I ad (zW3 (zU ct 8 (zmo ad n (0) (bl))) (zL G 2600 wv1) (zL G 13 f1) (zL G 13 g1)) → ∀ ls, lv_has ls 9 [(0, .ref (ad (8))), (1, zi (a1)), (2, zi (a2)), (3, zi (a3)), (4, zi (pn (σ (a1).toNat))), (5, zl (dp)), (7, zi (r))] → W p l e ({ frames := 2, cells := 0, slots := 0, locals := 60 } : Room) s m args below meth c H locs 0 0 (vx_MQ below (zQ G A ad (zk I (zqi fun z u => ∃ (cd9 bl9 : Int) (f g wv : Int → Int), ((((0 ≤ a1 ∧ a1 < n) ∧ (1 ≤ a2 ∧ a2 ≤ 10000) ∧ (1 ≤ a3 ∧ a3 ≤ 1000)) ∧ cd9 = 0 ∧ bl9 = a1 ∧ z = zset (σ (a1).toNat) a2 a3 ∧ zwv (σ (a1).toNat) a2 a3 200 wv) ∨ (¬ ((0 ≤ a1 ∧ a1 < n) ∧ (1 ≤ a2 ∧ a2 ≤ 10000) ∧ (1 ≤ a3 ∧ a3 ≤ 1000)) ∧ cd9 = 1 ∧ bl9 = bl ∧ wv = Fwv)) ∧ u = zW3 (zU ct 8 (zmo ad n cd9 bl9)) (zL G 2600 wv) (zL G 13 f) (zL G 13 g)))) (zX G A I ad ct zno) args s 0 0 A) (F0 m 109 ls []) := by
                  intro nn
                  induction nn with
                  | zero => intro K r dp f1 g1 wv1 hme; exact absurd hme (Nat.not_lt_zero _)
                  | succ nn ih109 =>
                    intro K r dp f1 g1 wv1 hme109 hr9 hK9 hf1 hg1 hdp hwv H locs hw ls hl
                    have hfB : zB (σ (a1).toNat) f1 := fun x h1 h2 => by have e1 := hf1 x h1 h2; have e2 := zro_pl (σ (a1).toNat) a2 a3 K x; omega
                    refine lv_iload hx hb dX4_blow_109 (lv_at hl 6 rfl) ?_
                    refine z_si hx hb dX4_blow_111 (by decide) ?_
                    refine z_icmp_ge (tgt := 163) hx hb dX4_blow_114 (by decide) ⟨by omega, by omega⟩ ⟨by decide, by decide⟩ (fun c_15 => ?_) (fun c_15 => ?_)
                    · have hdp2 : dp = zdp (σ (a1).toNat) a2 a3 200 := by rw [hdp, show K = 200 by omega]
                      have bd1 := zdp_bd (σ (a1).toNat) a2 a3 200
                      refine lv_aload_n hx hb dX4_blow_163 rfl (lv_at hl 0 rfl) ?_
                      refine lv_iload_n hx hb dX4_blow_164 rfl (lv_at hl 1 rfl) ?_
                      refine z_put (C := RX4) (T := TX4) (N := 19) (fs := [zi (0), zi (n), .ref (ad (9)), .ref (ad (10)), .ref (ad (11)), .ref (ad (12)), .ref (ad (13)), .ref (ad (14)), .ref (ad (15)), .ref (ad (16)), .ref (ad (17)), .ref (ad (18)), .ref (ad (19)), .ref (ad (20)), .ref (ad (21)), .ref (ad (22)), zi (bl), .ref (ad (23)), .ref (ad (24))]) (fs' := [zi (0), zi (n), .ref (ad (9)), .ref (ad (10)), .ref (ad (11)), .ref (ad (12)), .ref (ad (13)), .ref (ad (14)), .ref (ad (15)), .ref (ad (16)), .ref (ad (17)), .ref (ad (18)), .ref (ad (19)), .ref (ad (20)), .ref (ad (21)), .ref (ad (22)), zi (a1), .ref (ad (23)), .ref (ad (24))]) hx hb hts w_1 tyX4_ok nmX4 hown hK hw (hM 8 (by decide) (by decide)) (zW3_n (by omega) (zU_s _ _ _)) rfl 16 (by decide) w_6 rfl rfl rfl rfl (Nat.le_of_ble_eq_true rfl) rfl dX4_blow_165 (fun H locs hw => ?_)
                      refine lv_aload_n hx hb dX4_blow_168 rfl (lv_at hl 0 rfl) ?_
                      refine z_get (C := RX4) (T := TX4) (N := 19) (fs := [zi (0), zi (n), .ref (ad (9)), .ref (ad (10)), .ref (ad (11)), .ref (ad (12)), .ref (ad (13)), .ref (ad (14)), .ref (ad (15)), .ref (ad (16)), .ref (ad (17)), .ref (ad (18)), .ref (ad (19)), .ref (ad (20)), .ref (ad (21)), .ref (ad (22)), zi (a1), .ref (ad (23)), .ref (ad (24))]) hx hb hts w_1 hown hK hw (hM 8 (by decide) (by decide)) (zU_s _ _ _) rfl 9 (by decide) w_7 rfl rfl dX4_blow_169 ?_
                      refine lv_iload_n hx hb dX4_blow_172 rfl (lv_at hl 1 rfl) ?_
                      refine z_lald (f := Fts) hx hb hK hw (hM 16 (by decide) (by decide)) (zU_n (by decide) (zW3_n (by omega) (zU_n (by decide) h16))) (by omega) (by omega) (by decide) dX4_blow_173 ?_
                      rw [show (Fts (a1) : Int) = pts (σ (a1).toNat) from r5]
                      refine z_lc0 hx hb dX4_blow_174 ?_
                      refine z_lcmp_ne (tgt := 183) hx hb dX4_blow_175 dX4_blow_176 (by decide) ⟨by omega, by omega⟩ ⟨by decide, by decide⟩ (fun c_16 => ?_) (fun c_16 => ?_)
                      · refine z_ldc2 (n := 1000) hx hb hown w_3 (by decide) dX4_blow_183 ?_
                        refine lv_aload_n hx hb dX4_blow_186 rfl (lv_at hl 0 rfl) ?_
                        refine z_get (C := RX4) (T := TX4) (N := 19) (fs := [zi (0), zi (n), .ref (ad (9)), .ref (ad (10)), .ref (ad (11)), .ref (ad (12)), .ref (ad (13)), .ref (ad (14)), .ref (ad (15)), .ref (ad (16)), .ref (ad (17)), .ref (ad (18)), .ref (ad (19)), .ref (ad (20)), .ref (ad (21)), .ref (ad (22)), zi (a1), .ref (ad (23)), .ref (ad (24))]) hx hb hts w_1 hown hK hw (hM 8 (by decide) (by decide)) (zU_s _ _ _) rfl 10 (by decide) w_8 rfl rfl dX4_blow_187 ?_
                        refine lv_iload_n hx hb dX4_blow_190 rfl (lv_at hl 1 rfl) ?_
                        refine z_lald (f := Ftm) hx hb hK hw (hM 17 (by decide) (by decide)) (zU_n (by decide) (zW3_n (by omega) (zU_n (by decide) h17))) (by omega) (by omega) (by decide) dX4_blow_191 ?_
                        rw [show (Ftm (a1) : Int) = ptm (σ (a1).toNat) from r6]
                        refine z_lmul hx hb dX4_blow_192 ?_
                        refine lv_aload_n hx hb dX4_blow_193 rfl (lv_at hl 0 rfl) ?_
                        refine z_get (C := RX4) (T := TX4) (N := 19) (fs := [zi (0), zi (n), .ref (ad (9)), .ref (ad (10)), .ref (ad (11)), .ref (ad (12)), .ref (ad (13)), .ref (ad (14)), .ref (ad (15)), .ref (ad (16)), .ref (ad (17)), .ref (ad (18)), .ref (ad (19)), .ref (ad (20)), .ref (ad (21)), .ref (ad (22)), zi (a1), .ref (ad (23)), .ref (ad (24))]) hx hb hts w_1 hown hK hw (hM 8 (by decide) (by decide)) (zU_s _ _ _) rfl 9 (by decide) w_7 rfl rfl dX4_blow_194 ?_
                        refine lv_iload_n hx hb dX4_blow_197 rfl (lv_at hl 1 rfl) ?_
                        refine z_lald (f := Fts) hx hb hK hw (hM 16 (by decide) (by decide)) (zU_n (by decide) (zW3_n (by omega) (zU_n (by decide) h16))) (by omega) (by omega) (by decide) dX4_blow_198 ?_
                        rw [show (Fts (a1) : Int) = pts (σ (a1).toNat) from r5]
                        refine z_ldiv hx hb dX4_blow_199 ⟨by omega, by omega⟩ ⟨by omega, by omega⟩ (by omega) ?_
                        rw [show (((1000) * (ptm (σ (a1).toNat))).tdiv (pts (σ (a1).toNat)) : Int) = zqk (σ (a1).toNat) from (if_neg (by omega)).symm]
                        have gq := zqk_bd hg
                        refine lv_lstore (lv' := [(7, zl (zqk (σ (a1).toNat))), (0, .ref (ad (8))), (1, zi (a1)), (2, zi (a2)), (3, zi (a3)), (4, zi (pn (σ (a1).toNat))), (5, zl (dp))]) hx hb dX4_blow_200 hl (by decide) rfl (fun ls hl => ?_)
                        refine lv_lload hx hb dX4_blow_202 (lv_at hl 6 rfl) ?_
                        refine lv_lload hx hb dX4_blow_204 (lv_at hl 0 rfl) ?_
                        refine z_lcmp_le (tgt := 219) hx hb dX4_blow_206 dX4_blow_207 (by decide) ⟨by omega, by omega⟩ ⟨by omega, by omega⟩ (fun c_17 => ?_) (fun c_17 => ?_)
                        · refine z_ic hx hb dX4_blow_219 ?_
                          exact z_iret hx hb hlk hr hw dX4_blow_220 (Nat.le_of_ble_eq_true rfl) (Nat.le_of_ble_eq_true rfl) ⟨rfl, _, rfl, ⟨0, a1, f1, g1, wv1, Or.inl ⟨by omega, rfl, rfl, by unfold zset; rw [← hdp2]; split <;> omega, by rw [show K = 200 by omega] at hwv; exact hwv⟩, by rw [zW3_8, zU_zU]; rfl⟩⟩
                        · refine lv_lload hx hb dX4_blow_210 (lv_at hl 6 rfl) ?_
                          refine lv_lload hx hb dX4_blow_212 (lv_at hl 0 rfl) ?_
                          refine z_lsub hx hb dX4_blow_214 ?_
                          refine z_l2i hx hb dX4_blow_215 ⟨by omega, by omega⟩ ?_
                          refine lv_goto (tgt := 220) hx hb dX4_blow_216 (by decide) ?_
                          exact z_iret hx hb hlk hr hw dX4_blow_220 (Nat.le_of_ble_eq_true rfl) (Nat.le_of_ble_eq_true rfl) ⟨rfl, _, rfl, ⟨0, a1, f1, g1, wv1, Or.inl ⟨by omega, rfl, rfl, by unfold zset; rw [← hdp2]; split <;> omega, by rw [show K = 200 by omega] at hwv; exact hwv⟩, by rw [zW3_8, zU_zU]; rfl⟩⟩
                      · refine z_lc0 hx hb dX4_blow_179 ?_
                        refine lv_goto (tgt := 200) hx hb dX4_blow_180 (by decide) ?_
                        refine W.eq (g2 := F0 m 200 ls (zl (zqk (σ (a1).toNat)) :: [])) (congrArg (fun z9 : Int => F0 m 200 ls (zl z9 :: [])) (show (0 : Int) = zqk (σ (a1).toNat) from (if_pos (by omega)).symm)) ?_
                        have gq := zqk_bd hg
                        refine lv_lstore (lv' := [(7, zl (zqk (σ (a1).toNat))), (0, .ref (ad (8))), (1, zi (a1)), (2, zi (a2)), (3, zi (a3)), (4, zi (pn (σ (a1).toNat))), (5, zl (dp))]) hx hb dX4_blow_200 hl (by decide) rfl (fun ls hl => ?_)
                        refine lv_lload hx hb dX4_blow_202 (lv_at hl 6 rfl) ?_
                        refine lv_lload hx hb dX4_blow_204 (lv_at hl 0 rfl) ?_
                        refine z_lcmp_le (tgt := 219) hx hb dX4_blow_206 dX4_blow_207 (by decide) ⟨by omega, by omega⟩ ⟨by omega, by omega⟩ (fun c_18 => ?_) (fun c_18 => ?_)
                        · refine z_ic hx hb dX4_blow_219 ?_
                          exact z_iret hx hb hlk hr hw dX4_blow_220 (Nat.le_of_ble_eq_true rfl) (Nat.le_of_ble_eq_true rfl) ⟨rfl, _, rfl, ⟨0, a1, f1, g1, wv1, Or.inl ⟨by omega, rfl, rfl, by unfold zset; rw [← hdp2]; split <;> omega, by rw [show K = 200 by omega] at hwv; exact hwv⟩, by rw [zW3_8, zU_zU]; rfl⟩⟩
                        · refine lv_lload hx hb dX4_blow_210 (lv_at hl 6 rfl) ?_
                          refine lv_lload hx hb dX4_blow_212 (lv_at hl 0 rfl) ?_
                          refine z_lsub hx hb dX4_blow_214 ?_
                          refine z_l2i hx hb dX4_blow_215 ⟨by omega, by omega⟩ ?_
                          refine lv_goto (tgt := 220) hx hb dX4_blow_216 (by decide) ?_
                          exact z_iret hx hb hlk hr hw dX4_blow_220 (Nat.le_of_ble_eq_true rfl) (Nat.le_of_ble_eq_true rfl) ⟨rfl, _, rfl, ⟨0, a1, f1, g1, wv1, Or.inl ⟨by omega, rfl, rfl, by unfold zset; rw [← hdp2]; split <;> omega, by rw [show K = 200 by omega] at hwv; exact hwv⟩, by rw [zW3_8, zU_zU]; rfl⟩⟩
                    · refine lv_aload_n hx hb dX4_blow_117 rfl (lv_at hl 0 rfl) ?_
                      refine lv_iload_n hx hb dX4_blow_118 rfl (lv_at hl 1 rfl) ?_
                      refine lv_iload hx hb dX4_blow_119 (lv_at hl 6 rfl) ?_
                      refine lv_iload_n hx hb dX4_blow_121 rfl (lv_at hl 2 rfl) ?_
                      refine z_i2l hx hb dX4_blow_122 ⟨by omega, by omega⟩ ?_
                      refine z_kV (z_runV (As := [zi (a1), zi (r), zl (a2)]) (rest := []) (k := 8) (fs := [zi (0), zi (n), .ref (ad (9)), .ref (ad (10)), .ref (ad (11)), .ref (ad (12)), .ref (ad (13)), .ref (ad (14)), .ref (ad (15)), .ref (ad (16)), .ref (ad (17)), .ref (ad (18)), .ref (ad (19)), .ref (ad (20)), .ref (ad (21)), .ref (ad (22)), zi (bl), .ref (ad (23)), .ref (ad (24))]) ⟨hx, hb, hml, hown, hts⟩ hK hw (k_round l hl0 G I ad _ _ n hn6 σ hgs (0) (bl) (Fmn) (Fsp) (Fms) (Fco) (Fst) (Fmo) (Fsk) (Fts) (Ftm) (Fjn) (Fpl) (Fgr) (Fab) hRel hM ⟨(zW3_n (by omega) (zU_s _ _ _)), (zW3_n (by omega) (zU_n (by decide) h9)), (zW3_n (by omega) (zU_n (by decide) h10)), (zW3_n (by omega) (zU_n (by decide) h11)), (zW3_n (by omega) (zU_n (by decide) h12)), (zW3_n (by omega) (zU_n (by decide) h13)), (zW3_n (by omega) (zU_n (by decide) h14)), (zW3_n (by omega) (zU_n (by decide) h15)), (zW3_n (by omega) (zU_n (by decide) h16)), (zW3_n (by omega) (zU_n (by decide) h17)), (zW3_n (by omega) (zU_n (by decide) h18))⟩ ⟨(zW3_n (by omega) (zU_n (by decide) h19)), (zW3_n (by omega) (zU_n (by decide) h20)), (zW3_n (by omega) (zU_n (by decide) h21))⟩ ((a1).toNat) (a1) (by omega) (by omega) (wv1) (f1) (g1) ⟨rfl, rfl, rfl⟩ (r) (by omega) (by omega) (a2) (by omega) (by omega) hfB (fun x9 h8 h9 => by rw [hg1 x9 h8 h9]; exact zro_sp (by omega) (by omega) K x9)) (cwV 3 hts gX4_blow_X4_round rfl rfl rfl (by decide +kernel) ⟨Nat.le_of_ble_eq_true rfl, Nat.le_of_ble_eq_true rfl⟩) (hM 8 (by decide) (by decide)) (zW3_n (by omega) (zU_s _ _ _)) rfl rfl rfl hl.1 rfl (Nat.le_of_ble_eq_true rfl) dX4_blow_123 ⟨Nat.le_of_ble_eq_true rfl, Nat.le_of_ble_eq_true rfl⟩) hw (fun ct_23 H locs hP hw => ?_)
                      obtain ⟨f_19, g_20, v_21, hf_19, hg_20, hv_21, hct⟩ := hP
                      rw [hct] at hw
                      clear hct
                      have hfe : zEq (σ (a1).toNat) f_19 (zro (σ (a1).toNat) a2 a3 (K + 1)).1 := fun x h1 h2 => (hf_19 x h1 h2).trans (znp_c hg a2 hf1 hg1 h1 h2)
                      have hge : zEq (σ (a1).toNat) g_20 (zro (σ (a1).toNat) a2 a3 (K + 1)).2 := fun x h1 h2 => (hg_20 x h1 h2).trans (znv_c hg a2 hf1 hg1 h1 h2)
                      have hwe := zwv_m hwv (by omega) hg hv_21 (fun x h1 h2 => znp_c hg a2 hf1 hg1 h1 h2)
                      have bd1 := zdp_bd (σ (a1).toNat) a2 a3 K
                      have bd2 := hfe (pn (σ (a1).toNat) - 1) (by omega) (by omega)
                      have bd3 := zro_pl (σ (a1).toNat) a2 a3 (K + 1) (pn (σ (a1).toNat) - 1)
                      refine lv_aload_n hx hb dX4_blow_126 rfl (lv_at hl 0 rfl) ?_
                      refine z_get (C := RX4) (T := TX4) (N := 19) (fs := [zi (0), zi (n), .ref (ad (9)), .ref (ad (10)), .ref (ad (11)), .ref (ad (12)), .ref (ad (13)), .ref (ad (14)), .ref (ad (15)), .ref (ad (16)), .ref (ad (17)), .ref (ad (18)), .ref (ad (19)), .ref (ad (20)), .ref (ad (21)), .ref (ad (22)), zi (bl), .ref (ad (23)), .ref (ad (24))]) hx hb hts w_1 hown hK hw (hM 8 (by decide) (by decide)) (zW3_n (by omega) (zW3_n (by omega) (zU_s _ _ _))) rfl 17 (by decide) w_9 rfl rfl dX4_blow_127 ?_
                      refine lv_iload hx hb dX4_blow_130 (lv_at hl 4 rfl) ?_
                      refine z_ic hx hb dX4_blow_132 ?_
                      refine z_isub hx hb dX4_blow_133 ?_
                      refine z_lald (f := f_19) hx hb hK hw (hM 23 (by decide) (by decide)) rfl (by omega) (by omega) (by decide) dX4_blow_134 ?_
                      refine lv_lload hx hb dX4_blow_135 (lv_at hl 5 rfl) ?_
                      refine z_lcmp_le (tgt := 153) hx hb dX4_blow_137 dX4_blow_138 (by decide) ⟨by omega, by omega⟩ ⟨by omega, by omega⟩ (fun c_24 => ?_) (fun c_24 => ?_)
                      · refine lv_lload hx hb dX4_blow_153 (lv_at hl 5 rfl) ?_
                        refine lv_lstore (lv' := [(5, zl (dp)), (0, .ref (ad (8))), (1, zi (a1)), (2, zi (a2)), (3, zi (a3)), (4, zi (pn (σ (a1).toNat))), (7, zi (r))]) hx hb dX4_blow_155 hl (by decide) rfl (fun ls hl => ?_)
                        refine z_iinc (lv' := [(7, zi (r + 1)), (5, zl (dp)), (0, .ref (ad (8))), (1, zi (a1)), (2, zi (a2)), (3, zi (a3)), (4, zi (pn (σ (a1).toNat)))]) hx hb dX4_blow_157 hl (k := 6) rfl (by decide) rfl (fun ls hl => ?_)
                        refine lv_goto (tgt := 109) hx hb dX4_blow_160 (by decide) ?_
                        exact ih109 (K + 1) (r + 1) (dp) (f_19) (g_20) (v_21) (by omega) (by omega) (by omega) hfe hge (by show _ = ite _ _ _; rw [← hdp, ← bd2, if_neg (by omega)]) hwe _ _ (zWe hw (by simp only [zW3_p22, zW3_p23, zW3_p24, zW3_zW3])) _ (lv_sub hl [2, 3, 4, 5, 6, 1, 0] rfl)
                      · refine lv_aload_n hx hb dX4_blow_141 rfl (lv_at hl 0 rfl) ?_
                        refine z_get (C := RX4) (T := TX4) (N := 19) (fs := [zi (0), zi (n), .ref (ad (9)), .ref (ad (10)), .ref (ad (11)), .ref (ad (12)), .ref (ad (13)), .ref (ad (14)), .ref (ad (15)), .ref (ad (16)), .ref (ad (17)), .ref (ad (18)), .ref (ad (19)), .ref (ad (20)), .ref (ad (21)), .ref (ad (22)), zi (bl), .ref (ad (23)), .ref (ad (24))]) hx hb hts w_1 hown hK hw (hM 8 (by decide) (by decide)) (zW3_n (by omega) (zW3_n (by omega) (zU_s _ _ _))) rfl 17 (by decide) w_9 rfl rfl dX4_blow_142 ?_
                        refine lv_iload hx hb dX4_blow_145 (lv_at hl 4 rfl) ?_
                        refine z_ic hx hb dX4_blow_147 ?_
                        refine z_isub hx hb dX4_blow_148 ?_
                        refine z_lald (f := f_19) hx hb hK hw (hM 23 (by decide) (by decide)) rfl (by omega) (by omega) (by decide) dX4_blow_149 ?_
                        refine lv_goto (tgt := 155) hx hb dX4_blow_150 (by decide) ?_
                        refine lv_lstore (lv' := [(5, zl (f_19 ((pn (σ (a1).toNat)) - (1)))), (0, .ref (ad (8))), (1, zi (a1)), (2, zi (a2)), (3, zi (a3)), (4, zi (pn (σ (a1).toNat))), (7, zi (r))]) hx hb dX4_blow_155 hl (by decide) rfl (fun ls hl => ?_)
                        refine z_iinc (lv' := [(7, zi (r + 1)), (5, zl (f_19 ((pn (σ (a1).toNat)) - (1)))), (0, .ref (ad (8))), (1, zi (a1)), (2, zi (a2)), (3, zi (a3)), (4, zi (pn (σ (a1).toNat)))]) hx hb dX4_blow_157 hl (k := 6) rfl (by decide) rfl (fun ls hl => ?_)
                        refine lv_goto (tgt := 109) hx hb dX4_blow_160 (by decide) ?_
                        exact ih109 (K + 1) (r + 1) (f_19 ((pn (σ (a1).toNat)) - (1))) (f_19) (g_20) (v_21) (by omega) (by omega) (by omega) hfe hge (by show _ = ite _ _ _; rw [← hdp, ← bd2, if_pos (by omega)]) hwe _ _ (zWe hw (by simp only [zW3_p22, zW3_p23, zW3_p24, zW3_zW3])) _ (lv_sub hl [2, 3, 4, 5, 6, 1, 0] rfl)
                exact L109 _ (0) (0) (0) (f1) (zup (g1) (pn (σ (a1).toNat)) ((1000) * (a3))) (Fwv) (Nat.lt_succ_self _) rfl (by omega) (fun x h1 h2 => hf x h1 (by omega)) (zro0 (n := (pn (σ (a1).toNat) + 1).toNat) (fun x h1 h2 => hg9 x h1 (by omega)) (by omega) (by omega)) rfl (fun r9 h9 => absurd h9 (by omega)) _ _ (zWe hw (by simp only [zW3_p22, zW3_p23, zW3_p24, zW3_zW3])) _ (lv_sub hl [2, 3, 4, 5, 6, 1, 0] rfl)
              · refine lv_aload_n hx hb dX4_blow_68 rfl (lv_at hl 0 rfl) ?_
                refine z_get (C := RX4) (T := TX4) (N := 19) (fs := [zi (0), zi (n), .ref (ad (9)), .ref (ad (10)), .ref (ad (11)), .ref (ad (12)), .ref (ad (13)), .ref (ad (14)), .ref (ad (15)), .ref (ad (16)), .ref (ad (17)), .ref (ad (18)), .ref (ad (19)), .ref (ad (20)), .ref (ad (21)), .ref (ad (22)), zi (bl), .ref (ad (23)), .ref (ad (24))]) hx hb hts w_1 hown hK hw (hM 8 (by decide) (by decide)) (zW3_n (by omega) (zU_s _ _ _)) rfl 17 (by decide) w_9 rfl rfl dX4_blow_69 ?_
                refine lv_iload hx hb dX4_blow_72 (lv_at hl 5 rfl) ?_
                refine z_lc0 hx hb dX4_blow_74 ?_
                refine z_last (f := f1) hx hb hK hw (hM 23 (by decide) (by decide)) rfl (by omega) (by omega) (by decide) dX4_blow_75 (fun H locs hw => ?_)
                refine lv_aload_n hx hb dX4_blow_76 rfl (lv_at hl 0 rfl) ?_
                refine z_get (C := RX4) (T := TX4) (N := 19) (fs := [zi (0), zi (n), .ref (ad (9)), .ref (ad (10)), .ref (ad (11)), .ref (ad (12)), .ref (ad (13)), .ref (ad (14)), .ref (ad (15)), .ref (ad (16)), .ref (ad (17)), .ref (ad (18)), .ref (ad (19)), .ref (ad (20)), .ref (ad (21)), .ref (ad (22)), zi (bl), .ref (ad (23)), .ref (ad (24))]) hx hb hts w_1 hown hK hw (hM 8 (by decide) (by decide)) (zU_n (by decide) (zW3_n (by omega) (zU_s _ _ _))) rfl 18 (by decide) w_5 rfl rfl dX4_blow_77 ?_
                refine lv_iload hx hb dX4_blow_80 (lv_at hl 5 rfl) ?_
                refine z_lc0 hx hb dX4_blow_82 ?_
                refine z_last (f := g1) hx hb hK hw (hM 24 (by decide) (by decide)) (zU_n (by decide) rfl) (by omega) (by omega) (by decide) dX4_blow_83 (fun H locs hw => ?_)
                refine z_iinc (lv' := [(5, zi (i + 1)), (0, .ref (ad (8))), (1, zi (a1)), (2, zi (a2)), (3, zi (a3)), (4, zi (pn (σ (a1).toNat)))]) hx hb dX4_blow_84 hl (k := 5) rfl (by decide) rfl (fun ls hl => ?_)
                refine lv_goto (tgt := 61) hx hb dX4_blow_87 (by decide) ?_
                exact ih61 (i + 1) (zup (f1) (i) (0)) (zup (g1) (i) (0)) (by omega) (by omega) (by omega) (zfill_s hf) (zfill_s hg9) _ _ (zWe hw (by simp only [zW3_p22, zW3_p23, zW3_p24, zW3_zW3])) _ (lv_sub hl [1, 2, 3, 4, 5, 0] rfl)
          exact L61 _ (0) (Fat) (Fsd) (Nat.lt_succ_self _) (by omega) (by omega) (fun x h1 h2 => absurd h2 (by omega)) (fun x h1 h2 => absurd h2 (by omega)) _ _ (zWe hw (zW3_id (zU_n (by decide) h22) (zU_n (by decide) h23) (zU_n (by decide) h24)).symm) _ (lv_sub hl [2, 3, 4, 5, 1, 0] rfl)
        · exact absurd c_13 (by decide)

set_option maxHeartbeats 4000000 in
set_option maxRecDepth 100000 in
theorem m_wave (l : Launch) (hl0 : l.stackTraces = false) (G : zG) (I : List Nat) (ad : Nat → Nat) (ct : Nat → va_E) (sz : Nat) (n : Nat) (hn6 : n ≤ 6) (σ : Nat → zPl) (hgs : ∀ p : Nat, p < n → zGood (σ p)) (cd bl : Int) (Fmn Fsp Fms Fco Fst Fmo Fsk Fts Ftm Fjn Fpl Fgr Fab : Int → Int) (hRel : zMrel n σ Fmn Fsp Fms Fco Fst Fmo Fsk Fts Ftm Fjn) (hM : ∀ j : Nat, 8 ≤ j → j ≤ 24 → j ∈ I) (hms : zMst G ad ct n cd bl Fmn Fsp Fms Fco Fst Fmo Fsk Fts Ftm Fjn) (hmc : zMsc G ct Fpl Fgr Fab) (Fwv Fat Fsd : Int → Int) (hmb : zMbl G ct Fwv Fat Fsd) (a1 a2 : Int) (hz1 : zr a1) (hz2 : zr a2) (hbl : bl = -1000000 ∨ (0 ≤ bl ∧ bl < n)) (hwb : bl ≠ -1000000 → ∀ r i : Int, 0 ≤ r → r ≤ 199 → 0 ≤ i → i ≤ pn (σ (bl).toNat) → -200000000 ≤ Fwv (13 * r + i) ∧ Fwv (13 * r + i) ≤ 200000000) : zN l yX4_wave wsX4_wave 1 25 0 0 G [.ref (ad (8)), zi (a1), zi (a2)] I ad ct zno sz (zk I (zqi fun z u => ∃ cd9 : Int, ((cd9 = 1 ∧ bl = -1000000) ∨ (cd9 = 2 ∧ bl ≠ -1000000 ∧ ¬ ((0 ≤ a1 ∧ a1 ≤ 199) ∧ (0 ≤ a2 ∧ a2 ≤ pn (σ (bl).toNat)))) ∨ (cd9 = 0 ∧ bl ≠ -1000000 ∧ ((0 ≤ a1 ∧ a1 ≤ 199) ∧ (0 ≤ a2 ∧ a2 ≤ pn (σ (bl).toNat))) ∧ z = Fwv (13 * a1 + a2))) ∧ u = zU ct 8 (zmo ad n cd9 bl))) := by
  obtain ⟨h8, h9, h10, h11, h12, h13, h14, h15, h16, h17, h18⟩ := hms
  obtain ⟨h19, h20, h21⟩ := hmc
  obtain ⟨h22, h23, h24⟩ := hmb
  refine z_ofW (ret := (some .int)) hl0 (by decide +kernel) rfl (Nat.le_of_ble_eq_true rfl) ?_
  intro p e s m args below meth c A ls hA0 hsz hF hr hout hnm hw hl
  obtain ⟨hx, hb, hml, hown, hts, hK, hlk, hst⟩ := hF
  have hown : s.vm.findClass RX4 = some m.cls := hown
  have hl : lv_has ls 3 [(0, .ref (ad (8))), (1, zi (a1)), (2, zi (a2))] := hl
  have w_0 := hts (.fieldLink RX4 55 "PileMovesModel" "blown" "I") (by decide +kernel)
  have w_1 : ∀ w ∈ wsX40, w ∈ wsX4_wave := by decide +kernel
  have w_2 := hts (.constant RX4 54 (-1000000)) (by decide +kernel)
  have w_3 := hts (.constantLong RX4 159 (199)) (by decide +kernel)
  have w_4 := hts (.fieldLink RX4 65 "PileMovesModel" "code" "I") (by decide +kernel)
  have w_5 := hts (.fieldLink RX4 7 "PileMovesModel" "many" "[I") (by decide +kernel)
  have w_6 := hts (.fieldLink RX4 51 "PileMovesModel" "waves" "[J") (by decide +kernel)
  refine lv_aload_n hx hb dX4_wave_0 rfl (lv_at hl 0 rfl) ?_
  refine lv_aload_n hx hb dX4_wave_1 rfl (lv_at hl 0 rfl) ?_
  refine z_get (C := RX4) (T := TX4) (N := 19) (fs := [zi (cd), zi (n), .ref (ad (9)), .ref (ad (10)), .ref (ad (11)), .ref (ad (12)), .ref (ad (13)), .ref (ad (14)), .ref (ad (15)), .ref (ad (16)), .ref (ad (17)), .ref (ad (18)), .ref (ad (19)), .ref (ad (20)), .ref (ad (21)), .ref (ad (22)), zi (bl), .ref (ad (23)), .ref (ad (24))]) hx hb hts w_1 hown hK hw (hM 8 (by decide) (by decide)) h8 rfl 16 (by decide) w_0 rfl rfl dX4_wave_2 ?_
  refine z_ldc (n := -1000000) hx hb hown w_2 (by decide) dX4_wave_5 ?_
  refine z_icmp_ne (tgt := 14) hx hb dX4_wave_7 (by decide) ⟨by omega, by omega⟩ ⟨by decide, by decide⟩ (fun c_1 => ?_) (fun c_1 => ?_)
  · refine lv_iload_n hx hb dX4_wave_14 rfl (lv_at hl 1 rfl) ?_
    refine z_i2l hx hb dX4_wave_15 ⟨by omega, by omega⟩ ?_
    refine z_lc0 hx hb dX4_wave_16 ?_
    refine z_ldc2 (n := 199) hx hb hown w_3 (by decide) dX4_wave_17 ?_
    refine z_kI (z_runS (As := [zl (a1), zl (0), zl (199)]) (rest := [.ref (ad (8))]) ⟨hx, hb, hml, hown, hts⟩ hK hw (k_in l hl0 G I ad _ _ (a1) (0) (199) ⟨by omega, by omega⟩ ⟨by decide, by decide⟩ ⟨by decide, by decide⟩) (va_cwS 3 hts gX4_wave_X4_in rfl rfl rfl (by decide +kernel) ⟨Nat.le_of_ble_eq_true rfl, Nat.le_of_ble_eq_true rfl⟩) rfl hl.1 rfl (Nat.le_of_ble_eq_true rfl) dX4_wave_20 ⟨Nat.le_of_ble_eq_true rfl, Nat.le_of_ble_eq_true rfl⟩) hw (fun r_2 ct_3 H locs hP hw => ?_)
    obtain ⟨rfl, hct⟩ := hP
    rw [hct] at hw
    clear hct
    refine z_ifb_eq (tgt := 45) hx hb dX4_wave_23 (by decide) (fun c_4 => ?_) (fun c_4 => ?_)
    · refine z_ic hx hb dX4_wave_45 ?_
      refine lv_goto (tgt := 50) hx hb dX4_wave_46 (by decide) ?_
      refine z_put (C := RX4) (T := TX4) (N := 19) (fs := [zi (cd), zi (n), .ref (ad (9)), .ref (ad (10)), .ref (ad (11)), .ref (ad (12)), .ref (ad (13)), .ref (ad (14)), .ref (ad (15)), .ref (ad (16)), .ref (ad (17)), .ref (ad (18)), .ref (ad (19)), .ref (ad (20)), .ref (ad (21)), .ref (ad (22)), zi (bl), .ref (ad (23)), .ref (ad (24))]) (fs' := [zi (2), zi (n), .ref (ad (9)), .ref (ad (10)), .ref (ad (11)), .ref (ad (12)), .ref (ad (13)), .ref (ad (14)), .ref (ad (15)), .ref (ad (16)), .ref (ad (17)), .ref (ad (18)), .ref (ad (19)), .ref (ad (20)), .ref (ad (21)), .ref (ad (22)), zi (bl), .ref (ad (23)), .ref (ad (24))]) hx hb hts w_1 tyX4_ok nmX4 hown hK hw (hM 8 (by decide) (by decide)) h8 rfl 0 (by decide) w_4 rfl rfl rfl rfl (Nat.le_of_ble_eq_true rfl) rfl dX4_wave_50 (fun H locs hw => ?_)
      refine lv_aload_n hx hb dX4_wave_53 rfl (lv_at hl 0 rfl) ?_
      refine z_get (C := RX4) (T := TX4) (N := 19) (fs := [zi (2), zi (n), .ref (ad (9)), .ref (ad (10)), .ref (ad (11)), .ref (ad (12)), .ref (ad (13)), .ref (ad (14)), .ref (ad (15)), .ref (ad (16)), .ref (ad (17)), .ref (ad (18)), .ref (ad (19)), .ref (ad (20)), .ref (ad (21)), .ref (ad (22)), zi (bl), .ref (ad (23)), .ref (ad (24))]) hx hb hts w_1 hown hK hw (hM 8 (by decide) (by decide)) (zU_s _ _ _) rfl 0 (by decide) w_4 rfl rfl dX4_wave_54 ?_
      refine z_if_le (tgt := 64) hx hb dX4_wave_57 (by decide) ⟨by decide, by decide⟩ (fun c_5 => ?_) (fun c_5 => ?_)
      · exact absurd c_5 (by decide)
      · refine z_ic hx hb dX4_wave_60 ?_
        refine lv_goto (tgt := 76) hx hb dX4_wave_61 (by decide) ?_
        exact z_iret hx hb hlk hr hw dX4_wave_76 (Nat.le_of_ble_eq_true rfl) (Nat.le_of_ble_eq_true rfl) ⟨rfl, _, rfl, ⟨2, Or.inr (Or.inl ⟨rfl, by omega, by omega⟩), rfl⟩⟩
    · refine lv_iload_n hx hb dX4_wave_26 rfl (lv_at hl 2 rfl) ?_
      refine z_i2l hx hb dX4_wave_27 ⟨by omega, by omega⟩ ?_
      refine z_lc0 hx hb dX4_wave_28 ?_
      refine lv_aload_n hx hb dX4_wave_29 rfl (lv_at hl 0 rfl) ?_
      refine z_get (C := RX4) (T := TX4) (N := 19) (fs := [zi (cd), zi (n), .ref (ad (9)), .ref (ad (10)), .ref (ad (11)), .ref (ad (12)), .ref (ad (13)), .ref (ad (14)), .ref (ad (15)), .ref (ad (16)), .ref (ad (17)), .ref (ad (18)), .ref (ad (19)), .ref (ad (20)), .ref (ad (21)), .ref (ad (22)), zi (bl), .ref (ad (23)), .ref (ad (24))]) hx hb hts w_1 hown hK hw (hM 8 (by decide) (by decide)) h8 rfl 2 (by decide) w_5 rfl rfl dX4_wave_30 ?_
      refine lv_aload_n hx hb dX4_wave_33 rfl (lv_at hl 0 rfl) ?_
      refine z_get (C := RX4) (T := TX4) (N := 19) (fs := [zi (cd), zi (n), .ref (ad (9)), .ref (ad (10)), .ref (ad (11)), .ref (ad (12)), .ref (ad (13)), .ref (ad (14)), .ref (ad (15)), .ref (ad (16)), .ref (ad (17)), .ref (ad (18)), .ref (ad (19)), .ref (ad (20)), .ref (ad (21)), .ref (ad (22)), zi (bl), .ref (ad (23)), .ref (ad (24))]) hx hb hts w_1 hown hK hw (hM 8 (by decide) (by decide)) h8 rfl 16 (by decide) w_0 rfl rfl dX4_wave_34 ?_
      refine z_iald (f := Fmn) hx hb hK hw (hM 9 (by decide) (by decide)) h9 (by omega) (by omega) (by decide) dX4_wave_37 ?_
      have hg := hgs ((bl).toNat) (by omega)
      have hg0 := hg
      obtain ⟨⟨g1, g2⟩, ⟨g3, g4⟩, ⟨g5, g6⟩, ⟨g7, g8⟩, ⟨g9, g10⟩, ⟨g11, g12⟩, g13, g14, g15, g16⟩ := hg0
      have gn : ((σ ((bl).toNat)).1 : Int) = pn (σ ((bl).toNat)) := rfl
      have hr0 := hRel ((bl).toNat) (by omega)
      rw [show ((((bl).toNat) : Nat) : Int) = bl by omega] at hr0
      obtain ⟨r1, r2, r3, r4, r5, r6, r7, r8⟩ := hr0
      rw [show (Fmn (bl) : Int) = pn (σ (bl).toNat) from r1]
      refine z_i2l hx hb dX4_wave_38 ⟨by omega, by omega⟩ ?_
      refine z_kI (z_runS (As := [zl (a2), zl (0), zl (pn (σ (bl).toNat))]) (rest := [.ref (ad (8))]) ⟨hx, hb, hml, hown, hts⟩ hK hw (k_in l hl0 G I ad _ _ (a2) (0) (pn (σ (bl).toNat)) ⟨by omega, by omega⟩ ⟨by decide, by decide⟩ ⟨by omega, by omega⟩) (va_cwS 3 hts gX4_wave_X4_in rfl rfl rfl (by decide +kernel) ⟨Nat.le_of_ble_eq_true rfl, Nat.le_of_ble_eq_true rfl⟩) rfl hl.1 rfl (Nat.le_of_ble_eq_true rfl) dX4_wave_39 ⟨Nat.le_of_ble_eq_true rfl, Nat.le_of_ble_eq_true rfl⟩) hw (fun r_6 ct_7 H locs hP hw => ?_)
      obtain ⟨rfl, hct⟩ := hP
      rw [hct] at hw
      clear hct
      refine z_ifb_ne (tgt := 49) hx hb dX4_wave_42 (by decide) (fun c_8 => ?_) (fun c_8 => ?_)
      · refine z_ic hx hb dX4_wave_49 ?_
        refine z_put (C := RX4) (T := TX4) (N := 19) (fs := [zi (cd), zi (n), .ref (ad (9)), .ref (ad (10)), .ref (ad (11)), .ref (ad (12)), .ref (ad (13)), .ref (ad (14)), .ref (ad (15)), .ref (ad (16)), .ref (ad (17)), .ref (ad (18)), .ref (ad (19)), .ref (ad (20)), .ref (ad (21)), .ref (ad (22)), zi (bl), .ref (ad (23)), .ref (ad (24))]) (fs' := [zi (0), zi (n), .ref (ad (9)), .ref (ad (10)), .ref (ad (11)), .ref (ad (12)), .ref (ad (13)), .ref (ad (14)), .ref (ad (15)), .ref (ad (16)), .ref (ad (17)), .ref (ad (18)), .ref (ad (19)), .ref (ad (20)), .ref (ad (21)), .ref (ad (22)), zi (bl), .ref (ad (23)), .ref (ad (24))]) hx hb hts w_1 tyX4_ok nmX4 hown hK hw (hM 8 (by decide) (by decide)) h8 rfl 0 (by decide) w_4 rfl rfl rfl rfl (Nat.le_of_ble_eq_true rfl) rfl dX4_wave_50 (fun H locs hw => ?_)
        refine lv_aload_n hx hb dX4_wave_53 rfl (lv_at hl 0 rfl) ?_
        refine z_get (C := RX4) (T := TX4) (N := 19) (fs := [zi (0), zi (n), .ref (ad (9)), .ref (ad (10)), .ref (ad (11)), .ref (ad (12)), .ref (ad (13)), .ref (ad (14)), .ref (ad (15)), .ref (ad (16)), .ref (ad (17)), .ref (ad (18)), .ref (ad (19)), .ref (ad (20)), .ref (ad (21)), .ref (ad (22)), zi (bl), .ref (ad (23)), .ref (ad (24))]) hx hb hts w_1 hown hK hw (hM 8 (by decide) (by decide)) (zU_s _ _ _) rfl 0 (by decide) w_4 rfl rfl dX4_wave_54 ?_
        refine z_if_le (tgt := 64) hx hb dX4_wave_57 (by decide) ⟨by decide, by decide⟩ (fun c_9 => ?_) (fun c_9 => ?_)
        · refine lv_aload_n hx hb dX4_wave_64 rfl (lv_at hl 0 rfl) ?_
          refine z_get (C := RX4) (T := TX4) (N := 19) (fs := [zi (0), zi (n), .ref (ad (9)), .ref (ad (10)), .ref (ad (11)), .ref (ad (12)), .ref (ad (13)), .ref (ad (14)), .ref (ad (15)), .ref (ad (16)), .ref (ad (17)), .ref (ad (18)), .ref (ad (19)), .ref (ad (20)), .ref (ad (21)), .ref (ad (22)), zi (bl), .ref (ad (23)), .ref (ad (24))]) hx hb hts w_1 hown hK hw (hM 8 (by decide) (by decide)) (zU_s _ _ _) rfl 15 (by decide) w_6 rfl rfl dX4_wave_65 ?_
          refine z_bi hx hb dX4_wave_68 (by decide) ?_
          refine lv_iload_n hx hb dX4_wave_70 rfl (lv_at hl 1 rfl) ?_
          refine z_imul hx hb dX4_wave_71 ?_
          refine lv_iload_n hx hb dX4_wave_72 rfl (lv_at hl 2 rfl) ?_
          refine z_iadd hx hb dX4_wave_73 ?_
          refine z_lald (f := Fwv) hx hb hK hw (hM 22 (by decide) (by decide)) (zU_n (by decide) h22) (by omega) (by omega) (by decide) dX4_wave_74 ?_
          have bw := hwb (by omega) a1 a2 (by omega) (by omega) (by omega) (by omega)
          refine z_l2i hx hb dX4_wave_75 ⟨by omega, by omega⟩ ?_
          exact z_iret hx hb hlk hr hw dX4_wave_76 (Nat.le_of_ble_eq_true rfl) (Nat.le_of_ble_eq_true rfl) ⟨rfl, _, rfl, ⟨0, Or.inr (Or.inr ⟨rfl, by omega, by omega, rfl⟩), rfl⟩⟩
        · exact absurd c_9 (by decide)
      · refine z_ic hx hb dX4_wave_45 ?_
        refine lv_goto (tgt := 50) hx hb dX4_wave_46 (by decide) ?_
        refine z_put (C := RX4) (T := TX4) (N := 19) (fs := [zi (cd), zi (n), .ref (ad (9)), .ref (ad (10)), .ref (ad (11)), .ref (ad (12)), .ref (ad (13)), .ref (ad (14)), .ref (ad (15)), .ref (ad (16)), .ref (ad (17)), .ref (ad (18)), .ref (ad (19)), .ref (ad (20)), .ref (ad (21)), .ref (ad (22)), zi (bl), .ref (ad (23)), .ref (ad (24))]) (fs' := [zi (2), zi (n), .ref (ad (9)), .ref (ad (10)), .ref (ad (11)), .ref (ad (12)), .ref (ad (13)), .ref (ad (14)), .ref (ad (15)), .ref (ad (16)), .ref (ad (17)), .ref (ad (18)), .ref (ad (19)), .ref (ad (20)), .ref (ad (21)), .ref (ad (22)), zi (bl), .ref (ad (23)), .ref (ad (24))]) hx hb hts w_1 tyX4_ok nmX4 hown hK hw (hM 8 (by decide) (by decide)) h8 rfl 0 (by decide) w_4 rfl rfl rfl rfl (Nat.le_of_ble_eq_true rfl) rfl dX4_wave_50 (fun H locs hw => ?_)
        refine lv_aload_n hx hb dX4_wave_53 rfl (lv_at hl 0 rfl) ?_
        refine z_get (C := RX4) (T := TX4) (N := 19) (fs := [zi (2), zi (n), .ref (ad (9)), .ref (ad (10)), .ref (ad (11)), .ref (ad (12)), .ref (ad (13)), .ref (ad (14)), .ref (ad (15)), .ref (ad (16)), .ref (ad (17)), .ref (ad (18)), .ref (ad (19)), .ref (ad (20)), .ref (ad (21)), .ref (ad (22)), zi (bl), .ref (ad (23)), .ref (ad (24))]) hx hb hts w_1 hown hK hw (hM 8 (by decide) (by decide)) (zU_s _ _ _) rfl 0 (by decide) w_4 rfl rfl dX4_wave_54 ?_
        refine z_if_le (tgt := 64) hx hb dX4_wave_57 (by decide) ⟨by decide, by decide⟩ (fun c_10 => ?_) (fun c_10 => ?_)
        · exact absurd c_10 (by decide)
        · refine z_ic hx hb dX4_wave_60 ?_
          refine lv_goto (tgt := 76) hx hb dX4_wave_61 (by decide) ?_
          exact z_iret hx hb hlk hr hw dX4_wave_76 (Nat.le_of_ble_eq_true rfl) (Nat.le_of_ble_eq_true rfl) ⟨rfl, _, rfl, ⟨2, Or.inr (Or.inl ⟨rfl, by omega, by omega⟩), rfl⟩⟩
  · refine z_ic hx hb dX4_wave_10 ?_
    refine lv_goto (tgt := 50) hx hb dX4_wave_11 (by decide) ?_
    refine z_put (C := RX4) (T := TX4) (N := 19) (fs := [zi (cd), zi (n), .ref (ad (9)), .ref (ad (10)), .ref (ad (11)), .ref (ad (12)), .ref (ad (13)), .ref (ad (14)), .ref (ad (15)), .ref (ad (16)), .ref (ad (17)), .ref (ad (18)), .ref (ad (19)), .ref (ad (20)), .ref (ad (21)), .ref (ad (22)), zi (bl), .ref (ad (23)), .ref (ad (24))]) (fs' := [zi (1), zi (n), .ref (ad (9)), .ref (ad (10)), .ref (ad (11)), .ref (ad (12)), .ref (ad (13)), .ref (ad (14)), .ref (ad (15)), .ref (ad (16)), .ref (ad (17)), .ref (ad (18)), .ref (ad (19)), .ref (ad (20)), .ref (ad (21)), .ref (ad (22)), zi (bl), .ref (ad (23)), .ref (ad (24))]) hx hb hts w_1 tyX4_ok nmX4 hown hK hw (hM 8 (by decide) (by decide)) h8 rfl 0 (by decide) w_4 rfl rfl rfl rfl (Nat.le_of_ble_eq_true rfl) rfl dX4_wave_50 (fun H locs hw => ?_)
    refine lv_aload_n hx hb dX4_wave_53 rfl (lv_at hl 0 rfl) ?_
    refine z_get (C := RX4) (T := TX4) (N := 19) (fs := [zi (1), zi (n), .ref (ad (9)), .ref (ad (10)), .ref (ad (11)), .ref (ad (12)), .ref (ad (13)), .ref (ad (14)), .ref (ad (15)), .ref (ad (16)), .ref (ad (17)), .ref (ad (18)), .ref (ad (19)), .ref (ad (20)), .ref (ad (21)), .ref (ad (22)), zi (bl), .ref (ad (23)), .ref (ad (24))]) hx hb hts w_1 hown hK hw (hM 8 (by decide) (by decide)) (zU_s _ _ _) rfl 0 (by decide) w_4 rfl rfl dX4_wave_54 ?_
    refine z_if_le (tgt := 64) hx hb dX4_wave_57 (by decide) ⟨by decide, by decide⟩ (fun c_11 => ?_) (fun c_11 => ?_)
    · exact absurd c_11 (by decide)
    · refine z_ic hx hb dX4_wave_60 ?_
      refine lv_goto (tgt := 76) hx hb dX4_wave_61 (by decide) ?_
      exact z_iret hx hb hlk hr hw dX4_wave_76 (Nat.le_of_ble_eq_true rfl) (Nat.le_of_ble_eq_true rfl) ⟨rfl, _, rfl, ⟨1, Or.inl ⟨rfl, by omega⟩, rfl⟩⟩

set_option maxHeartbeats 4000000 in
set_option maxRecDepth 100000 in
theorem m_pile (l : Launch) (hl0 : l.stackTraces = false) (G : zG) (I : List Nat) (ad : Nat → Nat) (ct : Nat → va_E) (sz : Nat) (n : Nat) (hn6 : n ≤ 6) (σ : Nat → zPl) (hgs : ∀ p : Nat, p < n → zGood (σ p)) (cd bl : Int) (Fmn Fsp Fms Fco Fst Fmo Fsk Fts Ftm Fjn Fpl Fgr Fab : Int → Int) (hRel : zMrel n σ Fmn Fsp Fms Fco Fst Fmo Fsk Fts Ftm Fjn) (hM : ∀ j : Nat, 8 ≤ j → j ≤ 24 → j ∈ I) (hms : zMst G ad ct n cd bl Fmn Fsp Fms Fco Fst Fmo Fsk Fts Ftm Fjn) (hmc : zMsc G ct Fpl Fgr Fab) (a1 a2 a3 a4 : Int) (hz1 : zr a1) (hz2 : zr a2) (hz3 : zr a3) (hz4 : zr a4) : zN l yX4_pile wsX4_pile 1 25 0 0 G [.ref (ad (8)), zi (a1), zi (a2), zi (a3), zi (a4)] I ad ct zno sz (zk I (zqi fun z u => (((1 ≤ a1 ∧ a1 ≤ 12) ∧ (1 ≤ a2 ∧ a2 ≤ 10000) ∧ (1 ≤ a3 ∧ a3 ≤ 1000) ∧ (0 ≤ a4 ∧ a4 ≤ 100000)) ∧ n < 6 ∧ z = n ∧ u = zU (zU (zU (zU (zU (zU ct 8 (zmo ad n (0) bl)) 9 (zI G 6 (zup Fmn n a1))) 10 (zL G 6 (zup Fsp n a2))) 11 (zL G 6 (zup Fms n a3))) 12 (zI G 6 (zup Fco n a4))) 8 (zmo ad (n + 1) 0 bl)) ∨ (¬ ((1 ≤ a1 ∧ a1 ≤ 12) ∧ (1 ≤ a2 ∧ a2 ≤ 10000) ∧ (1 ≤ a3 ∧ a3 ≤ 1000) ∧ (0 ≤ a4 ∧ a4 ≤ 100000)) ∧ u = zU ct 8 (zmo ad n (1) bl)) ∨ (((1 ≤ a1 ∧ a1 ≤ 12) ∧ (1 ≤ a2 ∧ a2 ≤ 10000) ∧ (1 ≤ a3 ∧ a3 ≤ 1000) ∧ (0 ≤ a4 ∧ a4 ≤ 100000)) ∧ n = 6 ∧ u = zU ct 8 (zmo ad n (2) bl)))) := by
  obtain ⟨h8, h9, h10, h11, h12, h13, h14, h15, h16, h17, h18⟩ := hms
  obtain ⟨h19, h20, h21⟩ := hmc
  refine z_ofW (ret := (some .int)) hl0 (by decide +kernel) rfl (Nat.le_of_ble_eq_true rfl) ?_
  intro p e s m args below meth c A ls hA0 hsz hF hr hout hnm hw hl
  obtain ⟨hx, hb, hml, hown, hts, hK, hlk, hst⟩ := hF
  have hown : s.vm.findClass RX4 = some m.cls := hown
  have hl : lv_has ls 5 [(0, .ref (ad (8))), (1, zi (a1)), (2, zi (a2)), (3, zi (a3)), (4, zi (a4))] := hl
  have w_0 := hts (.constantLong RX4 79 (12)) (by decide +kernel)
  have w_1 := hts (.fieldLink RX4 65 "PileMovesModel" "code" "I") (by decide +kernel)
  have w_2 : ∀ w ∈ wsX40, w ∈ wsX4_pile := by decide +kernel
  have w_3 := hts (.constantLong RX4 81 (10000)) (by decide +kernel)
  have w_4 := hts (.constantLong RX4 83 (1000)) (by decide +kernel)
  have w_5 := hts (.constantLong RX4 85 (100000)) (by decide +kernel)
  have w_6 := hts (.fieldLink RX4 68 "PileMovesModel" "piles" "I") (by decide +kernel)
  have w_7 := hts (.fieldLink RX4 7 "PileMovesModel" "many" "[I") (by decide +kernel)
  have w_8 := hts (.fieldLink RX4 13 "PileMovesModel" "springs" "[J") (by decide +kernel)
  have w_9 := hts (.fieldLink RX4 17 "PileMovesModel" "masses" "[J") (by decide +kernel)
  have w_10 := hts (.fieldLink RX4 20 "PileMovesModel" "costs" "[I") (by decide +kernel)
  refine lv_aload_n hx hb dX4_pile_0 rfl (lv_at hl 0 rfl) ?_
  refine lv_iload_n hx hb dX4_pile_1 rfl (lv_at hl 1 rfl) ?_
  refine z_i2l hx hb dX4_pile_2 ⟨by omega, by omega⟩ ?_
  refine z_lc1 hx hb dX4_pile_3 ?_
  refine z_ldc2 (n := 12) hx hb hown w_0 (by decide) dX4_pile_4 ?_
  refine z_kI (z_runS (As := [zl (a1), zl (1), zl (12)]) (rest := [.ref (ad (8))]) ⟨hx, hb, hml, hown, hts⟩ hK hw (k_in l hl0 G I ad _ _ (a1) (1) (12) ⟨by omega, by omega⟩ ⟨by decide, by decide⟩ ⟨by decide, by decide⟩) (va_cwS 3 hts gX4_pile_X4_in rfl rfl rfl (by decide +kernel) ⟨Nat.le_of_ble_eq_true rfl, Nat.le_of_ble_eq_true rfl⟩) rfl hl.1 rfl (Nat.le_of_ble_eq_true rfl) dX4_pile_7 ⟨Nat.le_of_ble_eq_true rfl, Nat.le_of_ble_eq_true rfl⟩) hw (fun r_1 ct_2 H locs hP hw => ?_)
  obtain ⟨rfl, hct⟩ := hP
  rw [hct] at hw
  clear hct
  refine z_ifb_eq (tgt := 50) hx hb dX4_pile_10 (by decide) (fun c_3 => ?_) (fun c_3 => ?_)
  · refine z_ic hx hb dX4_pile_50 ?_
    refine lv_goto (tgt := 68) hx hb dX4_pile_51 (by decide) ?_
    refine z_put (C := RX4) (T := TX4) (N := 19) (fs := [zi (cd), zi (n), .ref (ad (9)), .ref (ad (10)), .ref (ad (11)), .ref (ad (12)), .ref (ad (13)), .ref (ad (14)), .ref (ad (15)), .ref (ad (16)), .ref (ad (17)), .ref (ad (18)), .ref (ad (19)), .ref (ad (20)), .ref (ad (21)), .ref (ad (22)), zi (bl), .ref (ad (23)), .ref (ad (24))]) (fs' := [zi (1), zi (n), .ref (ad (9)), .ref (ad (10)), .ref (ad (11)), .ref (ad (12)), .ref (ad (13)), .ref (ad (14)), .ref (ad (15)), .ref (ad (16)), .ref (ad (17)), .ref (ad (18)), .ref (ad (19)), .ref (ad (20)), .ref (ad (21)), .ref (ad (22)), zi (bl), .ref (ad (23)), .ref (ad (24))]) hx hb hts w_2 tyX4_ok nmX4 hown hK hw (hM 8 (by decide) (by decide)) h8 rfl 0 (by decide) w_1 rfl rfl rfl rfl (Nat.le_of_ble_eq_true rfl) rfl dX4_pile_68 (fun H locs hw => ?_)
    refine lv_aload_n hx hb dX4_pile_71 rfl (lv_at hl 0 rfl) ?_
    refine z_get (C := RX4) (T := TX4) (N := 19) (fs := [zi (1), zi (n), .ref (ad (9)), .ref (ad (10)), .ref (ad (11)), .ref (ad (12)), .ref (ad (13)), .ref (ad (14)), .ref (ad (15)), .ref (ad (16)), .ref (ad (17)), .ref (ad (18)), .ref (ad (19)), .ref (ad (20)), .ref (ad (21)), .ref (ad (22)), zi (bl), .ref (ad (23)), .ref (ad (24))]) hx hb hts w_2 hown hK hw (hM 8 (by decide) (by decide)) (zU_s _ _ _) rfl 0 (by decide) w_1 rfl rfl dX4_pile_72 ?_
    refine z_if_le (tgt := 80) hx hb dX4_pile_75 (by decide) ⟨by decide, by decide⟩ (fun c_4 => ?_) (fun c_4 => ?_)
    · exact absurd c_4 (by decide)
    · refine z_ic hx hb dX4_pile_78 ?_
      exact z_iret hx hb hlk hr hw dX4_pile_79 (Nat.le_of_ble_eq_true rfl) (Nat.le_of_ble_eq_true rfl) ⟨rfl, _, rfl, Or.inr (Or.inl ⟨by omega, rfl⟩)⟩
  · refine lv_iload_n hx hb dX4_pile_13 rfl (lv_at hl 2 rfl) ?_
    refine z_i2l hx hb dX4_pile_14 ⟨by omega, by omega⟩ ?_
    refine z_lc1 hx hb dX4_pile_15 ?_
    refine z_ldc2 (n := 10000) hx hb hown w_3 (by decide) dX4_pile_16 ?_
    refine z_kI (z_runS (As := [zl (a2), zl (1), zl (10000)]) (rest := [.ref (ad (8))]) ⟨hx, hb, hml, hown, hts⟩ hK hw (k_in l hl0 G I ad _ _ (a2) (1) (10000) ⟨by omega, by omega⟩ ⟨by decide, by decide⟩ ⟨by decide, by decide⟩) (va_cwS 3 hts gX4_pile_X4_in rfl rfl rfl (by decide +kernel) ⟨Nat.le_of_ble_eq_true rfl, Nat.le_of_ble_eq_true rfl⟩) rfl hl.1 rfl (Nat.le_of_ble_eq_true rfl) dX4_pile_19 ⟨Nat.le_of_ble_eq_true rfl, Nat.le_of_ble_eq_true rfl⟩) hw (fun r_5 ct_6 H locs hP hw => ?_)
    obtain ⟨rfl, hct⟩ := hP
    rw [hct] at hw
    clear hct
    refine z_ifb_eq (tgt := 50) hx hb dX4_pile_22 (by decide) (fun c_7 => ?_) (fun c_7 => ?_)
    · refine z_ic hx hb dX4_pile_50 ?_
      refine lv_goto (tgt := 68) hx hb dX4_pile_51 (by decide) ?_
      refine z_put (C := RX4) (T := TX4) (N := 19) (fs := [zi (cd), zi (n), .ref (ad (9)), .ref (ad (10)), .ref (ad (11)), .ref (ad (12)), .ref (ad (13)), .ref (ad (14)), .ref (ad (15)), .ref (ad (16)), .ref (ad (17)), .ref (ad (18)), .ref (ad (19)), .ref (ad (20)), .ref (ad (21)), .ref (ad (22)), zi (bl), .ref (ad (23)), .ref (ad (24))]) (fs' := [zi (1), zi (n), .ref (ad (9)), .ref (ad (10)), .ref (ad (11)), .ref (ad (12)), .ref (ad (13)), .ref (ad (14)), .ref (ad (15)), .ref (ad (16)), .ref (ad (17)), .ref (ad (18)), .ref (ad (19)), .ref (ad (20)), .ref (ad (21)), .ref (ad (22)), zi (bl), .ref (ad (23)), .ref (ad (24))]) hx hb hts w_2 tyX4_ok nmX4 hown hK hw (hM 8 (by decide) (by decide)) h8 rfl 0 (by decide) w_1 rfl rfl rfl rfl (Nat.le_of_ble_eq_true rfl) rfl dX4_pile_68 (fun H locs hw => ?_)
      refine lv_aload_n hx hb dX4_pile_71 rfl (lv_at hl 0 rfl) ?_
      refine z_get (C := RX4) (T := TX4) (N := 19) (fs := [zi (1), zi (n), .ref (ad (9)), .ref (ad (10)), .ref (ad (11)), .ref (ad (12)), .ref (ad (13)), .ref (ad (14)), .ref (ad (15)), .ref (ad (16)), .ref (ad (17)), .ref (ad (18)), .ref (ad (19)), .ref (ad (20)), .ref (ad (21)), .ref (ad (22)), zi (bl), .ref (ad (23)), .ref (ad (24))]) hx hb hts w_2 hown hK hw (hM 8 (by decide) (by decide)) (zU_s _ _ _) rfl 0 (by decide) w_1 rfl rfl dX4_pile_72 ?_
      refine z_if_le (tgt := 80) hx hb dX4_pile_75 (by decide) ⟨by decide, by decide⟩ (fun c_8 => ?_) (fun c_8 => ?_)
      · exact absurd c_8 (by decide)
      · refine z_ic hx hb dX4_pile_78 ?_
        exact z_iret hx hb hlk hr hw dX4_pile_79 (Nat.le_of_ble_eq_true rfl) (Nat.le_of_ble_eq_true rfl) ⟨rfl, _, rfl, Or.inr (Or.inl ⟨by omega, rfl⟩)⟩
    · refine lv_iload_n hx hb dX4_pile_25 rfl (lv_at hl 3 rfl) ?_
      refine z_i2l hx hb dX4_pile_26 ⟨by omega, by omega⟩ ?_
      refine z_lc1 hx hb dX4_pile_27 ?_
      refine z_ldc2 (n := 1000) hx hb hown w_4 (by decide) dX4_pile_28 ?_
      refine z_kI (z_runS (As := [zl (a3), zl (1), zl (1000)]) (rest := [.ref (ad (8))]) ⟨hx, hb, hml, hown, hts⟩ hK hw (k_in l hl0 G I ad _ _ (a3) (1) (1000) ⟨by omega, by omega⟩ ⟨by decide, by decide⟩ ⟨by decide, by decide⟩) (va_cwS 3 hts gX4_pile_X4_in rfl rfl rfl (by decide +kernel) ⟨Nat.le_of_ble_eq_true rfl, Nat.le_of_ble_eq_true rfl⟩) rfl hl.1 rfl (Nat.le_of_ble_eq_true rfl) dX4_pile_31 ⟨Nat.le_of_ble_eq_true rfl, Nat.le_of_ble_eq_true rfl⟩) hw (fun r_9 ct_10 H locs hP hw => ?_)
      obtain ⟨rfl, hct⟩ := hP
      rw [hct] at hw
      clear hct
      refine z_ifb_eq (tgt := 50) hx hb dX4_pile_34 (by decide) (fun c_11 => ?_) (fun c_11 => ?_)
      · refine z_ic hx hb dX4_pile_50 ?_
        refine lv_goto (tgt := 68) hx hb dX4_pile_51 (by decide) ?_
        refine z_put (C := RX4) (T := TX4) (N := 19) (fs := [zi (cd), zi (n), .ref (ad (9)), .ref (ad (10)), .ref (ad (11)), .ref (ad (12)), .ref (ad (13)), .ref (ad (14)), .ref (ad (15)), .ref (ad (16)), .ref (ad (17)), .ref (ad (18)), .ref (ad (19)), .ref (ad (20)), .ref (ad (21)), .ref (ad (22)), zi (bl), .ref (ad (23)), .ref (ad (24))]) (fs' := [zi (1), zi (n), .ref (ad (9)), .ref (ad (10)), .ref (ad (11)), .ref (ad (12)), .ref (ad (13)), .ref (ad (14)), .ref (ad (15)), .ref (ad (16)), .ref (ad (17)), .ref (ad (18)), .ref (ad (19)), .ref (ad (20)), .ref (ad (21)), .ref (ad (22)), zi (bl), .ref (ad (23)), .ref (ad (24))]) hx hb hts w_2 tyX4_ok nmX4 hown hK hw (hM 8 (by decide) (by decide)) h8 rfl 0 (by decide) w_1 rfl rfl rfl rfl (Nat.le_of_ble_eq_true rfl) rfl dX4_pile_68 (fun H locs hw => ?_)
        refine lv_aload_n hx hb dX4_pile_71 rfl (lv_at hl 0 rfl) ?_
        refine z_get (C := RX4) (T := TX4) (N := 19) (fs := [zi (1), zi (n), .ref (ad (9)), .ref (ad (10)), .ref (ad (11)), .ref (ad (12)), .ref (ad (13)), .ref (ad (14)), .ref (ad (15)), .ref (ad (16)), .ref (ad (17)), .ref (ad (18)), .ref (ad (19)), .ref (ad (20)), .ref (ad (21)), .ref (ad (22)), zi (bl), .ref (ad (23)), .ref (ad (24))]) hx hb hts w_2 hown hK hw (hM 8 (by decide) (by decide)) (zU_s _ _ _) rfl 0 (by decide) w_1 rfl rfl dX4_pile_72 ?_
        refine z_if_le (tgt := 80) hx hb dX4_pile_75 (by decide) ⟨by decide, by decide⟩ (fun c_12 => ?_) (fun c_12 => ?_)
        · exact absurd c_12 (by decide)
        · refine z_ic hx hb dX4_pile_78 ?_
          exact z_iret hx hb hlk hr hw dX4_pile_79 (Nat.le_of_ble_eq_true rfl) (Nat.le_of_ble_eq_true rfl) ⟨rfl, _, rfl, Or.inr (Or.inl ⟨by omega, rfl⟩)⟩
      · refine lv_iload hx hb dX4_pile_37 (lv_at hl 4 rfl) ?_
        refine z_i2l hx hb dX4_pile_39 ⟨by omega, by omega⟩ ?_
        refine z_lc0 hx hb dX4_pile_40 ?_
        refine z_ldc2 (n := 100000) hx hb hown w_5 (by decide) dX4_pile_41 ?_
        refine z_kI (z_runS (As := [zl (a4), zl (0), zl (100000)]) (rest := [.ref (ad (8))]) ⟨hx, hb, hml, hown, hts⟩ hK hw (k_in l hl0 G I ad _ _ (a4) (0) (100000) ⟨by omega, by omega⟩ ⟨by decide, by decide⟩ ⟨by decide, by decide⟩) (va_cwS 3 hts gX4_pile_X4_in rfl rfl rfl (by decide +kernel) ⟨Nat.le_of_ble_eq_true rfl, Nat.le_of_ble_eq_true rfl⟩) rfl hl.1 rfl (Nat.le_of_ble_eq_true rfl) dX4_pile_44 ⟨Nat.le_of_ble_eq_true rfl, Nat.le_of_ble_eq_true rfl⟩) hw (fun r_13 ct_14 H locs hP hw => ?_)
        obtain ⟨rfl, hct⟩ := hP
        rw [hct] at hw
        clear hct
        refine z_ifb_ne (tgt := 54) hx hb dX4_pile_47 (by decide) (fun c_15 => ?_) (fun c_15 => ?_)
        · refine lv_aload_n hx hb dX4_pile_54 rfl (lv_at hl 0 rfl) ?_
          refine z_get (C := RX4) (T := TX4) (N := 19) (fs := [zi (cd), zi (n), .ref (ad (9)), .ref (ad (10)), .ref (ad (11)), .ref (ad (12)), .ref (ad (13)), .ref (ad (14)), .ref (ad (15)), .ref (ad (16)), .ref (ad (17)), .ref (ad (18)), .ref (ad (19)), .ref (ad (20)), .ref (ad (21)), .ref (ad (22)), zi (bl), .ref (ad (23)), .ref (ad (24))]) hx hb hts w_2 hown hK hw (hM 8 (by decide) (by decide)) h8 rfl 1 (by decide) w_6 rfl rfl dX4_pile_55 ?_
          refine z_bi hx hb dX4_pile_58 (by decide) ?_
          refine z_icmp_ne (tgt := 67) hx hb dX4_pile_60 (by decide) ⟨by omega, by omega⟩ ⟨by decide, by decide⟩ (fun c_16 => ?_) (fun c_16 => ?_)
          · refine z_ic hx hb dX4_pile_67 ?_
            refine z_put (C := RX4) (T := TX4) (N := 19) (fs := [zi (cd), zi (n), .ref (ad (9)), .ref (ad (10)), .ref (ad (11)), .ref (ad (12)), .ref (ad (13)), .ref (ad (14)), .ref (ad (15)), .ref (ad (16)), .ref (ad (17)), .ref (ad (18)), .ref (ad (19)), .ref (ad (20)), .ref (ad (21)), .ref (ad (22)), zi (bl), .ref (ad (23)), .ref (ad (24))]) (fs' := [zi (0), zi (n), .ref (ad (9)), .ref (ad (10)), .ref (ad (11)), .ref (ad (12)), .ref (ad (13)), .ref (ad (14)), .ref (ad (15)), .ref (ad (16)), .ref (ad (17)), .ref (ad (18)), .ref (ad (19)), .ref (ad (20)), .ref (ad (21)), .ref (ad (22)), zi (bl), .ref (ad (23)), .ref (ad (24))]) hx hb hts w_2 tyX4_ok nmX4 hown hK hw (hM 8 (by decide) (by decide)) h8 rfl 0 (by decide) w_1 rfl rfl rfl rfl (Nat.le_of_ble_eq_true rfl) rfl dX4_pile_68 (fun H locs hw => ?_)
            refine lv_aload_n hx hb dX4_pile_71 rfl (lv_at hl 0 rfl) ?_
            refine z_get (C := RX4) (T := TX4) (N := 19) (fs := [zi (0), zi (n), .ref (ad (9)), .ref (ad (10)), .ref (ad (11)), .ref (ad (12)), .ref (ad (13)), .ref (ad (14)), .ref (ad (15)), .ref (ad (16)), .ref (ad (17)), .ref (ad (18)), .ref (ad (19)), .ref (ad (20)), .ref (ad (21)), .ref (ad (22)), zi (bl), .ref (ad (23)), .ref (ad (24))]) hx hb hts w_2 hown hK hw (hM 8 (by decide) (by decide)) (zU_s _ _ _) rfl 0 (by decide) w_1 rfl rfl dX4_pile_72 ?_
            refine z_if_le (tgt := 80) hx hb dX4_pile_75 (by decide) ⟨by decide, by decide⟩ (fun c_17 => ?_) (fun c_17 => ?_)
            · refine lv_aload_n hx hb dX4_pile_80 rfl (lv_at hl 0 rfl) ?_
              refine z_get (C := RX4) (T := TX4) (N := 19) (fs := [zi (0), zi (n), .ref (ad (9)), .ref (ad (10)), .ref (ad (11)), .ref (ad (12)), .ref (ad (13)), .ref (ad (14)), .ref (ad (15)), .ref (ad (16)), .ref (ad (17)), .ref (ad (18)), .ref (ad (19)), .ref (ad (20)), .ref (ad (21)), .ref (ad (22)), zi (bl), .ref (ad (23)), .ref (ad (24))]) hx hb hts w_2 hown hK hw (hM 8 (by decide) (by decide)) (zU_s _ _ _) rfl 2 (by decide) w_7 rfl rfl dX4_pile_81 ?_
              refine lv_aload_n hx hb dX4_pile_84 rfl (lv_at hl 0 rfl) ?_
              refine z_get (C := RX4) (T := TX4) (N := 19) (fs := [zi (0), zi (n), .ref (ad (9)), .ref (ad (10)), .ref (ad (11)), .ref (ad (12)), .ref (ad (13)), .ref (ad (14)), .ref (ad (15)), .ref (ad (16)), .ref (ad (17)), .ref (ad (18)), .ref (ad (19)), .ref (ad (20)), .ref (ad (21)), .ref (ad (22)), zi (bl), .ref (ad (23)), .ref (ad (24))]) hx hb hts w_2 hown hK hw (hM 8 (by decide) (by decide)) (zU_s _ _ _) rfl 1 (by decide) w_6 rfl rfl dX4_pile_85 ?_
              refine lv_iload_n hx hb dX4_pile_88 rfl (lv_at hl 1 rfl) ?_
              refine z_iast (f := Fmn) hx hb hK hw (hM 9 (by decide) (by decide)) (zU_n (by decide) h9) (by omega) (by omega) (by decide) dX4_pile_89 (fun H locs hw => ?_)
              refine lv_aload_n hx hb dX4_pile_90 rfl (lv_at hl 0 rfl) ?_
              refine z_get (C := RX4) (T := TX4) (N := 19) (fs := [zi (0), zi (n), .ref (ad (9)), .ref (ad (10)), .ref (ad (11)), .ref (ad (12)), .ref (ad (13)), .ref (ad (14)), .ref (ad (15)), .ref (ad (16)), .ref (ad (17)), .ref (ad (18)), .ref (ad (19)), .ref (ad (20)), .ref (ad (21)), .ref (ad (22)), zi (bl), .ref (ad (23)), .ref (ad (24))]) hx hb hts w_2 hown hK hw (hM 8 (by decide) (by decide)) (zU_n (by decide) (zU_s _ _ _)) rfl 3 (by decide) w_8 rfl rfl dX4_pile_91 ?_
              refine lv_aload_n hx hb dX4_pile_94 rfl (lv_at hl 0 rfl) ?_
              refine z_get (C := RX4) (T := TX4) (N := 19) (fs := [zi (0), zi (n), .ref (ad (9)), .ref (ad (10)), .ref (ad (11)), .ref (ad (12)), .ref (ad (13)), .ref (ad (14)), .ref (ad (15)), .ref (ad (16)), .ref (ad (17)), .ref (ad (18)), .ref (ad (19)), .ref (ad (20)), .ref (ad (21)), .ref (ad (22)), zi (bl), .ref (ad (23)), .ref (ad (24))]) hx hb hts w_2 hown hK hw (hM 8 (by decide) (by decide)) (zU_n (by decide) (zU_s _ _ _)) rfl 1 (by decide) w_6 rfl rfl dX4_pile_95 ?_
              refine lv_iload_n hx hb dX4_pile_98 rfl (lv_at hl 2 rfl) ?_
              refine z_i2l hx hb dX4_pile_99 ⟨by omega, by omega⟩ ?_
              refine z_last (f := Fsp) hx hb hK hw (hM 10 (by decide) (by decide)) (zU_n (by decide) (zU_n (by decide) h10)) (by omega) (by omega) (by decide) dX4_pile_100 (fun H locs hw => ?_)
              refine lv_aload_n hx hb dX4_pile_101 rfl (lv_at hl 0 rfl) ?_
              refine z_get (C := RX4) (T := TX4) (N := 19) (fs := [zi (0), zi (n), .ref (ad (9)), .ref (ad (10)), .ref (ad (11)), .ref (ad (12)), .ref (ad (13)), .ref (ad (14)), .ref (ad (15)), .ref (ad (16)), .ref (ad (17)), .ref (ad (18)), .ref (ad (19)), .ref (ad (20)), .ref (ad (21)), .ref (ad (22)), zi (bl), .ref (ad (23)), .ref (ad (24))]) hx hb hts w_2 hown hK hw (hM 8 (by decide) (by decide)) (zU_n (by decide) (zU_n (by decide) (zU_s _ _ _))) rfl 4 (by decide) w_9 rfl rfl dX4_pile_102 ?_
              refine lv_aload_n hx hb dX4_pile_105 rfl (lv_at hl 0 rfl) ?_
              refine z_get (C := RX4) (T := TX4) (N := 19) (fs := [zi (0), zi (n), .ref (ad (9)), .ref (ad (10)), .ref (ad (11)), .ref (ad (12)), .ref (ad (13)), .ref (ad (14)), .ref (ad (15)), .ref (ad (16)), .ref (ad (17)), .ref (ad (18)), .ref (ad (19)), .ref (ad (20)), .ref (ad (21)), .ref (ad (22)), zi (bl), .ref (ad (23)), .ref (ad (24))]) hx hb hts w_2 hown hK hw (hM 8 (by decide) (by decide)) (zU_n (by decide) (zU_n (by decide) (zU_s _ _ _))) rfl 1 (by decide) w_6 rfl rfl dX4_pile_106 ?_
              refine lv_iload_n hx hb dX4_pile_109 rfl (lv_at hl 3 rfl) ?_
              refine z_i2l hx hb dX4_pile_110 ⟨by omega, by omega⟩ ?_
              refine z_last (f := Fms) hx hb hK hw (hM 11 (by decide) (by decide)) (zU_n (by decide) (zU_n (by decide) (zU_n (by decide) h11))) (by omega) (by omega) (by decide) dX4_pile_111 (fun H locs hw => ?_)
              refine lv_aload_n hx hb dX4_pile_112 rfl (lv_at hl 0 rfl) ?_
              refine z_get (C := RX4) (T := TX4) (N := 19) (fs := [zi (0), zi (n), .ref (ad (9)), .ref (ad (10)), .ref (ad (11)), .ref (ad (12)), .ref (ad (13)), .ref (ad (14)), .ref (ad (15)), .ref (ad (16)), .ref (ad (17)), .ref (ad (18)), .ref (ad (19)), .ref (ad (20)), .ref (ad (21)), .ref (ad (22)), zi (bl), .ref (ad (23)), .ref (ad (24))]) hx hb hts w_2 hown hK hw (hM 8 (by decide) (by decide)) (zU_n (by decide) (zU_n (by decide) (zU_n (by decide) (zU_s _ _ _)))) rfl 5 (by decide) w_10 rfl rfl dX4_pile_113 ?_
              refine lv_aload_n hx hb dX4_pile_116 rfl (lv_at hl 0 rfl) ?_
              refine z_get (C := RX4) (T := TX4) (N := 19) (fs := [zi (0), zi (n), .ref (ad (9)), .ref (ad (10)), .ref (ad (11)), .ref (ad (12)), .ref (ad (13)), .ref (ad (14)), .ref (ad (15)), .ref (ad (16)), .ref (ad (17)), .ref (ad (18)), .ref (ad (19)), .ref (ad (20)), .ref (ad (21)), .ref (ad (22)), zi (bl), .ref (ad (23)), .ref (ad (24))]) hx hb hts w_2 hown hK hw (hM 8 (by decide) (by decide)) (zU_n (by decide) (zU_n (by decide) (zU_n (by decide) (zU_s _ _ _)))) rfl 1 (by decide) w_6 rfl rfl dX4_pile_117 ?_
              refine lv_iload hx hb dX4_pile_120 (lv_at hl 4 rfl) ?_
              refine z_iast (f := Fco) hx hb hK hw (hM 12 (by decide) (by decide)) (zU_n (by decide) (zU_n (by decide) (zU_n (by decide) (zU_n (by decide) h12)))) (by omega) (by omega) (by decide) dX4_pile_122 (fun H locs hw => ?_)
              refine lv_aload_n hx hb dX4_pile_123 rfl (lv_at hl 0 rfl) ?_
              refine lv_dup hx hb dX4_pile_124 rfl ?_
              refine z_get (C := RX4) (T := TX4) (N := 19) (fs := [zi (0), zi (n), .ref (ad (9)), .ref (ad (10)), .ref (ad (11)), .ref (ad (12)), .ref (ad (13)), .ref (ad (14)), .ref (ad (15)), .ref (ad (16)), .ref (ad (17)), .ref (ad (18)), .ref (ad (19)), .ref (ad (20)), .ref (ad (21)), .ref (ad (22)), zi (bl), .ref (ad (23)), .ref (ad (24))]) hx hb hts w_2 hown hK hw (hM 8 (by decide) (by decide)) (zU_n (by decide) (zU_n (by decide) (zU_n (by decide) (zU_n (by decide) (zU_s _ _ _))))) rfl 1 (by decide) w_6 rfl rfl dX4_pile_125 ?_
              refine z_ic hx hb dX4_pile_128 ?_
              refine z_iadd hx hb dX4_pile_129 ?_
              rw [show ((n) + (1) : Int) = ((n + 1 : Nat) : Int) from by omega]
              refine z_put (C := RX4) (T := TX4) (N := 19) (fs := [zi (0), zi (n), .ref (ad (9)), .ref (ad (10)), .ref (ad (11)), .ref (ad (12)), .ref (ad (13)), .ref (ad (14)), .ref (ad (15)), .ref (ad (16)), .ref (ad (17)), .ref (ad (18)), .ref (ad (19)), .ref (ad (20)), .ref (ad (21)), .ref (ad (22)), zi (bl), .ref (ad (23)), .ref (ad (24))]) (fs' := [zi (0), zi (((n + 1 : Nat) : Int)), .ref (ad (9)), .ref (ad (10)), .ref (ad (11)), .ref (ad (12)), .ref (ad (13)), .ref (ad (14)), .ref (ad (15)), .ref (ad (16)), .ref (ad (17)), .ref (ad (18)), .ref (ad (19)), .ref (ad (20)), .ref (ad (21)), .ref (ad (22)), zi (bl), .ref (ad (23)), .ref (ad (24))]) hx hb hts w_2 tyX4_ok nmX4 hown hK hw (hM 8 (by decide) (by decide)) (zU_n (by decide) (zU_n (by decide) (zU_n (by decide) (zU_n (by decide) (zU_s _ _ _))))) rfl 1 (by decide) w_6 rfl rfl rfl rfl (Nat.le_of_ble_eq_true rfl) rfl dX4_pile_130 (fun H locs hw => ?_)
              refine lv_aload_n hx hb dX4_pile_133 rfl (lv_at hl 0 rfl) ?_
              refine z_get (C := RX4) (T := TX4) (N := 19) (fs := [zi (0), zi (((n + 1 : Nat) : Int)), .ref (ad (9)), .ref (ad (10)), .ref (ad (11)), .ref (ad (12)), .ref (ad (13)), .ref (ad (14)), .ref (ad (15)), .ref (ad (16)), .ref (ad (17)), .ref (ad (18)), .ref (ad (19)), .ref (ad (20)), .ref (ad (21)), .ref (ad (22)), zi (bl), .ref (ad (23)), .ref (ad (24))]) hx hb hts w_2 hown hK hw (hM 8 (by decide) (by decide)) (zU_s _ _ _) rfl 1 (by decide) w_6 rfl rfl dX4_pile_134 ?_
              refine z_ic hx hb dX4_pile_137 ?_
              refine z_isub hx hb dX4_pile_138 ?_
              exact z_iret hx hb hlk hr hw dX4_pile_139 (Nat.le_of_ble_eq_true rfl) (Nat.le_of_ble_eq_true rfl) ⟨rfl, _, rfl, Or.inl ⟨by omega, by omega, by omega, rfl⟩⟩
            · exact absurd c_17 (by decide)
          · refine z_ic hx hb dX4_pile_63 ?_
            refine lv_goto (tgt := 68) hx hb dX4_pile_64 (by decide) ?_
            refine z_put (C := RX4) (T := TX4) (N := 19) (fs := [zi (cd), zi (n), .ref (ad (9)), .ref (ad (10)), .ref (ad (11)), .ref (ad (12)), .ref (ad (13)), .ref (ad (14)), .ref (ad (15)), .ref (ad (16)), .ref (ad (17)), .ref (ad (18)), .ref (ad (19)), .ref (ad (20)), .ref (ad (21)), .ref (ad (22)), zi (bl), .ref (ad (23)), .ref (ad (24))]) (fs' := [zi (2), zi (n), .ref (ad (9)), .ref (ad (10)), .ref (ad (11)), .ref (ad (12)), .ref (ad (13)), .ref (ad (14)), .ref (ad (15)), .ref (ad (16)), .ref (ad (17)), .ref (ad (18)), .ref (ad (19)), .ref (ad (20)), .ref (ad (21)), .ref (ad (22)), zi (bl), .ref (ad (23)), .ref (ad (24))]) hx hb hts w_2 tyX4_ok nmX4 hown hK hw (hM 8 (by decide) (by decide)) h8 rfl 0 (by decide) w_1 rfl rfl rfl rfl (Nat.le_of_ble_eq_true rfl) rfl dX4_pile_68 (fun H locs hw => ?_)
            refine lv_aload_n hx hb dX4_pile_71 rfl (lv_at hl 0 rfl) ?_
            refine z_get (C := RX4) (T := TX4) (N := 19) (fs := [zi (2), zi (n), .ref (ad (9)), .ref (ad (10)), .ref (ad (11)), .ref (ad (12)), .ref (ad (13)), .ref (ad (14)), .ref (ad (15)), .ref (ad (16)), .ref (ad (17)), .ref (ad (18)), .ref (ad (19)), .ref (ad (20)), .ref (ad (21)), .ref (ad (22)), zi (bl), .ref (ad (23)), .ref (ad (24))]) hx hb hts w_2 hown hK hw (hM 8 (by decide) (by decide)) (zU_s _ _ _) rfl 0 (by decide) w_1 rfl rfl dX4_pile_72 ?_
            refine z_if_le (tgt := 80) hx hb dX4_pile_75 (by decide) ⟨by decide, by decide⟩ (fun c_18 => ?_) (fun c_18 => ?_)
            · exact absurd c_18 (by decide)
            · refine z_ic hx hb dX4_pile_78 ?_
              exact z_iret hx hb hlk hr hw dX4_pile_79 (Nat.le_of_ble_eq_true rfl) (Nat.le_of_ble_eq_true rfl) ⟨rfl, _, rfl, Or.inr (Or.inr ⟨by omega, by omega, rfl⟩)⟩
        · refine z_ic hx hb dX4_pile_50 ?_
          refine lv_goto (tgt := 68) hx hb dX4_pile_51 (by decide) ?_
          refine z_put (C := RX4) (T := TX4) (N := 19) (fs := [zi (cd), zi (n), .ref (ad (9)), .ref (ad (10)), .ref (ad (11)), .ref (ad (12)), .ref (ad (13)), .ref (ad (14)), .ref (ad (15)), .ref (ad (16)), .ref (ad (17)), .ref (ad (18)), .ref (ad (19)), .ref (ad (20)), .ref (ad (21)), .ref (ad (22)), zi (bl), .ref (ad (23)), .ref (ad (24))]) (fs' := [zi (1), zi (n), .ref (ad (9)), .ref (ad (10)), .ref (ad (11)), .ref (ad (12)), .ref (ad (13)), .ref (ad (14)), .ref (ad (15)), .ref (ad (16)), .ref (ad (17)), .ref (ad (18)), .ref (ad (19)), .ref (ad (20)), .ref (ad (21)), .ref (ad (22)), zi (bl), .ref (ad (23)), .ref (ad (24))]) hx hb hts w_2 tyX4_ok nmX4 hown hK hw (hM 8 (by decide) (by decide)) h8 rfl 0 (by decide) w_1 rfl rfl rfl rfl (Nat.le_of_ble_eq_true rfl) rfl dX4_pile_68 (fun H locs hw => ?_)
          refine lv_aload_n hx hb dX4_pile_71 rfl (lv_at hl 0 rfl) ?_
          refine z_get (C := RX4) (T := TX4) (N := 19) (fs := [zi (1), zi (n), .ref (ad (9)), .ref (ad (10)), .ref (ad (11)), .ref (ad (12)), .ref (ad (13)), .ref (ad (14)), .ref (ad (15)), .ref (ad (16)), .ref (ad (17)), .ref (ad (18)), .ref (ad (19)), .ref (ad (20)), .ref (ad (21)), .ref (ad (22)), zi (bl), .ref (ad (23)), .ref (ad (24))]) hx hb hts w_2 hown hK hw (hM 8 (by decide) (by decide)) (zU_s _ _ _) rfl 0 (by decide) w_1 rfl rfl dX4_pile_72 ?_
          refine z_if_le (tgt := 80) hx hb dX4_pile_75 (by decide) ⟨by decide, by decide⟩ (fun c_19 => ?_) (fun c_19 => ?_)
          · exact absurd c_19 (by decide)
          · refine z_ic hx hb dX4_pile_78 ?_
            exact z_iret hx hb hlk hr hw dX4_pile_79 (Nat.le_of_ble_eq_true rfl) (Nat.le_of_ble_eq_true rfl) ⟨rfl, _, rfl, Or.inr (Or.inl ⟨by omega, rfl⟩)⟩
