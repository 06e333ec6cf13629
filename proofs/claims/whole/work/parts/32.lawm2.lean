theorem zLI_q2 {G : zG} {I : List Nat} {ad : Nat → Nat} {ct ct' : Nat → va_E} {n : Nat} {σ : Nat → zPl} {b0 bl : Int} {wv Fwv Fmn Fsp Fms Fco Fst Fmo Fsk Fts Ftm Fjn : Int → Int} (h : zLI G I ad ct n σ b0 bl wv Fwv Fmn Fsp Fms Fco Fst Fmo Fsk Fts Ftm Fjn) (hag : ∀ j : Nat, j ≠ 8 → j ≠ 22 → j ≠ 23 → j ≠ 24 → ct' j = ct j) (h8 : ∃ cd : Int, ct' 8 = zmo ad n cd bl) (hb : ∃ Fat Fsd : Int → Int, zMbl G ct' Fwv Fat Fsd) : zLI G I ad ct' n σ b0 bl wv Fwv Fmn Fsp Fms Fco Fst Fmo Fsk Fts Ftm Fjn := by
  obtain ⟨k1, k2, k3, k4, k5, k6, k7, k8, k9, k10, k11, k12, ⟨w, p0, f0, a0, q2⟩, ⟨b1, f, g, h9, q3, q4, q5, q6, q7⟩, ⟨cd, k15⟩, ⟨Fpl, Fgr, Fab, q19, q20, q21⟩, -, ⟨Fo, k18⟩⟩ := h
  obtain ⟨cd2, h8⟩ := h8
  have e : ∀ j : Nat, (j < 8 ∨ (8 < j ∧ j < 22) ∨ 24 < j) → ct' j = ct j := fun j hj => hag j (by omega) (by omega) (by omega) (by omega)
  exact ⟨k1, k2, k3, k4, k5, k6, k7, k8, k9, (e 0 (by decide)).trans k10, (e 1 (by decide)).trans k11, fun p hp => zPileAt_c (k12 p hp) (fun j hj1 hj2 => e j (by omega)), ⟨w, p0, f0, a0, (e 2 (by decide)).trans q2⟩, ⟨b1, f, g, h9, (e 3 (by decide)).trans q3, (e 4 (by decide)).trans q4, (e 5 (by decide)).trans q5, (e 6 (by decide)).trans q6, (e 7 (by decide)).trans q7⟩, ⟨cd2, zMst_c k15 h8 (fun j hj1 hj2 => e j (by omega))⟩, ⟨Fpl, Fgr, Fab, (e 19 (by decide)).trans q19, (e 20 (by decide)).trans q20, (e 21 (by decide)).trans q21⟩, hb, ⟨Fo, (e 25 (by decide)).trans k18⟩⟩

set_option maxHeartbeats 4000000 in
set_option maxRecDepth 100000 in
theorem law_wave {p : Program} {e : Env} {s : State} {m : MethodId} {below : List Frame} {meth : Method} {c : Code} {l : Launch} (hl0 : l.stackTraces = false) {b L : Nat} {xs : Nat → Int32} (hL : L ≤ 2560) (C0 : lw_At p s m meth c b L xs) {G : zG} (hK : zK G (fun q : Nat => s.heap.size ≤ q) s s.heap) {i : Int} (hi0 : 0 ≤ i) (hi5 : i + 5 ≤ L) {kc ks : Nat} (hkc : kc + 50 ≤ 601024) (hks : ks + 500 ≤ 7293034) {I : List Nat} {ad : Nat → Nat} {ct : Nat → va_E} {n : Nat} {σ : Nat → zPl} {b0 bl : Int} {wv Fwv Fmn Fsp Fms Fco Fst Fmo Fsk Fts Ftm Fjn : Int → Int} (hLI : zLI G I ad ct n σ b0 bl wv Fwv Fmn Fsp Fms Fco Fst Fmo Fsk Fts Ftm Fjn) {H : Heap} {locs : List Loc} (hw : zW G (fun q : Nat => s.heap.size ≤ q) s.heap H locs I ad ct) {ls : Array Slot} (hl : lv_has ls 7 [(0, .ref b), (1, .ref (ad 0)), (2, .ref (ad 8)), (3, .ref (ad 25)), (4, zi i)]) (kk : zBk p l e s m b below meth c G i kc ks) : W p l e room_1 s m #[Value.ref b] below meth c H locs kc ks (lw_Z below #[Value.ref b] s) (F0 m 1059 ls []) := by
  obtain ⟨hx, hb, hr, hml, hown0, hts0, hX, hbs, hlk, hgv⟩ := id C0
  have hown : s.vm.findClass RL = some m.cls := hown0
  have hts : ∀ w ∈ wsL_law, w.before #[Value.ref b] s = true := fun w h => hts0 w (wsL_law_in w h)
  have hbA : ¬ (fun q : Nat => s.heap.size ≤ q) b := Nat.not_le.mpr hbs
  obtain ⟨hn6, hIa, hIb, hmm, hgs, hRel, hz0, hz9, hbl, h0, h1, hps, ⟨w, p0, f0, a0, h2⟩, ⟨b1, f, g, h, h3, h4, h5, h6, h7⟩, ⟨cd, hms⟩, ⟨Fpl, Fgr, Fab, hmc⟩, ⟨Fat, Fsd, hmb⟩, ⟨Fo, h25⟩⟩ := id hLI
  have hM : ∀ j : Nat, 8 ≤ j → j ≤ 24 → j ∈ I := fun j _ h => hIa j (by omega)
  obtain ⟨v1, e1⟩ : ∃ v : Int, zAx xs (i + 1) = v := ⟨_, rfl⟩
  have hr1 : zr v1 := by rw [← e1]; exact zAx_r _ _
  obtain ⟨v2, e2⟩ : ∃ v : Int, zAx xs (i + 2) = v := ⟨_, rfl⟩
  have hr2 : zr v2 := by rw [← e2]; exact zAx_r _ _
  obtain ⟨v3, e3⟩ : ∃ v : Int, zAx xs (i + 3) = v := ⟨_, rfl⟩
  have hr3 : zr v3 := by rw [← e3]; exact zAx_r _ _
  obtain ⟨v4, e4⟩ : ∃ v : Int, zAx xs (i + 4) = v := ⟨_, rfl⟩
  have hr4 : zr v4 := by rw [← e4]; exact zAx_r _ _
  refine lv_aload_n hx hb dL_law_1059 rfl (lv_at hl 1 rfl) ?_
  refine lv_aload_n hx hb dL_law_1060 rfl (lv_at hl 0 rfl) ?_
  refine lv_iload hx hb dL_law_1061 (lv_at hl 4 rfl) ?_
  refine z_ic hx hb dL_law_1063 ?_
  refine z_iadd hx hb dL_law_1064 ?_
  refine z_sld hx hb hX hbs hbA hw (by omega) (by omega) hL dL_law_1065 ?_
  rw [e1]
  refine lv_aload_n hx hb dL_law_1066 rfl (lv_at hl 0 rfl) ?_
  refine lv_iload hx hb dL_law_1067 (lv_at hl 4 rfl) ?_
  refine z_ic hx hb dL_law_1069 ?_
  refine z_iadd hx hb dL_law_1070 ?_
  refine z_sld hx hb hX hbs hbA hw (by omega) (by omega) hL dL_law_1071 ?_
  rw [e2]
  refine lv_aload_n hx hb dL_law_1072 rfl (lv_at hl 3 rfl) ?_
  have hbA2 : (b0 = 0 ∧ bl = -1000000) ∨ (0 < b0 ∧ 0 ≤ bl ∧ bl < n ∧ b0 = pn (σ (bl).toNat)) := hbl.imp id (fun q9 => ⟨q9.1, q9.2.1, q9.2.2.1, q9.2.2.2.1⟩)
  have hb12 : 0 ≤ b0 ∧ b0 ≤ 12 := hbA2.elim (fun q9 => by omega) (fun q9 => by have := (hgs bl.toNat (by omega)).1; omega)
  refine z_kI (z_runSW (As := [.ref (ad (0)), zi (v1), zi (v2), .ref (ad (25))]) (rest := []) ⟨hx, hb, hml, hown, hts⟩ hK hw (l_wave l hl0 G I ad _ _ n hn6 (hIa 0 (by decide)) (hIa 1 (by decide)) h0 h1 b0 b1 f g h wv (hIa 3 (by decide)) (hIa 4 (by decide)) (hIa 5 (by decide)) (hIa 6 (by decide)) (hIa 7 (by decide)) h3 h4 h5 h6 h7 v1 v2 hr1 hr2 hb12 Fo (hIa 25 (by decide)) h25) (vx_cwSW 4 hts gL_law_L_wave rfl rfl rfl (by decide +kernel) ⟨Nat.le_of_ble_eq_true rfl, Nat.le_of_ble_eq_true rfl⟩) rfl hl.1 rfl (Nat.le_of_ble_eq_true rfl) dL_law_1073 ⟨by show kc + 2 ≤ 601024; omega, by show ks + 12 ≤ 7293034; omega⟩) hw (fun k1 c1 H locs hP hw => ?_)
  have hg1 : ∀ j : Nat, 8 ≤ j → j ≤ 24 → c1 j = ct j := by
    rcases hP with ⟨hOK, rfl, hct⟩ | ⟨(⟨hE, hcc⟩ | ⟨hE, hcc⟩), rfl, hct⟩ | ⟨(⟨hE, hcc⟩ | ⟨hE, hcc⟩), rfl, hct⟩
    · exact fun j ja jb => (congrFun hct j).trans (zU_n (by omega) (rfl))
    · exact fun j _ _ => congrFun hct j
    · exact fun j _ _ => congrFun hct j
    · exact fun j _ _ => congrFun hct j
    · exact fun j _ _ => congrFun hct j
  have hm1 : zMst G ad c1 n cd bl Fmn Fsp Fms Fco Fst Fmo Fsk Fts Ftm Fjn := zMst_c hms ((hg1 8 (by omega) (by omega)).trans hms.1) (fun j ja jb => hg1 j (by omega) (by omega))
  have hc1 : zMsc G c1 Fpl Fgr Fab := ⟨(hg1 19 (by omega) (by omega)).trans hmc.1, (hg1 20 (by omega) (by omega)).trans hmc.2.1, (hg1 21 (by omega) (by omega)).trans hmc.2.2⟩
  have hb1 : zMbl G c1 Fwv Fat Fsd := ⟨(hg1 22 (by omega) (by omega)).trans hmb.1, (hg1 23 (by omega) (by omega)).trans hmb.2.1, (hg1 24 (by omega) (by omega)).trans hmb.2.2⟩
  refine lv_istore (lv' := [(5, zi (k1)), (0, .ref b), (1, .ref (ad (0))), (2, .ref (ad (8))), (3, .ref (ad (25))), (4, zi (i))]) hx hb dL_law_1076 hl (by decide) rfl (fun ls hl => ?_)
  refine lv_aload_n hx hb dL_law_1078 rfl (lv_at hl 3 rfl) ?_
  refine lv_aload_n hx hb dL_law_1079 rfl (lv_at hl 1 rfl) ?_
  refine lv_iload hx hb dL_law_1080 (lv_at hl 5 rfl) ?_
  refine z_ic hx hb dL_law_1082 ?_
  refine z_iadd hx hb dL_law_1083 ?_
  refine z_sld hx hb hX hbs hbA hw (by omega) (by omega) hL dL_law_1084 ?_
  rw [e1]
  refine lv_aload_n hx hb dL_law_1085 rfl (lv_at hl 1 rfl) ?_
  refine lv_iload hx hb dL_law_1086 (lv_at hl 5 rfl) ?_
  refine z_ic hx hb dL_law_1088 ?_
  refine z_iadd hx hb dL_law_1089 ?_
  refine z_sld hx hb hX hbs hbA hw (by omega) (by omega) hL dL_law_1090 ?_
  rw [e2]
  refine z_kI (z_runV (k := 8) (As := [zi (v1), zi (v2)]) (rest := []) (fs := [zi (cd), zi (n), .ref (ad (9)), .ref (ad (10)), .ref (ad (11)), .ref (ad (12)), .ref (ad (13)), .ref (ad (14)), .ref (ad (15)), .ref (ad (16)), .ref (ad (17)), .ref (ad (18)), .ref (ad (19)), .ref (ad (20)), .ref (ad (21)), .ref (ad (22)), zi (bl), .ref (ad (23)), .ref (ad (24))]) ⟨hx, hb, hml, hown, hts⟩ hK hw (m_wave l hl0 G I ad _ _ n hn6 σ hgs cd bl Fmn Fsp Fms Fco Fst Fmo Fsk Fts Ftm Fjn Fpl Fgr Fab hRel hM hm1 hc1 Fwv Fat Fsd hb1 v1 v2 hr1 hr2 (by omega) (fun hne r i r0 r1 i0 i1 => hbl.elim (fun q9 => absurd q9.2 hne) (fun q9 => (q9.2.2.2.2 r i r0 r1 i0 (by have := q9.2.2.2.1; omega)).2))) (cwV 2 hts gL_law_X4_wave rfl rfl rfl (by decide +kernel) ⟨Nat.le_of_ble_eq_true rfl, Nat.le_of_ble_eq_true rfl⟩) (hIa 8 (by omega)) hm1.1 rfl rfl rfl hl.1 rfl (Nat.le_of_ble_eq_true rfl) dL_law_1091 ⟨by show kc + 2 + 0 ≤ 601024; omega, by show ks + 12 + 0 ≤ 7293034; omega⟩) hw (fun z2 c2 H locs hP2 hw => ?_)
  rcases hP with ⟨hOK, rfl, hct⟩ | ⟨(⟨hE, hcc⟩ | ⟨hE, hcc⟩), rfl, hct⟩ | ⟨(⟨hE, hcc⟩ | ⟨hE, hcc⟩), rfl, hct⟩
  · obtain ⟨cd9, hcase, hct2⟩ := hP2
    rcases hcase with ⟨rfl, hKb⟩ | ⟨rfl, hKb, hKr⟩ | ⟨rfl, hKb, hKr, rfl⟩
    · exfalso; omega
    · exfalso; omega
    · have hcd := True.intro
      rw [show Fwv (13 * v1 + v2) = wv (13 * v1 + v2) from hbl.elim (fun q9 => absurd q9.2 hKb) (fun q9 => (q9.2.2.2.2 v1 v2 (by omega) (by omega) (by omega) (by omega)).1.symm)]
      have h8c : c2 8 = zmo ad n (0) (bl) := (congrFun hct2 8).trans (zU_s _ _ _)
      have h25c : c2 25 = zL G 1 (zup Fo 0 (zwp (wv (13 * v1 + v2)))) := (congrFun hct2 25).trans (zU_n (by omega) ((congrFun hct 25).trans (zU_s _ _ _)))
      have hLI2 := zLI_q (ct' := c2) hLI (fun j j1 j2 j3 j4 j5 j6 => (congrFun hct2 j).trans (zU_n (by omega) ((congrFun hct j).trans (zU_n (by omega) (rfl))))) ⟨_, _, _, _, (congrFun hct2 2).trans (zU_n (by omega) ((congrFun hct 2).trans (zU_n (by omega) h2)))⟩ ⟨_, h8c⟩ ⟨Fpl, Fgr, Fab, (congrFun hct2 19).trans (zU_n (by omega) hc1.1), (congrFun hct2 20).trans (zU_n (by omega) hc1.2.1), (congrFun hct2 21).trans (zU_n (by omega) hc1.2.2)⟩ ⟨_, h25c⟩
      refine lv_istore (lv' := [(6, zi (wv (13 * v1 + v2))), (5, zi (0)), (0, .ref b), (1, .ref (ad (0))), (2, .ref (ad (8))), (3, .ref (ad (25))), (4, zi (i))]) hx hb dL_law_1094 hl (by decide) rfl (fun ls hl => ?_)
      refine lv_aload_n hx hb dL_law_1096 rfl (lv_at hl 4 rfl) ?_
      refine z_kI (z_runV (k := 8) (As := []) (rest := []) (fs := [zi (0), zi (n), .ref (ad (9)), .ref (ad (10)), .ref (ad (11)), .ref (ad (12)), .ref (ad (13)), .ref (ad (14)), .ref (ad (15)), .ref (ad (16)), .ref (ad (17)), .ref (ad (18)), .ref (ad (19)), .ref (ad (20)), .ref (ad (21)), .ref (ad (22)), zi (bl), .ref (ad (23)), .ref (ad (24))]) ⟨hx, hb, hml, hown, hts⟩ hK hw (k_thr l hl0 G _ _ _ _ (n) (0) (bl) (hIa 8 (by omega)) h8c) (cwV 0 hts gL_law_X4_thrown rfl rfl rfl (by decide +kernel) ⟨Nat.le_of_ble_eq_true rfl, Nat.le_of_ble_eq_true rfl⟩) (hIa 8 (by omega)) h8c rfl rfl rfl hl.1 rfl (Nat.le_of_ble_eq_true rfl) dL_law_1097 ⟨by show kc + 2 + 0 + 0 ≤ 601024; omega, by show ks + 12 + 0 + 0 ≤ 7293034; omega⟩) hw (fun z9 c3 H locs hP9 hw => ?_)
      obtain ⟨rfl, hc3⟩ := hP9
      rw [hc3] at hw
      refine lv_iload hx hb dL_law_1100 (lv_at hl 1 rfl) ?_
      refine z_icmp_eq (tgt := 1107) hx hb dL_law_1102 (by decide) ⟨by decide, by decide⟩ ⟨by decide, by decide⟩ (fun c_1 => ?_) (fun c_1 => ?_)
      · refine lv_iload hx hb dL_law_1107 (lv_at hl 1 rfl) ?_
        refine z_if_ne (tgt := 1124) hx hb dL_law_1109 (by decide) ⟨by decide, by decide⟩ (fun c_2 => ?_) (fun c_2 => ?_)
        · exact absurd c_2 (by decide)
        · refine lv_aload_n hx hb dL_law_1112 rfl (lv_at hl 5 rfl) ?_
          refine z_ic hx hb dL_law_1113 ?_
          refine z_lald (f := zup Fo 0 (zwp (wv (13 * v1 + v2)))) hx hb hK hw (hIa 25 (by omega)) h25c (by decide) (by decide) (by decide) dL_law_1114 ?_
          rw [show ((zup Fo 0 (zwp (wv (13 * v1 + v2)))) (0) : Int) = zwp (wv (13 * v1 + v2)) from zup_s _ _ _]
          refine lv_iload hx hb dL_law_1115 (lv_at hl 0 rfl) ?_
          refine z_i2lw hx hb dL_law_1117 ?_
          refine z_lcmp_eq (tgt := 1124) hx hb dL_law_1118 dL_law_1119 (by decide) ⟨by have := zwp_r (wv (13 * v1 + v2)); omega, by have := zwp_r (wv (13 * v1 + v2)); omega⟩ ⟨by have := zwp_r (wv (13 * v1 + v2)); omega, by have := zwp_r (wv (13 * v1 + v2)); omega⟩ (fun c_3 => ?_) (fun c_3 => ?_)
          · refine lv_goto (tgt := 1127) hx hb dL_law_1124 (by decide) ?_
            exact kk _ _ _ _ _ _ _ _ _ _ _ _ _ _ _ _ _ _ _ H locs _ _ _ hLI2 hw (by omega) (by omega) (lv_sub hl [2, 3, 4, 5, 6] rfl)
          · exact absurd rfl c_3
      · exact absurd c_1 (by decide)
  · exact absurd hE (by decide)
  · obtain ⟨cd9, hcase, hct2⟩ := hP2
    rcases hcase with ⟨rfl, hKb⟩ | ⟨rfl, hKb, hKr⟩ | ⟨rfl, hKb, hKr, rfl⟩
    · exfalso; omega
    · have hcd := True.intro
      have h8c : c2 8 = zmo ad n (2) (bl) := (congrFun hct2 8).trans (zU_s _ _ _)
      have h25c : c2 25 = zL G 1 (Fo) := (congrFun hct2 25).trans (zU_n (by omega) ((congrFun hct 25).trans (h25)))
      have hLI2 := zLI_q (ct' := c2) hLI (fun j j1 j2 j3 j4 j5 j6 => (congrFun hct2 j).trans (zU_n (by omega) ((congrFun hct j).trans (rfl)))) ⟨_, _, _, _, (congrFun hct2 2).trans (zU_n (by omega) ((congrFun hct 2).trans (h2)))⟩ ⟨_, h8c⟩ ⟨Fpl, Fgr, Fab, (congrFun hct2 19).trans (zU_n (by omega) hc1.1), (congrFun hct2 20).trans (zU_n (by omega) hc1.2.1), (congrFun hct2 21).trans (zU_n (by omega) hc1.2.2)⟩ ⟨_, h25c⟩
      refine lv_istore (lv' := [(6, zi (z2)), (5, zi (2)), (0, .ref b), (1, .ref (ad (0))), (2, .ref (ad (8))), (3, .ref (ad (25))), (4, zi (i))]) hx hb dL_law_1094 hl (by decide) rfl (fun ls hl => ?_)
      refine lv_aload_n hx hb dL_law_1096 rfl (lv_at hl 4 rfl) ?_
      refine z_kI (z_runV (k := 8) (As := []) (rest := []) (fs := [zi (2), zi (n), .ref (ad (9)), .ref (ad (10)), .ref (ad (11)), .ref (ad (12)), .ref (ad (13)), .ref (ad (14)), .ref (ad (15)), .ref (ad (16)), .ref (ad (17)), .ref (ad (18)), .ref (ad (19)), .ref (ad (20)), .ref (ad (21)), .ref (ad (22)), zi (bl), .ref (ad (23)), .ref (ad (24))]) ⟨hx, hb, hml, hown, hts⟩ hK hw (k_thr l hl0 G _ _ _ _ (n) (2) (bl) (hIa 8 (by omega)) h8c) (cwV 0 hts gL_law_X4_thrown rfl rfl rfl (by decide +kernel) ⟨Nat.le_of_ble_eq_true rfl, Nat.le_of_ble_eq_true rfl⟩) (hIa 8 (by omega)) h8c rfl rfl rfl hl.1 rfl (Nat.le_of_ble_eq_true rfl) dL_law_1097 ⟨by show kc + 2 + 0 + 0 ≤ 601024; omega, by show ks + 12 + 0 + 0 ≤ 7293034; omega⟩) hw (fun z9 c3 H locs hP9 hw => ?_)
      obtain ⟨rfl, hc3⟩ := hP9
      rw [hc3] at hw
      refine lv_iload hx hb dL_law_1100 (lv_at hl 1 rfl) ?_
      refine z_icmp_eq (tgt := 1107) hx hb dL_law_1102 (by decide) ⟨by decide, by decide⟩ ⟨by decide, by decide⟩ (fun c_4 => ?_) (fun c_4 => ?_)
      · refine lv_iload hx hb dL_law_1107 (lv_at hl 1 rfl) ?_
        refine z_if_ne (tgt := 1124) hx hb dL_law_1109 (by decide) ⟨by decide, by decide⟩ (fun c_5 => ?_) (fun c_5 => ?_)
        · refine lv_goto (tgt := 1127) hx hb dL_law_1124 (by decide) ?_
          exact kk _ _ _ _ _ _ _ _ _ _ _ _ _ _ _ _ _ _ _ H locs _ _ _ hLI2 hw (by omega) (by omega) (lv_sub hl [2, 3, 4, 5, 6] rfl)
        · exact absurd c_5 (by decide)
      · exact absurd c_4 (by decide)
    · exfalso; omega
  · obtain ⟨cd9, hcase, hct2⟩ := hP2
    rcases hcase with ⟨rfl, hKb⟩ | ⟨rfl, hKb, hKr⟩ | ⟨rfl, hKb, hKr, rfl⟩
    · have hcd := True.intro
      have h8c : c2 8 = zmo ad n (1) (bl) := (congrFun hct2 8).trans (zU_s _ _ _)
      have h25c : c2 25 = zL G 1 (Fo) := (congrFun hct2 25).trans (zU_n (by omega) ((congrFun hct 25).trans (h25)))
      have hLI2 := zLI_q (ct' := c2) hLI (fun j j1 j2 j3 j4 j5 j6 => (congrFun hct2 j).trans (zU_n (by omega) ((congrFun hct j).trans (rfl)))) ⟨_, _, _, _, (congrFun hct2 2).trans (zU_n (by omega) ((congrFun hct 2).trans (h2)))⟩ ⟨_, h8c⟩ ⟨Fpl, Fgr, Fab, (congrFun hct2 19).trans (zU_n (by omega) hc1.1), (congrFun hct2 20).trans (zU_n (by omega) hc1.2.1), (congrFun hct2 21).trans (zU_n (by omega) hc1.2.2)⟩ ⟨_, h25c⟩
      refine lv_istore (lv' := [(6, zi (z2)), (5, zi (1)), (0, .ref b), (1, .ref (ad (0))), (2, .ref (ad (8))), (3, .ref (ad (25))), (4, zi (i))]) hx hb dL_law_1094 hl (by decide) rfl (fun ls hl => ?_)
      refine lv_aload_n hx hb dL_law_1096 rfl (lv_at hl 4 rfl) ?_
      refine z_kI (z_runV (k := 8) (As := []) (rest := []) (fs := [zi (1), zi (n), .ref (ad (9)), .ref (ad (10)), .ref (ad (11)), .ref (ad (12)), .ref (ad (13)), .ref (ad (14)), .ref (ad (15)), .ref (ad (16)), .ref (ad (17)), .ref (ad (18)), .ref (ad (19)), .ref (ad (20)), .ref (ad (21)), .ref (ad (22)), zi (bl), .ref (ad (23)), .ref (ad (24))]) ⟨hx, hb, hml, hown, hts⟩ hK hw (k_thr l hl0 G _ _ _ _ (n) (1) (bl) (hIa 8 (by omega)) h8c) (cwV 0 hts gL_law_X4_thrown rfl rfl rfl (by decide +kernel) ⟨Nat.le_of_ble_eq_true rfl, Nat.le_of_ble_eq_true rfl⟩) (hIa 8 (by omega)) h8c rfl rfl rfl hl.1 rfl (Nat.le_of_ble_eq_true rfl) dL_law_1097 ⟨by show kc + 2 + 0 + 0 ≤ 601024; omega, by show ks + 12 + 0 + 0 ≤ 7293034; omega⟩) hw (fun z9 c3 H locs hP9 hw => ?_)
      obtain ⟨rfl, hc3⟩ := hP9
      rw [hc3] at hw
      refine lv_iload hx hb dL_law_1100 (lv_at hl 1 rfl) ?_
      refine z_icmp_eq (tgt := 1107) hx hb dL_law_1102 (by decide) ⟨by decide, by decide⟩ ⟨by decide, by decide⟩ (fun c_6 => ?_) (fun c_6 => ?_)
      · refine lv_iload hx hb dL_law_1107 (lv_at hl 1 rfl) ?_
        refine z_if_ne (tgt := 1124) hx hb dL_law_1109 (by decide) ⟨by decide, by decide⟩ (fun c_7 => ?_) (fun c_7 => ?_)
        · refine lv_goto (tgt := 1127) hx hb dL_law_1124 (by decide) ?_
          exact kk _ _ _ _ _ _ _ _ _ _ _ _ _ _ _ _ _ _ _ H locs _ _ _ hLI2 hw (by omega) (by omega) (lv_sub hl [2, 3, 4, 5, 6] rfl)
        · exact absurd c_7 (by decide)
      · exact absurd c_6 (by decide)
    · exfalso; omega
    · exfalso; omega
  · exact absurd hE (by decide)

set_option maxHeartbeats 4000000 in
set_option maxRecDepth 100000 in
theorem law_sinks {p : Program} {e : Env} {s : State} {m : MethodId} {below : List Frame} {meth : Method} {c : Code} {l : Launch} (hl0 : l.stackTraces = false) {b L : Nat} {xs : Nat → Int32} (hL : L ≤ 2560) (C0 : lw_At p s m meth c b L xs) {G : zG} (hK : zK G (fun q : Nat => s.heap.size ≤ q) s s.heap) {i : Int} (hi0 : 0 ≤ i) (hi5 : i + 5 ≤ L) {kc ks : Nat} (hkc : kc + 50 ≤ 601024) (hks : ks + 500 ≤ 7293034) {I : List Nat} {ad : Nat → Nat} {ct : Nat → va_E} {n : Nat} {σ : Nat → zPl} {b0 bl : Int} {wv Fwv Fmn Fsp Fms Fco Fst Fmo Fsk Fts Ftm Fjn : Int → Int} (hLI : zLI G I ad ct n σ b0 bl wv Fwv Fmn Fsp Fms Fco Fst Fmo Fsk Fts Ftm Fjn) {H : Heap} {locs : List Loc} (hw : zW G (fun q : Nat => s.heap.size ≤ q) s.heap H locs I ad ct) {ls : Array Slot} (hl : lv_has ls 7 [(0, .ref b), (1, .ref (ad 0)), (2, .ref (ad 8)), (3, .ref (ad 25)), (4, zi i)]) (kk : zBk p l e s m b below meth c G i kc ks) : W p l e room_1 s m #[Value.ref b] below meth c H locs kc ks (lw_Z below #[Value.ref b] s) (F0 m 272 ls []) := by
  obtain ⟨hx, hb, hr, hml, hown0, hts0, hX, hbs, hlk, hgv⟩ := id C0
  have hown : s.vm.findClass RL = some m.cls := hown0
  have hts : ∀ w ∈ wsL_law, w.before #[Value.ref b] s = true := fun w h => hts0 w (wsL_law_in w h)
  have hbA : ¬ (fun q : Nat => s.heap.size ≤ q) b := Nat.not_le.mpr hbs
  obtain ⟨hn6, hIa, hIb, hmm, hgs, hRel, hz0, hz9, hbl, h0, h1, hps, ⟨w, p0, f0, a0, h2⟩, ⟨b1, f, g, h, h3, h4, h5, h6, h7⟩, ⟨cd, hms⟩, ⟨Fpl, Fgr, Fab, hmc⟩, ⟨Fat, Fsd, hmb⟩, ⟨Fo, h25⟩⟩ := id hLI
  have hM : ∀ j : Nat, 8 ≤ j → j ≤ 24 → j ∈ I := fun j _ h => hIa j (by omega)
  obtain ⟨v1, e1⟩ : ∃ v : Int, zAx xs (i + 1) = v := ⟨_, rfl⟩
  have hr1 : zr v1 := by rw [← e1]; exact zAx_r _ _
  obtain ⟨v2, e2⟩ : ∃ v : Int, zAx xs (i + 2) = v := ⟨_, rfl⟩
  have hr2 : zr v2 := by rw [← e2]; exact zAx_r _ _
  obtain ⟨v3, e3⟩ : ∃ v : Int, zAx xs (i + 3) = v := ⟨_, rfl⟩
  have hr3 : zr v3 := by rw [← e3]; exact zAx_r _ _
  obtain ⟨v4, e4⟩ : ∃ v : Int, zAx xs (i + 4) = v := ⟨_, rfl⟩
  have hr4 : zr v4 := by rw [← e4]; exact zAx_r _ _
  refine lv_aload_n hx hb dL_law_272 rfl (lv_at hl 1 rfl) ?_
  refine lv_aload_n hx hb dL_law_273 rfl (lv_at hl 0 rfl) ?_
  refine lv_iload hx hb dL_law_274 (lv_at hl 4 rfl) ?_
  refine z_ic hx hb dL_law_276 ?_
  refine z_iadd hx hb dL_law_277 ?_
  refine z_sld hx hb hX hbs hbA hw (by omega) (by omega) hL dL_law_278 ?_
  rw [e1]
  refine lv_aload_n hx hb dL_law_279 rfl (lv_at hl 0 rfl) ?_
  refine lv_iload hx hb dL_law_280 (lv_at hl 4 rfl) ?_
  refine z_ic hx hb dL_law_282 ?_
  refine z_iadd hx hb dL_law_283 ?_
  refine z_sld hx hb hX hbs hbA hw (by omega) (by omega) hL dL_law_284 ?_
  rw [e2]
  refine lv_aload_n hx hb dL_law_285 rfl (lv_at hl 0 rfl) ?_
  refine lv_iload hx hb dL_law_286 (lv_at hl 4 rfl) ?_
  refine z_ic hx hb dL_law_288 ?_
  refine z_iadd hx hb dL_law_289 ?_
  refine z_sld hx hb hX hbs hbA hw (by omega) (by omega) hL dL_law_290 ?_
  rw [e3]
  refine lv_aload_n hx hb dL_law_291 rfl (lv_at hl 3 rfl) ?_
  refine z_kI (z_runSW (As := [.ref (ad (0)), zi (v1), zi (v2), zi (v3), .ref (ad (25))]) (rest := []) ⟨hx, hb, hml, hown, hts⟩ hK hw (l_sinks l hl0 G I ad _ _ n hn6 (hIa 0 (by decide)) (hIa 1 (by decide)) h0 h1 σ hgs hmm hps v1 v2 v3 hr1 hr2 hr3 Fo (hIa 25 (by decide)) h25) (vx_cwSW 5 hts gL_law_L_sinks rfl rfl rfl (by decide +kernel) ⟨Nat.le_of_ble_eq_true rfl, Nat.le_of_ble_eq_true rfl⟩) rfl hl.1 rfl (Nat.le_of_ble_eq_true rfl) dL_law_292 ⟨by show kc + 3 ≤ 601024; omega, by show ks + 18 ≤ 7293034; omega⟩) hw (fun k1 c1 H locs hP hw => ?_)
  have hg1 : ∀ j : Nat, 8 ≤ j → j ≤ 24 → c1 j = ct j := by
    rcases hP with ⟨hOK, rfl, hct⟩ | ⟨⟨-, hcc⟩, rfl, hct⟩
    · exact fun j ja jb => (congrFun hct j).trans (zU_n (by omega) (zU_n (by omega) (rfl)))
    · exact fun j _ _ => congrFun hct j
  have hm1 : zMst G ad c1 n cd bl Fmn Fsp Fms Fco Fst Fmo Fsk Fts Ftm Fjn := zMst_c hms ((hg1 8 (by omega) (by omega)).trans hms.1) (fun j ja jb => hg1 j (by omega) (by omega))
  have hc1 : zMsc G c1 Fpl Fgr Fab := ⟨(hg1 19 (by omega) (by omega)).trans hmc.1, (hg1 20 (by omega) (by omega)).trans hmc.2.1, (hg1 21 (by omega) (by omega)).trans hmc.2.2⟩
  refine lv_istore (lv' := [(5, zi (k1)), (0, .ref b), (1, .ref (ad (0))), (2, .ref (ad (8))), (3, .ref (ad (25))), (4, zi (i))]) hx hb dL_law_295 hl (by decide) rfl (fun ls hl => ?_)
  refine lv_aload_n hx hb dL_law_297 rfl (lv_at hl 3 rfl) ?_
  refine lv_aload_n hx hb dL_law_298 rfl (lv_at hl 1 rfl) ?_
  refine lv_iload hx hb dL_law_299 (lv_at hl 5 rfl) ?_
  refine z_ic hx hb dL_law_301 ?_
  refine z_iadd hx hb dL_law_302 ?_
  refine z_sld hx hb hX hbs hbA hw (by omega) (by omega) hL dL_law_303 ?_
  rw [e1]
  refine lv_aload_n hx hb dL_law_304 rfl (lv_at hl 1 rfl) ?_
  refine lv_iload hx hb dL_law_305 (lv_at hl 5 rfl) ?_
  refine z_ic hx hb dL_law_307 ?_
  refine z_iadd hx hb dL_law_308 ?_
  refine z_sld hx hb hX hbs hbA hw (by omega) (by omega) hL dL_law_309 ?_
  rw [e2]
  refine lv_aload_n hx hb dL_law_310 rfl (lv_at hl 1 rfl) ?_
  refine lv_iload hx hb dL_law_311 (lv_at hl 5 rfl) ?_
  refine z_ic hx hb dL_law_313 ?_
  refine z_iadd hx hb dL_law_314 ?_
  refine z_sld hx hb hX hbs hbA hw (by omega) (by omega) hL dL_law_315 ?_
  rw [e3]
  refine z_kI (z_runV (k := 8) (As := [zi (v1), zi (v2), zi (v3)]) (rest := []) (fs := [zi (cd), zi (n), .ref (ad (9)), .ref (ad (10)), .ref (ad (11)), .ref (ad (12)), .ref (ad (13)), .ref (ad (14)), .ref (ad (15)), .ref (ad (16)), .ref (ad (17)), .ref (ad (18)), .ref (ad (19)), .ref (ad (20)), .ref (ad (21)), .ref (ad (22)), zi (bl), .ref (ad (23)), .ref (ad (24))]) ⟨hx, hb, hml, hown, hts⟩ hK hw (m_sinks l hl0 G I ad _ _ n hn6 σ hgs cd bl Fmn Fsp Fms Fco Fst Fmo Fsk Fts Ftm Fjn Fpl Fgr Fab hRel hM hm1 hc1 v1 v2 v3 hr1 hr2 hr3) (cwV 3 hts gL_law_X4_sinks rfl rfl rfl (by decide +kernel) ⟨Nat.le_of_ble_eq_true rfl, Nat.le_of_ble_eq_true rfl⟩) (hIa 8 (by omega)) hm1.1 rfl rfl rfl hl.1 rfl (Nat.le_of_ble_eq_true rfl) dL_law_316 ⟨by show kc + 3 + 0 ≤ 601024; omega, by show ks + 18 + 0 ≤ 7293034; omega⟩) hw (fun z2 c2 H locs hP2 hw => ?_)
  rcases hP with ⟨hOK, rfl, hct⟩ | ⟨⟨-, hcc⟩, rfl, hct⟩
  · have hP2 := hP2
    rcases hP2 with ⟨hKK, rfl, hct2⟩ | ⟨hKK, hct2⟩
    · have hcd := True.intro
      have h8c : c2 8 = zmo ad n (0) (bl) := (congrFun hct2 8).trans (zU_n (by omega) (zU_s _ _ _))
      have h25c : c2 25 = zL G 1 (zup Fo 0 (zwp (psk (σ (v1).toNat) v2))) := (congrFun hct2 25).trans (zU_n (by omega) (zU_n (by omega) ((congrFun hct 25).trans (zU_s _ _ _))))
      obtain ⟨-, m9, m10, m11, m12, m13, m14, m15, m16, m17, m18⟩ := id hm1
      have hM2 : zMst G ad c2 n 0 bl (Fmn) (Fsp) (Fms) (Fco) (Fst) (Fmo) (zup Fsk (12 * v1 + v2) v3) (Fts) (Ftm) (Fjn) := ⟨h8c, (congrFun hct2 9).trans (zU_n (by omega) (zU_n (by omega) (m9))), (congrFun hct2 10).trans (zU_n (by omega) (zU_n (by omega) (m10))), (congrFun hct2 11).trans (zU_n (by omega) (zU_n (by omega) (m11))), (congrFun hct2 12).trans (zU_n (by omega) (zU_n (by omega) (m12))), (congrFun hct2 13).trans (zU_n (by omega) (zU_n (by omega) (m13))), (congrFun hct2 14).trans (zU_n (by omega) (zU_n (by omega) (m14))), (congrFun hct2 15).trans (zU_s _ _ _), (congrFun hct2 16).trans (zU_n (by omega) (zU_n (by omega) (m16))), (congrFun hct2 17).trans (zU_n (by omega) (zU_n (by omega) (m17))), (congrFun hct2 18).trans (zU_n (by omega) (zU_n (by omega) (m18)))⟩
      have hLI2 := zLI_sinks (ct' := c2) (k := (v1).toNat) hLI (by omega) (by omega) ⟨by omega, by omega⟩ ⟨by omega, by omega⟩ hM2 ((congrFun hct2 _).trans (zU_n (by omega) (zU_n (by omega) ((congrFun hct _).trans (zU_n (by omega) (zU_s _ _ _)))))) (fun j hj => (congrFun hct2 j).trans (zU_n (by omega) (zU_n (by omega) ((congrFun hct j).trans (zU_n (by omega) (zU_n (by omega) (rfl))))))) ⟨_, h25c⟩
      refine lv_istore (lv' := [(6, zi (psk (σ (v1).toNat) v2)), (5, zi (0)), (0, .ref b), (1, .ref (ad (0))), (2, .ref (ad (8))), (3, .ref (ad (25))), (4, zi (i))]) hx hb dL_law_319 hl (by decide) rfl (fun ls hl => ?_)
      refine lv_aload_n hx hb dL_law_321 rfl (lv_at hl 4 rfl) ?_
      refine z_kI (z_runV (k := 8) (As := []) (rest := []) (fs := [zi (0), zi (n), .ref (ad (9)), .ref (ad (10)), .ref (ad (11)), .ref (ad (12)), .ref (ad (13)), .ref (ad (14)), .ref (ad (15)), .ref (ad (16)), .ref (ad (17)), .ref (ad (18)), .ref (ad (19)), .ref (ad (20)), .ref (ad (21)), .ref (ad (22)), zi (bl), .ref (ad (23)), .ref (ad (24))]) ⟨hx, hb, hml, hown, hts⟩ hK hw (k_thr l hl0 G _ _ _ _ (n) (0) (bl) (hIa 8 (by omega)) h8c) (cwV 0 hts gL_law_X4_thrown rfl rfl rfl (by decide +kernel) ⟨Nat.le_of_ble_eq_true rfl, Nat.le_of_ble_eq_true rfl⟩) (hIa 8 (by omega)) h8c rfl rfl rfl hl.1 rfl (Nat.le_of_ble_eq_true rfl) dL_law_322 ⟨by show kc + 3 + 0 + 0 ≤ 601024; omega, by show ks + 18 + 0 + 0 ≤ 7293034; omega⟩) hw (fun z9 c3 H locs hP9 hw => ?_)
      obtain ⟨rfl, hc3⟩ := hP9
      rw [hc3] at hw
      refine lv_iload hx hb dL_law_325 (lv_at hl 1 rfl) ?_
      refine z_icmp_eq (tgt := 332) hx hb dL_law_327 (by decide) ⟨by decide, by decide⟩ ⟨by decide, by decide⟩ (fun c_1 => ?_) (fun c_1 => ?_)
      · refine lv_iload hx hb dL_law_332 (lv_at hl 1 rfl) ?_
        refine z_if_ne (tgt := 349) hx hb dL_law_334 (by decide) ⟨by decide, by decide⟩ (fun c_2 => ?_) (fun c_2 => ?_)
        · exact absurd c_2 (by decide)
        · refine lv_aload_n hx hb dL_law_337 rfl (lv_at hl 5 rfl) ?_
          refine z_ic hx hb dL_law_338 ?_
          refine z_lald (f := zup Fo 0 (zwp (psk (σ (v1).toNat) v2))) hx hb hK hw (hIa 25 (by omega)) h25c (by decide) (by decide) (by decide) dL_law_339 ?_
          rw [show ((zup Fo 0 (zwp (psk (σ (v1).toNat) v2))) (0) : Int) = zwp (psk (σ (v1).toNat) v2) from zup_s _ _ _]
          refine lv_iload hx hb dL_law_340 (lv_at hl 0 rfl) ?_
          refine z_i2lw hx hb dL_law_342 ?_
          refine z_lcmp_eq (tgt := 349) hx hb dL_law_343 dL_law_344 (by decide) ⟨by have := zwp_r (psk (σ (v1).toNat) v2); omega, by have := zwp_r (psk (σ (v1).toNat) v2); omega⟩ ⟨by have := zwp_r (psk (σ (v1).toNat) v2); omega, by have := zwp_r (psk (σ (v1).toNat) v2); omega⟩ (fun c_3 => ?_) (fun c_3 => ?_)
          · refine lv_goto (tgt := 1127) hx hb dL_law_349 (by decide) ?_
            exact kk _ _ _ _ _ _ _ _ _ _ _ _ _ _ _ _ _ _ _ H locs _ _ _ hLI2 hw (by omega) (by omega) (lv_sub hl [2, 3, 4, 5, 6] rfl)
          · exact absurd rfl c_3
      · exact absurd c_1 (by decide)
    · exfalso; omega
  · have hP2 := hP2
    rcases hP2 with ⟨hKK, rfl, hct2⟩ | ⟨hKK, hct2⟩
    · exfalso; omega
    · have hcd := True.intro
      have h8c : c2 8 = zmo ad n (1) (bl) := (congrFun hct2 8).trans (zU_s _ _ _)
      have h25c : c2 25 = zL G 1 (Fo) := (congrFun hct2 25).trans (zU_n (by omega) ((congrFun hct 25).trans (h25)))
      have hLI2 := zLI_q (ct' := c2) hLI (fun j j1 j2 j3 j4 j5 j6 => (congrFun hct2 j).trans (zU_n (by omega) ((congrFun hct j).trans (rfl)))) ⟨_, _, _, _, (congrFun hct2 2).trans (zU_n (by omega) ((congrFun hct 2).trans (h2)))⟩ ⟨_, h8c⟩ ⟨Fpl, Fgr, Fab, (congrFun hct2 19).trans (zU_n (by omega) hc1.1), (congrFun hct2 20).trans (zU_n (by omega) hc1.2.1), (congrFun hct2 21).trans (zU_n (by omega) hc1.2.2)⟩ ⟨_, h25c⟩
      refine lv_istore (lv' := [(6, zi (z2)), (5, zi (1)), (0, .ref b), (1, .ref (ad (0))), (2, .ref (ad (8))), (3, .ref (ad (25))), (4, zi (i))]) hx hb dL_law_319 hl (by decide) rfl (fun ls hl => ?_)
      refine lv_aload_n hx hb dL_law_321 rfl (lv_at hl 4 rfl) ?_
      refine z_kI (z_runV (k := 8) (As := []) (rest := []) (fs := [zi (1), zi (n), .ref (ad (9)), .ref (ad (10)), .ref (ad (11)), .ref (ad (12)), .ref (ad (13)), .ref (ad (14)), .ref (ad (15)), .ref (ad (16)), .ref (ad (17)), .ref (ad (18)), .ref (ad (19)), .ref (ad (20)), .ref (ad (21)), .ref (ad (22)), zi (bl), .ref (ad (23)), .ref (ad (24))]) ⟨hx, hb, hml, hown, hts⟩ hK hw (k_thr l hl0 G _ _ _ _ (n) (1) (bl) (hIa 8 (by omega)) h8c) (cwV 0 hts gL_law_X4_thrown rfl rfl rfl (by decide +kernel) ⟨Nat.le_of_ble_eq_true rfl, Nat.le_of_ble_eq_true rfl⟩) (hIa 8 (by omega)) h8c rfl rfl rfl hl.1 rfl (Nat.le_of_ble_eq_true rfl) dL_law_322 ⟨by show kc + 3 + 0 + 0 ≤ 601024; omega, by show ks + 18 + 0 + 0 ≤ 7293034; omega⟩) hw (fun z9 c3 H locs hP9 hw => ?_)
      obtain ⟨rfl, hc3⟩ := hP9
      rw [hc3] at hw
      refine lv_iload hx hb dL_law_325 (lv_at hl 1 rfl) ?_
      refine z_icmp_eq (tgt := 332) hx hb dL_law_327 (by decide) ⟨by decide, by decide⟩ ⟨by decide, by decide⟩ (fun c_4 => ?_) (fun c_4 => ?_)
      · refine lv_iload hx hb dL_law_332 (lv_at hl 1 rfl) ?_
        refine z_if_ne (tgt := 349) hx hb dL_law_334 (by decide) ⟨by decide, by decide⟩ (fun c_5 => ?_) (fun c_5 => ?_)
        · refine lv_goto (tgt := 1127) hx hb dL_law_349 (by decide) ?_
          exact kk _ _ _ _ _ _ _ _ _ _ _ _ _ _ _ _ _ _ _ H locs _ _ _ hLI2 hw (by omega) (by omega) (lv_sub hl [2, 3, 4, 5, 6] rfl)
        · exact absurd c_5 (by decide)
      · exact absurd c_4 (by decide)

set_option maxHeartbeats 4000000 in
set_option maxRecDepth 100000 in
theorem law_ground {p : Program} {e : Env} {s : State} {m : MethodId} {below : List Frame} {meth : Method} {c : Code} {l : Launch} (hl0 : l.stackTraces = false) {b L : Nat} {xs : Nat → Int32} (hL : L ≤ 2560) (C0 : lw_At p s m meth c b L xs) {G : zG} (hK : zK G (fun q : Nat => s.heap.size ≤ q) s s.heap) {i : Int} (hi0 : 0 ≤ i) (hi5 : i + 5 ≤ L) {kc ks : Nat} (hkc : kc + 50 ≤ 601024) (hks : ks + 500 ≤ 7293034) {I : List Nat} {ad : Nat → Nat} {ct : Nat → va_E} {n : Nat} {σ : Nat → zPl} {b0 bl : Int} {wv Fwv Fmn Fsp Fms Fco Fst Fmo Fsk Fts Ftm Fjn : Int → Int} (hLI : zLI G I ad ct n σ b0 bl wv Fwv Fmn Fsp Fms Fco Fst Fmo Fsk Fts Ftm Fjn) {H : Heap} {locs : List Loc} (hw : zW G (fun q : Nat => s.heap.size ≤ q) s.heap H locs I ad ct) {ls : Array Slot} (hl : lv_has ls 7 [(0, .ref b), (1, .ref (ad 0)), (2, .ref (ad 8)), (3, .ref (ad 25)), (4, zi i)]) (kk : zBk p l e s m b below meth c G i kc ks) : W p l e room_1 s m #[Value.ref b] below meth c H locs kc ks (lw_Z below #[Value.ref b] s) (F0 m 200 ls []) := by
  obtain ⟨hx, hb, hr, hml, hown0, hts0, hX, hbs, hlk, hgv⟩ := id C0
  have hown : s.vm.findClass RL = some m.cls := hown0
  have hts : ∀ w ∈ wsL_law, w.before #[Value.ref b] s = true := fun w h => hts0 w (wsL_law_in w h)
  have hbA : ¬ (fun q : Nat => s.heap.size ≤ q) b := Nat.not_le.mpr hbs
  obtain ⟨hn6, hIa, hIb, hmm, hgs, hRel, hz0, hz9, hbl, h0, h1, hps, ⟨w, p0, f0, a0, h2⟩, ⟨b1, f, g, h, h3, h4, h5, h6, h7⟩, ⟨cd, hms⟩, ⟨Fpl, Fgr, Fab, hmc⟩, ⟨Fat, Fsd, hmb⟩, ⟨Fo, h25⟩⟩ := id hLI
  have hM : ∀ j : Nat, 8 ≤ j → j ≤ 24 → j ∈ I := fun j _ h => hIa j (by omega)
  obtain ⟨v1, e1⟩ : ∃ v : Int, zAx xs (i + 1) = v := ⟨_, rfl⟩
  have hr1 : zr v1 := by rw [← e1]; exact zAx_r _ _
  obtain ⟨v2, e2⟩ : ∃ v : Int, zAx xs (i + 2) = v := ⟨_, rfl⟩
  have hr2 : zr v2 := by rw [← e2]; exact zAx_r _ _
  obtain ⟨v3, e3⟩ : ∃ v : Int, zAx xs (i + 3) = v := ⟨_, rfl⟩
  have hr3 : zr v3 := by rw [← e3]; exact zAx_r _ _
  obtain ⟨v4, e4⟩ : ∃ v : Int, zAx xs (i + 4) = v := ⟨_, rfl⟩
  have hr4 : zr v4 := by rw [← e4]; exact zAx_r _ _
  refine lv_aload_n hx hb dL_law_200 rfl (lv_at hl 1 rfl) ?_
  refine lv_aload_n hx hb dL_law_201 rfl (lv_at hl 0 rfl) ?_
  refine lv_iload hx hb dL_law_202 (lv_at hl 4 rfl) ?_
  refine z_ic hx hb dL_law_204 ?_
  refine z_iadd hx hb dL_law_205 ?_
  refine z_sld hx hb hX hbs hbA hw (by omega) (by omega) hL dL_law_206 ?_
  rw [e1]
  refine lv_aload_n hx hb dL_law_207 rfl (lv_at hl 0 rfl) ?_
  refine lv_iload hx hb dL_law_208 (lv_at hl 4 rfl) ?_
  refine z_ic hx hb dL_law_210 ?_
  refine z_iadd hx hb dL_law_211 ?_
  refine z_sld hx hb hX hbs hbA hw (by omega) (by omega) hL dL_law_212 ?_
  rw [e2]
  refine lv_aload_n hx hb dL_law_213 rfl (lv_at hl 0 rfl) ?_
  refine lv_iload hx hb dL_law_214 (lv_at hl 4 rfl) ?_
  refine z_ic hx hb dL_law_216 ?_
  refine z_iadd hx hb dL_law_217 ?_
  refine z_sld hx hb hX hbs hbA hw (by omega) (by omega) hL dL_law_218 ?_
  rw [e3]
  refine lv_aload_n hx hb dL_law_219 rfl (lv_at hl 0 rfl) ?_
  refine lv_iload hx hb dL_law_220 (lv_at hl 4 rfl) ?_
  refine z_ic hx hb dL_law_222 ?_
  refine z_iadd hx hb dL_law_223 ?_
  refine z_sld hx hb hX hbs hbA hw (by omega) (by omega) hL dL_law_224 ?_
  rw [e4]
  refine z_kI (z_runSW (As := [.ref (ad (0)), zi (v1), zi (v2), zi (v3), zi (v4)]) (rest := []) ⟨hx, hb, hml, hown, hts⟩ hK hw (l_ground l hl0 G I ad _ _ n hn6 (hIa 0 (by decide)) (hIa 1 (by decide)) h0 h1 σ hgs hmm hps v1 v2 v3 v4 hr1 hr2 hr3 hr4) (vx_cwSW 5 hts gL_law_L_ground rfl rfl rfl (by decide +kernel) ⟨Nat.le_of_ble_eq_true rfl, Nat.le_of_ble_eq_true rfl⟩) rfl hl.1 rfl (Nat.le_of_ble_eq_true rfl) dL_law_225 ⟨by show kc + 4 ≤ 601024; omega, by show ks + 24 ≤ 7293034; omega⟩) hw (fun k1 c1 H locs hP hw => ?_)
  have hg1 : ∀ j : Nat, 8 ≤ j → j ≤ 24 → c1 j = ct j := by
    rcases hP with ⟨hOK, rfl, hct⟩ | ⟨⟨-, hcc⟩, rfl, hct⟩
    · exact fun j ja jb => (congrFun hct j).trans (zU_n (by omega) (zU_n (by omega) (rfl)))
    · exact fun j _ _ => congrFun hct j
  have hm1 : zMst G ad c1 n cd bl Fmn Fsp Fms Fco Fst Fmo Fsk Fts Ftm Fjn := zMst_c hms ((hg1 8 (by omega) (by omega)).trans hms.1) (fun j ja jb => hg1 j (by omega) (by omega))
  have hc1 : zMsc G c1 Fpl Fgr Fab := ⟨(hg1 19 (by omega) (by omega)).trans hmc.1, (hg1 20 (by omega) (by omega)).trans hmc.2.1, (hg1 21 (by omega) (by omega)).trans hmc.2.2⟩
  refine lv_istore (lv' := [(5, zi (k1)), (0, .ref b), (1, .ref (ad (0))), (2, .ref (ad (8))), (3, .ref (ad (25))), (4, zi (i))]) hx hb dL_law_228 hl (by decide) rfl (fun ls hl => ?_)
  refine lv_aload_n hx hb dL_law_230 rfl (lv_at hl 3 rfl) ?_
  refine lv_aload_n hx hb dL_law_231 rfl (lv_at hl 1 rfl) ?_
  refine lv_iload hx hb dL_law_232 (lv_at hl 5 rfl) ?_
  refine z_ic hx hb dL_law_234 ?_
  refine z_iadd hx hb dL_law_235 ?_
  refine z_sld hx hb hX hbs hbA hw (by omega) (by omega) hL dL_law_236 ?_
  rw [e1]
  refine lv_aload_n hx hb dL_law_237 rfl (lv_at hl 1 rfl) ?_
  refine lv_iload hx hb dL_law_238 (lv_at hl 5 rfl) ?_
  refine z_ic hx hb dL_law_240 ?_
  refine z_iadd hx hb dL_law_241 ?_
  refine z_sld hx hb hX hbs hbA hw (by omega) (by omega) hL dL_law_242 ?_
  rw [e2]
  refine lv_aload_n hx hb dL_law_243 rfl (lv_at hl 1 rfl) ?_
  refine lv_iload hx hb dL_law_244 (lv_at hl 5 rfl) ?_
  refine z_ic hx hb dL_law_246 ?_
  refine z_iadd hx hb dL_law_247 ?_
  refine z_sld hx hb hX hbs hbA hw (by omega) (by omega) hL dL_law_248 ?_
  rw [e3]
  refine lv_aload_n hx hb dL_law_249 rfl (lv_at hl 1 rfl) ?_
  refine lv_iload hx hb dL_law_250 (lv_at hl 5 rfl) ?_
  refine z_ic hx hb dL_law_252 ?_
  refine z_iadd hx hb dL_law_253 ?_
  refine z_sld hx hb hX hbs hbA hw (by omega) (by omega) hL dL_law_254 ?_
  rw [e4]
  refine z_kV (z_runV (k := 8) (As := [zi (v1), zi (v2), zi (v3), zi (v4)]) (rest := []) (fs := [zi (cd), zi (n), .ref (ad (9)), .ref (ad (10)), .ref (ad (11)), .ref (ad (12)), .ref (ad (13)), .ref (ad (14)), .ref (ad (15)), .ref (ad (16)), .ref (ad (17)), .ref (ad (18)), .ref (ad (19)), .ref (ad (20)), .ref (ad (21)), .ref (ad (22)), zi (bl), .ref (ad (23)), .ref (ad (24))]) ⟨hx, hb, hml, hown, hts⟩ hK hw (m_ground l hl0 G I ad _ _ n hn6 σ hgs cd bl Fmn Fsp Fms Fco Fst Fmo Fsk Fts Ftm Fjn Fpl Fgr Fab hRel hM hm1 hc1 v1 v2 v3 v4 hr1 hr2 hr3 hr4) (cwV 4 hts gL_law_X4_ground rfl rfl rfl (by decide +kernel) ⟨Nat.le_of_ble_eq_true rfl, Nat.le_of_ble_eq_true rfl⟩) (hIa 8 (by omega)) hm1.1 rfl rfl rfl hl.1 rfl (Nat.le_of_ble_eq_true rfl) dL_law_255 ⟨by show kc + 4 + 0 ≤ 601024; omega, by show ks + 24 + 0 ≤ 7293034; omega⟩) hw (fun c2 H locs hP2 hw => ?_)
  rcases hP with ⟨hOK, rfl, hct⟩ | ⟨⟨-, hcc⟩, rfl, hct⟩
  · have hP2 := hP2
    rcases hP2 with ⟨hKK, hct2⟩ | ⟨hKK, hct2⟩
    · have hcd := True.intro
      have h8c : c2 8 = zmo ad n (0) (bl) := (congrFun hct2 8).trans (zU_n (by omega) (zU_n (by omega) (zU_s _ _ _)))
      have h25c : c2 25 = zL G 1 (Fo) := (congrFun hct2 25).trans (zU_n (by omega) (zU_n (by omega) (zU_n (by omega) ((congrFun hct 25).trans (zU_n (by omega) (zU_n (by omega) h25))))))
      obtain ⟨-, m9, m10, m11, m12, m13, m14, m15, m16, m17, m18⟩ := id hm1
      have hM2 : zMst G ad c2 n 0 bl (Fmn) (Fsp) (Fms) (Fco) (zup Fst (12 * v1 + v2) v3) (zup Fmo (12 * v1 + v2) v4) (Fsk) (Fts) (Ftm) (Fjn) := ⟨h8c, (congrFun hct2 9).trans (zU_n (by omega) (zU_n (by omega) (zU_n (by omega) (m9)))), (congrFun hct2 10).trans (zU_n (by omega) (zU_n (by omega) (zU_n (by omega) (m10)))), (congrFun hct2 11).trans (zU_n (by omega) (zU_n (by omega) (zU_n (by omega) (m11)))), (congrFun hct2 12).trans (zU_n (by omega) (zU_n (by omega) (zU_n (by omega) (m12)))), (congrFun hct2 13).trans (zU_n (by omega) (zU_s _ _ _)), (congrFun hct2 14).trans (zU_s _ _ _), (congrFun hct2 15).trans (zU_n (by omega) (zU_n (by omega) (zU_n (by omega) (m15)))), (congrFun hct2 16).trans (zU_n (by omega) (zU_n (by omega) (zU_n (by omega) (m16)))), (congrFun hct2 17).trans (zU_n (by omega) (zU_n (by omega) (zU_n (by omega) (m17)))), (congrFun hct2 18).trans (zU_n (by omega) (zU_n (by omega) (zU_n (by omega) (m18))))⟩
      have hLI2 := zLI_ground (ct' := c2) (k := (v1).toNat) hLI (by omega) (by omega) ⟨by omega, by omega⟩ ⟨by omega, by omega⟩ ⟨by omega, by omega⟩ hM2 ((congrFun hct2 _).trans (zU_n (by omega) (zU_n (by omega) (zU_n (by omega) ((congrFun hct _).trans (zU_n (by omega) (zU_s _ _ _))))))) ((congrFun hct2 _).trans (zU_n (by omega) (zU_n (by omega) (zU_n (by omega) ((congrFun hct _).trans (zU_s _ _ _)))))) (fun j hj => (congrFun hct2 j).trans (zU_n (by omega) (zU_n (by omega) (zU_n (by omega) ((congrFun hct j).trans (zU_n (by omega) (zU_n (by omega) (rfl)))))))) ⟨_, h25c⟩
      refine lv_aload_n hx hb dL_law_258 rfl (lv_at hl 3 rfl) ?_
      refine z_kI (z_runV (k := 8) (As := []) (rest := []) (fs := [zi (0), zi (n), .ref (ad (9)), .ref (ad (10)), .ref (ad (11)), .ref (ad (12)), .ref (ad (13)), .ref (ad (14)), .ref (ad (15)), .ref (ad (16)), .ref (ad (17)), .ref (ad (18)), .ref (ad (19)), .ref (ad (20)), .ref (ad (21)), .ref (ad (22)), zi (bl), .ref (ad (23)), .ref (ad (24))]) ⟨hx, hb, hml, hown, hts⟩ hK hw (k_thr l hl0 G _ _ _ _ (n) (0) (bl) (hIa 8 (by omega)) h8c) (cwV 0 hts gL_law_X4_thrown rfl rfl rfl (by decide +kernel) ⟨Nat.le_of_ble_eq_true rfl, Nat.le_of_ble_eq_true rfl⟩) (hIa 8 (by omega)) h8c rfl rfl rfl hl.1 rfl (Nat.le_of_ble_eq_true rfl) dL_law_259 ⟨by show kc + 4 + 0 + 0 ≤ 601024; omega, by show ks + 24 + 0 + 0 ≤ 7293034; omega⟩) hw (fun z9 c3 H locs hP9 hw => ?_)
      obtain ⟨rfl, hc3⟩ := hP9
      rw [hc3] at hw
      refine lv_iload hx hb dL_law_262 (lv_at hl 0 rfl) ?_
      refine z_icmp_eq (tgt := 269) hx hb dL_law_264 (by decide) ⟨by decide, by decide⟩ ⟨by decide, by decide⟩ (fun c_1 => ?_) (fun c_1 => ?_)
      · refine lv_goto (tgt := 1127) hx hb dL_law_269 (by decide) ?_
        exact kk _ _ _ _ _ _ _ _ _ _ _ _ _ _ _ _ _ _ _ H locs _ _ _ hLI2 hw (by omega) (by omega) (lv_sub hl [1, 2, 3, 4, 5] rfl)
      · exact absurd c_1 (by decide)
    · exfalso; omega
  · have hP2 := hP2
    rcases hP2 with ⟨hKK, hct2⟩ | ⟨hKK, hct2⟩
    · exfalso; omega
    · have hcd := True.intro
      have h8c : c2 8 = zmo ad n (1) (bl) := (congrFun hct2 8).trans (zU_s _ _ _)
      have h25c : c2 25 = zL G 1 (Fo) := (congrFun hct2 25).trans (zU_n (by omega) ((congrFun hct 25).trans (h25)))
      have hLI2 := zLI_q (ct' := c2) hLI (fun j j1 j2 j3 j4 j5 j6 => (congrFun hct2 j).trans (zU_n (by omega) ((congrFun hct j).trans (rfl)))) ⟨_, _, _, _, (congrFun hct2 2).trans (zU_n (by omega) ((congrFun hct 2).trans (h2)))⟩ ⟨_, h8c⟩ ⟨Fpl, Fgr, Fab, (congrFun hct2 19).trans (zU_n (by omega) hc1.1), (congrFun hct2 20).trans (zU_n (by omega) hc1.2.1), (congrFun hct2 21).trans (zU_n (by omega) hc1.2.2)⟩ ⟨_, h25c⟩
      refine lv_aload_n hx hb dL_law_258 rfl (lv_at hl 3 rfl) ?_
      refine z_kI (z_runV (k := 8) (As := []) (rest := []) (fs := [zi (1), zi (n), .ref (ad (9)), .ref (ad (10)), .ref (ad (11)), .ref (ad (12)), .ref (ad (13)), .ref (ad (14)), .ref (ad (15)), .ref (ad (16)), .ref (ad (17)), .ref (ad (18)), .ref (ad (19)), .ref (ad (20)), .ref (ad (21)), .ref (ad (22)), zi (bl), .ref (ad (23)), .ref (ad (24))]) ⟨hx, hb, hml, hown, hts⟩ hK hw (k_thr l hl0 G _ _ _ _ (n) (1) (bl) (hIa 8 (by omega)) h8c) (cwV 0 hts gL_law_X4_thrown rfl rfl rfl (by decide +kernel) ⟨Nat.le_of_ble_eq_true rfl, Nat.le_of_ble_eq_true rfl⟩) (hIa 8 (by omega)) h8c rfl rfl rfl hl.1 rfl (Nat.le_of_ble_eq_true rfl) dL_law_259 ⟨by show kc + 4 + 0 + 0 ≤ 601024; omega, by show ks + 24 + 0 + 0 ≤ 7293034; omega⟩) hw (fun z9 c3 H locs hP9 hw => ?_)
      obtain ⟨rfl, hc3⟩ := hP9
      rw [hc3] at hw
      refine lv_iload hx hb dL_law_262 (lv_at hl 0 rfl) ?_
      refine z_icmp_eq (tgt := 269) hx hb dL_law_264 (by decide) ⟨by decide, by decide⟩ ⟨by decide, by decide⟩ (fun c_2 => ?_) (fun c_2 => ?_)
      · refine lv_goto (tgt := 1127) hx hb dL_law_269 (by decide) ?_
        exact kk _ _ _ _ _ _ _ _ _ _ _ _ _ _ _ _ _ _ _ H locs _ _ _ hLI2 hw (by omega) (by omega) (lv_sub hl [1, 2, 3, 4, 5] rfl)
      · exact absurd c_2 (by decide)

set_option maxHeartbeats 4000000 in
set_option maxRecDepth 100000 in
theorem law_tip {p : Program} {e : Env} {s : State} {m : MethodId} {below : List Frame} {meth : Method} {c : Code} {l : Launch} (hl0 : l.stackTraces = false) {b L : Nat} {xs : Nat → Int32} (hL : L ≤ 2560) (C0 : lw_At p s m meth c b L xs) {G : zG} (hK : zK G (fun q : Nat => s.heap.size ≤ q) s s.heap) {i : Int} (hi0 : 0 ≤ i) (hi5 : i + 5 ≤ L) {kc ks : Nat} (hkc : kc + 50 ≤ 601024) (hks : ks + 500 ≤ 7293034) {I : List Nat} {ad : Nat → Nat} {ct : Nat → va_E} {n : Nat} {σ : Nat → zPl} {b0 bl : Int} {wv Fwv Fmn Fsp Fms Fco Fst Fmo Fsk Fts Ftm Fjn : Int → Int} (hLI : zLI G I ad ct n σ b0 bl wv Fwv Fmn Fsp Fms Fco Fst Fmo Fsk Fts Ftm Fjn) {H : Heap} {locs : List Loc} (hw : zW G (fun q : Nat => s.heap.size ≤ q) s.heap H locs I ad ct) {ls : Array Slot} (hl : lv_has ls 7 [(0, .ref b), (1, .ref (ad 0)), (2, .ref (ad 8)), (3, .ref (ad 25)), (4, zi i)]) (kk : zBk p l e s m b below meth c G i kc ks) : W p l e room_1 s m #[Value.ref b] below meth c H locs kc ks (lw_Z below #[Value.ref b] s) (F0 m 352 ls []) := by
  obtain ⟨hx, hb, hr, hml, hown0, hts0, hX, hbs, hlk, hgv⟩ := id C0
  have hown : s.vm.findClass RL = some m.cls := hown0
  have hts : ∀ w ∈ wsL_law, w.before #[Value.ref b] s = true := fun w h => hts0 w (wsL_law_in w h)
  have hbA : ¬ (fun q : Nat => s.heap.size ≤ q) b := Nat.not_le.mpr hbs
  obtain ⟨hn6, hIa, hIb, hmm, hgs, hRel, hz0, hz9, hbl, h0, h1, hps, ⟨w, p0, f0, a0, h2⟩, ⟨b1, f, g, h, h3, h4, h5, h6, h7⟩, ⟨cd, hms⟩, ⟨Fpl, Fgr, Fab, hmc⟩, ⟨Fat, Fsd, hmb⟩, ⟨Fo, h25⟩⟩ := id hLI
  have hM : ∀ j : Nat, 8 ≤ j → j ≤ 24 → j ∈ I := fun j _ h => hIa j (by omega)
  obtain ⟨v1, e1⟩ : ∃ v : Int, zAx xs (i + 1) = v := ⟨_, rfl⟩
  have hr1 : zr v1 := by rw [← e1]; exact zAx_r _ _
  obtain ⟨v2, e2⟩ : ∃ v : Int, zAx xs (i + 2) = v := ⟨_, rfl⟩
  have hr2 : zr v2 := by rw [← e2]; exact zAx_r _ _
  obtain ⟨v3, e3⟩ : ∃ v : Int, zAx xs (i + 3) = v := ⟨_, rfl⟩
  have hr3 : zr v3 := by rw [← e3]; exact zAx_r _ _
  obtain ⟨v4, e4⟩ : ∃ v : Int, zAx xs (i + 4) = v := ⟨_, rfl⟩
  have hr4 : zr v4 := by rw [← e4]; exact zAx_r _ _
  refine lv_aload_n hx hb dL_law_352 rfl (lv_at hl 1 rfl) ?_
  refine lv_aload_n hx hb dL_law_353 rfl (lv_at hl 0 rfl) ?_
  refine lv_iload hx hb dL_law_354 (lv_at hl 4 rfl) ?_
  refine z_ic hx hb dL_law_356 ?_
  refine z_iadd hx hb dL_law_357 ?_
  refine z_sld hx hb hX hbs hbA hw (by omega) (by omega) hL dL_law_358 ?_
  rw [e1]
  refine lv_aload_n hx hb dL_law_359 rfl (lv_at hl 0 rfl) ?_
  refine lv_iload hx hb dL_law_360 (lv_at hl 4 rfl) ?_
  refine z_ic hx hb dL_law_362 ?_
  refine z_iadd hx hb dL_law_363 ?_
  refine z_sld hx hb hX hbs hbA hw (by omega) (by omega) hL dL_law_364 ?_
  rw [e2]
  refine lv_aload_n hx hb dL_law_365 rfl (lv_at hl 0 rfl) ?_
  refine lv_iload hx hb dL_law_366 (lv_at hl 4 rfl) ?_
  refine z_ic hx hb dL_law_368 ?_
  refine z_iadd hx hb dL_law_369 ?_
  refine z_sld hx hb hX hbs hbA hw (by omega) (by omega) hL dL_law_370 ?_
  rw [e3]
  refine z_kI (z_runSW (As := [.ref (ad (0)), zi (v1), zi (v2), zi (v3)]) (rest := []) ⟨hx, hb, hml, hown, hts⟩ hK hw (l_tip l hl0 G I ad _ _ n hn6 (hIa 0 (by decide)) (hIa 1 (by decide)) h0 h1 σ hgs hmm hps v1 v2 v3 hr1 hr2 hr3) (vx_cwSW 4 hts gL_law_L_tip rfl rfl rfl (by decide +kernel) ⟨Nat.le_of_ble_eq_true rfl, Nat.le_of_ble_eq_true rfl⟩) rfl hl.1 rfl (Nat.le_of_ble_eq_true rfl) dL_law_371 ⟨by show kc + 3 ≤ 601024; omega, by show ks + 18 ≤ 7293034; omega⟩) hw (fun k1 c1 H locs hP hw => ?_)
  have hg1 : ∀ j : Nat, 8 ≤ j → j ≤ 24 → c1 j = ct j := by
    rcases hP with ⟨hOK, rfl, hct⟩ | ⟨⟨-, hcc⟩, rfl, hct⟩
    · exact fun j ja jb => (congrFun hct j).trans (zU_n (by omega) (rfl))
    · exact fun j _ _ => congrFun hct j
  have hm1 : zMst G ad c1 n cd bl Fmn Fsp Fms Fco Fst Fmo Fsk Fts Ftm Fjn := zMst_c hms ((hg1 8 (by omega) (by omega)).trans hms.1) (fun j ja jb => hg1 j (by omega) (by omega))
  have hc1 : zMsc G c1 Fpl Fgr Fab := ⟨(hg1 19 (by omega) (by omega)).trans hmc.1, (hg1 20 (by omega) (by omega)).trans hmc.2.1, (hg1 21 (by omega) (by omega)).trans hmc.2.2⟩
  refine lv_istore (lv' := [(5, zi (k1)), (0, .ref b), (1, .ref (ad (0))), (2, .ref (ad (8))), (3, .ref (ad (25))), (4, zi (i))]) hx hb dL_law_374 hl (by decide) rfl (fun ls hl => ?_)
  refine lv_aload_n hx hb dL_law_376 rfl (lv_at hl 3 rfl) ?_
  refine lv_aload_n hx hb dL_law_377 rfl (lv_at hl 1 rfl) ?_
  refine lv_iload hx hb dL_law_378 (lv_at hl 5 rfl) ?_
  refine z_ic hx hb dL_law_380 ?_
  refine z_iadd hx hb dL_law_381 ?_
  refine z_sld hx hb hX hbs hbA hw (by omega) (by omega) hL dL_law_382 ?_
  rw [e1]
  refine lv_aload_n hx hb dL_law_383 rfl (lv_at hl 1 rfl) ?_
  refine lv_iload hx hb dL_law_384 (lv_at hl 5 rfl) ?_
  refine z_ic hx hb dL_law_386 ?_
  refine z_iadd hx hb dL_law_387 ?_
  refine z_sld hx hb hX hbs hbA hw (by omega) (by omega) hL dL_law_388 ?_
  rw [e2]
  refine lv_aload_n hx hb dL_law_389 rfl (lv_at hl 1 rfl) ?_
  refine lv_iload hx hb dL_law_390 (lv_at hl 5 rfl) ?_
  refine z_ic hx hb dL_law_392 ?_
  refine z_iadd hx hb dL_law_393 ?_
  refine z_sld hx hb hX hbs hbA hw (by omega) (by omega) hL dL_law_394 ?_
  rw [e3]
  refine z_kV (z_runV (k := 8) (As := [zi (v1), zi (v2), zi (v3)]) (rest := []) (fs := [zi (cd), zi (n), .ref (ad (9)), .ref (ad (10)), .ref (ad (11)), .ref (ad (12)), .ref (ad (13)), .ref (ad (14)), .ref (ad (15)), .ref (ad (16)), .ref (ad (17)), .ref (ad (18)), .ref (ad (19)), .ref (ad (20)), .ref (ad (21)), .ref (ad (22)), zi (bl), .ref (ad (23)), .ref (ad (24))]) ⟨hx, hb, hml, hown, hts⟩ hK hw (m_tip l hl0 G I ad _ _ n hn6 σ hgs cd bl Fmn Fsp Fms Fco Fst Fmo Fsk Fts Ftm Fjn Fpl Fgr Fab hRel hM hm1 hc1 v1 v2 v3 hr1 hr2 hr3) (cwV 3 hts gL_law_X4_tip rfl rfl rfl (by decide +kernel) ⟨Nat.le_of_ble_eq_true rfl, Nat.le_of_ble_eq_true rfl⟩) (hIa 8 (by omega)) hm1.1 rfl rfl rfl hl.1 rfl (Nat.le_of_ble_eq_true rfl) dL_law_395 ⟨by show kc + 3 + 0 ≤ 601024; omega, by show ks + 18 + 0 ≤ 7293034; omega⟩) hw (fun c2 H locs hP2 hw => ?_)
  rcases hP with ⟨hOK, rfl, hct⟩ | ⟨⟨-, hcc⟩, rfl, hct⟩
  · have hP2 := hP2
    rcases hP2 with ⟨hKK, hct2⟩ | ⟨hKK, hct2⟩
    · have hcd := True.intro
      have h8c : c2 8 = zmo ad n (0) (bl) := (congrFun hct2 8).trans (zU_n (by omega) (zU_n (by omega) (zU_s _ _ _)))
      have h25c : c2 25 = zL G 1 (Fo) := (congrFun hct2 25).trans (zU_n (by omega) (zU_n (by omega) (zU_n (by omega) ((congrFun hct 25).trans (zU_n (by omega) h25)))))
      obtain ⟨-, m9, m10, m11, m12, m13, m14, m15, m16, m17, m18⟩ := id hm1
      have hM2 : zMst G ad c2 n 0 bl (Fmn) (Fsp) (Fms) (Fco) (Fst) (Fmo) (Fsk) (zup Fts v1 v2) (zup Ftm v1 v3) (Fjn) := ⟨h8c, (congrFun hct2 9).trans (zU_n (by omega) (zU_n (by omega) (zU_n (by omega) (m9)))), (congrFun hct2 10).trans (zU_n (by omega) (zU_n (by omega) (zU_n (by omega) (m10)))), (congrFun hct2 11).trans (zU_n (by omega) (zU_n (by omega) (zU_n (by omega) (m11)))), (congrFun hct2 12).trans (zU_n (by omega) (zU_n (by omega) (zU_n (by omega) (m12)))), (congrFun hct2 13).trans (zU_n (by omega) (zU_n (by omega) (zU_n (by omega) (m13)))), (congrFun hct2 14).trans (zU_n (by omega) (zU_n (by omega) (zU_n (by omega) (m14)))), (congrFun hct2 15).trans (zU_n (by omega) (zU_n (by omega) (zU_n (by omega) (m15)))), (congrFun hct2 16).trans (zU_n (by omega) (zU_s _ _ _)), (congrFun hct2 17).trans (zU_s _ _ _), (congrFun hct2 18).trans (zU_n (by omega) (zU_n (by omega) (zU_n (by omega) (m18))))⟩
      have hLI2 := zLI_tip (ct' := c2) (k := (v1).toNat) hLI (by omega) (by omega) ⟨by omega, by omega⟩ ⟨by omega, by omega⟩ hM2 ((congrFun hct2 _).trans (zU_n (by omega) (zU_n (by omega) (zU_n (by omega) ((congrFun hct _).trans (zU_s _ _ _)))))) (fun j hj => (congrFun hct2 j).trans (zU_n (by omega) (zU_n (by omega) (zU_n (by omega) ((congrFun hct j).trans (zU_n (by omega) (rfl))))))) ⟨_, h25c⟩
      refine lv_aload_n hx hb dL_law_398 rfl (lv_at hl 3 rfl) ?_
      refine z_kI (z_runV (k := 8) (As := []) (rest := []) (fs := [zi (0), zi (n), .ref (ad (9)), .ref (ad (10)), .ref (ad (11)), .ref (ad (12)), .ref (ad (13)), .ref (ad (14)), .ref (ad (15)), .ref (ad (16)), .ref (ad (17)), .ref (ad (18)), .ref (ad (19)), .ref (ad (20)), .ref (ad (21)), .ref (ad (22)), zi (bl), .ref (ad (23)), .ref (ad (24))]) ⟨hx, hb, hml, hown, hts⟩ hK hw (k_thr l hl0 G _ _ _ _ (n) (0) (bl) (hIa 8 (by omega)) h8c) (cwV 0 hts gL_law_X4_thrown rfl rfl rfl (by decide +kernel) ⟨Nat.le_of_ble_eq_true rfl, Nat.le_of_ble_eq_true rfl⟩) (hIa 8 (by omega)) h8c rfl rfl rfl hl.1 rfl (Nat.le_of_ble_eq_true rfl) dL_law_399 ⟨by show kc + 3 + 0 + 0 ≤ 601024; omega, by show ks + 18 + 0 + 0 ≤ 7293034; omega⟩) hw (fun z9 c3 H locs hP9 hw => ?_)
      obtain ⟨rfl, hc3⟩ := hP9
      rw [hc3] at hw
      refine lv_iload hx hb dL_law_402 (lv_at hl 0 rfl) ?_
      refine z_icmp_eq (tgt := 409) hx hb dL_law_404 (by decide) ⟨by decide, by decide⟩ ⟨by decide, by decide⟩ (fun c_1 => ?_) (fun c_1 => ?_)
      · refine lv_goto (tgt := 1127) hx hb dL_law_409 (by decide) ?_
        exact kk _ _ _ _ _ _ _ _ _ _ _ _ _ _ _ _ _ _ _ H locs _ _ _ hLI2 hw (by omega) (by omega) (lv_sub hl [1, 2, 3, 4, 5] rfl)
      · exact absurd c_1 (by decide)
    · exfalso; omega
  · have hP2 := hP2
    rcases hP2 with ⟨hKK, hct2⟩ | ⟨hKK, hct2⟩
    · exfalso; omega
    · have hcd := True.intro
      have h8c : c2 8 = zmo ad n (1) (bl) := (congrFun hct2 8).trans (zU_s _ _ _)
      have h25c : c2 25 = zL G 1 (Fo) := (congrFun hct2 25).trans (zU_n (by omega) ((congrFun hct 25).trans (h25)))
      have hLI2 := zLI_q (ct' := c2) hLI (fun j j1 j2 j3 j4 j5 j6 => (congrFun hct2 j).trans (zU_n (by omega) ((congrFun hct j).trans (rfl)))) ⟨_, _, _, _, (congrFun hct2 2).trans (zU_n (by omega) ((congrFun hct 2).trans (h2)))⟩ ⟨_, h8c⟩ ⟨Fpl, Fgr, Fab, (congrFun hct2 19).trans (zU_n (by omega) hc1.1), (congrFun hct2 20).trans (zU_n (by omega) hc1.2.1), (congrFun hct2 21).trans (zU_n (by omega) hc1.2.2)⟩ ⟨_, h25c⟩
      refine lv_aload_n hx hb dL_law_398 rfl (lv_at hl 3 rfl) ?_
      refine z_kI (z_runV (k := 8) (As := []) (rest := []) (fs := [zi (1), zi (n), .ref (ad (9)), .ref (ad (10)), .ref (ad (11)), .ref (ad (12)), .ref (ad (13)), .ref (ad (14)), .ref (ad (15)), .ref (ad (16)), .ref (ad (17)), .ref (ad (18)), .ref (ad (19)), .ref (ad (20)), .ref (ad (21)), .ref (ad (22)), zi (bl), .ref (ad (23)), .ref (ad (24))]) ⟨hx, hb, hml, hown, hts⟩ hK hw (k_thr l hl0 G _ _ _ _ (n) (1) (bl) (hIa 8 (by omega)) h8c) (cwV 0 hts gL_law_X4_thrown rfl rfl rfl (by decide +kernel) ⟨Nat.le_of_ble_eq_true rfl, Nat.le_of_ble_eq_true rfl⟩) (hIa 8 (by omega)) h8c rfl rfl rfl hl.1 rfl (Nat.le_of_ble_eq_true rfl) dL_law_399 ⟨by show kc + 3 + 0 + 0 ≤ 601024; omega, by show ks + 18 + 0 + 0 ≤ 7293034; omega⟩) hw (fun z9 c3 H locs hP9 hw => ?_)
      obtain ⟨rfl, hc3⟩ := hP9
      rw [hc3] at hw
      refine lv_iload hx hb dL_law_402 (lv_at hl 0 rfl) ?_
      refine z_icmp_eq (tgt := 409) hx hb dL_law_404 (by decide) ⟨by decide, by decide⟩ ⟨by decide, by decide⟩ (fun c_2 => ?_) (fun c_2 => ?_)
      · refine lv_goto (tgt := 1127) hx hb dL_law_409 (by decide) ?_
        exact kk _ _ _ _ _ _ _ _ _ _ _ _ _ _ _ _ _ _ _ H locs _ _ _ hLI2 hw (by omega) (by omega) (lv_sub hl [1, 2, 3, 4, 5] rfl)
      · exact absurd c_2 (by decide)

set_option maxHeartbeats 4000000 in
set_option maxRecDepth 100000 in
theorem law_join {p : Program} {e : Env} {s : State} {m : MethodId} {below : List Frame} {meth : Method} {c : Code} {l : Launch} (hl0 : l.stackTraces = false) {b L : Nat} {xs : Nat → Int32} (hL : L ≤ 2560) (C0 : lw_At p s m meth c b L xs) {G : zG} (hK : zK G (fun q : Nat => s.heap.size ≤ q) s s.heap) {i : Int} (hi0 : 0 ≤ i) (hi5 : i + 5 ≤ L) {kc ks : Nat} (hkc : kc + 50 ≤ 601024) (hks : ks + 500 ≤ 7293034) {I : List Nat} {ad : Nat → Nat} {ct : Nat → va_E} {n : Nat} {σ : Nat → zPl} {b0 bl : Int} {wv Fwv Fmn Fsp Fms Fco Fst Fmo Fsk Fts Ftm Fjn : Int → Int} (hLI : zLI G I ad ct n σ b0 bl wv Fwv Fmn Fsp Fms Fco Fst Fmo Fsk Fts Ftm Fjn) {H : Heap} {locs : List Loc} (hw : zW G (fun q : Nat => s.heap.size ≤ q) s.heap H locs I ad ct) {ls : Array Slot} (hl : lv_has ls 7 [(0, .ref b), (1, .ref (ad 0)), (2, .ref (ad 8)), (3, .ref (ad 25)), (4, zi i)]) (kk : zBk p l e s m b below meth c G i kc ks) : W p l e room_1 s m #[Value.ref b] below meth c H locs kc ks (lw_Z below #[Value.ref b] s) (F0 m 764 ls []) := by
  obtain ⟨hx, hb, hr, hml, hown0, hts0, hX, hbs, hlk, hgv⟩ := id C0
  have hown : s.vm.findClass RL = some m.cls := hown0
  have hts : ∀ w ∈ wsL_law, w.before #[Value.ref b] s = true := fun w h => hts0 w (wsL_law_in w h)
  have hbA : ¬ (fun q : Nat => s.heap.size ≤ q) b := Nat.not_le.mpr hbs
  obtain ⟨hn6, hIa, hIb, hmm, hgs, hRel, hz0, hz9, hbl, h0, h1, hps, ⟨w, p0, f0, a0, h2⟩, ⟨b1, f, g, h, h3, h4, h5, h6, h7⟩, ⟨cd, hms⟩, ⟨Fpl, Fgr, Fab, hmc⟩, ⟨Fat, Fsd, hmb⟩, ⟨Fo, h25⟩⟩ := id hLI
  have hM : ∀ j : Nat, 8 ≤ j → j ≤ 24 → j ∈ I := fun j _ h => hIa j (by omega)
  obtain ⟨v1, e1⟩ : ∃ v : Int, zAx xs (i + 1) = v := ⟨_, rfl⟩
  have hr1 : zr v1 := by rw [← e1]; exact zAx_r _ _
  obtain ⟨v2, e2⟩ : ∃ v : Int, zAx xs (i + 2) = v := ⟨_, rfl⟩
  have hr2 : zr v2 := by rw [← e2]; exact zAx_r _ _
  obtain ⟨v3, e3⟩ : ∃ v : Int, zAx xs (i + 3) = v := ⟨_, rfl⟩
  have hr3 : zr v3 := by rw [← e3]; exact zAx_r _ _
  obtain ⟨v4, e4⟩ : ∃ v : Int, zAx xs (i + 4) = v := ⟨_, rfl⟩
  have hr4 : zr v4 := by rw [← e4]; exact zAx_r _ _
  refine lv_aload_n hx hb dL_law_764 rfl (lv_at hl 1 rfl) ?_
  refine lv_aload_n hx hb dL_law_765 rfl (lv_at hl 0 rfl) ?_
  refine lv_iload hx hb dL_law_766 (lv_at hl 4 rfl) ?_
  refine z_ic hx hb dL_law_768 ?_
  refine z_iadd hx hb dL_law_769 ?_
  refine z_sld hx hb hX hbs hbA hw (by omega) (by omega) hL dL_law_770 ?_
  rw [e1]
  refine lv_aload_n hx hb dL_law_771 rfl (lv_at hl 0 rfl) ?_
  refine lv_iload hx hb dL_law_772 (lv_at hl 4 rfl) ?_
  refine z_ic hx hb dL_law_774 ?_
  refine z_iadd hx hb dL_law_775 ?_
  refine z_sld hx hb hX hbs hbA hw (by omega) (by omega) hL dL_law_776 ?_
  rw [e2]
  refine z_if_eq (tgt := 784) hx hb dL_law_777 (by decide) ⟨by omega, by omega⟩ (fun c_1 => ?_) (fun c_1 => ?_)
  · refine z_ic hx hb dL_law_784 ?_
    refine lv_aload_n hx hb dL_law_785 rfl (lv_at hl 3 rfl) ?_
    refine z_kI (z_runSW (As := [.ref (ad (0)), zi (v1), zi (0), .ref (ad (25))]) (rest := []) ⟨hx, hb, hml, hown, hts⟩ hK hw (l_join l hl0 G I ad _ _ n hn6 (hIa 0 (by decide)) (hIa 1 (by decide)) h0 h1 σ hgs hmm hps v1 0 hr1 (Or.inl rfl) Fo (hIa 25 (by decide)) h25) (vx_cwSW 4 hts gL_law_L_join rfl rfl rfl (by decide +kernel) ⟨Nat.le_of_ble_eq_true rfl, Nat.le_of_ble_eq_true rfl⟩) rfl hl.1 rfl (Nat.le_of_ble_eq_true rfl) dL_law_786 ⟨by show kc + 1 ≤ 601024; omega, by show ks + 6 ≤ 7293034; omega⟩) hw (fun k1 c1 H locs hP hw => ?_)
    have hg1 : ∀ j : Nat, 8 ≤ j → j ≤ 24 → c1 j = ct j := by
      rcases hP with ⟨hOK, rfl, hct⟩ | ⟨⟨-, hcc⟩, rfl, hct⟩
      · exact fun j ja jb => (congrFun hct j).trans (zU_n (by omega) (zU_n (by omega) (rfl)))
      · exact fun j _ _ => congrFun hct j
    have hm1 : zMst G ad c1 n cd bl Fmn Fsp Fms Fco Fst Fmo Fsk Fts Ftm Fjn := zMst_c hms ((hg1 8 (by omega) (by omega)).trans hms.1) (fun j ja jb => hg1 j (by omega) (by omega))
    have hc1 : zMsc G c1 Fpl Fgr Fab := ⟨(hg1 19 (by omega) (by omega)).trans hmc.1, (hg1 20 (by omega) (by omega)).trans hmc.2.1, (hg1 21 (by omega) (by omega)).trans hmc.2.2⟩
    refine lv_istore (lv' := [(5, zi (k1)), (0, .ref b), (1, .ref (ad (0))), (2, .ref (ad (8))), (3, .ref (ad (25))), (4, zi (i))]) hx hb dL_law_789 hl (by decide) rfl (fun ls hl => ?_)
    refine lv_aload_n hx hb dL_law_791 rfl (lv_at hl 3 rfl) ?_
    refine lv_aload_n hx hb dL_law_792 rfl (lv_at hl 1 rfl) ?_
    refine lv_iload hx hb dL_law_793 (lv_at hl 5 rfl) ?_
    refine z_ic hx hb dL_law_795 ?_
    refine z_iadd hx hb dL_law_796 ?_
    refine z_sld hx hb hX hbs hbA hw (by omega) (by omega) hL dL_law_797 ?_
    rw [e1]
    refine lv_aload_n hx hb dL_law_798 rfl (lv_at hl 1 rfl) ?_
    refine lv_iload hx hb dL_law_799 (lv_at hl 5 rfl) ?_
    refine z_ic hx hb dL_law_801 ?_
    refine z_iadd hx hb dL_law_802 ?_
    refine z_sld hx hb hX hbs hbA hw (by omega) (by omega) hL dL_law_803 ?_
    rw [e2]
    refine z_if_eq (tgt := 811) hx hb dL_law_804 (by decide) ⟨by omega, by omega⟩ (fun c_2 => ?_) (fun c_2 => ?_)
    · refine z_ic hx hb dL_law_811 ?_
      refine z_kI (z_runV (k := 8) (As := [zi (v1), zi (0)]) (rest := []) (fs := [zi (cd), zi (n), .ref (ad (9)), .ref (ad (10)), .ref (ad (11)), .ref (ad (12)), .ref (ad (13)), .ref (ad (14)), .ref (ad (15)), .ref (ad (16)), .ref (ad (17)), .ref (ad (18)), .ref (ad (19)), .ref (ad (20)), .ref (ad (21)), .ref (ad (22)), zi (bl), .ref (ad (23)), .ref (ad (24))]) ⟨hx, hb, hml, hown, hts⟩ hK hw (m_join l hl0 G I ad _ _ n hn6 σ hgs cd bl Fmn Fsp Fms Fco Fst Fmo Fsk Fts Ftm Fjn Fpl Fgr Fab hRel hM hm1 hc1 v1 0 hr1 (Or.inl rfl)) (cwV 2 hts gL_law_X4_join rfl rfl rfl (by decide +kernel) ⟨Nat.le_of_ble_eq_true rfl, Nat.le_of_ble_eq_true rfl⟩) (hIa 8 (by omega)) hm1.1 rfl rfl rfl hl.1 rfl (Nat.le_of_ble_eq_true rfl) dL_law_812 ⟨by show kc + 1 + 0 ≤ 601024; omega, by show ks + 6 + 0 ≤ 7293034; omega⟩) hw (fun z2 c2 H locs hP2 hw => ?_)
      rcases hP with ⟨hOK, rfl, hct⟩ | ⟨⟨-, hcc⟩, rfl, hct⟩
      · have hP2 := hP2
        rcases hP2 with ⟨hKK, rfl, hct2⟩ | ⟨hKK, hct2⟩
        · have hcd := True.intro
          have g13 := (hgs (v1).toNat (by omega)).2.2.2.2.2.2.1
          have h8c : c2 8 = zmo ad n (0) (bl) := (congrFun hct2 8).trans (zU_n (by omega) (zU_s _ _ _))
          have h25c : c2 25 = zL G 1 (zup Fo 0 (pjo (σ (v1).toNat))) := (congrFun hct2 25).trans (zU_n (by omega) (zU_n (by omega) ((congrFun hct 25).trans (zU_s _ _ _))))
          obtain ⟨-, m9, m10, m11, m12, m13, m14, m15, m16, m17, m18⟩ := id hm1
          have hM2 : zMst G ad c2 n 0 bl (Fmn) (Fsp) (Fms) (Fco) (Fst) (Fmo) (Fsk) (Fts) (Ftm) (zup Fjn v1 0) := ⟨h8c, (congrFun hct2 9).trans (zU_n (by omega) (zU_n (by omega) (m9))), (congrFun hct2 10).trans (zU_n (by omega) (zU_n (by omega) (m10))), (congrFun hct2 11).trans (zU_n (by omega) (zU_n (by omega) (m11))), (congrFun hct2 12).trans (zU_n (by omega) (zU_n (by omega) (m12))), (congrFun hct2 13).trans (zU_n (by omega) (zU_n (by omega) (m13))), (congrFun hct2 14).trans (zU_n (by omega) (zU_n (by omega) (m14))), (congrFun hct2 15).trans (zU_n (by omega) (zU_n (by omega) (m15))), (congrFun hct2 16).trans (zU_n (by omega) (zU_n (by omega) (m16))), (congrFun hct2 17).trans (zU_n (by omega) (zU_n (by omega) (m17))), (congrFun hct2 18).trans (zU_s _ _ _)⟩
          have hLI2 := zLI_join (ct' := c2) (k := (v1).toNat) hLI (by omega) (by omega) (Or.inl rfl) hM2 ((congrFun hct2 _).trans (zU_n (by omega) (zU_n (by omega) ((congrFun hct _).trans (zU_n (by omega) (zU_s _ _ _)))))) (fun j hj => (congrFun hct2 j).trans (zU_n (by omega) (zU_n (by omega) ((congrFun hct j).trans (zU_n (by omega) (zU_n (by omega) (rfl))))))) ⟨_, h25c⟩
          refine lv_istore (lv' := [(6, zi (pjo (σ (v1).toNat))), (5, zi (0)), (0, .ref b), (1, .ref (ad (0))), (2, .ref (ad (8))), (3, .ref (ad (25))), (4, zi (i))]) hx hb dL_law_815 hl (by decide) rfl (fun ls hl => ?_)
          refine lv_aload_n hx hb dL_law_817 rfl (lv_at hl 4 rfl) ?_
          refine z_kI (z_runV (k := 8) (As := []) (rest := []) (fs := [zi (0), zi (n), .ref (ad (9)), .ref (ad (10)), .ref (ad (11)), .ref (ad (12)), .ref (ad (13)), .ref (ad (14)), .ref (ad (15)), .ref (ad (16)), .ref (ad (17)), .ref (ad (18)), .ref (ad (19)), .ref (ad (20)), .ref (ad (21)), .ref (ad (22)), zi (bl), .ref (ad (23)), .ref (ad (24))]) ⟨hx, hb, hml, hown, hts⟩ hK hw (k_thr l hl0 G _ _ _ _ (n) (0) (bl) (hIa 8 (by omega)) h8c) (cwV 0 hts gL_law_X4_thrown rfl rfl rfl (by decide +kernel) ⟨Nat.le_of_ble_eq_true rfl, Nat.le_of_ble_eq_true rfl⟩) (hIa 8 (by omega)) h8c rfl rfl rfl hl.1 rfl (Nat.le_of_ble_eq_true rfl) dL_law_818 ⟨by show kc + 1 + 0 + 0 ≤ 601024; omega, by show ks + 6 + 0 + 0 ≤ 7293034; omega⟩) hw (fun z9 c3 H locs hP9 hw => ?_)
          obtain ⟨rfl, hc3⟩ := hP9
          rw [hc3] at hw
          refine lv_iload hx hb dL_law_821 (lv_at hl 1 rfl) ?_
          refine z_icmp_eq (tgt := 828) hx hb dL_law_823 (by decide) ⟨by decide, by decide⟩ ⟨by decide, by decide⟩ (fun c_3 => ?_) (fun c_3 => ?_)
          · refine lv_iload hx hb dL_law_828 (lv_at hl 1 rfl) ?_
            refine z_if_ne (tgt := 852) hx hb dL_law_830 (by decide) ⟨by decide, by decide⟩ (fun c_4 => ?_) (fun c_4 => ?_)
            · exact absurd c_4 (by decide)
            · refine lv_aload_n hx hb dL_law_833 rfl (lv_at hl 5 rfl) ?_
              refine z_ic hx hb dL_law_834 ?_
              refine z_lald (f := zup Fo 0 (pjo (σ (v1).toNat))) hx hb hK hw (hIa 25 (by omega)) h25c (by decide) (by decide) (by decide) dL_law_835 ?_
              rw [show ((zup Fo 0 (pjo (σ (v1).toNat))) (0) : Int) = pjo (σ (v1).toNat) from zup_s _ _ _]
              refine lv_iload hx hb dL_law_836 (lv_at hl 0 rfl) ?_
              refine z_if_eq (tgt := 845) hx hb dL_law_838 (by decide) ⟨by omega, by omega⟩ (fun c_5 => ?_) (fun c_5 => ?_)
              · refine z_lc0 hx hb dL_law_845 ?_
                refine z_lcmp_eq (tgt := 852) hx hb dL_law_846 dL_law_847 (by decide) ⟨by omega, by omega⟩ ⟨by decide, by decide⟩ (fun c_6 => ?_) (fun c_6 => ?_)
                · refine lv_goto (tgt := 1127) hx hb dL_law_852 (by decide) ?_
                  exact kk _ _ _ _ _ _ _ _ _ _ _ _ _ _ _ _ _ _ _ H locs _ _ _ hLI2 hw (by omega) (by omega) (lv_sub hl [2, 3, 4, 5, 6] rfl)
                · exact absurd (by omega) c_6
              · refine z_lc1 hx hb dL_law_841 ?_
                refine lv_goto (tgt := 846) hx hb dL_law_842 (by decide) ?_
                refine z_lcmp_eq (tgt := 852) hx hb dL_law_846 dL_law_847 (by decide) ⟨by omega, by omega⟩ ⟨by decide, by decide⟩ (fun c_7 => ?_) (fun c_7 => ?_)
                · refine lv_goto (tgt := 1127) hx hb dL_law_852 (by decide) ?_
                  exact kk _ _ _ _ _ _ _ _ _ _ _ _ _ _ _ _ _ _ _ H locs _ _ _ hLI2 hw (by omega) (by omega) (lv_sub hl [2, 3, 4, 5, 6] rfl)
                · exact absurd (by omega) c_7
          · exact absurd c_3 (by decide)
        · exfalso; omega
      · have hP2 := hP2
        rcases hP2 with ⟨hKK, rfl, hct2⟩ | ⟨hKK, hct2⟩
        · exfalso; omega
        · have hcd := True.intro
          have h8c : c2 8 = zmo ad n (1) (bl) := (congrFun hct2 8).trans (zU_s _ _ _)
          have h25c : c2 25 = zL G 1 (Fo) := (congrFun hct2 25).trans (zU_n (by omega) ((congrFun hct 25).trans (h25)))
          have hLI2 := zLI_q (ct' := c2) hLI (fun j j1 j2 j3 j4 j5 j6 => (congrFun hct2 j).trans (zU_n (by omega) ((congrFun hct j).trans (rfl)))) ⟨_, _, _, _, (congrFun hct2 2).trans (zU_n (by omega) ((congrFun hct 2).trans (h2)))⟩ ⟨_, h8c⟩ ⟨Fpl, Fgr, Fab, (congrFun hct2 19).trans (zU_n (by omega) hc1.1), (congrFun hct2 20).trans (zU_n (by omega) hc1.2.1), (congrFun hct2 21).trans (zU_n (by omega) hc1.2.2)⟩ ⟨_, h25c⟩
          refine lv_istore (lv' := [(6, zi (z2)), (5, zi (1)), (0, .ref b), (1, .ref (ad (0))), (2, .ref (ad (8))), (3, .ref (ad (25))), (4, zi (i))]) hx hb dL_law_815 hl (by decide) rfl (fun ls hl => ?_)
          refine lv_aload_n hx hb dL_law_817 rfl (lv_at hl 4 rfl) ?_
          refine z_kI (z_runV (k := 8) (As := []) (rest := []) (fs := [zi (1), zi (n), .ref (ad (9)), .ref (ad (10)), .ref (ad (11)), .ref (ad (12)), .ref (ad (13)), .ref (ad (14)), .ref (ad (15)), .ref (ad (16)), .ref (ad (17)), .ref (ad (18)), .ref (ad (19)), .ref (ad (20)), .ref (ad (21)), .ref (ad (22)), zi (bl), .ref (ad (23)), .ref (ad (24))]) ⟨hx, hb, hml, hown, hts⟩ hK hw (k_thr l hl0 G _ _ _ _ (n) (1) (bl) (hIa 8 (by omega)) h8c) (cwV 0 hts gL_law_X4_thrown rfl rfl rfl (by decide +kernel) ⟨Nat.le_of_ble_eq_true rfl, Nat.le_of_ble_eq_true rfl⟩) (hIa 8 (by omega)) h8c rfl rfl rfl hl.1 rfl (Nat.le_of_ble_eq_true rfl) dL_law_818 ⟨by show kc + 1 + 0 + 0 ≤ 601024; omega, by show ks + 6 + 0 + 0 ≤ 7293034; omega⟩) hw (fun z9 c3 H locs hP9 hw => ?_)
          obtain ⟨rfl, hc3⟩ := hP9
          rw [hc3] at hw
          refine lv_iload hx hb dL_law_821 (lv_at hl 1 rfl) ?_
          refine z_icmp_eq (tgt := 828) hx hb dL_law_823 (by decide) ⟨by decide, by decide⟩ ⟨by decide, by decide⟩ (fun c_8 => ?_) (fun c_8 => ?_)
          · refine lv_iload hx hb dL_law_828 (lv_at hl 1 rfl) ?_
            refine z_if_ne (tgt := 852) hx hb dL_law_830 (by decide) ⟨by decide, by decide⟩ (fun c_9 => ?_) (fun c_9 => ?_)
            · refine lv_goto (tgt := 1127) hx hb dL_law_852 (by decide) ?_
              exact kk _ _ _ _ _ _ _ _ _ _ _ _ _ _ _ _ _ _ _ H locs _ _ _ hLI2 hw (by omega) (by omega) (lv_sub hl [2, 3, 4, 5, 6] rfl)
            · exact absurd c_9 (by decide)
          · exact absurd c_8 (by decide)
    · exact absurd c_1 c_2
  · refine z_ic hx hb dL_law_780 ?_
    refine lv_goto (tgt := 785) hx hb dL_law_781 (by decide) ?_
    refine lv_aload_n hx hb dL_law_785 rfl (lv_at hl 3 rfl) ?_
    refine z_kI (z_runSW (As := [.ref (ad (0)), zi (v1), zi (1), .ref (ad (25))]) (rest := []) ⟨hx, hb, hml, hown, hts⟩ hK hw (l_join l hl0 G I ad _ _ n hn6 (hIa 0 (by decide)) (hIa 1 (by decide)) h0 h1 σ hgs hmm hps v1 1 hr1 (Or.inr rfl) Fo (hIa 25 (by decide)) h25) (vx_cwSW 4 hts gL_law_L_join rfl rfl rfl (by decide +kernel) ⟨Nat.le_of_ble_eq_true rfl, Nat.le_of_ble_eq_true rfl⟩) rfl hl.1 rfl (Nat.le_of_ble_eq_true rfl) dL_law_786 ⟨by show kc + 1 ≤ 601024; omega, by show ks + 6 ≤ 7293034; omega⟩) hw (fun k1 c1 H locs hP hw => ?_)
    have hg1 : ∀ j : Nat, 8 ≤ j → j ≤ 24 → c1 j = ct j := by
      rcases hP with ⟨hOK, rfl, hct⟩ | ⟨⟨-, hcc⟩, rfl, hct⟩
      · exact fun j ja jb => (congrFun hct j).trans (zU_n (by omega) (zU_n (by omega) (rfl)))
      · exact fun j _ _ => congrFun hct j
    have hm1 : zMst G ad c1 n cd bl Fmn Fsp Fms Fco Fst Fmo Fsk Fts Ftm Fjn := zMst_c hms ((hg1 8 (by omega) (by omega)).trans hms.1) (fun j ja jb => hg1 j (by omega) (by omega))
    have hc1 : zMsc G c1 Fpl Fgr Fab := ⟨(hg1 19 (by omega) (by omega)).trans hmc.1, (hg1 20 (by omega) (by omega)).trans hmc.2.1, (hg1 21 (by omega) (by omega)).trans hmc.2.2⟩
    refine lv_istore (lv' := [(5, zi (k1)), (0, .ref b), (1, .ref (ad (0))), (2, .ref (ad (8))), (3, .ref (ad (25))), (4, zi (i))]) hx hb dL_law_789 hl (by decide) rfl (fun ls hl => ?_)
    refine lv_aload_n hx hb dL_law_791 rfl (lv_at hl 3 rfl) ?_
    refine lv_aload_n hx hb dL_law_792 rfl (lv_at hl 1 rfl) ?_
    refine lv_iload hx hb dL_law_793 (lv_at hl 5 rfl) ?_
    refine z_ic hx hb dL_law_795 ?_
    refine z_iadd hx hb dL_law_796 ?_
    refine z_sld hx hb hX hbs hbA hw (by omega) (by omega) hL dL_law_797 ?_
    rw [e1]
    refine lv_aload_n hx hb dL_law_798 rfl (lv_at hl 1 rfl) ?_
    refine lv_iload hx hb dL_law_799 (lv_at hl 5 rfl) ?_
    refine z_ic hx hb dL_law_801 ?_
    refine z_iadd hx hb dL_law_802 ?_
    refine z_sld hx hb hX hbs hbA hw (by omega) (by omega) hL dL_law_803 ?_
    rw [e2]
    refine z_if_eq (tgt := 811) hx hb dL_law_804 (by decide) ⟨by omega, by omega⟩ (fun c_10 => ?_) (fun c_10 => ?_)
    · exact absurd c_10 c_1
    · refine z_ic hx hb dL_law_807 ?_
      refine lv_goto (tgt := 812) hx hb dL_law_808 (by decide) ?_
      refine z_kI (z_runV (k := 8) (As := [zi (v1), zi (1)]) (rest := []) (fs := [zi (cd), zi (n), .ref (ad (9)), .ref (ad (10)), .ref (ad (11)), .ref (ad (12)), .ref (ad (13)), .ref (ad (14)), .ref (ad (15)), .ref (ad (16)), .ref (ad (17)), .ref (ad (18)), .ref (ad (19)), .ref (ad (20)), .ref (ad (21)), .ref (ad (22)), zi (bl), .ref (ad (23)), .ref (ad (24))]) ⟨hx, hb, hml, hown, hts⟩ hK hw (m_join l hl0 G I ad _ _ n hn6 σ hgs cd bl Fmn Fsp Fms Fco Fst Fmo Fsk Fts Ftm Fjn Fpl Fgr Fab hRel hM hm1 hc1 v1 1 hr1 (Or.inr rfl)) (cwV 2 hts gL_law_X4_join rfl rfl rfl (by decide +kernel) ⟨Nat.le_of_ble_eq_true rfl, Nat.le_of_ble_eq_true rfl⟩) (hIa 8 (by omega)) hm1.1 rfl rfl rfl hl.1 rfl (Nat.le_of_ble_eq_true rfl) dL_law_812 ⟨by show kc + 1 + 0 ≤ 601024; omega, by show ks + 6 + 0 ≤ 7293034; omega⟩) hw (fun z2 c2 H locs hP2 hw => ?_)
      rcases hP with ⟨hOK, rfl, hct⟩ | ⟨⟨-, hcc⟩, rfl, hct⟩
      · have hP2 := hP2
        rcases hP2 with ⟨hKK, rfl, hct2⟩ | ⟨hKK, hct2⟩
        · have hcd := True.intro
          have g13 := (hgs (v1).toNat (by omega)).2.2.2.2.2.2.1
          have h8c : c2 8 = zmo ad n (0) (bl) := (congrFun hct2 8).trans (zU_n (by omega) (zU_s _ _ _))
          have h25c : c2 25 = zL G 1 (zup Fo 0 (pjo (σ (v1).toNat))) := (congrFun hct2 25).trans (zU_n (by omega) (zU_n (by omega) ((congrFun hct 25).trans (zU_s _ _ _))))
          obtain ⟨-, m9, m10, m11, m12, m13, m14, m15, m16, m17, m18⟩ := id hm1
          have hM2 : zMst G ad c2 n 0 bl (Fmn) (Fsp) (Fms) (Fco) (Fst) (Fmo) (Fsk) (Fts) (Ftm) (zup Fjn v1 1) := ⟨h8c, (congrFun hct2 9).trans (zU_n (by omega) (zU_n (by omega) (m9))), (congrFun hct2 10).trans (zU_n (by omega) (zU_n (by omega) (m10))), (congrFun hct2 11).trans (zU_n (by omega) (zU_n (by omega) (m11))), (congrFun hct2 12).trans (zU_n (by omega) (zU_n (by omega) (m12))), (congrFun hct2 13).trans (zU_n (by omega) (zU_n (by omega) (m13))), (congrFun hct2 14).trans (zU_n (by omega) (zU_n (by omega) (m14))), (congrFun hct2 15).trans (zU_n (by omega) (zU_n (by omega) (m15))), (congrFun hct2 16).trans (zU_n (by omega) (zU_n (by omega) (m16))), (congrFun hct2 17).trans (zU_n (by omega) (zU_n (by omega) (m17))), (congrFun hct2 18).trans (zU_s _ _ _)⟩
          have hLI2 := zLI_join (ct' := c2) (k := (v1).toNat) hLI (by omega) (by omega) (Or.inr rfl) hM2 ((congrFun hct2 _).trans (zU_n (by omega) (zU_n (by omega) ((congrFun hct _).trans (zU_n (by omega) (zU_s _ _ _)))))) (fun j hj => (congrFun hct2 j).trans (zU_n (by omega) (zU_n (by omega) ((congrFun hct j).trans (zU_n (by omega) (zU_n (by omega) (rfl))))))) ⟨_, h25c⟩
          refine lv_istore (lv' := [(6, zi (pjo (σ (v1).toNat))), (5, zi (0)), (0, .ref b), (1, .ref (ad (0))), (2, .ref (ad (8))), (3, .ref (ad (25))), (4, zi (i))]) hx hb dL_law_815 hl (by decide) rfl (fun ls hl => ?_)
          refine lv_aload_n hx hb dL_law_817 rfl (lv_at hl 4 rfl) ?_
          refine z_kI (z_runV (k := 8) (As := []) (rest := []) (fs := [zi (0), zi (n), .ref (ad (9)), .ref (ad (10)), .ref (ad (11)), .ref (ad (12)), .ref (ad (13)), .ref (ad (14)), .ref (ad (15)), .ref (ad (16)), .ref (ad (17)), .ref (ad (18)), .ref (ad (19)), .ref (ad (20)), .ref (ad (21)), .ref (ad (22)), zi (bl), .ref (ad (23)), .ref (ad (24))]) ⟨hx, hb, hml, hown, hts⟩ hK hw (k_thr l hl0 G _ _ _ _ (n) (0) (bl) (hIa 8 (by omega)) h8c) (cwV 0 hts gL_law_X4_thrown rfl rfl rfl (by decide +kernel) ⟨Nat.le_of_ble_eq_true rfl, Nat.le_of_ble_eq_true rfl⟩) (hIa 8 (by omega)) h8c rfl rfl rfl hl.1 rfl (Nat.le_of_ble_eq_true rfl) dL_law_818 ⟨by show kc + 1 + 0 + 0 ≤ 601024; omega, by show ks + 6 + 0 + 0 ≤ 7293034; omega⟩) hw (fun z9 c3 H locs hP9 hw => ?_)
          obtain ⟨rfl, hc3⟩ := hP9
          rw [hc3] at hw
          refine lv_iload hx hb dL_law_821 (lv_at hl 1 rfl) ?_
          refine z_icmp_eq (tgt := 828) hx hb dL_law_823 (by decide) ⟨by decide, by decide⟩ ⟨by decide, by decide⟩ (fun c_11 => ?_) (fun c_11 => ?_)
          · refine lv_iload hx hb dL_law_828 (lv_at hl 1 rfl) ?_
            refine z_if_ne (tgt := 852) hx hb dL_law_830 (by decide) ⟨by decide, by decide⟩ (fun c_12 => ?_) (fun c_12 => ?_)
            · exact absurd c_12 (by decide)
            · refine lv_aload_n hx hb dL_law_833 rfl (lv_at hl 5 rfl) ?_
              refine z_ic hx hb dL_law_834 ?_
              refine z_lald (f := zup Fo 0 (pjo (σ (v1).toNat))) hx hb hK hw (hIa 25 (by omega)) h25c (by decide) (by decide) (by decide) dL_law_835 ?_
              rw [show ((zup Fo 0 (pjo (σ (v1).toNat))) (0) : Int) = pjo (σ (v1).toNat) from zup_s _ _ _]
              refine lv_iload hx hb dL_law_836 (lv_at hl 0 rfl) ?_
              refine z_if_eq (tgt := 845) hx hb dL_law_838 (by decide) ⟨by omega, by omega⟩ (fun c_13 => ?_) (fun c_13 => ?_)
              · refine z_lc0 hx hb dL_law_845 ?_
                refine z_lcmp_eq (tgt := 852) hx hb dL_law_846 dL_law_847 (by decide) ⟨by omega, by omega⟩ ⟨by decide, by decide⟩ (fun c_14 => ?_) (fun c_14 => ?_)
                · refine lv_goto (tgt := 1127) hx hb dL_law_852 (by decide) ?_
                  exact kk _ _ _ _ _ _ _ _ _ _ _ _ _ _ _ _ _ _ _ H locs _ _ _ hLI2 hw (by omega) (by omega) (lv_sub hl [2, 3, 4, 5, 6] rfl)
                · exact absurd (by omega) c_14
              · refine z_lc1 hx hb dL_law_841 ?_
                refine lv_goto (tgt := 846) hx hb dL_law_842 (by decide) ?_
                refine z_lcmp_eq (tgt := 852) hx hb dL_law_846 dL_law_847 (by decide) ⟨by omega, by omega⟩ ⟨by decide, by decide⟩ (fun c_15 => ?_) (fun c_15 => ?_)
                · refine lv_goto (tgt := 1127) hx hb dL_law_852 (by decide) ?_
                  exact kk _ _ _ _ _ _ _ _ _ _ _ _ _ _ _ _ _ _ _ H locs _ _ _ hLI2 hw (by omega) (by omega) (lv_sub hl [2, 3, 4, 5, 6] rfl)
                · exact absurd (by omega) c_15
          · exact absurd c_11 (by decide)
        · exfalso; omega
      · have hP2 := hP2
        rcases hP2 with ⟨hKK, rfl, hct2⟩ | ⟨hKK, hct2⟩
        · exfalso; omega
        · have hcd := True.intro
          have h8c : c2 8 = zmo ad n (1) (bl) := (congrFun hct2 8).trans (zU_s _ _ _)
          have h25c : c2 25 = zL G 1 (Fo) := (congrFun hct2 25).trans (zU_n (by omega) ((congrFun hct 25).trans (h25)))
          have hLI2 := zLI_q (ct' := c2) hLI (fun j j1 j2 j3 j4 j5 j6 => (congrFun hct2 j).trans (zU_n (by omega) ((congrFun hct j).trans (rfl)))) ⟨_, _, _, _, (congrFun hct2 2).trans (zU_n (by omega) ((congrFun hct 2).trans (h2)))⟩ ⟨_, h8c⟩ ⟨Fpl, Fgr, Fab, (congrFun hct2 19).trans (zU_n (by omega) hc1.1), (congrFun hct2 20).trans (zU_n (by omega) hc1.2.1), (congrFun hct2 21).trans (zU_n (by omega) hc1.2.2)⟩ ⟨_, h25c⟩
          refine lv_istore (lv' := [(6, zi (z2)), (5, zi (1)), (0, .ref b), (1, .ref (ad (0))), (2, .ref (ad (8))), (3, .ref (ad (25))), (4, zi (i))]) hx hb dL_law_815 hl (by decide) rfl (fun ls hl => ?_)
          refine lv_aload_n hx hb dL_law_817 rfl (lv_at hl 4 rfl) ?_
          refine z_kI (z_runV (k := 8) (As := []) (rest := []) (fs := [zi (1), zi (n), .ref (ad (9)), .ref (ad (10)), .ref (ad (11)), .ref (ad (12)), .ref (ad (13)), .ref (ad (14)), .ref (ad (15)), .ref (ad (16)), .ref (ad (17)), .ref (ad (18)), .ref (ad (19)), .ref (ad (20)), .ref (ad (21)), .ref (ad (22)), zi (bl), .ref (ad (23)), .ref (ad (24))]) ⟨hx, hb, hml, hown, hts⟩ hK hw (k_thr l hl0 G _ _ _ _ (n) (1) (bl) (hIa 8 (by omega)) h8c) (cwV 0 hts gL_law_X4_thrown rfl rfl rfl (by decide +kernel) ⟨Nat.le_of_ble_eq_true rfl, Nat.le_of_ble_eq_true rfl⟩) (hIa 8 (by omega)) h8c rfl rfl rfl hl.1 rfl (Nat.le_of_ble_eq_true rfl) dL_law_818 ⟨by show kc + 1 + 0 + 0 ≤ 601024; omega, by show ks + 6 + 0 + 0 ≤ 7293034; omega⟩) hw (fun z9 c3 H locs hP9 hw => ?_)
          obtain ⟨rfl, hc3⟩ := hP9
          rw [hc3] at hw
          refine lv_iload hx hb dL_law_821 (lv_at hl 1 rfl) ?_
          refine z_icmp_eq (tgt := 828) hx hb dL_law_823 (by decide) ⟨by decide, by decide⟩ ⟨by decide, by decide⟩ (fun c_16 => ?_) (fun c_16 => ?_)
          · refine lv_iload hx hb dL_law_828 (lv_at hl 1 rfl) ?_
            refine z_if_ne (tgt := 852) hx hb dL_law_830 (by decide) ⟨by decide, by decide⟩ (fun c_17 => ?_) (fun c_17 => ?_)
            · refine lv_goto (tgt := 1127) hx hb dL_law_852 (by decide) ?_
              exact kk _ _ _ _ _ _ _ _ _ _ _ _ _ _ _ _ _ _ _ H locs _ _ _ hLI2 hw (by omega) (by omega) (lv_sub hl [2, 3, 4, 5, 6] rfl)
            · exact absurd c_17 (by decide)
          · exact absurd c_16 (by decide)

set_option maxHeartbeats 4000000 in
set_option maxRecDepth 100000 in
theorem law_blow {p : Program} {e : Env} {s : State} {m : MethodId} {below : List Frame} {meth : Method} {c : Code} {l : Launch} (hl0 : l.stackTraces = false) {b L : Nat} {xs : Nat → Int32} (hL : L ≤ 2560) (C0 : lw_At p s m meth c b L xs) {G : zG} (hK : zK G (fun q : Nat => s.heap.size ≤ q) s s.heap) {i : Int} (hi0 : 0 ≤ i) (hi5 : i + 5 ≤ L) {kc ks : Nat} (hkc : kc + 50 ≤ 601024) (hks : ks + 500 ≤ 7293034) {I : List Nat} {ad : Nat → Nat} {ct : Nat → va_E} {n : Nat} {σ : Nat → zPl} {b0 bl : Int} {wv Fwv Fmn Fsp Fms Fco Fst Fmo Fsk Fts Ftm Fjn : Int → Int} (hLI : zLI G I ad ct n σ b0 bl wv Fwv Fmn Fsp Fms Fco Fst Fmo Fsk Fts Ftm Fjn) {H : Heap} {locs : List Loc} (hw : zW G (fun q : Nat => s.heap.size ≤ q) s.heap H locs I ad ct) {ls : Array Slot} (hl : lv_has ls 7 [(0, .ref b), (1, .ref (ad 0)), (2, .ref (ad 8)), (3, .ref (ad 25)), (4, zi i)]) (kk : zBk p l e s m b below meth c G i kc ks) : W p l e room_1 s m #[Value.ref b] below meth c H locs kc ks (lw_Z below #[Value.ref b] s) (F0 m 979 ls []) := by
  obtain ⟨hx, hb, hr, hml, hown0, hts0, hX, hbs, hlk, hgv⟩ := id C0
  have hown : s.vm.findClass RL = some m.cls := hown0
  have hts : ∀ w ∈ wsL_law, w.before #[Value.ref b] s = true := fun w h => hts0 w (wsL_law_in w h)
  have hbA : ¬ (fun q : Nat => s.heap.size ≤ q) b := Nat.not_le.mpr hbs
  obtain ⟨hn6, hIa, hIb, hmm, hgs, hRel, hz0, hz9, hbl, h0, h1, hps, ⟨w, p0, f0, a0, h2⟩, ⟨b1, f, g, h, h3, h4, h5, h6, h7⟩, ⟨cd, hms⟩, ⟨Fpl, Fgr, Fab, hmc⟩, ⟨Fat, Fsd, hmb⟩, ⟨Fo, h25⟩⟩ := id hLI
  have hM : ∀ j : Nat, 8 ≤ j → j ≤ 24 → j ∈ I := fun j _ h => hIa j (by omega)
  obtain ⟨v1, e1⟩ : ∃ v : Int, zAx xs (i + 1) = v := ⟨_, rfl⟩
  have hr1 : zr v1 := by rw [← e1]; exact zAx_r _ _
  obtain ⟨v2, e2⟩ : ∃ v : Int, zAx xs (i + 2) = v := ⟨_, rfl⟩
  have hr2 : zr v2 := by rw [← e2]; exact zAx_r _ _
  obtain ⟨v3, e3⟩ : ∃ v : Int, zAx xs (i + 3) = v := ⟨_, rfl⟩
  have hr3 : zr v3 := by rw [← e3]; exact zAx_r _ _
  obtain ⟨v4, e4⟩ : ∃ v : Int, zAx xs (i + 4) = v := ⟨_, rfl⟩
  have hr4 : zr v4 := by rw [← e4]; exact zAx_r _ _
  refine lv_aload_n hx hb dL_law_979 rfl (lv_at hl 1 rfl) ?_
  refine lv_aload_n hx hb dL_law_980 rfl (lv_at hl 0 rfl) ?_
  refine lv_iload hx hb dL_law_981 (lv_at hl 4 rfl) ?_
  refine z_ic hx hb dL_law_983 ?_
  refine z_iadd hx hb dL_law_984 ?_
  refine z_sld hx hb hX hbs hbA hw (by omega) (by omega) hL dL_law_985 ?_
  rw [e1]
  refine lv_aload_n hx hb dL_law_986 rfl (lv_at hl 0 rfl) ?_
  refine lv_iload hx hb dL_law_987 (lv_at hl 4 rfl) ?_
  refine z_ic hx hb dL_law_989 ?_
  refine z_iadd hx hb dL_law_990 ?_
  refine z_sld hx hb hX hbs hbA hw (by omega) (by omega) hL dL_law_991 ?_
  rw [e2]
  refine lv_aload_n hx hb dL_law_992 rfl (lv_at hl 0 rfl) ?_
  refine lv_iload hx hb dL_law_993 (lv_at hl 4 rfl) ?_
  refine z_ic hx hb dL_law_995 ?_
  refine z_iadd hx hb dL_law_996 ?_
  refine z_sld hx hb hX hbs hbA hw (by omega) (by omega) hL dL_law_997 ?_
  rw [e3]
  refine lv_aload_n hx hb dL_law_998 rfl (lv_at hl 3 rfl) ?_
  refine z_kI (z_runSW (As := [.ref (ad (0)), zi (v1), zi (v2), zi (v3), .ref (ad (25))]) (rest := []) ⟨hx, hb, hml, hown, hts⟩ hK hw (l_blow l hl0 G I ad _ _ n hn6 (hIa 0 (by decide)) (hIa 1 (by decide)) h0 h1 σ hgs hmm hps b0 b1 f g h wv (hIa 3 (by decide)) (hIa 4 (by decide)) (hIa 5 (by decide)) (hIa 6 (by decide)) (hIa 7 (by decide)) h3 h4 h5 h6 h7 v1 v2 v3 hr1 hr2 hr3 Fo (hIa 25 (by decide)) h25) (vx_cwSW 5 hts gL_law_L_blow rfl rfl rfl (by decide +kernel) ⟨Nat.le_of_ble_eq_true rfl, Nat.le_of_ble_eq_true rfl⟩) rfl hl.1 rfl (Nat.le_of_ble_eq_true rfl) dL_law_999 ⟨by show kc + 3 ≤ 601024; omega, by show ks + 18 ≤ 7293034; omega⟩) hw (fun k1 c1 H locs hP hw => ?_)
  have hg1 : ∀ j : Nat, 8 ≤ j → j ≤ 24 → c1 j = ct j := by
    rcases hP with ⟨hOK, rfl, f1, g1, h9, wv1, hwv1, hct⟩ | ⟨⟨-, hcc⟩, rfl, hct⟩
    · exact fun j ja jb => (congrFun hct j).trans (zU_n (by omega) (zU5_n (by omega) (rfl)))
    · exact fun j _ _ => congrFun hct j
  have hm1 : zMst G ad c1 n cd bl Fmn Fsp Fms Fco Fst Fmo Fsk Fts Ftm Fjn := zMst_c hms ((hg1 8 (by omega) (by omega)).trans hms.1) (fun j ja jb => hg1 j (by omega) (by omega))
  have hc1 : zMsc G c1 Fpl Fgr Fab := ⟨(hg1 19 (by omega) (by omega)).trans hmc.1, (hg1 20 (by omega) (by omega)).trans hmc.2.1, (hg1 21 (by omega) (by omega)).trans hmc.2.2⟩
  have hb1 : zMbl G c1 Fwv Fat Fsd := ⟨(hg1 22 (by omega) (by omega)).trans hmb.1, (hg1 23 (by omega) (by omega)).trans hmb.2.1, (hg1 24 (by omega) (by omega)).trans hmb.2.2⟩
  refine lv_istore (lv' := [(5, zi (k1)), (0, .ref b), (1, .ref (ad (0))), (2, .ref (ad (8))), (3, .ref (ad (25))), (4, zi (i))]) hx hb dL_law_1002 hl (by decide) rfl (fun ls hl => ?_)
  refine lv_aload_n hx hb dL_law_1004 rfl (lv_at hl 3 rfl) ?_
  refine lv_aload_n hx hb dL_law_1005 rfl (lv_at hl 1 rfl) ?_
  refine lv_iload hx hb dL_law_1006 (lv_at hl 5 rfl) ?_
  refine z_ic hx hb dL_law_1008 ?_
  refine z_iadd hx hb dL_law_1009 ?_
  refine z_sld hx hb hX hbs hbA hw (by omega) (by omega) hL dL_law_1010 ?_
  rw [e1]
  refine lv_aload_n hx hb dL_law_1011 rfl (lv_at hl 1 rfl) ?_
  refine lv_iload hx hb dL_law_1012 (lv_at hl 5 rfl) ?_
  refine z_ic hx hb dL_law_1014 ?_
  refine z_iadd hx hb dL_law_1015 ?_
  refine z_sld hx hb hX hbs hbA hw (by omega) (by omega) hL dL_law_1016 ?_
  rw [e2]
  refine lv_aload_n hx hb dL_law_1017 rfl (lv_at hl 1 rfl) ?_
  refine lv_iload hx hb dL_law_1018 (lv_at hl 5 rfl) ?_
  refine z_ic hx hb dL_law_1020 ?_
  refine z_iadd hx hb dL_law_1021 ?_
  refine z_sld hx hb hX hbs hbA hw (by omega) (by omega) hL dL_law_1022 ?_
  rw [e3]
  refine z_kI (z_runV (k := 8) (As := [zi (v1), zi (v2), zi (v3)]) (rest := []) (fs := [zi (cd), zi (n), .ref (ad (9)), .ref (ad (10)), .ref (ad (11)), .ref (ad (12)), .ref (ad (13)), .ref (ad (14)), .ref (ad (15)), .ref (ad (16)), .ref (ad (17)), .ref (ad (18)), .ref (ad (19)), .ref (ad (20)), .ref (ad (21)), .ref (ad (22)), zi (bl), .ref (ad (23)), .ref (ad (24))]) ⟨hx, hb, hml, hown, hts⟩ hK hw (m_blow l hl0 G I ad _ _ n hn6 σ hgs cd bl Fmn Fsp Fms Fco Fst Fmo Fsk Fts Ftm Fjn Fpl Fgr Fab hRel hM hm1 hc1 Fwv Fat Fsd hb1 v1 v2 v3 hr1 hr2 hr3) (cwV 3 hts gL_law_X4_blow rfl rfl rfl (by decide +kernel) ⟨Nat.le_of_ble_eq_true rfl, Nat.le_of_ble_eq_true rfl⟩) (hIa 8 (by omega)) hm1.1 rfl rfl rfl hl.1 rfl (Nat.le_of_ble_eq_true rfl) dL_law_1023 ⟨by show kc + 3 + 0 ≤ 601024; omega, by show ks + 18 + 0 ≤ 7293034; omega⟩) hw (fun z2 c2 H locs hP2 hw => ?_)
  rcases hP with ⟨hOK, rfl, f1, g1, h9, wv1, hwv1, hct⟩ | ⟨⟨-, hcc⟩, rfl, hct⟩
  · obtain ⟨cd9, bl9, Ft2, Fs2, Fw2, hcase, hct2⟩ := hP2
    rcases hcase with ⟨hKK, rfl, hb9, rfl, hwv2⟩ | ⟨hKK, rfl, hb9, rfl⟩
    · have hcd := True.intro
      rw [hb9] at hct2
      have h8c : c2 8 = zmo ad n (0) (v1) := (congrFun hct2 8).trans (zW3_n (by omega) (zU_s _ _ _))
      have h25c : c2 25 = zL G 1 (zup Fo 0 (zwp (zset (σ (v1).toNat) v2 v3))) := (congrFun hct2 25).trans (zW3_n (by omega) (zU_n (by omega) ((congrFun hct 25).trans (zU_s _ _ _))))
      have hLI2 := zLI_blow (ct' := c2) (k := (v1).toNat) hLI (by omega) (by omega) hwv1 hwv2 h8c ((congrFun hct2 3).trans (zW3_n (by omega) (zU_n (by omega) ((congrFun hct 3).trans (zU_n (by omega) rfl))))) ((congrFun hct2 4).trans (zW3_n (by omega) (zU_n (by omega) ((congrFun hct 4).trans (zU_n (by omega) rfl))))) ((congrFun hct2 5).trans (zW3_n (by omega) (zU_n (by omega) ((congrFun hct 5).trans (zU_n (by omega) rfl))))) ((congrFun hct2 6).trans (zW3_n (by omega) (zU_n (by omega) ((congrFun hct 6).trans (zU_n (by omega) rfl))))) ((congrFun hct2 7).trans (zW3_n (by omega) (zU_n (by omega) ((congrFun hct 7).trans (zU_n (by omega) rfl))))) (congrFun hct2 22) (congrFun hct2 23) (congrFun hct2 24) (fun j hj => (congrFun hct2 j).trans (zW3_n (by omega) (zU_n (by omega) ((congrFun hct j).trans (zU_n (by omega) (zU5_n (by omega) rfl)))))) ⟨_, h25c⟩
      refine lv_istore (lv' := [(6, zi (zset (σ (v1).toNat) v2 v3)), (5, zi (0)), (0, .ref b), (1, .ref (ad (0))), (2, .ref (ad (8))), (3, .ref (ad (25))), (4, zi (i))]) hx hb dL_law_1026 hl (by decide) rfl (fun ls hl => ?_)
      refine lv_aload_n hx hb dL_law_1028 rfl (lv_at hl 4 rfl) ?_
      refine z_kI (z_runV (k := 8) (As := []) (rest := []) (fs := [zi (0), zi (n), .ref (ad (9)), .ref (ad (10)), .ref (ad (11)), .ref (ad (12)), .ref (ad (13)), .ref (ad (14)), .ref (ad (15)), .ref (ad (16)), .ref (ad (17)), .ref (ad (18)), .ref (ad (19)), .ref (ad (20)), .ref (ad (21)), .ref (ad (22)), zi (v1), .ref (ad (23)), .ref (ad (24))]) ⟨hx, hb, hml, hown, hts⟩ hK hw (k_thr l hl0 G _ _ _ _ (n) (0) (v1) (hIa 8 (by omega)) h8c) (cwV 0 hts gL_law_X4_thrown rfl rfl rfl (by decide +kernel) ⟨Nat.le_of_ble_eq_true rfl, Nat.le_of_ble_eq_true rfl⟩) (hIa 8 (by omega)) h8c rfl rfl rfl hl.1 rfl (Nat.le_of_ble_eq_true rfl) dL_law_1029 ⟨by show kc + 3 + 0 + 0 ≤ 601024; omega, by show ks + 18 + 0 + 0 ≤ 7293034; omega⟩) hw (fun z9 c3 H locs hP9 hw => ?_)
      obtain ⟨rfl, hc3⟩ := hP9
      rw [hc3] at hw
      refine lv_iload hx hb dL_law_1032 (lv_at hl 1 rfl) ?_
      refine z_icmp_eq (tgt := 1039) hx hb dL_law_1034 (by decide) ⟨by decide, by decide⟩ ⟨by decide, by decide⟩ (fun c_1 => ?_) (fun c_1 => ?_)
      · refine lv_iload hx hb dL_law_1039 (lv_at hl 1 rfl) ?_
        refine z_if_ne (tgt := 1056) hx hb dL_law_1041 (by decide) ⟨by decide, by decide⟩ (fun c_2 => ?_) (fun c_2 => ?_)
        · exact absurd c_2 (by decide)
        · refine lv_aload_n hx hb dL_law_1044 rfl (lv_at hl 5 rfl) ?_
          refine z_ic hx hb dL_law_1045 ?_
          refine z_lald (f := zup Fo 0 (zwp (zset (σ (v1).toNat) v2 v3))) hx hb hK hw (hIa 25 (by omega)) h25c (by decide) (by decide) (by decide) dL_law_1046 ?_
          rw [show ((zup Fo 0 (zwp (zset (σ (v1).toNat) v2 v3))) (0) : Int) = zwp (zset (σ (v1).toNat) v2 v3) from zup_s _ _ _]
          refine lv_iload hx hb dL_law_1047 (lv_at hl 0 rfl) ?_
          refine z_i2lw hx hb dL_law_1049 ?_
          refine z_lcmp_eq (tgt := 1056) hx hb dL_law_1050 dL_law_1051 (by decide) ⟨by have := zwp_r (zset (σ (v1).toNat) v2 v3); omega, by have := zwp_r (zset (σ (v1).toNat) v2 v3); omega⟩ ⟨by have := zwp_r (zset (σ (v1).toNat) v2 v3); omega, by have := zwp_r (zset (σ (v1).toNat) v2 v3); omega⟩ (fun c_3 => ?_) (fun c_3 => ?_)
          · refine lv_goto (tgt := 1127) hx hb dL_law_1056 (by decide) ?_
            exact kk _ _ _ _ _ _ _ _ _ _ _ _ _ _ _ _ _ _ _ H locs _ _ _ hLI2 hw (by omega) (by omega) (lv_sub hl [2, 3, 4, 5, 6] rfl)
          · exact absurd rfl c_3
      · exact absurd c_1 (by decide)
    · exfalso; omega
  · obtain ⟨cd9, bl9, Ft2, Fs2, Fw2, hcase, hct2⟩ := hP2
    rcases hcase with ⟨hKK, rfl, hb9, rfl, hwv2⟩ | ⟨hKK, rfl, hb9, rfl⟩
    · exfalso; omega
    · have hcd := True.intro
      rw [hb9] at hct2
      have h8c : c2 8 = zmo ad n (1) (bl) := (congrFun hct2 8).trans (zW3_n (by omega) (zU_s _ _ _))
      have h25c : c2 25 = zL G 1 Fo := (congrFun hct2 25).trans (zW3_n (by omega) (zU_n (by omega) ((congrFun hct 25).trans h25)))
      have hLI2 := zLI_q2 (ct' := c2) hLI (fun j j1 j2 j3 j4 => (congrFun hct2 j).trans (zW3_n (by omega) (zU_n (by omega) (congrFun hct j)))) ⟨_, h8c⟩ ⟨_, _, congrFun hct2 22, congrFun hct2 23, congrFun hct2 24⟩
      refine lv_istore (lv' := [(6, zi (z2)), (5, zi (1)), (0, .ref b), (1, .ref (ad (0))), (2, .ref (ad (8))), (3, .ref (ad (25))), (4, zi (i))]) hx hb dL_law_1026 hl (by decide) rfl (fun ls hl => ?_)
      refine lv_aload_n hx hb dL_law_1028 rfl (lv_at hl 4 rfl) ?_
      refine z_kI (z_runV (k := 8) (As := []) (rest := []) (fs := [zi (1), zi (n), .ref (ad (9)), .ref (ad (10)), .ref (ad (11)), .ref (ad (12)), .ref (ad (13)), .ref (ad (14)), .ref (ad (15)), .ref (ad (16)), .ref (ad (17)), .ref (ad (18)), .ref (ad (19)), .ref (ad (20)), .ref (ad (21)), .ref (ad (22)), zi (bl), .ref (ad (23)), .ref (ad (24))]) ⟨hx, hb, hml, hown, hts⟩ hK hw (k_thr l hl0 G _ _ _ _ (n) (1) (bl) (hIa 8 (by omega)) h8c) (cwV 0 hts gL_law_X4_thrown rfl rfl rfl (by decide +kernel) ⟨Nat.le_of_ble_eq_true rfl, Nat.le_of_ble_eq_true rfl⟩) (hIa 8 (by omega)) h8c rfl rfl rfl hl.1 rfl (Nat.le_of_ble_eq_true rfl) dL_law_1029 ⟨by show kc + 3 + 0 + 0 ≤ 601024; omega, by show ks + 18 + 0 + 0 ≤ 7293034; omega⟩) hw (fun z9 c3 H locs hP9 hw => ?_)
      obtain ⟨rfl, hc3⟩ := hP9
      rw [hc3] at hw
      refine lv_iload hx hb dL_law_1032 (lv_at hl 1 rfl) ?_
      refine z_icmp_eq (tgt := 1039) hx hb dL_law_1034 (by decide) ⟨by decide, by decide⟩ ⟨by decide, by decide⟩ (fun c_4 => ?_) (fun c_4 => ?_)
      · refine lv_iload hx hb dL_law_1039 (lv_at hl 1 rfl) ?_
        refine z_if_ne (tgt := 1056) hx hb dL_law_1041 (by decide) ⟨by decide, by decide⟩ (fun c_5 => ?_) (fun c_5 => ?_)
        · refine lv_goto (tgt := 1127) hx hb dL_law_1056 (by decide) ?_
          exact kk _ _ _ _ _ _ _ _ _ _ _ _ _ _ _ _ _ _ _ H locs _ _ _ hLI2 hw (by omega) (by omega) (lv_sub hl [2, 3, 4, 5, 6] rfl)
        · exact absurd c_5 (by decide)
      · exact absurd c_4 (by decide)
