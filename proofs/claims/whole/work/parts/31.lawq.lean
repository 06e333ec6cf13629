set_option maxHeartbeats 4000000 in
set_option maxRecDepth 100000 in
theorem law_under {p : Program} {e : Env} {s : State} {m : MethodId} {below : List Frame} {meth : Method} {c : Code} {l : Launch} (hl0 : l.stackTraces = false) {b L : Nat} {xs : Nat → Int32} (hL : L ≤ 2560) (C0 : lw_At p s m meth c b L xs) {G : zG} (hK : zK G (fun q : Nat => s.heap.size ≤ q) s s.heap) {i : Int} (hi0 : 0 ≤ i) (hi5 : i + 5 ≤ L) {kc ks : Nat} (hkc : kc + 50 ≤ 601024) (hks : ks + 500 ≤ 7293034) {I : List Nat} {ad : Nat → Nat} {ct : Nat → va_E} {n : Nat} {σ : Nat → zPl} {b0 bl : Int} {wv Fwv Fmn Fsp Fms Fco Fst Fmo Fsk Fts Ftm Fjn : Int → Int} (hLI : zLI G I ad ct n σ b0 bl wv Fwv Fmn Fsp Fms Fco Fst Fmo Fsk Fts Ftm Fjn) {H : Heap} {locs : List Loc} (hw : zW G (fun q : Nat => s.heap.size ≤ q) s.heap H locs I ad ct) {ls : Array Slot} (hl : lv_has ls 7 [(0, .ref b), (1, .ref (ad 0)), (2, .ref (ad 8)), (3, .ref (ad 25)), (4, zi i)]) (kk : zBk p l e s m b below meth c G i kc ks) : W p l e room_1 s m #[Value.ref b] below meth c H locs kc ks (lw_Z below #[Value.ref b] s) (F0 m 412 ls []) := by
  obtain ⟨hx, hb, hr, hml, hown0, hts0, hX, hbs, hlk, hgv⟩ := id C0
  have hown : s.vm.findClass RL = some m.cls := hown0
  have hts : ∀ w ∈ wsL_law, w.before #[Value.ref b] s = true := fun w h => hts0 w (wsL_law_in w h)
  have hbA : ¬ (fun q : Nat => s.heap.size ≤ q) b := Nat.not_le.mpr hbs
  obtain ⟨hn6, hIa, hIb, hmm, hgs, hRel, hz0, hz9, hbl, h0, h1, hps, ⟨w, p0, f0, a0, h2⟩, ⟨b1, f, g, h, h3, h4, h5, h6, h7⟩, ⟨cd, hms⟩, ⟨Fpl, Fgr, Fab, hmc⟩, ⟨Fat, Fsd, hmb⟩, ⟨Fo, h25⟩⟩ := id hLI
  have hM : ∀ j : Nat, 8 ≤ j → j ≤ 24 → j ∈ I := fun j _ h => hIa j (by omega)
  obtain ⟨v1, e1⟩ : ∃ v : Int, zAx xs (i + 1) = v := ⟨_, rfl⟩
  have hr1 : zr v1 := by rw [← e1]; exact zAx_r _ _
  obtain ⟨v2, e2⟩ : ∃ v : Int, zAx xs (i + 2) = v := ⟨_, rfl⟩
  have hr2 : zr v2 := by rw [← e2]; exact zAx_r _ _
  obtain ⟨v3, e3⟩ : ∃ v : Int, zAx xs (i + 3) = v := ⟨_, rfl⟩
  have hr3 : zr v3 := by rw [← e3]; exact zAx_r _ _
  obtain ⟨v4, e4⟩ : ∃ v : Int, zAx xs (i + 4) = v := ⟨_, rfl⟩
  have hr4 : zr v4 := by rw [← e4]; exact zAx_r _ _
  refine lv_aload_n hx hb dL_law_412 rfl (lv_at hl 1 rfl) ?_
  refine lv_aload_n hx hb dL_law_413 rfl (lv_at hl 0 rfl) ?_
  refine lv_iload hx hb dL_law_414 (lv_at hl 4 rfl) ?_
  refine z_ic hx hb dL_law_416 ?_
  refine z_iadd hx hb dL_law_417 ?_
  refine z_sld hx hb hX hbs hbA hw (by omega) (by omega) hL dL_law_418 ?_
  rw [e1]
  refine lv_aload_n hx hb dL_law_419 rfl (lv_at hl 0 rfl) ?_
  refine lv_iload hx hb dL_law_420 (lv_at hl 4 rfl) ?_
  refine z_ic hx hb dL_law_422 ?_
  refine z_iadd hx hb dL_law_423 ?_
  refine z_sld hx hb hX hbs hbA hw (by omega) (by omega) hL dL_law_424 ?_
  rw [e2]
  refine lv_aload_n hx hb dL_law_425 rfl (lv_at hl 3 rfl) ?_
  refine z_kI (z_runSW (As := [.ref (ad (0)), zi (v1), zi (v2), .ref (ad (25))]) (rest := []) ⟨hx, hb, hml, hown, hts⟩ hK hw (l_under l hl0 G I ad _ _ n hn6 (hIa 0 (by decide)) (hIa 1 (by decide)) h0 h1 σ hgs hmm hps w p0 f0 a0 (hIa 2 (by decide)) h2 v1 v2 hr1 hr2 Fo (hIa 25 (by decide)) h25) (vx_cwSW 4 hts gL_law_L_under rfl rfl rfl (by decide +kernel) ⟨Nat.le_of_ble_eq_true rfl, Nat.le_of_ble_eq_true rfl⟩) rfl hl.1 rfl (Nat.le_of_ble_eq_true rfl) dL_law_426 ⟨by show kc + 2 ≤ 601024; omega, by show ks + 12 ≤ 7293034; omega⟩) hw (fun k1 c1 H locs hP hw => ?_)
  have hg1 : ∀ j : Nat, 8 ≤ j → j ≤ 24 → c1 j = ct j := by
    rcases hP with ⟨hOK, rfl, w1, p1, f1, a9, hct⟩ | ⟨⟨-, hcc⟩, rfl, hct⟩
    · exact fun j ja jb => (congrFun hct j).trans (zU_n (by omega) (zU_n (by omega) (rfl)))
    · exact fun j _ _ => congrFun hct j
  have hm1 : zMst G ad c1 n cd bl Fmn Fsp Fms Fco Fst Fmo Fsk Fts Ftm Fjn := zMst_c hms ((hg1 8 (by omega) (by omega)).trans hms.1) (fun j ja jb => hg1 j (by omega) (by omega))
  have hc1 : zMsc G c1 Fpl Fgr Fab := ⟨(hg1 19 (by omega) (by omega)).trans hmc.1, (hg1 20 (by omega) (by omega)).trans hmc.2.1, (hg1 21 (by omega) (by omega)).trans hmc.2.2⟩
  refine lv_istore (lv' := [(5, zi (k1)), (0, .ref b), (1, .ref (ad (0))), (2, .ref (ad (8))), (3, .ref (ad (25))), (4, zi (i))]) hx hb dL_law_429 hl (by decide) rfl (fun ls hl => ?_)
  refine lv_aload_n hx hb dL_law_431 rfl (lv_at hl 3 rfl) ?_
  refine lv_aload_n hx hb dL_law_432 rfl (lv_at hl 1 rfl) ?_
  refine lv_iload hx hb dL_law_433 (lv_at hl 5 rfl) ?_
  refine z_ic hx hb dL_law_435 ?_
  refine z_iadd hx hb dL_law_436 ?_
  refine z_sld hx hb hX hbs hbA hw (by omega) (by omega) hL dL_law_437 ?_
  rw [e1]
  refine lv_aload_n hx hb dL_law_438 rfl (lv_at hl 1 rfl) ?_
  refine lv_iload hx hb dL_law_439 (lv_at hl 5 rfl) ?_
  refine z_ic hx hb dL_law_441 ?_
  refine z_iadd hx hb dL_law_442 ?_
  refine z_sld hx hb hX hbs hbA hw (by omega) (by omega) hL dL_law_443 ?_
  rw [e2]
  refine z_kI (z_runV (k := 8) (As := [zi (v1), zi (v2)]) (rest := []) (fs := [zi (cd), zi (n), .ref (ad (9)), .ref (ad (10)), .ref (ad (11)), .ref (ad (12)), .ref (ad (13)), .ref (ad (14)), .ref (ad (15)), .ref (ad (16)), .ref (ad (17)), .ref (ad (18)), .ref (ad (19)), .ref (ad (20)), .ref (ad (21)), .ref (ad (22)), zi (bl), .ref (ad (23)), .ref (ad (24))]) ⟨hx, hb, hml, hown, hts⟩ hK hw (m_under l hl0 G I ad _ _ n hn6 σ hgs cd bl Fmn Fsp Fms Fco Fst Fmo Fsk Fts Ftm Fjn Fpl Fgr Fab hRel hM hm1 hc1 v1 v2 hr1 hr2) (cwV 2 hts gL_law_X4_under rfl rfl rfl (by decide +kernel) ⟨Nat.le_of_ble_eq_true rfl, Nat.le_of_ble_eq_true rfl⟩) (hIa 8 (by omega)) hm1.1 rfl rfl rfl hl.1 rfl (Nat.le_of_ble_eq_true rfl) dL_law_444 ⟨by show kc + 2 + 0 ≤ 601024; omega, by show ks + 12 + 0 ≤ 7293034; omega⟩) hw (fun z2 c2 H locs hP2 hw => ?_)
  rcases hP with ⟨hOK, rfl, w1, p1, f1, a9, hct⟩ | ⟨⟨-, hcc⟩, rfl, hct⟩
  · obtain ⟨cd9, P, Gr, Ab, hcase, hct2⟩ := hP2
    rcases hcase with ⟨hKK, rfl, rfl⟩ | ⟨hKK, rfl⟩
    · have hcd := True.intro
      have h8c : c2 8 = zmo ad n (0) (bl) := (congrFun hct2 8).trans (zM3_n (by omega) (zU_s _ _ _))
      have h25c : c2 25 = zL G 1 (zup Fo 0 (zwp (zun (σ (v1).toNat) v2))) := (congrFun hct2 25).trans (zM3_n (by omega) (zU_n (by omega) ((congrFun hct 25).trans (zU_s _ _ _))))
      have hLI2 := zLI_q (ct' := c2) hLI (fun j j1 j2 j3 j4 j5 j6 => (congrFun hct2 j).trans (zM3_n (by omega) (zU_n (by omega) ((congrFun hct j).trans (zU_n (by omega) (zU_n (by omega) (rfl))))))) ⟨_, _, _, _, (congrFun hct2 2).trans (zM3_n (by omega) (zU_n (by omega) ((congrFun hct 2).trans (zU_n (by omega) (zU_s _ _ _)))))⟩ ⟨_, h8c⟩ ⟨P, Gr, Ab, congrFun hct2 19, congrFun hct2 20, congrFun hct2 21⟩ ⟨_, h25c⟩
      refine lv_istore (lv' := [(6, zi (zun (σ (v1).toNat) v2)), (5, zi (0)), (0, .ref b), (1, .ref (ad (0))), (2, .ref (ad (8))), (3, .ref (ad (25))), (4, zi (i))]) hx hb dL_law_447 hl (by decide) rfl (fun ls hl => ?_)
      refine lv_aload_n hx hb dL_law_449 rfl (lv_at hl 4 rfl) ?_
      refine z_kI (z_runV (k := 8) (As := []) (rest := []) (fs := [zi (0), zi (n), .ref (ad (9)), .ref (ad (10)), .ref (ad (11)), .ref (ad (12)), .ref (ad (13)), .ref (ad (14)), .ref (ad (15)), .ref (ad (16)), .ref (ad (17)), .ref (ad (18)), .ref (ad (19)), .ref (ad (20)), .ref (ad (21)), .ref (ad (22)), zi (bl), .ref (ad (23)), .ref (ad (24))]) ⟨hx, hb, hml, hown, hts⟩ hK hw (k_thr l hl0 G _ _ _ _ (n) (0) (bl) (hIa 8 (by omega)) h8c) (cwV 0 hts gL_law_X4_thrown rfl rfl rfl (by decide +kernel) ⟨Nat.le_of_ble_eq_true rfl, Nat.le_of_ble_eq_true rfl⟩) (hIa 8 (by omega)) h8c rfl rfl rfl hl.1 rfl (Nat.le_of_ble_eq_true rfl) dL_law_450 ⟨by show kc + 2 + 0 + 0 ≤ 601024; omega, by show ks + 12 + 0 + 0 ≤ 7293034; omega⟩) hw (fun z9 c3 H locs hP9 hw => ?_)
      obtain ⟨rfl, hc3⟩ := hP9
      rw [hc3] at hw
      refine lv_iload hx hb dL_law_453 (lv_at hl 1 rfl) ?_
      refine z_icmp_eq (tgt := 460) hx hb dL_law_455 (by decide) ⟨by decide, by decide⟩ ⟨by decide, by decide⟩ (fun c_1 => ?_) (fun c_1 => ?_)
      · refine lv_iload hx hb dL_law_460 (lv_at hl 1 rfl) ?_
        refine z_if_ne (tgt := 477) hx hb dL_law_462 (by decide) ⟨by decide, by decide⟩ (fun c_2 => ?_) (fun c_2 => ?_)
        · exact absurd c_2 (by decide)
        · refine lv_aload_n hx hb dL_law_465 rfl (lv_at hl 5 rfl) ?_
          refine z_ic hx hb dL_law_466 ?_
          refine z_lald (f := zup Fo 0 (zwp (zun (σ (v1).toNat) v2))) hx hb hK hw (hIa 25 (by omega)) h25c (by decide) (by decide) (by decide) dL_law_467 ?_
          rw [show ((zup Fo 0 (zwp (zun (σ (v1).toNat) v2))) (0) : Int) = zwp (zun (σ (v1).toNat) v2) from zup_s _ _ _]
          refine lv_iload hx hb dL_law_468 (lv_at hl 0 rfl) ?_
          refine z_i2lw hx hb dL_law_470 ?_
          refine z_lcmp_eq (tgt := 477) hx hb dL_law_471 dL_law_472 (by decide) ⟨by have := zwp_r (zun (σ (v1).toNat) v2); omega, by have := zwp_r (zun (σ (v1).toNat) v2); omega⟩ ⟨by have := zwp_r (zun (σ (v1).toNat) v2); omega, by have := zwp_r (zun (σ (v1).toNat) v2); omega⟩ (fun c_3 => ?_) (fun c_3 => ?_)
          · refine lv_goto (tgt := 1127) hx hb dL_law_477 (by decide) ?_
            exact kk _ _ _ _ _ _ _ _ _ _ _ _ _ _ _ _ _ _ _ H locs _ _ _ hLI2 hw (by omega) (by omega) (lv_sub hl [2, 3, 4, 5, 6] rfl)
          · exact absurd rfl c_3
      · exact absurd c_1 (by decide)
    · exfalso; omega
  · obtain ⟨cd9, P, Gr, Ab, hcase, hct2⟩ := hP2
    rcases hcase with ⟨hKK, rfl, rfl⟩ | ⟨hKK, rfl⟩
    · exfalso; omega
    · have hcd := True.intro
      have h8c : c2 8 = zmo ad n (1) (bl) := (congrFun hct2 8).trans (zM3_n (by omega) (zU_s _ _ _))
      have h25c : c2 25 = zL G 1 (Fo) := (congrFun hct2 25).trans (zM3_n (by omega) (zU_n (by omega) ((congrFun hct 25).trans (h25))))
      have hLI2 := zLI_q (ct' := c2) hLI (fun j j1 j2 j3 j4 j5 j6 => (congrFun hct2 j).trans (zM3_n (by omega) (zU_n (by omega) ((congrFun hct j).trans (rfl))))) ⟨_, _, _, _, (congrFun hct2 2).trans (zM3_n (by omega) (zU_n (by omega) ((congrFun hct 2).trans (h2))))⟩ ⟨_, h8c⟩ ⟨P, Gr, Ab, congrFun hct2 19, congrFun hct2 20, congrFun hct2 21⟩ ⟨_, h25c⟩
      refine lv_istore (lv' := [(6, zi (z2)), (5, zi (1)), (0, .ref b), (1, .ref (ad (0))), (2, .ref (ad (8))), (3, .ref (ad (25))), (4, zi (i))]) hx hb dL_law_447 hl (by decide) rfl (fun ls hl => ?_)
      refine lv_aload_n hx hb dL_law_449 rfl (lv_at hl 4 rfl) ?_
      refine z_kI (z_runV (k := 8) (As := []) (rest := []) (fs := [zi (1), zi (n), .ref (ad (9)), .ref (ad (10)), .ref (ad (11)), .ref (ad (12)), .ref (ad (13)), .ref (ad (14)), .ref (ad (15)), .ref (ad (16)), .ref (ad (17)), .ref (ad (18)), .ref (ad (19)), .ref (ad (20)), .ref (ad (21)), .ref (ad (22)), zi (bl), .ref (ad (23)), .ref (ad (24))]) ⟨hx, hb, hml, hown, hts⟩ hK hw (k_thr l hl0 G _ _ _ _ (n) (1) (bl) (hIa 8 (by omega)) h8c) (cwV 0 hts gL_law_X4_thrown rfl rfl rfl (by decide +kernel) ⟨Nat.le_of_ble_eq_true rfl, Nat.le_of_ble_eq_true rfl⟩) (hIa 8 (by omega)) h8c rfl rfl rfl hl.1 rfl (Nat.le_of_ble_eq_true rfl) dL_law_450 ⟨by show kc + 2 + 0 + 0 ≤ 601024; omega, by show ks + 12 + 0 + 0 ≤ 7293034; omega⟩) hw (fun z9 c3 H locs hP9 hw => ?_)
      obtain ⟨rfl, hc3⟩ := hP9
      rw [hc3] at hw
      refine lv_iload hx hb dL_law_453 (lv_at hl 1 rfl) ?_
      refine z_icmp_eq (tgt := 460) hx hb dL_law_455 (by decide) ⟨by decide, by decide⟩ ⟨by decide, by decide⟩ (fun c_4 => ?_) (fun c_4 => ?_)
      · refine lv_iload hx hb dL_law_460 (lv_at hl 1 rfl) ?_
        refine z_if_ne (tgt := 477) hx hb dL_law_462 (by decide) ⟨by decide, by decide⟩ (fun c_5 => ?_) (fun c_5 => ?_)
        · refine lv_goto (tgt := 1127) hx hb dL_law_477 (by decide) ?_
          exact kk _ _ _ _ _ _ _ _ _ _ _ _ _ _ _ _ _ _ _ H locs _ _ _ hLI2 hw (by omega) (by omega) (lv_sub hl [2, 3, 4, 5, 6] rfl)
        · exact absurd c_5 (by decide)
      · exact absurd c_4 (by decide)

set_option maxHeartbeats 4000000 in
set_option maxRecDepth 100000 in
theorem law_piece {p : Program} {e : Env} {s : State} {m : MethodId} {below : List Frame} {meth : Method} {c : Code} {l : Launch} (hl0 : l.stackTraces = false) {b L : Nat} {xs : Nat → Int32} (hL : L ≤ 2560) (C0 : lw_At p s m meth c b L xs) {G : zG} (hK : zK G (fun q : Nat => s.heap.size ≤ q) s s.heap) {i : Int} (hi0 : 0 ≤ i) (hi5 : i + 5 ≤ L) {kc ks : Nat} (hkc : kc + 50 ≤ 601024) (hks : ks + 500 ≤ 7293034) {I : List Nat} {ad : Nat → Nat} {ct : Nat → va_E} {n : Nat} {σ : Nat → zPl} {b0 bl : Int} {wv Fwv Fmn Fsp Fms Fco Fst Fmo Fsk Fts Ftm Fjn : Int → Int} (hLI : zLI G I ad ct n σ b0 bl wv Fwv Fmn Fsp Fms Fco Fst Fmo Fsk Fts Ftm Fjn) {H : Heap} {locs : List Loc} (hw : zW G (fun q : Nat => s.heap.size ≤ q) s.heap H locs I ad ct) {ls : Array Slot} (hl : lv_has ls 7 [(0, .ref b), (1, .ref (ad 0)), (2, .ref (ad 8)), (3, .ref (ad 25)), (4, zi i)]) (kk : zBk p l e s m b below meth c G i kc ks) : W p l e room_1 s m #[Value.ref b] below meth c H locs kc ks (lw_Z below #[Value.ref b] s) (F0 m 480 ls []) := by
  obtain ⟨hx, hb, hr, hml, hown0, hts0, hX, hbs, hlk, hgv⟩ := id C0
  have hown : s.vm.findClass RL = some m.cls := hown0
  have hts : ∀ w ∈ wsL_law, w.before #[Value.ref b] s = true := fun w h => hts0 w (wsL_law_in w h)
  have hbA : ¬ (fun q : Nat => s.heap.size ≤ q) b := Nat.not_le.mpr hbs
  obtain ⟨hn6, hIa, hIb, hmm, hgs, hRel, hz0, hz9, hbl, h0, h1, hps, ⟨w, p0, f0, a0, h2⟩, ⟨b1, f, g, h, h3, h4, h5, h6, h7⟩, ⟨cd, hms⟩, ⟨Fpl, Fgr, Fab, hmc⟩, ⟨Fat, Fsd, hmb⟩, ⟨Fo, h25⟩⟩ := id hLI
  have hM : ∀ j : Nat, 8 ≤ j → j ≤ 24 → j ∈ I := fun j _ h => hIa j (by omega)
  obtain ⟨v1, e1⟩ : ∃ v : Int, zAx xs (i + 1) = v := ⟨_, rfl⟩
  have hr1 : zr v1 := by rw [← e1]; exact zAx_r _ _
  obtain ⟨v2, e2⟩ : ∃ v : Int, zAx xs (i + 2) = v := ⟨_, rfl⟩
  have hr2 : zr v2 := by rw [← e2]; exact zAx_r _ _
  obtain ⟨v3, e3⟩ : ∃ v : Int, zAx xs (i + 3) = v := ⟨_, rfl⟩
  have hr3 : zr v3 := by rw [← e3]; exact zAx_r _ _
  obtain ⟨v4, e4⟩ : ∃ v : Int, zAx xs (i + 4) = v := ⟨_, rfl⟩
  have hr4 : zr v4 := by rw [← e4]; exact zAx_r _ _
  refine lv_aload_n hx hb dL_law_480 rfl (lv_at hl 1 rfl) ?_
  refine lv_aload_n hx hb dL_law_481 rfl (lv_at hl 0 rfl) ?_
  refine lv_iload hx hb dL_law_482 (lv_at hl 4 rfl) ?_
  refine z_ic hx hb dL_law_484 ?_
  refine z_iadd hx hb dL_law_485 ?_
  refine z_sld hx hb hX hbs hbA hw (by omega) (by omega) hL dL_law_486 ?_
  rw [e1]
  refine lv_aload_n hx hb dL_law_487 rfl (lv_at hl 0 rfl) ?_
  refine lv_iload hx hb dL_law_488 (lv_at hl 4 rfl) ?_
  refine z_ic hx hb dL_law_490 ?_
  refine z_iadd hx hb dL_law_491 ?_
  refine z_sld hx hb hX hbs hbA hw (by omega) (by omega) hL dL_law_492 ?_
  rw [e2]
  refine lv_aload_n hx hb dL_law_493 rfl (lv_at hl 0 rfl) ?_
  refine lv_iload hx hb dL_law_494 (lv_at hl 4 rfl) ?_
  refine z_ic hx hb dL_law_496 ?_
  refine z_iadd hx hb dL_law_497 ?_
  refine z_sld hx hb hX hbs hbA hw (by omega) (by omega) hL dL_law_498 ?_
  rw [e3]
  refine lv_aload_n hx hb dL_law_499 rfl (lv_at hl 0 rfl) ?_
  refine lv_iload hx hb dL_law_500 (lv_at hl 4 rfl) ?_
  refine z_ic hx hb dL_law_502 ?_
  refine z_iadd hx hb dL_law_503 ?_
  refine z_sld hx hb hX hbs hbA hw (by omega) (by omega) hL dL_law_504 ?_
  rw [e4]
  refine lv_aload_n hx hb dL_law_505 rfl (lv_at hl 3 rfl) ?_
  refine z_kI (z_runSW (As := [.ref (ad (0)), zi (v1), zi (v2), zi (v3), zi (v4), .ref (ad (25))]) (rest := []) ⟨hx, hb, hml, hown, hts⟩ hK hw (l_piece l hl0 G I ad _ _ n hn6 (hIa 0 (by decide)) (hIa 1 (by decide)) h0 h1 σ hgs hmm hps w p0 f0 a0 (hIa 2 (by decide)) h2 v1 v2 v3 v4 hr1 hr2 hr3 hr4 Fo (hIa 25 (by decide)) h25) (vx_cwSW 6 hts gL_law_L_piece rfl rfl rfl (by decide +kernel) ⟨Nat.le_of_ble_eq_true rfl, Nat.le_of_ble_eq_true rfl⟩) rfl hl.1 rfl (Nat.le_of_ble_eq_true rfl) dL_law_506 ⟨by show kc + 4 ≤ 601024; omega, by show ks + 24 ≤ 7293034; omega⟩) hw (fun k1 c1 H locs hP hw => ?_)
  have hg1 : ∀ j : Nat, 8 ≤ j → j ≤ 24 → c1 j = ct j := by
    rcases hP with ⟨hOK, rfl, w1, p1, f1, a9, hct⟩ | ⟨⟨-, hcc⟩, rfl, hct⟩
    · exact fun j ja jb => (congrFun hct j).trans (zU_n (by omega) (zU_n (by omega) (rfl)))
    · exact fun j _ _ => congrFun hct j
  have hm1 : zMst G ad c1 n cd bl Fmn Fsp Fms Fco Fst Fmo Fsk Fts Ftm Fjn := zMst_c hms ((hg1 8 (by omega) (by omega)).trans hms.1) (fun j ja jb => hg1 j (by omega) (by omega))
  have hc1 : zMsc G c1 Fpl Fgr Fab := ⟨(hg1 19 (by omega) (by omega)).trans hmc.1, (hg1 20 (by omega) (by omega)).trans hmc.2.1, (hg1 21 (by omega) (by omega)).trans hmc.2.2⟩
  refine lv_istore (lv' := [(5, zi (k1)), (0, .ref b), (1, .ref (ad (0))), (2, .ref (ad (8))), (3, .ref (ad (25))), (4, zi (i))]) hx hb dL_law_509 hl (by decide) rfl (fun ls hl => ?_)
  refine lv_aload_n hx hb dL_law_511 rfl (lv_at hl 3 rfl) ?_
  refine lv_aload_n hx hb dL_law_512 rfl (lv_at hl 1 rfl) ?_
  refine lv_iload hx hb dL_law_513 (lv_at hl 5 rfl) ?_
  refine z_ic hx hb dL_law_515 ?_
  refine z_iadd hx hb dL_law_516 ?_
  refine z_sld hx hb hX hbs hbA hw (by omega) (by omega) hL dL_law_517 ?_
  rw [e1]
  refine lv_aload_n hx hb dL_law_518 rfl (lv_at hl 1 rfl) ?_
  refine lv_iload hx hb dL_law_519 (lv_at hl 5 rfl) ?_
  refine z_ic hx hb dL_law_521 ?_
  refine z_iadd hx hb dL_law_522 ?_
  refine z_sld hx hb hX hbs hbA hw (by omega) (by omega) hL dL_law_523 ?_
  rw [e2]
  refine lv_aload_n hx hb dL_law_524 rfl (lv_at hl 1 rfl) ?_
  refine lv_iload hx hb dL_law_525 (lv_at hl 5 rfl) ?_
  refine z_ic hx hb dL_law_527 ?_
  refine z_iadd hx hb dL_law_528 ?_
  refine z_sld hx hb hX hbs hbA hw (by omega) (by omega) hL dL_law_529 ?_
  rw [e3]
  refine lv_aload_n hx hb dL_law_530 rfl (lv_at hl 1 rfl) ?_
  refine lv_iload hx hb dL_law_531 (lv_at hl 5 rfl) ?_
  refine z_ic hx hb dL_law_533 ?_
  refine z_iadd hx hb dL_law_534 ?_
  refine z_sld hx hb hX hbs hbA hw (by omega) (by omega) hL dL_law_535 ?_
  rw [e4]
  refine z_kI (z_runV (k := 8) (As := [zi (v1), zi (v2), zi (v3), zi (v4)]) (rest := []) (fs := [zi (cd), zi (n), .ref (ad (9)), .ref (ad (10)), .ref (ad (11)), .ref (ad (12)), .ref (ad (13)), .ref (ad (14)), .ref (ad (15)), .ref (ad (16)), .ref (ad (17)), .ref (ad (18)), .ref (ad (19)), .ref (ad (20)), .ref (ad (21)), .ref (ad (22)), zi (bl), .ref (ad (23)), .ref (ad (24))]) ⟨hx, hb, hml, hown, hts⟩ hK hw (m_piece l hl0 G I ad _ _ n hn6 σ hgs cd bl Fmn Fsp Fms Fco Fst Fmo Fsk Fts Ftm Fjn Fpl Fgr Fab hRel hM hm1 hc1 v1 v2 v3 v4 hr1 hr2 hr3 hr4) (cwV 4 hts gL_law_X4_piece rfl rfl rfl (by decide +kernel) ⟨Nat.le_of_ble_eq_true rfl, Nat.le_of_ble_eq_true rfl⟩) (hIa 8 (by omega)) hm1.1 rfl rfl rfl hl.1 rfl (Nat.le_of_ble_eq_true rfl) dL_law_536 ⟨by show kc + 4 + 0 ≤ 601024; omega, by show ks + 24 + 0 ≤ 7293034; omega⟩) hw (fun z2 c2 H locs hP2 hw => ?_)
  rcases hP with ⟨hOK, rfl, w1, p1, f1, a9, hct⟩ | ⟨⟨-, hcc⟩, rfl, hct⟩
  · obtain ⟨cd9, P, Gr, Ab, hcase, hct2⟩ := hP2
    rcases hcase with ⟨hKK, rfl, rfl⟩ | ⟨hKK, rfl⟩
    · have hcd := True.intro
      have h8c : c2 8 = zmo ad n (0) (bl) := (congrFun hct2 8).trans (zM3_n (by omega) (zU_s _ _ _))
      have h25c : c2 25 = zL G 1 (zup Fo 0 (zwp (zpc (σ (v1).toNat) v2 v3 v4))) := (congrFun hct2 25).trans (zM3_n (by omega) (zU_n (by omega) ((congrFun hct 25).trans (zU_s _ _ _))))
      have hLI2 := zLI_q (ct' := c2) hLI (fun j j1 j2 j3 j4 j5 j6 => (congrFun hct2 j).trans (zM3_n (by omega) (zU_n (by omega) ((congrFun hct j).trans (zU_n (by omega) (zU_n (by omega) (rfl))))))) ⟨_, _, _, _, (congrFun hct2 2).trans (zM3_n (by omega) (zU_n (by omega) ((congrFun hct 2).trans (zU_n (by omega) (zU_s _ _ _)))))⟩ ⟨_, h8c⟩ ⟨P, Gr, Ab, congrFun hct2 19, congrFun hct2 20, congrFun hct2 21⟩ ⟨_, h25c⟩
      refine lv_istore (lv' := [(6, zi (zpc (σ (v1).toNat) v2 v3 v4)), (5, zi (0)), (0, .ref b), (1, .ref (ad (0))), (2, .ref (ad (8))), (3, .ref (ad (25))), (4, zi (i))]) hx hb dL_law_539 hl (by decide) rfl (fun ls hl => ?_)
      refine lv_aload_n hx hb dL_law_541 rfl (lv_at hl 4 rfl) ?_
      refine z_kI (z_runV (k := 8) (As := []) (rest := []) (fs := [zi (0), zi (n), .ref (ad (9)), .ref (ad (10)), .ref (ad (11)), .ref (ad (12)), .ref (ad (13)), .ref (ad (14)), .ref (ad (15)), .ref (ad (16)), .ref (ad (17)), .ref (ad (18)), .ref (ad (19)), .ref (ad (20)), .ref (ad (21)), .ref (ad (22)), zi (bl), .ref (ad (23)), .ref (ad (24))]) ⟨hx, hb, hml, hown, hts⟩ hK hw (k_thr l hl0 G _ _ _ _ (n) (0) (bl) (hIa 8 (by omega)) h8c) (cwV 0 hts gL_law_X4_thrown rfl rfl rfl (by decide +kernel) ⟨Nat.le_of_ble_eq_true rfl, Nat.le_of_ble_eq_true rfl⟩) (hIa 8 (by omega)) h8c rfl rfl rfl hl.1 rfl (Nat.le_of_ble_eq_true rfl) dL_law_542 ⟨by show kc + 4 + 0 + 0 ≤ 601024; omega, by show ks + 24 + 0 + 0 ≤ 7293034; omega⟩) hw (fun z9 c3 H locs hP9 hw => ?_)
      obtain ⟨rfl, hc3⟩ := hP9
      rw [hc3] at hw
      refine lv_iload hx hb dL_law_545 (lv_at hl 1 rfl) ?_
      refine z_icmp_eq (tgt := 552) hx hb dL_law_547 (by decide) ⟨by decide, by decide⟩ ⟨by decide, by decide⟩ (fun c_1 => ?_) (fun c_1 => ?_)
      · refine lv_iload hx hb dL_law_552 (lv_at hl 1 rfl) ?_
        refine z_if_ne (tgt := 569) hx hb dL_law_554 (by decide) ⟨by decide, by decide⟩ (fun c_2 => ?_) (fun c_2 => ?_)
        · exact absurd c_2 (by decide)
        · refine lv_aload_n hx hb dL_law_557 rfl (lv_at hl 5 rfl) ?_
          refine z_ic hx hb dL_law_558 ?_
          refine z_lald (f := zup Fo 0 (zwp (zpc (σ (v1).toNat) v2 v3 v4))) hx hb hK hw (hIa 25 (by omega)) h25c (by decide) (by decide) (by decide) dL_law_559 ?_
          rw [show ((zup Fo 0 (zwp (zpc (σ (v1).toNat) v2 v3 v4))) (0) : Int) = zwp (zpc (σ (v1).toNat) v2 v3 v4) from zup_s _ _ _]
          refine lv_iload hx hb dL_law_560 (lv_at hl 0 rfl) ?_
          refine z_i2lw hx hb dL_law_562 ?_
          refine z_lcmp_eq (tgt := 569) hx hb dL_law_563 dL_law_564 (by decide) ⟨by have := zwp_r (zpc (σ (v1).toNat) v2 v3 v4); omega, by have := zwp_r (zpc (σ (v1).toNat) v2 v3 v4); omega⟩ ⟨by have := zwp_r (zpc (σ (v1).toNat) v2 v3 v4); omega, by have := zwp_r (zpc (σ (v1).toNat) v2 v3 v4); omega⟩ (fun c_3 => ?_) (fun c_3 => ?_)
          · refine lv_goto (tgt := 1127) hx hb dL_law_569 (by decide) ?_
            exact kk _ _ _ _ _ _ _ _ _ _ _ _ _ _ _ _ _ _ _ H locs _ _ _ hLI2 hw (by omega) (by omega) (lv_sub hl [2, 3, 4, 5, 6] rfl)
          · exact absurd rfl c_3
      · exact absurd c_1 (by decide)
    · exfalso; omega
  · obtain ⟨cd9, P, Gr, Ab, hcase, hct2⟩ := hP2
    rcases hcase with ⟨hKK, rfl, rfl⟩ | ⟨hKK, rfl⟩
    · exfalso; omega
    · have hcd := True.intro
      have h8c : c2 8 = zmo ad n (1) (bl) := (congrFun hct2 8).trans (zM3_n (by omega) (zU_s _ _ _))
      have h25c : c2 25 = zL G 1 (Fo) := (congrFun hct2 25).trans (zM3_n (by omega) (zU_n (by omega) ((congrFun hct 25).trans (h25))))
      have hLI2 := zLI_q (ct' := c2) hLI (fun j j1 j2 j3 j4 j5 j6 => (congrFun hct2 j).trans (zM3_n (by omega) (zU_n (by omega) ((congrFun hct j).trans (rfl))))) ⟨_, _, _, _, (congrFun hct2 2).trans (zM3_n (by omega) (zU_n (by omega) ((congrFun hct 2).trans (h2))))⟩ ⟨_, h8c⟩ ⟨P, Gr, Ab, congrFun hct2 19, congrFun hct2 20, congrFun hct2 21⟩ ⟨_, h25c⟩
      refine lv_istore (lv' := [(6, zi (z2)), (5, zi (1)), (0, .ref b), (1, .ref (ad (0))), (2, .ref (ad (8))), (3, .ref (ad (25))), (4, zi (i))]) hx hb dL_law_539 hl (by decide) rfl (fun ls hl => ?_)
      refine lv_aload_n hx hb dL_law_541 rfl (lv_at hl 4 rfl) ?_
      refine z_kI (z_runV (k := 8) (As := []) (rest := []) (fs := [zi (1), zi (n), .ref (ad (9)), .ref (ad (10)), .ref (ad (11)), .ref (ad (12)), .ref (ad (13)), .ref (ad (14)), .ref (ad (15)), .ref (ad (16)), .ref (ad (17)), .ref (ad (18)), .ref (ad (19)), .ref (ad (20)), .ref (ad (21)), .ref (ad (22)), zi (bl), .ref (ad (23)), .ref (ad (24))]) ⟨hx, hb, hml, hown, hts⟩ hK hw (k_thr l hl0 G _ _ _ _ (n) (1) (bl) (hIa 8 (by omega)) h8c) (cwV 0 hts gL_law_X4_thrown rfl rfl rfl (by decide +kernel) ⟨Nat.le_of_ble_eq_true rfl, Nat.le_of_ble_eq_true rfl⟩) (hIa 8 (by omega)) h8c rfl rfl rfl hl.1 rfl (Nat.le_of_ble_eq_true rfl) dL_law_542 ⟨by show kc + 4 + 0 + 0 ≤ 601024; omega, by show ks + 24 + 0 + 0 ≤ 7293034; omega⟩) hw (fun z9 c3 H locs hP9 hw => ?_)
      obtain ⟨rfl, hc3⟩ := hP9
      rw [hc3] at hw
      refine lv_iload hx hb dL_law_545 (lv_at hl 1 rfl) ?_
      refine z_icmp_eq (tgt := 552) hx hb dL_law_547 (by decide) ⟨by decide, by decide⟩ ⟨by decide, by decide⟩ (fun c_4 => ?_) (fun c_4 => ?_)
      · refine lv_iload hx hb dL_law_552 (lv_at hl 1 rfl) ?_
        refine z_if_ne (tgt := 569) hx hb dL_law_554 (by decide) ⟨by decide, by decide⟩ (fun c_5 => ?_) (fun c_5 => ?_)
        · refine lv_goto (tgt := 1127) hx hb dL_law_569 (by decide) ?_
          exact kk _ _ _ _ _ _ _ _ _ _ _ _ _ _ _ _ _ _ _ H locs _ _ _ hLI2 hw (by omega) (by omega) (lv_sub hl [2, 3, 4, 5, 6] rfl)
        · exact absurd c_5 (by decide)
      · exact absurd c_4 (by decide)

set_option maxHeartbeats 4000000 in
set_option maxRecDepth 100000 in
theorem law_load {p : Program} {e : Env} {s : State} {m : MethodId} {below : List Frame} {meth : Method} {c : Code} {l : Launch} (hl0 : l.stackTraces = false) {b L : Nat} {xs : Nat → Int32} (hL : L ≤ 2560) (C0 : lw_At p s m meth c b L xs) {G : zG} (hK : zK G (fun q : Nat => s.heap.size ≤ q) s s.heap) {i : Int} (hi0 : 0 ≤ i) (hi5 : i + 5 ≤ L) {kc ks : Nat} (hkc : kc + 50 ≤ 601024) (hks : ks + 500 ≤ 7293034) {I : List Nat} {ad : Nat → Nat} {ct : Nat → va_E} {n : Nat} {σ : Nat → zPl} {b0 bl : Int} {wv Fwv Fmn Fsp Fms Fco Fst Fmo Fsk Fts Ftm Fjn : Int → Int} (hLI : zLI G I ad ct n σ b0 bl wv Fwv Fmn Fsp Fms Fco Fst Fmo Fsk Fts Ftm Fjn) {H : Heap} {locs : List Loc} (hw : zW G (fun q : Nat => s.heap.size ≤ q) s.heap H locs I ad ct) {ls : Array Slot} (hl : lv_has ls 7 [(0, .ref b), (1, .ref (ad 0)), (2, .ref (ad 8)), (3, .ref (ad 25)), (4, zi i)]) (kk : zBk p l e s m b below meth c G i kc ks) : W p l e room_1 s m #[Value.ref b] below meth c H locs kc ks (lw_Z below #[Value.ref b] s) (F0 m 572 ls []) := by
  obtain ⟨hx, hb, hr, hml, hown0, hts0, hX, hbs, hlk, hgv⟩ := id C0
  have hown : s.vm.findClass RL = some m.cls := hown0
  have hts : ∀ w ∈ wsL_law, w.before #[Value.ref b] s = true := fun w h => hts0 w (wsL_law_in w h)
  have hbA : ¬ (fun q : Nat => s.heap.size ≤ q) b := Nat.not_le.mpr hbs
  obtain ⟨hn6, hIa, hIb, hmm, hgs, hRel, hz0, hz9, hbl, h0, h1, hps, ⟨w, p0, f0, a0, h2⟩, ⟨b1, f, g, h, h3, h4, h5, h6, h7⟩, ⟨cd, hms⟩, ⟨Fpl, Fgr, Fab, hmc⟩, ⟨Fat, Fsd, hmb⟩, ⟨Fo, h25⟩⟩ := id hLI
  have hM : ∀ j : Nat, 8 ≤ j → j ≤ 24 → j ∈ I := fun j _ h => hIa j (by omega)
  obtain ⟨v1, e1⟩ : ∃ v : Int, zAx xs (i + 1) = v := ⟨_, rfl⟩
  have hr1 : zr v1 := by rw [← e1]; exact zAx_r _ _
  obtain ⟨v2, e2⟩ : ∃ v : Int, zAx xs (i + 2) = v := ⟨_, rfl⟩
  have hr2 : zr v2 := by rw [← e2]; exact zAx_r _ _
  obtain ⟨v3, e3⟩ : ∃ v : Int, zAx xs (i + 3) = v := ⟨_, rfl⟩
  have hr3 : zr v3 := by rw [← e3]; exact zAx_r _ _
  obtain ⟨v4, e4⟩ : ∃ v : Int, zAx xs (i + 4) = v := ⟨_, rfl⟩
  have hr4 : zr v4 := by rw [← e4]; exact zAx_r _ _
  refine lv_aload_n hx hb dL_law_572 rfl (lv_at hl 1 rfl) ?_
  refine lv_aload_n hx hb dL_law_573 rfl (lv_at hl 0 rfl) ?_
  refine lv_iload hx hb dL_law_574 (lv_at hl 4 rfl) ?_
  refine z_ic hx hb dL_law_576 ?_
  refine z_iadd hx hb dL_law_577 ?_
  refine z_sld hx hb hX hbs hbA hw (by omega) (by omega) hL dL_law_578 ?_
  rw [e1]
  refine lv_aload_n hx hb dL_law_579 rfl (lv_at hl 0 rfl) ?_
  refine lv_iload hx hb dL_law_580 (lv_at hl 4 rfl) ?_
  refine z_ic hx hb dL_law_582 ?_
  refine z_iadd hx hb dL_law_583 ?_
  refine z_sld hx hb hX hbs hbA hw (by omega) (by omega) hL dL_law_584 ?_
  rw [e2]
  refine lv_aload_n hx hb dL_law_585 rfl (lv_at hl 3 rfl) ?_
  refine z_kI (z_runSW (As := [.ref (ad (0)), zi (v1), zi (v2), .ref (ad (25))]) (rest := []) ⟨hx, hb, hml, hown, hts⟩ hK hw (l_load l hl0 G I ad _ _ n hn6 (hIa 0 (by decide)) (hIa 1 (by decide)) h0 h1 σ hgs hmm hps w p0 f0 a0 (hIa 2 (by decide)) h2 v1 v2 hr1 hr2 Fo (hIa 25 (by decide)) h25) (vx_cwSW 4 hts gL_law_L_load rfl rfl rfl (by decide +kernel) ⟨Nat.le_of_ble_eq_true rfl, Nat.le_of_ble_eq_true rfl⟩) rfl hl.1 rfl (Nat.le_of_ble_eq_true rfl) dL_law_586 ⟨by show kc + 2 ≤ 601024; omega, by show ks + 12 ≤ 7293034; omega⟩) hw (fun k1 c1 H locs hP hw => ?_)
  have hg1 : ∀ j : Nat, 8 ≤ j → j ≤ 24 → c1 j = ct j := by
    rcases hP with ⟨hOK, rfl, w1, p1, f1, a9, hct⟩ | ⟨⟨-, hcc⟩, rfl, hct⟩
    · exact fun j ja jb => (congrFun hct j).trans (zU_n (by omega) (zU_n (by omega) (rfl)))
    · exact fun j _ _ => congrFun hct j
  have hm1 : zMst G ad c1 n cd bl Fmn Fsp Fms Fco Fst Fmo Fsk Fts Ftm Fjn := zMst_c hms ((hg1 8 (by omega) (by omega)).trans hms.1) (fun j ja jb => hg1 j (by omega) (by omega))
  have hc1 : zMsc G c1 Fpl Fgr Fab := ⟨(hg1 19 (by omega) (by omega)).trans hmc.1, (hg1 20 (by omega) (by omega)).trans hmc.2.1, (hg1 21 (by omega) (by omega)).trans hmc.2.2⟩
  refine lv_istore (lv' := [(5, zi (k1)), (0, .ref b), (1, .ref (ad (0))), (2, .ref (ad (8))), (3, .ref (ad (25))), (4, zi (i))]) hx hb dL_law_589 hl (by decide) rfl (fun ls hl => ?_)
  refine lv_aload_n hx hb dL_law_591 rfl (lv_at hl 3 rfl) ?_
  refine lv_aload_n hx hb dL_law_592 rfl (lv_at hl 1 rfl) ?_
  refine lv_iload hx hb dL_law_593 (lv_at hl 5 rfl) ?_
  refine z_ic hx hb dL_law_595 ?_
  refine z_iadd hx hb dL_law_596 ?_
  refine z_sld hx hb hX hbs hbA hw (by omega) (by omega) hL dL_law_597 ?_
  rw [e1]
  refine lv_aload_n hx hb dL_law_598 rfl (lv_at hl 1 rfl) ?_
  refine lv_iload hx hb dL_law_599 (lv_at hl 5 rfl) ?_
  refine z_ic hx hb dL_law_601 ?_
  refine z_iadd hx hb dL_law_602 ?_
  refine z_sld hx hb hX hbs hbA hw (by omega) (by omega) hL dL_law_603 ?_
  rw [e2]
  refine z_kI (z_runV (k := 8) (As := [zi (v1), zi (v2)]) (rest := []) (fs := [zi (cd), zi (n), .ref (ad (9)), .ref (ad (10)), .ref (ad (11)), .ref (ad (12)), .ref (ad (13)), .ref (ad (14)), .ref (ad (15)), .ref (ad (16)), .ref (ad (17)), .ref (ad (18)), .ref (ad (19)), .ref (ad (20)), .ref (ad (21)), .ref (ad (22)), zi (bl), .ref (ad (23)), .ref (ad (24))]) ⟨hx, hb, hml, hown, hts⟩ hK hw (m_load l hl0 G I ad _ _ n hn6 σ hgs cd bl Fmn Fsp Fms Fco Fst Fmo Fsk Fts Ftm Fjn Fpl Fgr Fab hRel hM hm1 hc1 v1 v2 hr1 hr2) (cwV 2 hts gL_law_X4_load rfl rfl rfl (by decide +kernel) ⟨Nat.le_of_ble_eq_true rfl, Nat.le_of_ble_eq_true rfl⟩) (hIa 8 (by omega)) hm1.1 rfl rfl rfl hl.1 rfl (Nat.le_of_ble_eq_true rfl) dL_law_604 ⟨by show kc + 2 + 0 ≤ 601024; omega, by show ks + 12 + 0 ≤ 7293034; omega⟩) hw (fun z2 c2 H locs hP2 hw => ?_)
  rcases hP with ⟨hOK, rfl, w1, p1, f1, a9, hct⟩ | ⟨⟨-, hcc⟩, rfl, hct⟩
  · obtain ⟨cd9, P, Gr, Ab, hcase, hct2⟩ := hP2
    rcases hcase with ⟨hKK, rfl, rfl⟩ | ⟨hKK, rfl⟩
    · have hcd := True.intro
      have h8c : c2 8 = zmo ad n (0) (bl) := (congrFun hct2 8).trans (zM3_n (by omega) (zU_s _ _ _))
      have h25c : c2 25 = zL G 1 (zup Fo 0 (zwp (zld (σ (v1).toNat) (zg (σ (v1).toNat) false v2)))) := (congrFun hct2 25).trans (zM3_n (by omega) (zU_n (by omega) ((congrFun hct 25).trans (zU_s _ _ _))))
      have hLI2 := zLI_q (ct' := c2) hLI (fun j j1 j2 j3 j4 j5 j6 => (congrFun hct2 j).trans (zM3_n (by omega) (zU_n (by omega) ((congrFun hct j).trans (zU_n (by omega) (zU_n (by omega) (rfl))))))) ⟨_, _, _, _, (congrFun hct2 2).trans (zM3_n (by omega) (zU_n (by omega) ((congrFun hct 2).trans (zU_n (by omega) (zU_s _ _ _)))))⟩ ⟨_, h8c⟩ ⟨P, Gr, Ab, congrFun hct2 19, congrFun hct2 20, congrFun hct2 21⟩ ⟨_, h25c⟩
      refine lv_istore (lv' := [(6, zi (zld (σ (v1).toNat) (zg (σ (v1).toNat) false v2))), (5, zi (0)), (0, .ref b), (1, .ref (ad (0))), (2, .ref (ad (8))), (3, .ref (ad (25))), (4, zi (i))]) hx hb dL_law_607 hl (by decide) rfl (fun ls hl => ?_)
      refine lv_aload_n hx hb dL_law_609 rfl (lv_at hl 4 rfl) ?_
      refine z_kI (z_runV (k := 8) (As := []) (rest := []) (fs := [zi (0), zi (n), .ref (ad (9)), .ref (ad (10)), .ref (ad (11)), .ref (ad (12)), .ref (ad (13)), .ref (ad (14)), .ref (ad (15)), .ref (ad (16)), .ref (ad (17)), .ref (ad (18)), .ref (ad (19)), .ref (ad (20)), .ref (ad (21)), .ref (ad (22)), zi (bl), .ref (ad (23)), .ref (ad (24))]) ⟨hx, hb, hml, hown, hts⟩ hK hw (k_thr l hl0 G _ _ _ _ (n) (0) (bl) (hIa 8 (by omega)) h8c) (cwV 0 hts gL_law_X4_thrown rfl rfl rfl (by decide +kernel) ⟨Nat.le_of_ble_eq_true rfl, Nat.le_of_ble_eq_true rfl⟩) (hIa 8 (by omega)) h8c rfl rfl rfl hl.1 rfl (Nat.le_of_ble_eq_true rfl) dL_law_610 ⟨by show kc + 2 + 0 + 0 ≤ 601024; omega, by show ks + 12 + 0 + 0 ≤ 7293034; omega⟩) hw (fun z9 c3 H locs hP9 hw => ?_)
      obtain ⟨rfl, hc3⟩ := hP9
      rw [hc3] at hw
      refine lv_iload hx hb dL_law_613 (lv_at hl 1 rfl) ?_
      refine z_icmp_eq (tgt := 620) hx hb dL_law_615 (by decide) ⟨by decide, by decide⟩ ⟨by decide, by decide⟩ (fun c_1 => ?_) (fun c_1 => ?_)
      · refine lv_iload hx hb dL_law_620 (lv_at hl 1 rfl) ?_
        refine z_if_ne (tgt := 637) hx hb dL_law_622 (by decide) ⟨by decide, by decide⟩ (fun c_2 => ?_) (fun c_2 => ?_)
        · exact absurd c_2 (by decide)
        · refine lv_aload_n hx hb dL_law_625 rfl (lv_at hl 5 rfl) ?_
          refine z_ic hx hb dL_law_626 ?_
          refine z_lald (f := zup Fo 0 (zwp (zld (σ (v1).toNat) (zg (σ (v1).toNat) false v2)))) hx hb hK hw (hIa 25 (by omega)) h25c (by decide) (by decide) (by decide) dL_law_627 ?_
          rw [show ((zup Fo 0 (zwp (zld (σ (v1).toNat) (zg (σ (v1).toNat) false v2)))) (0) : Int) = zwp (zld (σ (v1).toNat) (zg (σ (v1).toNat) false v2)) from zup_s _ _ _]
          refine lv_iload hx hb dL_law_628 (lv_at hl 0 rfl) ?_
          refine z_i2lw hx hb dL_law_630 ?_
          refine z_lcmp_eq (tgt := 637) hx hb dL_law_631 dL_law_632 (by decide) ⟨by have := zwp_r (zld (σ (v1).toNat) (zg (σ (v1).toNat) false v2)); omega, by have := zwp_r (zld (σ (v1).toNat) (zg (σ (v1).toNat) false v2)); omega⟩ ⟨by have := zwp_r (zld (σ (v1).toNat) (zg (σ (v1).toNat) false v2)); omega, by have := zwp_r (zld (σ (v1).toNat) (zg (σ (v1).toNat) false v2)); omega⟩ (fun c_3 => ?_) (fun c_3 => ?_)
          · refine lv_goto (tgt := 1127) hx hb dL_law_637 (by decide) ?_
            exact kk _ _ _ _ _ _ _ _ _ _ _ _ _ _ _ _ _ _ _ H locs _ _ _ hLI2 hw (by omega) (by omega) (lv_sub hl [2, 3, 4, 5, 6] rfl)
          · exact absurd rfl c_3
      · exact absurd c_1 (by decide)
    · exfalso; omega
  · obtain ⟨cd9, P, Gr, Ab, hcase, hct2⟩ := hP2
    rcases hcase with ⟨hKK, rfl, rfl⟩ | ⟨hKK, rfl⟩
    · exfalso; omega
    · have hcd := True.intro
      have h8c : c2 8 = zmo ad n (1) (bl) := (congrFun hct2 8).trans (zM3_n (by omega) (zU_s _ _ _))
      have h25c : c2 25 = zL G 1 (Fo) := (congrFun hct2 25).trans (zM3_n (by omega) (zU_n (by omega) ((congrFun hct 25).trans (h25))))
      have hLI2 := zLI_q (ct' := c2) hLI (fun j j1 j2 j3 j4 j5 j6 => (congrFun hct2 j).trans (zM3_n (by omega) (zU_n (by omega) ((congrFun hct j).trans (rfl))))) ⟨_, _, _, _, (congrFun hct2 2).trans (zM3_n (by omega) (zU_n (by omega) ((congrFun hct 2).trans (h2))))⟩ ⟨_, h8c⟩ ⟨P, Gr, Ab, congrFun hct2 19, congrFun hct2 20, congrFun hct2 21⟩ ⟨_, h25c⟩
      refine lv_istore (lv' := [(6, zi (z2)), (5, zi (1)), (0, .ref b), (1, .ref (ad (0))), (2, .ref (ad (8))), (3, .ref (ad (25))), (4, zi (i))]) hx hb dL_law_607 hl (by decide) rfl (fun ls hl => ?_)
      refine lv_aload_n hx hb dL_law_609 rfl (lv_at hl 4 rfl) ?_
      refine z_kI (z_runV (k := 8) (As := []) (rest := []) (fs := [zi (1), zi (n), .ref (ad (9)), .ref (ad (10)), .ref (ad (11)), .ref (ad (12)), .ref (ad (13)), .ref (ad (14)), .ref (ad (15)), .ref (ad (16)), .ref (ad (17)), .ref (ad (18)), .ref (ad (19)), .ref (ad (20)), .ref (ad (21)), .ref (ad (22)), zi (bl), .ref (ad (23)), .ref (ad (24))]) ⟨hx, hb, hml, hown, hts⟩ hK hw (k_thr l hl0 G _ _ _ _ (n) (1) (bl) (hIa 8 (by omega)) h8c) (cwV 0 hts gL_law_X4_thrown rfl rfl rfl (by decide +kernel) ⟨Nat.le_of_ble_eq_true rfl, Nat.le_of_ble_eq_true rfl⟩) (hIa 8 (by omega)) h8c rfl rfl rfl hl.1 rfl (Nat.le_of_ble_eq_true rfl) dL_law_610 ⟨by show kc + 2 + 0 + 0 ≤ 601024; omega, by show ks + 12 + 0 + 0 ≤ 7293034; omega⟩) hw (fun z9 c3 H locs hP9 hw => ?_)
      obtain ⟨rfl, hc3⟩ := hP9
      rw [hc3] at hw
      refine lv_iload hx hb dL_law_613 (lv_at hl 1 rfl) ?_
      refine z_icmp_eq (tgt := 620) hx hb dL_law_615 (by decide) ⟨by decide, by decide⟩ ⟨by decide, by decide⟩ (fun c_4 => ?_) (fun c_4 => ?_)
      · refine lv_iload hx hb dL_law_620 (lv_at hl 1 rfl) ?_
        refine z_if_ne (tgt := 637) hx hb dL_law_622 (by decide) ⟨by decide, by decide⟩ (fun c_5 => ?_) (fun c_5 => ?_)
        · refine lv_goto (tgt := 1127) hx hb dL_law_637 (by decide) ?_
          exact kk _ _ _ _ _ _ _ _ _ _ _ _ _ _ _ _ _ _ _ H locs _ _ _ hLI2 hw (by omega) (by omega) (lv_sub hl [2, 3, 4, 5, 6] rfl)
        · exact absurd c_5 (by decide)
      · exact absurd c_4 (by decide)

set_option maxHeartbeats 4000000 in
set_option maxRecDepth 100000 in
theorem law_cheapest {p : Program} {e : Env} {s : State} {m : MethodId} {below : List Frame} {meth : Method} {c : Code} {l : Launch} (hl0 : l.stackTraces = false) {b L : Nat} {xs : Nat → Int32} (hL : L ≤ 2560) (C0 : lw_At p s m meth c b L xs) {G : zG} (hK : zK G (fun q : Nat => s.heap.size ≤ q) s s.heap) {i : Int} (hi0 : 0 ≤ i) (hi5 : i + 5 ≤ L) {kc ks : Nat} (hkc : kc + 50 ≤ 601024) (hks : ks + 500 ≤ 7293034) {I : List Nat} {ad : Nat → Nat} {ct : Nat → va_E} {n : Nat} {σ : Nat → zPl} {b0 bl : Int} {wv Fwv Fmn Fsp Fms Fco Fst Fmo Fsk Fts Ftm Fjn : Int → Int} (hLI : zLI G I ad ct n σ b0 bl wv Fwv Fmn Fsp Fms Fco Fst Fmo Fsk Fts Ftm Fjn) {H : Heap} {locs : List Loc} (hw : zW G (fun q : Nat => s.heap.size ≤ q) s.heap H locs I ad ct) {ls : Array Slot} (hl : lv_has ls 7 [(0, .ref b), (1, .ref (ad 0)), (2, .ref (ad 8)), (3, .ref (ad 25)), (4, zi i)]) (kk : zBk p l e s m b below meth c G i kc ks) : W p l e room_1 s m #[Value.ref b] below meth c H locs kc ks (lw_Z below #[Value.ref b] s) (F0 m 696 ls []) := by
  obtain ⟨hx, hb, hr, hml, hown0, hts0, hX, hbs, hlk, hgv⟩ := id C0
  have hown : s.vm.findClass RL = some m.cls := hown0
  have hts : ∀ w ∈ wsL_law, w.before #[Value.ref b] s = true := fun w h => hts0 w (wsL_law_in w h)
  have hbA : ¬ (fun q : Nat => s.heap.size ≤ q) b := Nat.not_le.mpr hbs
  obtain ⟨hn6, hIa, hIb, hmm, hgs, hRel, hz0, hz9, hbl, h0, h1, hps, ⟨w, p0, f0, a0, h2⟩, ⟨b1, f, g, h, h3, h4, h5, h6, h7⟩, ⟨cd, hms⟩, ⟨Fpl, Fgr, Fab, hmc⟩, ⟨Fat, Fsd, hmb⟩, ⟨Fo, h25⟩⟩ := id hLI
  have hM : ∀ j : Nat, 8 ≤ j → j ≤ 24 → j ∈ I := fun j _ h => hIa j (by omega)
  obtain ⟨v1, e1⟩ : ∃ v : Int, zAx xs (i + 1) = v := ⟨_, rfl⟩
  have hr1 : zr v1 := by rw [← e1]; exact zAx_r _ _
  obtain ⟨v2, e2⟩ : ∃ v : Int, zAx xs (i + 2) = v := ⟨_, rfl⟩
  have hr2 : zr v2 := by rw [← e2]; exact zAx_r _ _
  obtain ⟨v3, e3⟩ : ∃ v : Int, zAx xs (i + 3) = v := ⟨_, rfl⟩
  have hr3 : zr v3 := by rw [← e3]; exact zAx_r _ _
  obtain ⟨v4, e4⟩ : ∃ v : Int, zAx xs (i + 4) = v := ⟨_, rfl⟩
  have hr4 : zr v4 := by rw [← e4]; exact zAx_r _ _
  refine lv_aload_n hx hb dL_law_696 rfl (lv_at hl 1 rfl) ?_
  refine lv_aload_n hx hb dL_law_697 rfl (lv_at hl 0 rfl) ?_
  refine lv_iload hx hb dL_law_698 (lv_at hl 4 rfl) ?_
  refine z_ic hx hb dL_law_700 ?_
  refine z_iadd hx hb dL_law_701 ?_
  refine z_sld hx hb hX hbs hbA hw (by omega) (by omega) hL dL_law_702 ?_
  rw [e1]
  refine lv_aload_n hx hb dL_law_703 rfl (lv_at hl 0 rfl) ?_
  refine lv_iload hx hb dL_law_704 (lv_at hl 4 rfl) ?_
  refine z_ic hx hb dL_law_706 ?_
  refine z_iadd hx hb dL_law_707 ?_
  refine z_sld hx hb hX hbs hbA hw (by omega) (by omega) hL dL_law_708 ?_
  rw [e2]
  refine lv_aload_n hx hb dL_law_709 rfl (lv_at hl 3 rfl) ?_
  refine z_kI (z_runSW (As := [.ref (ad (0)), zi (v1), zi (v2), .ref (ad (25))]) (rest := []) ⟨hx, hb, hml, hown, hts⟩ hK hw (l_cheapest l hl0 G I ad _ _ n hn6 (hIa 0 (by decide)) (hIa 1 (by decide)) h0 h1 σ hgs hmm hps w p0 f0 a0 (hIa 2 (by decide)) h2 v1 v2 hr1 hr2 Fo (hIa 25 (by decide)) h25) (vx_cwSW 4 hts gL_law_L_cheapest rfl rfl rfl (by decide +kernel) ⟨Nat.le_of_ble_eq_true rfl, Nat.le_of_ble_eq_true rfl⟩) rfl hl.1 rfl (Nat.le_of_ble_eq_true rfl) dL_law_710 ⟨by show kc + 2 ≤ 601024; omega, by show ks + 12 ≤ 7293034; omega⟩) hw (fun k1 c1 H locs hP hw => ?_)
  have hg1 : ∀ j : Nat, 8 ≤ j → j ≤ 24 → c1 j = ct j := by
    rcases hP with ⟨hOK, rfl, w1, p1, f1, a9, hct⟩ | ⟨⟨-, hcc⟩, rfl, hct⟩
    · exact fun j ja jb => (congrFun hct j).trans (zU_n (by omega) (zU_n (by omega) (rfl)))
    · exact fun j _ _ => congrFun hct j
  have hm1 : zMst G ad c1 n cd bl Fmn Fsp Fms Fco Fst Fmo Fsk Fts Ftm Fjn := zMst_c hms ((hg1 8 (by omega) (by omega)).trans hms.1) (fun j ja jb => hg1 j (by omega) (by omega))
  have hc1 : zMsc G c1 Fpl Fgr Fab := ⟨(hg1 19 (by omega) (by omega)).trans hmc.1, (hg1 20 (by omega) (by omega)).trans hmc.2.1, (hg1 21 (by omega) (by omega)).trans hmc.2.2⟩
  refine lv_istore (lv' := [(5, zi (k1)), (0, .ref b), (1, .ref (ad (0))), (2, .ref (ad (8))), (3, .ref (ad (25))), (4, zi (i))]) hx hb dL_law_713 hl (by decide) rfl (fun ls hl => ?_)
  refine lv_aload_n hx hb dL_law_715 rfl (lv_at hl 3 rfl) ?_
  refine lv_aload_n hx hb dL_law_716 rfl (lv_at hl 1 rfl) ?_
  refine lv_iload hx hb dL_law_717 (lv_at hl 5 rfl) ?_
  refine z_ic hx hb dL_law_719 ?_
  refine z_iadd hx hb dL_law_720 ?_
  refine z_sld hx hb hX hbs hbA hw (by omega) (by omega) hL dL_law_721 ?_
  rw [e1]
  refine lv_aload_n hx hb dL_law_722 rfl (lv_at hl 1 rfl) ?_
  refine lv_iload hx hb dL_law_723 (lv_at hl 5 rfl) ?_
  refine z_ic hx hb dL_law_725 ?_
  refine z_iadd hx hb dL_law_726 ?_
  refine z_sld hx hb hX hbs hbA hw (by omega) (by omega) hL dL_law_727 ?_
  rw [e2]
  refine z_kI (z_runV (k := 8) (As := [zi (v1), zi (v2)]) (rest := []) (fs := [zi (cd), zi (n), .ref (ad (9)), .ref (ad (10)), .ref (ad (11)), .ref (ad (12)), .ref (ad (13)), .ref (ad (14)), .ref (ad (15)), .ref (ad (16)), .ref (ad (17)), .ref (ad (18)), .ref (ad (19)), .ref (ad (20)), .ref (ad (21)), .ref (ad (22)), zi (bl), .ref (ad (23)), .ref (ad (24))]) ⟨hx, hb, hml, hown, hts⟩ hK hw (m_cheapest l hl0 G I ad _ _ n hn6 σ hgs cd bl Fmn Fsp Fms Fco Fst Fmo Fsk Fts Ftm Fjn Fpl Fgr Fab hRel hM hm1 hc1 v1 v2 hr1 hr2) (cwV 2 hts gL_law_X4_cheapest rfl rfl rfl (by decide +kernel) ⟨Nat.le_of_ble_eq_true rfl, Nat.le_of_ble_eq_true rfl⟩) (hIa 8 (by omega)) hm1.1 rfl rfl rfl hl.1 rfl (Nat.le_of_ble_eq_true rfl) dL_law_728 ⟨by show kc + 2 + 0 ≤ 601024; omega, by show ks + 12 + 0 ≤ 7293034; omega⟩) hw (fun z2 c2 H locs hP2 hw => ?_)
  rcases hP with ⟨hOK, rfl, w1, p1, f1, a9, hct⟩ | ⟨⟨-, hcc⟩, rfl, hct⟩
  · obtain ⟨cd9, P, Gr, Ab, hcase, hct2⟩ := hP2
    rcases hcase with ⟨hKK, rfl, rfl⟩ | ⟨hKK, rfl⟩
    · have hcd := True.intro
      have h8c : c2 8 = zmo ad n (0) (bl) := (congrFun hct2 8).trans (zM3_n (by omega) (zU_s _ _ _))
      have h25c : c2 25 = zL G 1 (zup Fo 0 (zwp (zch σ v1 v2 n))) := (congrFun hct2 25).trans (zM3_n (by omega) (zU_n (by omega) ((congrFun hct 25).trans (zU_s _ _ _))))
      have hLI2 := zLI_q (ct' := c2) hLI (fun j j1 j2 j3 j4 j5 j6 => (congrFun hct2 j).trans (zM3_n (by omega) (zU_n (by omega) ((congrFun hct j).trans (zU_n (by omega) (zU_n (by omega) (rfl))))))) ⟨_, _, _, _, (congrFun hct2 2).trans (zM3_n (by omega) (zU_n (by omega) ((congrFun hct 2).trans (zU_n (by omega) (zU_s _ _ _)))))⟩ ⟨_, h8c⟩ ⟨P, Gr, Ab, congrFun hct2 19, congrFun hct2 20, congrFun hct2 21⟩ ⟨_, h25c⟩
      refine lv_istore (lv' := [(6, zi (zch σ v1 v2 n)), (5, zi (0)), (0, .ref b), (1, .ref (ad (0))), (2, .ref (ad (8))), (3, .ref (ad (25))), (4, zi (i))]) hx hb dL_law_731 hl (by decide) rfl (fun ls hl => ?_)
      refine lv_aload_n hx hb dL_law_733 rfl (lv_at hl 4 rfl) ?_
      refine z_kI (z_runV (k := 8) (As := []) (rest := []) (fs := [zi (0), zi (n), .ref (ad (9)), .ref (ad (10)), .ref (ad (11)), .ref (ad (12)), .ref (ad (13)), .ref (ad (14)), .ref (ad (15)), .ref (ad (16)), .ref (ad (17)), .ref (ad (18)), .ref (ad (19)), .ref (ad (20)), .ref (ad (21)), .ref (ad (22)), zi (bl), .ref (ad (23)), .ref (ad (24))]) ⟨hx, hb, hml, hown, hts⟩ hK hw (k_thr l hl0 G _ _ _ _ (n) (0) (bl) (hIa 8 (by omega)) h8c) (cwV 0 hts gL_law_X4_thrown rfl rfl rfl (by decide +kernel) ⟨Nat.le_of_ble_eq_true rfl, Nat.le_of_ble_eq_true rfl⟩) (hIa 8 (by omega)) h8c rfl rfl rfl hl.1 rfl (Nat.le_of_ble_eq_true rfl) dL_law_734 ⟨by show kc + 2 + 0 + 0 ≤ 601024; omega, by show ks + 12 + 0 + 0 ≤ 7293034; omega⟩) hw (fun z9 c3 H locs hP9 hw => ?_)
      obtain ⟨rfl, hc3⟩ := hP9
      rw [hc3] at hw
      refine lv_iload hx hb dL_law_737 (lv_at hl 1 rfl) ?_
      refine z_icmp_eq (tgt := 744) hx hb dL_law_739 (by decide) ⟨by decide, by decide⟩ ⟨by decide, by decide⟩ (fun c_1 => ?_) (fun c_1 => ?_)
      · refine lv_iload hx hb dL_law_744 (lv_at hl 1 rfl) ?_
        refine z_if_ne (tgt := 761) hx hb dL_law_746 (by decide) ⟨by decide, by decide⟩ (fun c_2 => ?_) (fun c_2 => ?_)
        · exact absurd c_2 (by decide)
        · refine lv_aload_n hx hb dL_law_749 rfl (lv_at hl 5 rfl) ?_
          refine z_ic hx hb dL_law_750 ?_
          refine z_lald (f := zup Fo 0 (zwp (zch σ v1 v2 n))) hx hb hK hw (hIa 25 (by omega)) h25c (by decide) (by decide) (by decide) dL_law_751 ?_
          rw [show ((zup Fo 0 (zwp (zch σ v1 v2 n))) (0) : Int) = zwp (zch σ v1 v2 n) from zup_s _ _ _]
          refine lv_iload hx hb dL_law_752 (lv_at hl 0 rfl) ?_
          refine z_i2lw hx hb dL_law_754 ?_
          refine z_lcmp_eq (tgt := 761) hx hb dL_law_755 dL_law_756 (by decide) ⟨by have := zwp_r (zch σ v1 v2 n); omega, by have := zwp_r (zch σ v1 v2 n); omega⟩ ⟨by have := zwp_r (zch σ v1 v2 n); omega, by have := zwp_r (zch σ v1 v2 n); omega⟩ (fun c_3 => ?_) (fun c_3 => ?_)
          · refine lv_goto (tgt := 1127) hx hb dL_law_761 (by decide) ?_
            exact kk _ _ _ _ _ _ _ _ _ _ _ _ _ _ _ _ _ _ _ H locs _ _ _ hLI2 hw (by omega) (by omega) (lv_sub hl [2, 3, 4, 5, 6] rfl)
          · exact absurd rfl c_3
      · exact absurd c_1 (by decide)
    · exfalso; omega
  · obtain ⟨cd9, P, Gr, Ab, hcase, hct2⟩ := hP2
    rcases hcase with ⟨hKK, rfl, rfl⟩ | ⟨hKK, rfl⟩
    · exfalso; omega
    · have hcd := True.intro
      have h8c : c2 8 = zmo ad n (1) (bl) := (congrFun hct2 8).trans (zM3_n (by omega) (zU_s _ _ _))
      have h25c : c2 25 = zL G 1 (Fo) := (congrFun hct2 25).trans (zM3_n (by omega) (zU_n (by omega) ((congrFun hct 25).trans (h25))))
      have hLI2 := zLI_q (ct' := c2) hLI (fun j j1 j2 j3 j4 j5 j6 => (congrFun hct2 j).trans (zM3_n (by omega) (zU_n (by omega) ((congrFun hct j).trans (rfl))))) ⟨_, _, _, _, (congrFun hct2 2).trans (zM3_n (by omega) (zU_n (by omega) ((congrFun hct 2).trans (h2))))⟩ ⟨_, h8c⟩ ⟨P, Gr, Ab, congrFun hct2 19, congrFun hct2 20, congrFun hct2 21⟩ ⟨_, h25c⟩
      refine lv_istore (lv' := [(6, zi (z2)), (5, zi (1)), (0, .ref b), (1, .ref (ad (0))), (2, .ref (ad (8))), (3, .ref (ad (25))), (4, zi (i))]) hx hb dL_law_731 hl (by decide) rfl (fun ls hl => ?_)
      refine lv_aload_n hx hb dL_law_733 rfl (lv_at hl 4 rfl) ?_
      refine z_kI (z_runV (k := 8) (As := []) (rest := []) (fs := [zi (1), zi (n), .ref (ad (9)), .ref (ad (10)), .ref (ad (11)), .ref (ad (12)), .ref (ad (13)), .ref (ad (14)), .ref (ad (15)), .ref (ad (16)), .ref (ad (17)), .ref (ad (18)), .ref (ad (19)), .ref (ad (20)), .ref (ad (21)), .ref (ad (22)), zi (bl), .ref (ad (23)), .ref (ad (24))]) ⟨hx, hb, hml, hown, hts⟩ hK hw (k_thr l hl0 G _ _ _ _ (n) (1) (bl) (hIa 8 (by omega)) h8c) (cwV 0 hts gL_law_X4_thrown rfl rfl rfl (by decide +kernel) ⟨Nat.le_of_ble_eq_true rfl, Nat.le_of_ble_eq_true rfl⟩) (hIa 8 (by omega)) h8c rfl rfl rfl hl.1 rfl (Nat.le_of_ble_eq_true rfl) dL_law_734 ⟨by show kc + 2 + 0 + 0 ≤ 601024; omega, by show ks + 12 + 0 + 0 ≤ 7293034; omega⟩) hw (fun z9 c3 H locs hP9 hw => ?_)
      obtain ⟨rfl, hc3⟩ := hP9
      rw [hc3] at hw
      refine lv_iload hx hb dL_law_737 (lv_at hl 1 rfl) ?_
      refine z_icmp_eq (tgt := 744) hx hb dL_law_739 (by decide) ⟨by decide, by decide⟩ ⟨by decide, by decide⟩ (fun c_4 => ?_) (fun c_4 => ?_)
      · refine lv_iload hx hb dL_law_744 (lv_at hl 1 rfl) ?_
        refine z_if_ne (tgt := 761) hx hb dL_law_746 (by decide) ⟨by decide, by decide⟩ (fun c_5 => ?_) (fun c_5 => ?_)
        · refine lv_goto (tgt := 1127) hx hb dL_law_761 (by decide) ?_
          exact kk _ _ _ _ _ _ _ _ _ _ _ _ _ _ _ _ _ _ _ H locs _ _ _ hLI2 hw (by omega) (by omega) (lv_sub hl [2, 3, 4, 5, 6] rfl)
        · exact absurd c_5 (by decide)
      · exact absurd c_4 (by decide)

set_option maxHeartbeats 4000000 in
set_option maxRecDepth 100000 in
theorem law_hold {p : Program} {e : Env} {s : State} {m : MethodId} {below : List Frame} {meth : Method} {c : Code} {l : Launch} (hl0 : l.stackTraces = false) {b L : Nat} {xs : Nat → Int32} (hL : L ≤ 2560) (C0 : lw_At p s m meth c b L xs) {G : zG} (hK : zK G (fun q : Nat => s.heap.size ≤ q) s s.heap) {i : Int} (hi0 : 0 ≤ i) (hi5 : i + 5 ≤ L) {kc ks : Nat} (hkc : kc + 50 ≤ 601024) (hks : ks + 500 ≤ 7293034) {I : List Nat} {ad : Nat → Nat} {ct : Nat → va_E} {n : Nat} {σ : Nat → zPl} {b0 bl : Int} {wv Fwv Fmn Fsp Fms Fco Fst Fmo Fsk Fts Ftm Fjn : Int → Int} (hLI : zLI G I ad ct n σ b0 bl wv Fwv Fmn Fsp Fms Fco Fst Fmo Fsk Fts Ftm Fjn) {H : Heap} {locs : List Loc} (hw : zW G (fun q : Nat => s.heap.size ≤ q) s.heap H locs I ad ct) {ls : Array Slot} (hl : lv_has ls 7 [(0, .ref b), (1, .ref (ad 0)), (2, .ref (ad 8)), (3, .ref (ad 25)), (4, zi i)]) (kk : zBk p l e s m b below meth c G i kc ks) : W p l e room_1 s m #[Value.ref b] below meth c H locs kc ks (lw_Z below #[Value.ref b] s) (F0 m 640 ls []) := by
  obtain ⟨hx, hb, hr, hml, hown0, hts0, hX, hbs, hlk, hgv⟩ := id C0
  have hown : s.vm.findClass RL = some m.cls := hown0
  have hts : ∀ w ∈ wsL_law, w.before #[Value.ref b] s = true := fun w h => hts0 w (wsL_law_in w h)
  have hbA : ¬ (fun q : Nat => s.heap.size ≤ q) b := Nat.not_le.mpr hbs
  obtain ⟨hn6, hIa, hIb, hmm, hgs, hRel, hz0, hz9, hbl, h0, h1, hps, ⟨w, p0, f0, a0, h2⟩, ⟨b1, f, g, h, h3, h4, h5, h6, h7⟩, ⟨cd, hms⟩, ⟨Fpl, Fgr, Fab, hmc⟩, ⟨Fat, Fsd, hmb⟩, ⟨Fo, h25⟩⟩ := id hLI
  have hM : ∀ j : Nat, 8 ≤ j → j ≤ 24 → j ∈ I := fun j _ h => hIa j (by omega)
  obtain ⟨v1, e1⟩ : ∃ v : Int, zAx xs (i + 1) = v := ⟨_, rfl⟩
  have hr1 : zr v1 := by rw [← e1]; exact zAx_r _ _
  obtain ⟨v2, e2⟩ : ∃ v : Int, zAx xs (i + 2) = v := ⟨_, rfl⟩
  have hr2 : zr v2 := by rw [← e2]; exact zAx_r _ _
  obtain ⟨v3, e3⟩ : ∃ v : Int, zAx xs (i + 3) = v := ⟨_, rfl⟩
  have hr3 : zr v3 := by rw [← e3]; exact zAx_r _ _
  obtain ⟨v4, e4⟩ : ∃ v : Int, zAx xs (i + 4) = v := ⟨_, rfl⟩
  have hr4 : zr v4 := by rw [← e4]; exact zAx_r _ _
  refine lv_aload_n hx hb dL_law_640 rfl (lv_at hl 1 rfl) ?_
  refine lv_aload_n hx hb dL_law_641 rfl (lv_at hl 0 rfl) ?_
  refine lv_iload hx hb dL_law_642 (lv_at hl 4 rfl) ?_
  refine z_ic hx hb dL_law_644 ?_
  refine z_iadd hx hb dL_law_645 ?_
  refine z_sld hx hb hX hbs hbA hw (by omega) (by omega) hL dL_law_646 ?_
  rw [e1]
  refine lv_aload_n hx hb dL_law_647 rfl (lv_at hl 3 rfl) ?_
  refine z_kI (z_runSW (As := [.ref (ad (0)), zi (v1), .ref (ad (25))]) (rest := []) ⟨hx, hb, hml, hown, hts⟩ hK hw (l_hold l hl0 G I ad _ _ n hn6 (hIa 0 (by decide)) (hIa 1 (by decide)) h0 h1 σ hgs hmm hps v1 hr1 Fo (hIa 25 (by decide)) h25) (vx_cwSW 3 hts gL_law_L_hold rfl rfl rfl (by decide +kernel) ⟨Nat.le_of_ble_eq_true rfl, Nat.le_of_ble_eq_true rfl⟩) rfl hl.1 rfl (Nat.le_of_ble_eq_true rfl) dL_law_648 ⟨by show kc + 1 ≤ 601024; omega, by show ks + 6 ≤ 7293034; omega⟩) hw (fun k1 c1 H locs hP hw => ?_)
  have hg1 : ∀ j : Nat, 8 ≤ j → j ≤ 24 → c1 j = ct j := by
    rcases hP with ⟨hOK, rfl, hct⟩ | ⟨⟨-, hcc⟩, rfl, hct⟩
    · exact fun j ja jb => (congrFun hct j).trans (zU_n (by omega) (rfl))
    · exact fun j _ _ => congrFun hct j
  have hm1 : zMst G ad c1 n cd bl Fmn Fsp Fms Fco Fst Fmo Fsk Fts Ftm Fjn := zMst_c hms ((hg1 8 (by omega) (by omega)).trans hms.1) (fun j ja jb => hg1 j (by omega) (by omega))
  have hc1 : zMsc G c1 Fpl Fgr Fab := ⟨(hg1 19 (by omega) (by omega)).trans hmc.1, (hg1 20 (by omega) (by omega)).trans hmc.2.1, (hg1 21 (by omega) (by omega)).trans hmc.2.2⟩
  refine lv_istore (lv' := [(5, zi (k1)), (0, .ref b), (1, .ref (ad (0))), (2, .ref (ad (8))), (3, .ref (ad (25))), (4, zi (i))]) hx hb dL_law_651 hl (by decide) rfl (fun ls hl => ?_)
  refine lv_aload_n hx hb dL_law_653 rfl (lv_at hl 3 rfl) ?_
  refine lv_aload_n hx hb dL_law_654 rfl (lv_at hl 1 rfl) ?_
  refine lv_iload hx hb dL_law_655 (lv_at hl 5 rfl) ?_
  refine z_ic hx hb dL_law_657 ?_
  refine z_iadd hx hb dL_law_658 ?_
  refine z_sld hx hb hX hbs hbA hw (by omega) (by omega) hL dL_law_659 ?_
  rw [e1]
  refine z_kI (z_runV (k := 8) (As := [zi (v1)]) (rest := []) (fs := [zi (cd), zi (n), .ref (ad (9)), .ref (ad (10)), .ref (ad (11)), .ref (ad (12)), .ref (ad (13)), .ref (ad (14)), .ref (ad (15)), .ref (ad (16)), .ref (ad (17)), .ref (ad (18)), .ref (ad (19)), .ref (ad (20)), .ref (ad (21)), .ref (ad (22)), zi (bl), .ref (ad (23)), .ref (ad (24))]) ⟨hx, hb, hml, hown, hts⟩ hK hw (m_hold l hl0 G I ad _ _ n hn6 σ hgs cd bl Fmn Fsp Fms Fco Fst Fmo Fsk Fts Ftm Fjn Fpl Fgr Fab hRel hM hm1 hc1 v1 hr1) (cwV 1 hts gL_law_X4_hold rfl rfl rfl (by decide +kernel) ⟨Nat.le_of_ble_eq_true rfl, Nat.le_of_ble_eq_true rfl⟩) (hIa 8 (by omega)) hm1.1 rfl rfl rfl hl.1 rfl (Nat.le_of_ble_eq_true rfl) dL_law_660 ⟨by show kc + 1 + 0 ≤ 601024; omega, by show ks + 6 + 0 ≤ 7293034; omega⟩) hw (fun z2 c2 H locs hP2 hw => ?_)
  rcases hP with ⟨hOK, rfl, hct⟩ | ⟨⟨-, hcc⟩, rfl, hct⟩
  · obtain ⟨cd9, hcase, hct2⟩ := hP2
    rcases hcase with ⟨hKK, rfl, rfl⟩ | ⟨hKK, rfl⟩
    · have hcd := True.intro
      have h8c : c2 8 = zmo ad n (0) (bl) := (congrFun hct2 8).trans (zU_s _ _ _)
      have h25c : c2 25 = zL G 1 (zup Fo 0 (zwp (zho (σ (v1).toNat) (σ (v1).toNat).1))) := (congrFun hct2 25).trans (zU_n (by omega) ((congrFun hct 25).trans (zU_s _ _ _)))
      have hLI2 := zLI_q (ct' := c2) hLI (fun j j1 j2 j3 j4 j5 j6 => (congrFun hct2 j).trans (zU_n (by omega) ((congrFun hct j).trans (zU_n (by omega) (rfl))))) ⟨_, _, _, _, (congrFun hct2 2).trans (zU_n (by omega) ((congrFun hct 2).trans (zU_n (by omega) h2)))⟩ ⟨_, h8c⟩ ⟨Fpl, Fgr, Fab, (congrFun hct2 19).trans (zU_n (by omega) hc1.1), (congrFun hct2 20).trans (zU_n (by omega) hc1.2.1), (congrFun hct2 21).trans (zU_n (by omega) hc1.2.2)⟩ ⟨_, h25c⟩
      refine lv_istore (lv' := [(6, zi (zho (σ (v1).toNat) (σ (v1).toNat).1)), (5, zi (0)), (0, .ref b), (1, .ref (ad (0))), (2, .ref (ad (8))), (3, .ref (ad (25))), (4, zi (i))]) hx hb dL_law_663 hl (by decide) rfl (fun ls hl => ?_)
      refine lv_aload_n hx hb dL_law_665 rfl (lv_at hl 4 rfl) ?_
      refine z_kI (z_runV (k := 8) (As := []) (rest := []) (fs := [zi (0), zi (n), .ref (ad (9)), .ref (ad (10)), .ref (ad (11)), .ref (ad (12)), .ref (ad (13)), .ref (ad (14)), .ref (ad (15)), .ref (ad (16)), .ref (ad (17)), .ref (ad (18)), .ref (ad (19)), .ref (ad (20)), .ref (ad (21)), .ref (ad (22)), zi (bl), .ref (ad (23)), .ref (ad (24))]) ⟨hx, hb, hml, hown, hts⟩ hK hw (k_thr l hl0 G _ _ _ _ (n) (0) (bl) (hIa 8 (by omega)) h8c) (cwV 0 hts gL_law_X4_thrown rfl rfl rfl (by decide +kernel) ⟨Nat.le_of_ble_eq_true rfl, Nat.le_of_ble_eq_true rfl⟩) (hIa 8 (by omega)) h8c rfl rfl rfl hl.1 rfl (Nat.le_of_ble_eq_true rfl) dL_law_666 ⟨by show kc + 1 + 0 + 0 ≤ 601024; omega, by show ks + 6 + 0 + 0 ≤ 7293034; omega⟩) hw (fun z9 c3 H locs hP9 hw => ?_)
      obtain ⟨rfl, hc3⟩ := hP9
      rw [hc3] at hw
      refine lv_iload hx hb dL_law_669 (lv_at hl 1 rfl) ?_
      refine z_icmp_eq (tgt := 676) hx hb dL_law_671 (by decide) ⟨by decide, by decide⟩ ⟨by decide, by decide⟩ (fun c_1 => ?_) (fun c_1 => ?_)
      · refine lv_iload hx hb dL_law_676 (lv_at hl 1 rfl) ?_
        refine z_if_ne (tgt := 693) hx hb dL_law_678 (by decide) ⟨by decide, by decide⟩ (fun c_2 => ?_) (fun c_2 => ?_)
        · exact absurd c_2 (by decide)
        · refine lv_aload_n hx hb dL_law_681 rfl (lv_at hl 5 rfl) ?_
          refine z_ic hx hb dL_law_682 ?_
          refine z_lald (f := zup Fo 0 (zwp (zho (σ (v1).toNat) (σ (v1).toNat).1))) hx hb hK hw (hIa 25 (by omega)) h25c (by decide) (by decide) (by decide) dL_law_683 ?_
          rw [show ((zup Fo 0 (zwp (zho (σ (v1).toNat) (σ (v1).toNat).1))) (0) : Int) = zwp (zho (σ (v1).toNat) (σ (v1).toNat).1) from zup_s _ _ _]
          refine lv_iload hx hb dL_law_684 (lv_at hl 0 rfl) ?_
          refine z_i2lw hx hb dL_law_686 ?_
          refine z_lcmp_eq (tgt := 693) hx hb dL_law_687 dL_law_688 (by decide) ⟨by have := zwp_r (zho (σ (v1).toNat) (σ (v1).toNat).1); omega, by have := zwp_r (zho (σ (v1).toNat) (σ (v1).toNat).1); omega⟩ ⟨by have := zwp_r (zho (σ (v1).toNat) (σ (v1).toNat).1); omega, by have := zwp_r (zho (σ (v1).toNat) (σ (v1).toNat).1); omega⟩ (fun c_3 => ?_) (fun c_3 => ?_)
          · refine lv_goto (tgt := 1127) hx hb dL_law_693 (by decide) ?_
            exact kk _ _ _ _ _ _ _ _ _ _ _ _ _ _ _ _ _ _ _ H locs _ _ _ hLI2 hw (by omega) (by omega) (lv_sub hl [2, 3, 4, 5, 6] rfl)
          · exact absurd rfl c_3
      · exact absurd c_1 (by decide)
    · exfalso; omega
  · obtain ⟨cd9, hcase, hct2⟩ := hP2
    rcases hcase with ⟨hKK, rfl, rfl⟩ | ⟨hKK, rfl⟩
    · exfalso; omega
    · have hcd := True.intro
      have h8c : c2 8 = zmo ad n (1) (bl) := (congrFun hct2 8).trans (zU_s _ _ _)
      have h25c : c2 25 = zL G 1 (Fo) := (congrFun hct2 25).trans (zU_n (by omega) ((congrFun hct 25).trans (h25)))
      have hLI2 := zLI_q (ct' := c2) hLI (fun j j1 j2 j3 j4 j5 j6 => (congrFun hct2 j).trans (zU_n (by omega) ((congrFun hct j).trans (rfl)))) ⟨_, _, _, _, (congrFun hct2 2).trans (zU_n (by omega) ((congrFun hct 2).trans (h2)))⟩ ⟨_, h8c⟩ ⟨Fpl, Fgr, Fab, (congrFun hct2 19).trans (zU_n (by omega) hc1.1), (congrFun hct2 20).trans (zU_n (by omega) hc1.2.1), (congrFun hct2 21).trans (zU_n (by omega) hc1.2.2)⟩ ⟨_, h25c⟩
      refine lv_istore (lv' := [(6, zi (z2)), (5, zi (1)), (0, .ref b), (1, .ref (ad (0))), (2, .ref (ad (8))), (3, .ref (ad (25))), (4, zi (i))]) hx hb dL_law_663 hl (by decide) rfl (fun ls hl => ?_)
      refine lv_aload_n hx hb dL_law_665 rfl (lv_at hl 4 rfl) ?_
      refine z_kI (z_runV (k := 8) (As := []) (rest := []) (fs := [zi (1), zi (n), .ref (ad (9)), .ref (ad (10)), .ref (ad (11)), .ref (ad (12)), .ref (ad (13)), .ref (ad (14)), .ref (ad (15)), .ref (ad (16)), .ref (ad (17)), .ref (ad (18)), .ref (ad (19)), .ref (ad (20)), .ref (ad (21)), .ref (ad (22)), zi (bl), .ref (ad (23)), .ref (ad (24))]) ⟨hx, hb, hml, hown, hts⟩ hK hw (k_thr l hl0 G _ _ _ _ (n) (1) (bl) (hIa 8 (by omega)) h8c) (cwV 0 hts gL_law_X4_thrown rfl rfl rfl (by decide +kernel) ⟨Nat.le_of_ble_eq_true rfl, Nat.le_of_ble_eq_true rfl⟩) (hIa 8 (by omega)) h8c rfl rfl rfl hl.1 rfl (Nat.le_of_ble_eq_true rfl) dL_law_666 ⟨by show kc + 1 + 0 + 0 ≤ 601024; omega, by show ks + 6 + 0 + 0 ≤ 7293034; omega⟩) hw (fun z9 c3 H locs hP9 hw => ?_)
      obtain ⟨rfl, hc3⟩ := hP9
      rw [hc3] at hw
      refine lv_iload hx hb dL_law_669 (lv_at hl 1 rfl) ?_
      refine z_icmp_eq (tgt := 676) hx hb dL_law_671 (by decide) ⟨by decide, by decide⟩ ⟨by decide, by decide⟩ (fun c_4 => ?_) (fun c_4 => ?_)
      · refine lv_iload hx hb dL_law_676 (lv_at hl 1 rfl) ?_
        refine z_if_ne (tgt := 693) hx hb dL_law_678 (by decide) ⟨by decide, by decide⟩ (fun c_5 => ?_) (fun c_5 => ?_)
        · refine lv_goto (tgt := 1127) hx hb dL_law_693 (by decide) ?_
          exact kk _ _ _ _ _ _ _ _ _ _ _ _ _ _ _ _ _ _ _ H locs _ _ _ hLI2 hw (by omega) (by omega) (lv_sub hl [2, 3, 4, 5, 6] rfl)
        · exact absurd c_5 (by decide)
      · exact absurd c_4 (by decide)

set_option maxHeartbeats 4000000 in
set_option maxRecDepth 100000 in
theorem law_group {p : Program} {e : Env} {s : State} {m : MethodId} {below : List Frame} {meth : Method} {c : Code} {l : Launch} (hl0 : l.stackTraces = false) {b L : Nat} {xs : Nat → Int32} (hL : L ≤ 2560) (C0 : lw_At p s m meth c b L xs) {G : zG} (hK : zK G (fun q : Nat => s.heap.size ≤ q) s s.heap) {i : Int} (hi0 : 0 ≤ i) (hi5 : i + 5 ≤ L) {kc ks : Nat} (hkc : kc + 50 ≤ 601024) (hks : ks + 500 ≤ 7293034) {I : List Nat} {ad : Nat → Nat} {ct : Nat → va_E} {n : Nat} {σ : Nat → zPl} {b0 bl : Int} {wv Fwv Fmn Fsp Fms Fco Fst Fmo Fsk Fts Ftm Fjn : Int → Int} (hLI : zLI G I ad ct n σ b0 bl wv Fwv Fmn Fsp Fms Fco Fst Fmo Fsk Fts Ftm Fjn) {H : Heap} {locs : List Loc} (hw : zW G (fun q : Nat => s.heap.size ≤ q) s.heap H locs I ad ct) {ls : Array Slot} (hl : lv_has ls 7 [(0, .ref b), (1, .ref (ad 0)), (2, .ref (ad 8)), (3, .ref (ad 25)), (4, zi i)]) (kk : zBk p l e s m b below meth c G i kc ks) : W p l e room_1 s m #[Value.ref b] below meth c H locs kc ks (lw_Z below #[Value.ref b] s) (F0 m 855 ls []) := by
  obtain ⟨hx, hb, hr, hml, hown0, hts0, hX, hbs, hlk, hgv⟩ := id C0
  have hown : s.vm.findClass RL = some m.cls := hown0
  have hts : ∀ w ∈ wsL_law, w.before #[Value.ref b] s = true := fun w h => hts0 w (wsL_law_in w h)
  have hbA : ¬ (fun q : Nat => s.heap.size ≤ q) b := Nat.not_le.mpr hbs
  obtain ⟨hn6, hIa, hIb, hmm, hgs, hRel, hz0, hz9, hbl, h0, h1, hps, ⟨w, p0, f0, a0, h2⟩, ⟨b1, f, g, h, h3, h4, h5, h6, h7⟩, ⟨cd, hms⟩, ⟨Fpl, Fgr, Fab, hmc⟩, ⟨Fat, Fsd, hmb⟩, ⟨Fo, h25⟩⟩ := id hLI
  have hM : ∀ j : Nat, 8 ≤ j → j ≤ 24 → j ∈ I := fun j _ h => hIa j (by omega)
  obtain ⟨v1, e1⟩ : ∃ v : Int, zAx xs (i + 1) = v := ⟨_, rfl⟩
  have hr1 : zr v1 := by rw [← e1]; exact zAx_r _ _
  obtain ⟨v2, e2⟩ : ∃ v : Int, zAx xs (i + 2) = v := ⟨_, rfl⟩
  have hr2 : zr v2 := by rw [← e2]; exact zAx_r _ _
  obtain ⟨v3, e3⟩ : ∃ v : Int, zAx xs (i + 3) = v := ⟨_, rfl⟩
  have hr3 : zr v3 := by rw [← e3]; exact zAx_r _ _
  obtain ⟨v4, e4⟩ : ∃ v : Int, zAx xs (i + 4) = v := ⟨_, rfl⟩
  have hr4 : zr v4 := by rw [← e4]; exact zAx_r _ _
  refine lv_aload_n hx hb dL_law_855 rfl (lv_at hl 1 rfl) ?_
  refine lv_aload_n hx hb dL_law_856 rfl (lv_at hl 0 rfl) ?_
  refine lv_iload hx hb dL_law_857 (lv_at hl 4 rfl) ?_
  refine z_ic hx hb dL_law_859 ?_
  refine z_iadd hx hb dL_law_860 ?_
  refine z_sld hx hb hX hbs hbA hw (by omega) (by omega) hL dL_law_861 ?_
  rw [e1]
  refine lv_aload_n hx hb dL_law_862 rfl (lv_at hl 3 rfl) ?_
  refine z_kI (z_runSW (As := [.ref (ad (0)), zi (v1), .ref (ad (25))]) (rest := []) ⟨hx, hb, hml, hown, hts⟩ hK hw (l_group l hl0 G I ad _ _ n hn6 (hIa 0 (by decide)) (hIa 1 (by decide)) h0 h1 σ hgs hmm hps w p0 f0 a0 (hIa 2 (by decide)) h2 v1 hr1 Fo (hIa 25 (by decide)) h25) (vx_cwSW 3 hts gL_law_L_group rfl rfl rfl (by decide +kernel) ⟨Nat.le_of_ble_eq_true rfl, Nat.le_of_ble_eq_true rfl⟩) rfl hl.1 rfl (Nat.le_of_ble_eq_true rfl) dL_law_863 ⟨by show kc + 2 ≤ 601024; omega, by show ks + 12 ≤ 7293034; omega⟩) hw (fun k1 c1 H locs hP hw => ?_)
  have hg1 : ∀ j : Nat, 8 ≤ j → j ≤ 24 → c1 j = ct j := by
    rcases hP with ⟨hOK, rfl, w1, p1, f1, a9, hct⟩ | ⟨(⟨hE, hcc⟩ | ⟨hE, hcc⟩), rfl, hct⟩ | ⟨(⟨hE, hcc⟩ | ⟨hE, hcc⟩), rfl, hct⟩
    · exact fun j ja jb => (congrFun hct j).trans (zU_n (by omega) (zU_n (by omega) (rfl)))
    · exact fun j _ _ => congrFun hct j
    · exact fun j _ _ => congrFun hct j
    · exact fun j _ _ => congrFun hct j
    · exact fun j _ _ => congrFun hct j
  have hm1 : zMst G ad c1 n cd bl Fmn Fsp Fms Fco Fst Fmo Fsk Fts Ftm Fjn := zMst_c hms ((hg1 8 (by omega) (by omega)).trans hms.1) (fun j ja jb => hg1 j (by omega) (by omega))
  have hc1 : zMsc G c1 Fpl Fgr Fab := ⟨(hg1 19 (by omega) (by omega)).trans hmc.1, (hg1 20 (by omega) (by omega)).trans hmc.2.1, (hg1 21 (by omega) (by omega)).trans hmc.2.2⟩
  refine lv_istore (lv' := [(5, zi (k1)), (0, .ref b), (1, .ref (ad (0))), (2, .ref (ad (8))), (3, .ref (ad (25))), (4, zi (i))]) hx hb dL_law_866 hl (by decide) rfl (fun ls hl => ?_)
  refine lv_aload_n hx hb dL_law_868 rfl (lv_at hl 3 rfl) ?_
  refine lv_aload_n hx hb dL_law_869 rfl (lv_at hl 1 rfl) ?_
  refine lv_iload hx hb dL_law_870 (lv_at hl 5 rfl) ?_
  refine z_ic hx hb dL_law_872 ?_
  refine z_iadd hx hb dL_law_873 ?_
  refine z_sld hx hb hX hbs hbA hw (by omega) (by omega) hL dL_law_874 ?_
  rw [e1]
  refine z_kI (z_runV (k := 8) (As := [zi (v1)]) (rest := []) (fs := [zi (cd), zi (n), .ref (ad (9)), .ref (ad (10)), .ref (ad (11)), .ref (ad (12)), .ref (ad (13)), .ref (ad (14)), .ref (ad (15)), .ref (ad (16)), .ref (ad (17)), .ref (ad (18)), .ref (ad (19)), .ref (ad (20)), .ref (ad (21)), .ref (ad (22)), zi (bl), .ref (ad (23)), .ref (ad (24))]) ⟨hx, hb, hml, hown, hts⟩ hK hw (m_group l hl0 G I ad _ _ n hn6 σ hgs cd bl Fmn Fsp Fms Fco Fst Fmo Fsk Fts Ftm Fjn Fpl Fgr Fab hRel hM hm1 hc1 v1 hr1) (cwV 1 hts gL_law_X4_group rfl rfl rfl (by decide +kernel) ⟨Nat.le_of_ble_eq_true rfl, Nat.le_of_ble_eq_true rfl⟩) (hIa 8 (by omega)) hm1.1 rfl rfl rfl hl.1 rfl (Nat.le_of_ble_eq_true rfl) dL_law_875 ⟨by show kc + 2 + 0 ≤ 601024; omega, by show ks + 12 + 0 ≤ 7293034; omega⟩) hw (fun z2 c2 H locs hP2 hw => ?_)
  rcases hP with ⟨hOK, rfl, w1, p1, f1, a9, hct⟩ | ⟨(⟨hE, hcc⟩ | ⟨hE, hcc⟩), rfl, hct⟩ | ⟨(⟨hE, hcc⟩ | ⟨hE, hcc⟩), rfl, hct⟩
  · obtain ⟨cd9, P, Gr, Ab, hcase, hct2⟩ := hP2
    rcases hcase with ⟨rfl, hKK, rfl⟩ | ⟨rfl, hKK⟩ | ⟨rfl, hKK⟩
    · have hcd := True.intro
      have h8c : c2 8 = zmo ad n (0) (bl) := (congrFun hct2 8).trans (zM3_n (by omega) (zU_s _ _ _))
      have h25c : c2 25 = zL G 1 (zup Fo 0 (zwp (zgs σ n v1))) := (congrFun hct2 25).trans (zM3_n (by omega) (zU_n (by omega) ((congrFun hct 25).trans (zU_s _ _ _))))
      have hLI2 := zLI_q (ct' := c2) hLI (fun j j1 j2 j3 j4 j5 j6 => (congrFun hct2 j).trans (zM3_n (by omega) (zU_n (by omega) ((congrFun hct j).trans (zU_n (by omega) (zU_n (by omega) (rfl))))))) ⟨_, _, _, _, (congrFun hct2 2).trans (zM3_n (by omega) (zU_n (by omega) ((congrFun hct 2).trans (zU_n (by omega) (zU_s _ _ _)))))⟩ ⟨_, h8c⟩ ⟨P, Gr, Ab, congrFun hct2 19, congrFun hct2 20, congrFun hct2 21⟩ ⟨_, h25c⟩
      refine lv_istore (lv' := [(6, zi (zgs σ n v1)), (5, zi (0)), (0, .ref b), (1, .ref (ad (0))), (2, .ref (ad (8))), (3, .ref (ad (25))), (4, zi (i))]) hx hb dL_law_878 hl (by decide) rfl (fun ls hl => ?_)
      refine lv_aload_n hx hb dL_law_880 rfl (lv_at hl 4 rfl) ?_
      refine z_kI (z_runV (k := 8) (As := []) (rest := []) (fs := [zi (0), zi (n), .ref (ad (9)), .ref (ad (10)), .ref (ad (11)), .ref (ad (12)), .ref (ad (13)), .ref (ad (14)), .ref (ad (15)), .ref (ad (16)), .ref (ad (17)), .ref (ad (18)), .ref (ad (19)), .ref (ad (20)), .ref (ad (21)), .ref (ad (22)), zi (bl), .ref (ad (23)), .ref (ad (24))]) ⟨hx, hb, hml, hown, hts⟩ hK hw (k_thr l hl0 G _ _ _ _ (n) (0) (bl) (hIa 8 (by omega)) h8c) (cwV 0 hts gL_law_X4_thrown rfl rfl rfl (by decide +kernel) ⟨Nat.le_of_ble_eq_true rfl, Nat.le_of_ble_eq_true rfl⟩) (hIa 8 (by omega)) h8c rfl rfl rfl hl.1 rfl (Nat.le_of_ble_eq_true rfl) dL_law_881 ⟨by show kc + 2 + 0 + 0 ≤ 601024; omega, by show ks + 12 + 0 + 0 ≤ 7293034; omega⟩) hw (fun z9 c3 H locs hP9 hw => ?_)
      obtain ⟨rfl, hc3⟩ := hP9
      rw [hc3] at hw
      refine lv_iload hx hb dL_law_884 (lv_at hl 1 rfl) ?_
      refine z_icmp_eq (tgt := 891) hx hb dL_law_886 (by decide) ⟨by decide, by decide⟩ ⟨by decide, by decide⟩ (fun c_1 => ?_) (fun c_1 => ?_)
      · refine lv_iload hx hb dL_law_891 (lv_at hl 1 rfl) ?_
        refine z_if_ne (tgt := 908) hx hb dL_law_893 (by decide) ⟨by decide, by decide⟩ (fun c_2 => ?_) (fun c_2 => ?_)
        · exact absurd c_2 (by decide)
        · refine lv_aload_n hx hb dL_law_896 rfl (lv_at hl 5 rfl) ?_
          refine z_ic hx hb dL_law_897 ?_
          refine z_lald (f := zup Fo 0 (zwp (zgs σ n v1))) hx hb hK hw (hIa 25 (by omega)) h25c (by decide) (by decide) (by decide) dL_law_898 ?_
          rw [show ((zup Fo 0 (zwp (zgs σ n v1))) (0) : Int) = zwp (zgs σ n v1) from zup_s _ _ _]
          refine lv_iload hx hb dL_law_899 (lv_at hl 0 rfl) ?_
          refine z_i2lw hx hb dL_law_901 ?_
          refine z_lcmp_eq (tgt := 908) hx hb dL_law_902 dL_law_903 (by decide) ⟨by have := zwp_r (zgs σ n v1); omega, by have := zwp_r (zgs σ n v1); omega⟩ ⟨by have := zwp_r (zgs σ n v1); omega, by have := zwp_r (zgs σ n v1); omega⟩ (fun c_3 => ?_) (fun c_3 => ?_)
          · refine lv_goto (tgt := 1127) hx hb dL_law_908 (by decide) ?_
            exact kk _ _ _ _ _ _ _ _ _ _ _ _ _ _ _ _ _ _ _ H locs _ _ _ hLI2 hw (by omega) (by omega) (lv_sub hl [2, 3, 4, 5, 6] rfl)
          · exact absurd rfl c_3
      · exact absurd c_1 (by decide)
    · exfalso; omega
    · exact absurd hKK.2 hOK.2
  · obtain ⟨cd9, P, Gr, Ab, hcase, hct2⟩ := hP2
    rcases hcase with ⟨rfl, hKK, rfl⟩ | ⟨rfl, hKK⟩ | ⟨rfl, hKK⟩
    · exfalso; omega
    · have hcd := True.intro
      have h8c : c2 8 = zmo ad n (1) (bl) := (congrFun hct2 8).trans (zM3_n (by omega) (zU_s _ _ _))
      have h25c : c2 25 = zL G 1 (Fo) := (congrFun hct2 25).trans (zM3_n (by omega) (zU_n (by omega) ((congrFun hct 25).trans (h25))))
      have hLI2 := zLI_q (ct' := c2) hLI (fun j j1 j2 j3 j4 j5 j6 => (congrFun hct2 j).trans (zM3_n (by omega) (zU_n (by omega) ((congrFun hct j).trans (rfl))))) ⟨_, _, _, _, (congrFun hct2 2).trans (zM3_n (by omega) (zU_n (by omega) ((congrFun hct 2).trans (h2))))⟩ ⟨_, h8c⟩ ⟨P, Gr, Ab, congrFun hct2 19, congrFun hct2 20, congrFun hct2 21⟩ ⟨_, h25c⟩
      refine lv_istore (lv' := [(6, zi (z2)), (5, zi (1)), (0, .ref b), (1, .ref (ad (0))), (2, .ref (ad (8))), (3, .ref (ad (25))), (4, zi (i))]) hx hb dL_law_878 hl (by decide) rfl (fun ls hl => ?_)
      refine lv_aload_n hx hb dL_law_880 rfl (lv_at hl 4 rfl) ?_
      refine z_kI (z_runV (k := 8) (As := []) (rest := []) (fs := [zi (1), zi (n), .ref (ad (9)), .ref (ad (10)), .ref (ad (11)), .ref (ad (12)), .ref (ad (13)), .ref (ad (14)), .ref (ad (15)), .ref (ad (16)), .ref (ad (17)), .ref (ad (18)), .ref (ad (19)), .ref (ad (20)), .ref (ad (21)), .ref (ad (22)), zi (bl), .ref (ad (23)), .ref (ad (24))]) ⟨hx, hb, hml, hown, hts⟩ hK hw (k_thr l hl0 G _ _ _ _ (n) (1) (bl) (hIa 8 (by omega)) h8c) (cwV 0 hts gL_law_X4_thrown rfl rfl rfl (by decide +kernel) ⟨Nat.le_of_ble_eq_true rfl, Nat.le_of_ble_eq_true rfl⟩) (hIa 8 (by omega)) h8c rfl rfl rfl hl.1 rfl (Nat.le_of_ble_eq_true rfl) dL_law_881 ⟨by show kc + 2 + 0 + 0 ≤ 601024; omega, by show ks + 12 + 0 + 0 ≤ 7293034; omega⟩) hw (fun z9 c3 H locs hP9 hw => ?_)
      obtain ⟨rfl, hc3⟩ := hP9
      rw [hc3] at hw
      refine lv_iload hx hb dL_law_884 (lv_at hl 1 rfl) ?_
      refine z_icmp_eq (tgt := 891) hx hb dL_law_886 (by decide) ⟨by decide, by decide⟩ ⟨by decide, by decide⟩ (fun c_4 => ?_) (fun c_4 => ?_)
      · refine lv_iload hx hb dL_law_891 (lv_at hl 1 rfl) ?_
        refine z_if_ne (tgt := 908) hx hb dL_law_893 (by decide) ⟨by decide, by decide⟩ (fun c_5 => ?_) (fun c_5 => ?_)
        · refine lv_goto (tgt := 1127) hx hb dL_law_908 (by decide) ?_
          exact kk _ _ _ _ _ _ _ _ _ _ _ _ _ _ _ _ _ _ _ H locs _ _ _ hLI2 hw (by omega) (by omega) (lv_sub hl [2, 3, 4, 5, 6] rfl)
        · exact absurd c_5 (by decide)
      · exact absurd c_4 (by decide)
    · exfalso; omega
  · exact absurd hE (by decide)
  · exact absurd hE (by decide)
  · obtain ⟨cd9, P, Gr, Ab, hcase, hct2⟩ := hP2
    rcases hcase with ⟨rfl, hKK, rfl⟩ | ⟨rfl, hKK⟩ | ⟨rfl, hKK⟩
    · exact absurd hcc.2 hKK.2
    · exfalso; omega
    · have hcd := True.intro
      have h8c : c2 8 = zmo ad n (2) (bl) := (congrFun hct2 8).trans (zM3_n (by omega) (zU_s _ _ _))
      have h25c : c2 25 = zL G 1 (Fo) := (congrFun hct2 25).trans (zM3_n (by omega) (zU_n (by omega) ((congrFun hct 25).trans (h25))))
      have hLI2 := zLI_q (ct' := c2) hLI (fun j j1 j2 j3 j4 j5 j6 => (congrFun hct2 j).trans (zM3_n (by omega) (zU_n (by omega) ((congrFun hct j).trans (rfl))))) ⟨_, _, _, _, (congrFun hct2 2).trans (zM3_n (by omega) (zU_n (by omega) ((congrFun hct 2).trans (h2))))⟩ ⟨_, h8c⟩ ⟨P, Gr, Ab, congrFun hct2 19, congrFun hct2 20, congrFun hct2 21⟩ ⟨_, h25c⟩
      refine lv_istore (lv' := [(6, zi (z2)), (5, zi (2)), (0, .ref b), (1, .ref (ad (0))), (2, .ref (ad (8))), (3, .ref (ad (25))), (4, zi (i))]) hx hb dL_law_878 hl (by decide) rfl (fun ls hl => ?_)
      refine lv_aload_n hx hb dL_law_880 rfl (lv_at hl 4 rfl) ?_
      refine z_kI (z_runV (k := 8) (As := []) (rest := []) (fs := [zi (2), zi (n), .ref (ad (9)), .ref (ad (10)), .ref (ad (11)), .ref (ad (12)), .ref (ad (13)), .ref (ad (14)), .ref (ad (15)), .ref (ad (16)), .ref (ad (17)), .ref (ad (18)), .ref (ad (19)), .ref (ad (20)), .ref (ad (21)), .ref (ad (22)), zi (bl), .ref (ad (23)), .ref (ad (24))]) ⟨hx, hb, hml, hown, hts⟩ hK hw (k_thr l hl0 G _ _ _ _ (n) (2) (bl) (hIa 8 (by omega)) h8c) (cwV 0 hts gL_law_X4_thrown rfl rfl rfl (by decide +kernel) ⟨Nat.le_of_ble_eq_true rfl, Nat.le_of_ble_eq_true rfl⟩) (hIa 8 (by omega)) h8c rfl rfl rfl hl.1 rfl (Nat.le_of_ble_eq_true rfl) dL_law_881 ⟨by show kc + 2 + 0 + 0 ≤ 601024; omega, by show ks + 12 + 0 + 0 ≤ 7293034; omega⟩) hw (fun z9 c3 H locs hP9 hw => ?_)
      obtain ⟨rfl, hc3⟩ := hP9
      rw [hc3] at hw
      refine lv_iload hx hb dL_law_884 (lv_at hl 1 rfl) ?_
      refine z_icmp_eq (tgt := 891) hx hb dL_law_886 (by decide) ⟨by decide, by decide⟩ ⟨by decide, by decide⟩ (fun c_6 => ?_) (fun c_6 => ?_)
      · refine lv_iload hx hb dL_law_891 (lv_at hl 1 rfl) ?_
        refine z_if_ne (tgt := 908) hx hb dL_law_893 (by decide) ⟨by decide, by decide⟩ (fun c_7 => ?_) (fun c_7 => ?_)
        · refine lv_goto (tgt := 1127) hx hb dL_law_908 (by decide) ?_
          exact kk _ _ _ _ _ _ _ _ _ _ _ _ _ _ _ _ _ _ _ H locs _ _ _ hLI2 hw (by omega) (by omega) (lv_sub hl [2, 3, 4, 5, 6] rfl)
        · exact absurd c_7 (by decide)
      · exact absurd c_6 (by decide)

set_option maxHeartbeats 4000000 in
set_option maxRecDepth 100000 in
theorem law_share {p : Program} {e : Env} {s : State} {m : MethodId} {below : List Frame} {meth : Method} {c : Code} {l : Launch} (hl0 : l.stackTraces = false) {b L : Nat} {xs : Nat → Int32} (hL : L ≤ 2560) (C0 : lw_At p s m meth c b L xs) {G : zG} (hK : zK G (fun q : Nat => s.heap.size ≤ q) s s.heap) {i : Int} (hi0 : 0 ≤ i) (hi5 : i + 5 ≤ L) {kc ks : Nat} (hkc : kc + 50 ≤ 601024) (hks : ks + 500 ≤ 7293034) {I : List Nat} {ad : Nat → Nat} {ct : Nat → va_E} {n : Nat} {σ : Nat → zPl} {b0 bl : Int} {wv Fwv Fmn Fsp Fms Fco Fst Fmo Fsk Fts Ftm Fjn : Int → Int} (hLI : zLI G I ad ct n σ b0 bl wv Fwv Fmn Fsp Fms Fco Fst Fmo Fsk Fts Ftm Fjn) {H : Heap} {locs : List Loc} (hw : zW G (fun q : Nat => s.heap.size ≤ q) s.heap H locs I ad ct) {ls : Array Slot} (hl : lv_has ls 7 [(0, .ref b), (1, .ref (ad 0)), (2, .ref (ad 8)), (3, .ref (ad 25)), (4, zi i)]) (kk : zBk p l e s m b below meth c G i kc ks) : W p l e room_1 s m #[Value.ref b] below meth c H locs kc ks (lw_Z below #[Value.ref b] s) (F0 m 911 ls []) := by
  obtain ⟨hx, hb, hr, hml, hown0, hts0, hX, hbs, hlk, hgv⟩ := id C0
  have hown : s.vm.findClass RL = some m.cls := hown0
  have hts : ∀ w ∈ wsL_law, w.before #[Value.ref b] s = true := fun w h => hts0 w (wsL_law_in w h)
  have hbA : ¬ (fun q : Nat => s.heap.size ≤ q) b := Nat.not_le.mpr hbs
  obtain ⟨hn6, hIa, hIb, hmm, hgs, hRel, hz0, hz9, hbl, h0, h1, hps, ⟨w, p0, f0, a0, h2⟩, ⟨b1, f, g, h, h3, h4, h5, h6, h7⟩, ⟨cd, hms⟩, ⟨Fpl, Fgr, Fab, hmc⟩, ⟨Fat, Fsd, hmb⟩, ⟨Fo, h25⟩⟩ := id hLI
  have hM : ∀ j : Nat, 8 ≤ j → j ≤ 24 → j ∈ I := fun j _ h => hIa j (by omega)
  obtain ⟨v1, e1⟩ : ∃ v : Int, zAx xs (i + 1) = v := ⟨_, rfl⟩
  have hr1 : zr v1 := by rw [← e1]; exact zAx_r _ _
  obtain ⟨v2, e2⟩ : ∃ v : Int, zAx xs (i + 2) = v := ⟨_, rfl⟩
  have hr2 : zr v2 := by rw [← e2]; exact zAx_r _ _
  obtain ⟨v3, e3⟩ : ∃ v : Int, zAx xs (i + 3) = v := ⟨_, rfl⟩
  have hr3 : zr v3 := by rw [← e3]; exact zAx_r _ _
  obtain ⟨v4, e4⟩ : ∃ v : Int, zAx xs (i + 4) = v := ⟨_, rfl⟩
  have hr4 : zr v4 := by rw [← e4]; exact zAx_r _ _
  refine lv_aload_n hx hb dL_law_911 rfl (lv_at hl 1 rfl) ?_
  refine lv_aload_n hx hb dL_law_912 rfl (lv_at hl 0 rfl) ?_
  refine lv_iload hx hb dL_law_913 (lv_at hl 4 rfl) ?_
  refine z_ic hx hb dL_law_915 ?_
  refine z_iadd hx hb dL_law_916 ?_
  refine z_sld hx hb hX hbs hbA hw (by omega) (by omega) hL dL_law_917 ?_
  rw [e1]
  refine lv_aload_n hx hb dL_law_918 rfl (lv_at hl 0 rfl) ?_
  refine lv_iload hx hb dL_law_919 (lv_at hl 4 rfl) ?_
  refine z_ic hx hb dL_law_921 ?_
  refine z_iadd hx hb dL_law_922 ?_
  refine z_sld hx hb hX hbs hbA hw (by omega) (by omega) hL dL_law_923 ?_
  rw [e2]
  refine lv_aload_n hx hb dL_law_924 rfl (lv_at hl 3 rfl) ?_
  refine z_kI (z_runSW (As := [.ref (ad (0)), zi (v1), zi (v2), .ref (ad (25))]) (rest := []) ⟨hx, hb, hml, hown, hts⟩ hK hw (l_share l hl0 G I ad _ _ n hn6 (hIa 0 (by decide)) (hIa 1 (by decide)) h0 h1 σ hgs hmm hps w p0 f0 a0 (hIa 2 (by decide)) h2 v1 v2 hr1 hr2 Fo (hIa 25 (by decide)) h25) (vx_cwSW 4 hts gL_law_L_share rfl rfl rfl (by decide +kernel) ⟨Nat.le_of_ble_eq_true rfl, Nat.le_of_ble_eq_true rfl⟩) rfl hl.1 rfl (Nat.le_of_ble_eq_true rfl) dL_law_925 ⟨by show kc + 4 ≤ 601024; omega, by show ks + 24 ≤ 7293034; omega⟩) hw (fun k1 c1 H locs hP hw => ?_)
  have hg1 : ∀ j : Nat, 8 ≤ j → j ≤ 24 → c1 j = ct j := by
    rcases hP with ⟨hOK, rfl, w1, p1, f1, a9, hct⟩ | ⟨(⟨hE, hcc⟩ | ⟨hE, hcc⟩ | ⟨hE, hcc⟩), rfl, hct⟩ | ⟨(⟨hE, hcc⟩ | ⟨hE, hcc⟩ | ⟨hE, hcc⟩), rfl, hct⟩
    · exact fun j ja jb => (congrFun hct j).trans (zU_n (by omega) (zU_n (by omega) (rfl)))
    · exact fun j _ _ => congrFun hct j
    · exact fun j _ _ => congrFun hct j
    · exact fun j _ _ => congrFun hct j
    · exact fun j _ _ => congrFun hct j
    · exact fun j _ _ => congrFun hct j
    · exact fun j _ _ => congrFun hct j
  have hm1 : zMst G ad c1 n cd bl Fmn Fsp Fms Fco Fst Fmo Fsk Fts Ftm Fjn := zMst_c hms ((hg1 8 (by omega) (by omega)).trans hms.1) (fun j ja jb => hg1 j (by omega) (by omega))
  have hc1 : zMsc G c1 Fpl Fgr Fab := ⟨(hg1 19 (by omega) (by omega)).trans hmc.1, (hg1 20 (by omega) (by omega)).trans hmc.2.1, (hg1 21 (by omega) (by omega)).trans hmc.2.2⟩
  refine lv_istore (lv' := [(5, zi (k1)), (0, .ref b), (1, .ref (ad (0))), (2, .ref (ad (8))), (3, .ref (ad (25))), (4, zi (i))]) hx hb dL_law_928 hl (by decide) rfl (fun ls hl => ?_)
  refine lv_aload_n hx hb dL_law_930 rfl (lv_at hl 3 rfl) ?_
  refine lv_aload_n hx hb dL_law_931 rfl (lv_at hl 1 rfl) ?_
  refine lv_iload hx hb dL_law_932 (lv_at hl 5 rfl) ?_
  refine z_ic hx hb dL_law_934 ?_
  refine z_iadd hx hb dL_law_935 ?_
  refine z_sld hx hb hX hbs hbA hw (by omega) (by omega) hL dL_law_936 ?_
  rw [e1]
  refine lv_aload_n hx hb dL_law_937 rfl (lv_at hl 1 rfl) ?_
  refine lv_iload hx hb dL_law_938 (lv_at hl 5 rfl) ?_
  refine z_ic hx hb dL_law_940 ?_
  refine z_iadd hx hb dL_law_941 ?_
  refine z_sld hx hb hX hbs hbA hw (by omega) (by omega) hL dL_law_942 ?_
  rw [e2]
  refine z_kI (z_runV (k := 8) (As := [zi (v1), zi (v2)]) (rest := []) (fs := [zi (cd), zi (n), .ref (ad (9)), .ref (ad (10)), .ref (ad (11)), .ref (ad (12)), .ref (ad (13)), .ref (ad (14)), .ref (ad (15)), .ref (ad (16)), .ref (ad (17)), .ref (ad (18)), .ref (ad (19)), .ref (ad (20)), .ref (ad (21)), .ref (ad (22)), zi (bl), .ref (ad (23)), .ref (ad (24))]) ⟨hx, hb, hml, hown, hts⟩ hK hw (m_share l hl0 G I ad _ _ n hn6 σ hgs cd bl Fmn Fsp Fms Fco Fst Fmo Fsk Fts Ftm Fjn Fpl Fgr Fab hRel hM hm1 hc1 v1 v2 hr1 hr2) (cwV 2 hts gL_law_X4_share rfl rfl rfl (by decide +kernel) ⟨Nat.le_of_ble_eq_true rfl, Nat.le_of_ble_eq_true rfl⟩) (hIa 8 (by omega)) hm1.1 rfl rfl rfl hl.1 rfl (Nat.le_of_ble_eq_true rfl) dL_law_943 ⟨by show kc + 4 + 0 ≤ 601024; omega, by show ks + 24 + 0 ≤ 7293034; omega⟩) hw (fun z2 c2 H locs hP2 hw => ?_)
  rcases hP with ⟨hOK, rfl, w1, p1, f1, a9, hct⟩ | ⟨(⟨hE, hcc⟩ | ⟨hE, hcc⟩ | ⟨hE, hcc⟩), rfl, hct⟩ | ⟨(⟨hE, hcc⟩ | ⟨hE, hcc⟩ | ⟨hE, hcc⟩), rfl, hct⟩
  · obtain ⟨cd9, P, Gr, Ab, hcase, hct2⟩ := hP2
    rcases hcase with ⟨rfl, hKK, hKj, rfl⟩ | ⟨rfl, hKK⟩ | ⟨rfl, hKK, hKj⟩ | ⟨rfl, hKK, hKe⟩
    · have hcd := True.intro
      have h8c : c2 8 = zmo ad n (0) (bl) := (congrFun hct2 8).trans (zM3_n (by omega) (zU_s _ _ _))
      have h25c : c2 25 = zL G 1 (zup Fo 0 (zwp (zsh σ n v1 (v2).toNat))) := (congrFun hct2 25).trans (zM3_n (by omega) (zU_n (by omega) ((congrFun hct 25).trans (zU_s _ _ _))))
      have hLI2 := zLI_q (ct' := c2) hLI (fun j j1 j2 j3 j4 j5 j6 => (congrFun hct2 j).trans (zM3_n (by omega) (zU_n (by omega) ((congrFun hct j).trans (zU_n (by omega) (zU_n (by omega) (rfl))))))) ⟨_, _, _, _, (congrFun hct2 2).trans (zM3_n (by omega) (zU_n (by omega) ((congrFun hct 2).trans (zU_n (by omega) (zU_s _ _ _)))))⟩ ⟨_, h8c⟩ ⟨P, Gr, Ab, congrFun hct2 19, congrFun hct2 20, congrFun hct2 21⟩ ⟨_, h25c⟩
      refine lv_istore (lv' := [(6, zi (zsh σ n v1 (v2).toNat)), (5, zi (0)), (0, .ref b), (1, .ref (ad (0))), (2, .ref (ad (8))), (3, .ref (ad (25))), (4, zi (i))]) hx hb dL_law_946 hl (by decide) rfl (fun ls hl => ?_)
      refine lv_aload_n hx hb dL_law_948 rfl (lv_at hl 4 rfl) ?_
      refine z_kI (z_runV (k := 8) (As := []) (rest := []) (fs := [zi (0), zi (n), .ref (ad (9)), .ref (ad (10)), .ref (ad (11)), .ref (ad (12)), .ref (ad (13)), .ref (ad (14)), .ref (ad (15)), .ref (ad (16)), .ref (ad (17)), .ref (ad (18)), .ref (ad (19)), .ref (ad (20)), .ref (ad (21)), .ref (ad (22)), zi (bl), .ref (ad (23)), .ref (ad (24))]) ⟨hx, hb, hml, hown, hts⟩ hK hw (k_thr l hl0 G _ _ _ _ (n) (0) (bl) (hIa 8 (by omega)) h8c) (cwV 0 hts gL_law_X4_thrown rfl rfl rfl (by decide +kernel) ⟨Nat.le_of_ble_eq_true rfl, Nat.le_of_ble_eq_true rfl⟩) (hIa 8 (by omega)) h8c rfl rfl rfl hl.1 rfl (Nat.le_of_ble_eq_true rfl) dL_law_949 ⟨by show kc + 4 + 0 + 0 ≤ 601024; omega, by show ks + 24 + 0 + 0 ≤ 7293034; omega⟩) hw (fun z9 c3 H locs hP9 hw => ?_)
      obtain ⟨rfl, hc3⟩ := hP9
      rw [hc3] at hw
      refine lv_iload hx hb dL_law_952 (lv_at hl 1 rfl) ?_
      refine z_icmp_eq (tgt := 959) hx hb dL_law_954 (by decide) ⟨by decide, by decide⟩ ⟨by decide, by decide⟩ (fun c_1 => ?_) (fun c_1 => ?_)
      · refine lv_iload hx hb dL_law_959 (lv_at hl 1 rfl) ?_
        refine z_if_ne (tgt := 976) hx hb dL_law_961 (by decide) ⟨by decide, by decide⟩ (fun c_2 => ?_) (fun c_2 => ?_)
        · exact absurd c_2 (by decide)
        · refine lv_aload_n hx hb dL_law_964 rfl (lv_at hl 5 rfl) ?_
          refine z_ic hx hb dL_law_965 ?_
          refine z_lald (f := zup Fo 0 (zwp (zsh σ n v1 (v2).toNat))) hx hb hK hw (hIa 25 (by omega)) h25c (by decide) (by decide) (by decide) dL_law_966 ?_
          rw [show ((zup Fo 0 (zwp (zsh σ n v1 (v2).toNat))) (0) : Int) = zwp (zsh σ n v1 (v2).toNat) from zup_s _ _ _]
          refine lv_iload hx hb dL_law_967 (lv_at hl 0 rfl) ?_
          refine z_i2lw hx hb dL_law_969 ?_
          refine z_lcmp_eq (tgt := 976) hx hb dL_law_970 dL_law_971 (by decide) ⟨by have := zwp_r (zsh σ n v1 (v2).toNat); omega, by have := zwp_r (zsh σ n v1 (v2).toNat); omega⟩ ⟨by have := zwp_r (zsh σ n v1 (v2).toNat); omega, by have := zwp_r (zsh σ n v1 (v2).toNat); omega⟩ (fun c_3 => ?_) (fun c_3 => ?_)
          · refine lv_goto (tgt := 1127) hx hb dL_law_976 (by decide) ?_
            exact kk _ _ _ _ _ _ _ _ _ _ _ _ _ _ _ _ _ _ _ H locs _ _ _ hLI2 hw (by omega) (by omega) (lv_sub hl [2, 3, 4, 5, 6] rfl)
          · exact absurd rfl c_3
      · exact absurd c_1 (by decide)
    · exfalso; omega
    · exfalso; omega
    · exact absurd hKe hOK.1.2
  · obtain ⟨cd9, P, Gr, Ab, hcase, hct2⟩ := hP2
    rcases hcase with ⟨rfl, hKK, hKj, rfl⟩ | ⟨rfl, hKK⟩ | ⟨rfl, hKK, hKj⟩ | ⟨rfl, hKK, hKe⟩
    · exfalso; omega
    · have hcd := True.intro
      have h8c : c2 8 = zmo ad n (1) (bl) := (congrFun hct2 8).trans (zM3_n (by omega) (zU_s _ _ _))
      have h25c : c2 25 = zL G 1 (Fo) := (congrFun hct2 25).trans (zM3_n (by omega) (zU_n (by omega) ((congrFun hct 25).trans (h25))))
      have hLI2 := zLI_q (ct' := c2) hLI (fun j j1 j2 j3 j4 j5 j6 => (congrFun hct2 j).trans (zM3_n (by omega) (zU_n (by omega) ((congrFun hct j).trans (rfl))))) ⟨_, _, _, _, (congrFun hct2 2).trans (zM3_n (by omega) (zU_n (by omega) ((congrFun hct 2).trans (h2))))⟩ ⟨_, h8c⟩ ⟨P, Gr, Ab, congrFun hct2 19, congrFun hct2 20, congrFun hct2 21⟩ ⟨_, h25c⟩
      refine lv_istore (lv' := [(6, zi (z2)), (5, zi (1)), (0, .ref b), (1, .ref (ad (0))), (2, .ref (ad (8))), (3, .ref (ad (25))), (4, zi (i))]) hx hb dL_law_946 hl (by decide) rfl (fun ls hl => ?_)
      refine lv_aload_n hx hb dL_law_948 rfl (lv_at hl 4 rfl) ?_
      refine z_kI (z_runV (k := 8) (As := []) (rest := []) (fs := [zi (1), zi (n), .ref (ad (9)), .ref (ad (10)), .ref (ad (11)), .ref (ad (12)), .ref (ad (13)), .ref (ad (14)), .ref (ad (15)), .ref (ad (16)), .ref (ad (17)), .ref (ad (18)), .ref (ad (19)), .ref (ad (20)), .ref (ad (21)), .ref (ad (22)), zi (bl), .ref (ad (23)), .ref (ad (24))]) ⟨hx, hb, hml, hown, hts⟩ hK hw (k_thr l hl0 G _ _ _ _ (n) (1) (bl) (hIa 8 (by omega)) h8c) (cwV 0 hts gL_law_X4_thrown rfl rfl rfl (by decide +kernel) ⟨Nat.le_of_ble_eq_true rfl, Nat.le_of_ble_eq_true rfl⟩) (hIa 8 (by omega)) h8c rfl rfl rfl hl.1 rfl (Nat.le_of_ble_eq_true rfl) dL_law_949 ⟨by show kc + 4 + 0 + 0 ≤ 601024; omega, by show ks + 24 + 0 + 0 ≤ 7293034; omega⟩) hw (fun z9 c3 H locs hP9 hw => ?_)
      obtain ⟨rfl, hc3⟩ := hP9
      rw [hc3] at hw
      refine lv_iload hx hb dL_law_952 (lv_at hl 1 rfl) ?_
      refine z_icmp_eq (tgt := 959) hx hb dL_law_954 (by decide) ⟨by decide, by decide⟩ ⟨by decide, by decide⟩ (fun c_4 => ?_) (fun c_4 => ?_)
      · refine lv_iload hx hb dL_law_959 (lv_at hl 1 rfl) ?_
        refine z_if_ne (tgt := 976) hx hb dL_law_961 (by decide) ⟨by decide, by decide⟩ (fun c_5 => ?_) (fun c_5 => ?_)
        · refine lv_goto (tgt := 1127) hx hb dL_law_976 (by decide) ?_
          exact kk _ _ _ _ _ _ _ _ _ _ _ _ _ _ _ _ _ _ _ H locs _ _ _ hLI2 hw (by omega) (by omega) (lv_sub hl [2, 3, 4, 5, 6] rfl)
        · exact absurd c_5 (by decide)
      · exact absurd c_4 (by decide)
    · exfalso; omega
    · exfalso; omega
  · exact absurd hE (by decide)
  · obtain ⟨cd9, P, Gr, Ab, hcase, hct2⟩ := hP2
    rcases hcase with ⟨rfl, hKK, hKj, rfl⟩ | ⟨rfl, hKK⟩ | ⟨rfl, hKK, hKj⟩ | ⟨rfl, hKK, hKe⟩
    · exfalso; omega
    · exfalso; omega
    · have hcd := True.intro
      have h8c : c2 8 = zmo ad n (1) (bl) := (congrFun hct2 8).trans (zM3_n (by omega) (zU_s _ _ _))
      have h25c : c2 25 = zL G 1 (Fo) := (congrFun hct2 25).trans (zM3_n (by omega) (zU_n (by omega) ((congrFun hct 25).trans (h25))))
      have hLI2 := zLI_q (ct' := c2) hLI (fun j j1 j2 j3 j4 j5 j6 => (congrFun hct2 j).trans (zM3_n (by omega) (zU_n (by omega) ((congrFun hct j).trans (rfl))))) ⟨_, _, _, _, (congrFun hct2 2).trans (zM3_n (by omega) (zU_n (by omega) ((congrFun hct 2).trans (h2))))⟩ ⟨_, h8c⟩ ⟨P, Gr, Ab, congrFun hct2 19, congrFun hct2 20, congrFun hct2 21⟩ ⟨_, h25c⟩
      refine lv_istore (lv' := [(6, zi (z2)), (5, zi (1)), (0, .ref b), (1, .ref (ad (0))), (2, .ref (ad (8))), (3, .ref (ad (25))), (4, zi (i))]) hx hb dL_law_946 hl (by decide) rfl (fun ls hl => ?_)
      refine lv_aload_n hx hb dL_law_948 rfl (lv_at hl 4 rfl) ?_
      refine z_kI (z_runV (k := 8) (As := []) (rest := []) (fs := [zi (1), zi (n), .ref (ad (9)), .ref (ad (10)), .ref (ad (11)), .ref (ad (12)), .ref (ad (13)), .ref (ad (14)), .ref (ad (15)), .ref (ad (16)), .ref (ad (17)), .ref (ad (18)), .ref (ad (19)), .ref (ad (20)), .ref (ad (21)), .ref (ad (22)), zi (bl), .ref (ad (23)), .ref (ad (24))]) ⟨hx, hb, hml, hown, hts⟩ hK hw (k_thr l hl0 G _ _ _ _ (n) (1) (bl) (hIa 8 (by omega)) h8c) (cwV 0 hts gL_law_X4_thrown rfl rfl rfl (by decide +kernel) ⟨Nat.le_of_ble_eq_true rfl, Nat.le_of_ble_eq_true rfl⟩) (hIa 8 (by omega)) h8c rfl rfl rfl hl.1 rfl (Nat.le_of_ble_eq_true rfl) dL_law_949 ⟨by show kc + 4 + 0 + 0 ≤ 601024; omega, by show ks + 24 + 0 + 0 ≤ 7293034; omega⟩) hw (fun z9 c3 H locs hP9 hw => ?_)
      obtain ⟨rfl, hc3⟩ := hP9
      rw [hc3] at hw
      refine lv_iload hx hb dL_law_952 (lv_at hl 1 rfl) ?_
      refine z_icmp_eq (tgt := 959) hx hb dL_law_954 (by decide) ⟨by decide, by decide⟩ ⟨by decide, by decide⟩ (fun c_6 => ?_) (fun c_6 => ?_)
      · refine lv_iload hx hb dL_law_959 (lv_at hl 1 rfl) ?_
        refine z_if_ne (tgt := 976) hx hb dL_law_961 (by decide) ⟨by decide, by decide⟩ (fun c_7 => ?_) (fun c_7 => ?_)
        · refine lv_goto (tgt := 1127) hx hb dL_law_976 (by decide) ?_
          exact kk _ _ _ _ _ _ _ _ _ _ _ _ _ _ _ _ _ _ _ H locs _ _ _ hLI2 hw (by omega) (by omega) (lv_sub hl [2, 3, 4, 5, 6] rfl)
        · exact absurd c_7 (by decide)
      · exact absurd c_6 (by decide)
    · exact absurd hKe hcc.1.2
  · exact absurd hE (by decide)
  · obtain ⟨cd9, P, Gr, Ab, hcase, hct2⟩ := hP2
    rcases hcase with ⟨rfl, hKK, hKj, rfl⟩ | ⟨rfl, hKK⟩ | ⟨rfl, hKK, hKj⟩ | ⟨rfl, hKK, hKe⟩
    · exact absurd hcc.2 hKK.2
    · first | (exfalso; omega) | exact absurd hcc.2 hKK.2
    · first | (exfalso; omega) | exact absurd hcc.2 hKK.2
    · have hcd := True.intro
      have h8c : c2 8 = zmo ad n (2) (bl) := (congrFun hct2 8).trans (zM3_n (by omega) (zU_s _ _ _))
      have h25c : c2 25 = zL G 1 (Fo) := (congrFun hct2 25).trans (zM3_n (by omega) (zU_n (by omega) ((congrFun hct 25).trans (h25))))
      have hLI2 := zLI_q (ct' := c2) hLI (fun j j1 j2 j3 j4 j5 j6 => (congrFun hct2 j).trans (zM3_n (by omega) (zU_n (by omega) ((congrFun hct j).trans (rfl))))) ⟨_, _, _, _, (congrFun hct2 2).trans (zM3_n (by omega) (zU_n (by omega) ((congrFun hct 2).trans (h2))))⟩ ⟨_, h8c⟩ ⟨P, Gr, Ab, congrFun hct2 19, congrFun hct2 20, congrFun hct2 21⟩ ⟨_, h25c⟩
      refine lv_istore (lv' := [(6, zi (z2)), (5, zi (2)), (0, .ref b), (1, .ref (ad (0))), (2, .ref (ad (8))), (3, .ref (ad (25))), (4, zi (i))]) hx hb dL_law_946 hl (by decide) rfl (fun ls hl => ?_)
      refine lv_aload_n hx hb dL_law_948 rfl (lv_at hl 4 rfl) ?_
      refine z_kI (z_runV (k := 8) (As := []) (rest := []) (fs := [zi (2), zi (n), .ref (ad (9)), .ref (ad (10)), .ref (ad (11)), .ref (ad (12)), .ref (ad (13)), .ref (ad (14)), .ref (ad (15)), .ref (ad (16)), .ref (ad (17)), .ref (ad (18)), .ref (ad (19)), .ref (ad (20)), .ref (ad (21)), .ref (ad (22)), zi (bl), .ref (ad (23)), .ref (ad (24))]) ⟨hx, hb, hml, hown, hts⟩ hK hw (k_thr l hl0 G _ _ _ _ (n) (2) (bl) (hIa 8 (by omega)) h8c) (cwV 0 hts gL_law_X4_thrown rfl rfl rfl (by decide +kernel) ⟨Nat.le_of_ble_eq_true rfl, Nat.le_of_ble_eq_true rfl⟩) (hIa 8 (by omega)) h8c rfl rfl rfl hl.1 rfl (Nat.le_of_ble_eq_true rfl) dL_law_949 ⟨by show kc + 4 + 0 + 0 ≤ 601024; omega, by show ks + 24 + 0 + 0 ≤ 7293034; omega⟩) hw (fun z9 c3 H locs hP9 hw => ?_)
      obtain ⟨rfl, hc3⟩ := hP9
      rw [hc3] at hw
      refine lv_iload hx hb dL_law_952 (lv_at hl 1 rfl) ?_
      refine z_icmp_eq (tgt := 959) hx hb dL_law_954 (by decide) ⟨by decide, by decide⟩ ⟨by decide, by decide⟩ (fun c_8 => ?_) (fun c_8 => ?_)
      · refine lv_iload hx hb dL_law_959 (lv_at hl 1 rfl) ?_
        refine z_if_ne (tgt := 976) hx hb dL_law_961 (by decide) ⟨by decide, by decide⟩ (fun c_9 => ?_) (fun c_9 => ?_)
        · refine lv_goto (tgt := 1127) hx hb dL_law_976 (by decide) ?_
          exact kk _ _ _ _ _ _ _ _ _ _ _ _ _ _ _ _ _ _ _ H locs _ _ _ hLI2 hw (by omega) (by omega) (lv_sub hl [2, 3, 4, 5, 6] rfl)
        · exact absurd c_9 (by decide)
      · exact absurd c_8 (by decide)
  · exact absurd hE (by decide)
