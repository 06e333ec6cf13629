set_option maxHeartbeats 4000000 in
set_option maxRecDepth 100000 in
theorem law_pile {p : Program} {e : Env} {s : State} {m : MethodId} {below : List Frame} {meth : Method} {c : Code} {l : Launch} (hl0 : l.stackTraces = false) {b L : Nat} {xs : Nat → Int32} (hL : L ≤ 2560) (C0 : lw_At p s m meth c b L xs) {G : zG} (hK : zK G (fun q : Nat => s.heap.size ≤ q) s s.heap) {i : Int} (hi0 : 0 ≤ i) (hi5 : i + 5 ≤ L) {kc ks : Nat} (hkc : kc + 50 ≤ 601024) (hks : ks + 500 ≤ 7293034) {I : List Nat} {ad : Nat → Nat} {ct : Nat → va_E} {n : Nat} {σ : Nat → zPl} {b0 bl : Int} {wv Fwv Fmn Fsp Fms Fco Fst Fmo Fsk Fts Ftm Fjn : Int → Int} (hLI : zLI G I ad ct n σ b0 bl wv Fwv Fmn Fsp Fms Fco Fst Fmo Fsk Fts Ftm Fjn) {H : Heap} {locs : List Loc} (hw : zW G (fun q : Nat => s.heap.size ≤ q) s.heap H locs I ad ct) {ls : Array Slot} (hl : lv_has ls 7 [(0, .ref b), (1, .ref (ad 0)), (2, .ref (ad 8)), (3, .ref (ad 25)), (4, zi i)]) (kk : zBk p l e s m b below meth c G i kc ks) : W p l e room_1 s m #[Value.ref b] below meth c H locs kc ks (lw_Z below #[Value.ref b] s) (F0 m 108 ls []) := by
  obtain ⟨hx, hb, hr, hml, hown0, hts0, hX, hbs, hlk, hgv⟩ := id C0
  have hown : s.vm.findClass RL = some m.cls := hown0
  have hts : ∀ w ∈ wsL_law, w.before #[Value.ref b] s = true := fun w h => hts0 w (wsL_law_in w h)
  have hbA : ¬ (fun q : Nat => s.heap.size ≤ q) b := Nat.not_le.mpr hbs
  obtain ⟨hn6, hIa, hIb, hmm, hgs, hRel, hz0, hz9, hbl, h0, h1, hps, ⟨w, p0, f0, a0, h2⟩, ⟨b1, f, g, h, h3, h4, h5, h6, h7⟩, ⟨cd, hms⟩, ⟨Fpl, Fgr, Fab, hmc⟩, ⟨Fat, Fsd, hmb⟩, ⟨Fo, h25⟩⟩ := id hLI
  have hM : ∀ j : Nat, 8 ≤ j → j ≤ 24 → j ∈ I := fun j _ h => hIa j (by omega)
  obtain ⟨v1, e1⟩ : ∃ v : Int, zAx xs (i + 1) = v := ⟨_, rfl⟩
  have hr1 : zr v1 := by rw [← e1]; exact zAx_r _ _
  obtain ⟨v2, e2⟩ : ∃ v : Int, zAx xs (i + 2) = v := ⟨_, rfl⟩
  have hr2 : zr v2 := by rw [← e2]; exact zAx_r _ _
  obtain ⟨v3, e3⟩ : ∃ v : Int, zAx xs (i + 3) = v := ⟨_, rfl⟩
  have hr3 : zr v3 := by rw [← e3]; exact zAx_r _ _
  obtain ⟨v4, e4⟩ : ∃ v : Int, zAx xs (i + 4) = v := ⟨_, rfl⟩
  have hr4 : zr v4 := by rw [← e4]; exact zAx_r _ _
  refine lv_aload_n hx hb dL_law_108 rfl (lv_at hl 1 rfl) ?_
  refine lv_aload_n hx hb dL_law_109 rfl (lv_at hl 0 rfl) ?_
  refine lv_iload hx hb dL_law_110 (lv_at hl 4 rfl) ?_
  refine z_ic hx hb dL_law_112 ?_
  refine z_iadd hx hb dL_law_113 ?_
  refine z_sld hx hb hX hbs hbA hw (by omega) (by omega) hL dL_law_114 ?_
  rw [e1]
  refine lv_aload_n hx hb dL_law_115 rfl (lv_at hl 0 rfl) ?_
  refine lv_iload hx hb dL_law_116 (lv_at hl 4 rfl) ?_
  refine z_ic hx hb dL_law_118 ?_
  refine z_iadd hx hb dL_law_119 ?_
  refine z_sld hx hb hX hbs hbA hw (by omega) (by omega) hL dL_law_120 ?_
  rw [e2]
  refine lv_aload_n hx hb dL_law_121 rfl (lv_at hl 0 rfl) ?_
  refine lv_iload hx hb dL_law_122 (lv_at hl 4 rfl) ?_
  refine z_ic hx hb dL_law_124 ?_
  refine z_iadd hx hb dL_law_125 ?_
  refine z_sld hx hb hX hbs hbA hw (by omega) (by omega) hL dL_law_126 ?_
  rw [e3]
  refine lv_aload_n hx hb dL_law_127 rfl (lv_at hl 0 rfl) ?_
  refine lv_iload hx hb dL_law_128 (lv_at hl 4 rfl) ?_
  refine z_ic hx hb dL_law_130 ?_
  refine z_iadd hx hb dL_law_131 ?_
  refine z_sld hx hb hX hbs hbA hw (by omega) (by omega) hL dL_law_132 ?_
  rw [e4]
  refine lv_aload_n hx hb dL_law_133 rfl (lv_at hl 3 rfl) ?_
  refine z_callan (z_runSWa (As := [.ref (ad (0)), zi (v1), zi (v2), zi (v3), zi (v4), .ref (ad (25))]) (rest := []) ⟨hx, hb, hml, hown, hts⟩ (l_pile l hl0 G I ad _ _ n hn6 (hIa 0 (by decide)) (hIa 1 (by decide)) h0 h1 (hIa 2 (by decide)) (hIa 3 (by decide)) hmm hIb v1 v2 v3 v4 hr1 hr2 hr3 hr4 Fo (hIa 25 (by decide)) h25) (zPreA zEB_t trivial (fun _ _ _ _ h => h) hK hw _) (vx_cwSW 6 hts gL_law_L_pile rfl rfl rfl (by decide +kernel) ⟨Nat.le_of_ble_eq_true rfl, Nat.le_of_ble_eq_true rfl⟩) rfl hl.1 rfl (Nat.le_of_ble_eq_true rfl) dL_law_134 ⟨by show kc + 8 ≤ 601024; omega, by show ks + 69 ≤ 7293034; omega⟩) hw (fun v9 I1 ad1 c1 H locs hag hP hw => ?_)
  have ea : ∀ j : Nat, j ≤ 25 → ad1 j = ad j := fun j hj => hag j (hIa j hj)
  rw [← ea 0 (by decide), ← ea 8 (by decide), ← ea 25 (by decide)] at hl
  rcases hP with ⟨rfl, hOK, hI1, f0, f1, fp, hoth, f25⟩ | ⟨rfl, hcc, hI1, hct⟩ | ⟨rfl, hcc, hI1, hct⟩
  · rw [hI1] at hw
    refine W.eq (g2 := F0 m 137 ls [zi 0]) rfl ?_
    have hg1 : ∀ j : Nat, 8 ≤ j → j ≤ 24 → c1 j = ct j := fun j ja jb => hoth j (by omega) (by omega) (by omega)
    have hm1 : zMst G ad1 c1 n cd bl Fmn Fsp Fms Fco Fst Fmo Fsk Fts Ftm Fjn := zMst_ad (zMst_c hms ((hg1 8 (by omega) (by omega)).trans hms.1) (fun j ja jb => hg1 j (by omega) (by omega))) ea
    have hc1 : zMsc G c1 Fpl Fgr Fab := ⟨(hg1 19 (by omega) (by omega)).trans hmc.1, (hg1 20 (by omega) (by omega)).trans hmc.2.1, (hg1 21 (by omega) (by omega)).trans hmc.2.2⟩
    refine lv_istore (lv' := [(5, zi (0)), (0, .ref b), (1, .ref (ad1 (0))), (2, .ref (ad1 (8))), (3, .ref (ad1 (25))), (4, zi (i))]) hx hb dL_law_137 hl (by decide) rfl (fun ls hl => ?_)
    refine lv_aload_n hx hb dL_law_139 rfl (lv_at hl 3 rfl) ?_
    refine lv_aload_n hx hb dL_law_140 rfl (lv_at hl 1 rfl) ?_
    refine lv_iload hx hb dL_law_141 (lv_at hl 5 rfl) ?_
    refine z_ic hx hb dL_law_143 ?_
    refine z_iadd hx hb dL_law_144 ?_
    refine z_sld hx hb hX hbs hbA hw (by omega) (by omega) hL dL_law_145 ?_
    rw [e1]
    refine lv_aload_n hx hb dL_law_146 rfl (lv_at hl 1 rfl) ?_
    refine lv_iload hx hb dL_law_147 (lv_at hl 5 rfl) ?_
    refine z_ic hx hb dL_law_149 ?_
    refine z_iadd hx hb dL_law_150 ?_
    refine z_sld hx hb hX hbs hbA hw (by omega) (by omega) hL dL_law_151 ?_
    rw [e2]
    refine lv_aload_n hx hb dL_law_152 rfl (lv_at hl 1 rfl) ?_
    refine lv_iload hx hb dL_law_153 (lv_at hl 5 rfl) ?_
    refine z_ic hx hb dL_law_155 ?_
    refine z_iadd hx hb dL_law_156 ?_
    refine z_sld hx hb hX hbs hbA hw (by omega) (by omega) hL dL_law_157 ?_
    rw [e3]
    refine lv_aload_n hx hb dL_law_158 rfl (lv_at hl 1 rfl) ?_
    refine lv_iload hx hb dL_law_159 (lv_at hl 5 rfl) ?_
    refine z_ic hx hb dL_law_161 ?_
    refine z_iadd hx hb dL_law_162 ?_
    refine z_sld hx hb hX hbs hbA hw (by omega) (by omega) hL dL_law_163 ?_
    rw [e4]
    refine z_kI (z_runV (k := 8) (As := [zi (v1), zi (v2), zi (v3), zi (v4)]) (rest := []) (fs := [zi (cd), zi (n), .ref (ad1 (9)), .ref (ad1 (10)), .ref (ad1 (11)), .ref (ad1 (12)), .ref (ad1 (13)), .ref (ad1 (14)), .ref (ad1 (15)), .ref (ad1 (16)), .ref (ad1 (17)), .ref (ad1 (18)), .ref (ad1 (19)), .ref (ad1 (20)), .ref (ad1 (21)), .ref (ad1 (22)), zi (bl), .ref (ad1 (23)), .ref (ad1 (24))]) ⟨hx, hb, hml, hown, hts⟩ hK hw (m_pile l hl0 G _ ad1 _ _ n hn6 σ hgs cd bl Fmn Fsp Fms Fco Fst Fmo Fsk Fts Ftm Fjn Fpl Fgr Fab hRel (fun j ja jb => (List.mem_append_left _ (List.mem_append_left _ (List.mem_append_left _ (List.mem_append_left _ (hIa j (by omega))))))) hm1 hc1 v1 v2 v3 v4 hr1 hr2 hr3 hr4) (cwV 4 hts gL_law_X4_pile rfl rfl rfl (by decide +kernel) ⟨Nat.le_of_ble_eq_true rfl, Nat.le_of_ble_eq_true rfl⟩) (List.mem_append_left _ (List.mem_append_left _ (List.mem_append_left _ (List.mem_append_left _ (hIa 8 (by omega)))))) hm1.1 rfl rfl rfl hl.1 rfl (Nat.le_of_ble_eq_true rfl) dL_law_164 ⟨by show kc + 8 + 0 ≤ 601024; omega, by show ks + 69 + 0 ≤ 7293034; omega⟩) hw (fun z2 c2 H locs hP2 hw => ?_)
    rcases hP2 with ⟨hKK, hKn, rfl, hct2⟩ | ⟨hKK, hct2⟩ | ⟨hKK, hKn, hct2⟩
    · have hcd := True.intro
      have h8c : c2 8 = zmo ad1 (n + 1) (0) (bl) := (congrFun hct2 8).trans (zU_s _ _ _)
      have h25c : c2 25 = zL G 1 (zup Fo 0 (zwp n)) := (congrFun hct2 25).trans (zU_n (by omega) (zU_n (by omega) (zU_n (by omega) (zU_n (by omega) (zU_n (by omega) (zU_n (by omega) (f25)))))))
      have hLI2 := zLI_pile (ct' := c2) hLI hag hOK.2 hOK.1.1 hOK.1.2.1 hOK.1.2.2.1 hOK.1.2.2.2 ((congrFun hct2 0).trans (zU_n (by omega) (zU_n (by omega) (zU_n (by omega) (zU_n (by omega) (zU_n (by omega) (zU_n (by omega) (f0)))))))) ((congrFun hct2 1).trans (zU_n (by omega) (zU_n (by omega) (zU_n (by omega) (zU_n (by omega) (zU_n (by omega) (zU_n (by omega) (f1)))))))) (zPileAt_c fp (fun j ja jb => (congrFun hct2 j).trans (zU_n (by omega) (zU_n (by omega) (zU_n (by omega) (zU_n (by omega) (zU_n (by omega) (zU_n (by omega) (rfl))))))))) h8c ((congrFun hct2 9).trans (zU_n (by omega) (zU_n (by omega) (zU_n (by omega) (zU_n (by omega) (zU_s _ _ _)))))) ((congrFun hct2 10).trans (zU_n (by omega) (zU_n (by omega) (zU_n (by omega) (zU_s _ _ _))))) ((congrFun hct2 11).trans (zU_n (by omega) (zU_n (by omega) (zU_s _ _ _)))) ((congrFun hct2 12).trans (zU_n (by omega) (zU_s _ _ _))) (fun j hj => (congrFun hct2 j).trans (zU_n (by omega) (zU_n (by omega) (zU_n (by omega) (zU_n (by omega) (zU_n (by omega) (zU_n (by omega) (hoth j (by omega) (by omega) (by omega))))))))) ⟨_, h25c⟩
      refine lv_istore (lv' := [(6, zi (n)), (5, zi (0)), (0, .ref b), (1, .ref (ad1 (0))), (2, .ref (ad1 (8))), (3, .ref (ad1 (25))), (4, zi (i))]) hx hb dL_law_167 hl (by decide) rfl (fun ls hl => ?_)
      refine lv_aload_n hx hb dL_law_169 rfl (lv_at hl 4 rfl) ?_
      refine z_kI (z_runV (k := 8) (As := []) (rest := []) (fs := [zi (0), zi (((n + 1 : Nat) : Int)), .ref (ad1 (9)), .ref (ad1 (10)), .ref (ad1 (11)), .ref (ad1 (12)), .ref (ad1 (13)), .ref (ad1 (14)), .ref (ad1 (15)), .ref (ad1 (16)), .ref (ad1 (17)), .ref (ad1 (18)), .ref (ad1 (19)), .ref (ad1 (20)), .ref (ad1 (21)), .ref (ad1 (22)), zi (bl), .ref (ad1 (23)), .ref (ad1 (24))]) ⟨hx, hb, hml, hown, hts⟩ hK hw (k_thr l hl0 G _ _ _ _ (n + 1) (0) (bl) (List.mem_append_left _ (List.mem_append_left _ (List.mem_append_left _ (List.mem_append_left _ (hIa 8 (by omega)))))) h8c) (cwV 0 hts gL_law_X4_thrown rfl rfl rfl (by decide +kernel) ⟨Nat.le_of_ble_eq_true rfl, Nat.le_of_ble_eq_true rfl⟩) (List.mem_append_left _ (List.mem_append_left _ (List.mem_append_left _ (List.mem_append_left _ (hIa 8 (by omega)))))) h8c rfl rfl rfl hl.1 rfl (Nat.le_of_ble_eq_true rfl) dL_law_170 ⟨by show kc + 8 + 0 + 0 ≤ 601024; omega, by show ks + 69 + 0 + 0 ≤ 7293034; omega⟩) hw (fun z9 c3 H locs hP9 hw => ?_)
      obtain ⟨rfl, hc3⟩ := hP9
      rw [hc3] at hw
      refine lv_iload hx hb dL_law_173 (lv_at hl 1 rfl) ?_
      refine z_icmp_eq (tgt := 180) hx hb dL_law_175 (by decide) ⟨by decide, by decide⟩ ⟨by decide, by decide⟩ (fun c_1 => ?_) (fun c_1 => ?_)
      · refine lv_iload hx hb dL_law_180 (lv_at hl 1 rfl) ?_
        refine z_if_ne (tgt := 197) hx hb dL_law_182 (by decide) ⟨by decide, by decide⟩ (fun c_2 => ?_) (fun c_2 => ?_)
        · exact absurd c_2 (by decide)
        · refine lv_aload_n hx hb dL_law_185 rfl (lv_at hl 5 rfl) ?_
          refine z_ic hx hb dL_law_186 ?_
          refine z_lald (f := zup Fo 0 (zwp n)) hx hb hK hw (List.mem_append_left _ (List.mem_append_left _ (List.mem_append_left _ (List.mem_append_left _ (hIa 25 (by omega)))))) h25c (by decide) (by decide) (by decide) dL_law_187 ?_
          rw [show ((zup Fo 0 (zwp n)) (0) : Int) = zwp (n) from zup_s _ _ _]
          refine lv_iload hx hb dL_law_188 (lv_at hl 0 rfl) ?_
          refine z_i2lw hx hb dL_law_190 ?_
          refine z_lcmp_eq (tgt := 197) hx hb dL_law_191 dL_law_192 (by decide) ⟨by have := zwp_r (n); omega, by have := zwp_r (n); omega⟩ ⟨by have := zwp_r (n); omega, by have := zwp_r (n); omega⟩ (fun c_3 => ?_) (fun c_3 => ?_)
          · refine lv_goto (tgt := 1127) hx hb dL_law_197 (by decide) ?_
            exact kk _ _ _ _ _ _ _ _ _ _ _ _ _ _ _ _ _ _ _ H locs _ _ _ hLI2 hw (by omega) (by omega) (lv_sub hl [2, 3, 4, 5, 6] rfl)
          · exact absurd rfl c_3
      · exact absurd c_1 (by decide)
    · exfalso; omega
    · exfalso; omega
  · rw [hI1] at hw
    refine W.eq (g2 := F0 m 137 ls [zi 1]) rfl ?_
    have hg1 : ∀ j : Nat, 8 ≤ j → j ≤ 24 → c1 j = ct j := fun j _ _ => congrFun hct j
    have hm1 : zMst G ad1 c1 n cd bl Fmn Fsp Fms Fco Fst Fmo Fsk Fts Ftm Fjn := zMst_ad (zMst_c hms ((hg1 8 (by omega) (by omega)).trans hms.1) (fun j ja jb => hg1 j (by omega) (by omega))) ea
    have hc1 : zMsc G c1 Fpl Fgr Fab := ⟨(hg1 19 (by omega) (by omega)).trans hmc.1, (hg1 20 (by omega) (by omega)).trans hmc.2.1, (hg1 21 (by omega) (by omega)).trans hmc.2.2⟩
    refine lv_istore (lv' := [(5, zi (1)), (0, .ref b), (1, .ref (ad1 (0))), (2, .ref (ad1 (8))), (3, .ref (ad1 (25))), (4, zi (i))]) hx hb dL_law_137 hl (by decide) rfl (fun ls hl => ?_)
    refine lv_aload_n hx hb dL_law_139 rfl (lv_at hl 3 rfl) ?_
    refine lv_aload_n hx hb dL_law_140 rfl (lv_at hl 1 rfl) ?_
    refine lv_iload hx hb dL_law_141 (lv_at hl 5 rfl) ?_
    refine z_ic hx hb dL_law_143 ?_
    refine z_iadd hx hb dL_law_144 ?_
    refine z_sld hx hb hX hbs hbA hw (by omega) (by omega) hL dL_law_145 ?_
    rw [e1]
    refine lv_aload_n hx hb dL_law_146 rfl (lv_at hl 1 rfl) ?_
    refine lv_iload hx hb dL_law_147 (lv_at hl 5 rfl) ?_
    refine z_ic hx hb dL_law_149 ?_
    refine z_iadd hx hb dL_law_150 ?_
    refine z_sld hx hb hX hbs hbA hw (by omega) (by omega) hL dL_law_151 ?_
    rw [e2]
    refine lv_aload_n hx hb dL_law_152 rfl (lv_at hl 1 rfl) ?_
    refine lv_iload hx hb dL_law_153 (lv_at hl 5 rfl) ?_
    refine z_ic hx hb dL_law_155 ?_
    refine z_iadd hx hb dL_law_156 ?_
    refine z_sld hx hb hX hbs hbA hw (by omega) (by omega) hL dL_law_157 ?_
    rw [e3]
    refine lv_aload_n hx hb dL_law_158 rfl (lv_at hl 1 rfl) ?_
    refine lv_iload hx hb dL_law_159 (lv_at hl 5 rfl) ?_
    refine z_ic hx hb dL_law_161 ?_
    refine z_iadd hx hb dL_law_162 ?_
    refine z_sld hx hb hX hbs hbA hw (by omega) (by omega) hL dL_law_163 ?_
    rw [e4]
    refine z_kI (z_runV (k := 8) (As := [zi (v1), zi (v2), zi (v3), zi (v4)]) (rest := []) (fs := [zi (cd), zi (n), .ref (ad1 (9)), .ref (ad1 (10)), .ref (ad1 (11)), .ref (ad1 (12)), .ref (ad1 (13)), .ref (ad1 (14)), .ref (ad1 (15)), .ref (ad1 (16)), .ref (ad1 (17)), .ref (ad1 (18)), .ref (ad1 (19)), .ref (ad1 (20)), .ref (ad1 (21)), .ref (ad1 (22)), zi (bl), .ref (ad1 (23)), .ref (ad1 (24))]) ⟨hx, hb, hml, hown, hts⟩ hK hw (m_pile l hl0 G _ ad1 _ _ n hn6 σ hgs cd bl Fmn Fsp Fms Fco Fst Fmo Fsk Fts Ftm Fjn Fpl Fgr Fab hRel hM hm1 hc1 v1 v2 v3 v4 hr1 hr2 hr3 hr4) (cwV 4 hts gL_law_X4_pile rfl rfl rfl (by decide +kernel) ⟨Nat.le_of_ble_eq_true rfl, Nat.le_of_ble_eq_true rfl⟩) (hIa 8 (by omega)) hm1.1 rfl rfl rfl hl.1 rfl (Nat.le_of_ble_eq_true rfl) dL_law_164 ⟨by show kc + 8 + 0 ≤ 601024; omega, by show ks + 69 + 0 ≤ 7293034; omega⟩) hw (fun z2 c2 H locs hP2 hw => ?_)
    rcases hP2 with ⟨hKK, hKn, rfl, hct2⟩ | ⟨hKK, hct2⟩ | ⟨hKK, hKn, hct2⟩
    · exfalso; omega
    · have hcd := True.intro
      have h8c : c2 8 = zmo ad1 n (1) (bl) := (congrFun hct2 8).trans (zU_s _ _ _)
      have h25c : c2 25 = zL G 1 Fo := (congrFun hct2 25).trans (zU_n (by omega) ((congrFun hct 25).trans h25))
      have hLI2 := zLI_q (ct' := c2) (zLI_ad hLI hag) (fun j j1 j2 j3 j4 j5 j6 => (congrFun hct2 j).trans (zU_n (by omega) (congrFun hct j))) ⟨_, _, _, _, (congrFun hct2 2).trans (zU_n (by omega) ((congrFun hct 2).trans h2))⟩ ⟨_, h8c⟩ ⟨Fpl, Fgr, Fab, (congrFun hct2 19).trans (zU_n (by omega) hc1.1), (congrFun hct2 20).trans (zU_n (by omega) hc1.2.1), (congrFun hct2 21).trans (zU_n (by omega) hc1.2.2)⟩ ⟨_, h25c⟩
      refine lv_istore (lv' := [(6, zi (z2)), (5, zi (1)), (0, .ref b), (1, .ref (ad1 (0))), (2, .ref (ad1 (8))), (3, .ref (ad1 (25))), (4, zi (i))]) hx hb dL_law_167 hl (by decide) rfl (fun ls hl => ?_)
      refine lv_aload_n hx hb dL_law_169 rfl (lv_at hl 4 rfl) ?_
      refine z_kI (z_runV (k := 8) (As := []) (rest := []) (fs := [zi (1), zi (n), .ref (ad1 (9)), .ref (ad1 (10)), .ref (ad1 (11)), .ref (ad1 (12)), .ref (ad1 (13)), .ref (ad1 (14)), .ref (ad1 (15)), .ref (ad1 (16)), .ref (ad1 (17)), .ref (ad1 (18)), .ref (ad1 (19)), .ref (ad1 (20)), .ref (ad1 (21)), .ref (ad1 (22)), zi (bl), .ref (ad1 (23)), .ref (ad1 (24))]) ⟨hx, hb, hml, hown, hts⟩ hK hw (k_thr l hl0 G _ _ _ _ n (1) (bl) (hIa 8 (by omega)) h8c) (cwV 0 hts gL_law_X4_thrown rfl rfl rfl (by decide +kernel) ⟨Nat.le_of_ble_eq_true rfl, Nat.le_of_ble_eq_true rfl⟩) (hIa 8 (by omega)) h8c rfl rfl rfl hl.1 rfl (Nat.le_of_ble_eq_true rfl) dL_law_170 ⟨by show kc + 8 + 0 + 0 ≤ 601024; omega, by show ks + 69 + 0 + 0 ≤ 7293034; omega⟩) hw (fun z9 c3 H locs hP9 hw => ?_)
      obtain ⟨rfl, hc3⟩ := hP9
      rw [hc3] at hw
      refine lv_iload hx hb dL_law_173 (lv_at hl 1 rfl) ?_
      refine z_icmp_eq (tgt := 180) hx hb dL_law_175 (by decide) ⟨by decide, by decide⟩ ⟨by decide, by decide⟩ (fun c_4 => ?_) (fun c_4 => ?_)
      · refine lv_iload hx hb dL_law_180 (lv_at hl 1 rfl) ?_
        refine z_if_ne (tgt := 197) hx hb dL_law_182 (by decide) ⟨by decide, by decide⟩ (fun c_5 => ?_) (fun c_5 => ?_)
        · refine lv_goto (tgt := 1127) hx hb dL_law_197 (by decide) ?_
          exact kk _ _ _ _ _ _ _ _ _ _ _ _ _ _ _ _ _ _ _ H locs _ _ _ hLI2 hw (by omega) (by omega) (lv_sub hl [2, 3, 4, 5, 6] rfl)
        · exact absurd c_5 (by decide)
      · exact absurd c_4 (by decide)
    · exfalso; omega
  · rw [hI1] at hw
    refine W.eq (g2 := F0 m 137 ls [zi 2]) rfl ?_
    have hg1 : ∀ j : Nat, 8 ≤ j → j ≤ 24 → c1 j = ct j := fun j _ _ => congrFun hct j
    have hm1 : zMst G ad1 c1 n cd bl Fmn Fsp Fms Fco Fst Fmo Fsk Fts Ftm Fjn := zMst_ad (zMst_c hms ((hg1 8 (by omega) (by omega)).trans hms.1) (fun j ja jb => hg1 j (by omega) (by omega))) ea
    have hc1 : zMsc G c1 Fpl Fgr Fab := ⟨(hg1 19 (by omega) (by omega)).trans hmc.1, (hg1 20 (by omega) (by omega)).trans hmc.2.1, (hg1 21 (by omega) (by omega)).trans hmc.2.2⟩
    refine lv_istore (lv' := [(5, zi (2)), (0, .ref b), (1, .ref (ad1 (0))), (2, .ref (ad1 (8))), (3, .ref (ad1 (25))), (4, zi (i))]) hx hb dL_law_137 hl (by decide) rfl (fun ls hl => ?_)
    refine lv_aload_n hx hb dL_law_139 rfl (lv_at hl 3 rfl) ?_
    refine lv_aload_n hx hb dL_law_140 rfl (lv_at hl 1 rfl) ?_
    refine lv_iload hx hb dL_law_141 (lv_at hl 5 rfl) ?_
    refine z_ic hx hb dL_law_143 ?_
    refine z_iadd hx hb dL_law_144 ?_
    refine z_sld hx hb hX hbs hbA hw (by omega) (by omega) hL dL_law_145 ?_
    rw [e1]
    refine lv_aload_n hx hb dL_law_146 rfl (lv_at hl 1 rfl) ?_
    refine lv_iload hx hb dL_law_147 (lv_at hl 5 rfl) ?_
    refine z_ic hx hb dL_law_149 ?_
    refine z_iadd hx hb dL_law_150 ?_
    refine z_sld hx hb hX hbs hbA hw (by omega) (by omega) hL dL_law_151 ?_
    rw [e2]
    refine lv_aload_n hx hb dL_law_152 rfl (lv_at hl 1 rfl) ?_
    refine lv_iload hx hb dL_law_153 (lv_at hl 5 rfl) ?_
    refine z_ic hx hb dL_law_155 ?_
    refine z_iadd hx hb dL_law_156 ?_
    refine z_sld hx hb hX hbs hbA hw (by omega) (by omega) hL dL_law_157 ?_
    rw [e3]
    refine lv_aload_n hx hb dL_law_158 rfl (lv_at hl 1 rfl) ?_
    refine lv_iload hx hb dL_law_159 (lv_at hl 5 rfl) ?_
    refine z_ic hx hb dL_law_161 ?_
    refine z_iadd hx hb dL_law_162 ?_
    refine z_sld hx hb hX hbs hbA hw (by omega) (by omega) hL dL_law_163 ?_
    rw [e4]
    refine z_kI (z_runV (k := 8) (As := [zi (v1), zi (v2), zi (v3), zi (v4)]) (rest := []) (fs := [zi (cd), zi (n), .ref (ad1 (9)), .ref (ad1 (10)), .ref (ad1 (11)), .ref (ad1 (12)), .ref (ad1 (13)), .ref (ad1 (14)), .ref (ad1 (15)), .ref (ad1 (16)), .ref (ad1 (17)), .ref (ad1 (18)), .ref (ad1 (19)), .ref (ad1 (20)), .ref (ad1 (21)), .ref (ad1 (22)), zi (bl), .ref (ad1 (23)), .ref (ad1 (24))]) ⟨hx, hb, hml, hown, hts⟩ hK hw (m_pile l hl0 G _ ad1 _ _ n hn6 σ hgs cd bl Fmn Fsp Fms Fco Fst Fmo Fsk Fts Ftm Fjn Fpl Fgr Fab hRel hM hm1 hc1 v1 v2 v3 v4 hr1 hr2 hr3 hr4) (cwV 4 hts gL_law_X4_pile rfl rfl rfl (by decide +kernel) ⟨Nat.le_of_ble_eq_true rfl, Nat.le_of_ble_eq_true rfl⟩) (hIa 8 (by omega)) hm1.1 rfl rfl rfl hl.1 rfl (Nat.le_of_ble_eq_true rfl) dL_law_164 ⟨by show kc + 8 + 0 ≤ 601024; omega, by show ks + 69 + 0 ≤ 7293034; omega⟩) hw (fun z2 c2 H locs hP2 hw => ?_)
    rcases hP2 with ⟨hKK, hKn, rfl, hct2⟩ | ⟨hKK, hct2⟩ | ⟨hKK, hKn, hct2⟩
    · exfalso; omega
    · exfalso; omega
    · have hcd := True.intro
      have h8c : c2 8 = zmo ad1 n (2) (bl) := (congrFun hct2 8).trans (zU_s _ _ _)
      have h25c : c2 25 = zL G 1 Fo := (congrFun hct2 25).trans (zU_n (by omega) ((congrFun hct 25).trans h25))
      have hLI2 := zLI_q (ct' := c2) (zLI_ad hLI hag) (fun j j1 j2 j3 j4 j5 j6 => (congrFun hct2 j).trans (zU_n (by omega) (congrFun hct j))) ⟨_, _, _, _, (congrFun hct2 2).trans (zU_n (by omega) ((congrFun hct 2).trans h2))⟩ ⟨_, h8c⟩ ⟨Fpl, Fgr, Fab, (congrFun hct2 19).trans (zU_n (by omega) hc1.1), (congrFun hct2 20).trans (zU_n (by omega) hc1.2.1), (congrFun hct2 21).trans (zU_n (by omega) hc1.2.2)⟩ ⟨_, h25c⟩
      refine lv_istore (lv' := [(6, zi (z2)), (5, zi (2)), (0, .ref b), (1, .ref (ad1 (0))), (2, .ref (ad1 (8))), (3, .ref (ad1 (25))), (4, zi (i))]) hx hb dL_law_167 hl (by decide) rfl (fun ls hl => ?_)
      refine lv_aload_n hx hb dL_law_169 rfl (lv_at hl 4 rfl) ?_
      refine z_kI (z_runV (k := 8) (As := []) (rest := []) (fs := [zi (2), zi (n), .ref (ad1 (9)), .ref (ad1 (10)), .ref (ad1 (11)), .ref (ad1 (12)), .ref (ad1 (13)), .ref (ad1 (14)), .ref (ad1 (15)), .ref (ad1 (16)), .ref (ad1 (17)), .ref (ad1 (18)), .ref (ad1 (19)), .ref (ad1 (20)), .ref (ad1 (21)), .ref (ad1 (22)), zi (bl), .ref (ad1 (23)), .ref (ad1 (24))]) ⟨hx, hb, hml, hown, hts⟩ hK hw (k_thr l hl0 G _ _ _ _ n (2) (bl) (hIa 8 (by omega)) h8c) (cwV 0 hts gL_law_X4_thrown rfl rfl rfl (by decide +kernel) ⟨Nat.le_of_ble_eq_true rfl, Nat.le_of_ble_eq_true rfl⟩) (hIa 8 (by omega)) h8c rfl rfl rfl hl.1 rfl (Nat.le_of_ble_eq_true rfl) dL_law_170 ⟨by show kc + 8 + 0 + 0 ≤ 601024; omega, by show ks + 69 + 0 + 0 ≤ 7293034; omega⟩) hw (fun z9 c3 H locs hP9 hw => ?_)
      obtain ⟨rfl, hc3⟩ := hP9
      rw [hc3] at hw
      refine lv_iload hx hb dL_law_173 (lv_at hl 1 rfl) ?_
      refine z_icmp_eq (tgt := 180) hx hb dL_law_175 (by decide) ⟨by decide, by decide⟩ ⟨by decide, by decide⟩ (fun c_6 => ?_) (fun c_6 => ?_)
      · refine lv_iload hx hb dL_law_180 (lv_at hl 1 rfl) ?_
        refine z_if_ne (tgt := 197) hx hb dL_law_182 (by decide) ⟨by decide, by decide⟩ (fun c_7 => ?_) (fun c_7 => ?_)
        · refine lv_goto (tgt := 1127) hx hb dL_law_197 (by decide) ?_
          exact kk _ _ _ _ _ _ _ _ _ _ _ _ _ _ _ _ _ _ _ H locs _ _ _ hLI2 hw (by omega) (by omega) (lv_sub hl [2, 3, 4, 5, 6] rfl)
        · exact absurd c_7 (by decide)
      · exact absurd c_6 (by decide)

set_option maxHeartbeats 4000000 in
set_option maxRecDepth 100000 in
theorem law_loop {p : Program} {e : Env} {s : State} {m : MethodId} {below : List Frame} {meth : Method} {c : Code} {l : Launch} (hl0 : l.stackTraces = false) {b L : Nat} {xs : Nat → Int32} (hL : L ≤ 2560) (C0 : lw_At p s m meth c b L xs) {G : zG} (hK : zK G (fun q : Nat => s.heap.size ≤ q) s s.heap) : ∀ (nn : Nat) (i : Int) (kc ks : Nat) (I : List Nat) (ad : Nat → Nat) (ct : Nat → va_E) (n : Nat) (σ : Nat → zPl) (b0 bl : Int) (wv Fwv Fmn Fsp Fms Fco Fst Fmo Fsk Fts Ftm Fjn : Int → Int), ((L : Int) + 6 - i).toNat < nn → 0 ≤ i → i ≤ (L : Int) + 5 → (kc : Int) + 10 * ((L : Int) + 5 - i) ≤ 600000 → (ks : Int) + 100 * ((L : Int) + 5 - i) ≤ 7000000 → zLI G I ad ct n σ b0 bl wv Fwv Fmn Fsp Fms Fco Fst Fmo Fsk Fts Ftm Fjn → ∀ (H : Heap) (locs : List Loc), zW G (fun q : Nat => s.heap.size ≤ q) s.heap H locs I ad ct → ∀ ls : Array Slot, lv_has ls 7 [(0, .ref b), (1, .ref (ad 0)), (2, .ref (ad 8)), (3, .ref (ad 25)), (4, zi i)] → W p l e room_1 s m #[Value.ref b] below meth c H locs kc ks (lw_Z below #[Value.ref b] s) (F0 m 23 ls []) := by
  intro nn
  induction nn with
  | zero => intro i kc ks I ad ct n σ b0 bl wv Fwv Fmn Fsp Fms Fco Fst Fmo Fsk Fts Ftm Fjn hme; exact absurd hme (Nat.not_lt_zero _)
  | succ nn ih =>
    intro i kc ks I ad ct n σ b0 bl wv Fwv Fmn Fsp Fms Fco Fst Fmo Fsk Fts Ftm Fjn hme hi0 hi1 hkc hks hLI H locs hw ls hl
    obtain ⟨hx, hb, hr, hml, hown, hts0, hX, hbs, hlk, hgv⟩ := id C0
    have hbA : ¬ (fun q : Nat => s.heap.size ≤ q) b := Nat.not_le.mpr hbs
    refine lv_iload hx hb dL_law_23 (lv_at hl 4 rfl) ?_
    refine lv_aload_n hx hb dL_law_25 rfl (lv_at hl 0 rfl) ?_
    refine z_slen hx hb hX hbs hbA hw dL_law_26 ?_
    refine z_ic hx hb dL_law_27 ?_
    refine z_isub hx hb dL_law_28 ?_
    refine z_icmp_gt (tgt := 1133) hx hb dL_law_29 (by decide) ⟨by omega, by omega⟩ ⟨by omega, by omega⟩ (fun c9 => ?_) (fun c9 => ?_)
    · refine z_ic hx hb dL_law_1133 ?_
      exact va_forget (fun q hq => hw.2.2.1.2.2 q hq) (W.widen (show kc ≤ 601024 by omega) (show ks ≤ 7293034 by omega) (lw_ret hx hb hr hlk dL_law_1134))
    · have kk : zBk p l e s m b below meth c G i kc ks := by
        intro I ad ct n σ b0 bl wv Fwv Fmn Fsp Fms Fco Fst Fmo Fsk Fts Ftm Fjn H locs k1 k2 ls hLI hw hk1 hk2 hl
        refine z_iinc (lv' := [(4, zi ((i) + 5)), (0, .ref b), (1, .ref (ad 0)), (2, .ref (ad 8)), (3, .ref (ad 25))]) hx hb dL_law_1127 hl (k := 4) rfl (by decide) rfl (fun ls hl => ?_)
        refine lv_goto (tgt := 23) hx hb dL_law_1130 (by decide) ?_
        exact ih (i + 5) k1 k2 I ad ct n σ b0 bl wv Fwv Fmn Fsp Fms Fco Fst Fmo Fsk Fts Ftm Fjn (by omega) (by omega) (by omega) (by omega) (by omega) hLI _ _ hw _ (lv_sub hl [1, 2, 3, 4, 0] rfl)
      refine lv_aload_n hx hb dL_law_32 rfl (lv_at hl 0 rfl) ?_
      refine lv_iload hx hb dL_law_33 (lv_at hl 4 rfl) ?_
      refine z_sld hx hb hX hbs hbA hw hi0 (by omega) hL dL_law_35 ?_
      refine z_bi hx hb dL_law_36 (by decide) ?_
      refine z_and15 hx hb dL_law_38 (fun z hz0 hz1 => ?_)
      rcases (show z = 0 ∨ z = 1 ∨ z = 2 ∨ z = 3 ∨ z = 4 ∨ z = 5 ∨ z = 6 ∨ z = 7 ∨ z = 8 ∨ z = 9 ∨ z = 10 ∨ z = 11 ∨ z = 12 ∨ z = 13 ∨ z = 14 ∨ z = 15 by omega) with rfl | rfl | rfl | rfl | rfl | rfl | rfl | rfl | rfl | rfl | rfl | rfl | rfl | rfl | rfl | rfl
      · refine lv_tableIn (tgt := 108) (off := 69) hx hb dL_law_39 (by decide +kernel) (by decide +kernel) (by decide +kernel) (by decide) ?_
        exact law_pile hl0 hL C0 hK hi0 (by omega) (by omega) (by omega) hLI hw hl kk
      · refine lv_tableIn (tgt := 200) (off := 161) hx hb dL_law_39 (by decide +kernel) (by decide +kernel) (by decide +kernel) (by decide) ?_
        exact law_ground hl0 hL C0 hK hi0 (by omega) (by omega) (by omega) hLI hw hl kk
      · refine lv_tableIn (tgt := 272) (off := 233) hx hb dL_law_39 (by decide +kernel) (by decide +kernel) (by decide +kernel) (by decide) ?_
        exact law_sinks hl0 hL C0 hK hi0 (by omega) (by omega) (by omega) hLI hw hl kk
      · refine lv_tableIn (tgt := 352) (off := 313) hx hb dL_law_39 (by decide +kernel) (by decide +kernel) (by decide +kernel) (by decide) ?_
        exact law_tip hl0 hL C0 hK hi0 (by omega) (by omega) (by omega) hLI hw hl kk
      · refine lv_tableIn (tgt := 412) (off := 373) hx hb dL_law_39 (by decide +kernel) (by decide +kernel) (by decide +kernel) (by decide) ?_
        exact law_under hl0 hL C0 hK hi0 (by omega) (by omega) (by omega) hLI hw hl kk
      · refine lv_tableIn (tgt := 480) (off := 441) hx hb dL_law_39 (by decide +kernel) (by decide +kernel) (by decide +kernel) (by decide) ?_
        exact law_piece hl0 hL C0 hK hi0 (by omega) (by omega) (by omega) hLI hw hl kk
      · refine lv_tableIn (tgt := 572) (off := 533) hx hb dL_law_39 (by decide +kernel) (by decide +kernel) (by decide +kernel) (by decide) ?_
        exact law_load hl0 hL C0 hK hi0 (by omega) (by omega) (by omega) hLI hw hl kk
      · refine lv_tableIn (tgt := 640) (off := 601) hx hb dL_law_39 (by decide +kernel) (by decide +kernel) (by decide +kernel) (by decide) ?_
        exact law_hold hl0 hL C0 hK hi0 (by omega) (by omega) (by omega) hLI hw hl kk
      · refine lv_tableIn (tgt := 696) (off := 657) hx hb dL_law_39 (by decide +kernel) (by decide +kernel) (by decide +kernel) (by decide) ?_
        exact law_cheapest hl0 hL C0 hK hi0 (by omega) (by omega) (by omega) hLI hw hl kk
      · refine lv_tableIn (tgt := 764) (off := 725) hx hb dL_law_39 (by decide +kernel) (by decide +kernel) (by decide +kernel) (by decide) ?_
        exact law_join hl0 hL C0 hK hi0 (by omega) (by omega) (by omega) hLI hw hl kk
      · refine lv_tableIn (tgt := 855) (off := 816) hx hb dL_law_39 (by decide +kernel) (by decide +kernel) (by decide +kernel) (by decide) ?_
        exact law_group hl0 hL C0 hK hi0 (by omega) (by omega) (by omega) hLI hw hl kk
      · refine lv_tableIn (tgt := 911) (off := 872) hx hb dL_law_39 (by decide +kernel) (by decide +kernel) (by decide +kernel) (by decide) ?_
        exact law_share hl0 hL C0 hK hi0 (by omega) (by omega) (by omega) hLI hw hl kk
      · refine lv_tableIn (tgt := 979) (off := 940) hx hb dL_law_39 (by decide +kernel) (by decide +kernel) (by decide +kernel) (by decide) ?_
        exact law_blow hl0 hL C0 hK hi0 (by omega) (by omega) (by omega) hLI hw hl kk
      · refine lv_tableIn (tgt := 1059) (off := 1020) hx hb dL_law_39 (by decide +kernel) (by decide +kernel) (by decide +kernel) (by decide) ?_
        exact law_wave hl0 hL C0 hK hi0 (by omega) (by omega) (by omega) hLI hw hl kk
      · refine lv_tableOut (tgt := 1127) hx hb dL_law_39 (Or.inr (by decide +kernel)) (by decide) ?_
        exact kk I ad ct n σ b0 bl wv Fwv Fmn Fsp Fms Fco Fst Fmo Fsk Fts Ftm Fjn H locs kc ks ls hLI hw (by omega) (by omega) hl
      · refine lv_tableOut (tgt := 1127) hx hb dL_law_39 (Or.inr (by decide +kernel)) (by decide) ?_
        exact kk I ad ct n σ b0 bl wv Fwv Fmn Fsp Fms Fco Fst Fmo Fsk Fts Ftm Fjn H locs kc ks ls hLI hw (by omega) (by omega) hl

set_option maxHeartbeats 8000000 in
set_option maxRecDepth 100000 in
theorem whole_start {p : Program} {e : Env} {s : State} {m : MethodId} {below : List Frame} {meth : Method} {c : Code} (l : Launch) (hflags : l.flags = flags0) {b L : Nat} {xs : Nat → Int32} (hL : L ≤ 2560) (C0 : lw_At p s m meth c b L xs) : W p l e room_1 s m #[Value.ref b] below meth c s.heap [] 0 0 (lw_Z below #[Value.ref b] s) (entryFrame m ([Value.ref b] : List Value).toArray 7) := by
  have hl0 := zst_off hflags
  obtain ⟨hx, hb, hr, hml, hown0, hts0, hX, hbs, hlk, hgv⟩ := id C0
  have hown : s.vm.findClass RL = some m.cls := hown0
  have hts : ∀ w ∈ wsL_law, w.before #[Value.ref b] s = true := fun w h => hts0 w (wsL_law_in w h)
  obtain ⟨G, hK, hao⟩ := z_world hts0 hgv
  have hl := lv_entry ([.ref b]) (n := 7) (Nat.le_of_ble_eq_true rfl)
  rw [lg_entry_eq]
  generalize (lg_sl ([.ref b]) ++ List.replicate (7 - (lg_sl ([.ref b])).length) Slot.unset).toArray = ls at hl ⊢
  have hl : lv_has ls 7 [(0, .ref b)] := hl
  obtain ⟨ad0, had0⟩ : ∃ ad0 : Nat → Nat, ad0 = fun _ => 0 := ⟨_, rfl⟩
  obtain ⟨ct0, hct0⟩ : ∃ ct0 : Nat → va_E, ct0 = fun _ => .inr (0, []) := ⟨_, rfl⟩
  have hw : zW G (fun q : Nat => s.heap.size ≤ q) s.heap s.heap [] [] ad0 ct0 := ⟨⟨fun k q h => by simp at h, List.nodup_nil, fun i h => absurd h List.not_mem_nil⟩, fun k h => absurd h List.not_mem_nil, va_S.rf, fun q h => h⟩
  have w_0 := hts (.classLink RL 8 RX3) (by decide +kernel)
  have w_1 := hts (.instantiable RX3 4) (by decide +kernel)
  have w_2 := hts (.initialized RX3) (by decide +kernel)
  have w_3 : ∀ w ∈ wsX30, w ∈ wsL_law := by decide +kernel
  have w_4 := hts (.classLink RL 63 RX4) (by decide +kernel)
  have w_5 := hts (.instantiable RX4 19) (by decide +kernel)
  have w_6 := hts (.initialized RX4) (by decide +kernel)
  have w_7 : ∀ w ∈ wsX40, w ∈ wsL_law := by decide +kernel
  have w_8 := hts (.arrayClass .long) (by decide +kernel)
  have w_9 := hts (.methodLink RL 62 yX3_init) (by decide +kernel)
  have w_10 := hts (.instanceMethod yX3_init) (by decide +kernel)
  have w_11 := hts (.methodLink RL 65 yX4_init) (by decide +kernel)
  have w_12 := hts (.instanceMethod yX4_init) (by decide +kernel)
  refine z_new hx hb hts w_3 tyX3_ok hown w_0 w_1 w_2 hK hw (k := 0) (by decide) (ci := 3) rfl [.null, .null, .null, zi (0)] (fun j hj => by rcases (show j = 0 ∨ j = 1 ∨ j = 2 ∨ j = 3 by omega) with rfl | rfl | rfl | rfl <;> rfl) (Nat.le_of_ble_eq_true rfl) (Nat.le_of_ble_eq_true rfl) dL_law_0 (fun ad_1 H had_1 hw => ?_)
  refine lv_dup hx hb dL_law_3 rfl ?_
  refine z_callan (z_runIa (As := []) (rest := [.ref (ad_1 (0))]) (k := 0) ⟨hx, hb, hml, hown, hts⟩ (k_PileMoves l hl0 G _ _ _ ((zU_s _ _ _))) (zPreA zEB_ao hao (fun U g mk a h => va_AO.moved (Vm.Alike.refl U.vm) h) hK hw _) (cwI 0 hts gL_law_X3_init rfl rfl rfl w_2 w_9 w_10 rfl (by decide +kernel) ⟨Nat.le_of_ble_eq_true rfl, Nat.le_of_ble_eq_true rfl⟩) rfl hl.1 rfl (Nat.le_of_ble_eq_true rfl) dL_law_4 ⟨Nat.le_of_ble_eq_true rfl, Nat.le_of_ble_eq_true rfl⟩) hw (fun v I1 ad_2 ct_3 H locs hag_4 hP_5 hw => ?_)
  obtain ⟨rfl, rfl, g0, g1, g2, g3, g4, g5, g6, g7⟩ := hP_5
  refine W.eq (g2 := F0 m 7 ls [.ref (ad_1 (0))]) rfl ?_
  have e_6 : ad_2 (0) = ad_1 (0) := hag_4 _ (by decide)
  rw [← e_6]
  refine lv_astore_n (lv' := [(1, .ref (ad_2 (0))), (0, .ref b)]) hx hb dL_law_7 rfl hl (by decide) rfl (fun ls hl => ?_)
  refine z_new hx hb hts w_7 tyX4_ok hown w_4 w_5 w_6 hK hw (k := 8) (by decide) (ci := 4) rfl [zi (0), zi (0), .null, .null, .null, .null, .null, .null, .null, .null, .null, .null, .null, .null, .null, .null, zi (0), .null, .null] (fun j hj => by rcases (show j = 0 ∨ j = 1 ∨ j = 2 ∨ j = 3 ∨ j = 4 ∨ j = 5 ∨ j = 6 ∨ j = 7 ∨ j = 8 ∨ j = 9 ∨ j = 10 ∨ j = 11 ∨ j = 12 ∨ j = 13 ∨ j = 14 ∨ j = 15 ∨ j = 16 ∨ j = 17 ∨ j = 18 by omega) with rfl | rfl | rfl | rfl | rfl | rfl | rfl | rfl | rfl | rfl | rfl | rfl | rfl | rfl | rfl | rfl | rfl | rfl | rfl <;> rfl) (Nat.le_of_ble_eq_true rfl) (Nat.le_of_ble_eq_true rfl) dL_law_8 (fun ad_7 H had_7 hw => ?_)
  have e_8 : ad_7 (0) = ad_2 (0) := had_7 _ (by decide)
  rw [← e_8] at hl
  have e_9 : ad_7 (1) = ad_2 (1) := had_7 _ (by decide)
  rw [← e_9] at g0
  have e_10 : ad_7 (2) = ad_2 (2) := had_7 _ (by decide)
  rw [← e_10] at g0
  have e_11 : ad_7 (3) = ad_2 (3) := had_7 _ (by decide)
  rw [← e_11] at g0
  have e_12 : ad_7 (4) = ad_2 (4) := had_7 _ (by decide)
  rw [← e_12] at g3
  have e_13 : ad_7 (5) = ad_2 (5) := had_7 _ (by decide)
  rw [← e_13] at g3
  have e_14 : ad_7 (6) = ad_2 (6) := had_7 _ (by decide)
  rw [← e_14] at g3
  have e_15 : ad_7 (7) = ad_2 (7) := had_7 _ (by decide)
  rw [← e_15] at g3
  refine lv_dup hx hb dL_law_11 rfl ?_
  refine z_callan (z_runIa (As := []) (rest := [.ref (ad_7 (8))]) (k := 8) ⟨hx, hb, hml, hown, hts⟩ (k_Model l hl0 G _ _ _ ((zU_s _ _ _))) (zPreA zEB_t trivial (fun _ _ _ _ h => h) hK hw _) (cwI 0 hts gL_law_X4_init rfl rfl rfl w_6 w_11 w_12 rfl (by decide +kernel) ⟨Nat.le_of_ble_eq_true rfl, Nat.le_of_ble_eq_true rfl⟩) rfl hl.1 rfl (Nat.le_of_ble_eq_true rfl) dL_law_12 ⟨Nat.le_of_ble_eq_true rfl, Nat.le_of_ble_eq_true rfl⟩) hw (fun v I1 ad_16 ct_17 H locs hag_18 hP_19 hw => ?_)
  obtain ⟨rfl, rfl, m8, m9, m10, m11, m12, m13, m14, m15, m16, m17, m18, m19, m20, m21, m22, m23, m24, hoth⟩ := hP_19
  refine W.eq (g2 := F0 m 15 ls [.ref (ad_7 (8))]) rfl ?_
  have hf0_12 : ct_17 (0) = .inr (3, [.ref (ad_7 (1)), .ref (ad_7 (2)), .ref (ad_7 (3)), zi (0)]) := (hoth 0 (by decide)).trans (zU_n (by decide) g0)
  have hf1_12 : ct_17 (1) = zP G (6) (fun _ => none) := (hoth 1 (by decide)).trans (zU_n (by decide) g1)
  have hf2_12 : ct_17 (2) = .inr (2, [zi (0), zi (0), zi (0), zi (0)]) := (hoth 2 (by decide)).trans (zU_n (by decide) g2)
  have hf3_12 : ct_17 (3) = .inr (0, [zi (0), zi (0), .ref (ad_7 (4)), .ref (ad_7 (5)), .ref (ad_7 (6)), .ref (ad_7 (7))]) := (hoth 3 (by decide)).trans (zU_n (by decide) g3)
  have hf4_12 : ct_17 (4) = zI G (13) (fun _ => 0) := (hoth 4 (by decide)).trans (zU_n (by decide) g4)
  have hf5_12 : ct_17 (5) = zI G (13) (fun _ => 0) := (hoth 5 (by decide)).trans (zU_n (by decide) g5)
  have hf6_12 : ct_17 (6) = zL G (13) (fun _ => 0) := (hoth 6 (by decide)).trans (zU_n (by decide) g6)
  have hf7_12 : ct_17 (7) = zI G (2600) (fun _ => 0) := (hoth 7 (by decide)).trans (zU_n (by decide) g7)
  have e_20 : ad_16 (8) = ad_7 (8) := hag_18 _ (by decide)
  rw [← e_20]
  have e_21 : ad_16 (0) = ad_7 (0) := hag_18 _ (by decide)
  rw [← e_21] at hl
  have e_22 : ad_16 (1) = ad_7 (1) := hag_18 _ (by decide)
  rw [← e_22] at hf0_12
  have e_23 : ad_16 (2) = ad_7 (2) := hag_18 _ (by decide)
  rw [← e_23] at hf0_12
  have e_24 : ad_16 (3) = ad_7 (3) := hag_18 _ (by decide)
  rw [← e_24] at hf0_12
  have e_25 : ad_16 (4) = ad_7 (4) := hag_18 _ (by decide)
  rw [← e_25] at hf3_12
  have e_26 : ad_16 (5) = ad_7 (5) := hag_18 _ (by decide)
  rw [← e_26] at hf3_12
  have e_27 : ad_16 (6) = ad_7 (6) := hag_18 _ (by decide)
  rw [← e_27] at hf3_12
  have e_28 : ad_16 (7) = ad_7 (7) := hag_18 _ (by decide)
  rw [← e_28] at hf3_12
  refine lv_astore_n (lv' := [(2, .ref (ad_16 (8))), (1, .ref (ad_16 (0))), (0, .ref b)]) hx hb dL_law_15 rfl hl (by decide) rfl (fun ls hl => ?_)
  refine z_ic hx hb dL_law_16 ?_
  refine z_newl hx hb w_8 hK hw (k := 25) (by decide) (n := 1) rfl (by decide) (Nat.le_of_ble_eq_true rfl) (Nat.le_of_ble_eq_true rfl) dL_law_17 (fun ad_29 H had_29 hw => ?_)
  have e_30 : ad_29 (0) = ad_16 (0) := had_29 _ (by decide)
  rw [← e_30] at hl
  have e_31 : ad_29 (8) = ad_16 (8) := had_29 _ (by decide)
  rw [← e_31] at hl
  have e_32 : ad_29 (1) = ad_16 (1) := had_29 _ (by decide)
  rw [← e_32] at hf0_12
  have e_33 : ad_29 (2) = ad_16 (2) := had_29 _ (by decide)
  rw [← e_33] at hf0_12
  have e_34 : ad_29 (3) = ad_16 (3) := had_29 _ (by decide)
  rw [← e_34] at hf0_12
  have e_35 : ad_29 (4) = ad_16 (4) := had_29 _ (by decide)
  rw [← e_35] at hf3_12
  have e_36 : ad_29 (5) = ad_16 (5) := had_29 _ (by decide)
  rw [← e_36] at hf3_12
  have e_37 : ad_29 (6) = ad_16 (6) := had_29 _ (by decide)
  rw [← e_37] at hf3_12
  have e_38 : ad_29 (7) = ad_16 (7) := had_29 _ (by decide)
  rw [← e_38] at hf3_12
  have e_39 : ad_29 (9) = ad_16 (9) := had_29 _ (by decide)
  rw [← e_39] at m8
  have e_40 : ad_29 (10) = ad_16 (10) := had_29 _ (by decide)
  rw [← e_40] at m8
  have e_41 : ad_29 (11) = ad_16 (11) := had_29 _ (by decide)
  rw [← e_41] at m8
  have e_42 : ad_29 (12) = ad_16 (12) := had_29 _ (by decide)
  rw [← e_42] at m8
  have e_43 : ad_29 (13) = ad_16 (13) := had_29 _ (by decide)
  rw [← e_43] at m8
  have e_44 : ad_29 (14) = ad_16 (14) := had_29 _ (by decide)
  rw [← e_44] at m8
  have e_45 : ad_29 (15) = ad_16 (15) := had_29 _ (by decide)
  rw [← e_45] at m8
  have e_46 : ad_29 (16) = ad_16 (16) := had_29 _ (by decide)
  rw [← e_46] at m8
  have e_47 : ad_29 (17) = ad_16 (17) := had_29 _ (by decide)
  rw [← e_47] at m8
  have e_48 : ad_29 (18) = ad_16 (18) := had_29 _ (by decide)
  rw [← e_48] at m8
  have e_49 : ad_29 (19) = ad_16 (19) := had_29 _ (by decide)
  rw [← e_49] at m8
  have e_50 : ad_29 (20) = ad_16 (20) := had_29 _ (by decide)
  rw [← e_50] at m8
  have e_51 : ad_29 (21) = ad_16 (21) := had_29 _ (by decide)
  rw [← e_51] at m8
  have e_52 : ad_29 (22) = ad_16 (22) := had_29 _ (by decide)
  rw [← e_52] at m8
  have e_53 : ad_29 (23) = ad_16 (23) := had_29 _ (by decide)
  rw [← e_53] at m8
  have e_54 : ad_29 (24) = ad_16 (24) := had_29 _ (by decide)
  rw [← e_54] at m8
  refine lv_astore_n (lv' := [(3, .ref (ad_29 (25))), (2, .ref (ad_29 (8))), (1, .ref (ad_29 (0))), (0, .ref b)]) hx hb dL_law_19 rfl hl (by decide) rfl (fun ls hl => ?_)
  refine z_ic hx hb dL_law_20 ?_
  refine lv_istore (lv' := [(4, zi (0)), (3, .ref (ad_29 (25))), (2, .ref (ad_29 (8))), (1, .ref (ad_29 (0))), (0, .ref b)]) hx hb dL_law_21 hl (by decide) rfl (fun ls hl => ?_)
  have ez : zpf ad_29 0 = (fun _ => none) := by funext j; unfold zpf; exact if_neg (fun h9 => by have := h9.1; have := h9.2; omega)
  refine law_loop hl0 hL C0 hK ((L : Int) + 7).toNat 0 _ _ _ ad_29 _ 0 (fun _ => znw 0 0 0 0) 0 (-1000000) (fun _ => 0) (fun _ => 0) (fun _ => 0) (fun _ => 0) (fun _ => 0) (fun _ => 0) (fun _ => 0) (fun _ => 0) (fun _ => 0) (fun _ => 0) (fun _ => 0) (fun _ => 0) (by omega) (by omega) (by omega) ?_ ?_ ?_ _ _ hw _ (lv_sub hl [4, 3, 2, 1, 0] rfl)
  · show ((26 : Nat) : Int) + _ ≤ _; omega
  · show ((5617 : Nat) : Int) + _ ≤ _; omega
  · exact ⟨by decide, by decide, by decide, fun p hp => absurd hp (Nat.not_lt_zero p), fun p hp => absurd hp (Nat.not_lt_zero p), fun p hp => absurd hp (Nat.not_lt_zero p), fun _ _ => ⟨rfl, rfl, rfl⟩, fun _ _ => ⟨rfl, rfl, rfl⟩, Or.inl ⟨rfl, rfl⟩, (zU_n (by decide) hf0_12), by rw [ez]; exact (zU_n (by decide) hf1_12), fun p hp => absurd hp (Nat.not_lt_zero p), ⟨0, 0, 0, 0, (zU_n (by decide) hf2_12)⟩, ⟨0, (fun _ => 0), (fun _ => 0), (fun _ => 0), (zU_n (by decide) hf3_12), (zU_n (by decide) hf4_12), (zU_n (by decide) hf5_12), (zU_n (by decide) hf6_12), (zU_n (by decide) hf7_12)⟩, ⟨0, (zU_n (by decide) m8), (zU_n (by decide) m9), (zU_n (by decide) m10), (zU_n (by decide) m11), (zU_n (by decide) m12), (zU_n (by decide) m13), (zU_n (by decide) m14), (zU_n (by decide) m15), (zU_n (by decide) m16), (zU_n (by decide) m17), (zU_n (by decide) m18)⟩, ⟨(fun _ => 0), (fun _ => 0), (fun _ => 0), (zU_n (by decide) m19), (zU_n (by decide) m20), (zU_n (by decide) m21)⟩, ⟨(fun _ => 0), (fun _ => 0), (zU_n (by decide) m22), (zU_n (by decide) m23), (zU_n (by decide) m24)⟩, ⟨(fun _ => 0), (zU_s _ _ _)⟩⟩
