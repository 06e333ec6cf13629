set_option maxHeartbeats 4000000 in
set_option maxRecDepth 100000 in
theorem l_ground (l : Launch) (hl0 : l.stackTraces = false) (G : zG) (I : List Nat) (ad : Nat → Nat) (ct : Nat → va_E) (sz : Nat) (n : Nat) (hn6 : n ≤ 6) (hI0 : 0 ∈ I) (hI1 : 1 ∈ I) (h0 : ct 0 = .inr (3, [.ref (ad 1), .ref (ad 2), .ref (ad 3), zi n])) (h1 : ct 1 = zP G 6 (zpf ad n)) (σ : Nat → zPl) (hgs : ∀ p : Nat, p < n → zGood (σ p)) (hms : ∀ p : Nat, p < n → zMem4 I (40 + 4 * p)) (hps : ∀ p : Nat, p < n → zPileAt G ad ct (40 + 4 * p) (σ p)) (a1 a2 a3 a4 : Int) (hz1 : zr a1) (hz2 : zr a2) (hz3 : zr a3) (hz4 : zr a4) : zN l yL_ground wsL_ground 9 154 4 24 G [.ref (ad (0)), zi (a1), zi (a2), zi (a3), zi (a4)] I ad ct zno sz (zk I (zqi fun z u => (((0 ≤ a1 ∧ a1 < n) ∧ (0 ≤ a2 ∧ a2 < pn (σ (a1).toNat)) ∧ (0 ≤ a3 ∧ a3 ≤ 1000) ∧ (0 ≤ a4 ∧ a4 ≤ 100000)) ∧ z = 0 ∧ u = zU (zU ct (40 + 4 * (a1).toNat + 1) (zI G (σ (a1).toNat).1 (zup (pst (σ (a1).toNat)) a2 a3))) (40 + 4 * (a1).toNat + 2) (zI G (σ (a1).toNat).1 (zup (pmo (σ (a1).toNat)) a2 a4))) ∨ ((fun E => E = zIA ∧ ¬ ((0 ≤ a1 ∧ a1 < n) ∧ (0 ≤ a2 ∧ a2 < pn (σ (a1).toNat)) ∧ (0 ≤ a3 ∧ a3 ≤ 1000) ∧ (0 ≤ a4 ∧ a4 ≤ 100000))) zIA ∧ z = 1 ∧ u = ct))) := by
  refine z_ofWH (ret := (some .int)) hl0 rfl rfl (Nat.le_of_ble_eq_true rfl) ?_
  intro p e s m args below meth c A ls hA0 hsz hF hr htab hw hl
  obtain ⟨hx, hb, hml, hown, hts, hK, hlk, hst⟩ := hF
  have hown : s.vm.findClass RL = some m.cls := hown
  have hl : lv_has ls 6 [(0, .ref (ad (0))), (1, zi (a1)), (2, zi (a2)), (3, zi (a3)), (4, zi (a4))] := hl
  have w_0 := hts (.classLink RL 13 zIA) (by decide +kernel)
  refine lv_aload_n hx hb dL_ground_0 rfl (lv_at hl 0 rfl) ?_
  refine lv_iload_n hx hb dL_ground_1 rfl (lv_at hl 1 rfl) ?_
  refine lv_iload_n hx hb dL_ground_2 rfl (lv_at hl 2 rfl) ?_
  refine lv_iload_n hx hb dL_ground_3 rfl (lv_at hl 3 rfl) ?_
  refine lv_iload hx hb dL_ground_4 (lv_at hl 4 rfl) ?_
  refine z_call (z_runV (As := [zi (a1), zi (a2), zi (a3), zi (a4)]) (rest := []) (k := 0) (fs := [.ref (ad (1)), .ref (ad (2)), .ref (ad (3)), zi (n)]) ⟨hx, hb, hml, hown, hts⟩ hK hw (k_ground l hl0 G I ad _ _ n hn6 hI0 hI1 h0 h1 σ hgs hms hps a1 a2 a3 a4 hz1 hz2 hz3 hz4) (cwV 4 hts gL_ground_X3_ground rfl rfl rfl (by decide +kernel) ⟨Nat.le_of_ble_eq_true rfl, Nat.le_of_ble_eq_true rfl⟩) hI0 h0 rfl rfl rfl hl.1 rfl (Nat.le_of_ble_eq_true rfl) dL_ground_6 ⟨Nat.le_of_ble_eq_true rfl, Nat.le_of_ble_eq_true rfl⟩) hw (fun E ce q H locs ht hw hce hcv hcl => ?_) (fun v u H locs hp hw _ => ?_)
  · obtain ⟨rfl, hcc⟩ := ht
    refine vx_catch hown [] ⟨0, 9, 12, 13⟩ [] htab (fun z9 hz9 => absurd hz9 List.not_mem_nil) rfl (by decide) w_0 (va_Nw.use rfl hK.2.1.2.1) hce hcv hcl ?_
    refine lv_astore (lv' := [(5, .ref q), (0, .ref (ad (0))), (1, zi (a1)), (2, zi (a2)), (3, zi (a3)), (4, zi (a4))]) hx hb dL_ground_12 hl (by decide) rfl (fun ls hl => ?_)
    refine z_ic hx hb dL_ground_14 ?_
    exact z_iret hx hb hlk hr hw dL_ground_15 (Nat.le_of_ble_eq_true rfl) (Nat.le_of_ble_eq_true rfl) ⟨rfl, _, rfl, Or.inr (⟨⟨rfl, hcc⟩, rfl, rfl⟩)⟩
  · obtain ⟨u1, u2, u3⟩ := u
    obtain ⟨hu1, rfl, hP⟩ := hp
    have hw : zW G A s.heap H locs I ad u2 := by have hu2 : u1 = I := hu1; rw [← hu2]; exact hw
    obtain ⟨hOK, hct⟩ := hP
    have hct : u2 = _ := hct
    rw [hct] at hw
    refine W.eq (g2 := F0 m 9 ls []) rfl ?_
    refine lv_goto (tgt := 16) hx hb dL_ground_9 (by decide) ?_
    refine z_ic hx hb dL_ground_16 ?_
    exact z_iret hx hb hlk hr hw dL_ground_17 (Nat.le_of_ble_eq_true rfl) (Nat.le_of_ble_eq_true rfl) ⟨rfl, _, rfl, Or.inl ⟨hOK, rfl, rfl⟩⟩

set_option maxHeartbeats 4000000 in
set_option maxRecDepth 100000 in
theorem l_sinks (l : Launch) (hl0 : l.stackTraces = false) (G : zG) (I : List Nat) (ad : Nat → Nat) (ct : Nat → va_E) (sz : Nat) (n : Nat) (hn6 : n ≤ 6) (hI0 : 0 ∈ I) (hI1 : 1 ∈ I) (h0 : ct 0 = .inr (3, [.ref (ad 1), .ref (ad 2), .ref (ad 3), zi n])) (h1 : ct 1 = zP G 6 (zpf ad n)) (σ : Nat → zPl) (hgs : ∀ p : Nat, p < n → zGood (σ p)) (hms : ∀ p : Nat, p < n → zMem4 I (40 + 4 * p)) (hps : ∀ p : Nat, p < n → zPileAt G ad ct (40 + 4 * p) (σ p)) (a1 a2 a3 : Int) (hz1 : zr a1) (hz2 : zr a2) (hz3 : zr a3) (Fo : Int → Int) (hI25 : 25 ∈ I) (h25 : ct 25 = zL G 1 Fo) : zN l yL_sinks wsL_sinks 9 154 3 18 G [.ref (ad (0)), zi (a1), zi (a2), zi (a3), .ref (ad (25))] I ad ct zno sz (zk I (zqi fun z u => (((0 ≤ a1 ∧ a1 < n) ∧ (0 ≤ a2 ∧ a2 < pn (σ (a1).toNat)) ∧ (0 ≤ a3 ∧ a3 ≤ 10000)) ∧ z = 0 ∧ u = zU (zU ct (40 + 4 * (a1).toNat + 3) (zI G (σ (a1).toNat).1 (zup (psk (σ (a1).toNat)) a2 a3))) 25 (zL G 1 (zup Fo 0 (zwp (psk (σ (a1).toNat) a2))))) ∨ ((fun E => E = zIA ∧ ¬ ((0 ≤ a1 ∧ a1 < n) ∧ (0 ≤ a2 ∧ a2 < pn (σ (a1).toNat)) ∧ (0 ≤ a3 ∧ a3 ≤ 10000))) zIA ∧ z = 1 ∧ u = ct))) := by
  refine z_ofWH (ret := (some .int)) hl0 rfl rfl (Nat.le_of_ble_eq_true rfl) ?_
  intro p e s m args below meth c A ls hA0 hsz hF hr htab hw hl
  obtain ⟨hx, hb, hml, hown, hts, hK, hlk, hst⟩ := hF
  have hown : s.vm.findClass RL = some m.cls := hown
  have hl : lv_has ls 6 [(0, .ref (ad (0))), (1, zi (a1)), (2, zi (a2)), (3, zi (a3)), (4, .ref (ad (25)))] := hl
  have w_0 := hts (.classLink RL 13 zIA) (by decide +kernel)
  refine lv_aload hx hb dL_sinks_0 (lv_at hl 4 rfl) ?_
  refine z_ic hx hb dL_sinks_2 ?_
  refine lv_aload_n hx hb dL_sinks_3 rfl (lv_at hl 0 rfl) ?_
  refine lv_iload_n hx hb dL_sinks_4 rfl (lv_at hl 1 rfl) ?_
  refine lv_iload_n hx hb dL_sinks_5 rfl (lv_at hl 2 rfl) ?_
  refine lv_iload_n hx hb dL_sinks_6 rfl (lv_at hl 3 rfl) ?_
  refine z_call (z_runV (As := [zi (a1), zi (a2), zi (a3)]) (rest := [zi (0), .ref (ad (25))]) (k := 0) (fs := [.ref (ad (1)), .ref (ad (2)), .ref (ad (3)), zi (n)]) ⟨hx, hb, hml, hown, hts⟩ hK hw (k_sinks l hl0 G I ad _ _ n hn6 hI0 hI1 h0 h1 σ hgs hms hps a1 a2 a3 hz1 hz2 hz3) (cwV 3 hts gL_sinks_X3_sinks rfl rfl rfl (by decide +kernel) ⟨Nat.le_of_ble_eq_true rfl, Nat.le_of_ble_eq_true rfl⟩) hI0 h0 rfl rfl rfl hl.1 rfl (Nat.le_of_ble_eq_true rfl) dL_sinks_7 ⟨Nat.le_of_ble_eq_true rfl, Nat.le_of_ble_eq_true rfl⟩) hw (fun E ce q H locs ht hw hce hcv hcl => ?_) (fun v u H locs hp hw _ => ?_)
  · obtain ⟨rfl, hcc⟩ := ht
    refine vx_catch hown [] ⟨0, 12, 15, 13⟩ [] htab (fun z9 hz9 => absurd hz9 List.not_mem_nil) rfl (by decide) w_0 (va_Nw.use rfl hK.2.1.2.1) hce hcv hcl ?_
    refine lv_astore (lv' := [(5, .ref q), (0, .ref (ad (0))), (1, zi (a1)), (2, zi (a2)), (3, zi (a3)), (4, .ref (ad (25)))]) hx hb dL_sinks_15 hl (by decide) rfl (fun ls hl => ?_)
    refine z_ic hx hb dL_sinks_17 ?_
    exact z_iret hx hb hlk hr hw dL_sinks_18 (Nat.le_of_ble_eq_true rfl) (Nat.le_of_ble_eq_true rfl) ⟨rfl, _, rfl, Or.inr (⟨⟨rfl, hcc⟩, rfl, rfl⟩)⟩
  · obtain ⟨u1, u2, u3⟩ := u
    obtain ⟨hu1, z, rfl, hP⟩ := hp
    have hw : zW G A s.heap H locs I ad u2 := by have hu2 : u1 = I := hu1; rw [← hu2]; exact hw
    obtain ⟨hOK, rfl, hct⟩ := hP
    have hct : u2 = _ := hct
    rw [hct] at hw
    refine W.eq (g2 := F0 m 10 ls [zi (psk (σ (a1).toNat) a2), zi (0), .ref (ad (25))]) rfl ?_
    refine z_i2lw hx hb dL_sinks_10 ?_
    refine z_last (f := Fo) hx hb hK hw hI25 (zU_n (by omega) h25) (by decide) (by decide) (by decide) dL_sinks_11 (fun H locs hw => ?_)
    refine lv_goto (tgt := 19) hx hb dL_sinks_12 (by decide) ?_
    refine z_ic hx hb dL_sinks_19 ?_
    exact z_iret hx hb hlk hr hw dL_sinks_20 (Nat.le_of_ble_eq_true rfl) (Nat.le_of_ble_eq_true rfl) ⟨rfl, _, rfl, Or.inl ⟨hOK, rfl, rfl⟩⟩

set_option maxHeartbeats 4000000 in
set_option maxRecDepth 100000 in
theorem l_tip (l : Launch) (hl0 : l.stackTraces = false) (G : zG) (I : List Nat) (ad : Nat → Nat) (ct : Nat → va_E) (sz : Nat) (n : Nat) (hn6 : n ≤ 6) (hI0 : 0 ∈ I) (hI1 : 1 ∈ I) (h0 : ct 0 = .inr (3, [.ref (ad 1), .ref (ad 2), .ref (ad 3), zi n])) (h1 : ct 1 = zP G 6 (zpf ad n)) (σ : Nat → zPl) (hgs : ∀ p : Nat, p < n → zGood (σ p)) (hms : ∀ p : Nat, p < n → zMem4 I (40 + 4 * p)) (hps : ∀ p : Nat, p < n → zPileAt G ad ct (40 + 4 * p) (σ p)) (a1 a2 a3 : Int) (hz1 : zr a1) (hz2 : zr a2) (hz3 : zr a3) : zN l yL_tip wsL_tip 8 132 3 18 G [.ref (ad (0)), zi (a1), zi (a2), zi (a3)] I ad ct zno sz (zk I (zqi fun z u => (((0 ≤ a1 ∧ a1 < n) ∧ (0 ≤ a2 ∧ a2 ≤ 1000) ∧ (0 ≤ a3 ∧ a3 ≤ 1000000)) ∧ z = 0 ∧ u = zU ct (40 + 4 * (a1).toNat) (.inr (1, [zi (psp (σ (a1).toNat)), zi (pma (σ (a1).toNat)), zi (pco (σ (a1).toNat)), .ref (ad (40 + 4 * (a1).toNat + 1)), .ref (ad (40 + 4 * (a1).toNat + 2)), .ref (ad (40 + 4 * (a1).toNat + 3)), zi (a2), zi (a3), zi (pjo (σ (a1).toNat))]))) ∨ ((fun E => E = zIA ∧ ¬ ((0 ≤ a1 ∧ a1 < n) ∧ (0 ≤ a2 ∧ a2 ≤ 1000) ∧ (0 ≤ a3 ∧ a3 ≤ 1000000))) zIA ∧ z = 1 ∧ u = ct))) := by
  refine z_ofWH (ret := (some .int)) hl0 rfl rfl (Nat.le_of_ble_eq_true rfl) ?_
  intro p e s m args below meth c A ls hA0 hsz hF hr htab hw hl
  obtain ⟨hx, hb, hml, hown, hts, hK, hlk, hst⟩ := hF
  have hown : s.vm.findClass RL = some m.cls := hown
  have hl : lv_has ls 5 [(0, .ref (ad (0))), (1, zi (a1)), (2, zi (a2)), (3, zi (a3))] := hl
  have w_0 := hts (.classLink RL 13 zIA) (by decide +kernel)
  refine lv_aload_n hx hb dL_tip_0 rfl (lv_at hl 0 rfl) ?_
  refine lv_iload_n hx hb dL_tip_1 rfl (lv_at hl 1 rfl) ?_
  refine lv_iload_n hx hb dL_tip_2 rfl (lv_at hl 2 rfl) ?_
  refine lv_iload_n hx hb dL_tip_3 rfl (lv_at hl 3 rfl) ?_
  refine z_call (z_runV (As := [zi (a1), zi (a2), zi (a3)]) (rest := []) (k := 0) (fs := [.ref (ad (1)), .ref (ad (2)), .ref (ad (3)), zi (n)]) ⟨hx, hb, hml, hown, hts⟩ hK hw (k_tip l hl0 G I ad _ _ n hn6 hI0 hI1 h0 h1 σ hgs hms hps a1 a2 a3 hz1 hz2 hz3) (cwV 3 hts gL_tip_X3_tip rfl rfl rfl (by decide +kernel) ⟨Nat.le_of_ble_eq_true rfl, Nat.le_of_ble_eq_true rfl⟩) hI0 h0 rfl rfl rfl hl.1 rfl (Nat.le_of_ble_eq_true rfl) dL_tip_4 ⟨Nat.le_of_ble_eq_true rfl, Nat.le_of_ble_eq_true rfl⟩) hw (fun E ce q H locs ht hw hce hcv hcl => ?_) (fun v u H locs hp hw _ => ?_)
  · obtain ⟨rfl, hcc⟩ := ht
    refine vx_catch hown [] ⟨0, 7, 10, 13⟩ [] htab (fun z9 hz9 => absurd hz9 List.not_mem_nil) rfl (by decide) w_0 (va_Nw.use rfl hK.2.1.2.1) hce hcv hcl ?_
    refine lv_astore (lv' := [(4, .ref q), (0, .ref (ad (0))), (1, zi (a1)), (2, zi (a2)), (3, zi (a3))]) hx hb dL_tip_10 hl (by decide) rfl (fun ls hl => ?_)
    refine z_ic hx hb dL_tip_12 ?_
    exact z_iret hx hb hlk hr hw dL_tip_13 (Nat.le_of_ble_eq_true rfl) (Nat.le_of_ble_eq_true rfl) ⟨rfl, _, rfl, Or.inr (⟨⟨rfl, hcc⟩, rfl, rfl⟩)⟩
  · obtain ⟨u1, u2, u3⟩ := u
    obtain ⟨hu1, rfl, hP⟩ := hp
    have hw : zW G A s.heap H locs I ad u2 := by have hu2 : u1 = I := hu1; rw [← hu2]; exact hw
    obtain ⟨hOK, hct⟩ := hP
    have hct : u2 = _ := hct
    rw [hct] at hw
    refine W.eq (g2 := F0 m 7 ls []) rfl ?_
    refine lv_goto (tgt := 14) hx hb dL_tip_7 (by decide) ?_
    refine z_ic hx hb dL_tip_14 ?_
    exact z_iret hx hb hlk hr hw dL_tip_15 (Nat.le_of_ble_eq_true rfl) (Nat.le_of_ble_eq_true rfl) ⟨rfl, _, rfl, Or.inl ⟨hOK, rfl, rfl⟩⟩

set_option maxHeartbeats 4000000 in
set_option maxRecDepth 100000 in
theorem l_under (l : Launch) (hl0 : l.stackTraces = false) (G : zG) (I : List Nat) (ad : Nat → Nat) (ct : Nat → va_E) (sz : Nat) (n : Nat) (hn6 : n ≤ 6) (hI0 : 0 ∈ I) (hI1 : 1 ∈ I) (h0 : ct 0 = .inr (3, [.ref (ad 1), .ref (ad 2), .ref (ad 3), zi n])) (h1 : ct 1 = zP G 6 (zpf ad n)) (σ : Nat → zPl) (hgs : ∀ p : Nat, p < n → zGood (σ p)) (hms : ∀ p : Nat, p < n → zMem4 I (40 + 4 * p)) (hps : ∀ p : Nat, p < n → zPileAt G ad ct (40 + 4 * p) (σ p)) (w p0 f0 a0 : Int) (h2m : 2 ∈ I) (h2 : ct 2 = .inr (2, [zi w, zi p0, zi f0, zi a0])) (a1 a2 : Int) (hz1 : zr a1) (hz2 : zr a2) (Fo : Int → Int) (hI25 : 25 ∈ I) (h25 : ct 25 = zL G 1 Fo) : zN l yL_under wsL_under 9 151 2 12 G [.ref (ad (0)), zi (a1), zi (a2), .ref (ad (25))] I ad ct zno sz (zk I (zqi fun z u => (((0 ≤ a1 ∧ a1 < n) ∧ (0 ≤ a2 ∧ a2 ≤ 10000000)) ∧ z = 0 ∧ ∃ w1 p1 f1 a9 : Int, u = zU (zU ct 2 (.inr (2, [zi w1, zi p1, zi f1, zi a9]))) 25 (zL G 1 (zup Fo 0 (zwp (zun (σ (a1).toNat) a2))))) ∨ ((fun E => E = zIA ∧ ¬ ((0 ≤ a1 ∧ a1 < n) ∧ (0 ≤ a2 ∧ a2 ≤ 10000000))) zIA ∧ z = 1 ∧ u = ct))) := by
  refine z_ofWH (ret := (some .int)) hl0 rfl rfl (Nat.le_of_ble_eq_true rfl) ?_
  intro p e s m args below meth c A ls hA0 hsz hF hr htab hw hl
  obtain ⟨hx, hb, hml, hown, hts, hK, hlk, hst⟩ := hF
  have hown : s.vm.findClass RL = some m.cls := hown
  have hl : lv_has ls 5 [(0, .ref (ad (0))), (1, zi (a1)), (2, zi (a2)), (3, .ref (ad (25)))] := hl
  have w_0 := hts (.classLink RL 13 zIA) (by decide +kernel)
  refine lv_aload_n hx hb dL_under_0 rfl (lv_at hl 3 rfl) ?_
  refine z_ic hx hb dL_under_1 ?_
  refine lv_aload_n hx hb dL_under_2 rfl (lv_at hl 0 rfl) ?_
  refine lv_iload_n hx hb dL_under_3 rfl (lv_at hl 1 rfl) ?_
  refine lv_iload_n hx hb dL_under_4 rfl (lv_at hl 2 rfl) ?_
  refine z_call (z_runV (As := [zi (a1), zi (a2)]) (rest := [zi (0), .ref (ad (25))]) (k := 0) (fs := [.ref (ad (1)), .ref (ad (2)), .ref (ad (3)), zi (n)]) ⟨hx, hb, hml, hown, hts⟩ hK hw (k_under l hl0 G I ad _ _ n hn6 hI0 hI1 h0 h1 σ hgs hms hps w p0 f0 a0 h2m h2 a1 a2 hz1 hz2) (cwV 2 hts gL_under_X3_under rfl rfl rfl (by decide +kernel) ⟨Nat.le_of_ble_eq_true rfl, Nat.le_of_ble_eq_true rfl⟩) hI0 h0 rfl rfl rfl hl.1 rfl (Nat.le_of_ble_eq_true rfl) dL_under_5 ⟨Nat.le_of_ble_eq_true rfl, Nat.le_of_ble_eq_true rfl⟩) hw (fun E ce q H locs ht hw hce hcv hcl => ?_) (fun v u H locs hp hw _ => ?_)
  · obtain ⟨rfl, hcc⟩ := ht
    refine vx_catch hown [] ⟨0, 10, 13, 13⟩ [] htab (fun z9 hz9 => absurd hz9 List.not_mem_nil) rfl (by decide) w_0 (va_Nw.use rfl hK.2.1.2.1) hce hcv hcl ?_
    refine lv_astore (lv' := [(4, .ref q), (0, .ref (ad (0))), (1, zi (a1)), (2, zi (a2)), (3, .ref (ad (25)))]) hx hb dL_under_13 hl (by decide) rfl (fun ls hl => ?_)
    refine z_ic hx hb dL_under_15 ?_
    exact z_iret hx hb hlk hr hw dL_under_16 (Nat.le_of_ble_eq_true rfl) (Nat.le_of_ble_eq_true rfl) ⟨rfl, _, rfl, Or.inr (⟨⟨rfl, hcc⟩, rfl, rfl⟩)⟩
  · obtain ⟨u1, u2, u3⟩ := u
    obtain ⟨hu1, z, rfl, hP⟩ := hp
    have hw : zW G A s.heap H locs I ad u2 := by have hu2 : u1 = I := hu1; rw [← hu2]; exact hw
    obtain ⟨hOK, rfl, w1, p1, f1, a9, hct⟩ := hP
    have hct : u2 = _ := hct
    rw [hct] at hw
    refine W.eq (g2 := F0 m 8 ls [zi (zun (σ (a1).toNat) a2), zi (0), .ref (ad (25))]) rfl ?_
    refine z_i2lw hx hb dL_under_8 ?_
    refine z_last (f := Fo) hx hb hK hw hI25 (zU_n (by omega) h25) (by decide) (by decide) (by decide) dL_under_9 (fun H locs hw => ?_)
    refine lv_goto (tgt := 17) hx hb dL_under_10 (by decide) ?_
    refine z_ic hx hb dL_under_17 ?_
    exact z_iret hx hb hlk hr hw dL_under_18 (Nat.le_of_ble_eq_true rfl) (Nat.le_of_ble_eq_true rfl) ⟨rfl, _, rfl, Or.inl ⟨hOK, rfl, w1, p1, f1, a9, rfl⟩⟩

set_option maxHeartbeats 4000000 in
set_option maxRecDepth 100000 in
theorem l_piece (l : Launch) (hl0 : l.stackTraces = false) (G : zG) (I : List Nat) (ad : Nat → Nat) (ct : Nat → va_E) (sz : Nat) (n : Nat) (hn6 : n ≤ 6) (hI0 : 0 ∈ I) (hI1 : 1 ∈ I) (h0 : ct 0 = .inr (3, [.ref (ad 1), .ref (ad 2), .ref (ad 3), zi n])) (h1 : ct 1 = zP G 6 (zpf ad n)) (σ : Nat → zPl) (hgs : ∀ p : Nat, p < n → zGood (σ p)) (hms : ∀ p : Nat, p < n → zMem4 I (40 + 4 * p)) (hps : ∀ p : Nat, p < n → zPileAt G ad ct (40 + 4 * p) (σ p)) (w p0 f0 a0 : Int) (h2m : 2 ∈ I) (h2 : ct 2 = .inr (2, [zi w, zi p0, zi f0, zi a0])) (a1 a2 a3 a4 : Int) (hz1 : zr a1) (hz2 : zr a2) (hz3 : zr a3) (hz4 : zr a4) (Fo : Int → Int) (hI25 : 25 ∈ I) (h25 : ct 25 = zL G 1 Fo) : zN l yL_piece wsL_piece 9 154 4 24 G [.ref (ad (0)), zi (a1), zi (a2), zi (a3), zi (a4), .ref (ad (25))] I ad ct zno sz (zk I (zqi fun z u => (((0 ≤ a1 ∧ a1 < n) ∧ (0 ≤ a2 ∧ a2 ≤ 10000000) ∧ (0 ≤ a3 ∧ a3 < pn (σ (a1).toNat)) ∧ (0 ≤ a4 ∧ a4 ≤ 2)) ∧ z = 0 ∧ ∃ w1 p1 f1 a9 : Int, u = zU (zU ct 2 (.inr (2, [zi w1, zi p1, zi f1, zi a9]))) 25 (zL G 1 (zup Fo 0 (zwp (zpc (σ (a1).toNat) a2 a3 a4))))) ∨ ((fun E => E = zIA ∧ ¬ ((0 ≤ a1 ∧ a1 < n) ∧ (0 ≤ a2 ∧ a2 ≤ 10000000) ∧ (0 ≤ a3 ∧ a3 < pn (σ (a1).toNat)) ∧ (0 ≤ a4 ∧ a4 ≤ 2))) zIA ∧ z = 1 ∧ u = ct))) := by
  refine z_ofWH (ret := (some .int)) hl0 rfl rfl (Nat.le_of_ble_eq_true rfl) ?_
  intro p e s m args below meth c A ls hA0 hsz hF hr htab hw hl
  obtain ⟨hx, hb, hml, hown, hts, hK, hlk, hst⟩ := hF
  have hown : s.vm.findClass RL = some m.cls := hown
  have hl : lv_has ls 7 [(0, .ref (ad (0))), (1, zi (a1)), (2, zi (a2)), (3, zi (a3)), (4, zi (a4)), (5, .ref (ad (25)))] := hl
  have w_0 := hts (.classLink RL 13 zIA) (by decide +kernel)
  refine lv_aload hx hb dL_piece_0 (lv_at hl 5 rfl) ?_
  refine z_ic hx hb dL_piece_2 ?_
  refine lv_aload_n hx hb dL_piece_3 rfl (lv_at hl 0 rfl) ?_
  refine lv_iload_n hx hb dL_piece_4 rfl (lv_at hl 1 rfl) ?_
  refine lv_iload_n hx hb dL_piece_5 rfl (lv_at hl 2 rfl) ?_
  refine lv_iload_n hx hb dL_piece_6 rfl (lv_at hl 3 rfl) ?_
  refine lv_iload hx hb dL_piece_7 (lv_at hl 4 rfl) ?_
  refine z_call (z_runV (As := [zi (a1), zi (a2), zi (a3), zi (a4)]) (rest := [zi (0), .ref (ad (25))]) (k := 0) (fs := [.ref (ad (1)), .ref (ad (2)), .ref (ad (3)), zi (n)]) ⟨hx, hb, hml, hown, hts⟩ hK hw (k_piece l hl0 G I ad _ _ n hn6 hI0 hI1 h0 h1 σ hgs hms hps w p0 f0 a0 h2m h2 a1 a2 a3 a4 hz1 hz2 hz3 hz4) (cwV 4 hts gL_piece_X3_piece rfl rfl rfl (by decide +kernel) ⟨Nat.le_of_ble_eq_true rfl, Nat.le_of_ble_eq_true rfl⟩) hI0 h0 rfl rfl rfl hl.1 rfl (Nat.le_of_ble_eq_true rfl) dL_piece_9 ⟨Nat.le_of_ble_eq_true rfl, Nat.le_of_ble_eq_true rfl⟩) hw (fun E ce q H locs ht hw hce hcv hcl => ?_) (fun v u H locs hp hw _ => ?_)
  · obtain ⟨rfl, hcc⟩ := ht
    refine vx_catch hown [] ⟨0, 14, 17, 13⟩ [] htab (fun z9 hz9 => absurd hz9 List.not_mem_nil) rfl (by decide) w_0 (va_Nw.use rfl hK.2.1.2.1) hce hcv hcl ?_
    refine lv_astore (lv' := [(6, .ref q), (0, .ref (ad (0))), (1, zi (a1)), (2, zi (a2)), (3, zi (a3)), (4, zi (a4)), (5, .ref (ad (25)))]) hx hb dL_piece_17 hl (by decide) rfl (fun ls hl => ?_)
    refine z_ic hx hb dL_piece_19 ?_
    exact z_iret hx hb hlk hr hw dL_piece_20 (Nat.le_of_ble_eq_true rfl) (Nat.le_of_ble_eq_true rfl) ⟨rfl, _, rfl, Or.inr (⟨⟨rfl, hcc⟩, rfl, rfl⟩)⟩
  · obtain ⟨u1, u2, u3⟩ := u
    obtain ⟨hu1, z, rfl, hP⟩ := hp
    have hw : zW G A s.heap H locs I ad u2 := by have hu2 : u1 = I := hu1; rw [← hu2]; exact hw
    obtain ⟨hOK, rfl, w1, p1, f1, a9, hct⟩ := hP
    have hct : u2 = _ := hct
    rw [hct] at hw
    refine W.eq (g2 := F0 m 12 ls [zi (zpc (σ (a1).toNat) a2 a3 a4), zi (0), .ref (ad (25))]) rfl ?_
    refine z_i2lw hx hb dL_piece_12 ?_
    refine z_last (f := Fo) hx hb hK hw hI25 (zU_n (by omega) h25) (by decide) (by decide) (by decide) dL_piece_13 (fun H locs hw => ?_)
    refine lv_goto (tgt := 21) hx hb dL_piece_14 (by decide) ?_
    refine z_ic hx hb dL_piece_21 ?_
    exact z_iret hx hb hlk hr hw dL_piece_22 (Nat.le_of_ble_eq_true rfl) (Nat.le_of_ble_eq_true rfl) ⟨rfl, _, rfl, Or.inl ⟨hOK, rfl, w1, p1, f1, a9, rfl⟩⟩

set_option maxHeartbeats 4000000 in
set_option maxRecDepth 100000 in
theorem l_load (l : Launch) (hl0 : l.stackTraces = false) (G : zG) (I : List Nat) (ad : Nat → Nat) (ct : Nat → va_E) (sz : Nat) (n : Nat) (hn6 : n ≤ 6) (hI0 : 0 ∈ I) (hI1 : 1 ∈ I) (h0 : ct 0 = .inr (3, [.ref (ad 1), .ref (ad 2), .ref (ad 3), zi n])) (h1 : ct 1 = zP G 6 (zpf ad n)) (σ : Nat → zPl) (hgs : ∀ p : Nat, p < n → zGood (σ p)) (hms : ∀ p : Nat, p < n → zMem4 I (40 + 4 * p)) (hps : ∀ p : Nat, p < n → zPileAt G ad ct (40 + 4 * p) (σ p)) (w p0 f0 a0 : Int) (h2m : 2 ∈ I) (h2 : ct 2 = .inr (2, [zi w, zi p0, zi f0, zi a0])) (a1 a2 : Int) (hz1 : zr a1) (hz2 : zr a2) (Fo : Int → Int) (hI25 : 25 ∈ I) (h25 : ct 25 = zL G 1 Fo) : zN l yL_load wsL_load 8 131 2 12 G [.ref (ad (0)), zi (a1), zi (a2), .ref (ad (25))] I ad ct zno sz (zk I (zqi fun z u => (((0 ≤ a1 ∧ a1 < n) ∧ (-100000 ≤ a2 ∧ a2 ≤ 100000)) ∧ z = 0 ∧ ∃ w1 p1 f1 a9 : Int, u = zU (zU ct 2 (.inr (2, [zi w1, zi p1, zi f1, zi a9]))) 25 (zL G 1 (zup Fo 0 (zwp (zld (σ (a1).toNat) (zg (σ (a1).toNat) false a2)))))) ∨ ((fun E => E = zIA ∧ ¬ ((0 ≤ a1 ∧ a1 < n) ∧ (-100000 ≤ a2 ∧ a2 ≤ 100000))) zIA ∧ z = 1 ∧ u = ct))) := by
  refine z_ofWH (ret := (some .int)) hl0 rfl rfl (Nat.le_of_ble_eq_true rfl) ?_
  intro p e s m args below meth c A ls hA0 hsz hF hr htab hw hl
  obtain ⟨hx, hb, hml, hown, hts, hK, hlk, hst⟩ := hF
  have hown : s.vm.findClass RL = some m.cls := hown
  have hl : lv_has ls 5 [(0, .ref (ad (0))), (1, zi (a1)), (2, zi (a2)), (3, .ref (ad (25)))] := hl
  have w_0 := hts (.classLink RL 13 zIA) (by decide +kernel)
  refine lv_aload_n hx hb dL_load_0 rfl (lv_at hl 3 rfl) ?_
  refine z_ic hx hb dL_load_1 ?_
  refine lv_aload_n hx hb dL_load_2 rfl (lv_at hl 0 rfl) ?_
  refine lv_iload_n hx hb dL_load_3 rfl (lv_at hl 1 rfl) ?_
  refine lv_iload_n hx hb dL_load_4 rfl (lv_at hl 2 rfl) ?_
  refine z_call (z_runV (As := [zi (a1), zi (a2)]) (rest := [zi (0), .ref (ad (25))]) (k := 0) (fs := [.ref (ad (1)), .ref (ad (2)), .ref (ad (3)), zi (n)]) ⟨hx, hb, hml, hown, hts⟩ hK hw (k_load l hl0 G I ad _ _ n hn6 hI0 hI1 h0 h1 σ hgs hms hps w p0 f0 a0 h2m h2 a1 a2 hz1 hz2) (cwV 2 hts gL_load_X3_load rfl rfl rfl (by decide +kernel) ⟨Nat.le_of_ble_eq_true rfl, Nat.le_of_ble_eq_true rfl⟩) hI0 h0 rfl rfl rfl hl.1 rfl (Nat.le_of_ble_eq_true rfl) dL_load_5 ⟨Nat.le_of_ble_eq_true rfl, Nat.le_of_ble_eq_true rfl⟩) hw (fun E ce q H locs ht hw hce hcv hcl => ?_) (fun v u H locs hp hw _ => ?_)
  · obtain ⟨rfl, hcc⟩ := ht
    refine vx_catch hown [] ⟨0, 10, 13, 13⟩ [] htab (fun z9 hz9 => absurd hz9 List.not_mem_nil) rfl (by decide) w_0 (va_Nw.use rfl hK.2.1.2.1) hce hcv hcl ?_
    refine lv_astore (lv' := [(4, .ref q), (0, .ref (ad (0))), (1, zi (a1)), (2, zi (a2)), (3, .ref (ad (25)))]) hx hb dL_load_13 hl (by decide) rfl (fun ls hl => ?_)
    refine z_ic hx hb dL_load_15 ?_
    exact z_iret hx hb hlk hr hw dL_load_16 (Nat.le_of_ble_eq_true rfl) (Nat.le_of_ble_eq_true rfl) ⟨rfl, _, rfl, Or.inr (⟨⟨rfl, hcc⟩, rfl, rfl⟩)⟩
  · obtain ⟨u1, u2, u3⟩ := u
    obtain ⟨hu1, z, rfl, hP⟩ := hp
    have hw : zW G A s.heap H locs I ad u2 := by have hu2 : u1 = I := hu1; rw [← hu2]; exact hw
    obtain ⟨hOK, rfl, w1, p1, f1, a9, hct⟩ := hP
    have hct : u2 = _ := hct
    rw [hct] at hw
    refine W.eq (g2 := F0 m 8 ls [zi (zld (σ (a1).toNat) (zg (σ (a1).toNat) false a2)), zi (0), .ref (ad (25))]) rfl ?_
    refine z_i2lw hx hb dL_load_8 ?_
    refine z_last (f := Fo) hx hb hK hw hI25 (zU_n (by omega) h25) (by decide) (by decide) (by decide) dL_load_9 (fun H locs hw => ?_)
    refine lv_goto (tgt := 17) hx hb dL_load_10 (by decide) ?_
    refine z_ic hx hb dL_load_17 ?_
    exact z_iret hx hb hlk hr hw dL_load_18 (Nat.le_of_ble_eq_true rfl) (Nat.le_of_ble_eq_true rfl) ⟨rfl, _, rfl, Or.inl ⟨hOK, rfl, w1, p1, f1, a9, rfl⟩⟩

set_option maxHeartbeats 4000000 in
set_option maxRecDepth 100000 in
theorem l_hold (l : Launch) (hl0 : l.stackTraces = false) (G : zG) (I : List Nat) (ad : Nat → Nat) (ct : Nat → va_E) (sz : Nat) (n : Nat) (hn6 : n ≤ 6) (hI0 : 0 ∈ I) (hI1 : 1 ∈ I) (h0 : ct 0 = .inr (3, [.ref (ad 1), .ref (ad 2), .ref (ad 3), zi n])) (h1 : ct 1 = zP G 6 (zpf ad n)) (σ : Nat → zPl) (hgs : ∀ p : Nat, p < n → zGood (σ p)) (hms : ∀ p : Nat, p < n → zMem4 I (40 + 4 * p)) (hps : ∀ p : Nat, p < n → zPileAt G ad ct (40 + 4 * p) (σ p)) (a1 : Int) (hz1 : zr a1) (Fo : Int → Int) (hI25 : 25 ∈ I) (h25 : ct 25 = zL G 1 Fo) : zN l yL_hold wsL_hold 8 134 1 6 G [.ref (ad (0)), zi (a1), .ref (ad (25))] I ad ct zno sz (zk I (zqi fun z u => ((0 ≤ a1 ∧ a1 < n) ∧ z = 0 ∧ u = zU (ct) 25 (zL G 1 (zup Fo 0 (zwp (zho (σ (a1).toNat) (σ (a1).toNat).1))))) ∨ ((fun E => E = zIA ∧ ¬ (0 ≤ a1 ∧ a1 < n)) zIA ∧ z = 1 ∧ u = ct))) := by
  refine z_ofWH (ret := (some .int)) hl0 rfl rfl (Nat.le_of_ble_eq_true rfl) ?_
  intro p e s m args below meth c A ls hA0 hsz hF hr htab hw hl
  obtain ⟨hx, hb, hml, hown, hts, hK, hlk, hst⟩ := hF
  have hown : s.vm.findClass RL = some m.cls := hown
  have hl : lv_has ls 4 [(0, .ref (ad (0))), (1, zi (a1)), (2, .ref (ad (25)))] := hl
  have w_0 := hts (.classLink RL 13 zIA) (by decide +kernel)
  refine lv_aload_n hx hb dL_hold_0 rfl (lv_at hl 2 rfl) ?_
  refine z_ic hx hb dL_hold_1 ?_
  refine lv_aload_n hx hb dL_hold_2 rfl (lv_at hl 0 rfl) ?_
  refine lv_iload_n hx hb dL_hold_3 rfl (lv_at hl 1 rfl) ?_
  refine z_call (z_runV (As := [zi (a1)]) (rest := [zi (0), .ref (ad (25))]) (k := 0) (fs := [.ref (ad (1)), .ref (ad (2)), .ref (ad (3)), zi (n)]) ⟨hx, hb, hml, hown, hts⟩ hK hw (k_hold l hl0 G I ad _ _ n hn6 hI0 hI1 h0 h1 σ hgs hms hps a1 hz1) (cwV 1 hts gL_hold_X3_hold rfl rfl rfl (by decide +kernel) ⟨Nat.le_of_ble_eq_true rfl, Nat.le_of_ble_eq_true rfl⟩) hI0 h0 rfl rfl rfl hl.1 rfl (Nat.le_of_ble_eq_true rfl) dL_hold_4 ⟨Nat.le_of_ble_eq_true rfl, Nat.le_of_ble_eq_true rfl⟩) hw (fun E ce q H locs ht hw hce hcv hcl => ?_) (fun v u H locs hp hw _ => ?_)
  · obtain ⟨rfl, hcc⟩ := ht
    refine vx_catch hown [] ⟨0, 9, 12, 13⟩ [] htab (fun z9 hz9 => absurd hz9 List.not_mem_nil) rfl (by decide) w_0 (va_Nw.use rfl hK.2.1.2.1) hce hcv hcl ?_
    refine lv_astore_n (lv' := [(3, .ref q), (0, .ref (ad (0))), (1, zi (a1)), (2, .ref (ad (25)))]) hx hb dL_hold_12 rfl hl (by decide) rfl (fun ls hl => ?_)
    refine z_ic hx hb dL_hold_13 ?_
    exact z_iret hx hb hlk hr hw dL_hold_14 (Nat.le_of_ble_eq_true rfl) (Nat.le_of_ble_eq_true rfl) ⟨rfl, _, rfl, Or.inr (⟨⟨rfl, hcc⟩, rfl, rfl⟩)⟩
  · obtain ⟨u1, u2, u3⟩ := u
    obtain ⟨hu1, z, rfl, hP⟩ := hp
    have hw : zW G A s.heap H locs I ad u2 := by have hu2 : u1 = I := hu1; rw [← hu2]; exact hw
    obtain ⟨hOK, rfl, hct⟩ := hP
    have hct : u2 = _ := hct
    rw [hct] at hw
    refine W.eq (g2 := F0 m 7 ls [zi (zho (σ (a1).toNat) (σ (a1).toNat).1), zi (0), .ref (ad (25))]) rfl ?_
    refine z_i2lw hx hb dL_hold_7 ?_
    refine z_last (f := Fo) hx hb hK hw hI25 h25 (by decide) (by decide) (by decide) dL_hold_8 (fun H locs hw => ?_)
    refine lv_goto (tgt := 15) hx hb dL_hold_9 (by decide) ?_
    refine z_ic hx hb dL_hold_15 ?_
    exact z_iret hx hb hlk hr hw dL_hold_16 (Nat.le_of_ble_eq_true rfl) (Nat.le_of_ble_eq_true rfl) ⟨rfl, _, rfl, Or.inl ⟨hOK, rfl, rfl⟩⟩

set_option maxHeartbeats 4000000 in
set_option maxRecDepth 100000 in
theorem l_cheapest (l : Launch) (hl0 : l.stackTraces = false) (G : zG) (I : List Nat) (ad : Nat → Nat) (ct : Nat → va_E) (sz : Nat) (n : Nat) (hn6 : n ≤ 6) (hI0 : 0 ∈ I) (hI1 : 1 ∈ I) (h0 : ct 0 = .inr (3, [.ref (ad 1), .ref (ad 2), .ref (ad 3), zi n])) (h1 : ct 1 = zP G 6 (zpf ad n)) (σ : Nat → zPl) (hgs : ∀ p : Nat, p < n → zGood (σ p)) (hms : ∀ p : Nat, p < n → zMem4 I (40 + 4 * p)) (hps : ∀ p : Nat, p < n → zPileAt G ad ct (40 + 4 * p) (σ p)) (w p0 f0 a0 : Int) (h2m : 2 ∈ I) (h2 : ct 2 = .inr (2, [zi w, zi p0, zi f0, zi a0])) (a1 a2 : Int) (hz1 : zr a1) (hz2 : zr a2) (Fo : Int → Int) (hI25 : 25 ∈ I) (h25 : ct 25 = zL G 1 Fo) : zN l yL_cheapest wsL_cheapest 9 154 2 12 G [.ref (ad (0)), zi (a1), zi (a2), .ref (ad (25))] I ad ct zno sz (zk I (zqi fun z u => (((0 ≤ a1 ∧ a1 ≤ 10000000) ∧ (0 ≤ a2 ∧ a2 ≤ 100000)) ∧ z = 0 ∧ ∃ w1 p1 f1 a9 : Int, u = zU (zU ct 2 (.inr (2, [zi w1, zi p1, zi f1, zi a9]))) 25 (zL G 1 (zup Fo 0 (zwp (zch σ a1 a2 n))))) ∨ ((fun E => E = zIA ∧ ¬ ((0 ≤ a1 ∧ a1 ≤ 10000000) ∧ (0 ≤ a2 ∧ a2 ≤ 100000))) zIA ∧ z = 1 ∧ u = ct))) := by
  refine z_ofWH (ret := (some .int)) hl0 rfl rfl (Nat.le_of_ble_eq_true rfl) ?_
  intro p e s m args below meth c A ls hA0 hsz hF hr htab hw hl
  obtain ⟨hx, hb, hml, hown, hts, hK, hlk, hst⟩ := hF
  have hown : s.vm.findClass RL = some m.cls := hown
  have hl : lv_has ls 5 [(0, .ref (ad (0))), (1, zi (a1)), (2, zi (a2)), (3, .ref (ad (25)))] := hl
  have w_0 := hts (.classLink RL 13 zIA) (by decide +kernel)
  refine lv_aload_n hx hb dL_cheapest_0 rfl (lv_at hl 3 rfl) ?_
  refine z_ic hx hb dL_cheapest_1 ?_
  refine lv_aload_n hx hb dL_cheapest_2 rfl (lv_at hl 0 rfl) ?_
  refine lv_iload_n hx hb dL_cheapest_3 rfl (lv_at hl 1 rfl) ?_
  refine lv_iload_n hx hb dL_cheapest_4 rfl (lv_at hl 2 rfl) ?_
  refine z_call (z_runV (As := [zi (a1), zi (a2)]) (rest := [zi (0), .ref (ad (25))]) (k := 0) (fs := [.ref (ad (1)), .ref (ad (2)), .ref (ad (3)), zi (n)]) ⟨hx, hb, hml, hown, hts⟩ hK hw (k_cheap l hl0 G I ad _ _ n hn6 hI0 hI1 h0 h1 σ hgs hms hps w p0 f0 a0 h2m h2 a1 a2 hz1 hz2) (cwV 2 hts gL_cheapest_X3_cheapest rfl rfl rfl (by decide +kernel) ⟨Nat.le_of_ble_eq_true rfl, Nat.le_of_ble_eq_true rfl⟩) hI0 h0 rfl rfl rfl hl.1 rfl (Nat.le_of_ble_eq_true rfl) dL_cheapest_5 ⟨Nat.le_of_ble_eq_true rfl, Nat.le_of_ble_eq_true rfl⟩) hw (fun E ce q H locs ht hw hce hcv hcl => ?_) (fun v u H locs hp hw _ => ?_)
  · obtain ⟨rfl, hcc⟩ := ht
    refine vx_catch hown [] ⟨0, 10, 13, 13⟩ [] htab (fun z9 hz9 => absurd hz9 List.not_mem_nil) rfl (by decide) w_0 (va_Nw.use rfl hK.2.1.2.1) hce hcv hcl ?_
    refine lv_astore (lv' := [(4, .ref q), (0, .ref (ad (0))), (1, zi (a1)), (2, zi (a2)), (3, .ref (ad (25)))]) hx hb dL_cheapest_13 hl (by decide) rfl (fun ls hl => ?_)
    refine z_ic hx hb dL_cheapest_15 ?_
    exact z_iret hx hb hlk hr hw dL_cheapest_16 (Nat.le_of_ble_eq_true rfl) (Nat.le_of_ble_eq_true rfl) ⟨rfl, _, rfl, Or.inr (⟨⟨rfl, hcc⟩, rfl, rfl⟩)⟩
  · obtain ⟨u1, u2, u3⟩ := u
    obtain ⟨hu1, z, rfl, hP⟩ := hp
    have hw : zW G A s.heap H locs I ad u2 := by have hu2 : u1 = I := hu1; rw [← hu2]; exact hw
    obtain ⟨hOK, rfl, w1, p1, f1, a9, hct⟩ := hP
    have hct : u2 = _ := hct
    rw [hct] at hw
    refine W.eq (g2 := F0 m 8 ls [zi (zch σ a1 a2 n), zi (0), .ref (ad (25))]) rfl ?_
    refine z_i2lw hx hb dL_cheapest_8 ?_
    refine z_last (f := Fo) hx hb hK hw hI25 (zU_n (by omega) h25) (by decide) (by decide) (by decide) dL_cheapest_9 (fun H locs hw => ?_)
    refine lv_goto (tgt := 17) hx hb dL_cheapest_10 (by decide) ?_
    refine z_ic hx hb dL_cheapest_17 ?_
    exact z_iret hx hb hlk hr hw dL_cheapest_18 (Nat.le_of_ble_eq_true rfl) (Nat.le_of_ble_eq_true rfl) ⟨rfl, _, rfl, Or.inl ⟨hOK, rfl, w1, p1, f1, a9, rfl⟩⟩

set_option maxHeartbeats 4000000 in
set_option maxRecDepth 100000 in
theorem l_group (l : Launch) (hl0 : l.stackTraces = false) (G : zG) (I : List Nat) (ad : Nat → Nat) (ct : Nat → va_E) (sz : Nat) (n : Nat) (hn6 : n ≤ 6) (hI0 : 0 ∈ I) (hI1 : 1 ∈ I) (h0 : ct 0 = .inr (3, [.ref (ad 1), .ref (ad 2), .ref (ad 3), zi n])) (h1 : ct 1 = zP G 6 (zpf ad n)) (σ : Nat → zPl) (hgs : ∀ p : Nat, p < n → zGood (σ p)) (hms : ∀ p : Nat, p < n → zMem4 I (40 + 4 * p)) (hps : ∀ p : Nat, p < n → zPileAt G ad ct (40 + 4 * p) (σ p)) (w p0 f0 a0 : Int) (h2m : 2 ∈ I) (h2 : ct 2 = .inr (2, [zi w, zi p0, zi f0, zi a0])) (a1 : Int) (hz1 : zr a1) (Fo : Int → Int) (hI25 : 25 ∈ I) (h25 : ct 25 = zL G 1 Fo) : zN l yL_group wsL_group 9 168 2 12 G [.ref (ad (0)), zi (a1), .ref (ad (25))] I ad ct zno sz (zk I (zqi fun z u => (((0 ≤ a1 ∧ a1 ≤ 10000000) ∧ ¬ zemp σ n) ∧ z = 0 ∧ ∃ w1 p1 f1 a9 : Int, u = zU (zU ct 2 (.inr (2, [zi w1, zi p1, zi f1, zi a9]))) 25 (zL G 1 (zup Fo 0 (zwp (zgs σ n a1))))) ∨ ((fun E => (E = zIA ∧ ¬ (0 ≤ a1 ∧ a1 ≤ 10000000)) ∨ (E = zIS ∧ (0 ≤ a1 ∧ a1 ≤ 10000000) ∧ zemp σ n)) zIA ∧ z = 1 ∧ u = ct) ∨ ((fun E => (E = zIA ∧ ¬ (0 ≤ a1 ∧ a1 ≤ 10000000)) ∨ (E = zIS ∧ (0 ≤ a1 ∧ a1 ≤ 10000000) ∧ zemp σ n)) zIS ∧ z = 2 ∧ u = ct))) := by
  refine z_ofWH (ret := (some .int)) hl0 rfl rfl (Nat.le_of_ble_eq_true rfl) ?_
  intro p e s m args below meth c A ls hA0 hsz hF hr htab hw hl
  obtain ⟨hx, hb, hml, hown, hts, hK, hlk, hst⟩ := hF
  have hown : s.vm.findClass RL = some m.cls := hown
  have hl : lv_has ls 4 [(0, .ref (ad (0))), (1, zi (a1)), (2, .ref (ad (25)))] := hl
  have w_0 := hts (.classLink RL 13 zIA) (by decide +kernel)
  have w_1 := hts (.classLink RL 15 zIS) (by decide +kernel)
  refine lv_aload_n hx hb dL_group_0 rfl (lv_at hl 2 rfl) ?_
  refine z_ic hx hb dL_group_1 ?_
  refine lv_aload_n hx hb dL_group_2 rfl (lv_at hl 0 rfl) ?_
  refine lv_iload_n hx hb dL_group_3 rfl (lv_at hl 1 rfl) ?_
  refine z_call (z_runV (As := [zi (a1)]) (rest := [zi (0), .ref (ad (25))]) (k := 0) (fs := [.ref (ad (1)), .ref (ad (2)), .ref (ad (3)), zi (n)]) ⟨hx, hb, hml, hown, hts⟩ hK hw (k_group l hl0 G I ad _ _ n hn6 hI0 hI1 h0 h1 σ hgs hms hps w p0 f0 a0 h2m h2 a1 hz1) (cwV 1 hts gL_group_X3_group rfl rfl rfl (by decide +kernel) ⟨Nat.le_of_ble_eq_true rfl, Nat.le_of_ble_eq_true rfl⟩) hI0 h0 rfl rfl rfl hl.1 rfl (Nat.le_of_ble_eq_true rfl) dL_group_4 ⟨Nat.le_of_ble_eq_true rfl, Nat.le_of_ble_eq_true rfl⟩) hw (fun E ce q H locs ht hw hce hcv hcl => ?_) (fun v u H locs hp hw _ => ?_)
  · rcases ht with ⟨rfl, hcc⟩ | ⟨rfl, hcc⟩
    · refine vx_catch hown [] ⟨0, 9, 12, 13⟩ [⟨0, 9, 15, 15⟩] htab (fun z9 hz9 => absurd hz9 List.not_mem_nil) rfl (by decide) w_0 (va_Nw.use rfl hK.2.1.2.1) hce hcv hcl ?_
      refine lv_astore_n (lv' := [(3, .ref q), (0, .ref (ad (0))), (1, zi (a1)), (2, .ref (ad (25)))]) hx hb dL_group_12 rfl hl (by decide) rfl (fun ls hl => ?_)
      refine z_ic hx hb dL_group_13 ?_
      exact z_iret hx hb hlk hr hw dL_group_14 (Nat.le_of_ble_eq_true rfl) (Nat.le_of_ble_eq_true rfl) ⟨rfl, _, rfl, Or.inr (Or.inl ⟨Or.inl ⟨rfl, hcc⟩, rfl, rfl⟩)⟩
    · refine vx_catch hown [⟨0, 9, 12, 13⟩] ⟨0, 9, 15, 15⟩ [] htab (fun z9 hz9 => by rw [List.mem_singleton.mp hz9]; exact Or.inr ⟨by decide, zIA, w_0, hK.2.1.2.2.2.2.2.2.2.1⟩) rfl (by decide) w_1 (va_Nw.use rfl hK.2.1.2.2.1) hce hcv hcl ?_
      refine lv_astore_n (lv' := [(3, .ref q), (0, .ref (ad (0))), (1, zi (a1)), (2, .ref (ad (25)))]) hx hb dL_group_15 rfl hl (by decide) rfl (fun ls hl => ?_)
      refine z_ic hx hb dL_group_16 ?_
      exact z_iret hx hb hlk hr hw dL_group_17 (Nat.le_of_ble_eq_true rfl) (Nat.le_of_ble_eq_true rfl) ⟨rfl, _, rfl, Or.inr (Or.inr (⟨Or.inr (⟨rfl, hcc⟩), rfl, rfl⟩))⟩
  · obtain ⟨u1, u2, u3⟩ := u
    obtain ⟨hu1, z, rfl, hP⟩ := hp
    have hw : zW G A s.heap H locs I ad u2 := by have hu2 : u1 = I := hu1; rw [← hu2]; exact hw
    obtain ⟨hOK, rfl, w1, p1, f1, a9, hct⟩ := hP
    have hct : u2 = _ := hct
    rw [hct] at hw
    refine W.eq (g2 := F0 m 7 ls [zi (zgs σ n a1), zi (0), .ref (ad (25))]) rfl ?_
    refine z_i2lw hx hb dL_group_7 ?_
    refine z_last (f := Fo) hx hb hK hw hI25 (zU_n (by omega) h25) (by decide) (by decide) (by decide) dL_group_8 (fun H locs hw => ?_)
    refine lv_goto (tgt := 18) hx hb dL_group_9 (by decide) ?_
    refine z_ic hx hb dL_group_18 ?_
    exact z_iret hx hb hlk hr hw dL_group_19 (Nat.le_of_ble_eq_true rfl) (Nat.le_of_ble_eq_true rfl) ⟨rfl, _, rfl, Or.inl ⟨hOK, rfl, w1, p1, f1, a9, rfl⟩⟩

set_option maxHeartbeats 4000000 in
set_option maxRecDepth 100000 in
theorem l_share (l : Launch) (hl0 : l.stackTraces = false) (G : zG) (I : List Nat) (ad : Nat → Nat) (ct : Nat → va_E) (sz : Nat) (n : Nat) (hn6 : n ≤ 6) (hI0 : 0 ∈ I) (hI1 : 1 ∈ I) (h0 : ct 0 = .inr (3, [.ref (ad 1), .ref (ad 2), .ref (ad 3), zi n])) (h1 : ct 1 = zP G 6 (zpf ad n)) (σ : Nat → zPl) (hgs : ∀ p : Nat, p < n → zGood (σ p)) (hms : ∀ p : Nat, p < n → zMem4 I (40 + 4 * p)) (hps : ∀ p : Nat, p < n → zPileAt G ad ct (40 + 4 * p) (σ p)) (w p0 f0 a0 : Int) (h2m : 2 ∈ I) (h2 : ct 2 = .inr (2, [zi w, zi p0, zi f0, zi a0])) (a1 a2 : Int) (hz1 : zr a1) (hz2 : zr a2) (Fo : Int → Int) (hI25 : 25 ∈ I) (h25 : ct 25 = zL G 1 Fo) : zN l yL_share wsL_share 9 171 4 24 G [.ref (ad (0)), zi (a1), zi (a2), .ref (ad (25))] I ad ct zno sz (zk I (zqi fun z u => (((((0 ≤ a1 ∧ a1 ≤ 10000000) ∧ (0 ≤ a2 ∧ a2 < n)) ∧ ¬ zemp σ n) ∧ pjo (σ (a2).toNat) ≠ 0) ∧ z = 0 ∧ ∃ w1 p1 f1 a9 : Int, u = zU (zU ct 2 (.inr (2, [zi w1, zi p1, zi f1, zi a9]))) 25 (zL G 1 (zup Fo 0 (zwp (zsh σ n a1 (a2).toNat))))) ∨ ((fun E => (E = zIA ∧ ¬ ((0 ≤ a1 ∧ a1 ≤ 10000000) ∧ (0 ≤ a2 ∧ a2 < n))) ∨ (E = zIS ∧ ((0 ≤ a1 ∧ a1 ≤ 10000000) ∧ (0 ≤ a2 ∧ a2 < n)) ∧ zemp σ n) ∨ (E = zIA ∧ (((0 ≤ a1 ∧ a1 ≤ 10000000) ∧ (0 ≤ a2 ∧ a2 < n)) ∧ ¬ zemp σ n) ∧ pjo (σ (a2).toNat) = 0)) zIA ∧ z = 1 ∧ u = ct) ∨ ((fun E => (E = zIA ∧ ¬ ((0 ≤ a1 ∧ a1 ≤ 10000000) ∧ (0 ≤ a2 ∧ a2 < n))) ∨ (E = zIS ∧ ((0 ≤ a1 ∧ a1 ≤ 10000000) ∧ (0 ≤ a2 ∧ a2 < n)) ∧ zemp σ n) ∨ (E = zIA ∧ (((0 ≤ a1 ∧ a1 ≤ 10000000) ∧ (0 ≤ a2 ∧ a2 < n)) ∧ ¬ zemp σ n) ∧ pjo (σ (a2).toNat) = 0)) zIS ∧ z = 2 ∧ u = ct))) := by
  refine z_ofWH (ret := (some .int)) hl0 rfl rfl (Nat.le_of_ble_eq_true rfl) ?_
  intro p e s m args below meth c A ls hA0 hsz hF hr htab hw hl
  obtain ⟨hx, hb, hml, hown, hts, hK, hlk, hst⟩ := hF
  have hown : s.vm.findClass RL = some m.cls := hown
  have hl : lv_has ls 5 [(0, .ref (ad (0))), (1, zi (a1)), (2, zi (a2)), (3, .ref (ad (25)))] := hl
  have w_0 := hts (.classLink RL 13 zIA) (by decide +kernel)
  have w_1 := hts (.classLink RL 15 zIS) (by decide +kernel)
  refine lv_aload_n hx hb dL_share_0 rfl (lv_at hl 3 rfl) ?_
  refine z_ic hx hb dL_share_1 ?_
  refine lv_aload_n hx hb dL_share_2 rfl (lv_at hl 0 rfl) ?_
  refine lv_iload_n hx hb dL_share_3 rfl (lv_at hl 1 rfl) ?_
  refine lv_iload_n hx hb dL_share_4 rfl (lv_at hl 2 rfl) ?_
  refine z_call (z_runV (As := [zi (a1), zi (a2)]) (rest := [zi (0), .ref (ad (25))]) (k := 0) (fs := [.ref (ad (1)), .ref (ad (2)), .ref (ad (3)), zi (n)]) ⟨hx, hb, hml, hown, hts⟩ hK hw (k_share l hl0 G I ad _ _ n hn6 hI0 hI1 h0 h1 σ hgs hms hps w p0 f0 a0 h2m h2 a1 a2 hz1 hz2) (cwV 2 hts gL_share_X3_share rfl rfl rfl (by decide +kernel) ⟨Nat.le_of_ble_eq_true rfl, Nat.le_of_ble_eq_true rfl⟩) hI0 h0 rfl rfl rfl hl.1 rfl (Nat.le_of_ble_eq_true rfl) dL_share_5 ⟨Nat.le_of_ble_eq_true rfl, Nat.le_of_ble_eq_true rfl⟩) hw (fun E ce q H locs ht hw hce hcv hcl => ?_) (fun v u H locs hp hw _ => ?_)
  · rcases ht with ⟨rfl, hcc⟩ | ⟨rfl, hcc⟩ | ⟨rfl, hcc⟩
    · refine vx_catch hown [] ⟨0, 10, 13, 13⟩ [⟨0, 10, 17, 15⟩] htab (fun z9 hz9 => absurd hz9 List.not_mem_nil) rfl (by decide) w_0 (va_Nw.use rfl hK.2.1.2.1) hce hcv hcl ?_
      refine lv_astore (lv' := [(4, .ref q), (0, .ref (ad (0))), (1, zi (a1)), (2, zi (a2)), (3, .ref (ad (25)))]) hx hb dL_share_13 hl (by decide) rfl (fun ls hl => ?_)
      refine z_ic hx hb dL_share_15 ?_
      exact z_iret hx hb hlk hr hw dL_share_16 (Nat.le_of_ble_eq_true rfl) (Nat.le_of_ble_eq_true rfl) ⟨rfl, _, rfl, Or.inr (Or.inl ⟨Or.inl ⟨rfl, hcc⟩, rfl, rfl⟩)⟩
    · refine vx_catch hown [⟨0, 10, 13, 13⟩] ⟨0, 10, 17, 15⟩ [] htab (fun z9 hz9 => by rw [List.mem_singleton.mp hz9]; exact Or.inr ⟨by decide, zIA, w_0, hK.2.1.2.2.2.2.2.2.2.1⟩) rfl (by decide) w_1 (va_Nw.use rfl hK.2.1.2.2.1) hce hcv hcl ?_
      refine lv_astore (lv' := [(4, .ref q), (0, .ref (ad (0))), (1, zi (a1)), (2, zi (a2)), (3, .ref (ad (25)))]) hx hb dL_share_17 hl (by decide) rfl (fun ls hl => ?_)
      refine z_ic hx hb dL_share_19 ?_
      exact z_iret hx hb hlk hr hw dL_share_20 (Nat.le_of_ble_eq_true rfl) (Nat.le_of_ble_eq_true rfl) ⟨rfl, _, rfl, Or.inr (Or.inr (⟨Or.inr (Or.inl ⟨rfl, hcc⟩), rfl, rfl⟩))⟩
    · refine vx_catch hown [] ⟨0, 10, 13, 13⟩ [⟨0, 10, 17, 15⟩] htab (fun z9 hz9 => absurd hz9 List.not_mem_nil) rfl (by decide) w_0 (va_Nw.use rfl hK.2.1.2.1) hce hcv hcl ?_
      refine lv_astore (lv' := [(4, .ref q), (0, .ref (ad (0))), (1, zi (a1)), (2, zi (a2)), (3, .ref (ad (25)))]) hx hb dL_share_13 hl (by decide) rfl (fun ls hl => ?_)
      refine z_ic hx hb dL_share_15 ?_
      exact z_iret hx hb hlk hr hw dL_share_16 (Nat.le_of_ble_eq_true rfl) (Nat.le_of_ble_eq_true rfl) ⟨rfl, _, rfl, Or.inr (Or.inl ⟨Or.inr (Or.inr (⟨rfl, hcc⟩)), rfl, rfl⟩)⟩
  · obtain ⟨u1, u2, u3⟩ := u
    obtain ⟨hu1, z, rfl, hP⟩ := hp
    have hw : zW G A s.heap H locs I ad u2 := by have hu2 : u1 = I := hu1; rw [← hu2]; exact hw
    obtain ⟨hOK, rfl, w1, p1, f1, a9, hct⟩ := hP
    have hct : u2 = _ := hct
    rw [hct] at hw
    refine W.eq (g2 := F0 m 8 ls [zi (zsh σ n a1 (a2).toNat), zi (0), .ref (ad (25))]) rfl ?_
    refine z_i2lw hx hb dL_share_8 ?_
    refine z_last (f := Fo) hx hb hK hw hI25 (zU_n (by omega) h25) (by decide) (by decide) (by decide) dL_share_9 (fun H locs hw => ?_)
    refine lv_goto (tgt := 21) hx hb dL_share_10 (by decide) ?_
    refine z_ic hx hb dL_share_21 ?_
    exact z_iret hx hb hlk hr hw dL_share_22 (Nat.le_of_ble_eq_true rfl) (Nat.le_of_ble_eq_true rfl) ⟨rfl, _, rfl, Or.inl ⟨hOK, rfl, w1, p1, f1, a9, rfl⟩⟩

set_option maxHeartbeats 4000000 in
set_option maxRecDepth 100000 in
theorem l_blow (l : Launch) (hl0 : l.stackTraces = false) (G : zG) (I : List Nat) (ad : Nat → Nat) (ct : Nat → va_E) (sz : Nat) (n : Nat) (hn6 : n ≤ 6) (hI0 : 0 ∈ I) (hI1 : 1 ∈ I) (h0 : ct 0 = .inr (3, [.ref (ad 1), .ref (ad 2), .ref (ad 3), zi n])) (h1 : ct 1 = zP G 6 (zpf ad n)) (σ : Nat → zPl) (hgs : ∀ p : Nat, p < n → zGood (σ p)) (hms : ∀ p : Nat, p < n → zMem4 I (40 + 4 * p)) (hps : ∀ p : Nat, p < n → zPileAt G ad ct (40 + 4 * p) (σ p)) (b0 b1 : Int) (f g h wv : Int → Int) (hI3 : 3 ∈ I) (hI4 : 4 ∈ I) (hI5 : 5 ∈ I) (hI6 : 6 ∈ I) (hI7 : 7 ∈ I) (h3 : ct 3 = .inr (0, [zi b0, zi b1, .ref (ad 4), .ref (ad 5), .ref (ad 6), .ref (ad 7)])) (h4 : ct 4 = zI G 13 f) (h5 : ct 5 = zI G 13 g) (h6 : ct 6 = zL G 13 h) (h7 : ct 7 = zI G 2600 wv) (a1 a2 a3 : Int) (hz1 : zr a1) (hz2 : zr a2) (hz3 : zr a3) (Fo : Int → Int) (hI25 : 25 ∈ I) (h25 : ct 25 = zL G 1 Fo) : zN l yL_blow wsL_blow 8 132 3 18 G [.ref (ad (0)), zi (a1), zi (a2), zi (a3), .ref (ad (25))] I ad ct zno sz (zk I (zqi fun z u => (((0 ≤ a1 ∧ a1 < n) ∧ (1 ≤ a2 ∧ a2 ≤ 10000) ∧ (1 ≤ a3 ∧ a3 ≤ 1000)) ∧ z = 0 ∧ ∃ f1 g1 h1 wv1 : Int → Int, zwv (σ (a1).toNat) a2 a3 200 wv1 ∧ u = zU ((zU5 ct (.inr (0, [zi (pn (σ (a1).toNat)), zi (zdp (σ (a1).toNat) a2 a3 200), .ref (ad (4)), .ref (ad (5)), .ref (ad (6)), .ref (ad (7))])) (zI G 13 (f1)) (zI G 13 (g1)) (zL G 13 (h1)) (zI G 2600 (wv1)))) 25 (zL G 1 (zup Fo 0 (zwp (zset (σ (a1).toNat) a2 a3))))) ∨ ((fun E => E = zIA ∧ ¬ ((0 ≤ a1 ∧ a1 < n) ∧ (1 ≤ a2 ∧ a2 ≤ 10000) ∧ (1 ≤ a3 ∧ a3 ≤ 1000))) zIA ∧ z = 1 ∧ u = ct))) := by
  refine z_ofWH (ret := (some .int)) hl0 rfl rfl (Nat.le_of_ble_eq_true rfl) ?_
  intro p e s m args below meth c A ls hA0 hsz hF hr htab hw hl
  obtain ⟨hx, hb, hml, hown, hts, hK, hlk, hst⟩ := hF
  have hown : s.vm.findClass RL = some m.cls := hown
  have hl : lv_has ls 6 [(0, .ref (ad (0))), (1, zi (a1)), (2, zi (a2)), (3, zi (a3)), (4, .ref (ad (25)))] := hl
  have w_0 := hts (.classLink RL 13 zIA) (by decide +kernel)
  refine lv_aload hx hb dL_blow_0 (lv_at hl 4 rfl) ?_
  refine z_ic hx hb dL_blow_2 ?_
  refine lv_aload_n hx hb dL_blow_3 rfl (lv_at hl 0 rfl) ?_
  refine lv_iload_n hx hb dL_blow_4 rfl (lv_at hl 1 rfl) ?_
  refine lv_iload_n hx hb dL_blow_5 rfl (lv_at hl 2 rfl) ?_
  refine lv_iload_n hx hb dL_blow_6 rfl (lv_at hl 3 rfl) ?_
  refine z_call (z_runV (As := [zi (a1), zi (a2), zi (a3)]) (rest := [zi (0), .ref (ad (25))]) (k := 0) (fs := [.ref (ad (1)), .ref (ad (2)), .ref (ad (3)), zi (n)]) ⟨hx, hb, hml, hown, hts⟩ hK hw (k_blow l hl0 G I ad _ _ n hn6 hI0 hI1 h0 h1 σ hgs hms hps b0 b1 f g h wv hI3 hI4 hI5 hI6 hI7 h3 h4 h5 h6 h7 a1 a2 a3 hz1 hz2 hz3) (cwV 3 hts gL_blow_X3_blow rfl rfl rfl (by decide +kernel) ⟨Nat.le_of_ble_eq_true rfl, Nat.le_of_ble_eq_true rfl⟩) hI0 h0 rfl rfl rfl hl.1 rfl (Nat.le_of_ble_eq_true rfl) dL_blow_7 ⟨Nat.le_of_ble_eq_true rfl, Nat.le_of_ble_eq_true rfl⟩) hw (fun E ce q H locs ht hw hce hcv hcl => ?_) (fun v u H locs hp hw _ => ?_)
  · obtain ⟨rfl, hcc⟩ := ht
    refine vx_catch hown [] ⟨0, 12, 15, 13⟩ [] htab (fun z9 hz9 => absurd hz9 List.not_mem_nil) rfl (by decide) w_0 (va_Nw.use rfl hK.2.1.2.1) hce hcv hcl ?_
    refine lv_astore (lv' := [(5, .ref q), (0, .ref (ad (0))), (1, zi (a1)), (2, zi (a2)), (3, zi (a3)), (4, .ref (ad (25)))]) hx hb dL_blow_15 hl (by decide) rfl (fun ls hl => ?_)
    refine z_ic hx hb dL_blow_17 ?_
    exact z_iret hx hb hlk hr hw dL_blow_18 (Nat.le_of_ble_eq_true rfl) (Nat.le_of_ble_eq_true rfl) ⟨rfl, _, rfl, Or.inr (⟨⟨rfl, hcc⟩, rfl, rfl⟩)⟩
  · obtain ⟨u1, u2, u3⟩ := u
    obtain ⟨hu1, z, rfl, hP⟩ := hp
    have hw : zW G A s.heap H locs I ad u2 := by have hu2 : u1 = I := hu1; rw [← hu2]; exact hw
    obtain ⟨hOK, rfl, f1, g1, h1, wv1, hex, hct⟩ := hP
    have hct : u2 = _ := hct
    rw [hct] at hw
    refine W.eq (g2 := F0 m 10 ls [zi (zset (σ (a1).toNat) a2 a3), zi (0), .ref (ad (25))]) rfl ?_
    refine z_i2lw hx hb dL_blow_10 ?_
    refine z_last (f := Fo) hx hb hK hw hI25 (zU5_n (by omega) h25) (by decide) (by decide) (by decide) dL_blow_11 (fun H locs hw => ?_)
    refine lv_goto (tgt := 19) hx hb dL_blow_12 (by decide) ?_
    refine z_ic hx hb dL_blow_19 ?_
    exact z_iret hx hb hlk hr hw dL_blow_20 (Nat.le_of_ble_eq_true rfl) (Nat.le_of_ble_eq_true rfl) ⟨rfl, _, rfl, Or.inl ⟨hOK, rfl, f1, g1, h1, wv1, hex, rfl⟩⟩

set_option maxHeartbeats 4000000 in
set_option maxRecDepth 100000 in
theorem l_wave (l : Launch) (hl0 : l.stackTraces = false) (G : zG) (I : List Nat) (ad : Nat → Nat) (ct : Nat → va_E) (sz : Nat) (n : Nat) (hn6 : n ≤ 6) (hI0 : 0 ∈ I) (hI1 : 1 ∈ I) (h0 : ct 0 = .inr (3, [.ref (ad 1), .ref (ad 2), .ref (ad 3), zi n])) (h1 : ct 1 = zP G 6 (zpf ad n)) (b0 b1 : Int) (f g h wv : Int → Int) (hI3 : 3 ∈ I) (hI4 : 4 ∈ I) (hI5 : 5 ∈ I) (hI6 : 6 ∈ I) (hI7 : 7 ∈ I) (h3 : ct 3 = .inr (0, [zi b0, zi b1, .ref (ad 4), .ref (ad 5), .ref (ad 6), .ref (ad 7)])) (h4 : ct 4 = zI G 13 f) (h5 : ct 5 = zI G 13 g) (h6 : ct 6 = zL G 13 h) (h7 : ct 7 = zI G 2600 wv) (a1 a2 : Int) (hz1 : zr a1) (hz2 : zr a2) (hb0 : 0 ≤ b0 ∧ b0 ≤ 12) (Fo : Int → Int) (hI25 : 25 ∈ I) (h25 : ct 25 = zL G 1 Fo) : zN l yL_wave wsL_wave 8 130 2 12 G [.ref (ad (0)), zi (a1), zi (a2), .ref (ad (25))] I ad ct zno sz (zk I (zqi fun z u => ((0 < b0 ∧ (0 ≤ a1 ∧ a1 ≤ 199) ∧ (0 ≤ a2 ∧ a2 ≤ b0)) ∧ z = 0 ∧ u = zU (ct) 25 (zL G 1 (zup Fo 0 (zwp (wv (13 * a1 + a2)))))) ∨ ((fun E => (E = zIS ∧ ¬ 0 < b0) ∨ (E = zIA ∧ 0 < b0 ∧ ¬ ((0 ≤ a1 ∧ a1 ≤ 199) ∧ (0 ≤ a2 ∧ a2 ≤ b0)))) zIA ∧ z = 2 ∧ u = ct) ∨ ((fun E => (E = zIS ∧ ¬ 0 < b0) ∨ (E = zIA ∧ 0 < b0 ∧ ¬ ((0 ≤ a1 ∧ a1 ≤ 199) ∧ (0 ≤ a2 ∧ a2 ≤ b0)))) zIS ∧ z = 1 ∧ u = ct))) := by
  refine z_ofWH (ret := (some .int)) hl0 rfl rfl (Nat.le_of_ble_eq_true rfl) ?_
  intro p e s m args below meth c A ls hA0 hsz hF hr htab hw hl
  obtain ⟨hx, hb, hml, hown, hts, hK, hlk, hst⟩ := hF
  have hown : s.vm.findClass RL = some m.cls := hown
  have hl : lv_has ls 5 [(0, .ref (ad (0))), (1, zi (a1)), (2, zi (a2)), (3, .ref (ad (25)))] := hl
  have w_0 := hts (.classLink RL 15 zIS) (by decide +kernel)
  have w_1 := hts (.classLink RL 13 zIA) (by decide +kernel)
  refine lv_aload_n hx hb dL_wave_0 rfl (lv_at hl 3 rfl) ?_
  refine z_ic hx hb dL_wave_1 ?_
  refine lv_aload_n hx hb dL_wave_2 rfl (lv_at hl 0 rfl) ?_
  refine lv_iload_n hx hb dL_wave_3 rfl (lv_at hl 1 rfl) ?_
  refine lv_iload_n hx hb dL_wave_4 rfl (lv_at hl 2 rfl) ?_
  refine z_call (z_runV (As := [zi (a1), zi (a2)]) (rest := [zi (0), .ref (ad (25))]) (k := 0) (fs := [.ref (ad (1)), .ref (ad (2)), .ref (ad (3)), zi (n)]) ⟨hx, hb, hml, hown, hts⟩ hK hw (k_wave l hl0 G I ad _ _ n hn6 hI0 hI1 h0 h1 b0 b1 f g h wv hI3 hI4 hI5 hI6 hI7 h3 h4 h5 h6 h7 a1 a2 hz1 hz2 hb0) (cwV 2 hts gL_wave_X3_wave rfl rfl rfl (by decide +kernel) ⟨Nat.le_of_ble_eq_true rfl, Nat.le_of_ble_eq_true rfl⟩) hI0 h0 rfl rfl rfl hl.1 rfl (Nat.le_of_ble_eq_true rfl) dL_wave_5 ⟨Nat.le_of_ble_eq_true rfl, Nat.le_of_ble_eq_true rfl⟩) hw (fun E ce q H locs ht hw hce hcv hcl => ?_) (fun v u H locs hp hw _ => ?_)
  · rcases ht with ⟨rfl, hcc⟩ | ⟨rfl, hcc⟩
    · refine vx_catch hown [] ⟨0, 10, 13, 15⟩ [⟨0, 10, 17, 13⟩] htab (fun z9 hz9 => absurd hz9 List.not_mem_nil) rfl (by decide) w_0 (va_Nw.use rfl hK.2.1.2.2.1) hce hcv hcl ?_
      refine lv_astore (lv' := [(4, .ref q), (0, .ref (ad (0))), (1, zi (a1)), (2, zi (a2)), (3, .ref (ad (25)))]) hx hb dL_wave_13 hl (by decide) rfl (fun ls hl => ?_)
      refine z_ic hx hb dL_wave_15 ?_
      exact z_iret hx hb hlk hr hw dL_wave_16 (Nat.le_of_ble_eq_true rfl) (Nat.le_of_ble_eq_true rfl) ⟨rfl, _, rfl, Or.inr (Or.inr (⟨Or.inl ⟨rfl, hcc⟩, rfl, rfl⟩))⟩
    · refine vx_catch hown [⟨0, 10, 13, 15⟩] ⟨0, 10, 17, 13⟩ [] htab (fun z9 hz9 => by rw [List.mem_singleton.mp hz9]; exact Or.inr ⟨by decide, zIS, w_0, hK.2.1.2.2.2.2.2.2.1⟩) rfl (by decide) w_1 (va_Nw.use rfl hK.2.1.2.1) hce hcv hcl ?_
      refine lv_astore (lv' := [(4, .ref q), (0, .ref (ad (0))), (1, zi (a1)), (2, zi (a2)), (3, .ref (ad (25)))]) hx hb dL_wave_17 hl (by decide) rfl (fun ls hl => ?_)
      refine z_ic hx hb dL_wave_19 ?_
      exact z_iret hx hb hlk hr hw dL_wave_20 (Nat.le_of_ble_eq_true rfl) (Nat.le_of_ble_eq_true rfl) ⟨rfl, _, rfl, Or.inr (Or.inl ⟨Or.inr (⟨rfl, hcc⟩), rfl, rfl⟩)⟩
  · obtain ⟨u1, u2, u3⟩ := u
    obtain ⟨hu1, z, rfl, hP⟩ := hp
    have hw : zW G A s.heap H locs I ad u2 := by have hu2 : u1 = I := hu1; rw [← hu2]; exact hw
    obtain ⟨hOK, rfl, hct⟩ := hP
    have hct : u2 = _ := hct
    rw [hct] at hw
    refine W.eq (g2 := F0 m 8 ls [zi (wv (13 * a1 + a2)), zi (0), .ref (ad (25))]) rfl ?_
    refine z_i2lw hx hb dL_wave_8 ?_
    refine z_last (f := Fo) hx hb hK hw hI25 h25 (by decide) (by decide) (by decide) dL_wave_9 (fun H locs hw => ?_)
    refine lv_goto (tgt := 21) hx hb dL_wave_10 (by decide) ?_
    refine z_ic hx hb dL_wave_21 ?_
    exact z_iret hx hb hlk hr hw dL_wave_22 (Nat.le_of_ble_eq_true rfl) (Nat.le_of_ble_eq_true rfl) ⟨rfl, _, rfl, Or.inl ⟨hOK, rfl, rfl⟩⟩

set_option maxHeartbeats 4000000 in
set_option maxRecDepth 100000 in
theorem l_join (l : Launch) (hl0 : l.stackTraces = false) (G : zG) (I : List Nat) (ad : Nat → Nat) (ct : Nat → va_E) (sz : Nat) (n : Nat) (hn6 : n ≤ 6) (hI0 : 0 ∈ I) (hI1 : 1 ∈ I) (h0 : ct 0 = .inr (3, [.ref (ad 1), .ref (ad 2), .ref (ad 3), zi n])) (h1 : ct 1 = zP G 6 (zpf ad n)) (σ : Nat → zPl) (hgs : ∀ p : Nat, p < n → zGood (σ p)) (hms : ∀ p : Nat, p < n → zMem4 I (40 + 4 * p)) (hps : ∀ p : Nat, p < n → zPileAt G ad ct (40 + 4 * p) (σ p)) (a1 bi : Int) (hz1 : zr a1) (hbi : bi = 0 ∨ bi = 1) (Fo : Int → Int) (hI25 : 25 ∈ I) (h25 : ct 25 = zL G 1 Fo) : zN l yL_join wsL_join 8 131 1 6 G [.ref (ad (0)), zi (a1), zi (bi), .ref (ad (25))] I ad ct zno sz (zk I (zqi fun z u => ((0 ≤ a1 ∧ a1 < n) ∧ z = 0 ∧ u = zU (zU ct (40 + 4 * (a1).toNat) (.inr (1, [zi (psp (σ (a1).toNat)), zi (pma (σ (a1).toNat)), zi (pco (σ (a1).toNat)), .ref (ad (40 + 4 * (a1).toNat + 1)), .ref (ad (40 + 4 * (a1).toNat + 2)), .ref (ad (40 + 4 * (a1).toNat + 3)), zi (pts (σ (a1).toNat)), zi (ptm (σ (a1).toNat)), zi (bi)]))) 25 (zL G 1 (zup Fo 0 (pjo (σ (a1).toNat))))) ∨ ((fun E => E = zIA ∧ ¬ (0 ≤ a1 ∧ a1 < n)) zIA ∧ z = 1 ∧ u = ct))) := by
  refine z_ofWH (ret := (some .int)) hl0 rfl rfl (Nat.le_of_ble_eq_true rfl) ?_
  intro p e s m args below meth c A ls hA0 hsz hF hr htab hw hl
  obtain ⟨hx, hb, hml, hown, hts, hK, hlk, hst⟩ := hF
  have hown : s.vm.findClass RL = some m.cls := hown
  have hl : lv_has ls 5 [(0, .ref (ad (0))), (1, zi (a1)), (2, zi (bi)), (3, .ref (ad (25)))] := hl
  have w_0 := hts (.classLink RL 13 zIA) (by decide +kernel)
  refine lv_aload_n hx hb dL_join_0 rfl (lv_at hl 3 rfl) ?_
  refine z_ic hx hb dL_join_1 ?_
  refine lv_aload_n hx hb dL_join_2 rfl (lv_at hl 0 rfl) ?_
  refine lv_iload_n hx hb dL_join_3 rfl (lv_at hl 1 rfl) ?_
  refine lv_iload_n hx hb dL_join_4 rfl (lv_at hl 2 rfl) ?_
  refine z_call (z_runV (As := [zi (a1), zi (bi)]) (rest := [zi (0), .ref (ad (25))]) (k := 0) (fs := [.ref (ad (1)), .ref (ad (2)), .ref (ad (3)), zi (n)]) ⟨hx, hb, hml, hown, hts⟩ hK hw (k_join l hl0 G I ad _ _ n hn6 hI0 hI1 h0 h1 σ hgs hms hps a1 bi hz1 hbi) (cwV 2 hts gL_join_X3_join rfl rfl rfl (by decide +kernel) ⟨Nat.le_of_ble_eq_true rfl, Nat.le_of_ble_eq_true rfl⟩) hI0 h0 rfl rfl rfl hl.1 rfl (Nat.le_of_ble_eq_true rfl) dL_join_5 ⟨Nat.le_of_ble_eq_true rfl, Nat.le_of_ble_eq_true rfl⟩) hw (fun E ce q H locs ht hw hce hcv hcl => ?_) (fun v u H locs hp hw _ => ?_)
  · obtain ⟨rfl, hcc⟩ := ht
    refine vx_catch hown [] ⟨0, 17, 20, 13⟩ [] htab (fun z9 hz9 => absurd hz9 List.not_mem_nil) rfl (by decide) w_0 (va_Nw.use rfl hK.2.1.2.1) hce hcv hcl ?_
    refine lv_astore (lv' := [(4, .ref q), (0, .ref (ad (0))), (1, zi (a1)), (2, zi (bi)), (3, .ref (ad (25)))]) hx hb dL_join_20 hl (by decide) rfl (fun ls hl => ?_)
    refine z_ic hx hb dL_join_22 ?_
    exact z_iret hx hb hlk hr hw dL_join_23 (Nat.le_of_ble_eq_true rfl) (Nat.le_of_ble_eq_true rfl) ⟨rfl, _, rfl, Or.inr (⟨⟨rfl, hcc⟩, rfl, rfl⟩)⟩
  · obtain ⟨u1, u2, u3⟩ := u
    obtain ⟨hu1, z, rfl, hP⟩ := hp
    have hw : zW G A s.heap H locs I ad u2 := by have hu2 : u1 = I := hu1; rw [← hu2]; exact hw
    obtain ⟨hOK, rfl, hct⟩ := hP
    have hct : u2 = _ := hct
    rw [hct] at hw
    refine W.eq (g2 := F0 m 8 ls [zi (pjo (σ (a1).toNat)), zi (0), .ref (ad (25))]) rfl ?_
    have g13 := (hgs (a1).toNat (by omega)).2.2.2.2.2.2.1
    refine z_if_eq (tgt := 15) hx hb dL_join_8 (by decide) ⟨by omega, by omega⟩ (fun c_2 => ?_) (fun c_2 => ?_)
    · refine z_lc0 hx hb dL_join_15 ?_
      refine W.eq (g2 := F0 m 16 ls (zl (pjo (σ (a1).toNat)) :: [zi (0), .ref (ad (25))])) (congrArg (fun z9 : Int => F0 m 16 ls (zl z9 :: [zi (0), .ref (ad (25))])) (show (0 : Int) = pjo (σ (a1).toNat) from by omega)) ?_
      refine z_last (f := Fo) hx hb hK hw hI25 (zU_n (by omega) h25) (by decide) (by decide) (by decide) dL_join_16 (fun H locs hw => ?_)
      refine lv_goto (tgt := 24) hx hb dL_join_17 (by decide) ?_
      refine z_ic hx hb dL_join_24 ?_
      exact z_iret hx hb hlk hr hw dL_join_25 (Nat.le_of_ble_eq_true rfl) (Nat.le_of_ble_eq_true rfl) ⟨rfl, _, rfl, Or.inl ⟨hOK, rfl, rfl⟩⟩
    · refine z_lc1 hx hb dL_join_11 ?_
      refine lv_goto (tgt := 16) hx hb dL_join_12 (by decide) ?_
      refine W.eq (g2 := F0 m 16 ls (zl (pjo (σ (a1).toNat)) :: [zi (0), .ref (ad (25))])) (congrArg (fun z9 : Int => F0 m 16 ls (zl z9 :: [zi (0), .ref (ad (25))])) (show (1 : Int) = pjo (σ (a1).toNat) from by omega)) ?_
      refine z_last (f := Fo) hx hb hK hw hI25 (zU_n (by omega) h25) (by decide) (by decide) (by decide) dL_join_16 (fun H locs hw => ?_)
      refine lv_goto (tgt := 24) hx hb dL_join_17 (by decide) ?_
      refine z_ic hx hb dL_join_24 ?_
      exact z_iret hx hb hlk hr hw dL_join_25 (Nat.le_of_ble_eq_true rfl) (Nat.le_of_ble_eq_true rfl) ⟨rfl, _, rfl, Or.inl ⟨hOK, rfl, rfl⟩⟩

set_option maxHeartbeats 4000000 in
set_option maxRecDepth 100000 in
theorem l_pile (l : Launch) (hl0 : l.stackTraces = false) (G : zG) (I : List Nat) (ad : Nat → Nat) (ct : Nat → va_E) (sz : Nat) (n : Nat) (hn6 : n ≤ 6) (hI0 : 0 ∈ I) (hI1 : 1 ∈ I) (h0 : ct 0 = .inr (3, [.ref (ad 1), .ref (ad 2), .ref (ad 3), zi n])) (h1 : ct 1 = zP G 6 (zpf ad n)) (hI2 : 2 ∈ I) (hI3 : 3 ∈ I) (hms : ∀ p : Nat, p < n → zMem4 I (40 + 4 * p)) (hIb : ∀ j ∈ I, j < 40 + 4 * n) (a1 a2 a3 a4 : Int) (hz1 : zr a1) (hz2 : zr a2) (hz3 : zr a3) (hz4 : zr a4) (Fo : Int → Int) (hI25 : 25 ∈ I) (h25 : ct 25 = zL G 1 Fo) : zNa l yL_pile wsL_pile 8 133 8 69 G [.ref (ad (0)), zi (a1), zi (a2), zi (a3), zi (a4), .ref (ad (25))] I ad ct zno sz (fun _ => True) (fun v I1 ad1 ct1 => (v = some (zi 0) ∧ (((1 ≤ a1 ∧ a1 ≤ 12) ∧ (1 ≤ a2 ∧ a2 ≤ 10000) ∧ (1 ≤ a3 ∧ a3 ≤ 1000) ∧ (0 ≤ a4 ∧ a4 ≤ 100000)) ∧ n < 6) ∧ I1 = (((I ++ [40 + 4 * n]) ++ [40 + 4 * n + 1]) ++ [40 + 4 * n + 2]) ++ [40 + 4 * n + 3] ∧ ct1 0 = .inr (3, [.ref (ad1 (1)), .ref (ad1 (2)), .ref (ad1 (3)), zi (((n + 1 : Nat) : Int))]) ∧ ct1 1 = zP G 6 (zpf ad1 (n + 1)) ∧ zPileAt G ad1 ct1 (40 + 4 * n) (znw (a1).toNat a2 a3 a4) ∧ (∀ j : Nat, 2 ≤ j → j ≠ 25 → j < 40 + 4 * n → ct1 j = ct j) ∧ ct1 25 = zL G 1 (zup Fo 0 (zwp n))) ∨ (v = some (zi 1) ∧ ¬ ((1 ≤ a1 ∧ a1 ≤ 12) ∧ (1 ≤ a2 ∧ a2 ≤ 10000) ∧ (1 ≤ a3 ∧ a3 ≤ 1000) ∧ (0 ≤ a4 ∧ a4 ≤ 100000)) ∧ I1 = I ∧ ct1 = ct) ∨ (v = some (zi 2) ∧ (((1 ≤ a1 ∧ a1 ≤ 12) ∧ (1 ≤ a2 ∧ a2 ≤ 10000) ∧ (1 ≤ a3 ∧ a3 ≤ 1000) ∧ (0 ≤ a4 ∧ a4 ≤ 100000)) ∧ n = 6) ∧ I1 = I ∧ ct1 = ct)) := by
  refine z_ofWHa (ret := (some .int)) hl0 rfl rfl (Nat.le_of_ble_eq_true rfl) ?_
  intro p e s m args below meth c A ls hA0 hsz hF hr htab hw hl hE
  obtain ⟨hx, hb, hml, hown, hts, hK, hlk, hst⟩ := hF
  have hown : s.vm.findClass RL = some m.cls := hown
  have hl : lv_has ls 7 [(0, .ref (ad (0))), (1, zi (a1)), (2, zi (a2)), (3, zi (a3)), (4, zi (a4)), (5, .ref (ad (25)))] := hl
  have w_0 := hts (.classLink RL 13 zIA) (by decide +kernel)
  have w_1 := hts (.classLink RL 15 zIS) (by decide +kernel)
  refine lv_aload hx hb dL_pile_0 (lv_at hl 5 rfl) ?_
  refine z_ic hx hb dL_pile_2 ?_
  refine lv_aload_n hx hb dL_pile_3 rfl (lv_at hl 0 rfl) ?_
  refine lv_iload_n hx hb dL_pile_4 rfl (lv_at hl 1 rfl) ?_
  refine lv_iload_n hx hb dL_pile_5 rfl (lv_at hl 2 rfl) ?_
  refine lv_iload_n hx hb dL_pile_6 rfl (lv_at hl 3 rfl) ?_
  refine lv_iload hx hb dL_pile_7 (lv_at hl 4 rfl) ?_
  refine z_calla (z_runVa (As := [zi (a1), zi (a2), zi (a3), zi (a4)]) (rest := [zi (0), .ref (ad (25))]) (k := 0) (fs := [.ref (ad (1)), .ref (ad (2)), .ref (ad (3)), zi (n)]) ⟨hx, hb, hml, hown, hts⟩ hK hw (k_pile l hl0 G _ _ _ _ n hn6 hI0 hI1 h0 h1 hI2 hI3 hms hIb a1 a2 a3 a4 hz1 hz2 hz3 hz4) (zPreA zEB_t trivial (fun _ _ _ _ h => h) hK hw _) (cwV 4 hts gL_pile_X3_pile rfl rfl rfl (by decide +kernel) ⟨Nat.le_of_ble_eq_true rfl, Nat.le_of_ble_eq_true rfl⟩) hI0 h0 rfl rfl rfl hl.1 rfl (Nat.le_of_ble_eq_true rfl) dL_pile_9 ⟨Nat.le_of_ble_eq_true rfl, Nat.le_of_ble_eq_true rfl⟩) hw (fun E ce q H locs ht hw hce hcv hcl => ?_) (fun v I1 ad1 ct1 H locs hag hP hw => ?_)
  · rcases ht with ⟨rfl, hcc⟩ | ⟨rfl, hcc, hcn⟩
    · refine vx_catch hown [] ⟨0, 14, 17, 13⟩ [⟨0, 14, 21, 15⟩] htab (fun z9 hz9 => absurd hz9 List.not_mem_nil) rfl (by decide) w_0 (va_Nw.use rfl hK.2.1.2.1) hce hcv hcl ?_
      refine lv_astore (lv' := [(6, .ref q), (0, .ref (ad (0))), (1, zi (a1)), (2, zi (a2)), (3, zi (a3)), (4, zi (a4)), (5, .ref (ad (25)))]) hx hb dL_pile_17 hl (by decide) rfl (fun ls hl => ?_)
      refine z_ic hx hb dL_pile_19 ?_
      exact z_ireta hx hb hlk hr hw (fun _ _ => rfl) dL_pile_20 (Nat.le_of_ble_eq_true rfl) (Nat.le_of_ble_eq_true rfl) (Or.inr (Or.inl ⟨rfl, hcc, rfl, rfl⟩))
    · refine vx_catch hown [⟨0, 14, 17, 13⟩] ⟨0, 14, 21, 15⟩ [] htab (fun z9 hz9 => by rw [List.mem_singleton.mp hz9]; exact Or.inr ⟨by decide, zIA, w_0, hK.2.1.2.2.2.2.2.2.2.1⟩) rfl (by decide) w_1 (va_Nw.use rfl hK.2.1.2.2.1) hce hcv hcl ?_
      refine lv_astore (lv' := [(6, .ref q), (0, .ref (ad (0))), (1, zi (a1)), (2, zi (a2)), (3, zi (a3)), (4, zi (a4)), (5, .ref (ad (25)))]) hx hb dL_pile_21 hl (by decide) rfl (fun ls hl => ?_)
      refine z_ic hx hb dL_pile_23 ?_
      exact z_ireta hx hb hlk hr hw (fun _ _ => rfl) dL_pile_24 (Nat.le_of_ble_eq_true rfl) (Nat.le_of_ble_eq_true rfl) (Or.inr (Or.inr ⟨rfl, ⟨hcc, hcn⟩, rfl, rfl⟩))
  · obtain ⟨rfl, hOK, rfl, f0, f1, fp, hoth⟩ := hP
    refine W.eq (g2 := F0 m 12 ls [zi n, zi 0, .ref (ad 25)]) rfl ?_
    rw [← hag 25 hI25]
    have h25b := (hoth 25 (by decide) (by omega)).trans h25
    obtain ⟨fp0, fp1, fp2, fp3⟩ := fp
    refine z_i2lw hx hb dL_pile_12 ?_
    refine z_last (f := Fo) hx hb hK hw (List.mem_append_left _ (List.mem_append_left _ (List.mem_append_left _ (List.mem_append_left _ hI25)))) h25b (by decide) (by decide) (by decide) dL_pile_13 (fun H locs hw => ?_)
    refine lv_goto (tgt := 25) hx hb dL_pile_14 (by decide) ?_
    refine z_ic hx hb dL_pile_25 ?_
    exact z_ireta hx hb hlk hr hw hag dL_pile_26 (Nat.le_of_ble_eq_true rfl) (Nat.le_of_ble_eq_true rfl) (Or.inl ⟨rfl, hOK, rfl, (zU_n (by omega) f0), (zU_n (by omega) f1), ⟨(zU_n (by omega) fp0), (zU_n (by omega) fp1), (zU_n (by omega) fp2), (zU_n (by omega) fp3)⟩, fun j hj1 hj2 hj3 => (zU_n (by omega) (hoth j hj1 hj3)), (zU_s _ _ _)⟩)
