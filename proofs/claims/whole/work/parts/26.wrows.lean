/-! the law's own small methods: what is thrown is caught -/
def zwp (z : Int) : Int := (Int32.ofInt z).toInt
theorem zwp_r (z : Int) : zr (zwp z) := ⟨by have := (Int32.ofInt z).le_toInt; unfold zwp; omega, by have := (Int32.ofInt z).toInt_lt; unfold zwp; omega⟩
theorem zwp_l (z : Int) : (Int32.ofInt z).toInt64 = Int64.ofInt (zwp z) := by
  have h : Int32.ofInt (zwp z) = Int32.ofInt z := Int32.ofInt_toInt _
  rw [← h, zi_i2l (zwp_r z)]
theorem zwp_id {z : Int} (h : zr z) : zwp z = z := zr_i h
section ZY
variable {p : Program} {l : Launch} {e : Env} {R : Room} {s : State} {m : MethodId} {args : Array Value} {below : List Frame} {meth : Method} {c : Code} {H : Heap} {locs : List Loc} {cells slots : Nat} {Q : State → Prop}
variable {cc : ByteArray} {pc nL : Nat} {ls : Array Slot} {rest st0 : List Value} {G : zG} {A : Nat → Prop} {I : List Nat} {ad : Nat → Nat} {ct : Nat → va_E}
theorem z_i2lw (hx : p.tables.exec = Jvm.exec) (hb : c.code = cc) {a : Int} (hdg : decode cc pc = .ok (.i2l, 1))
    (kk : W p l e R s m args below meth c H locs cells slots Q (F0 m (pc + 1) ls (zl (zwp a) :: rest))) : W p l e R s m args below meth c H locs cells slots Q (F0 m pc ls (zi a :: rest)) :=
  lv_i2l hx hb hdg (zwp_l a) kk
theorem z_ofWH {y : MethodName} {ws ws' : List Cond} {fr lo mc ms : Nat} {av : List Value} {thr : String → Prop} {sz : Nat} {post : Option Value → zT → Prop} {ret : Option FieldType} {hh : List (Nat × Nat × Nat × Nat)} (hl : l.stackTraces = false) (hy : plainName y.cls = true) (hw : ws = Cond.codeWith y cc nL ret hh :: ws') (hn : (lg_sl av).length ≤ nL)
    (body : ∀ (p : Program) (e : Env) (s : State) (m : MethodId) (args : Array Value) (below : List Frame) (meth : Method) (c : Code) (A : Nat → Prop) (ls : Array Slot), A = zA I ad sz → s.heap.size = sz → zF l p m c cc nL s args ws y.cls meth G A → meth.sig.returnType = ret → c.exceptionTable.toList = tableOf hh → zW G A s.heap s.heap [] I ad ct → lv_has ls nL (lv_args 0 av) →
      W p l e { frames := fr, cells := mc, slots := ms, locals := lo } s m args below meth c s.heap [] 0 0 (vx_MQ below (zQ G A ad post) (zX G A I ad ct thr) args s mc ms A) (F0 m 0 ls [])) : zN l y ws fr lo mc ms G av I ad ct thr sz post := by
  refine vx_ofWH hy hw ?_
  intro p e s m args below meth c s₁ B hml hP
  obtain ⟨rfl, hsz, hin, hK⟩ := hP
  subst hsz
  have h0 := lv_entry av (n := nL) hn
  rw [lg_entry_eq]
  have hts : ∀ w ∈ ws, w.before av.toArray s = true := atoms_spec (ws := ws) B.pre
  refine body p e s m _ below meth c (zA I ad s.heap.size) _ rfl rfl ⟨B.exec, B.bytes, hml, findClass_of_methodNamed B.named, hts, hK, B.notSynchronized, hl⟩ B.returns (vx_table (x := y) B (hts _ (by rw [hw]; exact List.mem_cons_self))) ?_ h0
  exact ⟨hin, fun k hk => Or.inl ⟨k, hk, rfl⟩, va_S.rf, fun q hq => Or.inr hq⟩
theorem z_ofWHa {y : MethodName} {ws ws' : List Cond} {fr lo mc ms : Nat} {av : List Value} {thr : String → Prop} {sz : Nat} {E : State → Prop} {post : Option Value → List Nat → (Nat → Nat) → (Nat → va_E) → Prop} {ret : Option FieldType} {hh : List (Nat × Nat × Nat × Nat)} (hl : l.stackTraces = false) (hy : plainName y.cls = true) (hw : ws = Cond.codeWith y cc nL ret hh :: ws') (hn : (lg_sl av).length ≤ nL)
    (body : ∀ (p : Program) (e : Env) (s : State) (m : MethodId) (args : Array Value) (below : List Frame) (meth : Method) (c : Code) (A : Nat → Prop) (ls : Array Slot), A = zA I ad sz → s.heap.size = sz → zF l p m c cc nL s args ws y.cls meth G A → meth.sig.returnType = ret → c.exceptionTable.toList = tableOf hh → zW G A s.heap s.heap [] I ad ct → lv_has ls nL (lv_args 0 av) → E s →
      W p l e { frames := fr, cells := mc, slots := ms, locals := lo } s m args below meth c s.heap [] 0 0 (vx_MQ below (zQa G A I ad post) (zX G A I ad ct thr) args s mc ms A) (F0 m 0 ls [])) : zNa l y ws fr lo mc ms G av I ad ct thr sz E post := by
  refine vx_ofWH hy hw ?_
  intro p e s m args below meth c s₁ B hml hP
  obtain ⟨⟨rfl, hsz, hin, hK⟩, hE⟩ := hP
  subst hsz
  have h0 := lv_entry av (n := nL) hn
  rw [lg_entry_eq]
  have hts : ∀ w ∈ ws, w.before av.toArray s = true := atoms_spec (ws := ws) B.pre
  refine body p e s m _ below meth c (zA I ad s.heap.size) _ rfl rfl ⟨B.exec, B.bytes, hml, findClass_of_methodNamed B.named, hts, hK, B.notSynchronized, hl⟩ B.returns (vx_table (x := y) B (hts _ (by rw [hw]; exact List.mem_cons_self))) ?_ h0 hE
  exact ⟨hin, fun k hk => Or.inl ⟨k, hk, rfl⟩, va_S.rf, fun q hq => Or.inr hq⟩
variable {y : MethodName} {bytes : ByteArray} {maxL mc ms fr lo n index : Nat} {ret : Option FieldType} {ws : List Cond} {thr : String → Prop} {post : Option Value → zT → Prop} {Ts : List Cond} {own : String} {As : List Value}
theorem z_runSW {hh : List (Nat × Nat × Nat × Nat)} (S : CallFix p m c cc nL s args Ts own) (hK : zK G A s s.heap) (hw : zW G A s.heap H locs I ad ct) (hM : zN l y ws fr lo mc ms G As I ad ct thr H.size post) (cw : vx_CSW R s args own index y bytes maxL ret hh ws { frames := fr, cells := mc, slots := ms, locals := lo } mc ms n)
    (hn : As.length = n) (hls : ls.size = nL) (hst : st0 = As.reverse ++ rest) (hW : (rest.map fun v => v.category).sum ≤ 8) (hdg : decode cc pc = .ok (.invokestatic index, 3)) (hf : cells + mc ≤ R.cells ∧ slots + ms ≤ R.slots) : zRun p l e R s m args below meth c H locs cells slots mc ms (F0 m pc ls st0) rest G I ad ct thr post :=
  ⟨_, vx_runSX S hM cw (zPre hK hw As) rfl hn hls hst (lv_room hW) hdg hf⟩
theorem z_runSWa {E : State → Prop} {post : Option Value → List Nat → (Nat → Nat) → (Nat → va_E) → Prop} {hh : List (Nat × Nat × Nat × Nat)} (S : CallFix p m c cc nL s args Ts own) (hM : zNa l y ws fr lo mc ms G As I ad ct thr H.size E post) (hp : PreS s H (fun a U => zPc G As I ad ct H.size a U ∧ E U) As) (cw : vx_CSW R s args own index y bytes maxL ret hh ws { frames := fr, cells := mc, slots := ms, locals := lo } mc ms n)
    (hn : As.length = n) (hls : ls.size = nL) (hst : st0 = As.reverse ++ rest) (hW : (rest.map fun v => v.category).sum ≤ 8) (hdg : decode cc pc = .ok (.invokestatic index, 3)) (hf : cells + mc ≤ R.cells ∧ slots + ms ≤ R.slots) : zRunA p l e R s m args below meth c H locs cells slots mc ms (F0 m pc ls st0) rest G I ad ct thr post :=
  ⟨_, vx_runSX S hM cw hp rfl hn hls hst (lv_room hW) hdg hf⟩
end ZY
