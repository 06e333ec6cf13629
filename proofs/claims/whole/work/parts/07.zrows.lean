/-! one row an instruction, over whole numbers -/
section ZR
variable {p : Program} {l : Launch} {e : Env} {R : Room} {s : State} {m : MethodId} {args : Array Value} {below : List Frame} {meth : Method} {c : Code} {H : Heap} {locs : List Loc} {cells slots : Nat} {Q : State → Prop}
variable {cc : ByteArray} {pc : Nat} {ls : Array Slot} {rest : List Value}
theorem z_ic (hx : p.tables.exec = Jvm.exec) (hb : c.code = cc) {n : Int} (hdg : decode cc pc = .ok (.iconst n, 1)) (k : W p l e R s m args below meth c H locs cells slots Q (F0 m (pc + 1) ls (zi n :: rest))) : W p l e R s m args below meth c H locs cells slots Q (F0 m pc ls rest) := lv_iconst hx hb hdg rfl k
theorem z_bi (hx : p.tables.exec = Jvm.exec) (hb : c.code = cc) {n : Int} (hdg : decode cc pc = .ok (.bipush n, 2)) (hv : (Int8.ofInt n).toInt32 = Int32.ofInt n) (k : W p l e R s m args below meth c H locs cells slots Q (F0 m (pc + 2) ls (zi n :: rest))) : W p l e R s m args below meth c H locs cells slots Q (F0 m pc ls rest) := lv_bipush hx hb hdg hv k
theorem z_si (hx : p.tables.exec = Jvm.exec) (hb : c.code = cc) {n : Int} (hdg : decode cc pc = .ok (.sipush n, 3)) (hv : (Int16.ofInt n).toInt32 = Int32.ofInt n) (k : W p l e R s m args below meth c H locs cells slots Q (F0 m (pc + 3) ls (zi n :: rest))) : W p l e R s m args below meth c H locs cells slots Q (F0 m pc ls rest) := lv_sipush hx hb hdg hv k
theorem z_lc0 (hx : p.tables.exec = Jvm.exec) (hb : c.code = cc) (hdg : decode cc pc = .ok (.lconst 0, 1)) (k : W p l e R s m args below meth c H locs cells slots Q (F0 m (pc + 1) ls (zl 0 :: rest))) : W p l e R s m args below meth c H locs cells slots Q (F0 m pc ls rest) := lv_lconst hx hb hdg rfl k
theorem z_lc1 (hx : p.tables.exec = Jvm.exec) (hb : c.code = cc) (hdg : decode cc pc = .ok (.lconst 1, 1)) (k : W p l e R s m args below meth c H locs cells slots Q (F0 m (pc + 1) ls (zl 1 :: rest))) : W p l e R s m args below meth c H locs cells slots Q (F0 m pc ls rest) := lv_lconst hx hb hdg rfl k
theorem z_ldc (hx : p.tables.exec = Jvm.exec) (hb : c.code = cc) {own : String} {index : Nat} {v : Int32} {n : Int} (hown : s.vm.findClass own = some m.cls) (hc : (Jvm.Cond.constant own index v).before args s = true) (hv : v = Int32.ofInt n) (hdg : decode cc pc = .ok (.ldc index, 2)) (k : W p l e R s m args below meth c H locs cells slots Q (F0 m (pc + 2) ls (zi n :: rest))) : W p l e R s m args below meth c H locs cells slots Q (F0 m pc ls rest) := by
  subst hv; exact lv_ldc hx hb hown hc hdg k
theorem z_ldc2 (hx : p.tables.exec = Jvm.exec) (hb : c.code = cc) {own : String} {index : Nat} {v : Int64} {n : Int} (hown : s.vm.findClass own = some m.cls) (hc : (Jvm.Cond.constantLong own index v).before args s = true) (hv : v = Int64.ofInt n) (hdg : decode cc pc = .ok (.ldc2_w index, 3)) (k : W p l e R s m args below meth c H locs cells slots Q (F0 m (pc + 3) ls (zl n :: rest))) : W p l e R s m args below meth c H locs cells slots Q (F0 m pc ls rest) := by
  subst hv; exact lv_ldc2 hx hb hown hc hdg k
theorem z_iinc (hx : p.tables.exec = Jvm.exec) (hb : c.code = cc) {i nL k : Nat} {n z : Int} {lv lv' : List (Nat × Value)} (hdg : decode cc pc = .ok (.iinc i n, 3)) (h : lv_has ls nL lv) (hk : lv[k]? = some (i, zi z)) (hn : i < nL) (hl : (i, zi (z + n)) :: lv.filter (fun q => !(q.1 == i) && !(q.1 + 1 == i && q.2.category == 2)) = lv')
    (kk : ∀ ls' : Array Slot, lv_has ls' nL lv' → W p l e R s m args below meth c H locs cells slots Q (F0 m (pc + 3) ls' rest)) : W p l e R s m args below meth c H locs cells slots Q (F0 m pc ls rest) :=
  lv_iinc hx hb hdg h hk (Int32.ofInt_add z n).symm hn hl kk
theorem z_iadd (hx : p.tables.exec = Jvm.exec) (hb : c.code = cc) {a b : Int} (hdg : decode cc pc = .ok (.iadd, 1)) (k : W p l e R s m args below meth c H locs cells slots Q (F0 m (pc + 1) ls (zi (a + b) :: rest))) : W p l e R s m args below meth c H locs cells slots Q (F0 m pc ls (zi b :: zi a :: rest)) := lv_iadd hx hb hdg (by rw [← Int32.ofInt_add]; exact k)
theorem z_isub (hx : p.tables.exec = Jvm.exec) (hb : c.code = cc) {a b : Int} (hdg : decode cc pc = .ok (.isub, 1)) (k : W p l e R s m args below meth c H locs cells slots Q (F0 m (pc + 1) ls (zi (a - b) :: rest))) : W p l e R s m args below meth c H locs cells slots Q (F0 m pc ls (zi b :: zi a :: rest)) := lv_isub hx hb hdg (by rw [← Int32.ofInt_sub]; exact k)
theorem z_imul (hx : p.tables.exec = Jvm.exec) (hb : c.code = cc) {a b : Int} (hdg : decode cc pc = .ok (.imul, 1)) (k : W p l e R s m args below meth c H locs cells slots Q (F0 m (pc + 1) ls (zi (a * b) :: rest))) : W p l e R s m args below meth c H locs cells slots Q (F0 m pc ls (zi b :: zi a :: rest)) := lv_imul hx hb hdg (by rw [← Int32.ofInt_mul]; exact k)
theorem z_ineg (hx : p.tables.exec = Jvm.exec) (hb : c.code = cc) {a : Int} (hdg : decode cc pc = .ok (.ineg, 1)) (k : W p l e R s m args below meth c H locs cells slots Q (F0 m (pc + 1) ls (zi (-a) :: rest))) : W p l e R s m args below meth c H locs cells slots Q (F0 m pc ls (zi a :: rest)) := lv_ineg hx hb hdg (by rw [← Int32.ofInt_neg]; exact k)
theorem z_idiv (hx : p.tables.exec = Jvm.exec) (hb : c.code = cc) {a b : Int} (hdg : decode cc pc = .ok (.idiv, 1)) (ha : zr a) (hb2 : zr b) (h0 : b ≠ 0) (k : W p l e R s m args below meth c H locs cells slots Q (F0 m (pc + 1) ls (zi (a.tdiv b) :: rest))) : W p l e R s m args below meth c H locs cells slots Q (F0 m pc ls (zi b :: zi a :: rest)) :=
  lv_idiv hx hb hdg (fun h => h0 ((zi_eq hb2 zr_0).mp h)) (by rw [zi_div ha hb2]; exact k)
theorem z_ladd (hx : p.tables.exec = Jvm.exec) (hb : c.code = cc) {a b : Int} (hdg : decode cc pc = .ok (.ladd, 1)) (k : W p l e R s m args below meth c H locs cells slots Q (F0 m (pc + 1) ls (zl (a + b) :: rest))) : W p l e R s m args below meth c H locs cells slots Q (F0 m pc ls (zl b :: zl a :: rest)) := lv_ladd hx hb hdg (by rw [← Int64.ofInt_add]; exact k)
theorem z_lsub (hx : p.tables.exec = Jvm.exec) (hb : c.code = cc) {a b : Int} (hdg : decode cc pc = .ok (.lsub, 1)) (k : W p l e R s m args below meth c H locs cells slots Q (F0 m (pc + 1) ls (zl (a - b) :: rest))) : W p l e R s m args below meth c H locs cells slots Q (F0 m pc ls (zl b :: zl a :: rest)) := lv_lsub hx hb hdg (by rw [← Int64.ofInt_sub]; exact k)
theorem z_lmul (hx : p.tables.exec = Jvm.exec) (hb : c.code = cc) {a b : Int} (hdg : decode cc pc = .ok (.lmul, 1)) (k : W p l e R s m args below meth c H locs cells slots Q (F0 m (pc + 1) ls (zl (a * b) :: rest))) : W p l e R s m args below meth c H locs cells slots Q (F0 m pc ls (zl b :: zl a :: rest)) := lv_lmul hx hb hdg (by rw [← Int64.ofInt_mul]; exact k)
theorem z_lneg (hx : p.tables.exec = Jvm.exec) (hb : c.code = cc) {a : Int} (hdg : decode cc pc = .ok (.lneg, 1)) (k : W p l e R s m args below meth c H locs cells slots Q (F0 m (pc + 1) ls (zl (-a) :: rest))) : W p l e R s m args below meth c H locs cells slots Q (F0 m pc ls (zl a :: rest)) := lv_lneg hx hb hdg (by rw [← Int64.ofInt_neg]; exact k)
theorem z_ldiv (hx : p.tables.exec = Jvm.exec) (hb : c.code = cc) {a b : Int} (hdg : decode cc pc = .ok (.ldiv, 1)) (ha : zR a) (hb2 : zR b) (h0 : b ≠ 0) (k : W p l e R s m args below meth c H locs cells slots Q (F0 m (pc + 1) ls (zl (a.tdiv b) :: rest))) : W p l e R s m args below meth c H locs cells slots Q (F0 m pc ls (zl b :: zl a :: rest)) :=
  lv_ldiv hx hb hdg (fun h => h0 ((zl_eq hb2 (show zR 0 from ⟨by omega, by omega⟩)).mp h)) (by rw [zl_div ha hb2]; exact k)
theorem z_i2l (hx : p.tables.exec = Jvm.exec) (hb : c.code = cc) {a : Int} (hdg : decode cc pc = .ok (.i2l, 1)) (ha : zr a) (k : W p l e R s m args below meth c H locs cells slots Q (F0 m (pc + 1) ls (zl a :: rest))) : W p l e R s m args below meth c H locs cells slots Q (F0 m pc ls (zi a :: rest)) := lv_i2l hx hb hdg (zi_i2l ha) k
theorem z_l2i (hx : p.tables.exec = Jvm.exec) (hb : c.code = cc) {a : Int} (hdg : decode cc pc = .ok (.l2i, 1)) (ha : zR a) (k : W p l e R s m args below meth c H locs cells slots Q (F0 m (pc + 1) ls (zi a :: rest))) : W p l e R s m args below meth c H locs cells slots Q (F0 m pc ls (zl a :: rest)) := lv_l2i hx hb hdg (zi_l2i ha) k
theorem z_icmp_lt (hx : p.tables.exec = Jvm.exec) (hb : c.code = cc) {a b : Int} {off : Int} {tgt : Nat} (hdg : decode cc pc = .ok (.if_icmp .lt off, 3)) (ht : (pc : Int) + off = (tgt : Int)) (ha : zr a) (hb2 : zr b)
    (kt : a < b → W p l e R s m args below meth c H locs cells slots Q (F0 m tgt ls rest)) (kf : ¬ (a < b) → W p l e R s m args below meth c H locs cells slots Q (F0 m (pc + 3) ls rest)) : W p l e R s m args below meth c H locs cells slots Q (F0 m pc ls (zi b :: zi a :: rest)) :=
  lv_icmp_lt hx hb hdg ht (fun h => kt ((zi_lt ha hb2).mp h)) (fun h => kf (fun q => h ((zi_lt ha hb2).mpr q)))
theorem z_icmp_ge (hx : p.tables.exec = Jvm.exec) (hb : c.code = cc) {a b : Int} {off : Int} {tgt : Nat} (hdg : decode cc pc = .ok (.if_icmp .ge off, 3)) (ht : (pc : Int) + off = (tgt : Int)) (ha : zr a) (hb2 : zr b)
    (kt : b ≤ a → W p l e R s m args below meth c H locs cells slots Q (F0 m tgt ls rest)) (kf : ¬ (b ≤ a) → W p l e R s m args below meth c H locs cells slots Q (F0 m (pc + 3) ls rest)) : W p l e R s m args below meth c H locs cells slots Q (F0 m pc ls (zi b :: zi a :: rest)) :=
  lv_icmp_ge hx hb hdg ht (fun h => kt ((zi_le hb2 ha).mp h)) (fun h => kf (fun q => h ((zi_le hb2 ha).mpr q)))
theorem z_icmp_gt (hx : p.tables.exec = Jvm.exec) (hb : c.code = cc) {a b : Int} {off : Int} {tgt : Nat} (hdg : decode cc pc = .ok (.if_icmp .gt off, 3)) (ht : (pc : Int) + off = (tgt : Int)) (ha : zr a) (hb2 : zr b)
    (kt : b < a → W p l e R s m args below meth c H locs cells slots Q (F0 m tgt ls rest)) (kf : ¬ (b < a) → W p l e R s m args below meth c H locs cells slots Q (F0 m (pc + 3) ls rest)) : W p l e R s m args below meth c H locs cells slots Q (F0 m pc ls (zi b :: zi a :: rest)) :=
  lv_icmp_gt hx hb hdg ht (fun h => kt ((zi_lt hb2 ha).mp h)) (fun h => kf (fun q => h ((zi_lt hb2 ha).mpr q)))
theorem z_icmp_le (hx : p.tables.exec = Jvm.exec) (hb : c.code = cc) {a b : Int} {off : Int} {tgt : Nat} (hdg : decode cc pc = .ok (.if_icmp .le off, 3)) (ht : (pc : Int) + off = (tgt : Int)) (ha : zr a) (hb2 : zr b)
    (kt : a ≤ b → W p l e R s m args below meth c H locs cells slots Q (F0 m tgt ls rest)) (kf : ¬ (a ≤ b) → W p l e R s m args below meth c H locs cells slots Q (F0 m (pc + 3) ls rest)) : W p l e R s m args below meth c H locs cells slots Q (F0 m pc ls (zi b :: zi a :: rest)) :=
  lv_icmp_le hx hb hdg ht (fun h => kt ((zi_le ha hb2).mp h)) (fun h => kf (fun q => h ((zi_le ha hb2).mpr q)))
theorem z_icmp_eq (hx : p.tables.exec = Jvm.exec) (hb : c.code = cc) {a b : Int} {off : Int} {tgt : Nat} (hdg : decode cc pc = .ok (.if_icmp .eq off, 3)) (ht : (pc : Int) + off = (tgt : Int)) (ha : zr a) (hb2 : zr b)
    (kt : a = b → W p l e R s m args below meth c H locs cells slots Q (F0 m tgt ls rest)) (kf : ¬ (a = b) → W p l e R s m args below meth c H locs cells slots Q (F0 m (pc + 3) ls rest)) : W p l e R s m args below meth c H locs cells slots Q (F0 m pc ls (zi b :: zi a :: rest)) :=
  lv_icmp_eq hx hb hdg ht (fun h => kt ((zi_eq ha hb2).mp h)) (fun h => kf (fun q => h ((zi_eq ha hb2).mpr q)))
theorem z_icmp_ne (hx : p.tables.exec = Jvm.exec) (hb : c.code = cc) {a b : Int} {off : Int} {tgt : Nat} (hdg : decode cc pc = .ok (.if_icmp .ne off, 3)) (ht : (pc : Int) + off = (tgt : Int)) (ha : zr a) (hb2 : zr b)
    (kt : a ≠ b → W p l e R s m args below meth c H locs cells slots Q (F0 m tgt ls rest)) (kf : a = b → W p l e R s m args below meth c H locs cells slots Q (F0 m (pc + 3) ls rest)) : W p l e R s m args below meth c H locs cells slots Q (F0 m pc ls (zi b :: zi a :: rest)) :=
  lv_icmp_ne hx hb hdg ht (fun h => kt (fun q => h (by rw [q]))) (fun h => kf ((zi_eq ha hb2).mp h))
theorem z_if_lt (hx : p.tables.exec = Jvm.exec) (hb : c.code = cc) {a : Int} {off : Int} {tgt : Nat} (hdg : decode cc pc = .ok (.ifCond .lt off, 3)) (ht : (pc : Int) + off = (tgt : Int)) (ha : zr a)
    (kt : a < 0 → W p l e R s m args below meth c H locs cells slots Q (F0 m tgt ls rest)) (kf : ¬ (a < 0) → W p l e R s m args below meth c H locs cells slots Q (F0 m (pc + 3) ls rest)) : W p l e R s m args below meth c H locs cells slots Q (F0 m pc ls (zi a :: rest)) :=
  lv_if_lt hx hb hdg ht (fun h => kt ((zi_lt ha zr_0).mp h)) (fun h => kf (fun q => h ((zi_lt ha zr_0).mpr q)))
theorem z_if_ge (hx : p.tables.exec = Jvm.exec) (hb : c.code = cc) {a : Int} {off : Int} {tgt : Nat} (hdg : decode cc pc = .ok (.ifCond .ge off, 3)) (ht : (pc : Int) + off = (tgt : Int)) (ha : zr a)
    (kt : 0 ≤ a → W p l e R s m args below meth c H locs cells slots Q (F0 m tgt ls rest)) (kf : ¬ (0 ≤ a) → W p l e R s m args below meth c H locs cells slots Q (F0 m (pc + 3) ls rest)) : W p l e R s m args below meth c H locs cells slots Q (F0 m pc ls (zi a :: rest)) :=
  lv_if_ge hx hb hdg ht (fun h => kt ((zi_le zr_0 ha).mp h)) (fun h => kf (fun q => h ((zi_le zr_0 ha).mpr q)))
theorem z_if_gt (hx : p.tables.exec = Jvm.exec) (hb : c.code = cc) {a : Int} {off : Int} {tgt : Nat} (hdg : decode cc pc = .ok (.ifCond .gt off, 3)) (ht : (pc : Int) + off = (tgt : Int)) (ha : zr a)
    (kt : 0 < a → W p l e R s m args below meth c H locs cells slots Q (F0 m tgt ls rest)) (kf : ¬ (0 < a) → W p l e R s m args below meth c H locs cells slots Q (F0 m (pc + 3) ls rest)) : W p l e R s m args below meth c H locs cells slots Q (F0 m pc ls (zi a :: rest)) :=
  lv_if_gt hx hb hdg ht (fun h => kt ((zi_lt zr_0 ha).mp h)) (fun h => kf (fun q => h ((zi_lt zr_0 ha).mpr q)))
theorem z_if_le (hx : p.tables.exec = Jvm.exec) (hb : c.code = cc) {a : Int} {off : Int} {tgt : Nat} (hdg : decode cc pc = .ok (.ifCond .le off, 3)) (ht : (pc : Int) + off = (tgt : Int)) (ha : zr a)
    (kt : a ≤ 0 → W p l e R s m args below meth c H locs cells slots Q (F0 m tgt ls rest)) (kf : ¬ (a ≤ 0) → W p l e R s m args below meth c H locs cells slots Q (F0 m (pc + 3) ls rest)) : W p l e R s m args below meth c H locs cells slots Q (F0 m pc ls (zi a :: rest)) :=
  lv_if_le hx hb hdg ht (fun h => kt ((zi_le ha zr_0).mp h)) (fun h => kf (fun q => h ((zi_le ha zr_0).mpr q)))
theorem z_if_eq (hx : p.tables.exec = Jvm.exec) (hb : c.code = cc) {a : Int} {off : Int} {tgt : Nat} (hdg : decode cc pc = .ok (.ifCond .eq off, 3)) (ht : (pc : Int) + off = (tgt : Int)) (ha : zr a)
    (kt : a = 0 → W p l e R s m args below meth c H locs cells slots Q (F0 m tgt ls rest)) (kf : ¬ (a = 0) → W p l e R s m args below meth c H locs cells slots Q (F0 m (pc + 3) ls rest)) : W p l e R s m args below meth c H locs cells slots Q (F0 m pc ls (zi a :: rest)) :=
  lv_if_eq hx hb hdg ht (fun h => kt ((zi_eq ha zr_0).mp h)) (fun h => kf (fun q => h ((zi_eq ha zr_0).mpr q)))
theorem z_if_ne (hx : p.tables.exec = Jvm.exec) (hb : c.code = cc) {a : Int} {off : Int} {tgt : Nat} (hdg : decode cc pc = .ok (.ifCond .ne off, 3)) (ht : (pc : Int) + off = (tgt : Int)) (ha : zr a)
    (kt : a ≠ 0 → W p l e R s m args below meth c H locs cells slots Q (F0 m tgt ls rest)) (kf : a = 0 → W p l e R s m args below meth c H locs cells slots Q (F0 m (pc + 3) ls rest)) : W p l e R s m args below meth c H locs cells slots Q (F0 m pc ls (zi a :: rest)) :=
  lv_if_ne hx hb hdg ht (fun h => kt (fun q => h (by rw [q]; rfl))) (fun h => kf ((zi_eq ha zr_0).mp h))
theorem z_lcmp_lt (hx : p.tables.exec = Jvm.exec) (hb : c.code = cc) {a b : Int} {off : Int} {tgt : Nat} (hd0 : decode cc pc = .ok (.lcmp, 1)) (hdg : decode cc (pc + 1) = .ok (.ifCond .lt off, 3)) (ht : ((pc + 1 : Nat) : Int) + off = (tgt : Int)) (ha : zR a) (hb2 : zR b)
    (kt : a < b → W p l e R s m args below meth c H locs cells slots Q (F0 m tgt ls rest)) (kf : ¬ (a < b) → W p l e R s m args below meth c H locs cells slots Q (F0 m (pc + 4) ls rest)) : W p l e R s m args below meth c H locs cells slots Q (F0 m pc ls (zl b :: zl a :: rest)) :=
  W.lcmp hx hb hd0 (lv_if_lt hx hb hdg ht (fun h => kt ((zl_lt ha hb2).mp ((lg_cmp_lt _ _).mp h))) (fun h => kf (fun q => h ((lg_cmp_lt _ _).mpr ((zl_lt ha hb2).mpr q)))))
theorem z_lcmp_ge (hx : p.tables.exec = Jvm.exec) (hb : c.code = cc) {a b : Int} {off : Int} {tgt : Nat} (hd0 : decode cc pc = .ok (.lcmp, 1)) (hdg : decode cc (pc + 1) = .ok (.ifCond .ge off, 3)) (ht : ((pc + 1 : Nat) : Int) + off = (tgt : Int)) (ha : zR a) (hb2 : zR b)
    (kt : b ≤ a → W p l e R s m args below meth c H locs cells slots Q (F0 m tgt ls rest)) (kf : ¬ (b ≤ a) → W p l e R s m args below meth c H locs cells slots Q (F0 m (pc + 4) ls rest)) : W p l e R s m args below meth c H locs cells slots Q (F0 m pc ls (zl b :: zl a :: rest)) :=
  W.lcmp hx hb hd0 (lv_if_ge hx hb hdg ht (fun h => kt ((zl_le hb2 ha).mp ((lg_cmp_ge _ _).mp h))) (fun h => kf (fun q => h ((lg_cmp_ge _ _).mpr ((zl_le hb2 ha).mpr q)))))
theorem z_lcmp_gt (hx : p.tables.exec = Jvm.exec) (hb : c.code = cc) {a b : Int} {off : Int} {tgt : Nat} (hd0 : decode cc pc = .ok (.lcmp, 1)) (hdg : decode cc (pc + 1) = .ok (.ifCond .gt off, 3)) (ht : ((pc + 1 : Nat) : Int) + off = (tgt : Int)) (ha : zR a) (hb2 : zR b)
    (kt : b < a → W p l e R s m args below meth c H locs cells slots Q (F0 m tgt ls rest)) (kf : ¬ (b < a) → W p l e R s m args below meth c H locs cells slots Q (F0 m (pc + 4) ls rest)) : W p l e R s m args below meth c H locs cells slots Q (F0 m pc ls (zl b :: zl a :: rest)) :=
  W.lcmp hx hb hd0 (lv_if_gt hx hb hdg ht (fun h => kt ((zl_lt hb2 ha).mp ((lg_cmp_gt _ _).mp h))) (fun h => kf (fun q => h ((lg_cmp_gt _ _).mpr ((zl_lt hb2 ha).mpr q)))))
theorem z_lcmp_le (hx : p.tables.exec = Jvm.exec) (hb : c.code = cc) {a b : Int} {off : Int} {tgt : Nat} (hd0 : decode cc pc = .ok (.lcmp, 1)) (hdg : decode cc (pc + 1) = .ok (.ifCond .le off, 3)) (ht : ((pc + 1 : Nat) : Int) + off = (tgt : Int)) (ha : zR a) (hb2 : zR b)
    (kt : a ≤ b → W p l e R s m args below meth c H locs cells slots Q (F0 m tgt ls rest)) (kf : ¬ (a ≤ b) → W p l e R s m args below meth c H locs cells slots Q (F0 m (pc + 4) ls rest)) : W p l e R s m args below meth c H locs cells slots Q (F0 m pc ls (zl b :: zl a :: rest)) :=
  W.lcmp hx hb hd0 (lv_if_le hx hb hdg ht (fun h => kt ((zl_le ha hb2).mp ((lg_cmp_le _ _).mp h))) (fun h => kf (fun q => h ((lg_cmp_le _ _).mpr ((zl_le ha hb2).mpr q)))))
theorem z_lcmp_eq (hx : p.tables.exec = Jvm.exec) (hb : c.code = cc) {a b : Int} {off : Int} {tgt : Nat} (hd0 : decode cc pc = .ok (.lcmp, 1)) (hdg : decode cc (pc + 1) = .ok (.ifCond .eq off, 3)) (ht : ((pc + 1 : Nat) : Int) + off = (tgt : Int)) (ha : zR a) (hb2 : zR b)
    (kt : a = b → W p l e R s m args below meth c H locs cells slots Q (F0 m tgt ls rest)) (kf : ¬ (a = b) → W p l e R s m args below meth c H locs cells slots Q (F0 m (pc + 4) ls rest)) : W p l e R s m args below meth c H locs cells slots Q (F0 m pc ls (zl b :: zl a :: rest)) :=
  W.lcmp hx hb hd0 (lv_if_eq hx hb hdg ht (fun h => kt ((zl_eq ha hb2).mp ((lg_cmp_eq _ _).mp h))) (fun h => kf (fun q => h ((lg_cmp_eq _ _).mpr ((zl_eq ha hb2).mpr q)))))
theorem z_lcmp_ne (hx : p.tables.exec = Jvm.exec) (hb : c.code = cc) {a b : Int} {off : Int} {tgt : Nat} (hd0 : decode cc pc = .ok (.lcmp, 1)) (hdg : decode cc (pc + 1) = .ok (.ifCond .ne off, 3)) (ht : ((pc + 1 : Nat) : Int) + off = (tgt : Int)) (ha : zR a) (hb2 : zR b)
    (kt : a ≠ b → W p l e R s m args below meth c H locs cells slots Q (F0 m tgt ls rest)) (kf : a = b → W p l e R s m args below meth c H locs cells slots Q (F0 m (pc + 4) ls rest)) : W p l e R s m args below meth c H locs cells slots Q (F0 m pc ls (zl b :: zl a :: rest)) :=
  W.lcmp hx hb hd0 (lv_if_ne hx hb hdg ht (fun h => kt (fun q => h ((lg_cmp_eq _ _).mpr ((zl_eq ha hb2).mpr q)))) (fun h => kf ((zl_eq ha hb2).mp ((lg_cmp_eq _ _).mp h))))
theorem zb_1 {c : Prop} [Decidable c] (h : c) : Int32.ofInt (zb c) = 1 := by rw [show zb c = 1 from if_pos h]; rfl
theorem zb_0 {c : Prop} [Decidable c] (h : ¬ c) : Int32.ofInt (zb c) = 0 := by rw [show zb c = 0 from if_neg h]; rfl
theorem z_ifb_eq (hx : p.tables.exec = Jvm.exec) (hb : c.code = cc) {c2 : Prop} {hd : Decidable c2} {off : Int} {tgt : Nat} (hdg : decode cc pc = .ok (.ifCond .eq off, 3)) (ht : (pc : Int) + off = (tgt : Int))
    (kt : ¬ c2 → W p l e R s m args below meth c H locs cells slots Q (F0 m tgt ls rest)) (kf : c2 → W p l e R s m args below meth c H locs cells slots Q (F0 m (pc + 3) ls rest)) : W p l e R s m args below meth c H locs cells slots Q (F0 m pc ls (zi (zb c2) :: rest)) :=
  lv_if_eq hx hb hdg ht (fun h => kt (fun q => by rw [zb_1 q] at h; exact absurd h (by decide))) (fun h => kf (Decidable.byContradiction fun q => h (zb_0 q)))
theorem z_ifb_ne (hx : p.tables.exec = Jvm.exec) (hb : c.code = cc) {c2 : Prop} {hd : Decidable c2} {off : Int} {tgt : Nat} (hdg : decode cc pc = .ok (.ifCond .ne off, 3)) (ht : (pc : Int) + off = (tgt : Int))
    (kt : c2 → W p l e R s m args below meth c H locs cells slots Q (F0 m tgt ls rest)) (kf : ¬ c2 → W p l e R s m args below meth c H locs cells slots Q (F0 m (pc + 3) ls rest)) : W p l e R s m args below meth c H locs cells slots Q (F0 m pc ls (zi (zb c2) :: rest)) :=
  lv_if_ne hx hb hdg ht (fun h => kt (Decidable.byContradiction fun q => h (zb_0 q))) (fun h => kf (fun q => by rw [zb_1 q] at h; exact absurd h (by decide)))
end ZR
section ZH
variable {p : Program} {l : Launch} {e : Env} {R : Room} {s : State} {m : MethodId} {args : Array Value} {below : List Frame} {meth : Method} {c : Code} {H : Heap} {locs : List Loc} {cells slots : Nat} {Q : State → Prop}
variable {cc : ByteArray} {pc : Nat} {ls : Array Slot} {rest : List Value} {G : zG} {A : Nat → Prop} {H0 : Heap} {I : List Nat} {ad : Nat → Nat} {ct : Nat → va_E}
theorem z_get (hx : p.tables.exec = Jvm.exec) (hb : c.code = cc) {own ref C : String} {T : u_T} {N ci index : Nat} {Ts : List Cond} (hts : ∀ w ∈ Ts, w.before args s = true) (hin : ∀ w ∈ u_ws C T N, w ∈ Ts) (hown : s.vm.findClass own = some m.cls) (hK : zK G A s H0) (hw : zW G A H0 H locs I ad ct) {k : Nat} (hk : k ∈ I) {fs : List Value} (he : ct k = .inr (ci, fs)) (hc : vwCl[ci]? = some (C, T, N)) (j : Nat) (hj : j < N) (hlink : (Cond.fieldLink own index ref (T j).2.1 (T j).2.2.1).before args s = true) (href : (T j).1 = ref) {v : Value} (hv : fs[j]? = some v) (hdg : decode cc pc = .ok (.getfield index, 3))
    (kk : W p l e R s m args below meth c H locs cells slots Q (F0 m (pc + 3) ls (v :: rest))) : W p l e R s m args below meth c H locs cells slots Q (F0 m pc ls (.ref (ad k) :: rest)) :=
  va_get (D := G.1) (cl := vwCl) hx hb hts hin hown hK.1 (hw.1.one hk he) 0 rfl hc j hj hlink (fun x h => by rw [← href]; exact h) hv hdg kk
theorem z_put (hx : p.tables.exec = Jvm.exec) (hb : c.code = cc) {own ref C : String} {T : u_T} {N ci index : Nat} {Ts : List Cond} (hts : ∀ w ∈ Ts, w.before args s = true) (hin : ∀ w ∈ u_ws C T N, w ∈ Ts) {ty : Nat → FieldType} (hty : ∀ k, k < N → parseFieldDescriptor (T k).2.2.1 = some (ty k)) (hnm : ∀ a, a < N → ∀ b, b < N → a ≠ b → (T a).2.1 ≠ (T b).2.1) (hown : s.vm.findClass own = some m.cls) (hK : zK G A s H0) (hw : zW G A H0 H locs I ad ct) {k : Nat} (hk : k ∈ I) {fs : List Value} (he : ct k = .inr (ci, fs)) (hc : vwCl[ci]? = some (C, T, N)) (j : Nat) (hj : j < N) (hlink : (Cond.fieldLink own index ref (T j).2.1 (T j).2.2.1).before args s = true) (href : (T j).1 = ref) (hfin : (T j).2.2.2 = false) {v : Value} (hn : narrow (ty j) v = v) (hfit : fits (ty j) v = true) (hl : j < fs.length) {fs' : List Value} (hfs : fs.set j v = fs') (hdg : decode cc pc = .ok (.putfield index, 3))
    (kk : ∀ (H1 : Heap) (locs1 : List Loc), zW G A H0 H1 locs1 I ad (zU ct k (.inr (ci, fs'))) → W p l e R s m args below meth c H1 locs1 cells slots Q (F0 m (pc + 3) ls rest)) : W p l e R s m args below meth c H locs cells slots Q (F0 m pc ls (v :: .ref (ad k) :: rest)) := by
  obtain ⟨i, hi⟩ := List.getElem?_of_mem hk
  have hp := zws_of (ad := ad) (ct := ct) hi
  rw [he] at hp
  subst hfs
  exact va_put (D := G.1) (cl := vwCl) hx hb hts hin ty hty hnm hown hK.1 hw.1.1 (hw.1.D hw.2.1) hw.2.2.1 i hp hc j hj hlink (fun x h => by rw [← href]; exact h) hfin (hty j hj) hn hfit hl hdg (fun H1 locs1 hP hD hS => kk H1 locs1 (hw.put hi hP hS))
theorem z_putF (hx : p.tables.exec = Jvm.exec) (hb : c.code = cc) {own ref C : String} {T : u_T} {N ci index : Nat} {Ts : List Cond} (hts : ∀ w ∈ Ts, w.before args s = true) (hin : ∀ w ∈ u_ws C T N, w ∈ Ts) {ty : Nat → FieldType} (hty : ∀ k, k < N → parseFieldDescriptor (T k).2.2.1 = some (ty k)) (hnm : ∀ a, a < N → ∀ b, b < N → a ≠ b → (T a).2.1 ≠ (T b).2.1) (hown : s.vm.findClass own = some m.cls) (hK : zK G A s H0) (hw : zW G A H0 H locs I ad ct) {k : Nat} (hk : k ∈ I) {fs : List Value} (he : ct k = .inr (ci, fs)) (hc : vwCl[ci]? = some (C, T, N)) (j : Nat) (hj : j < N) (hlink : (Cond.fieldLink own index ref (T j).2.1 (T j).2.2.1).before args s = true) (href : (T j).1 = ref) (hfin : (T j).2.2.2 = true) (hin2 : meth.name = "<init>") (hdecl : (T j).1 = own) {v : Value} (hn : narrow (ty j) v = v) (hfit : fits (ty j) v = true) (hl : j < fs.length) {fs' : List Value} (hfs : fs.set j v = fs') (hdg : decode cc pc = .ok (.putfield index, 3))
    (kk : ∀ (H1 : Heap) (locs1 : List Loc), zW G A H0 H1 locs1 I ad (zU ct k (.inr (ci, fs'))) → W p l e R s m args below meth c H1 locs1 cells slots Q (F0 m (pc + 3) ls rest)) : W p l e R s m args below meth c H locs cells slots Q (F0 m pc ls (v :: .ref (ad k) :: rest)) := by
  obtain ⟨i, hi⟩ := List.getElem?_of_mem hk
  have hp := zws_of (ad := ad) (ct := ct) hi
  rw [he] at hp
  subst hfs
  exact va_putF (D := G.1) (cl := vwCl) hx hb hts hin ty hty hnm hown hK.1 hw.1.1 (hw.1.D hw.2.1) hw.2.2.1 i hp hc j hj hlink (fun x h => by rw [← href]; exact h) hfin hin2 hdecl (hty j hj) hn hfit hl hdg (fun H1 locs1 hP hD hS => kk H1 locs1 (hw.put hi hP hS))
theorem z_iald (hx : p.tables.exec = Jvm.exec) (hb : c.code = cc) (hK : zK G A s H0) (hw : zW G A H0 H locs I ad ct) {k : Nat} (hk : k ∈ I) {n : Nat} {f : Int → Int} (he : ct k = zI G n f) {i : Int} (h0 : 0 ≤ i) (h1 : i < n) (hn : n < 2147483648) (hdg : decode cc pc = .ok (.iaload, 1))
    (kk : W p l e R s m args below meth c H locs cells slots Q (F0 m (pc + 1) ls (zi (f i) :: rest))) : W p l e R s m args below meth c H locs cells slots Q (F0 m pc ls (zi i :: .ref (ad k) :: rest)) :=
  va_iald (D := G.1) (cl := vwCl) hx hb hK.1 (hw.1.one hk he) 0 0 rfl rfl (zi_ix h0 h1 hn) hdg (by rw [zat_i f h0 (by omega)]; exact kk)
theorem z_zald (hx : p.tables.exec = Jvm.exec) (hb : c.code = cc) (hK : zK G A s H0) (hw : zW G A H0 H locs I ad ct) {k : Nat} (hk : k ∈ I) {n : Nat} {f : Int → Int} (he : ct k = zZ G n f) {i : Int} (h0 : 0 ≤ i) (h1 : i < n) (hn : n < 2147483648) (hdg : decode cc pc = .ok (.baload, 1))
    (kk : W p l e R s m args below meth c H locs cells slots Q (F0 m (pc + 1) ls (zi (f i) :: rest))) : W p l e R s m args below meth c H locs cells slots Q (F0 m pc ls (zi i :: .ref (ad k) :: rest)) :=
  va_zald (D := G.1) (cl := vwCl) hx hb hK.1 (hw.1.one hk he) 0 2 rfl rfl (zi_ix h0 h1 hn) hdg (by rw [zat_i f h0 (by omega)]; exact kk)
theorem z_lald (hx : p.tables.exec = Jvm.exec) (hb : c.code = cc) (hK : zK G A s H0) (hw : zW G A H0 H locs I ad ct) {k : Nat} (hk : k ∈ I) {n : Nat} {f : Int → Int} (he : ct k = zL G n f) {i : Int} (h0 : 0 ≤ i) (h1 : i < n) (hn : n < 2147483648) (hdg : decode cc pc = .ok (.laload, 1))
    (kk : W p l e R s m args below meth c H locs cells slots Q (F0 m (pc + 1) ls (zl (f i) :: rest))) : W p l e R s m args below meth c H locs cells slots Q (F0 m pc ls (zi i :: .ref (ad k) :: rest)) :=
  va_lald (D := G.1) (cl := vwCl) hx hb hK.1 (hw.1.one hk he) 0 1 rfl rfl (zi_ix h0 h1 hn) hdg (by rw [zat_l f h0 (by omega)]; exact kk)
theorem z_aald (hx : p.tables.exec = Jvm.exec) (hb : c.code = cc) (hK : zK G A s H0) (hw : zW G A H0 H locs I ad ct) {k : Nat} (hk : k ∈ I) {n : Nat} {f : Int → Option Nat} (he : ct k = zP G n f) {i : Int} (h0 : 0 ≤ i) (h1 : i < n) (hn : n < 2147483648) {v : Value} (hv : va_rf (f i) = v) (hdg : decode cc pc = .ok (.aaload, 1))
    (kk : W p l e R s m args below meth c H locs cells slots Q (F0 m (pc + 1) ls (v :: rest))) : W p l e R s m args below meth c H locs cells slots Q (F0 m pc ls (zi i :: .ref (ad k) :: rest)) :=
  va_aldq (D := G.1) (cl := vwCl) (C := "PileMoves$Pile") hx hb hK.1 (hw.1.one hk he) 0 3 rfl rfl (zi_ix h0 h1 hn) hdg (by rw [zi_cl h0 (by omega), Int.toNat_of_nonneg h0, hv]; exact kk)
theorem z_iast (hx : p.tables.exec = Jvm.exec) (hb : c.code = cc) (hK : zK G A s H0) (hw : zW G A H0 H locs I ad ct) {k : Nat} (hk : k ∈ I) {n : Nat} {f : Int → Int} (he : ct k = zI G n f) {i v : Int} (h0 : 0 ≤ i) (h1 : i < n) (hn : n < 2147483648) (hdg : decode cc pc = .ok (.iastore, 1))
    (kk : ∀ (H1 : Heap) (locs1 : List Loc), zW G A H0 H1 locs1 I ad (zU ct k (zI G n (zup f i v))) → W p l e R s m args below meth c H1 locs1 cells slots Q (F0 m (pc + 1) ls rest)) : W p l e R s m args below meth c H locs cells slots Q (F0 m pc ls (zi v :: zi i :: .ref (ad k) :: rest)) := by
  obtain ⟨j, hj⟩ := List.getElem?_of_mem hk
  have hp := zws_of (ad := ad) (ct := ct) hj
  rw [he] at hp
  refine va_iast (D := G.1) (cl := vwCl) hx hb hK.1 hw.1.1 (hw.1.D hw.2.1) hw.2.2.1 j 0 hp rfl (zi_ix h0 h1 hn) hdg (fun H1 locs1 hP hD hS => ?_)
  rw [zup_i f v h0 (by omega)] at hP
  exact kk H1 locs1 (hw.put hj hP hS)
theorem z_zast (hx : p.tables.exec = Jvm.exec) (hb : c.code = cc) (hK : zK G A s H0) (hw : zW G A H0 H locs I ad ct) {k : Nat} (hk : k ∈ I) {n : Nat} {f : Int → Int} (he : ct k = zZ G n f) {i v : Int} (h0 : 0 ≤ i) (h1 : i < n) (hn : n < 2147483648) (hv : v = 0 ∨ v = 1) (hdg : decode cc pc = .ok (.bastore, 1))
    (kk : ∀ (H1 : Heap) (locs1 : List Loc), zW G A H0 H1 locs1 I ad (zU ct k (zZ G n (zup f i v))) → W p l e R s m args below meth c H1 locs1 cells slots Q (F0 m (pc + 1) ls rest)) : W p l e R s m args below meth c H locs cells slots Q (F0 m pc ls (zi v :: zi i :: .ref (ad k) :: rest)) := by
  obtain ⟨j, hj⟩ := List.getElem?_of_mem hk
  have hp := zws_of (ad := ad) (ct := ct) hj
  rw [he] at hp
  have hb2 : vp_nar .boolean (Int32.ofInt v) = Int32.ofInt v := by rcases hv with rfl | rfl <;> rfl
  refine va_zast (D := G.1) (cl := vwCl) hx hb hK.1 hw.1.1 (hw.1.D hw.2.1) hw.2.2.1 j 2 hp rfl (zi_ix h0 h1 hn) hdg (fun H1 locs1 hP hD hS => ?_)
  rw [hb2, zup_i f v h0 (by omega)] at hP
  exact kk H1 locs1 (hw.put hj hP hS)
theorem z_last (hx : p.tables.exec = Jvm.exec) (hb : c.code = cc) (hK : zK G A s H0) (hw : zW G A H0 H locs I ad ct) {k : Nat} (hk : k ∈ I) {n : Nat} {f : Int → Int} (he : ct k = zL G n f) {i v : Int} (h0 : 0 ≤ i) (h1 : i < n) (hn : n < 2147483648) (hdg : decode cc pc = .ok (.lastore, 1))
    (kk : ∀ (H1 : Heap) (locs1 : List Loc), zW G A H0 H1 locs1 I ad (zU ct k (zL G n (zup f i v))) → W p l e R s m args below meth c H1 locs1 cells slots Q (F0 m (pc + 1) ls rest)) : W p l e R s m args below meth c H locs cells slots Q (F0 m pc ls (zl v :: zi i :: .ref (ad k) :: rest)) := by
  obtain ⟨j, hj⟩ := List.getElem?_of_mem hk
  have hp := zws_of (ad := ad) (ct := ct) hj
  rw [he] at hp
  refine va_last (D := G.1) (cl := vwCl) hx hb hK.1 hw.1.1 (hw.1.D hw.2.1) hw.2.2.1 j 1 hp rfl (zi_ix h0 h1 hn) hdg (fun H1 locs1 hP hD hS => ?_)
  rw [zup_l f v h0 (by omega)] at hP
  exact kk H1 locs1 (hw.put hj hP hS)
theorem z_alen (hx : p.tables.exec = Jvm.exec) (hb : c.code = cc) (hK : zK G A s H0) (hw : zW G A H0 H locs I ad ct) {k : Nat} (hk : k ∈ I) {cA : ClassId} {x : vp_A} (he : ct k = .inl (cA, x)) (t0 : Nat) {ty : FieldType} (ht : (zty G)[t0]? = some (cA, ty)) {n : Int} (hn : (x.1 : Int) = n) (hdg : decode cc pc = .ok (.arraylength, 1))
    (kk : W p l e R s m args below meth c H locs cells slots Q (F0 m (pc + 1) ls (zi n :: rest))) : W p l e R s m args below meth c H locs cells slots Q (F0 m pc ls (.ref (ad k) :: rest)) :=
  va_alen (D := G.1) (cl := vwCl) hx hb hK.1 (hw.1.one hk he) 0 t0 rfl ht (by rw [← hn, Int32.ofInt_eq_ofNat]) hdg kk
end ZH
section ZC
variable {p : Program} {l : Launch} {e : Env} {R : Room} {s : State} {m : MethodId} {args : Array Value} {below : List Frame} {meth : Method} {c : Code} {H : Heap} {locs : List Loc} {cells slots : Nat} {Q : State → Prop}
variable {cc : ByteArray} {pc : Nat} {ls : Array Slot} {rest st0 : List Value} {G : zG} {A : Nat → Prop} {I : List Nat} {ad : Nat → Nat} {ct : Nat → va_E}
theorem zW.free (hw : zW G A s.heap H locs I ad ct) : ∀ q, zA I ad H.size q → A q := fun q h => by
  rcases h with ⟨k, hk, rfl⟩ | h
  · exact hw.2.1 k hk
  · exact hw.2.2.2 q (Nat.le_trans hw.2.2.1.1 h)
theorem zK.to (hK : zK G A s s.heap) (hw : zW G A s.heap H locs I ad ct) {U : State} (hU : U.heap = H) (hW : s.WarmedH U.vm) : zK G (zA I ad H.size) U U.heap := by
  rw [hU]
  exact ⟨va_K.moved hW.alike hK.1, zS.warm hW hK.2.1, vx_Zq.narrow (vx_Zq.moved hW.alike (hK.2.2.1.kept hw.2.2.1.2.1)) hw.free, vx_Zq.narrow (vx_Zq.moved hW.alike (hK.2.2.2.kept hw.2.2.1.2.1)) hw.free⟩
theorem zPre (hK : zK G A s s.heap) (hw : zW G A s.heap H locs I ad ct) (av : List Value) : PreS s H (zPc G av I ad ct H.size) av :=
  ⟨zPc.blind, fun U hU hW => ⟨rfl, by rw [hU], by rw [hU]; exact hw.1, hK.to hw hU hW⟩⟩
variable {y : MethodName} {bytes : ByteArray} {maxL nL mc ms fr lo n index : Nat} {ret : Option FieldType} {ws : List Cond} {thr : String → Prop} {post : Option Value → zT → Prop} {Ts : List Cond} {own C host : String} {As : List Value} {k : Nat}
/-- a call of the machine, told in the world's words -/
def zRun (p : Program) (l : Launch) (e : Env) (R : Room) (s : State) (m : MethodId) (args : Array Value) (below : List Frame) (meth : Method) (c : Code) (H : Heap) (locs : List Loc) (cells slots mc ms : Nat) (g : JFrame) (rest : List Value) (G : zG) (I : List Nat) (ad : Nat → Nat) (ct : Nat → va_E) (thr : String → Prop) (post : Option Value → zT → Prop) : Prop :=
  ∃ a : Array Value, vx_Run p l e R s m args below meth c H locs cells slots mc ms g rest (zQ G (zA I ad H.size) ad post a) (zX G (zA I ad H.size) I ad ct thr) (zA I ad H.size)
theorem z_runS (S : CallFix p m c cc nL s args Ts own) (hK : zK G A s s.heap) (hw : zW G A s.heap H locs I ad ct) (hM : zN l y ws fr lo mc ms G As I ad ct thr H.size post) (cw : CallB R s args own index y bytes maxL ret ws { frames := fr, cells := mc, slots := ms, locals := lo } mc ms n ∧ (Cond.static y).before args s = true)
    (hn : As.length = n) (hls : ls.size = nL) (hst : st0 = As.reverse ++ rest) (hW : (rest.map fun v => v.category).sum ≤ 8) (hdg : decode cc pc = .ok (.invokestatic index, 3)) (hf : cells + mc ≤ R.cells ∧ slots + ms ≤ R.slots) : zRun p l e R s m args below meth c H locs cells slots mc ms (F0 m pc ls st0) rest G I ad ct thr post :=
  ⟨_, vx_runS S hM cw (zPre hK hw As) rfl hn hls hst (lv_room hW) hdg hf⟩
theorem z_runSN (S : CallFix p m c cc nL s args Ts own) (hK : zK G A s s.heap) (hw : zW G A s.heap H locs I ad ct) (hM : zN l y ws fr lo mc ms G As I ad ct thr H.size post) (cw : va_CN R s args own index y host bytes maxL ret ws { frames := fr, cells := mc, slots := ms, locals := lo } mc ms n ∧ (Cond.static y).before args s = true ∧ True)
    (hn : As.length = n) (hls : ls.size = nL) (hst : st0 = As.reverse ++ rest) (hW : (rest.map fun v => v.category).sum ≤ 8) (hdg : decode cc pc = .ok (.invokestatic index, 3)) (hf : cells + mc ≤ R.cells ∧ slots + ms ≤ R.slots) : zRun p l e R s m args below meth c H locs cells slots mc ms (F0 m pc ls st0) rest G I ad ct thr post :=
  ⟨_, vx_runSN S hM cw (zPre hK hw As) rfl hn hls hst (lv_room hW) hdg hf⟩
theorem z_runV (S : CallFix p m c cc nL s args Ts own) (hK : zK G A s s.heap) (hw : zW G A s.heap H locs I ad ct) (hM : zN l y ws fr lo mc ms G (.ref (ad k) :: As) I ad ct thr H.size post) (cw : CallW R s args own C index y bytes maxL ret ws { frames := fr, cells := mc, slots := ms, locals := lo } mc ms n)
    (hk : k ∈ I) {ci : Nat} {fs : List Value} (he : ct k = .inr (ci, fs)) {r : vw_C} (hc : vwCl[ci]? = some r) (hC : r.1 = C)
    (hn : As.length = n) (hls : ls.size = nL) (hst : st0 = As.reverse ++ .ref (ad k) :: rest) (hW : (rest.map fun v => v.category).sum ≤ 8) (hdg : decode cc pc = .ok (.invokevirtual index, 3)) (hf : cells + mc ≤ R.cells ∧ slots + ms ≤ R.slots) : zRun p l e R s m args below meth c H locs cells slots mc ms (F0 m pc ls st0) rest G I ad ct thr post := by
  subst hC
  exact ⟨_, vx_runV S hM cw ⟨zPc.blind, va_recv hK.1 (hw.1.one hk he) hc (q0 := 0) rfl, (zPre hK hw (.ref (ad k) :: As)).2⟩ rfl hn hls hst (lv_room hW) hdg hf⟩
theorem z_runI (S : CallFix p m c cc nL s args Ts own) (hK : zK G A s s.heap) (hw : zW G A s.heap H locs I ad ct) (hM : zN l y ws fr lo mc ms G (.ref (ad k) :: As) I ad ct thr H.size post) (cw : CallB R s args own index y bytes maxL none ws { frames := fr, cells := mc, slots := ms, locals := lo } mc ms n ∧ y.name = "<init>" ∧ (Cond.instanceMethod y).before args s = true)
    (hn : As.length = n) (hls : ls.size = nL) (hst : st0 = As.reverse ++ .ref (ad k) :: rest) (hW : (rest.map fun v => v.category).sum ≤ 8) (hdg : decode cc pc = .ok (.invokespecial index, 3)) (hf : cells + mc ≤ R.cells ∧ slots + ms ≤ R.slots) : zRun p l e R s m args below meth c H locs cells slots mc ms (F0 m pc ls st0) rest G I ad ct thr post :=
  ⟨_, vx_runI S hM cw (zPre hK hw (.ref (ad k) :: As)) rfl hn hls hst (lv_room hW) hdg hf⟩
theorem z_runIN (S : CallFix p m c cc nL s args Ts own) (hK : zK G A s s.heap) (hw : zW G A s.heap H locs I ad ct) (hM : zN l y ws fr lo mc ms G (.ref (ad k) :: As) I ad ct thr H.size post) (cw : va_CN R s args own index y host bytes maxL none ws { frames := fr, cells := mc, slots := ms, locals := lo } mc ms n ∧ y.name = "<init>" ∧ (Cond.instanceMethod y).before args s = true)
    (hn : As.length = n) (hls : ls.size = nL) (hst : st0 = As.reverse ++ .ref (ad k) :: rest) (hW : (rest.map fun v => v.category).sum ≤ 8) (hdg : decode cc pc = .ok (.invokespecial index, 3)) (hf : cells + mc ≤ R.cells ∧ slots + ms ≤ R.slots) : zRun p l e R s m args below meth c H locs cells slots mc ms (F0 m pc ls st0) rest G I ad ct thr post :=
  ⟨_, vx_runIN S hM cw (zPre hK hw (.ref (ad k) :: As)) rfl hn hls hst (lv_room hW) hdg hf⟩
/-- behind it -/
theorem z_call (hr : zRun p l e R s m args below meth c H locs cells slots mc ms (F0 m pc ls st0) rest G I ad ct thr post) (hw : zW G A s.heap H locs I ad ct)
    (kx : ∀ (E : String) (ce : Cell) (q : Addr) (H1 : Heap) (locs1 : List Loc), thr E → zW G A s.heap H1 locs1 I ad ct → H1[q]? = some ce → ce.vm = .none → s.vm.findClass E = some ce.cls → vx_W p l e R s m args below meth c H1 locs1 (cells + mc) (slots + ms) Q (F0 m pc ls rest) q)
    (kk : ∀ (v : Option Value) (u : zT) (H1 : Heap) (locs1 : List Loc), post v u → zW G A s.heap H1 locs1 u.1 ad u.2.1 → H1.size = u.2.2 → W p l e R s m args below meth c H1 locs1 (cells + mc) (slots + ms) Q (F0 m (pc + 3) ls (v.toList ++ rest))) : W p l e R s m args below meth c H locs cells slots Q (F0 m pc ls st0) := by
  obtain ⟨a, hr⟩ := hr
  have hfr := hw.free
  obtain ⟨hin, hIA, hS, hA⟩ := hw
  intro T hT X
  rcases hr T hT X with ⟨v, st₀, t, T', L, h0, X', hL, e1, e2, ⟨⟨v2, u, hv, hp, hi, hu, hz⟩, hF⟩, st⟩ | ⟨q, st₀, t, T', L, E, ce, h0, X', hL, e1, e2, ⟨ht, hi, hF⟩, hce, hcv, hcl, st⟩
  · cases hv
    obtain ⟨k1, k2, k3⟩ := vx_keep h0 e1 hS (fun q _ h => hfr q h) hfr hL hF
    obtain ⟨t2, a1, b1⟩ := kk v u T'.heap (locs ++ L) hp ⟨by rw [e1]; exact hi, fun k hk => hfr _ (hu k hk), k3, hA⟩ (by rw [e1]; exact hz) T' rfl X'
    exact ⟨t2, st t2 a1, b1⟩
  · obtain ⟨k1, k2, k3⟩ := vx_keep h0 e1 hS (fun q _ h => hfr q h) hfr hL hF
    obtain ⟨t2, a1, b1⟩ := kx E ce q T'.heap (locs ++ L) ht ⟨by rw [e1]; exact hi, hIA, k3, hA⟩ (by rw [e1]; exact hce) hcv hcl T' rfl X'
    exact ⟨t2, st.trans a1, b1⟩
/-- .. of a method that throws nothing -/
theorem z_kI {P : Int → (Nat → va_E) → Prop} (hr : zRun p l e R s m args below meth c H locs cells slots mc ms (F0 m pc ls st0) rest G I ad ct zno (zk I (zqi P))) (hw : zW G A s.heap H locs I ad ct)
    (kk : ∀ (z : Int) (ct1 : Nat → va_E) (H1 : Heap) (locs1 : List Loc), P z ct1 → zW G A s.heap H1 locs1 I ad ct1 → W p l e R s m args below meth c H1 locs1 (cells + mc) (slots + ms) Q (F0 m (pc + 3) ls (zi z :: rest))) : W p l e R s m args below meth c H locs cells slots Q (F0 m pc ls st0) :=
  z_call hr hw (fun E ce q H1 locs1 ht => ht.elim) (fun v u H1 locs1 hp hw1 _ => by
    obtain ⟨u1, u2, u3⟩ := u
    obtain ⟨rfl, z, rfl, hP⟩ := hp
    exact kk z u2 H1 locs1 hP hw1)
theorem z_kL {P : Int → (Nat → va_E) → Prop} (hr : zRun p l e R s m args below meth c H locs cells slots mc ms (F0 m pc ls st0) rest G I ad ct zno (zk I (zql P))) (hw : zW G A s.heap H locs I ad ct)
    (kk : ∀ (z : Int) (ct1 : Nat → va_E) (H1 : Heap) (locs1 : List Loc), P z ct1 → zW G A s.heap H1 locs1 I ad ct1 → W p l e R s m args below meth c H1 locs1 (cells + mc) (slots + ms) Q (F0 m (pc + 3) ls (zl z :: rest))) : W p l e R s m args below meth c H locs cells slots Q (F0 m pc ls st0) :=
  z_call hr hw (fun E ce q H1 locs1 ht => ht.elim) (fun v u H1 locs1 hp hw1 _ => by
    obtain ⟨u1, u2, u3⟩ := u
    obtain ⟨rfl, z, rfl, hP⟩ := hp
    exact kk z u2 H1 locs1 hP hw1)
theorem z_kV {P : (Nat → va_E) → Prop} (hr : zRun p l e R s m args below meth c H locs cells slots mc ms (F0 m pc ls st0) rest G I ad ct zno (zk I (zqv P))) (hw : zW G A s.heap H locs I ad ct)
    (kk : ∀ (ct1 : Nat → va_E) (H1 : Heap) (locs1 : List Loc), P ct1 → zW G A s.heap H1 locs1 I ad ct1 → W p l e R s m args below meth c H1 locs1 (cells + mc) (slots + ms) Q (F0 m (pc + 3) ls rest)) : W p l e R s m args below meth c H locs cells slots Q (F0 m pc ls st0) :=
  z_call hr hw (fun E ce q H1 locs1 ht => ht.elim) (fun v u H1 locs1 hp hw1 _ => by
    obtain ⟨u1, u2, u3⟩ := u
    obtain ⟨rfl, rfl, hP⟩ := hp
    exact kk u2 H1 locs1 hP hw1)
variable {pst : Option Value → zT → Prop} {I0 : List Nat} {ad0 : Nat → Nat} {ct0 : Nat → va_E} {thr0 : String → Prop} {mc0 ms0 : Nat}
/-- a callee's throw goes on to the caller: nothing was changed -/
theorem z_pass (hout : ∀ x ∈ c.exceptionTable.toList, False) (hlk : meth.locks = false) {E : String} {ce : Cell} {q : Addr} (ht : thr0 E) (hw : zW G A s.heap H locs I ad ct) (hce : H[q]? = some ce) (hcv : ce.vm = .none) (hcl : s.vm.findClass E = some ce.cls) (hc : cells ≤ mc0) (hs : slots ≤ ms0) :
    vx_W p l e R s m args below meth c H locs cells slots (vx_MQ below (zQ G A ad pst) (zX G A I ad ct thr0) args s mc0 ms0 A) (F0 m pc ls rest) q :=
  vx_out (fun x h => (hout x h).elim) hlk hce hcv hcl (fun t h9 _ => ⟨ht, by rw [h9]; exact hw.1, hw.2.2.1.F h9⟩) hw.2.2.1.2.2 hc hs
/-- the same, of a method that may throw: what it throws, the caller throws, its world as it began -/
theorem z_tI {P : Int → (Nat → va_E) → Prop} (hr : zRun p l e R s m args below meth c H locs cells slots mc ms (F0 m pc ls st0) rest G I ad ct thr (zk I (zqi P))) (hw : zW G A s.heap H locs I ad ct) (hout : ∀ x ∈ c.exceptionTable.toList, False) (hlk : meth.locks = false) (hthr : ∀ E, thr E → thr0 E) (hc : cells + mc ≤ mc0) (hs : slots + ms ≤ ms0)
    (kk : ∀ (z : Int) (ct1 : Nat → va_E) (H1 : Heap) (locs1 : List Loc), P z ct1 → zW G A s.heap H1 locs1 I ad ct1 → W p l e R s m args below meth c H1 locs1 (cells + mc) (slots + ms) (vx_MQ below (zQ G A ad pst) (zX G A I ad ct thr0) args s mc0 ms0 A) (F0 m (pc + 3) ls (zi z :: rest))) : W p l e R s m args below meth c H locs cells slots (vx_MQ below (zQ G A ad pst) (zX G A I ad ct thr0) args s mc0 ms0 A) (F0 m pc ls st0) :=
  z_call hr hw (fun E ce q H1 locs1 ht hw1 h1 h2 h3 => z_pass hout hlk (hthr E ht) hw1 h1 h2 h3 hc hs) (fun v u H1 locs1 hp hw1 _ => by
    obtain ⟨u1, u2, u3⟩ := u
    obtain ⟨rfl, z, rfl, hP⟩ := hp
    exact kk z u2 H1 locs1 hP hw1)
theorem z_tV {P : (Nat → va_E) → Prop} (hr : zRun p l e R s m args below meth c H locs cells slots mc ms (F0 m pc ls st0) rest G I ad ct thr (zk I (zqv P))) (hw : zW G A s.heap H locs I ad ct) (hout : ∀ x ∈ c.exceptionTable.toList, False) (hlk : meth.locks = false) (hthr : ∀ E, thr E → thr0 E) (hc : cells + mc ≤ mc0) (hs : slots + ms ≤ ms0)
    (kk : ∀ (ct1 : Nat → va_E) (H1 : Heap) (locs1 : List Loc), P ct1 → zW G A s.heap H1 locs1 I ad ct1 → W p l e R s m args below meth c H1 locs1 (cells + mc) (slots + ms) (vx_MQ below (zQ G A ad pst) (zX G A I ad ct thr0) args s mc0 ms0 A) (F0 m (pc + 3) ls rest)) : W p l e R s m args below meth c H locs cells slots (vx_MQ below (zQ G A ad pst) (zX G A I ad ct thr0) args s mc0 ms0 A) (F0 m pc ls st0) :=
  z_call hr hw (fun E ce q H1 locs1 ht hw1 h1 h2 h3 => z_pass hout hlk (hthr E ht) hw1 h1 h2 h3 hc hs) (fun v u H1 locs1 hp hw1 _ => by
    obtain ⟨u1, u2, u3⟩ := u
    obtain ⟨rfl, rfl, hP⟩ := hp
    exact kk u2 H1 locs1 hP hw1)
theorem z_tA {P : Nat → (Nat → va_E) → Prop} (hr : zRun p l e R s m args below meth c H locs cells slots mc ms (F0 m pc ls st0) rest G I ad ct thr (zk I (zqa P))) (hw : zW G A s.heap H locs I ad ct) (hout : ∀ x ∈ c.exceptionTable.toList, False) (hlk : meth.locks = false) (hthr : ∀ E, thr E → thr0 E) (hc : cells + mc ≤ mc0) (hs : slots + ms ≤ ms0)
    (kk : ∀ (z : Nat) (ct1 : Nat → va_E) (H1 : Heap) (locs1 : List Loc), P z ct1 → zW G A s.heap H1 locs1 I ad ct1 → W p l e R s m args below meth c H1 locs1 (cells + mc) (slots + ms) (vx_MQ below (zQ G A ad pst) (zX G A I ad ct thr0) args s mc0 ms0 A) (F0 m (pc + 3) ls (.ref z :: rest))) : W p l e R s m args below meth c H locs cells slots (vx_MQ below (zQ G A ad pst) (zX G A I ad ct thr0) args s mc0 ms0 A) (F0 m pc ls st0) :=
  z_call hr hw (fun E ce q H1 locs1 ht hw1 h1 h2 h3 => z_pass hout hlk (hthr E ht) hw1 h1 h2 h3 hc hs) (fun v u H1 locs1 hp hw1 _ => by
    obtain ⟨u1, u2, u3⟩ := u
    obtain ⟨rfl, z, rfl, hP⟩ := hp
    exact kk z u2 H1 locs1 hP hw1)
/-- throw new E("text"): nothing was changed -/
theorem z_throw (hx : p.tables.exec = Jvm.exec) (hb : c.code = cc) (hst : l.stackTraces = false) (hK : zK G A s s.heap) (hw : zW G A s.heap H locs I ad ct) (hout : ∀ x ∈ c.exceptionTable.toList, False) (hlk : meth.locks = false) {cls text : String} {names : List String} {ik is ic sa : Nat} (hown : s.vm.findClass own = some m.cls) (hcls : Bundle.fit cls = true) (hnames : ∀ n ∈ names, Bundle.fit n = true)
    (hk : (Cond.classLink own ik cls).before args s = true) (hini : (Cond.initialized cls).before args s = true) (hstr : vk_R own is text sa s) (hat : ∀ w ∈ (vx_atS own ic cls names).filter goodWord, w.before args s = true) {B : List Cond} (hB : ∀ w ∈ B, w.before args s = true) (hbad : ∀ w ∈ (vx_atS own ic cls names).filter (fun w => !goodWord w), w ∈ B)
    (hgood : ∀ w ∈ Cond.classLink own ik cls :: Cond.initialized cls :: vx_atS own ic cls names, vx_ot w = true) (hsize : ls.size = c.maxLocals)
    (d0 : decode cc pc = .ok (.new ik, 3)) (d3 : decode cc (pc + 3) = .ok (.dup, 1)) (d4 : decode cc (pc + 4) = .ok (.ldc is, 2)) (d6 : decode cc (pc + 6) = .ok (.invokespecial ic, 3)) (d9 : decode cc (pc + 9) = .ok (.athrow, 1))
    (hRf : names.length + 3 < R.frames) (hRl : (rest.map fun v => v.category).sum + (13 * (names.length + 1) + 43) ≤ R.locals) (hRc : cells + 1 ≤ R.cells) (hRs : slots + 6 ≤ R.slots) (ht : thr0 cls) (hc : cells + 1 ≤ mc0) (hs : slots + 6 ≤ ms0) :
    W p l e R s m args below meth c H locs cells slots (vx_MQ below (zQ G A ad pst) (zX G A I ad ct thr0) args s mc0 ms0 A) (F0 m pc ls rest) :=
  vx_throwS hx hb hst hown hcls hnames hk hini hstr (vx_hat hat hbad hB) hgood hK.2.2.1 hK.2.2.2 hw.2.2.1 hsize d0 d3 d4 d6 d9 (fun x h => (hout x h).elim) hRf hRl hRc hRs hlk
    (fun t _ h1 h2 => ⟨ht, ⟨hw.1.1.kept (fun k q h => h2 q.1 (hw.1.1 k q h).lt), hw.1.2⟩, ⟨Nat.le_trans hw.2.2.1.1 h1, fun q hq hn => by rw [h2 q (Nat.lt_of_lt_of_le hq hw.2.2.1.1)]; exact hw.2.2.1.2.1 q hq hn⟩⟩) hw.2.2.1.2.2 hc hs
/-- ends -/
theorem z_iret (hx : p.tables.exec = Jvm.exec) (hb : c.code = cc) (hlk : meth.locks = false) (hr : meth.sig.returnType = some .int) {I1 : List Nat} {ct1 : Nat → va_E} (hw : zW G A s.heap H locs I1 ad ct1) {z : Int} (hdg : decode cc pc = .ok (.ireturn, 1)) (hc : cells ≤ mc0) (hs : slots ≤ ms0) (hp : pst (some (zi z)) (I1, ct1, H.size)) :
    W p l e R s m args below meth c H locs cells slots (vx_MQ below (zQ G A ad pst) (zX G A I ad ct thr0) args s mc0 ms0 A) (F0 m pc ls [zi z]) :=
  vx_ret (W.widen hc hs (W.iret hx hb hr (fun t h9 _ => ⟨⟨_, (I1, ct1, H.size), rfl, hp, by rw [h9]; exact hw.1, hw.2.1, by rw [h9]⟩, hw.2.2.1.F h9⟩) hw.2.2.1.2.2 hdg hlk))
theorem z_zret (hx : p.tables.exec = Jvm.exec) (hb : c.code = cc) (hlk : meth.locks = false) (hr : meth.sig.returnType = some .boolean) {I1 : List Nat} {ct1 : Nat → va_E} (hw : zW G A s.heap H locs I1 ad ct1) {z : Int} (hz : z = 0 ∨ z = 1) (hdg : decode cc pc = .ok (.ireturn, 1)) (hc : cells ≤ mc0) (hs : slots ≤ ms0) (hp : pst (some (zi z)) (I1, ct1, H.size)) :
    W p l e R s m args below meth c H locs cells slots (vx_MQ below (zQ G A ad pst) (zX G A I ad ct thr0) args s mc0 ms0 A) (F0 m pc ls [zi z]) :=
  vx_ret (W.widen hc hs (W.zret hx hb hr (by rcases hz with rfl | rfl <;> rfl) (fun t h9 _ => ⟨⟨_, (I1, ct1, H.size), rfl, hp, by rw [h9]; exact hw.1, hw.2.1, by rw [h9]⟩, hw.2.2.1.F h9⟩) hw.2.2.1.2.2 hdg hlk))
theorem z_lret (hx : p.tables.exec = Jvm.exec) (hb : c.code = cc) (hlk : meth.locks = false) (hr : meth.sig.returnType = some .long) {I1 : List Nat} {ct1 : Nat → va_E} (hw : zW G A s.heap H locs I1 ad ct1) {z : Int} (hdg : decode cc pc = .ok (.lreturn, 1)) (hc : cells ≤ mc0) (hs : slots ≤ ms0) (hp : pst (some (zl z)) (I1, ct1, H.size)) :
    W p l e R s m args below meth c H locs cells slots (vx_MQ below (zQ G A ad pst) (zX G A I ad ct thr0) args s mc0 ms0 A) (F0 m pc ls [zl z]) :=
  vx_ret (W.widen hc hs (W.lret hx hb hr (fun t h9 _ => ⟨⟨_, (I1, ct1, H.size), rfl, hp, by rw [h9]; exact hw.1, hw.2.1, by rw [h9]⟩, hw.2.2.1.F h9⟩) hw.2.2.1.2.2 hdg hlk))
theorem z_vret (hx : p.tables.exec = Jvm.exec) (hb : c.code = cc) (hlk : meth.locks = false) (hr : meth.sig.returnType = none) {I1 : List Nat} {ct1 : Nat → va_E} (hw : zW G A s.heap H locs I1 ad ct1) (hdg : decode cc pc = .ok (.return_, 1)) (hc : cells ≤ mc0) (hs : slots ≤ ms0) (hp : pst none (I1, ct1, H.size)) :
    W p l e R s m args below meth c H locs cells slots (vx_MQ below (zQ G A ad pst) (zX G A I ad ct thr0) args s mc0 ms0 A) (F0 m pc ls []) :=
  vx_ret (W.widen hc hs (W.vret hx hb hr (fun t h9 _ => ⟨⟨_, (I1, ct1, H.size), rfl, hp, by rw [h9]; exact hw.1, hw.2.1, by rw [h9]⟩, hw.2.2.1.F h9⟩) hw.2.2.1.2.2 hdg hlk))
theorem z_aret (hx : p.tables.exec = Jvm.exec) (hb : c.code = cc) (hlk : meth.locks = false) {nm : String} (hr : meth.sig.returnType = some (.object nm)) {I1 : List Nat} {ct1 : Nat → va_E} (hw : zW G A s.heap H locs I1 ad ct1) {z : Nat} (hdg : decode cc pc = .ok (.areturn, 1)) (hc : cells ≤ mc0) (hs : slots ≤ ms0) (hp : pst (some (.ref z)) (I1, ct1, H.size)) :
    W p l e R s m args below meth c H locs cells slots (vx_MQ below (zQ G A ad pst) (zX G A I ad ct thr0) args s mc0 ms0 A) (F0 m pc ls [.ref z]) :=
  vx_ret (W.widen hc hs (W.aret hx hb hr (Or.inl ⟨_, rfl⟩) (Or.inr ⟨_, rfl⟩) (fun t h9 _ => ⟨⟨_, (I1, ct1, H.size), rfl, hp, by rw [h9]; exact hw.1, hw.2.1, by rw [h9]⟩, hw.2.2.1.F h9⟩) hw.2.2.1.2.2 hdg hlk))
end ZC
