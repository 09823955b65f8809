/-! METHOD X1_addJob -/
def m_X1_addJob (p0 : Fin 10) (p1 : Int32) (p2 : Int32) (p3 : Int32) (p4 : Int32) (p5 : Int32) (p6 : Int32) (x : Mem) : Option (Int32 × Mem) :=
  lt_ (x 2 ↑p0 0 1) fun x7_1 => bd_ (m_X1_jobAt p0 x7_1) fun r3 => lt_ (up4 x 12 ↑r3.1 ↑r3.2 0 p1) fun x4 => lt_ (up4 x4 12 ↑r3.1 ↑r3.2 1 p2) fun x5 => bd_ (m_X5_lengthOf p2) fun r7 => lt_ (up4 x5 12 ↑r3.1 ↑r3.2 2 r7) fun x8 => lt_ (up4 x8 12 ↑r3.1 ↑r3.2 3 p3) fun x9 => lt_ (up4 x9 12 ↑r3.1 ↑r3.2 4 p4) fun x10 => lt_ (up4 x10 12 ↑r3.1 ↑r3.2 5 p5) fun x11 => lt_ (up4 x11 12 ↑r3.1 ↑r3.2 6 p6) fun x12 => lt_ (up4 x12 12 ↑r3.1 ↑r3.2 7 (0 : Int32)) fun x13 => lt_ (up4 x13 12 ↑r3.1 ↑r3.2 8 (-1 : Int32)) fun x14 => lt_ (up4 x14 12 ↑r3.1 ↑r3.2 9 (-1 : Int32)) fun x15 => lt_ (up4 x15 2 ↑p0 0 1 ((x15 2 ↑p0 0 1) + (1 : Int32))) fun x16 => bd_ (m_X1_armAt p0 p1) fun r18 => bd_ (m_X0_addToRow r18 x7_1 x16) fun x21 => some (x7_1, x21)
abbrev WS_X1_addJob : List Cond := .code yX1_addJob cX1_addJob 9 (some .int) :: wsG
abbrev RM_X1_addJob : Room := { frames := 1, cells := 0, slots := 0, locals := 23 }
set_option maxHeartbeats 4000000 in
set_option maxRecDepth 100000 in
theorem c_X1_addJob (l : Launch) (G : Geo) (x y : Mem) (p0 : Fin 10) (p1 : Int32) (p2 : Int32) (p3 : Int32) (p4 : Int32) (p5 : Int32) (p6 : Int32) (r : (Int32 × Mem)) (h : m_X1_addJob p0 p1 p2 p3 p4 p5 p6 x = some r) : Met l yX1_addJob WS_X1_addJob RM_X1_addJob (Pw G x y [.ref (gA G 2 ↑p0 0), .int p1, .int p2, .int p3, .int p4, .int p5, .int p6]) (Qi G r.2 y r.1) 0 0 (gF G) := by
  refine Met.ofW (cc := cX1_addJob) (maxL := 9) (ret := (some .int)) (by decide) rfl ?_
  intro p e s m args below meth c s₁ B hml hv
  obtain ⟨rfl, hK, hW⟩ := hv
  have hx := B.exec
  have hb := B.bytes
  have hr := B.returns
  have hts := atoms_spec (ws := WS_X1_addJob) B.pre
  have htg : ∀ w ∈ wsG, w.before _ s = true := fun w h => hts w (List.mem_cons_of_mem _ h)
  have hown : s.vm.findClass RX1 = some m.cls := findClass_of_methodNamed B.named
  have hlocks := B.notSynchronized
  have hS : va_S (gF G) s.heap s.heap [] := va_S.rf
  have hl := lv_entry ([.ref (gA G 2 ↑p0 0), .int p1, .int p2, .int p3, .int p4, .int p5, .int p6]) (n := 9) (Nat.le_of_ble_eq_true rfl)
  rw [lg_entry_eq]
  generalize (lg_sl ([.ref (gA G 2 ↑p0 0), .int p1, .int p2, .int p3, .int p4, .int p5, .int p6]) ++ List.replicate (9 - (lg_sl ([.ref (gA G 2 ↑p0 0), .int p1, .int p2, .int p3, .int p4, .int p5, .int p6])).length) Slot.unset).toArray = ls at hl ⊢
  have hl : lv_has ls 9 [(0, .ref (gA G 2 ↑p0 0)), (1, .int p1), (2, .int p2), (3, .int p3), (4, .int p4), (5, .int p5), (6, .int p6)] := hl
  have hX := h
  unfold m_X1_addJob at hX
  refine lv_aload_n hx hb dX1_addJob_0 rfl (lv_at hl 0 rfl) ?_
  refine gf_2_1 hx hb htg hown hK hW p0 q240 dX1_addJob_1 ?_
  refine lv_topi (fun x7_1 e9 => ?_)
  have hX := lt_go hX e9
  refine lv_istore (lv' := [(7, .int x7_1), (0, .ref (gA G 2 ↑p0 0)), (1, .int p1), (2, .int p2), (3, .int p3), (4, .int p4), (5, .int p5), (6, .int p6)]) hx hb dX1_addJob_4 hl (by decide) rfl (fun ls hl => ?_)
  refine lv_aload_n hx hb dX1_addJob_6 rfl (lv_at hl 1 rfl) ?_
  refine lv_iload hx hb dX1_addJob_7 (lv_at hl 0 rfl) ?_
  obtain ⟨r3, h2, hX⟩ := bd_go hX
  refine k_X1_jobAt hx hb hml hown htg hK hW hS h2 q284 hl.1 (Nat.le_of_ble_eq_true rfl) (Nat.le_of_ble_eq_true rfl) (Nat.le_of_ble_eq_true rfl) ⟨Nat.zero_le _, Nat.zero_le _⟩ dX1_addJob_9 (fun H locs hW hS => ?_)
  refine lv_astore (lv' := [(8, .ref (gA G 12 ↑r3.1 ↑r3.2)), (7, .int x7_1), (0, .ref (gA G 2 ↑p0 0)), (1, .int p1), (2, .int p2), (3, .int p3), (4, .int p4), (5, .int p5), (6, .int p6)]) hx hb dX1_addJob_12 hl (by decide) rfl (fun ls hl => ?_)
  refine lv_aload hx hb dX1_addJob_14 (lv_at hl 0 rfl) ?_
  refine lv_iload_n hx hb dX1_addJob_16 rfl (lv_at hl 3 rfl) ?_
  refine pf_12_0 hx hb htg hown hK hW hS r3 q548 dX1_addJob_17 (fun H locs hW hS => ?_)
  obtain ⟨x4, e9⟩ : ∃ w : Mem, w = (up4 x 12 ↑r3.1 ↑r3.2 0 p1) := ⟨_, rfl⟩
  rw [← e9] at hW
  have hX := lt_go hX e9
  refine lv_aload hx hb dX1_addJob_20 (lv_at hl 0 rfl) ?_
  refine lv_iload_n hx hb dX1_addJob_22 rfl (lv_at hl 4 rfl) ?_
  refine pf_12_1 hx hb htg hown hK hW hS r3 q549 dX1_addJob_23 (fun H locs hW hS => ?_)
  obtain ⟨x5, e9⟩ : ∃ w : Mem, w = (up4 x4 12 ↑r3.1 ↑r3.2 1 p2) := ⟨_, rfl⟩
  rw [← e9] at hW
  have hX := lt_go hX e9
  refine lv_aload hx hb dX1_addJob_26 (lv_at hl 0 rfl) ?_
  refine lv_iload_n hx hb dX1_addJob_28 rfl (lv_at hl 4 rfl) ?_
  obtain ⟨r7, h6, hX⟩ := bd_go hX
  refine k_X5_lengthOf hx hb hml hown htg hK hW hS h6 q558 hl.1 (Nat.le_of_ble_eq_true rfl) (Nat.le_of_ble_eq_true rfl) (Nat.le_of_ble_eq_true rfl) ⟨Nat.zero_le _, Nat.zero_le _⟩ dX1_addJob_29 (fun H locs hW hS => ?_)
  refine pf_12_2 hx hb htg hown hK hW hS r3 q550 dX1_addJob_32 (fun H locs hW hS => ?_)
  obtain ⟨x8, e9⟩ : ∃ w : Mem, w = (up4 x5 12 ↑r3.1 ↑r3.2 2 r7) := ⟨_, rfl⟩
  rw [← e9] at hW
  have hX := lt_go hX e9
  refine lv_aload hx hb dX1_addJob_35 (lv_at hl 0 rfl) ?_
  refine lv_iload_n hx hb dX1_addJob_37 rfl (lv_at hl 5 rfl) ?_
  refine pf_12_3 hx hb htg hown hK hW hS r3 q551 dX1_addJob_38 (fun H locs hW hS => ?_)
  obtain ⟨x9, e9⟩ : ∃ w : Mem, w = (up4 x8 12 ↑r3.1 ↑r3.2 3 p3) := ⟨_, rfl⟩
  rw [← e9] at hW
  have hX := lt_go hX e9
  refine lv_aload hx hb dX1_addJob_41 (lv_at hl 0 rfl) ?_
  refine lv_iload hx hb dX1_addJob_43 (lv_at hl 6 rfl) ?_
  refine pf_12_4 hx hb htg hown hK hW hS r3 q552 dX1_addJob_45 (fun H locs hW hS => ?_)
  obtain ⟨x10, e9⟩ : ∃ w : Mem, w = (up4 x9 12 ↑r3.1 ↑r3.2 4 p4) := ⟨_, rfl⟩
  rw [← e9] at hW
  have hX := lt_go hX e9
  refine lv_aload hx hb dX1_addJob_48 (lv_at hl 0 rfl) ?_
  refine lv_iload hx hb dX1_addJob_50 (lv_at hl 7 rfl) ?_
  refine pf_12_5 hx hb htg hown hK hW hS r3 q553 dX1_addJob_52 (fun H locs hW hS => ?_)
  obtain ⟨x11, e9⟩ : ∃ w : Mem, w = (up4 x10 12 ↑r3.1 ↑r3.2 5 p5) := ⟨_, rfl⟩
  rw [← e9] at hW
  have hX := lt_go hX e9
  refine lv_aload hx hb dX1_addJob_55 (lv_at hl 0 rfl) ?_
  refine lv_iload hx hb dX1_addJob_57 (lv_at hl 8 rfl) ?_
  refine pf_12_6 hx hb htg hown hK hW hS r3 q554 dX1_addJob_59 (fun H locs hW hS => ?_)
  obtain ⟨x12, e9⟩ : ∃ w : Mem, w = (up4 x11 12 ↑r3.1 ↑r3.2 6 p6) := ⟨_, rfl⟩
  rw [← e9] at hW
  have hX := lt_go hX e9
  refine lv_aload hx hb dX1_addJob_62 (lv_at hl 0 rfl) ?_
  refine lv_iconst (v := (0 : Int32)) hx hb dX1_addJob_64 (by decide) ?_
  refine pf_12_7 hx hb htg hown hK hW hS r3 q555 dX1_addJob_65 (fun H locs hW hS => ?_)
  obtain ⟨x13, e9⟩ : ∃ w : Mem, w = (up4 x12 12 ↑r3.1 ↑r3.2 7 (0 : Int32)) := ⟨_, rfl⟩
  rw [← e9] at hW
  have hX := lt_go hX e9
  refine lv_aload hx hb dX1_addJob_68 (lv_at hl 0 rfl) ?_
  refine lv_iconst (v := (-1 : Int32)) hx hb dX1_addJob_70 (by decide) ?_
  refine pf_12_8 hx hb htg hown hK hW hS r3 q556 dX1_addJob_71 (fun H locs hW hS => ?_)
  obtain ⟨x14, e9⟩ : ∃ w : Mem, w = (up4 x13 12 ↑r3.1 ↑r3.2 8 (-1 : Int32)) := ⟨_, rfl⟩
  rw [← e9] at hW
  have hX := lt_go hX e9
  refine lv_aload hx hb dX1_addJob_74 (lv_at hl 0 rfl) ?_
  refine lv_iconst (v := (-1 : Int32)) hx hb dX1_addJob_76 (by decide) ?_
  refine pf_12_9 hx hb htg hown hK hW hS r3 q557 dX1_addJob_77 (fun H locs hW hS => ?_)
  obtain ⟨x15, e9⟩ : ∃ w : Mem, w = (up4 x14 12 ↑r3.1 ↑r3.2 9 (-1 : Int32)) := ⟨_, rfl⟩
  rw [← e9] at hW
  have hX := lt_go hX e9
  refine lv_aload_n hx hb dX1_addJob_80 rfl (lv_at hl 2 rfl) ?_
  refine lv_dup hx hb dX1_addJob_81 rfl ?_
  refine gf_2_1 hx hb htg hown hK hW p0 q240 dX1_addJob_82 ?_
  refine lv_iconst (v := (1 : Int32)) hx hb dX1_addJob_85 (by decide) ?_
  refine lv_iadd hx hb dX1_addJob_86 ?_
  refine pf_2_1 hx hb htg hown hK hW hS p0 q240 dX1_addJob_87 (fun H locs hW hS => ?_)
  obtain ⟨x16, e9⟩ : ∃ w : Mem, w = (up4 x15 2 ↑p0 0 1 ((x15 2 ↑p0 0 1) + (1 : Int32))) := ⟨_, rfl⟩
  rw [← e9] at hW
  have hX := lt_go hX e9
  refine lv_aload_n hx hb dX1_addJob_90 rfl (lv_at hl 2 rfl) ?_
  refine lv_iload_n hx hb dX1_addJob_91 rfl (lv_at hl 3 rfl) ?_
  obtain ⟨r18, h17, hX⟩ := bd_go hX
  refine k_X1_armAt hx hb hml hown htg hK hW hS h17 q210 hl.1 (Nat.le_of_ble_eq_true rfl) (Nat.le_of_ble_eq_true rfl) (Nat.le_of_ble_eq_true rfl) ⟨Nat.zero_le _, Nat.zero_le _⟩ dX1_addJob_92 (fun H locs hW hS => ?_)
  refine lv_iload hx hb dX1_addJob_95 (lv_at hl 1 rfl) ?_
  obtain ⟨x21, h19, hX⟩ := bd_go hX
  refine k_X0_addToRow hx hb hml hown htg hK hW hS h19 q561 hl.1 (Nat.le_of_ble_eq_true rfl) (Nat.le_of_ble_eq_true rfl) (Nat.le_of_ble_eq_true rfl) ⟨Nat.zero_le _, Nat.zero_le _⟩ dX1_addJob_97 (fun H locs hW hS => ?_)
  refine lv_iload hx hb dX1_addJob_100 (lv_at hl 1 rfl) ?_
  have hX := Option.some.inj hX
  subst hX
  exact rt_i hx hb hr hlocks hW hS dX1_addJob_102
set_option maxHeartbeats 4000000 in
theorem k_X1_addJob {p : Program} {l : Launch} {e : Env} {R : Room} {s : State} {m : MethodId} {args : Array Value} {below : List Frame} {meth : Method} {c : Code} {H : Heap} {locs : List Loc} {cells slots : Nat} {Q : State → Prop} {cc : ByteArray} {pc nL idx : Nat} {own : String} {ls : Array Slot} {rest : List Value} {G : Geo} {x y : Mem} {H0 : Heap} {p0 : Fin 10} {p1 : Int32} {p2 : Int32} {p3 : Int32} {p4 : Int32} {p5 : Int32} {p6 : Int32} {v : Int32} {z : Mem} (hx : p.tables.exec = Jvm.exec) (hb : c.code = cc) (hml : c.maxLocals = nL) (hown : s.vm.findClass own = some m.cls) (htg : ∀ w ∈ wsG, w.before args s = true) (hK : Kt G s) (hW : Wh G x y H) (hS : va_S (gF G) H0 H locs) (h : m_X1_addJob p0 p1 p2 p3 p4 p5 p6 x = some (v, z)) (hlk : Cond.methodLink own idx yX1_addJob ∈ wsG) (hn : ls.size = nL) (hr : (rest.map fun v => v.category).sum ≤ 8) (hR1 : 1 + 1 ≤ R.frames) (hR2 : 8 + (9 + 11) + 23 ≤ R.locals) (hf : cells ≤ R.cells ∧ slots ≤ R.slots) (hdg : decode cc pc = .ok (.invokevirtual idx, 3)) (kk : ∀ (H1 : Heap) (locs1 : List Loc), Wh G z y H1 → va_S (gF G) H0 H1 locs1 → W p l e R s m args below meth c H1 locs1 cells slots Q (F0 m (pc + 3) ls (.int v :: rest))) : W p l e R s m args below meth c H locs cells slots Q (F0 m pc ls (.int p6 :: .int p5 :: .int p4 :: .int p3 :: .int p2 :: .int p1 :: .ref (gA G 2 ↑p0 0) :: rest)) := by
  refine va_calli (va_runV (As := [.int p1, .int p2, .int p3, .int p4, .int p5, .int p6]) (rest := rest) ⟨hx, hb, hml, hown, htg⟩ (c_X1_addJob l G x y p0 p1 p2 p3 p4 p5 p6 (v, z) h) (cwV 6 htg (gd_V hlk q545 q546 q16 q547) rfl rfl rfl (by decide +kernel) ⟨hR1, hR2⟩) ⟨fun a U g mk q => ⟨q.1, q.2.1.calling, q.2.2⟩, rc_2 hK hW p0, fun U hU hW9 => ⟨rfl, hK.warm hW9, by rw [hU]; exact hW⟩⟩ rfl rfl hn rfl (lv_room hr) hdg hf) hS (fun _ _ h9 => h9) (fun _ h9 => h9) ?_
  intro r9 u t H1 locs1 ht hvm hw hB hz1 hk1 hS1
  replace hB : Wh G z y t.heap := hB
  rw [ht] at hB
  replace hw : r9 = v := hw
  subst hw
  exact kk H1 locs1 hB hS1
/-! METHOD X1_armsBefore -/
def m_X1_armsBefore_j52 (p0 : Fin 10) (p1 : Int32) (k14 : Int32 → Int32 → Int32 → Mem → Option Int32) (x2 : Int32) (x3 : Int32) (x4 : Int32) (x : Mem) : Option Int32 :=
  lt_ (x4 + (1 : Int32)) fun x4_14 => k14 x2 x3 x4_14 x
def m_X1_armsBefore_j49 (p0 : Fin 10) (p1 : Int32) (k14 : Int32 → Int32 → Int32 → Mem → Option Int32) (x2 : Int32) (x3 : Int32) (x4 : Int32) (x : Mem) : Option Int32 :=
  lt_ (x3 + (1 : Int32)) fun x3_13 => m_X1_armsBefore_j52 p0 p1 k14 x2 x3_13 x4 x
def m_X1_armsBefore_b14 (p0 : Fin 10) (p1 : Int32) (k14 : Int32 → Int32 → Int32 → Mem → Option Int32) (x2 : Int32) (x3 : Int32) (x4 : Int32) (x : Mem) : Option Int32 :=
  if (3 : Int32) ≤ x4 then (some x3) else (bd_ (m_X1_armAt p0 x4) fun r8 => lt_ (x 0 ↑r8.1 ↑r8.2 7) fun x5_9 => if x2 < x5_9 then (m_X1_armsBefore_j49 p0 p1 k14 x2 x3 x4 x) else (if x5_9 = x2 then (if p1 ≤ x4 then (m_X1_armsBefore_j52 p0 p1 k14 x2 x3 x4 x) else (m_X1_armsBefore_j49 p0 p1 k14 x2 x3 x4 x)) else (m_X1_armsBefore_j52 p0 p1 k14 x2 x3 x4 x)))
def m_X1_armsBefore_l14 (p0 : Fin 10) (p1 : Int32) : Nat → Int32 → Int32 → Int32 → Mem → Option Int32
  | 0, _, _, _, _ => none
  | n + 1, x2, x3, x4, x => m_X1_armsBefore_b14 p0 p1 (m_X1_armsBefore_l14 p0 p1 n) x2 x3 x4 x
def m_X1_armsBefore (p0 : Fin 10) (p1 : Int32) (x : Mem) : Option Int32 :=
  bd_ (m_X1_armAt p0 p1) fun r2 => lt_ (x 0 ↑r2.1 ↑r2.2 7) fun x2_3 => lt_ (0 : Int32) fun x3_4 => lt_ (0 : Int32) fun x4_5 => m_X1_armsBefore_l14 p0 p1 FU x2_3 x3_4 x4_5 x
abbrev WS_X1_armsBefore : List Cond := .code yX1_armsBefore cX1_armsBefore 6 (some .int) :: wsG
abbrev RM_X1_armsBefore : Room := { frames := 1, cells := 0, slots := 0, locals := 21 }
set_option maxHeartbeats 4000000 in
set_option maxRecDepth 100000 in
theorem c_X1_armsBefore (l : Launch) (G : Geo) (x y : Mem) (p0 : Fin 10) (p1 : Int32) (r : Int32) (h : m_X1_armsBefore p0 p1 x = some r) : Met l yX1_armsBefore WS_X1_armsBefore RM_X1_armsBefore (Pw G x y [.ref (gA G 2 ↑p0 0), .int p1]) (Qi G x y r) 0 0 (gF G) := by
  refine Met.ofW (cc := cX1_armsBefore) (maxL := 6) (ret := (some .int)) (by decide) rfl ?_
  intro p e s m args below meth c s₁ B hml hv
  obtain ⟨rfl, hK, hW⟩ := hv
  have hx := B.exec
  have hb := B.bytes
  have hr := B.returns
  have hts := atoms_spec (ws := WS_X1_armsBefore) B.pre
  have htg : ∀ w ∈ wsG, w.before _ s = true := fun w h => hts w (List.mem_cons_of_mem _ h)
  have hown : s.vm.findClass RX1 = some m.cls := findClass_of_methodNamed B.named
  have hlocks := B.notSynchronized
  have hS : va_S (gF G) s.heap s.heap [] := va_S.rf
  have hl := lv_entry ([.ref (gA G 2 ↑p0 0), .int p1]) (n := 6) (Nat.le_of_ble_eq_true rfl)
  rw [lg_entry_eq]
  generalize (lg_sl ([.ref (gA G 2 ↑p0 0), .int p1]) ++ List.replicate (6 - (lg_sl ([.ref (gA G 2 ↑p0 0), .int p1])).length) Slot.unset).toArray = ls at hl ⊢
  have hl : lv_has ls 6 [(0, .ref (gA G 2 ↑p0 0)), (1, .int p1)] := hl
  have hX := h
  unfold m_X1_armsBefore at hX
  have J_52 : ∀ (k14 : Int32 → Int32 → Int32 → Mem → Option Int32) (hk14 : ∀ (x2 : Int32) (x3 : Int32) (x4 : Int32) (x : Mem) (H : Heap) (locs : List Loc) (ls : Array Slot), Wh G x y H → va_S (gF G) s.heap H locs → lv_has ls 6 [(0, .ref (gA G 2 ↑p0 0)), (1, .int p1), (2, .int x2), (3, .int x3), (4, .int x4)] → k14 x2 x3 x4 x = some r → W p l e (headSpec WS_X1_armsBefore RM_X1_armsBefore).room s m ([.ref (gA G 2 ↑p0 0), .int p1] : List Value).toArray below meth c H locs 0 0 (MQ below (Qi G x y r) ([.ref (gA G 2 ↑p0 0), .int p1] : List Value).toArray s 0 0 (gF G)) (F0 m 14 ls [])), ∀ (x2 : Int32) (x3 : Int32) (x4 : Int32) (x : Mem) (H : Heap) (locs : List Loc) (ls : Array Slot), Wh G x y H → va_S (gF G) s.heap H locs → lv_has ls 6 [(0, .ref (gA G 2 ↑p0 0)), (1, .int p1), (2, .int x2), (3, .int x3), (4, .int x4)] → m_X1_armsBefore_j52 p0 p1 k14 x2 x3 x4 x = some r → W p l e (headSpec WS_X1_armsBefore RM_X1_armsBefore).room s m ([.ref (gA G 2 ↑p0 0), .int p1] : List Value).toArray below meth c H locs 0 0 (MQ below (Qi G x y r) ([.ref (gA G 2 ↑p0 0), .int p1] : List Value).toArray s 0 0 (gF G)) (F0 m 52 ls []) := by
    intro k14 hk14 x2 x3 x4 x H locs ls hW hS hl hX
    unfold m_X1_armsBefore_j52 at hX
    obtain ⟨x4_14, e9⟩ : ∃ w : Int32, w = (x4 + (1 : Int32)) := ⟨_, rfl⟩
    have hX := lt_go hX e9
    refine lv_iinc (v := x4_14) (lv' := [(4, .int x4_14), (0, .ref (gA G 2 ↑p0 0)), (1, .int p1), (2, .int x2), (3, .int x3)]) hx hb dX1_armsBefore_52 hl (k := 4) rfl (by rw [e9]; rfl) (by decide) rfl (fun ls hl => ?_)
    refine lv_goto (tgt := 14) hx hb dX1_armsBefore_55 (by decide) ?_
    exact hk14 _ _ _ _ _ _ _ hW hS (lv_sub hl [1, 2, 3, 4, 0] rfl) hX
  have J_49 : ∀ (k14 : Int32 → Int32 → Int32 → Mem → Option Int32) (hk14 : ∀ (x2 : Int32) (x3 : Int32) (x4 : Int32) (x : Mem) (H : Heap) (locs : List Loc) (ls : Array Slot), Wh G x y H → va_S (gF G) s.heap H locs → lv_has ls 6 [(0, .ref (gA G 2 ↑p0 0)), (1, .int p1), (2, .int x2), (3, .int x3), (4, .int x4)] → k14 x2 x3 x4 x = some r → W p l e (headSpec WS_X1_armsBefore RM_X1_armsBefore).room s m ([.ref (gA G 2 ↑p0 0), .int p1] : List Value).toArray below meth c H locs 0 0 (MQ below (Qi G x y r) ([.ref (gA G 2 ↑p0 0), .int p1] : List Value).toArray s 0 0 (gF G)) (F0 m 14 ls [])), ∀ (x2 : Int32) (x3 : Int32) (x4 : Int32) (x : Mem) (H : Heap) (locs : List Loc) (ls : Array Slot), Wh G x y H → va_S (gF G) s.heap H locs → lv_has ls 6 [(0, .ref (gA G 2 ↑p0 0)), (1, .int p1), (2, .int x2), (3, .int x3), (4, .int x4)] → m_X1_armsBefore_j49 p0 p1 k14 x2 x3 x4 x = some r → W p l e (headSpec WS_X1_armsBefore RM_X1_armsBefore).room s m ([.ref (gA G 2 ↑p0 0), .int p1] : List Value).toArray below meth c H locs 0 0 (MQ below (Qi G x y r) ([.ref (gA G 2 ↑p0 0), .int p1] : List Value).toArray s 0 0 (gF G)) (F0 m 49 ls []) := by
    intro k14 hk14 x2 x3 x4 x H locs ls hW hS hl hX
    unfold m_X1_armsBefore_j49 at hX
    obtain ⟨x3_13, e9⟩ : ∃ w : Int32, w = (x3 + (1 : Int32)) := ⟨_, rfl⟩
    have hX := lt_go hX e9
    refine lv_iinc (v := x3_13) (lv' := [(3, .int x3_13), (0, .ref (gA G 2 ↑p0 0)), (1, .int p1), (2, .int x2), (4, .int x4)]) hx hb dX1_armsBefore_49 hl (k := 3) rfl (by rw [e9]; rfl) (by decide) rfl (fun ls hl => ?_)
    exact J_52 k14 hk14 _ _ _ _ _ _ _ hW hS (lv_sub hl [1, 2, 3, 0, 4] rfl) hX
  have B_14 : ∀ (k14 : Int32 → Int32 → Int32 → Mem → Option Int32) (hk14 : ∀ (x2 : Int32) (x3 : Int32) (x4 : Int32) (x : Mem) (H : Heap) (locs : List Loc) (ls : Array Slot), Wh G x y H → va_S (gF G) s.heap H locs → lv_has ls 6 [(0, .ref (gA G 2 ↑p0 0)), (1, .int p1), (2, .int x2), (3, .int x3), (4, .int x4)] → k14 x2 x3 x4 x = some r → W p l e (headSpec WS_X1_armsBefore RM_X1_armsBefore).room s m ([.ref (gA G 2 ↑p0 0), .int p1] : List Value).toArray below meth c H locs 0 0 (MQ below (Qi G x y r) ([.ref (gA G 2 ↑p0 0), .int p1] : List Value).toArray s 0 0 (gF G)) (F0 m 14 ls [])), ∀ (x2 : Int32) (x3 : Int32) (x4 : Int32) (x : Mem) (H : Heap) (locs : List Loc) (ls : Array Slot), Wh G x y H → va_S (gF G) s.heap H locs → lv_has ls 6 [(0, .ref (gA G 2 ↑p0 0)), (1, .int p1), (2, .int x2), (3, .int x3), (4, .int x4)] → m_X1_armsBefore_b14 p0 p1 k14 x2 x3 x4 x = some r → W p l e (headSpec WS_X1_armsBefore RM_X1_armsBefore).room s m ([.ref (gA G 2 ↑p0 0), .int p1] : List Value).toArray below meth c H locs 0 0 (MQ below (Qi G x y r) ([.ref (gA G 2 ↑p0 0), .int p1] : List Value).toArray s 0 0 (gF G)) (F0 m 14 ls []) := by
    intro k14 hk14 x2 x3 x4 x H locs ls hW hS hl hX
    unfold m_X1_armsBefore_b14 at hX
    refine lv_iload hx hb dX1_armsBefore_14 (lv_at hl 4 rfl) ?_
    refine lv_iconst (v := (3 : Int32)) hx hb dX1_armsBefore_16 (by decide) ?_
    refine lv_icmp_ge (tgt := 58) hx hb dX1_armsBefore_17 (by decide) (fun c6 => ?_) (fun c6 => ?_)
    · have hX := it_t hX c6
      refine lv_iload_n hx hb dX1_armsBefore_58 rfl (lv_at hl 3 rfl) ?_
      have hX := Option.some.inj hX
      subst hX
      exact rt_i hx hb hr hlocks hW hS dX1_armsBefore_59
    · have hX := it_f hX c6
      refine lv_aload_n hx hb dX1_armsBefore_20 rfl (lv_at hl 0 rfl) ?_
      refine lv_iload hx hb dX1_armsBefore_21 (lv_at hl 4 rfl) ?_
      obtain ⟨r8, h7, hX⟩ := bd_go hX
      refine k_X1_armAt hx hb hml hown htg hK hW hS h7 q210 hl.1 (Nat.le_of_ble_eq_true rfl) (Nat.le_of_ble_eq_true rfl) (Nat.le_of_ble_eq_true rfl) ⟨Nat.zero_le _, Nat.zero_le _⟩ dX1_armsBefore_23 (fun H locs hW hS => ?_)
      refine gf_0_7 hx hb htg hown hK hW r8 q648 dX1_armsBefore_26 ?_
      refine lv_topi (fun x5_9 e9 => ?_)
      have hX := lt_go hX e9
      refine lv_istore (lv' := [(5, .int x5_9), (0, .ref (gA G 2 ↑p0 0)), (1, .int p1), (2, .int x2), (3, .int x3), (4, .int x4)]) hx hb dX1_armsBefore_29 hl (by decide) rfl (fun ls hl => ?_)
      refine lv_iload hx hb dX1_armsBefore_31 (lv_at hl 0 rfl) ?_
      refine lv_iload_n hx hb dX1_armsBefore_33 rfl (lv_at hl 3 rfl) ?_
      refine lv_icmp_gt (tgt := 49) hx hb dX1_armsBefore_34 (by decide) (fun c10 => ?_) (fun c10 => ?_)
      · have hX := it_t hX c10
        exact J_49 k14 hk14 _ _ _ _ _ _ _ hW hS (lv_sub hl [1, 2, 3, 4, 5] rfl) hX
      · have hX := it_f hX c10
        refine lv_iload hx hb dX1_armsBefore_37 (lv_at hl 0 rfl) ?_
        refine lv_iload_n hx hb dX1_armsBefore_39 rfl (lv_at hl 3 rfl) ?_
        refine lv_icmp_ne (tgt := 52) hx hb dX1_armsBefore_40 (by decide) (fun c11 => ?_) (fun c11 => ?_)
        · have hX := it_f hX c11
          exact J_52 k14 hk14 _ _ _ _ _ _ _ hW hS (lv_sub hl [1, 2, 3, 4, 5] rfl) hX
        · have hX := it_t hX c11
          refine lv_iload hx hb dX1_armsBefore_43 (lv_at hl 5 rfl) ?_
          refine lv_iload_n hx hb dX1_armsBefore_45 rfl (lv_at hl 2 rfl) ?_
          refine lv_icmp_ge (tgt := 52) hx hb dX1_armsBefore_46 (by decide) (fun c12 => ?_) (fun c12 => ?_)
          · have hX := it_t hX c12
            exact J_52 k14 hk14 _ _ _ _ _ _ _ hW hS (lv_sub hl [1, 2, 3, 4, 5] rfl) hX
          · have hX := it_f hX c12
            exact J_49 k14 hk14 _ _ _ _ _ _ _ hW hS (lv_sub hl [1, 2, 3, 4, 5] rfl) hX
  have L_14 : ∀ (n : Nat), ∀ (x2 : Int32) (x3 : Int32) (x4 : Int32) (x : Mem) (H : Heap) (locs : List Loc) (ls : Array Slot), Wh G x y H → va_S (gF G) s.heap H locs → lv_has ls 6 [(0, .ref (gA G 2 ↑p0 0)), (1, .int p1), (2, .int x2), (3, .int x3), (4, .int x4)] → m_X1_armsBefore_l14 p0 p1 n x2 x3 x4 x = some r → W p l e (headSpec WS_X1_armsBefore RM_X1_armsBefore).room s m ([.ref (gA G 2 ↑p0 0), .int p1] : List Value).toArray below meth c H locs 0 0 (MQ below (Qi G x y r) ([.ref (gA G 2 ↑p0 0), .int p1] : List Value).toArray s 0 0 (gF G)) (F0 m 14 ls []) := by
    intro n
    induction n with
    | zero => intro x2 x3 x4 x H locs ls hW hS hl hX; exact no_go hX
    | succ n ih => intro x2 x3 x4 x H locs ls hW hS hl hX; exact B_14 _ ih _ _ _ _ _ _ _ hW hS hl hX
  refine lv_aload_n hx hb dX1_armsBefore_0 rfl (lv_at hl 0 rfl) ?_
  refine lv_iload_n hx hb dX1_armsBefore_1 rfl (lv_at hl 1 rfl) ?_
  obtain ⟨r2, h1, hX⟩ := bd_go hX
  refine k_X1_armAt hx hb hml hown htg hK hW hS h1 q210 hl.1 (Nat.le_of_ble_eq_true rfl) (Nat.le_of_ble_eq_true rfl) (Nat.le_of_ble_eq_true rfl) ⟨Nat.zero_le _, Nat.zero_le _⟩ dX1_armsBefore_2 (fun H locs hW hS => ?_)
  refine gf_0_7 hx hb htg hown hK hW r2 q648 dX1_armsBefore_5 ?_
  refine lv_topi (fun x2_3 e9 => ?_)
  have hX := lt_go hX e9
  refine lv_istore_n (lv' := [(2, .int x2_3), (0, .ref (gA G 2 ↑p0 0)), (1, .int p1)]) hx hb dX1_armsBefore_8 rfl hl (by decide) rfl (fun ls hl => ?_)
  refine lv_iconst (v := (0 : Int32)) hx hb dX1_armsBefore_9 (by decide) ?_
  refine lv_topi (fun x3_4 e9 => ?_)
  have hX := lt_go hX e9
  refine lv_istore_n (lv' := [(3, .int x3_4), (2, .int x2_3), (0, .ref (gA G 2 ↑p0 0)), (1, .int p1)]) hx hb dX1_armsBefore_10 rfl hl (by decide) rfl (fun ls hl => ?_)
  refine lv_iconst (v := (0 : Int32)) hx hb dX1_armsBefore_11 (by decide) ?_
  refine lv_topi (fun x4_5 e9 => ?_)
  have hX := lt_go hX e9
  refine lv_istore (lv' := [(4, .int x4_5), (3, .int x3_4), (2, .int x2_3), (0, .ref (gA G 2 ↑p0 0)), (1, .int p1)]) hx hb dX1_armsBefore_12 hl (by decide) rfl (fun ls hl => ?_)
  exact L_14 FU _ _ _ _ _ _ _ hW hS (lv_sub hl [3, 4, 2, 1, 0] rfl) hX
set_option maxHeartbeats 4000000 in
theorem k_X1_armsBefore {p : Program} {l : Launch} {e : Env} {R : Room} {s : State} {m : MethodId} {args : Array Value} {below : List Frame} {meth : Method} {c : Code} {H : Heap} {locs : List Loc} {cells slots : Nat} {Q : State → Prop} {cc : ByteArray} {pc nL idx : Nat} {own : String} {ls : Array Slot} {rest : List Value} {G : Geo} {x y : Mem} {H0 : Heap} {p0 : Fin 10} {p1 : Int32} {v : Int32} (hx : p.tables.exec = Jvm.exec) (hb : c.code = cc) (hml : c.maxLocals = nL) (hown : s.vm.findClass own = some m.cls) (htg : ∀ w ∈ wsG, w.before args s = true) (hK : Kt G s) (hW : Wh G x y H) (hS : va_S (gF G) H0 H locs) (h : m_X1_armsBefore p0 p1 x = some v) (hlk : Cond.methodLink own idx yX1_armsBefore ∈ wsG) (hn : ls.size = nL) (hr : (rest.map fun v => v.category).sum ≤ 8) (hR1 : 1 + 1 ≤ R.frames) (hR2 : 8 + (6 + 11) + 21 ≤ R.locals) (hf : cells ≤ R.cells ∧ slots ≤ R.slots) (hdg : decode cc pc = .ok (.invokevirtual idx, 3)) (kk : ∀ (H1 : Heap) (locs1 : List Loc), Wh G x y H1 → va_S (gF G) H0 H1 locs1 → W p l e R s m args below meth c H1 locs1 cells slots Q (F0 m (pc + 3) ls (.int v :: rest))) : W p l e R s m args below meth c H locs cells slots Q (F0 m pc ls (.int p1 :: .ref (gA G 2 ↑p0 0) :: rest)) := by
  refine va_calli (va_runV (As := [.int p1]) (rest := rest) ⟨hx, hb, hml, hown, htg⟩ (c_X1_armsBefore l G x y p0 p1 v h) (cwV 1 htg (gd_V hlk q689 q690 q16 q691) rfl rfl rfl (by decide +kernel) ⟨hR1, hR2⟩) ⟨fun a U g mk q => ⟨q.1, q.2.1.calling, q.2.2⟩, rc_2 hK hW p0, fun U hU hW9 => ⟨rfl, hK.warm hW9, by rw [hU]; exact hW⟩⟩ rfl rfl hn rfl (lv_room hr) hdg hf) hS (fun _ _ h9 => h9) (fun _ h9 => h9) ?_
  intro r9 u t H1 locs1 ht hvm hw hB hz1 hk1 hS1
  replace hB : Wh G x y t.heap := hB
  rw [ht] at hB
  replace hw : r9 = v := hw
  subst hw
  exact kk H1 locs1 hB hS1
/-! METHOD X10_copyFrom -/
def m_X10_copyFrom (p0 : Fin 10) (p1 : Fin 10) (x : Mem) : Option Mem :=
  lt_ (up4 x 3 ↑p0 0 0 (x 3 ↑p1 0 0)) fun x1 => bd_ (m_X11_copyNumbers (4, ↑p1, 0) 8 (4, ↑p0, 0) 8 x1) fun x4 => bd_ (m_X11_copyNumbers (5, ↑p1, 0) 8 (5, ↑p0, 0) 8 x4) fun x7 => some x7
abbrev WS_X10_copyFrom : List Cond := .code yX10_copyFrom cX10_copyFrom 2 none :: wsG
abbrev RM_X10_copyFrom : Room := { frames := 1, cells := 0, slots := 0, locals := 22 }
set_option maxHeartbeats 4000000 in
set_option maxRecDepth 100000 in
theorem c_X10_copyFrom (l : Launch) (G : Geo) (x y : Mem) (p0 : Fin 10) (p1 : Fin 10) (r : Mem) (h : m_X10_copyFrom p0 p1 x = some r) : Met l yX10_copyFrom WS_X10_copyFrom RM_X10_copyFrom (Pw G x y [.ref (gA G 3 ↑p0 0), .ref (gA G 3 ↑p1 0)]) (Qv G r y) 0 0 (gF G) := by
  refine Met.ofW (cc := cX10_copyFrom) (maxL := 2) (ret := none) (by decide) rfl ?_
  intro p e s m args below meth c s₁ B hml hv
  obtain ⟨rfl, hK, hW⟩ := hv
  have hx := B.exec
  have hb := B.bytes
  have hr := B.returns
  have hts := atoms_spec (ws := WS_X10_copyFrom) B.pre
  have htg : ∀ w ∈ wsG, w.before _ s = true := fun w h => hts w (List.mem_cons_of_mem _ h)
  have hown : s.vm.findClass RX10 = some m.cls := findClass_of_methodNamed B.named
  have hlocks := B.notSynchronized
  have hS : va_S (gF G) s.heap s.heap [] := va_S.rf
  have hl := lv_entry ([.ref (gA G 3 ↑p0 0), .ref (gA G 3 ↑p1 0)]) (n := 2) (Nat.le_of_ble_eq_true rfl)
  rw [lg_entry_eq]
  generalize (lg_sl ([.ref (gA G 3 ↑p0 0), .ref (gA G 3 ↑p1 0)]) ++ List.replicate (2 - (lg_sl ([.ref (gA G 3 ↑p0 0), .ref (gA G 3 ↑p1 0)])).length) Slot.unset).toArray = ls at hl ⊢
  have hl : lv_has ls 2 [(0, .ref (gA G 3 ↑p0 0)), (1, .ref (gA G 3 ↑p1 0))] := hl
  have hX := h
  unfold m_X10_copyFrom at hX
  refine lv_aload_n hx hb dX10_copyFrom_0 rfl (lv_at hl 0 rfl) ?_
  refine lv_aload_n hx hb dX10_copyFrom_1 rfl (lv_at hl 1 rfl) ?_
  refine gf_3_0 hx hb htg hown hK hW p1 q250 dX10_copyFrom_2 ?_
  refine pf_3_0 hx hb htg hown hK hW hS p0 q250 dX10_copyFrom_5 (fun H locs hW hS => ?_)
  obtain ⟨x1, e9⟩ : ∃ w : Mem, w = (up4 x 3 ↑p0 0 0 (x 3 ↑p1 0 0)) := ⟨_, rfl⟩
  rw [← e9] at hW
  have hX := lt_go hX e9
  refine lv_aload_n hx hb dX10_copyFrom_8 rfl (lv_at hl 1 rfl) ?_
  refine gf_3_1 hx hb htg hown hK hW p1 q65 dX10_copyFrom_9 ?_
  refine lv_aload_n hx hb dX10_copyFrom_12 rfl (lv_at hl 0 rfl) ?_
  refine gf_3_1 hx hb htg hown hK hW p0 q65 dX10_copyFrom_13 ?_
  obtain ⟨x4, h2, hX⟩ := bd_go hX
  refine k_X11_copyNumbers_n hx hb hml hown htg hK hW hS (ia_4 p1) (show (4 : Nat) < 40 by decide) (ia_4 p0) (show (4 : Nat) < 40 by decide) h2 (List.mem_of_getElem? (i := 1) rfl) hl.1 (Nat.le_of_ble_eq_true rfl) (Nat.le_of_ble_eq_true rfl) (Nat.le_of_ble_eq_true rfl) ⟨Nat.zero_le _, Nat.zero_le _⟩ dX10_copyFrom_16 (fun H locs hW hS => ?_)
  refine lv_aload_n hx hb dX10_copyFrom_19 rfl (lv_at hl 1 rfl) ?_
  refine gf_3_2 hx hb htg hown hK hW p1 q66 dX10_copyFrom_20 ?_
  refine lv_aload_n hx hb dX10_copyFrom_23 rfl (lv_at hl 0 rfl) ?_
  refine gf_3_2 hx hb htg hown hK hW p0 q66 dX10_copyFrom_24 ?_
  obtain ⟨x7, h5, hX⟩ := bd_go hX
  refine k_X11_copyNumbers_n hx hb hml hown htg hK hW hS (ia_5 p1) (show (5 : Nat) < 40 by decide) (ia_5 p0) (show (5 : Nat) < 40 by decide) h5 (List.mem_of_getElem? (i := 1) rfl) hl.1 (Nat.le_of_ble_eq_true rfl) (Nat.le_of_ble_eq_true rfl) (Nat.le_of_ble_eq_true rfl) ⟨Nat.zero_le _, Nat.zero_le _⟩ dX10_copyFrom_27 (fun H locs hW hS => ?_)
  have hX := Option.some.inj hX
  subst hX
  exact rt_v hx hb hr hlocks hW hS dX10_copyFrom_30
set_option maxHeartbeats 4000000 in
theorem k_X10_copyFrom {p : Program} {l : Launch} {e : Env} {R : Room} {s : State} {m : MethodId} {args : Array Value} {below : List Frame} {meth : Method} {c : Code} {H : Heap} {locs : List Loc} {cells slots : Nat} {Q : State → Prop} {cc : ByteArray} {pc nL idx : Nat} {own : String} {ls : Array Slot} {rest : List Value} {G : Geo} {x y : Mem} {H0 : Heap} {p0 : Fin 10} {p1 : Fin 10} {z : Mem} (hx : p.tables.exec = Jvm.exec) (hb : c.code = cc) (hml : c.maxLocals = nL) (hown : s.vm.findClass own = some m.cls) (htg : ∀ w ∈ wsG, w.before args s = true) (hK : Kt G s) (hW : Wh G x y H) (hS : va_S (gF G) H0 H locs) (h : m_X10_copyFrom p0 p1 x = some z) (hlk : Cond.methodLink own idx yX10_copyFrom ∈ wsG) (hn : ls.size = nL) (hr : (rest.map fun v => v.category).sum ≤ 8) (hR1 : 1 + 1 ≤ R.frames) (hR2 : 8 + (2 + 11) + 22 ≤ R.locals) (hf : cells ≤ R.cells ∧ slots ≤ R.slots) (hdg : decode cc pc = .ok (.invokevirtual idx, 3)) (kk : ∀ (H1 : Heap) (locs1 : List Loc), Wh G z y H1 → va_S (gF G) H0 H1 locs1 → W p l e R s m args below meth c H1 locs1 cells slots Q (F0 m (pc + 3) ls (rest))) : W p l e R s m args below meth c H locs cells slots Q (F0 m pc ls (.ref (gA G 3 ↑p1 0) :: .ref (gA G 3 ↑p0 0) :: rest)) := by
  refine va_callv (va_runV (As := [.ref (gA G 3 ↑p1 0)]) (rest := rest) ⟨hx, hb, hml, hown, htg⟩ (c_X10_copyFrom l G x y p0 p1 z h) (cwV 1 htg (gd_V hlk q247 q248 q39 q249) rfl rfl rfl (by decide +kernel) ⟨hR1, hR2⟩) ⟨fun a U g mk q => ⟨q.1, q.2.1.calling, q.2.2⟩, rc_3 hK hW p0, fun U hU hW9 => ⟨rfl, hK.warm hW9, by rw [hU]; exact hW⟩⟩ rfl rfl hn rfl (lv_room hr) hdg hf) hS (fun _ _ h9 => h9) (fun _ h9 => h9) ?_
  intro u t H1 locs1 ht hvm hw hB hz1 hk1 hS1
  replace hB : Wh G z y t.heap := hB
  rw [ht] at hB
  exact kk H1 locs1 hB hS1
/-! METHOD X7_copyFrom -/
def m_X7_copyFrom (p0 : Fin 10) (p1 : Fin 10) (x : Mem) : Option Mem :=
  lt_ (up4 x 6 ↑p0 0 0 (x 6 ↑p1 0 0)) fun x1 => bd_ (m_X11_copyNumbers (7, ↑p1, 0) 96 (7, ↑p0, 0) 96 x1) fun x4 => some x4
abbrev WS_X7_copyFrom : List Cond := .code yX7_copyFrom cX7_copyFrom 2 none :: wsG
abbrev RM_X7_copyFrom : Room := { frames := 1, cells := 0, slots := 0, locals := 22 }
set_option maxHeartbeats 4000000 in
set_option maxRecDepth 100000 in
theorem c_X7_copyFrom (l : Launch) (G : Geo) (x y : Mem) (p0 : Fin 10) (p1 : Fin 10) (r : Mem) (h : m_X7_copyFrom p0 p1 x = some r) : Met l yX7_copyFrom WS_X7_copyFrom RM_X7_copyFrom (Pw G x y [.ref (gA G 6 ↑p0 0), .ref (gA G 6 ↑p1 0)]) (Qv G r y) 0 0 (gF G) := by
  refine Met.ofW (cc := cX7_copyFrom) (maxL := 2) (ret := none) (by decide) rfl ?_
  intro p e s m args below meth c s₁ B hml hv
  obtain ⟨rfl, hK, hW⟩ := hv
  have hx := B.exec
  have hb := B.bytes
  have hr := B.returns
  have hts := atoms_spec (ws := WS_X7_copyFrom) B.pre
  have htg : ∀ w ∈ wsG, w.before _ s = true := fun w h => hts w (List.mem_cons_of_mem _ h)
  have hown : s.vm.findClass RX7 = some m.cls := findClass_of_methodNamed B.named
  have hlocks := B.notSynchronized
  have hS : va_S (gF G) s.heap s.heap [] := va_S.rf
  have hl := lv_entry ([.ref (gA G 6 ↑p0 0), .ref (gA G 6 ↑p1 0)]) (n := 2) (Nat.le_of_ble_eq_true rfl)
  rw [lg_entry_eq]
  generalize (lg_sl ([.ref (gA G 6 ↑p0 0), .ref (gA G 6 ↑p1 0)]) ++ List.replicate (2 - (lg_sl ([.ref (gA G 6 ↑p0 0), .ref (gA G 6 ↑p1 0)])).length) Slot.unset).toArray = ls at hl ⊢
  have hl : lv_has ls 2 [(0, .ref (gA G 6 ↑p0 0)), (1, .ref (gA G 6 ↑p1 0))] := hl
  have hX := h
  unfold m_X7_copyFrom at hX
  refine lv_aload_n hx hb dX7_copyFrom_0 rfl (lv_at hl 0 rfl) ?_
  refine lv_aload_n hx hb dX7_copyFrom_1 rfl (lv_at hl 1 rfl) ?_
  refine gf_6_0 hx hb htg hown hK hW p1 q257 dX7_copyFrom_2 ?_
  refine pf_6_0 hx hb htg hown hK hW hS p0 q257 dX7_copyFrom_5 (fun H locs hW hS => ?_)
  obtain ⟨x1, e9⟩ : ∃ w : Mem, w = (up4 x 6 ↑p0 0 0 (x 6 ↑p1 0 0)) := ⟨_, rfl⟩
  rw [← e9] at hW
  have hX := lt_go hX e9
  refine lv_aload_n hx hb dX7_copyFrom_8 rfl (lv_at hl 1 rfl) ?_
  refine gf_6_1 hx hb htg hown hK hW p1 q71 dX7_copyFrom_9 ?_
  refine lv_aload_n hx hb dX7_copyFrom_12 rfl (lv_at hl 0 rfl) ?_
  refine gf_6_1 hx hb htg hown hK hW p0 q71 dX7_copyFrom_13 ?_
  obtain ⟨x4, h2, hX⟩ := bd_go hX
  refine k_X11_copyNumbers_n hx hb hml hown htg hK hW hS (ia_7 p1) (show (7 : Nat) < 40 by decide) (ia_7 p0) (show (7 : Nat) < 40 by decide) h2 (List.mem_of_getElem? (i := 2) rfl) hl.1 (Nat.le_of_ble_eq_true rfl) (Nat.le_of_ble_eq_true rfl) (Nat.le_of_ble_eq_true rfl) ⟨Nat.zero_le _, Nat.zero_le _⟩ dX7_copyFrom_16 (fun H locs hW hS => ?_)
  have hX := Option.some.inj hX
  subst hX
  exact rt_v hx hb hr hlocks hW hS dX7_copyFrom_19
set_option maxHeartbeats 4000000 in
theorem k_X7_copyFrom {p : Program} {l : Launch} {e : Env} {R : Room} {s : State} {m : MethodId} {args : Array Value} {below : List Frame} {meth : Method} {c : Code} {H : Heap} {locs : List Loc} {cells slots : Nat} {Q : State → Prop} {cc : ByteArray} {pc nL idx : Nat} {own : String} {ls : Array Slot} {rest : List Value} {G : Geo} {x y : Mem} {H0 : Heap} {p0 : Fin 10} {p1 : Fin 10} {z : Mem} (hx : p.tables.exec = Jvm.exec) (hb : c.code = cc) (hml : c.maxLocals = nL) (hown : s.vm.findClass own = some m.cls) (htg : ∀ w ∈ wsG, w.before args s = true) (hK : Kt G s) (hW : Wh G x y H) (hS : va_S (gF G) H0 H locs) (h : m_X7_copyFrom p0 p1 x = some z) (hlk : Cond.methodLink own idx yX7_copyFrom ∈ wsG) (hn : ls.size = nL) (hr : (rest.map fun v => v.category).sum ≤ 8) (hR1 : 1 + 1 ≤ R.frames) (hR2 : 8 + (2 + 11) + 22 ≤ R.locals) (hf : cells ≤ R.cells ∧ slots ≤ R.slots) (hdg : decode cc pc = .ok (.invokevirtual idx, 3)) (kk : ∀ (H1 : Heap) (locs1 : List Loc), Wh G z y H1 → va_S (gF G) H0 H1 locs1 → W p l e R s m args below meth c H1 locs1 cells slots Q (F0 m (pc + 3) ls (rest))) : W p l e R s m args below meth c H locs cells slots Q (F0 m pc ls (.ref (gA G 6 ↑p1 0) :: .ref (gA G 6 ↑p0 0) :: rest)) := by
  refine va_callv (va_runV (As := [.ref (gA G 6 ↑p1 0)]) (rest := rest) ⟨hx, hb, hml, hown, htg⟩ (c_X7_copyFrom l G x y p0 p1 z h) (cwV 1 htg (gd_V hlk q254 q255 q43 q256) rfl rfl rfl (by decide +kernel) ⟨hR1, hR2⟩) ⟨fun a U g mk q => ⟨q.1, q.2.1.calling, q.2.2⟩, rc_6 hK hW p0, fun U hU hW9 => ⟨rfl, hK.warm hW9, by rw [hU]; exact hW⟩⟩ rfl rfl hn rfl (lv_room hr) hdg hf) hS (fun _ _ h9 => h9) (fun _ h9 => h9) ?_
  intro u t H1 locs1 ht hvm hw hB hz1 hk1 hS1
  replace hB : Wh G z y t.heap := hB
  rw [ht] at hB
  exact kk H1 locs1 hB hS1
/-! METHOD X9_copyFrom -/
def m_X9_copyFrom (p0 : Fin 10 × Fin 4) (p1 : Fin 10 × Fin 4) (x : Mem) : Option Mem :=
  lt_ (up4 x 9 ↑p0.1 ↑p0.2 0 (x 9 ↑p1.1 ↑p1.2 0)) fun x1 => lt_ (up4 x1 9 ↑p0.1 ↑p0.2 1 (x1 9 ↑p1.1 ↑p1.2 1)) fun x2 => lt_ (up4 x2 9 ↑p0.1 ↑p0.2 2 (x2 9 ↑p1.1 ↑p1.2 2)) fun x3 => lt_ (up4 x3 9 ↑p0.1 ↑p0.2 3 (x3 9 ↑p1.1 ↑p1.2 3)) fun x4 => lt_ (up4 x4 9 ↑p0.1 ↑p0.2 4 (x4 9 ↑p1.1 ↑p1.2 4)) fun x5 => lt_ (up4 x5 9 ↑p0.1 ↑p0.2 5 (x5 9 ↑p1.1 ↑p1.2 5)) fun x6 => bd_ (m_X11_copyNumbers (10, ↑p1.1, ↑p1.2) 4 (10, ↑p0.1, ↑p0.2) 4 x6) fun x9 => some x9
abbrev WS_X9_copyFrom : List Cond := .code yX9_copyFrom cX9_copyFrom 2 none :: wsG
abbrev RM_X9_copyFrom : Room := { frames := 1, cells := 0, slots := 0, locals := 22 }
set_option maxHeartbeats 4000000 in
set_option maxRecDepth 100000 in
theorem c_X9_copyFrom (l : Launch) (G : Geo) (x y : Mem) (p0 : Fin 10 × Fin 4) (p1 : Fin 10 × Fin 4) (r : Mem) (h : m_X9_copyFrom p0 p1 x = some r) : Met l yX9_copyFrom WS_X9_copyFrom RM_X9_copyFrom (Pw G x y [.ref (gA G 9 ↑p0.1 ↑p0.2), .ref (gA G 9 ↑p1.1 ↑p1.2)]) (Qv G r y) 0 0 (gF G) := by
  refine Met.ofW (cc := cX9_copyFrom) (maxL := 2) (ret := none) (by decide) rfl ?_
  intro p e s m args below meth c s₁ B hml hv
  obtain ⟨rfl, hK, hW⟩ := hv
  have hx := B.exec
  have hb := B.bytes
  have hr := B.returns
  have hts := atoms_spec (ws := WS_X9_copyFrom) B.pre
  have htg : ∀ w ∈ wsG, w.before _ s = true := fun w h => hts w (List.mem_cons_of_mem _ h)
  have hown : s.vm.findClass RX9 = some m.cls := findClass_of_methodNamed B.named
  have hlocks := B.notSynchronized
  have hS : va_S (gF G) s.heap s.heap [] := va_S.rf
  have hl := lv_entry ([.ref (gA G 9 ↑p0.1 ↑p0.2), .ref (gA G 9 ↑p1.1 ↑p1.2)]) (n := 2) (Nat.le_of_ble_eq_true rfl)
  rw [lg_entry_eq]
  generalize (lg_sl ([.ref (gA G 9 ↑p0.1 ↑p0.2), .ref (gA G 9 ↑p1.1 ↑p1.2)]) ++ List.replicate (2 - (lg_sl ([.ref (gA G 9 ↑p0.1 ↑p0.2), .ref (gA G 9 ↑p1.1 ↑p1.2)])).length) Slot.unset).toArray = ls at hl ⊢
  have hl : lv_has ls 2 [(0, .ref (gA G 9 ↑p0.1 ↑p0.2)), (1, .ref (gA G 9 ↑p1.1 ↑p1.2))] := hl
  have hX := h
  unfold m_X9_copyFrom at hX
  refine lv_aload_n hx hb dX9_copyFrom_0 rfl (lv_at hl 0 rfl) ?_
  refine lv_aload_n hx hb dX9_copyFrom_1 rfl (lv_at hl 1 rfl) ?_
  refine gf_9_0 hx hb htg hown hK hW p1 q85 dX9_copyFrom_2 ?_
  refine pf_9_0 hx hb htg hown hK hW hS p0 q85 dX9_copyFrom_5 (fun H locs hW hS => ?_)
  obtain ⟨x1, e9⟩ : ∃ w : Mem, w = (up4 x 9 ↑p0.1 ↑p0.2 0 (x 9 ↑p1.1 ↑p1.2 0)) := ⟨_, rfl⟩
  rw [← e9] at hW
  have hX := lt_go hX e9
  refine lv_aload_n hx hb dX9_copyFrom_8 rfl (lv_at hl 0 rfl) ?_
  refine lv_aload_n hx hb dX9_copyFrom_9 rfl (lv_at hl 1 rfl) ?_
  refine gf_9_1 hx hb htg hown hK hW p1 q279 dX9_copyFrom_10 ?_
  refine pf_9_1 hx hb htg hown hK hW hS p0 q279 dX9_copyFrom_13 (fun H locs hW hS => ?_)
  obtain ⟨x2, e9⟩ : ∃ w : Mem, w = (up4 x1 9 ↑p0.1 ↑p0.2 1 (x1 9 ↑p1.1 ↑p1.2 1)) := ⟨_, rfl⟩
  rw [← e9] at hW
  have hX := lt_go hX e9
  refine lv_aload_n hx hb dX9_copyFrom_16 rfl (lv_at hl 0 rfl) ?_
  refine lv_aload_n hx hb dX9_copyFrom_17 rfl (lv_at hl 1 rfl) ?_
  refine gf_9_2 hx hb htg hown hK hW p1 q280 dX9_copyFrom_18 ?_
  refine pf_9_2 hx hb htg hown hK hW hS p0 q280 dX9_copyFrom_21 (fun H locs hW hS => ?_)
  obtain ⟨x3, e9⟩ : ∃ w : Mem, w = (up4 x2 9 ↑p0.1 ↑p0.2 2 (x2 9 ↑p1.1 ↑p1.2 2)) := ⟨_, rfl⟩
  rw [← e9] at hW
  have hX := lt_go hX e9
  refine lv_aload_n hx hb dX9_copyFrom_24 rfl (lv_at hl 0 rfl) ?_
  refine lv_aload_n hx hb dX9_copyFrom_25 rfl (lv_at hl 1 rfl) ?_
  refine gf_9_3 hx hb htg hown hK hW p1 q281 dX9_copyFrom_26 ?_
  refine pf_9_3 hx hb htg hown hK hW hS p0 q281 dX9_copyFrom_29 (fun H locs hW hS => ?_)
  obtain ⟨x4, e9⟩ : ∃ w : Mem, w = (up4 x3 9 ↑p0.1 ↑p0.2 3 (x3 9 ↑p1.1 ↑p1.2 3)) := ⟨_, rfl⟩
  rw [← e9] at hW
  have hX := lt_go hX e9
  refine lv_aload_n hx hb dX9_copyFrom_32 rfl (lv_at hl 0 rfl) ?_
  refine lv_aload_n hx hb dX9_copyFrom_33 rfl (lv_at hl 1 rfl) ?_
  refine gf_9_4 hx hb htg hown hK hW p1 q282 dX9_copyFrom_34 ?_
  refine pf_9_4 hx hb htg hown hK hW hS p0 q282 dX9_copyFrom_37 (fun H locs hW hS => ?_)
  obtain ⟨x5, e9⟩ : ∃ w : Mem, w = (up4 x4 9 ↑p0.1 ↑p0.2 4 (x4 9 ↑p1.1 ↑p1.2 4)) := ⟨_, rfl⟩
  rw [← e9] at hW
  have hX := lt_go hX e9
  refine lv_aload_n hx hb dX9_copyFrom_40 rfl (lv_at hl 0 rfl) ?_
  refine lv_aload_n hx hb dX9_copyFrom_41 rfl (lv_at hl 1 rfl) ?_
  refine gf_9_5 hx hb htg hown hK hW p1 q283 dX9_copyFrom_42 ?_
  refine pf_9_5 hx hb htg hown hK hW hS p0 q283 dX9_copyFrom_45 (fun H locs hW hS => ?_)
  obtain ⟨x6, e9⟩ : ∃ w : Mem, w = (up4 x5 9 ↑p0.1 ↑p0.2 5 (x5 9 ↑p1.1 ↑p1.2 5)) := ⟨_, rfl⟩
  rw [← e9] at hW
  have hX := lt_go hX e9
  refine lv_aload_n hx hb dX9_copyFrom_48 rfl (lv_at hl 1 rfl) ?_
  refine gf_9_6 hx hb htg hown hK hW p1 q86 dX9_copyFrom_49 ?_
  refine lv_aload_n hx hb dX9_copyFrom_52 rfl (lv_at hl 0 rfl) ?_
  refine gf_9_6 hx hb htg hown hK hW p0 q86 dX9_copyFrom_53 ?_
  obtain ⟨x9, h7, hX⟩ := bd_go hX
  refine k_X11_copyNumbers_n hx hb hml hown htg hK hW hS (ia_10 p1) (show (10 : Nat) < 40 by decide) (ia_10 p0) (show (10 : Nat) < 40 by decide) h7 (List.mem_of_getElem? (i := 4) rfl) hl.1 (Nat.le_of_ble_eq_true rfl) (Nat.le_of_ble_eq_true rfl) (Nat.le_of_ble_eq_true rfl) ⟨Nat.zero_le _, Nat.zero_le _⟩ dX9_copyFrom_56 (fun H locs hW hS => ?_)
  have hX := Option.some.inj hX
  subst hX
  exact rt_v hx hb hr hlocks hW hS dX9_copyFrom_59
set_option maxHeartbeats 4000000 in
theorem k_X9_copyFrom {p : Program} {l : Launch} {e : Env} {R : Room} {s : State} {m : MethodId} {args : Array Value} {below : List Frame} {meth : Method} {c : Code} {H : Heap} {locs : List Loc} {cells slots : Nat} {Q : State → Prop} {cc : ByteArray} {pc nL idx : Nat} {own : String} {ls : Array Slot} {rest : List Value} {G : Geo} {x y : Mem} {H0 : Heap} {p0 : Fin 10 × Fin 4} {p1 : Fin 10 × Fin 4} {z : Mem} (hx : p.tables.exec = Jvm.exec) (hb : c.code = cc) (hml : c.maxLocals = nL) (hown : s.vm.findClass own = some m.cls) (htg : ∀ w ∈ wsG, w.before args s = true) (hK : Kt G s) (hW : Wh G x y H) (hS : va_S (gF G) H0 H locs) (h : m_X9_copyFrom p0 p1 x = some z) (hlk : Cond.methodLink own idx yX9_copyFrom ∈ wsG) (hn : ls.size = nL) (hr : (rest.map fun v => v.category).sum ≤ 8) (hR1 : 1 + 1 ≤ R.frames) (hR2 : 8 + (2 + 11) + 22 ≤ R.locals) (hf : cells ≤ R.cells ∧ slots ≤ R.slots) (hdg : decode cc pc = .ok (.invokevirtual idx, 3)) (kk : ∀ (H1 : Heap) (locs1 : List Loc), Wh G z y H1 → va_S (gF G) H0 H1 locs1 → W p l e R s m args below meth c H1 locs1 cells slots Q (F0 m (pc + 3) ls (rest))) : W p l e R s m args below meth c H locs cells slots Q (F0 m pc ls (.ref (gA G 9 ↑p1.1 ↑p1.2) :: .ref (gA G 9 ↑p0.1 ↑p0.2) :: rest)) := by
  refine va_callv (va_runV (As := [.ref (gA G 9 ↑p1.1 ↑p1.2)]) (rest := rest) ⟨hx, hb, hml, hown, htg⟩ (c_X9_copyFrom l G x y p0 p1 z h) (cwV 1 htg (gd_V hlk q276 q277 q51 q278) rfl rfl rfl (by decide +kernel) ⟨hR1, hR2⟩) ⟨fun a U g mk q => ⟨q.1, q.2.1.calling, q.2.2⟩, rc_9 hK hW p0, fun U hU hW9 => ⟨rfl, hK.warm hW9, by rw [hU]; exact hW⟩⟩ rfl rfl hn rfl (lv_room hr) hdg hf) hS (fun _ _ h9 => h9) (fun _ h9 => h9) ?_
  intro u t H1 locs1 ht hvm hw hB hz1 hk1 hS1
  replace hB : Wh G z y t.heap := hB
  rw [ht] at hB
  exact kk H1 locs1 hB hS1
/-! METHOD X5_copyFrom -/
def m_X5_copyFrom (p0 : Fin 10 × Fin 31) (p1 : Fin 10 × Fin 31) (x : Mem) : Option Mem :=
  lt_ (up4 x 12 ↑p0.1 ↑p0.2 0 (x 12 ↑p1.1 ↑p1.2 0)) fun x1 => lt_ (up4 x1 12 ↑p0.1 ↑p0.2 1 (x1 12 ↑p1.1 ↑p1.2 1)) fun x2 => lt_ (up4 x2 12 ↑p0.1 ↑p0.2 2 (x2 12 ↑p1.1 ↑p1.2 2)) fun x3 => lt_ (up4 x3 12 ↑p0.1 ↑p0.2 3 (x3 12 ↑p1.1 ↑p1.2 3)) fun x4 => lt_ (up4 x4 12 ↑p0.1 ↑p0.2 4 (x4 12 ↑p1.1 ↑p1.2 4)) fun x5 => lt_ (up4 x5 12 ↑p0.1 ↑p0.2 5 (x5 12 ↑p1.1 ↑p1.2 5)) fun x6 => lt_ (up4 x6 12 ↑p0.1 ↑p0.2 6 (x6 12 ↑p1.1 ↑p1.2 6)) fun x7 => lt_ (up4 x7 12 ↑p0.1 ↑p0.2 7 (x7 12 ↑p1.1 ↑p1.2 7)) fun x8 => lt_ (up4 x8 12 ↑p0.1 ↑p0.2 8 (x8 12 ↑p1.1 ↑p1.2 8)) fun x9 => lt_ (up4 x9 12 ↑p0.1 ↑p0.2 9 (x9 12 ↑p1.1 ↑p1.2 9)) fun x10 => some x10
abbrev WS_X5_copyFrom : List Cond := .code yX5_copyFrom cX5_copyFrom 2 none :: wsG
abbrev RM_X5_copyFrom : Room := { frames := 0, cells := 0, slots := 0, locals := 0 }
set_option maxHeartbeats 4000000 in
set_option maxRecDepth 100000 in
theorem c_X5_copyFrom (l : Launch) (G : Geo) (x y : Mem) (p0 : Fin 10 × Fin 31) (p1 : Fin 10 × Fin 31) (r : Mem) (h : m_X5_copyFrom p0 p1 x = some r) : Met l yX5_copyFrom WS_X5_copyFrom RM_X5_copyFrom (Pw G x y [.ref (gA G 12 ↑p0.1 ↑p0.2), .ref (gA G 12 ↑p1.1 ↑p1.2)]) (Qv G r y) 0 0 (gF G) := by
  refine Met.ofW (cc := cX5_copyFrom) (maxL := 2) (ret := none) (by decide) rfl ?_
  intro p e s m args below meth c s₁ B hml hv
  obtain ⟨rfl, hK, hW⟩ := hv
  have hx := B.exec
  have hb := B.bytes
  have hr := B.returns
  have hts := atoms_spec (ws := WS_X5_copyFrom) B.pre
  have htg : ∀ w ∈ wsG, w.before _ s = true := fun w h => hts w (List.mem_cons_of_mem _ h)
  have hown : s.vm.findClass RX5 = some m.cls := findClass_of_methodNamed B.named
  have hlocks := B.notSynchronized
  have hS : va_S (gF G) s.heap s.heap [] := va_S.rf
  have hl := lv_entry ([.ref (gA G 12 ↑p0.1 ↑p0.2), .ref (gA G 12 ↑p1.1 ↑p1.2)]) (n := 2) (Nat.le_of_ble_eq_true rfl)
  rw [lg_entry_eq]
  generalize (lg_sl ([.ref (gA G 12 ↑p0.1 ↑p0.2), .ref (gA G 12 ↑p1.1 ↑p1.2)]) ++ List.replicate (2 - (lg_sl ([.ref (gA G 12 ↑p0.1 ↑p0.2), .ref (gA G 12 ↑p1.1 ↑p1.2)])).length) Slot.unset).toArray = ls at hl ⊢
  have hl : lv_has ls 2 [(0, .ref (gA G 12 ↑p0.1 ↑p0.2)), (1, .ref (gA G 12 ↑p1.1 ↑p1.2))] := hl
  have hX := h
  unfold m_X5_copyFrom at hX
  refine lv_aload_n hx hb dX5_copyFrom_0 rfl (lv_at hl 0 rfl) ?_
  refine lv_aload_n hx hb dX5_copyFrom_1 rfl (lv_at hl 1 rfl) ?_
  refine gf_12_0 hx hb htg hown hK hW p1 q292 dX5_copyFrom_2 ?_
  refine pf_12_0 hx hb htg hown hK hW hS p0 q292 dX5_copyFrom_5 (fun H locs hW hS => ?_)
  obtain ⟨x1, e9⟩ : ∃ w : Mem, w = (up4 x 12 ↑p0.1 ↑p0.2 0 (x 12 ↑p1.1 ↑p1.2 0)) := ⟨_, rfl⟩
  rw [← e9] at hW
  have hX := lt_go hX e9
  refine lv_aload_n hx hb dX5_copyFrom_8 rfl (lv_at hl 0 rfl) ?_
  refine lv_aload_n hx hb dX5_copyFrom_9 rfl (lv_at hl 1 rfl) ?_
  refine gf_12_1 hx hb htg hown hK hW p1 q293 dX5_copyFrom_10 ?_
  refine pf_12_1 hx hb htg hown hK hW hS p0 q293 dX5_copyFrom_13 (fun H locs hW hS => ?_)
  obtain ⟨x2, e9⟩ : ∃ w : Mem, w = (up4 x1 12 ↑p0.1 ↑p0.2 1 (x1 12 ↑p1.1 ↑p1.2 1)) := ⟨_, rfl⟩
  rw [← e9] at hW
  have hX := lt_go hX e9
  refine lv_aload_n hx hb dX5_copyFrom_16 rfl (lv_at hl 0 rfl) ?_
  refine lv_aload_n hx hb dX5_copyFrom_17 rfl (lv_at hl 1 rfl) ?_
  refine gf_12_2 hx hb htg hown hK hW p1 q294 dX5_copyFrom_18 ?_
  refine pf_12_2 hx hb htg hown hK hW hS p0 q294 dX5_copyFrom_21 (fun H locs hW hS => ?_)
  obtain ⟨x3, e9⟩ : ∃ w : Mem, w = (up4 x2 12 ↑p0.1 ↑p0.2 2 (x2 12 ↑p1.1 ↑p1.2 2)) := ⟨_, rfl⟩
  rw [← e9] at hW
  have hX := lt_go hX e9
  refine lv_aload_n hx hb dX5_copyFrom_24 rfl (lv_at hl 0 rfl) ?_
  refine lv_aload_n hx hb dX5_copyFrom_25 rfl (lv_at hl 1 rfl) ?_
  refine gf_12_3 hx hb htg hown hK hW p1 q295 dX5_copyFrom_26 ?_
  refine pf_12_3 hx hb htg hown hK hW hS p0 q295 dX5_copyFrom_29 (fun H locs hW hS => ?_)
  obtain ⟨x4, e9⟩ : ∃ w : Mem, w = (up4 x3 12 ↑p0.1 ↑p0.2 3 (x3 12 ↑p1.1 ↑p1.2 3)) := ⟨_, rfl⟩
  rw [← e9] at hW
  have hX := lt_go hX e9
  refine lv_aload_n hx hb dX5_copyFrom_32 rfl (lv_at hl 0 rfl) ?_
  refine lv_aload_n hx hb dX5_copyFrom_33 rfl (lv_at hl 1 rfl) ?_
  refine gf_12_4 hx hb htg hown hK hW p1 q296 dX5_copyFrom_34 ?_
  refine pf_12_4 hx hb htg hown hK hW hS p0 q296 dX5_copyFrom_37 (fun H locs hW hS => ?_)
  obtain ⟨x5, e9⟩ : ∃ w : Mem, w = (up4 x4 12 ↑p0.1 ↑p0.2 4 (x4 12 ↑p1.1 ↑p1.2 4)) := ⟨_, rfl⟩
  rw [← e9] at hW
  have hX := lt_go hX e9
  refine lv_aload_n hx hb dX5_copyFrom_40 rfl (lv_at hl 0 rfl) ?_
  refine lv_aload_n hx hb dX5_copyFrom_41 rfl (lv_at hl 1 rfl) ?_
  refine gf_12_5 hx hb htg hown hK hW p1 q91 dX5_copyFrom_42 ?_
  refine pf_12_5 hx hb htg hown hK hW hS p0 q91 dX5_copyFrom_45 (fun H locs hW hS => ?_)
  obtain ⟨x6, e9⟩ : ∃ w : Mem, w = (up4 x5 12 ↑p0.1 ↑p0.2 5 (x5 12 ↑p1.1 ↑p1.2 5)) := ⟨_, rfl⟩
  rw [← e9] at hW
  have hX := lt_go hX e9
  refine lv_aload_n hx hb dX5_copyFrom_48 rfl (lv_at hl 0 rfl) ?_
  refine lv_aload_n hx hb dX5_copyFrom_49 rfl (lv_at hl 1 rfl) ?_
  refine gf_12_6 hx hb htg hown hK hW p1 q92 dX5_copyFrom_50 ?_
  refine pf_12_6 hx hb htg hown hK hW hS p0 q92 dX5_copyFrom_53 (fun H locs hW hS => ?_)
  obtain ⟨x7, e9⟩ : ∃ w : Mem, w = (up4 x6 12 ↑p0.1 ↑p0.2 6 (x6 12 ↑p1.1 ↑p1.2 6)) := ⟨_, rfl⟩
  rw [← e9] at hW
  have hX := lt_go hX e9
  refine lv_aload_n hx hb dX5_copyFrom_56 rfl (lv_at hl 0 rfl) ?_
  refine lv_aload_n hx hb dX5_copyFrom_57 rfl (lv_at hl 1 rfl) ?_
  refine gf_12_7 hx hb htg hown hK hW p1 q297 dX5_copyFrom_58 ?_
  refine pf_12_7 hx hb htg hown hK hW hS p0 q297 dX5_copyFrom_61 (fun H locs hW hS => ?_)
  obtain ⟨x8, e9⟩ : ∃ w : Mem, w = (up4 x7 12 ↑p0.1 ↑p0.2 7 (x7 12 ↑p1.1 ↑p1.2 7)) := ⟨_, rfl⟩
  rw [← e9] at hW
  have hX := lt_go hX e9
  refine lv_aload_n hx hb dX5_copyFrom_64 rfl (lv_at hl 0 rfl) ?_
  refine lv_aload_n hx hb dX5_copyFrom_65 rfl (lv_at hl 1 rfl) ?_
  refine gf_12_8 hx hb htg hown hK hW p1 q93 dX5_copyFrom_66 ?_
  refine pf_12_8 hx hb htg hown hK hW hS p0 q93 dX5_copyFrom_69 (fun H locs hW hS => ?_)
  obtain ⟨x9, e9⟩ : ∃ w : Mem, w = (up4 x8 12 ↑p0.1 ↑p0.2 8 (x8 12 ↑p1.1 ↑p1.2 8)) := ⟨_, rfl⟩
  rw [← e9] at hW
  have hX := lt_go hX e9
  refine lv_aload_n hx hb dX5_copyFrom_72 rfl (lv_at hl 0 rfl) ?_
  refine lv_aload_n hx hb dX5_copyFrom_73 rfl (lv_at hl 1 rfl) ?_
  refine gf_12_9 hx hb htg hown hK hW p1 q94 dX5_copyFrom_74 ?_
  refine pf_12_9 hx hb htg hown hK hW hS p0 q94 dX5_copyFrom_77 (fun H locs hW hS => ?_)
  obtain ⟨x10, e9⟩ : ∃ w : Mem, w = (up4 x9 12 ↑p0.1 ↑p0.2 9 (x9 12 ↑p1.1 ↑p1.2 9)) := ⟨_, rfl⟩
  rw [← e9] at hW
  have hX := lt_go hX e9
  have hX := Option.some.inj hX
  subst hX
  exact rt_v hx hb hr hlocks hW hS dX5_copyFrom_80
set_option maxHeartbeats 4000000 in
theorem k_X5_copyFrom {p : Program} {l : Launch} {e : Env} {R : Room} {s : State} {m : MethodId} {args : Array Value} {below : List Frame} {meth : Method} {c : Code} {H : Heap} {locs : List Loc} {cells slots : Nat} {Q : State → Prop} {cc : ByteArray} {pc nL idx : Nat} {own : String} {ls : Array Slot} {rest : List Value} {G : Geo} {x y : Mem} {H0 : Heap} {p0 : Fin 10 × Fin 31} {p1 : Fin 10 × Fin 31} {z : Mem} (hx : p.tables.exec = Jvm.exec) (hb : c.code = cc) (hml : c.maxLocals = nL) (hown : s.vm.findClass own = some m.cls) (htg : ∀ w ∈ wsG, w.before args s = true) (hK : Kt G s) (hW : Wh G x y H) (hS : va_S (gF G) H0 H locs) (h : m_X5_copyFrom p0 p1 x = some z) (hlk : Cond.methodLink own idx yX5_copyFrom ∈ wsG) (hn : ls.size = nL) (hr : (rest.map fun v => v.category).sum ≤ 8) (hR1 : 0 + 1 ≤ R.frames) (hR2 : 8 + (2 + 11) + 0 ≤ R.locals) (hf : cells ≤ R.cells ∧ slots ≤ R.slots) (hdg : decode cc pc = .ok (.invokevirtual idx, 3)) (kk : ∀ (H1 : Heap) (locs1 : List Loc), Wh G z y H1 → va_S (gF G) H0 H1 locs1 → W p l e R s m args below meth c H1 locs1 cells slots Q (F0 m (pc + 3) ls (rest))) : W p l e R s m args below meth c H locs cells slots Q (F0 m pc ls (.ref (gA G 12 ↑p1.1 ↑p1.2) :: .ref (gA G 12 ↑p0.1 ↑p0.2) :: rest)) := by
  refine va_callv (va_runV (As := [.ref (gA G 12 ↑p1.1 ↑p1.2)]) (rest := rest) ⟨hx, hb, hml, hown, htg⟩ (c_X5_copyFrom l G x y p0 p1 z h) (cwV 1 htg (gd_V hlk q289 q290 q55 q291) rfl rfl rfl (by decide +kernel) ⟨hR1, hR2⟩) ⟨fun a U g mk q => ⟨q.1, q.2.1.calling, q.2.2⟩, rc_12 hK hW p0, fun U hU hW9 => ⟨rfl, hK.warm hW9, by rw [hU]; exact hW⟩⟩ rfl rfl hn rfl (lv_room hr) hdg hf) hS (fun _ _ h9 => h9) (fun _ h9 => h9) ?_
  intro u t H1 locs1 ht hvm hw hB hz1 hk1 hS1
  replace hB : Wh G z y t.heap := hB
  rw [ht] at hB
  exact kk H1 locs1 hB hS1
/-! METHOD X1_copyFrom -/
def m_X1_copyFrom_b132 (p0 : Fin 10) (p1 : Fin 10) (k132 : Int32 → Mem → Option Mem) (x2 : Int32) (x : Mem) : Option Mem :=
  if (x 2 ↑p0 0 1) ≤ x2 then (some x) else (bd_ (m_X1_jobAt p0 x2) fun r37 => bd_ (m_X1_jobAt p1 x2) fun r39 => bd_ (m_X5_copyFrom r37 r39 x) fun x42 => lt_ (x2 + (1 : Int32)) fun x2_43 => k132 x2_43 x42)
def m_X1_copyFrom_l132 (p0 : Fin 10) (p1 : Fin 10) : Nat → Int32 → Mem → Option Mem
  | 0, _, _ => none
  | n + 1, x2, x => m_X1_copyFrom_b132 p0 p1 (m_X1_copyFrom_l132 p0 p1 n) x2 x
def m_X1_copyFrom_b106 (p0 : Fin 10) (p1 : Fin 10) (k106 : Int32 → Mem → Option Mem) (x2 : Int32) (x : Mem) : Option Mem :=
  if (3 : Int32) ≤ x2 then (lt_ (0 : Int32) fun x2_26 => m_X1_copyFrom_l132 p0 p1 FU x2_26 x) else (bd_ (m_X1_storeAt p0 x2) fun r28 => bd_ (m_X1_storeAt p1 x2) fun r30 => bd_ (m_X9_copyFrom r28 r30 x) fun x33 => lt_ (x2 + (1 : Int32)) fun x2_34 => k106 x2_34 x33)
def m_X1_copyFrom_l106 (p0 : Fin 10) (p1 : Fin 10) : Nat → Int32 → Mem → Option Mem
  | 0, _, _ => none
  | n + 1, x2, x => m_X1_copyFrom_b106 p0 p1 (m_X1_copyFrom_l106 p0 p1 n) x2 x
def m_X1_copyFrom_b80 (p0 : Fin 10) (p1 : Fin 10) (k80 : Int32 → Mem → Option Mem) (x2 : Int32) (x : Mem) : Option Mem :=
  if (3 : Int32) ≤ x2 then (lt_ (0 : Int32) fun x2_16 => m_X1_copyFrom_l106 p0 p1 FU x2_16 x) else (bd_ (m_X1_armAt p0 x2) fun r18 => bd_ (m_X1_armAt p1 x2) fun r20 => bd_ (m_X0_copyFrom r18 r20 x) fun x23 => lt_ (x2 + (1 : Int32)) fun x2_24 => k80 x2_24 x23)
def m_X1_copyFrom_l80 (p0 : Fin 10) (p1 : Fin 10) : Nat → Int32 → Mem → Option Mem
  | 0, _, _ => none
  | n + 1, x2, x => m_X1_copyFrom_b80 p0 p1 (m_X1_copyFrom_l80 p0 p1 n) x2 x
def m_X1_copyFrom (p0 : Fin 10) (p1 : Fin 10) (x : Mem) : Option Mem :=
  lt_ (up4 x 2 ↑p0 0 0 (x 2 ↑p1 0 0)) fun x1 => lt_ (up4 x1 2 ↑p0 0 1 (x1 2 ↑p1 0 1)) fun x2 => lt_ (up4 x2 2 ↑p0 0 2 (x2 2 ↑p1 0 2)) fun x3 => lt_ (up4 x3 2 ↑p0 0 3 (x3 2 ↑p1 0 3)) fun x4 => lt_ (up4 x4 2 ↑p0 0 4 (x4 2 ↑p1 0 4)) fun x5 => lt_ (up4 x5 2 ↑p0 0 5 (x5 2 ↑p1 0 5)) fun x6 => lt_ (up4 x6 2 ↑p0 0 6 (x6 2 ↑p1 0 6)) fun x7 => bd_ (m_X10_copyFrom p0 p1 x7) fun x10 => bd_ (m_X7_copyFrom p0 p1 x10) fun x13 => lt_ (0 : Int32) fun x2_14 => m_X1_copyFrom_l80 p0 p1 FU x2_14 x13
abbrev WS_X1_copyFrom : List Cond := .code yX1_copyFrom cX1_copyFrom 3 none :: wsG
abbrev RM_X1_copyFrom : Room := { frames := 2, cells := 0, slots := 0, locals := 43 }
set_option maxHeartbeats 4000000 in
set_option maxRecDepth 100000 in
theorem c_X1_copyFrom (l : Launch) (G : Geo) (x y : Mem) (p0 : Fin 10) (p1 : Fin 10) (r : Mem) (h : m_X1_copyFrom p0 p1 x = some r) : Met l yX1_copyFrom WS_X1_copyFrom RM_X1_copyFrom (Pw G x y [.ref (gA G 2 ↑p0 0), .ref (gA G 2 ↑p1 0)]) (Qv G r y) 0 0 (gF G) := by
  refine Met.ofW (cc := cX1_copyFrom) (maxL := 3) (ret := none) (by decide) rfl ?_
  intro p e s m args below meth c s₁ B hml hv
  obtain ⟨rfl, hK, hW⟩ := hv
  have hx := B.exec
  have hb := B.bytes
  have hr := B.returns
  have hts := atoms_spec (ws := WS_X1_copyFrom) B.pre
  have htg : ∀ w ∈ wsG, w.before _ s = true := fun w h => hts w (List.mem_cons_of_mem _ h)
  have hown : s.vm.findClass RX1 = some m.cls := findClass_of_methodNamed B.named
  have hlocks := B.notSynchronized
  have hS : va_S (gF G) s.heap s.heap [] := va_S.rf
  have hl := lv_entry ([.ref (gA G 2 ↑p0 0), .ref (gA G 2 ↑p1 0)]) (n := 3) (Nat.le_of_ble_eq_true rfl)
  rw [lg_entry_eq]
  generalize (lg_sl ([.ref (gA G 2 ↑p0 0), .ref (gA G 2 ↑p1 0)]) ++ List.replicate (3 - (lg_sl ([.ref (gA G 2 ↑p0 0), .ref (gA G 2 ↑p1 0)])).length) Slot.unset).toArray = ls at hl ⊢
  have hl : lv_has ls 3 [(0, .ref (gA G 2 ↑p0 0)), (1, .ref (gA G 2 ↑p1 0))] := hl
  have hX := h
  unfold m_X1_copyFrom at hX
  have B_132 : ∀ (k132 : Int32 → Mem → Option Mem) (hk132 : ∀ (x2 : Int32) (x : Mem) (H : Heap) (locs : List Loc) (ls : Array Slot), Wh G x y H → va_S (gF G) s.heap H locs → lv_has ls 3 [(0, .ref (gA G 2 ↑p0 0)), (1, .ref (gA G 2 ↑p1 0)), (2, .int x2)] → k132 x2 x = some r → W p l e (headSpec WS_X1_copyFrom RM_X1_copyFrom).room s m ([.ref (gA G 2 ↑p0 0), .ref (gA G 2 ↑p1 0)] : List Value).toArray below meth c H locs 0 0 (MQ below (Qv G r y) ([.ref (gA G 2 ↑p0 0), .ref (gA G 2 ↑p1 0)] : List Value).toArray s 0 0 (gF G)) (F0 m 132 ls [])), ∀ (x2 : Int32) (x : Mem) (H : Heap) (locs : List Loc) (ls : Array Slot), Wh G x y H → va_S (gF G) s.heap H locs → lv_has ls 3 [(0, .ref (gA G 2 ↑p0 0)), (1, .ref (gA G 2 ↑p1 0)), (2, .int x2)] → m_X1_copyFrom_b132 p0 p1 k132 x2 x = some r → W p l e (headSpec WS_X1_copyFrom RM_X1_copyFrom).room s m ([.ref (gA G 2 ↑p0 0), .ref (gA G 2 ↑p1 0)] : List Value).toArray below meth c H locs 0 0 (MQ below (Qv G r y) ([.ref (gA G 2 ↑p0 0), .ref (gA G 2 ↑p1 0)] : List Value).toArray s 0 0 (gF G)) (F0 m 132 ls []) := by
    intro k132 hk132 x2 x H locs ls hW hS hl hX
    unfold m_X1_copyFrom_b132 at hX
    refine lv_iload_n hx hb dX1_copyFrom_132 rfl (lv_at hl 2 rfl) ?_
    refine lv_aload_n hx hb dX1_copyFrom_133 rfl (lv_at hl 0 rfl) ?_
    refine gf_2_1 hx hb htg hown hK hW p0 q240 dX1_copyFrom_134 ?_
    refine lv_icmp_ge (tgt := 159) hx hb dX1_copyFrom_137 (by decide) (fun c35 => ?_) (fun c35 => ?_)
    · have hX := it_t hX c35
      have hX := Option.some.inj hX
      subst hX
      exact rt_v hx hb hr hlocks hW hS dX1_copyFrom_159
    · have hX := it_f hX c35
      refine lv_aload_n hx hb dX1_copyFrom_140 rfl (lv_at hl 0 rfl) ?_
      refine lv_iload_n hx hb dX1_copyFrom_141 rfl (lv_at hl 2 rfl) ?_
      obtain ⟨r37, h36, hX⟩ := bd_go hX
      refine k_X1_jobAt hx hb hml hown htg hK hW hS h36 q284 hl.1 (Nat.le_of_ble_eq_true rfl) (Nat.le_of_ble_eq_true rfl) (Nat.le_of_ble_eq_true rfl) ⟨Nat.zero_le _, Nat.zero_le _⟩ dX1_copyFrom_142 (fun H locs hW hS => ?_)
      refine lv_aload_n hx hb dX1_copyFrom_145 rfl (lv_at hl 1 rfl) ?_
      refine lv_iload_n hx hb dX1_copyFrom_146 rfl (lv_at hl 2 rfl) ?_
      obtain ⟨r39, h38, hX⟩ := bd_go hX
      refine k_X1_jobAt hx hb hml hown htg hK hW hS h38 q284 hl.1 (Nat.le_of_ble_eq_true rfl) (Nat.le_of_ble_eq_true rfl) (Nat.le_of_ble_eq_true rfl) ⟨Nat.zero_le _, Nat.zero_le _⟩ dX1_copyFrom_147 (fun H locs hW hS => ?_)
      obtain ⟨x42, h40, hX⟩ := bd_go hX
      refine k_X5_copyFrom hx hb hml hown htg hK hW hS h40 q288 hl.1 (Nat.le_of_ble_eq_true rfl) (Nat.le_of_ble_eq_true rfl) (Nat.le_of_ble_eq_true rfl) ⟨Nat.zero_le _, Nat.zero_le _⟩ dX1_copyFrom_150 (fun H locs hW hS => ?_)
      obtain ⟨x2_43, e9⟩ : ∃ w : Int32, w = (x2 + (1 : Int32)) := ⟨_, rfl⟩
      have hX := lt_go hX e9
      refine lv_iinc (v := x2_43) (lv' := [(2, .int x2_43), (0, .ref (gA G 2 ↑p0 0)), (1, .ref (gA G 2 ↑p1 0))]) hx hb dX1_copyFrom_153 hl (k := 2) rfl (by rw [e9]; rfl) (by decide) rfl (fun ls hl => ?_)
      refine lv_goto (tgt := 132) hx hb dX1_copyFrom_156 (by decide) ?_
      exact hk132 _ _ _ _ _ hW hS (lv_sub hl [1, 2, 0] rfl) hX
  have L_132 : ∀ (n : Nat), ∀ (x2 : Int32) (x : Mem) (H : Heap) (locs : List Loc) (ls : Array Slot), Wh G x y H → va_S (gF G) s.heap H locs → lv_has ls 3 [(0, .ref (gA G 2 ↑p0 0)), (1, .ref (gA G 2 ↑p1 0)), (2, .int x2)] → m_X1_copyFrom_l132 p0 p1 n x2 x = some r → W p l e (headSpec WS_X1_copyFrom RM_X1_copyFrom).room s m ([.ref (gA G 2 ↑p0 0), .ref (gA G 2 ↑p1 0)] : List Value).toArray below meth c H locs 0 0 (MQ below (Qv G r y) ([.ref (gA G 2 ↑p0 0), .ref (gA G 2 ↑p1 0)] : List Value).toArray s 0 0 (gF G)) (F0 m 132 ls []) := by
    intro n
    induction n with
    | zero => intro x2 x H locs ls hW hS hl hX; exact no_go hX
    | succ n ih => intro x2 x H locs ls hW hS hl hX; exact B_132 _ ih _ _ _ _ _ hW hS hl hX
  have B_106 : ∀ (k106 : Int32 → Mem → Option Mem) (hk106 : ∀ (x2 : Int32) (x : Mem) (H : Heap) (locs : List Loc) (ls : Array Slot), Wh G x y H → va_S (gF G) s.heap H locs → lv_has ls 3 [(0, .ref (gA G 2 ↑p0 0)), (1, .ref (gA G 2 ↑p1 0)), (2, .int x2)] → k106 x2 x = some r → W p l e (headSpec WS_X1_copyFrom RM_X1_copyFrom).room s m ([.ref (gA G 2 ↑p0 0), .ref (gA G 2 ↑p1 0)] : List Value).toArray below meth c H locs 0 0 (MQ below (Qv G r y) ([.ref (gA G 2 ↑p0 0), .ref (gA G 2 ↑p1 0)] : List Value).toArray s 0 0 (gF G)) (F0 m 106 ls [])), ∀ (x2 : Int32) (x : Mem) (H : Heap) (locs : List Loc) (ls : Array Slot), Wh G x y H → va_S (gF G) s.heap H locs → lv_has ls 3 [(0, .ref (gA G 2 ↑p0 0)), (1, .ref (gA G 2 ↑p1 0)), (2, .int x2)] → m_X1_copyFrom_b106 p0 p1 k106 x2 x = some r → W p l e (headSpec WS_X1_copyFrom RM_X1_copyFrom).room s m ([.ref (gA G 2 ↑p0 0), .ref (gA G 2 ↑p1 0)] : List Value).toArray below meth c H locs 0 0 (MQ below (Qv G r y) ([.ref (gA G 2 ↑p0 0), .ref (gA G 2 ↑p1 0)] : List Value).toArray s 0 0 (gF G)) (F0 m 106 ls []) := by
    intro k106 hk106 x2 x H locs ls hW hS hl hX
    unfold m_X1_copyFrom_b106 at hX
    refine lv_iload_n hx hb dX1_copyFrom_106 rfl (lv_at hl 2 rfl) ?_
    refine lv_iconst (v := (3 : Int32)) hx hb dX1_copyFrom_107 (by decide) ?_
    refine lv_icmp_ge (tgt := 130) hx hb dX1_copyFrom_108 (by decide) (fun c25 => ?_) (fun c25 => ?_)
    · have hX := it_t hX c25
      refine lv_iconst (v := (0 : Int32)) hx hb dX1_copyFrom_130 (by decide) ?_
      refine lv_topi (fun x2_26 e9 => ?_)
      have hX := lt_go hX e9
      refine lv_istore_n (lv' := [(2, .int x2_26), (0, .ref (gA G 2 ↑p0 0)), (1, .ref (gA G 2 ↑p1 0))]) hx hb dX1_copyFrom_131 rfl hl (by decide) rfl (fun ls hl => ?_)
      exact L_132 FU _ _ _ _ _ hW hS (lv_sub hl [1, 2, 0] rfl) hX
    · have hX := it_f hX c25
      refine lv_aload_n hx hb dX1_copyFrom_111 rfl (lv_at hl 0 rfl) ?_
      refine lv_iload_n hx hb dX1_copyFrom_112 rfl (lv_at hl 2 rfl) ?_
      obtain ⟨r28, h27, hX⟩ := bd_go hX
      refine k_X1_storeAt hx hb hml hown htg hK hW hS h27 q271 hl.1 (Nat.le_of_ble_eq_true rfl) (Nat.le_of_ble_eq_true rfl) (Nat.le_of_ble_eq_true rfl) ⟨Nat.zero_le _, Nat.zero_le _⟩ dX1_copyFrom_113 (fun H locs hW hS => ?_)
      refine lv_aload_n hx hb dX1_copyFrom_116 rfl (lv_at hl 1 rfl) ?_
      refine lv_iload_n hx hb dX1_copyFrom_117 rfl (lv_at hl 2 rfl) ?_
      obtain ⟨r30, h29, hX⟩ := bd_go hX
      refine k_X1_storeAt hx hb hml hown htg hK hW hS h29 q271 hl.1 (Nat.le_of_ble_eq_true rfl) (Nat.le_of_ble_eq_true rfl) (Nat.le_of_ble_eq_true rfl) ⟨Nat.zero_le _, Nat.zero_le _⟩ dX1_copyFrom_118 (fun H locs hW hS => ?_)
      obtain ⟨x33, h31, hX⟩ := bd_go hX
      refine k_X9_copyFrom hx hb hml hown htg hK hW hS h31 q275 hl.1 (Nat.le_of_ble_eq_true rfl) (Nat.le_of_ble_eq_true rfl) (Nat.le_of_ble_eq_true rfl) ⟨Nat.zero_le _, Nat.zero_le _⟩ dX1_copyFrom_121 (fun H locs hW hS => ?_)
      obtain ⟨x2_34, e9⟩ : ∃ w : Int32, w = (x2 + (1 : Int32)) := ⟨_, rfl⟩
      have hX := lt_go hX e9
      refine lv_iinc (v := x2_34) (lv' := [(2, .int x2_34), (0, .ref (gA G 2 ↑p0 0)), (1, .ref (gA G 2 ↑p1 0))]) hx hb dX1_copyFrom_124 hl (k := 2) rfl (by rw [e9]; rfl) (by decide) rfl (fun ls hl => ?_)
      refine lv_goto (tgt := 106) hx hb dX1_copyFrom_127 (by decide) ?_
      exact hk106 _ _ _ _ _ hW hS (lv_sub hl [1, 2, 0] rfl) hX
  have L_106 : ∀ (n : Nat), ∀ (x2 : Int32) (x : Mem) (H : Heap) (locs : List Loc) (ls : Array Slot), Wh G x y H → va_S (gF G) s.heap H locs → lv_has ls 3 [(0, .ref (gA G 2 ↑p0 0)), (1, .ref (gA G 2 ↑p1 0)), (2, .int x2)] → m_X1_copyFrom_l106 p0 p1 n x2 x = some r → W p l e (headSpec WS_X1_copyFrom RM_X1_copyFrom).room s m ([.ref (gA G 2 ↑p0 0), .ref (gA G 2 ↑p1 0)] : List Value).toArray below meth c H locs 0 0 (MQ below (Qv G r y) ([.ref (gA G 2 ↑p0 0), .ref (gA G 2 ↑p1 0)] : List Value).toArray s 0 0 (gF G)) (F0 m 106 ls []) := by
    intro n
    induction n with
    | zero => intro x2 x H locs ls hW hS hl hX; exact no_go hX
    | succ n ih => intro x2 x H locs ls hW hS hl hX; exact B_106 _ ih _ _ _ _ _ hW hS hl hX
  have B_80 : ∀ (k80 : Int32 → Mem → Option Mem) (hk80 : ∀ (x2 : Int32) (x : Mem) (H : Heap) (locs : List Loc) (ls : Array Slot), Wh G x y H → va_S (gF G) s.heap H locs → lv_has ls 3 [(0, .ref (gA G 2 ↑p0 0)), (1, .ref (gA G 2 ↑p1 0)), (2, .int x2)] → k80 x2 x = some r → W p l e (headSpec WS_X1_copyFrom RM_X1_copyFrom).room s m ([.ref (gA G 2 ↑p0 0), .ref (gA G 2 ↑p1 0)] : List Value).toArray below meth c H locs 0 0 (MQ below (Qv G r y) ([.ref (gA G 2 ↑p0 0), .ref (gA G 2 ↑p1 0)] : List Value).toArray s 0 0 (gF G)) (F0 m 80 ls [])), ∀ (x2 : Int32) (x : Mem) (H : Heap) (locs : List Loc) (ls : Array Slot), Wh G x y H → va_S (gF G) s.heap H locs → lv_has ls 3 [(0, .ref (gA G 2 ↑p0 0)), (1, .ref (gA G 2 ↑p1 0)), (2, .int x2)] → m_X1_copyFrom_b80 p0 p1 k80 x2 x = some r → W p l e (headSpec WS_X1_copyFrom RM_X1_copyFrom).room s m ([.ref (gA G 2 ↑p0 0), .ref (gA G 2 ↑p1 0)] : List Value).toArray below meth c H locs 0 0 (MQ below (Qv G r y) ([.ref (gA G 2 ↑p0 0), .ref (gA G 2 ↑p1 0)] : List Value).toArray s 0 0 (gF G)) (F0 m 80 ls []) := by
    intro k80 hk80 x2 x H locs ls hW hS hl hX
    unfold m_X1_copyFrom_b80 at hX
    refine lv_iload_n hx hb dX1_copyFrom_80 rfl (lv_at hl 2 rfl) ?_
    refine lv_iconst (v := (3 : Int32)) hx hb dX1_copyFrom_81 (by decide) ?_
    refine lv_icmp_ge (tgt := 104) hx hb dX1_copyFrom_82 (by decide) (fun c15 => ?_) (fun c15 => ?_)
    · have hX := it_t hX c15
      refine lv_iconst (v := (0 : Int32)) hx hb dX1_copyFrom_104 (by decide) ?_
      refine lv_topi (fun x2_16 e9 => ?_)
      have hX := lt_go hX e9
      refine lv_istore_n (lv' := [(2, .int x2_16), (0, .ref (gA G 2 ↑p0 0)), (1, .ref (gA G 2 ↑p1 0))]) hx hb dX1_copyFrom_105 rfl hl (by decide) rfl (fun ls hl => ?_)
      exact L_106 FU _ _ _ _ _ hW hS (lv_sub hl [1, 2, 0] rfl) hX
    · have hX := it_f hX c15
      refine lv_aload_n hx hb dX1_copyFrom_85 rfl (lv_at hl 0 rfl) ?_
      refine lv_iload_n hx hb dX1_copyFrom_86 rfl (lv_at hl 2 rfl) ?_
      obtain ⟨r18, h17, hX⟩ := bd_go hX
      refine k_X1_armAt hx hb hml hown htg hK hW hS h17 q210 hl.1 (Nat.le_of_ble_eq_true rfl) (Nat.le_of_ble_eq_true rfl) (Nat.le_of_ble_eq_true rfl) ⟨Nat.zero_le _, Nat.zero_le _⟩ dX1_copyFrom_87 (fun H locs hW hS => ?_)
      refine lv_aload_n hx hb dX1_copyFrom_90 rfl (lv_at hl 1 rfl) ?_
      refine lv_iload_n hx hb dX1_copyFrom_91 rfl (lv_at hl 2 rfl) ?_
      obtain ⟨r20, h19, hX⟩ := bd_go hX
      refine k_X1_armAt hx hb hml hown htg hK hW hS h19 q210 hl.1 (Nat.le_of_ble_eq_true rfl) (Nat.le_of_ble_eq_true rfl) (Nat.le_of_ble_eq_true rfl) ⟨Nat.zero_le _, Nat.zero_le _⟩ dX1_copyFrom_92 (fun H locs hW hS => ?_)
      obtain ⟨x23, h21, hX⟩ := bd_go hX
      refine k_X0_copyFrom hx hb hml hown htg hK hW hS h21 q258 hl.1 (Nat.le_of_ble_eq_true rfl) (Nat.le_of_ble_eq_true rfl) (Nat.le_of_ble_eq_true rfl) ⟨Nat.zero_le _, Nat.zero_le _⟩ dX1_copyFrom_95 (fun H locs hW hS => ?_)
      obtain ⟨x2_24, e9⟩ : ∃ w : Int32, w = (x2 + (1 : Int32)) := ⟨_, rfl⟩
      have hX := lt_go hX e9
      refine lv_iinc (v := x2_24) (lv' := [(2, .int x2_24), (0, .ref (gA G 2 ↑p0 0)), (1, .ref (gA G 2 ↑p1 0))]) hx hb dX1_copyFrom_98 hl (k := 2) rfl (by rw [e9]; rfl) (by decide) rfl (fun ls hl => ?_)
      refine lv_goto (tgt := 80) hx hb dX1_copyFrom_101 (by decide) ?_
      exact hk80 _ _ _ _ _ hW hS (lv_sub hl [1, 2, 0] rfl) hX
  have L_80 : ∀ (n : Nat), ∀ (x2 : Int32) (x : Mem) (H : Heap) (locs : List Loc) (ls : Array Slot), Wh G x y H → va_S (gF G) s.heap H locs → lv_has ls 3 [(0, .ref (gA G 2 ↑p0 0)), (1, .ref (gA G 2 ↑p1 0)), (2, .int x2)] → m_X1_copyFrom_l80 p0 p1 n x2 x = some r → W p l e (headSpec WS_X1_copyFrom RM_X1_copyFrom).room s m ([.ref (gA G 2 ↑p0 0), .ref (gA G 2 ↑p1 0)] : List Value).toArray below meth c H locs 0 0 (MQ below (Qv G r y) ([.ref (gA G 2 ↑p0 0), .ref (gA G 2 ↑p1 0)] : List Value).toArray s 0 0 (gF G)) (F0 m 80 ls []) := by
    intro n
    induction n with
    | zero => intro x2 x H locs ls hW hS hl hX; exact no_go hX
    | succ n ih => intro x2 x H locs ls hW hS hl hX; exact B_80 _ ih _ _ _ _ _ hW hS hl hX
  refine lv_aload_n hx hb dX1_copyFrom_0 rfl (lv_at hl 0 rfl) ?_
  refine lv_aload_n hx hb dX1_copyFrom_1 rfl (lv_at hl 1 rfl) ?_
  refine gf_2_0 hx hb htg hown hK hW p1 q239 dX1_copyFrom_2 ?_
  refine pf_2_0 hx hb htg hown hK hW hS p0 q239 dX1_copyFrom_5 (fun H locs hW hS => ?_)
  obtain ⟨x1, e9⟩ : ∃ w : Mem, w = (up4 x 2 ↑p0 0 0 (x 2 ↑p1 0 0)) := ⟨_, rfl⟩
  rw [← e9] at hW
  have hX := lt_go hX e9
  refine lv_aload_n hx hb dX1_copyFrom_8 rfl (lv_at hl 0 rfl) ?_
  refine lv_aload_n hx hb dX1_copyFrom_9 rfl (lv_at hl 1 rfl) ?_
  refine gf_2_1 hx hb htg hown hK hW p1 q240 dX1_copyFrom_10 ?_
  refine pf_2_1 hx hb htg hown hK hW hS p0 q240 dX1_copyFrom_13 (fun H locs hW hS => ?_)
  obtain ⟨x2, e9⟩ : ∃ w : Mem, w = (up4 x1 2 ↑p0 0 1 (x1 2 ↑p1 0 1)) := ⟨_, rfl⟩
  rw [← e9] at hW
  have hX := lt_go hX e9
  refine lv_aload_n hx hb dX1_copyFrom_16 rfl (lv_at hl 0 rfl) ?_
  refine lv_aload_n hx hb dX1_copyFrom_17 rfl (lv_at hl 1 rfl) ?_
  refine gf_2_2 hx hb htg hown hK hW p1 q241 dX1_copyFrom_18 ?_
  refine pf_2_2 hx hb htg hown hK hW hS p0 q241 dX1_copyFrom_21 (fun H locs hW hS => ?_)
  obtain ⟨x3, e9⟩ : ∃ w : Mem, w = (up4 x2 2 ↑p0 0 2 (x2 2 ↑p1 0 2)) := ⟨_, rfl⟩
  rw [← e9] at hW
  have hX := lt_go hX e9
  refine lv_aload_n hx hb dX1_copyFrom_24 rfl (lv_at hl 0 rfl) ?_
  refine lv_aload_n hx hb dX1_copyFrom_25 rfl (lv_at hl 1 rfl) ?_
  refine gf_2_3 hx hb htg hown hK hW p1 q242 dX1_copyFrom_26 ?_
  refine pf_2_3 hx hb htg hown hK hW hS p0 q242 dX1_copyFrom_29 (fun H locs hW hS => ?_)
  obtain ⟨x4, e9⟩ : ∃ w : Mem, w = (up4 x3 2 ↑p0 0 3 (x3 2 ↑p1 0 3)) := ⟨_, rfl⟩
  rw [← e9] at hW
  have hX := lt_go hX e9
  refine lv_aload_n hx hb dX1_copyFrom_32 rfl (lv_at hl 0 rfl) ?_
  refine lv_aload_n hx hb dX1_copyFrom_33 rfl (lv_at hl 1 rfl) ?_
  refine gf_2_4 hx hb htg hown hK hW p1 q243 dX1_copyFrom_34 ?_
  refine pf_2_4 hx hb htg hown hK hW hS p0 q243 dX1_copyFrom_37 (fun H locs hW hS => ?_)
  obtain ⟨x5, e9⟩ : ∃ w : Mem, w = (up4 x4 2 ↑p0 0 4 (x4 2 ↑p1 0 4)) := ⟨_, rfl⟩
  rw [← e9] at hW
  have hX := lt_go hX e9
  refine lv_aload_n hx hb dX1_copyFrom_40 rfl (lv_at hl 0 rfl) ?_
  refine lv_aload_n hx hb dX1_copyFrom_41 rfl (lv_at hl 1 rfl) ?_
  refine gf_2_5 hx hb htg hown hK hW p1 q244 dX1_copyFrom_42 ?_
  refine pf_2_5 hx hb htg hown hK hW hS p0 q244 dX1_copyFrom_45 (fun H locs hW hS => ?_)
  obtain ⟨x6, e9⟩ : ∃ w : Mem, w = (up4 x5 2 ↑p0 0 5 (x5 2 ↑p1 0 5)) := ⟨_, rfl⟩
  rw [← e9] at hW
  have hX := lt_go hX e9
  refine lv_aload_n hx hb dX1_copyFrom_48 rfl (lv_at hl 0 rfl) ?_
  refine lv_aload_n hx hb dX1_copyFrom_49 rfl (lv_at hl 1 rfl) ?_
  refine gf_2_6 hx hb htg hown hK hW p1 q245 dX1_copyFrom_50 ?_
  refine pf_2_6 hx hb htg hown hK hW hS p0 q245 dX1_copyFrom_53 (fun H locs hW hS => ?_)
  obtain ⟨x7, e9⟩ : ∃ w : Mem, w = (up4 x6 2 ↑p0 0 6 (x6 2 ↑p1 0 6)) := ⟨_, rfl⟩
  rw [← e9] at hW
  have hX := lt_go hX e9
  refine lv_aload_n hx hb dX1_copyFrom_56 rfl (lv_at hl 0 rfl) ?_
  refine gf_2_7 hx hb htg hown hK hW p0 q40 dX1_copyFrom_57 ?_
  refine lv_aload_n hx hb dX1_copyFrom_60 rfl (lv_at hl 1 rfl) ?_
  refine gf_2_7 hx hb htg hown hK hW p1 q40 dX1_copyFrom_61 ?_
  obtain ⟨x10, h8, hX⟩ := bd_go hX
  refine k_X10_copyFrom hx hb hml hown htg hK hW hS h8 q246 hl.1 (Nat.le_of_ble_eq_true rfl) (Nat.le_of_ble_eq_true rfl) (Nat.le_of_ble_eq_true rfl) ⟨Nat.zero_le _, Nat.zero_le _⟩ dX1_copyFrom_64 (fun H locs hW hS => ?_)
  refine lv_aload_n hx hb dX1_copyFrom_67 rfl (lv_at hl 0 rfl) ?_
  refine gf_2_8 hx hb htg hown hK hW p0 q44 dX1_copyFrom_68 ?_
  refine lv_aload_n hx hb dX1_copyFrom_71 rfl (lv_at hl 1 rfl) ?_
  refine gf_2_8 hx hb htg hown hK hW p1 q44 dX1_copyFrom_72 ?_
  obtain ⟨x13, h11, hX⟩ := bd_go hX
  refine k_X7_copyFrom hx hb hml hown htg hK hW hS h11 q253 hl.1 (Nat.le_of_ble_eq_true rfl) (Nat.le_of_ble_eq_true rfl) (Nat.le_of_ble_eq_true rfl) ⟨Nat.zero_le _, Nat.zero_le _⟩ dX1_copyFrom_75 (fun H locs hW hS => ?_)
  refine lv_iconst (v := (0 : Int32)) hx hb dX1_copyFrom_78 (by decide) ?_
  refine lv_topi (fun x2_14 e9 => ?_)
  have hX := lt_go hX e9
  refine lv_istore_n (lv' := [(2, .int x2_14), (0, .ref (gA G 2 ↑p0 0)), (1, .ref (gA G 2 ↑p1 0))]) hx hb dX1_copyFrom_79 rfl hl (by decide) rfl (fun ls hl => ?_)
  exact L_80 FU _ _ _ _ _ hW hS (lv_sub hl [1, 2, 0] rfl) hX
set_option maxHeartbeats 4000000 in
theorem k_X1_copyFrom {p : Program} {l : Launch} {e : Env} {R : Room} {s : State} {m : MethodId} {args : Array Value} {below : List Frame} {meth : Method} {c : Code} {H : Heap} {locs : List Loc} {cells slots : Nat} {Q : State → Prop} {cc : ByteArray} {pc nL idx : Nat} {own : String} {ls : Array Slot} {rest : List Value} {G : Geo} {x y : Mem} {H0 : Heap} {p0 : Fin 10} {p1 : Fin 10} {z : Mem} (hx : p.tables.exec = Jvm.exec) (hb : c.code = cc) (hml : c.maxLocals = nL) (hown : s.vm.findClass own = some m.cls) (htg : ∀ w ∈ wsG, w.before args s = true) (hK : Kt G s) (hW : Wh G x y H) (hS : va_S (gF G) H0 H locs) (h : m_X1_copyFrom p0 p1 x = some z) (hlk : Cond.methodLink own idx yX1_copyFrom ∈ wsG) (hn : ls.size = nL) (hr : (rest.map fun v => v.category).sum ≤ 8) (hR1 : 2 + 1 ≤ R.frames) (hR2 : 8 + (3 + 11) + 43 ≤ R.locals) (hf : cells ≤ R.cells ∧ slots ≤ R.slots) (hdg : decode cc pc = .ok (.invokevirtual idx, 3)) (kk : ∀ (H1 : Heap) (locs1 : List Loc), Wh G z y H1 → va_S (gF G) H0 H1 locs1 → W p l e R s m args below meth c H1 locs1 cells slots Q (F0 m (pc + 3) ls (rest))) : W p l e R s m args below meth c H locs cells slots Q (F0 m pc ls (.ref (gA G 2 ↑p1 0) :: .ref (gA G 2 ↑p0 0) :: rest)) := by
  refine va_callv (va_runV (As := [.ref (gA G 2 ↑p1 0)]) (rest := rest) ⟨hx, hb, hml, hown, htg⟩ (c_X1_copyFrom l G x y p0 p1 z h) (cwV 1 htg (gd_V hlk q236 q237 q16 q238) rfl rfl rfl (by decide +kernel) ⟨hR1, hR2⟩) ⟨fun a U g mk q => ⟨q.1, q.2.1.calling, q.2.2⟩, rc_2 hK hW p0, fun U hU hW9 => ⟨rfl, hK.warm hW9, by rw [hU]; exact hW⟩⟩ rfl rfl hn rfl (lv_room hr) hdg hf) hS (fun _ _ h9 => h9) (fun _ h9 => h9) ?_
  intro u t H1 locs1 ht hvm hw hB hz1 hk1 hS1
  replace hB : Wh G z y t.heap := hB
  rw [ht] at hB
  exact kk H1 locs1 hB hS1
