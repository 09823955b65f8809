/-! METHOD X1_takeBackLast -/
def m_X1_takeBackLast (p0 : Fin 10) (p1 : Int32) (x : Mem) : Option (Int32 × Mem) :=
  bd_ (m_X1_armAt p0 p1) fun r2 => bd2_ (m_X0_takeLastOfRow r2 x) fun r4 x5 => lt_ r4 fun x2_6 => bd_ (m_X1_jobAt p0 x2_6) fun r8 => lt_ (up4 x5 12 ↑r8.1 ↑r8.2 7 (3 : Int32)) fun x9 => lt_ (up4 x9 2 ↑p0 0 3 ((x9 2 ↑p0 0 3) + (1 : Int32))) fun x10 => some (x2_6, x10)
abbrev WS_X1_takeBackLast : List Cond := .code yX1_takeBackLast cX1_takeBackLast 3 (some .int) :: wsG
abbrev RM_X1_takeBackLast : Room := { frames := 2, cells := 0, slots := 0, locals := 42 }
set_option maxHeartbeats 4000000 in
set_option maxRecDepth 100000 in
theorem c_X1_takeBackLast (l : Launch) (G : Geo) (x y : Mem) (p0 : Fin 10) (p1 : Int32) (r : (Int32 × Mem)) (h : m_X1_takeBackLast p0 p1 x = some r) : Met l yX1_takeBackLast WS_X1_takeBackLast RM_X1_takeBackLast (Pw G x y [.ref (gA G 2 ↑p0 0), .int p1]) (Qi G r.2 y r.1) 0 0 (gF G) := by
  refine Met.ofW (cc := cX1_takeBackLast) (maxL := 3) (ret := (some .int)) (by decide) rfl ?_
  intro p e s m args below meth c s₁ B hml hv
  obtain ⟨rfl, hK, hW⟩ := hv
  have hx := B.exec
  have hb := B.bytes
  have hr := B.returns
  have hts := atoms_spec (ws := WS_X1_takeBackLast) B.pre
  have htg : ∀ w ∈ wsG, w.before _ s = true := fun w h => hts w (List.mem_cons_of_mem _ h)
  have hown : s.vm.findClass RX1 = some m.cls := findClass_of_methodNamed B.named
  have hlocks := B.notSynchronized
  have hS : va_S (gF G) s.heap s.heap [] := va_S.rf
  have hl := lv_entry ([.ref (gA G 2 ↑p0 0), .int p1]) (n := 3) (Nat.le_of_ble_eq_true rfl)
  rw [lg_entry_eq]
  generalize (lg_sl ([.ref (gA G 2 ↑p0 0), .int p1]) ++ List.replicate (3 - (lg_sl ([.ref (gA G 2 ↑p0 0), .int p1])).length) Slot.unset).toArray = ls at hl ⊢
  have hl : lv_has ls 3 [(0, .ref (gA G 2 ↑p0 0)), (1, .int p1)] := hl
  have hX := h
  unfold m_X1_takeBackLast at hX
  refine lv_aload_n hx hb dX1_takeBackLast_0 rfl (lv_at hl 0 rfl) ?_
  refine lv_iload_n hx hb dX1_takeBackLast_1 rfl (lv_at hl 1 rfl) ?_
  obtain ⟨r2, h1, hX⟩ := bd_go hX
  refine k_X1_armAt hx hb hml hown htg hK hW hS h1 q210 hl.1 (Nat.le_of_ble_eq_true rfl) (Nat.le_of_ble_eq_true rfl) (Nat.le_of_ble_eq_true rfl) ⟨Nat.zero_le _, Nat.zero_le _⟩ dX1_takeBackLast_2 (fun H locs hW hS => ?_)
  obtain ⟨r4, x5, h3, hX⟩ := bd2_go hX
  refine k_X0_takeLastOfRow hx hb hml hown htg hK hW hS h3 q595 hl.1 (Nat.le_of_ble_eq_true rfl) (Nat.le_of_ble_eq_true rfl) (Nat.le_of_ble_eq_true rfl) ⟨Nat.zero_le _, Nat.zero_le _⟩ dX1_takeBackLast_5 (fun H locs hW hS => ?_)
  refine lv_topi (fun x2_6 e9 => ?_)
  have hX := lt_go hX e9
  refine lv_istore_n (lv' := [(2, .int x2_6), (0, .ref (gA G 2 ↑p0 0)), (1, .int p1)]) hx hb dX1_takeBackLast_8 rfl hl (by decide) rfl (fun ls hl => ?_)
  refine lv_aload_n hx hb dX1_takeBackLast_9 rfl (lv_at hl 1 rfl) ?_
  refine lv_iload_n hx hb dX1_takeBackLast_10 rfl (lv_at hl 0 rfl) ?_
  obtain ⟨r8, h7, hX⟩ := bd_go hX
  refine k_X1_jobAt hx hb hml hown htg hK hW hS h7 q284 hl.1 (Nat.le_of_ble_eq_true rfl) (Nat.le_of_ble_eq_true rfl) (Nat.le_of_ble_eq_true rfl) ⟨Nat.zero_le _, Nat.zero_le _⟩ dX1_takeBackLast_11 (fun H locs hW hS => ?_)
  refine lv_iconst (v := (3 : Int32)) hx hb dX1_takeBackLast_14 (by decide) ?_
  refine pf_12_7 hx hb htg hown hK hW hS r8 q555 dX1_takeBackLast_15 (fun H locs hW hS => ?_)
  obtain ⟨x9, e9⟩ : ∃ w : Mem, w = (up4 x5 12 ↑r8.1 ↑r8.2 7 (3 : Int32)) := ⟨_, rfl⟩
  rw [← e9] at hW
  have hX := lt_go hX e9
  refine lv_aload_n hx hb dX1_takeBackLast_18 rfl (lv_at hl 1 rfl) ?_
  refine lv_dup hx hb dX1_takeBackLast_19 rfl ?_
  refine gf_2_3 hx hb htg hown hK hW p0 q242 dX1_takeBackLast_20 ?_
  refine lv_iconst (v := (1 : Int32)) hx hb dX1_takeBackLast_23 (by decide) ?_
  refine lv_iadd hx hb dX1_takeBackLast_24 ?_
  refine pf_2_3 hx hb htg hown hK hW hS p0 q242 dX1_takeBackLast_25 (fun H locs hW hS => ?_)
  obtain ⟨x10, e9⟩ : ∃ w : Mem, w = (up4 x9 2 ↑p0 0 3 ((x9 2 ↑p0 0 3) + (1 : Int32))) := ⟨_, rfl⟩
  rw [← e9] at hW
  have hX := lt_go hX e9
  refine lv_iload_n hx hb dX1_takeBackLast_28 rfl (lv_at hl 0 rfl) ?_
  have hX := Option.some.inj hX
  subst hX
  exact rt_i hx hb hr hlocks hW hS dX1_takeBackLast_29
set_option maxHeartbeats 4000000 in
theorem k_X1_takeBackLast {p : Program} {l : Launch} {e : Env} {R : Room} {s : State} {m : MethodId} {args : Array Value} {below : List Frame} {meth : Method} {c : Code} {H : Heap} {locs : List Loc} {cells slots : Nat} {Q : State → Prop} {cc : ByteArray} {pc nL idx : Nat} {own : String} {ls : Array Slot} {rest : List Value} {G : Geo} {x y : Mem} {H0 : Heap} {p0 : Fin 10} {p1 : Int32} {v : Int32} {z : Mem} (hx : p.tables.exec = Jvm.exec) (hb : c.code = cc) (hml : c.maxLocals = nL) (hown : s.vm.findClass own = some m.cls) (htg : ∀ w ∈ wsG, w.before args s = true) (hK : Kt G s) (hW : Wh G x y H) (hS : va_S (gF G) H0 H locs) (h : m_X1_takeBackLast p0 p1 x = some (v, z)) (hlk : Cond.methodLink own idx yX1_takeBackLast ∈ wsG) (hn : ls.size = nL) (hr : (rest.map fun v => v.category).sum ≤ 8) (hR1 : 2 + 1 ≤ R.frames) (hR2 : 8 + (3 + 11) + 42 ≤ R.locals) (hf : cells ≤ R.cells ∧ slots ≤ R.slots) (hdg : decode cc pc = .ok (.invokevirtual idx, 3)) (kk : ∀ (H1 : Heap) (locs1 : List Loc), Wh G z y H1 → va_S (gF G) H0 H1 locs1 → W p l e R s m args below meth c H1 locs1 cells slots Q (F0 m (pc + 3) ls (.int v :: rest))) : W p l e R s m args below meth c H locs cells slots Q (F0 m pc ls (.int p1 :: .ref (gA G 2 ↑p0 0) :: rest)) := by
  refine va_calli (va_runV (As := [.int p1]) (rest := rest) ⟨hx, hb, hml, hown, htg⟩ (c_X1_takeBackLast l G x y p0 p1 (v, z) h) (cwV 1 htg (gd_V hlk q592 q593 q16 q594) rfl rfl rfl (by decide +kernel) ⟨hR1, hR2⟩) ⟨fun a U g mk q => ⟨q.1, q.2.1.calling, q.2.2⟩, rc_2 hK hW p0, fun U hU hW9 => ⟨rfl, hK.warm hW9, by rw [hU]; exact hW⟩⟩ rfl rfl hn rfl (lv_room hr) hdg hf) hS (fun _ _ h9 => h9) (fun _ h9 => h9) ?_
  intro r9 u t H1 locs1 ht hvm hw hB hz1 hk1 hS1
  replace hB : Wh G z y t.heap := hB
  rw [ht] at hB
  replace hw : r9 = v := hw
  subst hw
  exact kk H1 locs1 hB hS1
/-! METHOD X2_addZone -/
def m_X2_addZone_j29 (p0 : Fin 28) (p1 : Int32) (s0 : Int32) (s1 : Fin 28) (x : Mem) : Option Mem :=
  lt_ (up4 x 25 0 ↑s1 2 s0) fun x3 => some x3
def m_X2_addZone_j14 (p0 : Fin 28) (p1 : Int32) (s0 : Fin 28) (x : Mem) : Option Mem :=
  m_X2_addZone_j29 p0 p1 (-1 : Int32) s0 x
def m_X2_addZone (p0 : Fin 28) (p1 : Int32) (x : Mem) : Option Mem :=
  if (x 25 0 ↑p0 2) < 0 then (m_X2_addZone_j14 p0 p1 p0 x) else (if p1 < (8 : Int32) then (m_X2_addZone_j29 p0 p1 ((((x 25 0 ↑p0 2) * (10 : Int32)) + p1) + (1 : Int32)) p0 x) else (m_X2_addZone_j14 p0 p1 p0 x))
abbrev WS_X2_addZone : List Cond := .code yX2_addZone cX2_addZone 2 none :: wsG
abbrev RM_X2_addZone : Room := { frames := 0, cells := 0, slots := 0, locals := 0 }
set_option maxHeartbeats 4000000 in
set_option maxRecDepth 100000 in
theorem c_X2_addZone (l : Launch) (G : Geo) (x y : Mem) (p0 : Fin 28) (p1 : Int32) (r : Mem) (h : m_X2_addZone p0 p1 x = some r) : Met l yX2_addZone WS_X2_addZone RM_X2_addZone (Pw G x y [.ref (gA G 25 0 ↑p0), .int p1]) (Qv G r y) 0 0 (gF G) := by
  refine Met.ofW (cc := cX2_addZone) (maxL := 2) (ret := none) (by decide) rfl ?_
  intro p e s m args below meth c s₁ B hml hv
  obtain ⟨rfl, hK, hW⟩ := hv
  have hx := B.exec
  have hb := B.bytes
  have hr := B.returns
  have hts := atoms_spec (ws := WS_X2_addZone) B.pre
  have htg : ∀ w ∈ wsG, w.before _ s = true := fun w h => hts w (List.mem_cons_of_mem _ h)
  have hown : s.vm.findClass RX2 = some m.cls := findClass_of_methodNamed B.named
  have hlocks := B.notSynchronized
  have hS : va_S (gF G) s.heap s.heap [] := va_S.rf
  have hl := lv_entry ([.ref (gA G 25 0 ↑p0), .int p1]) (n := 2) (Nat.le_of_ble_eq_true rfl)
  rw [lg_entry_eq]
  generalize (lg_sl ([.ref (gA G 25 0 ↑p0), .int p1]) ++ List.replicate (2 - (lg_sl ([.ref (gA G 25 0 ↑p0), .int p1])).length) Slot.unset).toArray = ls at hl ⊢
  have hl : lv_has ls 2 [(0, .ref (gA G 25 0 ↑p0)), (1, .int p1)] := hl
  have hX := h
  unfold m_X2_addZone at hX
  have J_29 : ∀ (s0 : Int32) (s1 : Fin 28) (x : Mem) (H : Heap) (locs : List Loc) (ls : Array Slot), Wh G x y H → va_S (gF G) s.heap H locs → lv_has ls 2 [] → m_X2_addZone_j29 p0 p1 s0 s1 x = some r → W p l e (headSpec WS_X2_addZone RM_X2_addZone).room s m ([.ref (gA G 25 0 ↑p0), .int p1] : List Value).toArray below meth c H locs 0 0 (MQ below (Qv G r y) ([.ref (gA G 25 0 ↑p0), .int p1] : List Value).toArray s 0 0 (gF G)) (F0 m 29 ls [.int s0, .ref (gA G 25 0 ↑s1)]) := by
    intro s0 s1 x H locs ls hW hS hl hX
    unfold m_X2_addZone_j29 at hX
    refine pf_25_2 hx hb htg hown hK hW hS s1 q1138 dX2_addZone_29 (fun H locs hW hS => ?_)
    obtain ⟨x3, e9⟩ : ∃ w : Mem, w = (up4 x 25 0 ↑s1 2 s0) := ⟨_, rfl⟩
    rw [← e9] at hW
    have hX := lt_go hX e9
    have hX := Option.some.inj hX
    subst hX
    exact rt_v hx hb hr hlocks hW hS dX2_addZone_32
  have J_14 : ∀ (s0 : Fin 28) (x : Mem) (H : Heap) (locs : List Loc) (ls : Array Slot), Wh G x y H → va_S (gF G) s.heap H locs → lv_has ls 2 [] → m_X2_addZone_j14 p0 p1 s0 x = some r → W p l e (headSpec WS_X2_addZone RM_X2_addZone).room s m ([.ref (gA G 25 0 ↑p0), .int p1] : List Value).toArray below meth c H locs 0 0 (MQ below (Qv G r y) ([.ref (gA G 25 0 ↑p0), .int p1] : List Value).toArray s 0 0 (gF G)) (F0 m 14 ls [.ref (gA G 25 0 ↑s0)]) := by
    intro s0 x H locs ls hW hS hl hX
    unfold m_X2_addZone_j14 at hX
    refine lv_iconst (v := (-1 : Int32)) hx hb dX2_addZone_14 (by decide) ?_
    refine lv_goto (tgt := 29) hx hb dX2_addZone_15 (by decide) ?_
    exact J_29 _ _ _ _ _ _ hW hS (lv_sub hl [] rfl) hX
  refine lv_aload_n hx hb dX2_addZone_0 rfl (lv_at hl 0 rfl) ?_
  refine lv_aload_n hx hb dX2_addZone_1 rfl (lv_at hl 0 rfl) ?_
  refine gf_25_2 hx hb htg hown hK hW p0 q1138 dX2_addZone_2 ?_
  refine lv_if_lt (tgt := 14) hx hb dX2_addZone_5 (by decide) (fun c1 => ?_) (fun c1 => ?_)
  · have hX := it_t hX c1
    exact J_14 _ _ _ _ _ hW hS (lv_sub hl [] rfl) hX
  · have hX := it_f hX c1
    refine lv_iload_n hx hb dX2_addZone_8 rfl (lv_at hl 1 rfl) ?_
    refine lv_bipush (v := (8 : Int32)) hx hb dX2_addZone_9 (by decide) ?_
    refine lv_icmp_lt (tgt := 18) hx hb dX2_addZone_11 (by decide) (fun c2 => ?_) (fun c2 => ?_)
    · have hX := it_t hX c2
      refine lv_aload_n hx hb dX2_addZone_18 rfl (lv_at hl 0 rfl) ?_
      refine gf_25_2 hx hb htg hown hK hW p0 q1138 dX2_addZone_19 ?_
      refine lv_bipush (v := (10 : Int32)) hx hb dX2_addZone_22 (by decide) ?_
      refine lv_imul hx hb dX2_addZone_24 ?_
      refine lv_iload_n hx hb dX2_addZone_25 rfl (lv_at hl 1 rfl) ?_
      refine lv_iadd hx hb dX2_addZone_26 ?_
      refine lv_iconst (v := (1 : Int32)) hx hb dX2_addZone_27 (by decide) ?_
      refine lv_iadd hx hb dX2_addZone_28 ?_
      exact J_29 _ _ _ _ _ _ hW hS (lv_sub hl [] rfl) hX
    · have hX := it_f hX c2
      exact J_14 _ _ _ _ _ hW hS (lv_sub hl [] rfl) hX
set_option maxHeartbeats 4000000 in
theorem k_X2_addZone {p : Program} {l : Launch} {e : Env} {R : Room} {s : State} {m : MethodId} {args : Array Value} {below : List Frame} {meth : Method} {c : Code} {H : Heap} {locs : List Loc} {cells slots : Nat} {Q : State → Prop} {cc : ByteArray} {pc nL idx : Nat} {own : String} {ls : Array Slot} {rest : List Value} {G : Geo} {x y : Mem} {H0 : Heap} {p0 : Fin 28} {p1 : Int32} {z : Mem} (hx : p.tables.exec = Jvm.exec) (hb : c.code = cc) (hml : c.maxLocals = nL) (hown : s.vm.findClass own = some m.cls) (htg : ∀ w ∈ wsG, w.before args s = true) (hK : Kt G s) (hW : Wh G x y H) (hS : va_S (gF G) H0 H locs) (h : m_X2_addZone p0 p1 x = some z) (hlk : Cond.methodLink own idx yX2_addZone ∈ wsG) (hn : ls.size = nL) (hr : (rest.map fun v => v.category).sum ≤ 8) (hR1 : 0 + 1 ≤ R.frames) (hR2 : 8 + (2 + 11) + 0 ≤ R.locals) (hf : cells ≤ R.cells ∧ slots ≤ R.slots) (hdg : decode cc pc = .ok (.invokevirtual idx, 3)) (kk : ∀ (H1 : Heap) (locs1 : List Loc), Wh G z y H1 → va_S (gF G) H0 H1 locs1 → W p l e R s m args below meth c H1 locs1 cells slots Q (F0 m (pc + 3) ls (rest))) : W p l e R s m args below meth c H locs cells slots Q (F0 m pc ls (.int p1 :: .ref (gA G 25 0 ↑p0) :: rest)) := by
  refine va_callv (va_runV (As := [.int p1]) (rest := rest) ⟨hx, hb, hml, hown, htg⟩ (c_X2_addZone l G x y p0 p1 z h) (cwV 1 htg (gd_V hlk q1135 q1136 q126 q1137) rfl rfl rfl (by decide +kernel) ⟨hR1, hR2⟩) ⟨fun a U g mk q => ⟨q.1, q.2.1.calling, q.2.2⟩, rc_25 hK hW p0, fun U hU hW9 => ⟨rfl, hK.warm hW9, by rw [hU]; exact hW⟩⟩ rfl rfl hn rfl (lv_room hr) hdg hf) hS (fun _ _ h9 => h9) (fun _ h9 => h9) ?_
  intro u t H1 locs1 ht hvm hw hB hz1 hk1 hS1
  replace hB : Wh G z y t.heap := hB
  rw [ht] at hB
  exact kk H1 locs1 hB hS1
/-! METHOD X3_append -/
def m_X3_append (p0 : Int32) (x : Mem) : Option (Int32 × Mem) :=
  if (x 22 0 0 2) < 0 then (some ((x 22 0 0 2), x)) else (if (80 : Int32) ≤ (x 22 0 0 2) then (some ((x 22 0 0 2), x)) else (gd_ (x 22 0 0 2) 80 (lt_ (up4 x 23 0 0 (x 22 0 0 2).toNatClampNeg (vp_nar .char p0)) fun x4 => lt_ (up4 x4 22 0 0 2 ((x4 22 0 0 2) + (1 : Int32))) fun x5 => some ((x5 22 0 0 2), x5))))
abbrev WS_X3_append : List Cond := .code yX3_append cX3_append 2 (some .int) :: wsG
abbrev RM_X3_append : Room := { frames := 0, cells := 0, slots := 0, locals := 0 }
set_option maxHeartbeats 4000000 in
set_option maxRecDepth 100000 in
theorem c_X3_append (l : Launch) (G : Geo) (x y : Mem) (p0 : Int32) (r : (Int32 × Mem)) (h : m_X3_append p0 x = some r) : Met l yX3_append WS_X3_append RM_X3_append (Pw G x y [.ref (gA G 22 0 0), .int p0]) (Qi G r.2 y r.1) 0 0 (gF G) := by
  refine Met.ofW (cc := cX3_append) (maxL := 2) (ret := (some .int)) (by decide) rfl ?_
  intro p e s m args below meth c s₁ B hml hv
  obtain ⟨rfl, hK, hW⟩ := hv
  have hx := B.exec
  have hb := B.bytes
  have hr := B.returns
  have hts := atoms_spec (ws := WS_X3_append) B.pre
  have htg : ∀ w ∈ wsG, w.before _ s = true := fun w h => hts w (List.mem_cons_of_mem _ h)
  have hown : s.vm.findClass RX3 = some m.cls := findClass_of_methodNamed B.named
  have hlocks := B.notSynchronized
  have hS : va_S (gF G) s.heap s.heap [] := va_S.rf
  have hl := lv_entry ([.ref (gA G 22 0 0), .int p0]) (n := 2) (Nat.le_of_ble_eq_true rfl)
  rw [lg_entry_eq]
  generalize (lg_sl ([.ref (gA G 22 0 0), .int p0]) ++ List.replicate (2 - (lg_sl ([.ref (gA G 22 0 0), .int p0])).length) Slot.unset).toArray = ls at hl ⊢
  have hl : lv_has ls 2 [(0, .ref (gA G 22 0 0)), (1, .int p0)] := hl
  have hX := h
  unfold m_X3_append at hX
  refine lv_aload_n hx hb dX3_append_0 rfl (lv_at hl 0 rfl) ?_
  refine gf_22_2 hx hb htg hown hK hW q1076 dX3_append_1 ?_
  refine lv_if_lt (tgt := 39) hx hb dX3_append_4 (by decide) (fun c1 => ?_) (fun c1 => ?_)
  · have hX := it_t hX c1
    refine lv_aload_n hx hb dX3_append_39 rfl (lv_at hl 0 rfl) ?_
    refine gf_22_2 hx hb htg hown hK hW q1076 dX3_append_40 ?_
    have hX := Option.some.inj hX
    subst hX
    exact rt_i hx hb hr hlocks hW hS dX3_append_43
  · have hX := it_f hX c1
    refine lv_aload_n hx hb dX3_append_7 rfl (lv_at hl 0 rfl) ?_
    refine gf_22_2 hx hb htg hown hK hW q1076 dX3_append_8 ?_
    refine lv_aload_n hx hb dX3_append_11 rfl (lv_at hl 0 rfl) ?_
    refine gf_22_1 hx hb htg hown hK hW q123 dX3_append_12 ?_
    refine an_23 hx hb hK hW dX3_append_15 ?_
    refine lv_icmp_ge (tgt := 39) hx hb dX3_append_16 (by decide) (fun c2 => ?_) (fun c2 => ?_)
    · have hX := it_t hX c2
      refine lv_aload_n hx hb dX3_append_39 rfl (lv_at hl 0 rfl) ?_
      refine gf_22_2 hx hb htg hown hK hW q1076 dX3_append_40 ?_
      have hX := Option.some.inj hX
      subst hX
      exact rt_i hx hb hr hlocks hW hS dX3_append_43
    · have hX := it_f hX c2
      refine lv_aload_n hx hb dX3_append_19 rfl (lv_at hl 0 rfl) ?_
      refine gf_22_1 hx hb htg hown hK hW q123 dX3_append_20 ?_
      refine lv_aload_n hx hb dX3_append_23 rfl (lv_at hl 0 rfl) ?_
      refine gf_22_2 hx hb htg hown hK hW q1076 dX3_append_24 ?_
      refine lv_iload_n hx hb dX3_append_27 rfl (lv_at hl 1 rfl) ?_
      obtain ⟨g3, hX⟩ := gd_go hX
      refine as_23 hx hb hK hW hS g3 dX3_append_28 (fun H locs hW hS => ?_)
      obtain ⟨x4, e9⟩ : ∃ w : Mem, w = (up4 x 23 0 0 (x 22 0 0 2).toNatClampNeg (vp_nar .char p0)) := ⟨_, rfl⟩
      rw [← e9] at hW
      have hX := lt_go hX e9
      refine lv_aload_n hx hb dX3_append_29 rfl (lv_at hl 0 rfl) ?_
      refine lv_dup hx hb dX3_append_30 rfl ?_
      refine gf_22_2 hx hb htg hown hK hW q1076 dX3_append_31 ?_
      refine lv_iconst (v := (1 : Int32)) hx hb dX3_append_34 (by decide) ?_
      refine lv_iadd hx hb dX3_append_35 ?_
      refine pf_22_2 hx hb htg hown hK hW hS q1076 dX3_append_36 (fun H locs hW hS => ?_)
      obtain ⟨x5, e9⟩ : ∃ w : Mem, w = (up4 x4 22 0 0 2 ((x4 22 0 0 2) + (1 : Int32))) := ⟨_, rfl⟩
      rw [← e9] at hW
      have hX := lt_go hX e9
      refine lv_aload_n hx hb dX3_append_39 rfl (lv_at hl 0 rfl) ?_
      refine gf_22_2 hx hb htg hown hK hW q1076 dX3_append_40 ?_
      have hX := Option.some.inj hX
      subst hX
      exact rt_i hx hb hr hlocks hW hS dX3_append_43
set_option maxHeartbeats 4000000 in
theorem k_X3_append {p : Program} {l : Launch} {e : Env} {R : Room} {s : State} {m : MethodId} {args : Array Value} {below : List Frame} {meth : Method} {c : Code} {H : Heap} {locs : List Loc} {cells slots : Nat} {Q : State → Prop} {cc : ByteArray} {pc nL idx : Nat} {own : String} {ls : Array Slot} {rest : List Value} {G : Geo} {x y : Mem} {H0 : Heap} {p0 : Int32} {v : Int32} {z : Mem} (hx : p.tables.exec = Jvm.exec) (hb : c.code = cc) (hml : c.maxLocals = nL) (hown : s.vm.findClass own = some m.cls) (htg : ∀ w ∈ wsG, w.before args s = true) (hK : Kt G s) (hW : Wh G x y H) (hS : va_S (gF G) H0 H locs) (h : m_X3_append p0 x = some (v, z)) (hlk : Cond.methodLink own idx yX3_append ∈ wsG) (hn : ls.size = nL) (hr : (rest.map fun v => v.category).sum ≤ 8) (hR1 : 0 + 1 ≤ R.frames) (hR2 : 8 + (2 + 11) + 0 ≤ R.locals) (hf : cells ≤ R.cells ∧ slots ≤ R.slots) (hdg : decode cc pc = .ok (.invokevirtual idx, 3)) (kk : ∀ (H1 : Heap) (locs1 : List Loc), Wh G z y H1 → va_S (gF G) H0 H1 locs1 → W p l e R s m args below meth c H1 locs1 cells slots Q (F0 m (pc + 3) ls (.int v :: rest))) : W p l e R s m args below meth c H locs cells slots Q (F0 m pc ls (.int p0 :: .ref (gA G 22 0 0) :: rest)) := by
  refine va_calli (va_runV (As := [.int p0]) (rest := rest) ⟨hx, hb, hml, hown, htg⟩ (c_X3_append l G x y p0 (v, z) h) (cwV 1 htg (gd_V hlk q1078 q1079 q31 q1080) rfl rfl rfl (by decide +kernel) ⟨hR1, hR2⟩) ⟨fun a U g mk q => ⟨q.1, q.2.1.calling, q.2.2⟩, rc_22 hK hW, fun U hU hW9 => ⟨rfl, hK.warm hW9, by rw [hU]; exact hW⟩⟩ rfl rfl hn rfl (lv_room hr) hdg hf) hS (fun _ _ h9 => h9) (fun _ h9 => h9) ?_
  intro r9 u t H1 locs1 ht hvm hw hB hz1 hk1 hS1
  replace hB : Wh G z y t.heap := hB
  rw [ht] at hB
  replace hw : r9 = v := hw
  subst hw
  exact kk H1 locs1 hB hS1
/-! METHOD X3_commandAt -/
def m_X3_commandAt (p0 : Int32) : Option (Fin 28) :=
  if p0 < 0 then (some (27 : Fin 28)) else (if (27 : Int32) ≤ p0 then (some (27 : Fin 28)) else (gd_ p0 27 (lt_ (el_24 p0) fun o4 => lt_ (el_24 p0) fun o5 => some o5)))
abbrev WS_X3_commandAt : List Cond := .code yX3_commandAt cX3_commandAt 2 (some (.object "RobotCell$Command")) :: wsG
abbrev RM_X3_commandAt : Room := { frames := 0, cells := 0, slots := 0, locals := 0 }
set_option maxHeartbeats 4000000 in
set_option maxRecDepth 100000 in
theorem c_X3_commandAt (l : Launch) (G : Geo) (x y : Mem) (p0 : Int32) (r : (Fin 28)) (h : m_X3_commandAt p0 = some r) : Met l yX3_commandAt WS_X3_commandAt RM_X3_commandAt (Pw G x y [.ref (gA G 22 0 0), .int p0]) (Qr G x y (gA G 25 0 ↑r)) 0 0 (gF G) := by
  refine Met.ofW (cc := cX3_commandAt) (maxL := 2) (ret := (some (.object "RobotCell$Command"))) (by decide) rfl ?_
  intro p e s m args below meth c s₁ B hml hv
  obtain ⟨rfl, hK, hW⟩ := hv
  have hx := B.exec
  have hb := B.bytes
  have hr := B.returns
  have hts := atoms_spec (ws := WS_X3_commandAt) B.pre
  have htg : ∀ w ∈ wsG, w.before _ s = true := fun w h => hts w (List.mem_cons_of_mem _ h)
  have hown : s.vm.findClass RX3 = some m.cls := findClass_of_methodNamed B.named
  have hlocks := B.notSynchronized
  have hS : va_S (gF G) s.heap s.heap [] := va_S.rf
  have hl := lv_entry ([.ref (gA G 22 0 0), .int p0]) (n := 2) (Nat.le_of_ble_eq_true rfl)
  rw [lg_entry_eq]
  generalize (lg_sl ([.ref (gA G 22 0 0), .int p0]) ++ List.replicate (2 - (lg_sl ([.ref (gA G 22 0 0), .int p0])).length) Slot.unset).toArray = ls at hl ⊢
  have hl : lv_has ls 2 [(0, .ref (gA G 22 0 0)), (1, .int p0)] := hl
  have hX := h
  unfold m_X3_commandAt at hX
  refine lv_iload_n hx hb dX3_commandAt_0 rfl (lv_at hl 1 rfl) ?_
  refine lv_if_lt (tgt := 31) hx hb dX3_commandAt_1 (by decide) (fun c1 => ?_) (fun c1 => ?_)
  · have hX := it_t hX c1
    refine lv_aload_n hx hb dX3_commandAt_31 rfl (lv_at hl 0 rfl) ?_
    refine gf_22_6 hx hb htg hown hK hW q127 dX3_commandAt_32 ?_
    have hX := Option.some.inj hX
    subst hX
    exact rt_r hx hb hr hlocks hW hS dX3_commandAt_35
  · have hX := it_f hX c1
    refine lv_iload_n hx hb dX3_commandAt_4 rfl (lv_at hl 1 rfl) ?_
    refine lv_aload_n hx hb dX3_commandAt_5 rfl (lv_at hl 0 rfl) ?_
    refine gf_22_5 hx hb htg hown hK hW q128 dX3_commandAt_6 ?_
    refine an_24 hx hb hK hW dX3_commandAt_9 ?_
    refine lv_icmp_ge (tgt := 31) hx hb dX3_commandAt_10 (by decide) (fun c2 => ?_) (fun c2 => ?_)
    · have hX := it_t hX c2
      refine lv_aload_n hx hb dX3_commandAt_31 rfl (lv_at hl 0 rfl) ?_
      refine gf_22_6 hx hb htg hown hK hW q127 dX3_commandAt_32 ?_
      have hX := Option.some.inj hX
      subst hX
      exact rt_r hx hb hr hlocks hW hS dX3_commandAt_35
    · have hX := it_f hX c2
      refine lv_aload_n hx hb dX3_commandAt_13 rfl (lv_at hl 0 rfl) ?_
      refine gf_22_5 hx hb htg hown hK hW q128 dX3_commandAt_14 ?_
      refine lv_iload_n hx hb dX3_commandAt_17 rfl (lv_at hl 1 rfl) ?_
      obtain ⟨g3, hX⟩ := gd_go hX
      refine ae_24 hx hb hK hW g3 dX3_commandAt_18 ?_
      obtain ⟨o4, e9⟩ : ∃ w, w = (el_24 p0) := ⟨_, rfl⟩
      rw [← e9]
      have hX := lt_go hX e9
      refine lv_ifnull hx hb dX3_commandAt_19 ?_
      refine lv_aload_n hx hb dX3_commandAt_22 rfl (lv_at hl 0 rfl) ?_
      refine gf_22_5 hx hb htg hown hK hW q128 dX3_commandAt_23 ?_
      refine lv_iload_n hx hb dX3_commandAt_26 rfl (lv_at hl 1 rfl) ?_
      refine ae_24 hx hb hK hW g3 dX3_commandAt_27 ?_
      obtain ⟨o5, e9⟩ : ∃ w, w = (el_24 p0) := ⟨_, rfl⟩
      rw [← e9]
      have hX := lt_go hX e9
      refine lv_goto (tgt := 35) hx hb dX3_commandAt_28 (by decide) ?_
      have hX := Option.some.inj hX
      subst hX
      exact rt_r hx hb hr hlocks hW hS dX3_commandAt_35
set_option maxHeartbeats 4000000 in
theorem k_X3_commandAt {p : Program} {l : Launch} {e : Env} {R : Room} {s : State} {m : MethodId} {args : Array Value} {below : List Frame} {meth : Method} {c : Code} {H : Heap} {locs : List Loc} {cells slots : Nat} {Q : State → Prop} {cc : ByteArray} {pc nL idx : Nat} {own : String} {ls : Array Slot} {rest : List Value} {G : Geo} {x y : Mem} {H0 : Heap} {p0 : Int32} {v : (Fin 28)} (hx : p.tables.exec = Jvm.exec) (hb : c.code = cc) (hml : c.maxLocals = nL) (hown : s.vm.findClass own = some m.cls) (htg : ∀ w ∈ wsG, w.before args s = true) (hK : Kt G s) (hW : Wh G x y H) (hS : va_S (gF G) H0 H locs) (h : m_X3_commandAt p0 = some v) (hlk : Cond.methodLink own idx yX3_commandAt ∈ wsG) (hn : ls.size = nL) (hr : (rest.map fun v => v.category).sum ≤ 8) (hR1 : 0 + 1 ≤ R.frames) (hR2 : 8 + (2 + 11) + 0 ≤ R.locals) (hf : cells ≤ R.cells ∧ slots ≤ R.slots) (hdg : decode cc pc = .ok (.invokevirtual idx, 3)) (kk : ∀ (H1 : Heap) (locs1 : List Loc), Wh G x y H1 → va_S (gF G) H0 H1 locs1 → W p l e R s m args below meth c H1 locs1 cells slots Q (F0 m (pc + 3) ls (.ref (gA G 25 0 ↑v) :: rest))) : W p l e R s m args below meth c H locs cells slots Q (F0 m pc ls (.int p0 :: .ref (gA G 22 0 0) :: rest)) := by
  refine va_callr (va_runV (As := [.int p0]) (rest := rest) ⟨hx, hb, hml, hown, htg⟩ (c_X3_commandAt l G x y p0 v h) (cwV 1 htg (gd_V hlk q1105 q1106 q31 q1107) rfl rfl rfl (by decide +kernel) ⟨hR1, hR2⟩) ⟨fun a U g mk q => ⟨q.1, q.2.1.calling, q.2.2⟩, rc_22 hK hW, fun U hU hW9 => ⟨rfl, hK.warm hW9, by rw [hU]; exact hW⟩⟩ rfl rfl hn rfl (lv_room hr) hdg hf) hS (fun _ _ h9 => h9) (fun _ h9 => h9) ?_
  intro u a9 t H1 locs1 ht hvm hw hB hz1 hk1 hS1
  obtain ⟨ha9, hB⟩ := hB
  replace hB : Wh G x y t.heap := hB
  rw [ht] at hB
  replace ha9 : a9 = _ := ha9
  subst ha9
  exact kk H1 locs1 hB hS1
/-! METHOD X3_isFull -/
def m_X3_isFull (x : Mem) : Option Int32 :=
  if (x 22 0 0 2) < (80 : Int32) then (some (0 : Int32)) else (some (1 : Int32))
abbrev WS_X3_isFull : List Cond := .code yX3_isFull cX3_isFull 1 (some .boolean) :: wsG
abbrev RM_X3_isFull : Room := { frames := 0, cells := 0, slots := 0, locals := 0 }
set_option maxHeartbeats 4000000 in
set_option maxRecDepth 100000 in
theorem c_X3_isFull (l : Launch) (G : Geo) (x y : Mem) (r : Int32) (h : m_X3_isFull x = some r) : Met l yX3_isFull WS_X3_isFull RM_X3_isFull (Pw G x y [.ref (gA G 22 0 0)]) (Qi G x y r) 0 0 (gF G) := by
  refine Met.ofW (cc := cX3_isFull) (maxL := 1) (ret := (some .boolean)) (by decide) rfl ?_
  intro p e s m args below meth c s₁ B hml hv
  obtain ⟨rfl, hK, hW⟩ := hv
  have hx := B.exec
  have hb := B.bytes
  have hr := B.returns
  have hts := atoms_spec (ws := WS_X3_isFull) B.pre
  have htg : ∀ w ∈ wsG, w.before _ s = true := fun w h => hts w (List.mem_cons_of_mem _ h)
  have hown : s.vm.findClass RX3 = some m.cls := findClass_of_methodNamed B.named
  have hlocks := B.notSynchronized
  have hS : va_S (gF G) s.heap s.heap [] := va_S.rf
  have hl := lv_entry ([.ref (gA G 22 0 0)]) (n := 1) (Nat.le_of_ble_eq_true rfl)
  rw [lg_entry_eq]
  generalize (lg_sl ([.ref (gA G 22 0 0)]) ++ List.replicate (1 - (lg_sl ([.ref (gA G 22 0 0)])).length) Slot.unset).toArray = ls at hl ⊢
  have hl : lv_has ls 1 [(0, .ref (gA G 22 0 0))] := hl
  have hX := h
  unfold m_X3_isFull at hX
  refine lv_aload_n hx hb dX3_isFull_0 rfl (lv_at hl 0 rfl) ?_
  refine gf_22_2 hx hb htg hown hK hW q1076 dX3_isFull_1 ?_
  refine lv_aload_n hx hb dX3_isFull_4 rfl (lv_at hl 0 rfl) ?_
  refine gf_22_1 hx hb htg hown hK hW q123 dX3_isFull_5 ?_
  refine an_23 hx hb hK hW dX3_isFull_8 ?_
  refine lv_icmp_lt (tgt := 16) hx hb dX3_isFull_9 (by decide) (fun c1 => ?_) (fun c1 => ?_)
  · have hX := it_t hX c1
    refine lv_iconst (v := (0 : Int32)) hx hb dX3_isFull_16 (by decide) ?_
    have hX := Option.some.inj hX
    subst hX
    exact rt_z hx hb hr hlocks hW hS nb0 dX3_isFull_17
  · have hX := it_f hX c1
    refine lv_iconst (v := (1 : Int32)) hx hb dX3_isFull_12 (by decide) ?_
    refine lv_goto (tgt := 17) hx hb dX3_isFull_13 (by decide) ?_
    have hX := Option.some.inj hX
    subst hX
    exact rt_z hx hb hr hlocks hW hS nb1 dX3_isFull_17
set_option maxHeartbeats 4000000 in
theorem k_X3_isFull {p : Program} {l : Launch} {e : Env} {R : Room} {s : State} {m : MethodId} {args : Array Value} {below : List Frame} {meth : Method} {c : Code} {H : Heap} {locs : List Loc} {cells slots : Nat} {Q : State → Prop} {cc : ByteArray} {pc nL idx : Nat} {own : String} {ls : Array Slot} {rest : List Value} {G : Geo} {x y : Mem} {H0 : Heap} {v : Int32} (hx : p.tables.exec = Jvm.exec) (hb : c.code = cc) (hml : c.maxLocals = nL) (hown : s.vm.findClass own = some m.cls) (htg : ∀ w ∈ wsG, w.before args s = true) (hK : Kt G s) (hW : Wh G x y H) (hS : va_S (gF G) H0 H locs) (h : m_X3_isFull x = some v) (hlk : Cond.methodLink own idx yX3_isFull ∈ wsG) (hn : ls.size = nL) (hr : (rest.map fun v => v.category).sum ≤ 8) (hR1 : 0 + 1 ≤ R.frames) (hR2 : 8 + (1 + 11) + 0 ≤ R.locals) (hf : cells ≤ R.cells ∧ slots ≤ R.slots) (hdg : decode cc pc = .ok (.invokevirtual idx, 3)) (kk : ∀ (H1 : Heap) (locs1 : List Loc), Wh G x y H1 → va_S (gF G) H0 H1 locs1 → W p l e R s m args below meth c H1 locs1 cells slots Q (F0 m (pc + 3) ls (.int v :: rest))) : W p l e R s m args below meth c H locs cells slots Q (F0 m pc ls (.ref (gA G 22 0 0) :: rest)) := by
  refine va_calli (va_runV (As := []) (rest := rest) ⟨hx, hb, hml, hown, htg⟩ (c_X3_isFull l G x y v h) (cwV 0 htg (gd_V hlk q1073 q1074 q31 q1075) rfl rfl rfl (by decide +kernel) ⟨hR1, hR2⟩) ⟨fun a U g mk q => ⟨q.1, q.2.1.calling, q.2.2⟩, rc_22 hK hW, fun U hU hW9 => ⟨rfl, hK.warm hW9, by rw [hU]; exact hW⟩⟩ rfl rfl hn rfl (lv_room hr) hdg hf) hS (fun _ _ h9 => h9) (fun _ h9 => h9) ?_
  intro r9 u t H1 locs1 ht hvm hw hB hz1 hk1 hS1
  replace hB : Wh G x y t.heap := hB
  rw [ht] at hB
  replace hw : r9 = v := hw
  subst hw
  exact kk H1 locs1 hB hS1
/-! METHOD X3_take -/
def m_X3_take (p0 : Int32) (x : Mem) : Option (Int32 × Mem) :=
  if (x 22 0 0 3) < 0 then (some ((0 : Int32), x)) else (if (x 22 0 0 2) ≤ (x 22 0 0 3) then (some ((0 : Int32), x)) else (if (80 : Int32) ≤ (x 22 0 0 3) then (some ((0 : Int32), x)) else (gd_ (x 22 0 0 3) 80 (if (x 23 0 0 (x 22 0 0 3).toNatClampNeg) = p0 then (lt_ (up4 x 22 0 0 3 ((x 22 0 0 3) + (1 : Int32))) fun x6 => some ((1 : Int32), x6)) else (some ((0 : Int32), x))))))
abbrev WS_X3_take : List Cond := .code yX3_take cX3_take 2 (some .boolean) :: wsG
abbrev RM_X3_take : Room := { frames := 0, cells := 0, slots := 0, locals := 0 }
set_option maxHeartbeats 4000000 in
set_option maxRecDepth 100000 in
theorem c_X3_take (l : Launch) (G : Geo) (x y : Mem) (p0 : Int32) (r : (Int32 × Mem)) (h : m_X3_take p0 x = some r) : Met l yX3_take WS_X3_take RM_X3_take (Pw G x y [.ref (gA G 22 0 0), .int p0]) (Qi G r.2 y r.1) 0 0 (gF G) := by
  refine Met.ofW (cc := cX3_take) (maxL := 2) (ret := (some .boolean)) (by decide) rfl ?_
  intro p e s m args below meth c s₁ B hml hv
  obtain ⟨rfl, hK, hW⟩ := hv
  have hx := B.exec
  have hb := B.bytes
  have hr := B.returns
  have hts := atoms_spec (ws := WS_X3_take) B.pre
  have htg : ∀ w ∈ wsG, w.before _ s = true := fun w h => hts w (List.mem_cons_of_mem _ h)
  have hown : s.vm.findClass RX3 = some m.cls := findClass_of_methodNamed B.named
  have hlocks := B.notSynchronized
  have hS : va_S (gF G) s.heap s.heap [] := va_S.rf
  have hl := lv_entry ([.ref (gA G 22 0 0), .int p0]) (n := 2) (Nat.le_of_ble_eq_true rfl)
  rw [lg_entry_eq]
  generalize (lg_sl ([.ref (gA G 22 0 0), .int p0]) ++ List.replicate (2 - (lg_sl ([.ref (gA G 22 0 0), .int p0])).length) Slot.unset).toArray = ls at hl ⊢
  have hl : lv_has ls 2 [(0, .ref (gA G 22 0 0)), (1, .int p0)] := hl
  have hX := h
  unfold m_X3_take at hX
  refine lv_aload_n hx hb dX3_take_0 rfl (lv_at hl 0 rfl) ?_
  refine gf_22_3 hx hb htg hown hK hW q1098 dX3_take_1 ?_
  refine lv_if_lt (tgt := 55) hx hb dX3_take_4 (by decide) (fun c1 => ?_) (fun c1 => ?_)
  · have hX := it_t hX c1
    refine lv_iconst (v := (0 : Int32)) hx hb dX3_take_55 (by decide) ?_
    have hX := Option.some.inj hX
    subst hX
    exact rt_z hx hb hr hlocks hW hS nb0 dX3_take_56
  · have hX := it_f hX c1
    refine lv_aload_n hx hb dX3_take_7 rfl (lv_at hl 0 rfl) ?_
    refine gf_22_3 hx hb htg hown hK hW q1098 dX3_take_8 ?_
    refine lv_aload_n hx hb dX3_take_11 rfl (lv_at hl 0 rfl) ?_
    refine gf_22_2 hx hb htg hown hK hW q1076 dX3_take_12 ?_
    refine lv_icmp_ge (tgt := 55) hx hb dX3_take_15 (by decide) (fun c2 => ?_) (fun c2 => ?_)
    · have hX := it_t hX c2
      refine lv_iconst (v := (0 : Int32)) hx hb dX3_take_55 (by decide) ?_
      have hX := Option.some.inj hX
      subst hX
      exact rt_z hx hb hr hlocks hW hS nb0 dX3_take_56
    · have hX := it_f hX c2
      refine lv_aload_n hx hb dX3_take_18 rfl (lv_at hl 0 rfl) ?_
      refine gf_22_3 hx hb htg hown hK hW q1098 dX3_take_19 ?_
      refine lv_aload_n hx hb dX3_take_22 rfl (lv_at hl 0 rfl) ?_
      refine gf_22_1 hx hb htg hown hK hW q123 dX3_take_23 ?_
      refine an_23 hx hb hK hW dX3_take_26 ?_
      refine lv_icmp_ge (tgt := 55) hx hb dX3_take_27 (by decide) (fun c3 => ?_) (fun c3 => ?_)
      · have hX := it_t hX c3
        refine lv_iconst (v := (0 : Int32)) hx hb dX3_take_55 (by decide) ?_
        have hX := Option.some.inj hX
        subst hX
        exact rt_z hx hb hr hlocks hW hS nb0 dX3_take_56
      · have hX := it_f hX c3
        refine lv_aload_n hx hb dX3_take_30 rfl (lv_at hl 0 rfl) ?_
        refine gf_22_1 hx hb htg hown hK hW q123 dX3_take_31 ?_
        refine lv_aload_n hx hb dX3_take_34 rfl (lv_at hl 0 rfl) ?_
        refine gf_22_3 hx hb htg hown hK hW q1098 dX3_take_35 ?_
        obtain ⟨g4, hX⟩ := gd_go hX
        refine al_23 hx hb hK hW g4 dX3_take_38 ?_
        refine lv_iload_n hx hb dX3_take_39 rfl (lv_at hl 1 rfl) ?_
        refine lv_icmp_ne (tgt := 55) hx hb dX3_take_40 (by decide) (fun c5 => ?_) (fun c5 => ?_)
        · have hX := it_f hX c5
          refine lv_iconst (v := (0 : Int32)) hx hb dX3_take_55 (by decide) ?_
          have hX := Option.some.inj hX
          subst hX
          exact rt_z hx hb hr hlocks hW hS nb0 dX3_take_56
        · have hX := it_t hX c5
          refine lv_aload_n hx hb dX3_take_43 rfl (lv_at hl 0 rfl) ?_
          refine lv_dup hx hb dX3_take_44 rfl ?_
          refine gf_22_3 hx hb htg hown hK hW q1098 dX3_take_45 ?_
          refine lv_iconst (v := (1 : Int32)) hx hb dX3_take_48 (by decide) ?_
          refine lv_iadd hx hb dX3_take_49 ?_
          refine pf_22_3 hx hb htg hown hK hW hS q1098 dX3_take_50 (fun H locs hW hS => ?_)
          obtain ⟨x6, e9⟩ : ∃ w : Mem, w = (up4 x 22 0 0 3 ((x 22 0 0 3) + (1 : Int32))) := ⟨_, rfl⟩
          rw [← e9] at hW
          have hX := lt_go hX e9
          refine lv_iconst (v := (1 : Int32)) hx hb dX3_take_53 (by decide) ?_
          have hX := Option.some.inj hX
          subst hX
          exact rt_z hx hb hr hlocks hW hS nb1 dX3_take_54
set_option maxHeartbeats 4000000 in
theorem k_X3_take {p : Program} {l : Launch} {e : Env} {R : Room} {s : State} {m : MethodId} {args : Array Value} {below : List Frame} {meth : Method} {c : Code} {H : Heap} {locs : List Loc} {cells slots : Nat} {Q : State → Prop} {cc : ByteArray} {pc nL idx : Nat} {own : String} {ls : Array Slot} {rest : List Value} {G : Geo} {x y : Mem} {H0 : Heap} {p0 : Int32} {v : Int32} {z : Mem} (hx : p.tables.exec = Jvm.exec) (hb : c.code = cc) (hml : c.maxLocals = nL) (hown : s.vm.findClass own = some m.cls) (htg : ∀ w ∈ wsG, w.before args s = true) (hK : Kt G s) (hW : Wh G x y H) (hS : va_S (gF G) H0 H locs) (h : m_X3_take p0 x = some (v, z)) (hlk : Cond.methodLink own idx yX3_take ∈ wsG) (hn : ls.size = nL) (hr : (rest.map fun v => v.category).sum ≤ 8) (hR1 : 0 + 1 ≤ R.frames) (hR2 : 8 + (2 + 11) + 0 ≤ R.locals) (hf : cells ≤ R.cells ∧ slots ≤ R.slots) (hdg : decode cc pc = .ok (.invokevirtual idx, 3)) (kk : ∀ (H1 : Heap) (locs1 : List Loc), Wh G z y H1 → va_S (gF G) H0 H1 locs1 → W p l e R s m args below meth c H1 locs1 cells slots Q (F0 m (pc + 3) ls (.int v :: rest))) : W p l e R s m args below meth c H locs cells slots Q (F0 m pc ls (.int p0 :: .ref (gA G 22 0 0) :: rest)) := by
  refine va_calli (va_runV (As := [.int p0]) (rest := rest) ⟨hx, hb, hml, hown, htg⟩ (c_X3_take l G x y p0 (v, z) h) (cwV 1 htg (gd_V hlk q1114 q1115 q31 q1116) rfl rfl rfl (by decide +kernel) ⟨hR1, hR2⟩) ⟨fun a U g mk q => ⟨q.1, q.2.1.calling, q.2.2⟩, rc_22 hK hW, fun U hU hW9 => ⟨rfl, hK.warm hW9, by rw [hU]; exact hW⟩⟩ rfl rfl hn rfl (lv_room hr) hdg hf) hS (fun _ _ h9 => h9) (fun _ h9 => h9) ?_
  intro r9 u t H1 locs1 ht hvm hw hB hz1 hk1 hS1
  replace hB : Wh G z y t.heap := hB
  rw [ht] at hB
  replace hw : r9 = v := hw
  subst hw
  exact kk H1 locs1 hB hS1
/-! METHOD X3_takeDigit -/
def m_X3_takeDigit (x : Mem) : Option (Int32 × Mem) :=
  if (x 22 0 0 3) < 0 then (some ((0 : Int32), x)) else (if (x 22 0 0 2) ≤ (x 22 0 0 3) then (some ((0 : Int32), x)) else (if (80 : Int32) ≤ (x 22 0 0 3) then (some ((0 : Int32), x)) else (gd_ (x 22 0 0 3) 80 (if (x 23 0 0 (x 22 0 0 3).toNatClampNeg) < (48 : Int32) then (some ((0 : Int32), x)) else (if (x 23 0 0 (x 22 0 0 3).toNatClampNeg) ≤ (57 : Int32) then (lt_ (up4 x 22 0 0 4 ((x 23 0 0 (x 22 0 0 3).toNatClampNeg) - (48 : Int32))) fun x7 => lt_ (up4 x7 22 0 0 3 ((x7 22 0 0 3) + (1 : Int32))) fun x8 => some ((1 : Int32), x8)) else (some ((0 : Int32), x)))))))
abbrev WS_X3_takeDigit : List Cond := .code yX3_takeDigit cX3_takeDigit 1 (some .boolean) :: wsG
abbrev RM_X3_takeDigit : Room := { frames := 0, cells := 0, slots := 0, locals := 0 }
set_option maxHeartbeats 4000000 in
set_option maxRecDepth 100000 in
theorem c_X3_takeDigit (l : Launch) (G : Geo) (x y : Mem) (r : (Int32 × Mem)) (h : m_X3_takeDigit x = some r) : Met l yX3_takeDigit WS_X3_takeDigit RM_X3_takeDigit (Pw G x y [.ref (gA G 22 0 0)]) (Qi G r.2 y r.1) 0 0 (gF G) := by
  refine Met.ofW (cc := cX3_takeDigit) (maxL := 1) (ret := (some .boolean)) (by decide) rfl ?_
  intro p e s m args below meth c s₁ B hml hv
  obtain ⟨rfl, hK, hW⟩ := hv
  have hx := B.exec
  have hb := B.bytes
  have hr := B.returns
  have hts := atoms_spec (ws := WS_X3_takeDigit) B.pre
  have htg : ∀ w ∈ wsG, w.before _ s = true := fun w h => hts w (List.mem_cons_of_mem _ h)
  have hown : s.vm.findClass RX3 = some m.cls := findClass_of_methodNamed B.named
  have hlocks := B.notSynchronized
  have hS : va_S (gF G) s.heap s.heap [] := va_S.rf
  have hl := lv_entry ([.ref (gA G 22 0 0)]) (n := 1) (Nat.le_of_ble_eq_true rfl)
  rw [lg_entry_eq]
  generalize (lg_sl ([.ref (gA G 22 0 0)]) ++ List.replicate (1 - (lg_sl ([.ref (gA G 22 0 0)])).length) Slot.unset).toArray = ls at hl ⊢
  have hl : lv_has ls 1 [(0, .ref (gA G 22 0 0))] := hl
  have hX := h
  unfold m_X3_takeDigit at hX
  refine lv_aload_n hx hb dX3_takeDigit_0 rfl (lv_at hl 0 rfl) ?_
  refine gf_22_3 hx hb htg hown hK hW q1098 dX3_takeDigit_1 ?_
  refine lv_if_lt (tgt := 58) hx hb dX3_takeDigit_4 (by decide) (fun c1 => ?_) (fun c1 => ?_)
  · have hX := it_t hX c1
    refine lv_iconst (v := (0 : Int32)) hx hb dX3_takeDigit_58 (by decide) ?_
    have hX := Option.some.inj hX
    subst hX
    exact rt_z hx hb hr hlocks hW hS nb0 dX3_takeDigit_59
  · have hX := it_f hX c1
    refine lv_aload_n hx hb dX3_takeDigit_7 rfl (lv_at hl 0 rfl) ?_
    refine gf_22_3 hx hb htg hown hK hW q1098 dX3_takeDigit_8 ?_
    refine lv_aload_n hx hb dX3_takeDigit_11 rfl (lv_at hl 0 rfl) ?_
    refine gf_22_2 hx hb htg hown hK hW q1076 dX3_takeDigit_12 ?_
    refine lv_icmp_ge (tgt := 58) hx hb dX3_takeDigit_15 (by decide) (fun c2 => ?_) (fun c2 => ?_)
    · have hX := it_t hX c2
      refine lv_iconst (v := (0 : Int32)) hx hb dX3_takeDigit_58 (by decide) ?_
      have hX := Option.some.inj hX
      subst hX
      exact rt_z hx hb hr hlocks hW hS nb0 dX3_takeDigit_59
    · have hX := it_f hX c2
      refine lv_aload_n hx hb dX3_takeDigit_18 rfl (lv_at hl 0 rfl) ?_
      refine gf_22_3 hx hb htg hown hK hW q1098 dX3_takeDigit_19 ?_
      refine lv_aload_n hx hb dX3_takeDigit_22 rfl (lv_at hl 0 rfl) ?_
      refine gf_22_1 hx hb htg hown hK hW q123 dX3_takeDigit_23 ?_
      refine an_23 hx hb hK hW dX3_takeDigit_26 ?_
      refine lv_icmp_ge (tgt := 58) hx hb dX3_takeDigit_27 (by decide) (fun c3 => ?_) (fun c3 => ?_)
      · have hX := it_t hX c3
        refine lv_iconst (v := (0 : Int32)) hx hb dX3_takeDigit_58 (by decide) ?_
        have hX := Option.some.inj hX
        subst hX
        exact rt_z hx hb hr hlocks hW hS nb0 dX3_takeDigit_59
      · have hX := it_f hX c3
        refine lv_aload_n hx hb dX3_takeDigit_30 rfl (lv_at hl 0 rfl) ?_
        refine gf_22_1 hx hb htg hown hK hW q123 dX3_takeDigit_31 ?_
        refine lv_aload_n hx hb dX3_takeDigit_34 rfl (lv_at hl 0 rfl) ?_
        refine gf_22_3 hx hb htg hown hK hW q1098 dX3_takeDigit_35 ?_
        obtain ⟨g4, hX⟩ := gd_go hX
        refine al_23 hx hb hK hW g4 dX3_takeDigit_38 ?_
        refine lv_bipush (v := (48 : Int32)) hx hb dX3_takeDigit_39 (by decide) ?_
        refine lv_icmp_lt (tgt := 58) hx hb dX3_takeDigit_41 (by decide) (fun c5 => ?_) (fun c5 => ?_)
        · have hX := it_t hX c5
          refine lv_iconst (v := (0 : Int32)) hx hb dX3_takeDigit_58 (by decide) ?_
          have hX := Option.some.inj hX
          subst hX
          exact rt_z hx hb hr hlocks hW hS nb0 dX3_takeDigit_59
        · have hX := it_f hX c5
          refine lv_aload_n hx hb dX3_takeDigit_44 rfl (lv_at hl 0 rfl) ?_
          refine gf_22_1 hx hb htg hown hK hW q123 dX3_takeDigit_45 ?_
          refine lv_aload_n hx hb dX3_takeDigit_48 rfl (lv_at hl 0 rfl) ?_
          refine gf_22_3 hx hb htg hown hK hW q1098 dX3_takeDigit_49 ?_
          refine al_23 hx hb hK hW g4 dX3_takeDigit_52 ?_
          refine lv_bipush (v := (57 : Int32)) hx hb dX3_takeDigit_53 (by decide) ?_
          refine lv_icmp_le (tgt := 60) hx hb dX3_takeDigit_55 (by decide) (fun c6 => ?_) (fun c6 => ?_)
          · have hX := it_t hX c6
            refine lv_aload_n hx hb dX3_takeDigit_60 rfl (lv_at hl 0 rfl) ?_
            refine lv_aload_n hx hb dX3_takeDigit_61 rfl (lv_at hl 0 rfl) ?_
            refine gf_22_1 hx hb htg hown hK hW q123 dX3_takeDigit_62 ?_
            refine lv_aload_n hx hb dX3_takeDigit_65 rfl (lv_at hl 0 rfl) ?_
            refine gf_22_3 hx hb htg hown hK hW q1098 dX3_takeDigit_66 ?_
            refine al_23 hx hb hK hW g4 dX3_takeDigit_69 ?_
            refine lv_bipush (v := (48 : Int32)) hx hb dX3_takeDigit_70 (by decide) ?_
            refine lv_isub hx hb dX3_takeDigit_72 ?_
            refine pf_22_4 hx hb htg hown hK hW hS q1121 dX3_takeDigit_73 (fun H locs hW hS => ?_)
            obtain ⟨x7, e9⟩ : ∃ w : Mem, w = (up4 x 22 0 0 4 ((x 23 0 0 (x 22 0 0 3).toNatClampNeg) - (48 : Int32))) := ⟨_, rfl⟩
            rw [← e9] at hW
            have hX := lt_go hX e9
            refine lv_aload_n hx hb dX3_takeDigit_76 rfl (lv_at hl 0 rfl) ?_
            refine lv_dup hx hb dX3_takeDigit_77 rfl ?_
            refine gf_22_3 hx hb htg hown hK hW q1098 dX3_takeDigit_78 ?_
            refine lv_iconst (v := (1 : Int32)) hx hb dX3_takeDigit_81 (by decide) ?_
            refine lv_iadd hx hb dX3_takeDigit_82 ?_
            refine pf_22_3 hx hb htg hown hK hW hS q1098 dX3_takeDigit_83 (fun H locs hW hS => ?_)
            obtain ⟨x8, e9⟩ : ∃ w : Mem, w = (up4 x7 22 0 0 3 ((x7 22 0 0 3) + (1 : Int32))) := ⟨_, rfl⟩
            rw [← e9] at hW
            have hX := lt_go hX e9
            refine lv_iconst (v := (1 : Int32)) hx hb dX3_takeDigit_86 (by decide) ?_
            have hX := Option.some.inj hX
            subst hX
            exact rt_z hx hb hr hlocks hW hS nb1 dX3_takeDigit_87
          · have hX := it_f hX c6
            refine lv_iconst (v := (0 : Int32)) hx hb dX3_takeDigit_58 (by decide) ?_
            have hX := Option.some.inj hX
            subst hX
            exact rt_z hx hb hr hlocks hW hS nb0 dX3_takeDigit_59
set_option maxHeartbeats 4000000 in
theorem k_X3_takeDigit {p : Program} {l : Launch} {e : Env} {R : Room} {s : State} {m : MethodId} {args : Array Value} {below : List Frame} {meth : Method} {c : Code} {H : Heap} {locs : List Loc} {cells slots : Nat} {Q : State → Prop} {cc : ByteArray} {pc nL idx : Nat} {own : String} {ls : Array Slot} {rest : List Value} {G : Geo} {x y : Mem} {H0 : Heap} {v : Int32} {z : Mem} (hx : p.tables.exec = Jvm.exec) (hb : c.code = cc) (hml : c.maxLocals = nL) (hown : s.vm.findClass own = some m.cls) (htg : ∀ w ∈ wsG, w.before args s = true) (hK : Kt G s) (hW : Wh G x y H) (hS : va_S (gF G) H0 H locs) (h : m_X3_takeDigit x = some (v, z)) (hlk : Cond.methodLink own idx yX3_takeDigit ∈ wsG) (hn : ls.size = nL) (hr : (rest.map fun v => v.category).sum ≤ 8) (hR1 : 0 + 1 ≤ R.frames) (hR2 : 8 + (1 + 11) + 0 ≤ R.locals) (hf : cells ≤ R.cells ∧ slots ≤ R.slots) (hdg : decode cc pc = .ok (.invokevirtual idx, 3)) (kk : ∀ (H1 : Heap) (locs1 : List Loc), Wh G z y H1 → va_S (gF G) H0 H1 locs1 → W p l e R s m args below meth c H1 locs1 cells slots Q (F0 m (pc + 3) ls (.int v :: rest))) : W p l e R s m args below meth c H locs cells slots Q (F0 m pc ls (.ref (gA G 22 0 0) :: rest)) := by
  refine va_calli (va_runV (As := []) (rest := rest) ⟨hx, hb, hml, hown, htg⟩ (c_X3_takeDigit l G x y (v, z) h) (cwV 0 htg (gd_V hlk q1126 q1127 q31 q1128) rfl rfl rfl (by decide +kernel) ⟨hR1, hR2⟩) ⟨fun a U g mk q => ⟨q.1, q.2.1.calling, q.2.2⟩, rc_22 hK hW, fun U hU hW9 => ⟨rfl, hK.warm hW9, by rw [hU]; exact hW⟩⟩ rfl rfl hn rfl (lv_room hr) hdg hf) hS (fun _ _ h9 => h9) (fun _ h9 => h9) ?_
  intro r9 u t H1 locs1 ht hvm hw hB hz1 hk1 hS1
  replace hB : Wh G z y t.heap := hB
  rw [ht] at hB
  replace hw : r9 = v := hw
  subst hw
  exact kk H1 locs1 hB hS1
/-! METHOD X3_readBuffers -/
def m_X3_readBuffers_j36 (p0 : Fin 28) (x : Mem) : Option (Int32 × Mem) :=
  bd2_ (m_X3_take (62 : Int32) x) fun r13 x14 => if r13 = 0 then (some ((1 : Int32), x14)) else (bd2_ (m_X3_takeDigit x14) fun r17 x18 => if r17 = 0 then (some ((0 : Int32), x18)) else (lt_ (up4 x18 25 0 ↑p0 6 (x18 22 0 0 4)) fun x20 => some ((1 : Int32), x20)))
def m_X3_readBuffers (p0 : Fin 28) (x : Mem) : Option (Int32 × Mem) :=
  lt_ (up4 x 25 0 ↑p0 5 (-1 : Int32)) fun x1 => lt_ (up4 x1 25 0 ↑p0 6 (-1 : Int32)) fun x2 => bd2_ (m_X3_take (60 : Int32) x2) fun r4 x5 => if r4 = 0 then (m_X3_readBuffers_j36 p0 x5) else (bd2_ (m_X3_takeDigit x5) fun r8 x9 => if r8 = 0 then (some ((0 : Int32), x9)) else (lt_ (up4 x9 25 0 ↑p0 5 (x9 22 0 0 4)) fun x11 => m_X3_readBuffers_j36 p0 x11))
abbrev WS_X3_readBuffers : List Cond := .code yX3_readBuffers cX3_readBuffers 2 (some .boolean) :: wsG
abbrev RM_X3_readBuffers : Room := { frames := 1, cells := 0, slots := 0, locals := 21 }
set_option maxHeartbeats 4000000 in
set_option maxRecDepth 100000 in
theorem c_X3_readBuffers (l : Launch) (G : Geo) (x y : Mem) (p0 : Fin 28) (r : (Int32 × Mem)) (h : m_X3_readBuffers p0 x = some r) : Met l yX3_readBuffers WS_X3_readBuffers RM_X3_readBuffers (Pw G x y [.ref (gA G 22 0 0), .ref (gA G 25 0 ↑p0)]) (Qi G r.2 y r.1) 0 0 (gF G) := by
  refine Met.ofW (cc := cX3_readBuffers) (maxL := 2) (ret := (some .boolean)) (by decide) rfl ?_
  intro p e s m args below meth c s₁ B hml hv
  obtain ⟨rfl, hK, hW⟩ := hv
  have hx := B.exec
  have hb := B.bytes
  have hr := B.returns
  have hts := atoms_spec (ws := WS_X3_readBuffers) B.pre
  have htg : ∀ w ∈ wsG, w.before _ s = true := fun w h => hts w (List.mem_cons_of_mem _ h)
  have hown : s.vm.findClass RX3 = some m.cls := findClass_of_methodNamed B.named
  have hlocks := B.notSynchronized
  have hS : va_S (gF G) s.heap s.heap [] := va_S.rf
  have hl := lv_entry ([.ref (gA G 22 0 0), .ref (gA G 25 0 ↑p0)]) (n := 2) (Nat.le_of_ble_eq_true rfl)
  rw [lg_entry_eq]
  generalize (lg_sl ([.ref (gA G 22 0 0), .ref (gA G 25 0 ↑p0)]) ++ List.replicate (2 - (lg_sl ([.ref (gA G 22 0 0), .ref (gA G 25 0 ↑p0)])).length) Slot.unset).toArray = ls at hl ⊢
  have hl : lv_has ls 2 [(0, .ref (gA G 22 0 0)), (1, .ref (gA G 25 0 ↑p0))] := hl
  have hX := h
  unfold m_X3_readBuffers at hX
  have J_36 : ∀ (x : Mem) (H : Heap) (locs : List Loc) (ls : Array Slot), Wh G x y H → va_S (gF G) s.heap H locs → lv_has ls 2 [(0, .ref (gA G 22 0 0)), (1, .ref (gA G 25 0 ↑p0))] → m_X3_readBuffers_j36 p0 x = some r → W p l e (headSpec WS_X3_readBuffers RM_X3_readBuffers).room s m ([.ref (gA G 22 0 0), .ref (gA G 25 0 ↑p0)] : List Value).toArray below meth c H locs 0 0 (MQ below (Qi G r.2 y r.1) ([.ref (gA G 22 0 0), .ref (gA G 25 0 ↑p0)] : List Value).toArray s 0 0 (gF G)) (F0 m 36 ls []) := by
    intro x H locs ls hW hS hl hX
    unfold m_X3_readBuffers_j36 at hX
    refine lv_aload_n hx hb dX3_readBuffers_36 rfl (lv_at hl 0 rfl) ?_
    refine lv_bipush (v := (62 : Int32)) hx hb dX3_readBuffers_37 (by decide) ?_
    obtain ⟨r13, x14, h12, hX⟩ := bd2_go hX
    refine k_X3_take hx hb hml hown htg hK hW hS h12 q1113 hl.1 (Nat.le_of_ble_eq_true rfl) (Nat.le_of_ble_eq_true rfl) (Nat.le_of_ble_eq_true rfl) ⟨Nat.zero_le _, Nat.zero_le _⟩ dX3_readBuffers_39 (fun H locs hW hS => ?_)
    refine lv_if_eq (tgt := 62) hx hb dX3_readBuffers_42 (by decide) (fun c15 => ?_) (fun c15 => ?_)
    · have hX := it_t hX c15
      refine lv_iconst (v := (1 : Int32)) hx hb dX3_readBuffers_62 (by decide) ?_
      have hX := Option.some.inj hX
      subst hX
      exact rt_z hx hb hr hlocks hW hS nb1 dX3_readBuffers_63
    · have hX := it_f hX c15
      refine lv_aload_n hx hb dX3_readBuffers_45 rfl (lv_at hl 0 rfl) ?_
      obtain ⟨r17, x18, h16, hX⟩ := bd2_go hX
      refine k_X3_takeDigit hx hb hml hown htg hK hW hS h16 q1125 hl.1 (Nat.le_of_ble_eq_true rfl) (Nat.le_of_ble_eq_true rfl) (Nat.le_of_ble_eq_true rfl) ⟨Nat.zero_le _, Nat.zero_le _⟩ dX3_readBuffers_46 (fun H locs hW hS => ?_)
      refine lv_if_ne (tgt := 54) hx hb dX3_readBuffers_49 (by decide) (fun c19 => ?_) (fun c19 => ?_)
      · have hX := it_f hX c19
        refine lv_aload_n hx hb dX3_readBuffers_54 rfl (lv_at hl 1 rfl) ?_
        refine lv_aload_n hx hb dX3_readBuffers_55 rfl (lv_at hl 0 rfl) ?_
        refine gf_22_4 hx hb htg hown hK hW q1121 dX3_readBuffers_56 ?_
        refine pf_25_6 hx hb htg hown hK hW hS p0 q1144 dX3_readBuffers_59 (fun H locs hW hS => ?_)
        obtain ⟨x20, e9⟩ : ∃ w : Mem, w = (up4 x18 25 0 ↑p0 6 (x18 22 0 0 4)) := ⟨_, rfl⟩
        rw [← e9] at hW
        have hX := lt_go hX e9
        refine lv_iconst (v := (1 : Int32)) hx hb dX3_readBuffers_62 (by decide) ?_
        have hX := Option.some.inj hX
        subst hX
        exact rt_z hx hb hr hlocks hW hS nb1 dX3_readBuffers_63
      · have hX := it_t hX c19
        refine lv_iconst (v := (0 : Int32)) hx hb dX3_readBuffers_52 (by decide) ?_
        have hX := Option.some.inj hX
        subst hX
        exact rt_z hx hb hr hlocks hW hS nb0 dX3_readBuffers_53
  refine lv_aload_n hx hb dX3_readBuffers_0 rfl (lv_at hl 1 rfl) ?_
  refine lv_iconst (v := (-1 : Int32)) hx hb dX3_readBuffers_1 (by decide) ?_
  refine pf_25_5 hx hb htg hown hK hW hS p0 q1143 dX3_readBuffers_2 (fun H locs hW hS => ?_)
  obtain ⟨x1, e9⟩ : ∃ w : Mem, w = (up4 x 25 0 ↑p0 5 (-1 : Int32)) := ⟨_, rfl⟩
  rw [← e9] at hW
  have hX := lt_go hX e9
  refine lv_aload_n hx hb dX3_readBuffers_5 rfl (lv_at hl 1 rfl) ?_
  refine lv_iconst (v := (-1 : Int32)) hx hb dX3_readBuffers_6 (by decide) ?_
  refine pf_25_6 hx hb htg hown hK hW hS p0 q1144 dX3_readBuffers_7 (fun H locs hW hS => ?_)
  obtain ⟨x2, e9⟩ : ∃ w : Mem, w = (up4 x1 25 0 ↑p0 6 (-1 : Int32)) := ⟨_, rfl⟩
  rw [← e9] at hW
  have hX := lt_go hX e9
  refine lv_aload_n hx hb dX3_readBuffers_10 rfl (lv_at hl 0 rfl) ?_
  refine lv_bipush (v := (60 : Int32)) hx hb dX3_readBuffers_11 (by decide) ?_
  obtain ⟨r4, x5, h3, hX⟩ := bd2_go hX
  refine k_X3_take hx hb hml hown htg hK hW hS h3 q1113 hl.1 (Nat.le_of_ble_eq_true rfl) (Nat.le_of_ble_eq_true rfl) (Nat.le_of_ble_eq_true rfl) ⟨Nat.zero_le _, Nat.zero_le _⟩ dX3_readBuffers_13 (fun H locs hW hS => ?_)
  refine lv_if_eq (tgt := 36) hx hb dX3_readBuffers_16 (by decide) (fun c6 => ?_) (fun c6 => ?_)
  · have hX := it_t hX c6
    exact J_36 _ _ _ _ hW hS (lv_sub hl [0, 1] rfl) hX
  · have hX := it_f hX c6
    refine lv_aload_n hx hb dX3_readBuffers_19 rfl (lv_at hl 0 rfl) ?_
    obtain ⟨r8, x9, h7, hX⟩ := bd2_go hX
    refine k_X3_takeDigit hx hb hml hown htg hK hW hS h7 q1125 hl.1 (Nat.le_of_ble_eq_true rfl) (Nat.le_of_ble_eq_true rfl) (Nat.le_of_ble_eq_true rfl) ⟨Nat.zero_le _, Nat.zero_le _⟩ dX3_readBuffers_20 (fun H locs hW hS => ?_)
    refine lv_if_ne (tgt := 28) hx hb dX3_readBuffers_23 (by decide) (fun c10 => ?_) (fun c10 => ?_)
    · have hX := it_f hX c10
      refine lv_aload_n hx hb dX3_readBuffers_28 rfl (lv_at hl 1 rfl) ?_
      refine lv_aload_n hx hb dX3_readBuffers_29 rfl (lv_at hl 0 rfl) ?_
      refine gf_22_4 hx hb htg hown hK hW q1121 dX3_readBuffers_30 ?_
      refine pf_25_5 hx hb htg hown hK hW hS p0 q1143 dX3_readBuffers_33 (fun H locs hW hS => ?_)
      obtain ⟨x11, e9⟩ : ∃ w : Mem, w = (up4 x9 25 0 ↑p0 5 (x9 22 0 0 4)) := ⟨_, rfl⟩
      rw [← e9] at hW
      have hX := lt_go hX e9
      exact J_36 _ _ _ _ hW hS (lv_sub hl [0, 1] rfl) hX
    · have hX := it_t hX c10
      refine lv_iconst (v := (0 : Int32)) hx hb dX3_readBuffers_26 (by decide) ?_
      have hX := Option.some.inj hX
      subst hX
      exact rt_z hx hb hr hlocks hW hS nb0 dX3_readBuffers_27
set_option maxHeartbeats 4000000 in
theorem k_X3_readBuffers {p : Program} {l : Launch} {e : Env} {R : Room} {s : State} {m : MethodId} {args : Array Value} {below : List Frame} {meth : Method} {c : Code} {H : Heap} {locs : List Loc} {cells slots : Nat} {Q : State → Prop} {cc : ByteArray} {pc nL idx : Nat} {own : String} {ls : Array Slot} {rest : List Value} {G : Geo} {x y : Mem} {H0 : Heap} {p0 : Fin 28} {v : Int32} {z : Mem} (hx : p.tables.exec = Jvm.exec) (hb : c.code = cc) (hml : c.maxLocals = nL) (hown : s.vm.findClass own = some m.cls) (htg : ∀ w ∈ wsG, w.before args s = true) (hK : Kt G s) (hW : Wh G x y H) (hS : va_S (gF G) H0 H locs) (h : m_X3_readBuffers p0 x = some (v, z)) (hlk : Cond.methodLink own idx yX3_readBuffers ∈ wsG) (hn : ls.size = nL) (hr : (rest.map fun v => v.category).sum ≤ 8) (hR1 : 1 + 1 ≤ R.frames) (hR2 : 8 + (2 + 11) + 21 ≤ R.locals) (hf : cells ≤ R.cells ∧ slots ≤ R.slots) (hdg : decode cc pc = .ok (.invokevirtual idx, 3)) (kk : ∀ (H1 : Heap) (locs1 : List Loc), Wh G z y H1 → va_S (gF G) H0 H1 locs1 → W p l e R s m args below meth c H1 locs1 cells slots Q (F0 m (pc + 3) ls (.int v :: rest))) : W p l e R s m args below meth c H locs cells slots Q (F0 m pc ls (.ref (gA G 25 0 ↑p0) :: .ref (gA G 22 0 0) :: rest)) := by
  refine va_calli (va_runV (As := [.ref (gA G 25 0 ↑p0)]) (rest := rest) ⟨hx, hb, hml, hown, htg⟩ (c_X3_readBuffers l G x y p0 (v, z) h) (cwV 1 htg (gd_V hlk q1140 q1141 q31 q1142) rfl rfl rfl (by decide +kernel) ⟨hR1, hR2⟩) ⟨fun a U g mk q => ⟨q.1, q.2.1.calling, q.2.2⟩, rc_22 hK hW, fun U hU hW9 => ⟨rfl, hK.warm hW9, by rw [hU]; exact hW⟩⟩ rfl rfl hn rfl (lv_room hr) hdg hf) hS (fun _ _ h9 => h9) (fun _ h9 => h9) ?_
  intro r9 u t H1 locs1 ht hvm hw hB hz1 hk1 hS1
  replace hB : Wh G z y t.heap := hB
  rw [ht] at hB
  replace hw : r9 = v := hw
  subst hw
  exact kk H1 locs1 hB hS1
/-! METHOD X3_readPath -/
def m_X3_readPath_j27 (p0 : Fin 28) (k7 : Int32 → Mem → Option (Int32 × Mem)) (x2 : Int32) (x : Mem) : Option (Int32 × Mem) :=
  bd2_ (m_X3_takeDigit x) fun r10 x11 => if r10 = 0 then (some ((0 : Int32), x11)) else (bd_ (m_X2_addZone p0 (x11 22 0 0 4) x11) fun x15 => lt_ (x2 + (1 : Int32)) fun x2_16 => k7 x2_16 x15)
def m_X3_readPath_b7 (p0 : Fin 28) (k7 : Int32 → Mem → Option (Int32 × Mem)) (x2 : Int32) (x : Mem) : Option (Int32 × Mem) :=
  if (5 : Int32) ≤ x2 then (some ((1 : Int32), x)) else (if x2 ≤ 0 then (m_X3_readPath_j27 p0 k7 x2 x) else (bd2_ (m_X3_take (44 : Int32) x) fun r6 x7 => if r6 = 0 then (some ((1 : Int32), x7)) else (m_X3_readPath_j27 p0 k7 x2 x7)))
def m_X3_readPath_l7 (p0 : Fin 28) : Nat → Int32 → Mem → Option (Int32 × Mem)
  | 0, _, _ => none
  | n + 1, x2, x => m_X3_readPath_b7 p0 (m_X3_readPath_l7 p0 n) x2 x
def m_X3_readPath (p0 : Fin 28) (x : Mem) : Option (Int32 × Mem) :=
  lt_ (up4 x 25 0 ↑p0 2 (0 : Int32)) fun x1 => lt_ (0 : Int32) fun x2_2 => m_X3_readPath_l7 p0 FU x2_2 x1
abbrev WS_X3_readPath : List Cond := .code yX3_readPath cX3_readPath 3 (some .boolean) :: wsG
abbrev RM_X3_readPath : Room := { frames := 1, cells := 0, slots := 0, locals := 21 }
set_option maxHeartbeats 4000000 in
set_option maxRecDepth 100000 in
theorem c_X3_readPath (l : Launch) (G : Geo) (x y : Mem) (p0 : Fin 28) (r : (Int32 × Mem)) (h : m_X3_readPath p0 x = some r) : Met l yX3_readPath WS_X3_readPath RM_X3_readPath (Pw G x y [.ref (gA G 22 0 0), .ref (gA G 25 0 ↑p0)]) (Qi G r.2 y r.1) 0 0 (gF G) := by
  refine Met.ofW (cc := cX3_readPath) (maxL := 3) (ret := (some .boolean)) (by decide) rfl ?_
  intro p e s m args below meth c s₁ B hml hv
  obtain ⟨rfl, hK, hW⟩ := hv
  have hx := B.exec
  have hb := B.bytes
  have hr := B.returns
  have hts := atoms_spec (ws := WS_X3_readPath) B.pre
  have htg : ∀ w ∈ wsG, w.before _ s = true := fun w h => hts w (List.mem_cons_of_mem _ h)
  have hown : s.vm.findClass RX3 = some m.cls := findClass_of_methodNamed B.named
  have hlocks := B.notSynchronized
  have hS : va_S (gF G) s.heap s.heap [] := va_S.rf
  have hl := lv_entry ([.ref (gA G 22 0 0), .ref (gA G 25 0 ↑p0)]) (n := 3) (Nat.le_of_ble_eq_true rfl)
  rw [lg_entry_eq]
  generalize (lg_sl ([.ref (gA G 22 0 0), .ref (gA G 25 0 ↑p0)]) ++ List.replicate (3 - (lg_sl ([.ref (gA G 22 0 0), .ref (gA G 25 0 ↑p0)])).length) Slot.unset).toArray = ls at hl ⊢
  have hl : lv_has ls 3 [(0, .ref (gA G 22 0 0)), (1, .ref (gA G 25 0 ↑p0))] := hl
  have hX := h
  unfold m_X3_readPath at hX
  have J_27 : ∀ (k7 : Int32 → Mem → Option (Int32 × Mem)) (hk7 : ∀ (x2 : Int32) (x : Mem) (H : Heap) (locs : List Loc) (ls : Array Slot), Wh G x y H → va_S (gF G) s.heap H locs → lv_has ls 3 [(0, .ref (gA G 22 0 0)), (1, .ref (gA G 25 0 ↑p0)), (2, .int x2)] → k7 x2 x = some r → W p l e (headSpec WS_X3_readPath RM_X3_readPath).room s m ([.ref (gA G 22 0 0), .ref (gA G 25 0 ↑p0)] : List Value).toArray below meth c H locs 0 0 (MQ below (Qi G r.2 y r.1) ([.ref (gA G 22 0 0), .ref (gA G 25 0 ↑p0)] : List Value).toArray s 0 0 (gF G)) (F0 m 7 ls [])), ∀ (x2 : Int32) (x : Mem) (H : Heap) (locs : List Loc) (ls : Array Slot), Wh G x y H → va_S (gF G) s.heap H locs → lv_has ls 3 [(0, .ref (gA G 22 0 0)), (1, .ref (gA G 25 0 ↑p0)), (2, .int x2)] → m_X3_readPath_j27 p0 k7 x2 x = some r → W p l e (headSpec WS_X3_readPath RM_X3_readPath).room s m ([.ref (gA G 22 0 0), .ref (gA G 25 0 ↑p0)] : List Value).toArray below meth c H locs 0 0 (MQ below (Qi G r.2 y r.1) ([.ref (gA G 22 0 0), .ref (gA G 25 0 ↑p0)] : List Value).toArray s 0 0 (gF G)) (F0 m 27 ls []) := by
    intro k7 hk7 x2 x H locs ls hW hS hl hX
    unfold m_X3_readPath_j27 at hX
    refine lv_aload_n hx hb dX3_readPath_27 rfl (lv_at hl 0 rfl) ?_
    obtain ⟨r10, x11, h9, hX⟩ := bd2_go hX
    refine k_X3_takeDigit hx hb hml hown htg hK hW hS h9 q1125 hl.1 (Nat.le_of_ble_eq_true rfl) (Nat.le_of_ble_eq_true rfl) (Nat.le_of_ble_eq_true rfl) ⟨Nat.zero_le _, Nat.zero_le _⟩ dX3_readPath_28 (fun H locs hW hS => ?_)
    refine lv_if_ne (tgt := 36) hx hb dX3_readPath_31 (by decide) (fun c12 => ?_) (fun c12 => ?_)
    · have hX := it_f hX c12
      refine lv_aload_n hx hb dX3_readPath_36 rfl (lv_at hl 1 rfl) ?_
      refine lv_aload_n hx hb dX3_readPath_37 rfl (lv_at hl 0 rfl) ?_
      refine gf_22_4 hx hb htg hown hK hW q1121 dX3_readPath_38 ?_
      obtain ⟨x15, h13, hX⟩ := bd_go hX
      refine k_X2_addZone hx hb hml hown htg hK hW hS h13 q1134 hl.1 (Nat.le_of_ble_eq_true rfl) (Nat.le_of_ble_eq_true rfl) (Nat.le_of_ble_eq_true rfl) ⟨Nat.zero_le _, Nat.zero_le _⟩ dX3_readPath_41 (fun H locs hW hS => ?_)
      obtain ⟨x2_16, e9⟩ : ∃ w : Int32, w = (x2 + (1 : Int32)) := ⟨_, rfl⟩
      have hX := lt_go hX e9
      refine lv_iinc (v := x2_16) (lv' := [(2, .int x2_16), (0, .ref (gA G 22 0 0)), (1, .ref (gA G 25 0 ↑p0))]) hx hb dX3_readPath_44 hl (k := 2) rfl (by rw [e9]; rfl) (by decide) rfl (fun ls hl => ?_)
      refine lv_goto (tgt := 7) hx hb dX3_readPath_47 (by decide) ?_
      exact hk7 _ _ _ _ _ hW hS (lv_sub hl [1, 2, 0] rfl) hX
    · have hX := it_t hX c12
      refine lv_iconst (v := (0 : Int32)) hx hb dX3_readPath_34 (by decide) ?_
      have hX := Option.some.inj hX
      subst hX
      exact rt_z hx hb hr hlocks hW hS nb0 dX3_readPath_35
  have B_7 : ∀ (k7 : Int32 → Mem → Option (Int32 × Mem)) (hk7 : ∀ (x2 : Int32) (x : Mem) (H : Heap) (locs : List Loc) (ls : Array Slot), Wh G x y H → va_S (gF G) s.heap H locs → lv_has ls 3 [(0, .ref (gA G 22 0 0)), (1, .ref (gA G 25 0 ↑p0)), (2, .int x2)] → k7 x2 x = some r → W p l e (headSpec WS_X3_readPath RM_X3_readPath).room s m ([.ref (gA G 22 0 0), .ref (gA G 25 0 ↑p0)] : List Value).toArray below meth c H locs 0 0 (MQ below (Qi G r.2 y r.1) ([.ref (gA G 22 0 0), .ref (gA G 25 0 ↑p0)] : List Value).toArray s 0 0 (gF G)) (F0 m 7 ls [])), ∀ (x2 : Int32) (x : Mem) (H : Heap) (locs : List Loc) (ls : Array Slot), Wh G x y H → va_S (gF G) s.heap H locs → lv_has ls 3 [(0, .ref (gA G 22 0 0)), (1, .ref (gA G 25 0 ↑p0)), (2, .int x2)] → m_X3_readPath_b7 p0 k7 x2 x = some r → W p l e (headSpec WS_X3_readPath RM_X3_readPath).room s m ([.ref (gA G 22 0 0), .ref (gA G 25 0 ↑p0)] : List Value).toArray below meth c H locs 0 0 (MQ below (Qi G r.2 y r.1) ([.ref (gA G 22 0 0), .ref (gA G 25 0 ↑p0)] : List Value).toArray s 0 0 (gF G)) (F0 m 7 ls []) := by
    intro k7 hk7 x2 x H locs ls hW hS hl hX
    unfold m_X3_readPath_b7 at hX
    refine lv_iload_n hx hb dX3_readPath_7 rfl (lv_at hl 2 rfl) ?_
    refine lv_iconst (v := (5 : Int32)) hx hb dX3_readPath_8 (by decide) ?_
    refine lv_icmp_ge (tgt := 50) hx hb dX3_readPath_9 (by decide) (fun c3 => ?_) (fun c3 => ?_)
    · have hX := it_t hX c3
      refine lv_iconst (v := (1 : Int32)) hx hb dX3_readPath_50 (by decide) ?_
      have hX := Option.some.inj hX
      subst hX
      exact rt_z hx hb hr hlocks hW hS nb1 dX3_readPath_51
    · have hX := it_f hX c3
      refine lv_iload_n hx hb dX3_readPath_12 rfl (lv_at hl 2 rfl) ?_
      refine lv_if_le (tgt := 27) hx hb dX3_readPath_13 (by decide) (fun c4 => ?_) (fun c4 => ?_)
      · have hX := it_t hX c4
        exact J_27 k7 hk7 _ _ _ _ _ hW hS (lv_sub hl [0, 1, 2] rfl) hX
      · have hX := it_f hX c4
        refine lv_aload_n hx hb dX3_readPath_16 rfl (lv_at hl 0 rfl) ?_
        refine lv_bipush (v := (44 : Int32)) hx hb dX3_readPath_17 (by decide) ?_
        obtain ⟨r6, x7, h5, hX⟩ := bd2_go hX
        refine k_X3_take hx hb hml hown htg hK hW hS h5 q1113 hl.1 (Nat.le_of_ble_eq_true rfl) (Nat.le_of_ble_eq_true rfl) (Nat.le_of_ble_eq_true rfl) ⟨Nat.zero_le _, Nat.zero_le _⟩ dX3_readPath_19 (fun H locs hW hS => ?_)
        refine lv_if_ne (tgt := 27) hx hb dX3_readPath_22 (by decide) (fun c8 => ?_) (fun c8 => ?_)
        · have hX := it_f hX c8
          exact J_27 k7 hk7 _ _ _ _ _ hW hS (lv_sub hl [0, 1, 2] rfl) hX
        · have hX := it_t hX c8
          refine lv_iconst (v := (1 : Int32)) hx hb dX3_readPath_25 (by decide) ?_
          have hX := Option.some.inj hX
          subst hX
          exact rt_z hx hb hr hlocks hW hS nb1 dX3_readPath_26
  have L_7 : ∀ (n : Nat), ∀ (x2 : Int32) (x : Mem) (H : Heap) (locs : List Loc) (ls : Array Slot), Wh G x y H → va_S (gF G) s.heap H locs → lv_has ls 3 [(0, .ref (gA G 22 0 0)), (1, .ref (gA G 25 0 ↑p0)), (2, .int x2)] → m_X3_readPath_l7 p0 n x2 x = some r → W p l e (headSpec WS_X3_readPath RM_X3_readPath).room s m ([.ref (gA G 22 0 0), .ref (gA G 25 0 ↑p0)] : List Value).toArray below meth c H locs 0 0 (MQ below (Qi G r.2 y r.1) ([.ref (gA G 22 0 0), .ref (gA G 25 0 ↑p0)] : List Value).toArray s 0 0 (gF G)) (F0 m 7 ls []) := by
    intro n
    induction n with
    | zero => intro x2 x H locs ls hW hS hl hX; exact no_go hX
    | succ n ih => intro x2 x H locs ls hW hS hl hX; exact B_7 _ ih _ _ _ _ _ hW hS hl hX
  refine lv_aload_n hx hb dX3_readPath_0 rfl (lv_at hl 1 rfl) ?_
  refine lv_iconst (v := (0 : Int32)) hx hb dX3_readPath_1 (by decide) ?_
  refine pf_25_2 hx hb htg hown hK hW hS p0 q1133 dX3_readPath_2 (fun H locs hW hS => ?_)
  obtain ⟨x1, e9⟩ : ∃ w : Mem, w = (up4 x 25 0 ↑p0 2 (0 : Int32)) := ⟨_, rfl⟩
  rw [← e9] at hW
  have hX := lt_go hX e9
  refine lv_iconst (v := (0 : Int32)) hx hb dX3_readPath_5 (by decide) ?_
  refine lv_topi (fun x2_2 e9 => ?_)
  have hX := lt_go hX e9
  refine lv_istore_n (lv' := [(2, .int x2_2), (0, .ref (gA G 22 0 0)), (1, .ref (gA G 25 0 ↑p0))]) hx hb dX3_readPath_6 rfl hl (by decide) rfl (fun ls hl => ?_)
  exact L_7 FU _ _ _ _ _ hW hS (lv_sub hl [1, 2, 0] rfl) hX
set_option maxHeartbeats 4000000 in
theorem k_X3_readPath {p : Program} {l : Launch} {e : Env} {R : Room} {s : State} {m : MethodId} {args : Array Value} {below : List Frame} {meth : Method} {c : Code} {H : Heap} {locs : List Loc} {cells slots : Nat} {Q : State → Prop} {cc : ByteArray} {pc nL idx : Nat} {own : String} {ls : Array Slot} {rest : List Value} {G : Geo} {x y : Mem} {H0 : Heap} {p0 : Fin 28} {v : Int32} {z : Mem} (hx : p.tables.exec = Jvm.exec) (hb : c.code = cc) (hml : c.maxLocals = nL) (hown : s.vm.findClass own = some m.cls) (htg : ∀ w ∈ wsG, w.before args s = true) (hK : Kt G s) (hW : Wh G x y H) (hS : va_S (gF G) H0 H locs) (h : m_X3_readPath p0 x = some (v, z)) (hlk : Cond.methodLink own idx yX3_readPath ∈ wsG) (hn : ls.size = nL) (hr : (rest.map fun v => v.category).sum ≤ 8) (hR1 : 1 + 1 ≤ R.frames) (hR2 : 8 + (3 + 11) + 21 ≤ R.locals) (hf : cells ≤ R.cells ∧ slots ≤ R.slots) (hdg : decode cc pc = .ok (.invokevirtual idx, 3)) (kk : ∀ (H1 : Heap) (locs1 : List Loc), Wh G z y H1 → va_S (gF G) H0 H1 locs1 → W p l e R s m args below meth c H1 locs1 cells slots Q (F0 m (pc + 3) ls (.int v :: rest))) : W p l e R s m args below meth c H locs cells slots Q (F0 m pc ls (.ref (gA G 25 0 ↑p0) :: .ref (gA G 22 0 0) :: rest)) := by
  refine va_calli (va_runV (As := [.ref (gA G 25 0 ↑p0)]) (rest := rest) ⟨hx, hb, hml, hown, htg⟩ (c_X3_readPath l G x y p0 (v, z) h) (cwV 1 htg (gd_V hlk q1130 q1131 q31 q1132) rfl rfl rfl (by decide +kernel) ⟨hR1, hR2⟩) ⟨fun a U g mk q => ⟨q.1, q.2.1.calling, q.2.2⟩, rc_22 hK hW, fun U hU hW9 => ⟨rfl, hK.warm hW9, by rw [hU]; exact hW⟩⟩ rfl rfl hn rfl (lv_room hr) hdg hf) hS (fun _ _ h9 => h9) (fun _ h9 => h9) ?_
  intro r9 u t H1 locs1 ht hvm hw hB hz1 hk1 hS1
  replace hB : Wh G z y t.heap := hB
  rw [ht] at hB
  replace hw : r9 = v := hw
  subst hw
  exact kk H1 locs1 hB hS1
