/-! METHOD X12_idleAfter -/
def m_X12_idleAfter_j19 (x1 : Int32) (s0 : Int32) (y : Mem) : Option (Int32 × Mem) :=
  lt_ (up4 y 40 0 0 0 s0) fun y6 => if x1 ≤ (200 : Int32) then (some (x1, y6)) else (some ((0 : Int32), y6))
def m_X12_idleAfter (y : Mem) : Option (Int32 × Mem) :=
  bd2_ (m_X12_findsEnd (-1 : Int32) y) fun r2 y3 => lt_ r2 fun x1_4 => if x1_4 ≤ (200 : Int32) then (m_X12_idleAfter_j19 x1_4 (0 : Int32) y3) else (m_X12_idleAfter_j19 x1_4 (1 : Int32) y3)
abbrev WS_X12_idleAfter : List Cond := .code yX12_idleAfter cX12_idleAfter 2 (some .int) :: wsG
abbrev RM_X12_idleAfter : Room := { frames := 10, cells := 0, slots := 0, locals := 228 }
set_option maxHeartbeats 4000000 in
set_option maxRecDepth 100000 in
theorem c_X12_idleAfter (l : Launch) (G : Geo) (x y : Mem) (r : (Int32 × Mem)) (h : m_X12_idleAfter y = some r) : Met l yX12_idleAfter WS_X12_idleAfter RM_X12_idleAfter (Pw G x y [.ref (gA G 40 0 0)]) (Qi G x r.2 r.1) 0 0 (gF G) := by
  refine Met.ofW (cc := cX12_idleAfter) (maxL := 2) (ret := (some .int)) (by decide) rfl ?_
  intro p e s m args below meth c s₁ B hml hv
  obtain ⟨rfl, hK, hW⟩ := hv
  have hx := B.exec
  have hb := B.bytes
  have hr := B.returns
  have hts := atoms_spec (ws := WS_X12_idleAfter) B.pre
  have htg : ∀ w ∈ wsG, w.before _ s = true := fun w h => hts w (List.mem_cons_of_mem _ h)
  have hown : s.vm.findClass RX12 = some m.cls := findClass_of_methodNamed B.named
  have hlocks := B.notSynchronized
  have hS : va_S (gF G) s.heap s.heap [] := va_S.rf
  have hl := lv_entry ([.ref (gA G 40 0 0)]) (n := 2) (Nat.le_of_ble_eq_true rfl)
  rw [lg_entry_eq]
  generalize (lg_sl ([.ref (gA G 40 0 0)]) ++ List.replicate (2 - (lg_sl ([.ref (gA G 40 0 0)])).length) Slot.unset).toArray = ls at hl ⊢
  have hl : lv_has ls 2 [(0, .ref (gA G 40 0 0))] := hl
  have hX := h
  unfold m_X12_idleAfter at hX
  have J_19 : ∀ (x1 : Int32) (s0 : Int32) (y : Mem) (H : Heap) (locs : List Loc) (ls : Array Slot), Wh G x y H → va_S (gF G) s.heap H locs → lv_has ls 2 [(1, .int x1)] → m_X12_idleAfter_j19 x1 s0 y = some r → W p l e (headSpec WS_X12_idleAfter RM_X12_idleAfter).room s m ([.ref (gA G 40 0 0)] : List Value).toArray below meth c H locs 0 0 (MQ below (Qi G x r.2 r.1) ([.ref (gA G 40 0 0)] : List Value).toArray s 0 0 (gF G)) (F0 m 19 ls [.int s0, .ref (gA G 40 0 0)]) := by
    intro x1 s0 y H locs ls hW hS hl hX
    unfold m_X12_idleAfter_j19 at hX
    refine pf_40_0 hx hb htg hown hK hW hS q311 dX12_idleAfter_19 (fun H locs hW hS => ?_)
    obtain ⟨y6, e9⟩ : ∃ w : Mem, w = (up4 y 40 0 0 0 s0) := ⟨_, rfl⟩
    rw [← e9] at hW
    have hX := lt_go hX e9
    refine lv_iload_n hx hb dX12_idleAfter_22 rfl (lv_at hl 0 rfl) ?_
    refine lv_sipush (v := (200 : Int32)) hx hb dX12_idleAfter_23 (by decide) ?_
    refine lv_icmp_le (tgt := 33) hx hb dX12_idleAfter_26 (by decide) (fun c7 => ?_) (fun c7 => ?_)
    · have hX := it_t hX c7
      refine lv_iload_n hx hb dX12_idleAfter_33 rfl (lv_at hl 0 rfl) ?_
      have hX := Option.some.inj hX
      subst hX
      exact rt_i hx hb hr hlocks hW hS dX12_idleAfter_34
    · have hX := it_f hX c7
      refine lv_iconst (v := (0 : Int32)) hx hb dX12_idleAfter_29 (by decide) ?_
      refine lv_goto (tgt := 34) hx hb dX12_idleAfter_30 (by decide) ?_
      have hX := Option.some.inj hX
      subst hX
      exact rt_i hx hb hr hlocks hW hS dX12_idleAfter_34
  refine lv_aload_n hx hb dX12_idleAfter_0 rfl (lv_at hl 0 rfl) ?_
  refine lv_iconst (v := (-1 : Int32)) hx hb dX12_idleAfter_1 (by decide) ?_
  obtain ⟨r2, y3, h1, hX⟩ := bd2_go hX
  refine k_X12_findsEnd hx hb hml hown htg hK hW hS h1 q948 hl.1 (Nat.le_of_ble_eq_true rfl) (Nat.le_of_ble_eq_true rfl) (Nat.le_of_ble_eq_true rfl) ⟨Nat.zero_le _, Nat.zero_le _⟩ dX12_idleAfter_2 (fun H locs hW hS => ?_)
  refine lv_topi (fun x1_4 e9 => ?_)
  have hX := lt_go hX e9
  refine lv_istore_n (lv' := [(1, .int x1_4), (0, .ref (gA G 40 0 0))]) hx hb dX12_idleAfter_5 rfl hl (by decide) rfl (fun ls hl => ?_)
  refine lv_aload_n hx hb dX12_idleAfter_6 rfl (lv_at hl 1 rfl) ?_
  refine lv_iload_n hx hb dX12_idleAfter_7 rfl (lv_at hl 0 rfl) ?_
  refine lv_sipush (v := (200 : Int32)) hx hb dX12_idleAfter_8 (by decide) ?_
  refine lv_icmp_le (tgt := 18) hx hb dX12_idleAfter_11 (by decide) (fun c5 => ?_) (fun c5 => ?_)
  · have hX := it_t hX c5
    refine lv_iconst (v := (0 : Int32)) hx hb dX12_idleAfter_18 (by decide) ?_
    exact J_19 _ _ _ _ _ _ hW hS (lv_sub hl [0] rfl) hX
  · have hX := it_f hX c5
    refine lv_iconst (v := (1 : Int32)) hx hb dX12_idleAfter_14 (by decide) ?_
    refine lv_goto (tgt := 19) hx hb dX12_idleAfter_15 (by decide) ?_
    exact J_19 _ _ _ _ _ _ hW hS (lv_sub hl [0] rfl) hX
set_option maxHeartbeats 4000000 in
theorem k_X12_idleAfter {p : Program} {l : Launch} {e : Env} {R : Room} {s : State} {m : MethodId} {args : Array Value} {below : List Frame} {meth : Method} {c : Code} {H : Heap} {locs : List Loc} {cells slots : Nat} {Q : State → Prop} {cc : ByteArray} {pc nL idx : Nat} {own : String} {ls : Array Slot} {rest : List Value} {G : Geo} {x y : Mem} {H0 : Heap} {v : Int32} {z : Mem} (hx : p.tables.exec = Jvm.exec) (hb : c.code = cc) (hml : c.maxLocals = nL) (hown : s.vm.findClass own = some m.cls) (htg : ∀ w ∈ wsG, w.before args s = true) (hK : Kt G s) (hW : Wh G x y H) (hS : va_S (gF G) H0 H locs) (h : m_X12_idleAfter y = some (v, z)) (hlk : Cond.methodLink own idx yX12_idleAfter ∈ wsG) (hn : ls.size = nL) (hr : (rest.map fun v => v.category).sum ≤ 8) (hR1 : 10 + 1 ≤ R.frames) (hR2 : 8 + (2 + 11) + 228 ≤ R.locals) (hf : cells ≤ R.cells ∧ slots ≤ R.slots) (hdg : decode cc pc = .ok (.invokevirtual idx, 3)) (kk : ∀ (H1 : Heap) (locs1 : List Loc), Wh G x z H1 → va_S (gF G) H0 H1 locs1 → W p l e R s m args below meth c H1 locs1 cells slots Q (F0 m (pc + 3) ls (.int v :: rest))) : W p l e R s m args below meth c H locs cells slots Q (F0 m pc ls (.ref (gA G 40 0 0) :: rest)) := by
  refine va_calli (va_runV (As := []) (rest := rest) ⟨hx, hb, hml, hown, htg⟩ (c_X12_idleAfter l G x y (v, z) h) (cwV 0 htg (gd_V hlk q968 q969 q5 q970) rfl rfl rfl (by decide +kernel) ⟨hR1, hR2⟩) ⟨fun a U g mk q => ⟨q.1, q.2.1.calling, q.2.2⟩, rc_40 hK hW, fun U hU hW9 => ⟨rfl, hK.warm hW9, by rw [hU]; exact hW⟩⟩ rfl rfl hn rfl (lv_room hr) hdg hf) hS (fun _ _ h9 => h9) (fun _ h9 => h9) ?_
  intro r9 u t H1 locs1 ht hvm hw hB hz1 hk1 hS1
  replace hB : Wh G x z t.heap := hB
  rw [ht] at hB
  replace hw : r9 = v := hw
  subst hw
  exact kk H1 locs1 hB hS1
/-! METHOD X12_isSafe -/
def m_X12_isSafe (y : Mem) : Option (Int32 × Mem) :=
  lt_ (up4 y 40 0 0 0 (0 : Int32)) fun y1 => bd_ (m_X12_findNow y1) fun y4 => bd2_ (m_X12_findStuck y4) fun r6 y7 => if 0 ≤ r6 then (some ((0 : Int32), y7)) else (some ((1 : Int32), y7))
abbrev WS_X12_isSafe : List Cond := .code yX12_isSafe cX12_isSafe 1 (some .boolean) :: wsG
abbrev RM_X12_isSafe : Room := { frames := 4, cells := 0, slots := 0, locals := 88 }
set_option maxHeartbeats 4000000 in
set_option maxRecDepth 100000 in
theorem c_X12_isSafe (l : Launch) (G : Geo) (x y : Mem) (r : (Int32 × Mem)) (h : m_X12_isSafe y = some r) : Met l yX12_isSafe WS_X12_isSafe RM_X12_isSafe (Pw G x y [.ref (gA G 40 0 0)]) (Qi G x r.2 r.1) 0 0 (gF G) := by
  refine Met.ofW (cc := cX12_isSafe) (maxL := 1) (ret := (some .boolean)) (by decide) rfl ?_
  intro p e s m args below meth c s₁ B hml hv
  obtain ⟨rfl, hK, hW⟩ := hv
  have hx := B.exec
  have hb := B.bytes
  have hr := B.returns
  have hts := atoms_spec (ws := WS_X12_isSafe) B.pre
  have htg : ∀ w ∈ wsG, w.before _ s = true := fun w h => hts w (List.mem_cons_of_mem _ h)
  have hown : s.vm.findClass RX12 = some m.cls := findClass_of_methodNamed B.named
  have hlocks := B.notSynchronized
  have hS : va_S (gF G) s.heap s.heap [] := va_S.rf
  have hl := lv_entry ([.ref (gA G 40 0 0)]) (n := 1) (Nat.le_of_ble_eq_true rfl)
  rw [lg_entry_eq]
  generalize (lg_sl ([.ref (gA G 40 0 0)]) ++ List.replicate (1 - (lg_sl ([.ref (gA G 40 0 0)])).length) Slot.unset).toArray = ls at hl ⊢
  have hl : lv_has ls 1 [(0, .ref (gA G 40 0 0))] := hl
  have hX := h
  unfold m_X12_isSafe at hX
  refine lv_aload_n hx hb dX12_isSafe_0 rfl (lv_at hl 0 rfl) ?_
  refine lv_iconst (v := (0 : Int32)) hx hb dX12_isSafe_1 (by decide) ?_
  refine pf_40_0 hx hb htg hown hK hW hS q311 dX12_isSafe_2 (fun H locs hW hS => ?_)
  obtain ⟨y1, e9⟩ : ∃ w : Mem, w = (up4 y 40 0 0 0 (0 : Int32)) := ⟨_, rfl⟩
  rw [← e9] at hW
  have hX := lt_go hX e9
  refine lv_aload_n hx hb dX12_isSafe_5 rfl (lv_at hl 0 rfl) ?_
  obtain ⟨y4, h2, hX⟩ := bd_go hX
  refine k_X12_findNow hx hb hml hown htg hK hW hS h2 q871 hl.1 (Nat.le_of_ble_eq_true rfl) (Nat.le_of_ble_eq_true rfl) (Nat.le_of_ble_eq_true rfl) ⟨Nat.zero_le _, Nat.zero_le _⟩ dX12_isSafe_6 (fun H locs hW hS => ?_)
  refine lv_aload_n hx hb dX12_isSafe_9 rfl (lv_at hl 0 rfl) ?_
  obtain ⟨r6, y7, h5, hX⟩ := bd2_go hX
  refine k_X12_findStuck hx hb hml hown htg hK hW hS h5 q875 hl.1 (Nat.le_of_ble_eq_true rfl) (Nat.le_of_ble_eq_true rfl) (Nat.le_of_ble_eq_true rfl) ⟨Nat.zero_le _, Nat.zero_le _⟩ dX12_isSafe_10 (fun H locs hW hS => ?_)
  refine lv_if_ge (tgt := 20) hx hb dX12_isSafe_13 (by decide) (fun c8 => ?_) (fun c8 => ?_)
  · have hX := it_t hX c8
    refine lv_iconst (v := (0 : Int32)) hx hb dX12_isSafe_20 (by decide) ?_
    have hX := Option.some.inj hX
    subst hX
    exact rt_z hx hb hr hlocks hW hS nb0 dX12_isSafe_21
  · have hX := it_f hX c8
    refine lv_iconst (v := (1 : Int32)) hx hb dX12_isSafe_16 (by decide) ?_
    refine lv_goto (tgt := 21) hx hb dX12_isSafe_17 (by decide) ?_
    have hX := Option.some.inj hX
    subst hX
    exact rt_z hx hb hr hlocks hW hS nb1 dX12_isSafe_21
set_option maxHeartbeats 4000000 in
theorem k_X12_isSafe {p : Program} {l : Launch} {e : Env} {R : Room} {s : State} {m : MethodId} {args : Array Value} {below : List Frame} {meth : Method} {c : Code} {H : Heap} {locs : List Loc} {cells slots : Nat} {Q : State → Prop} {cc : ByteArray} {pc nL idx : Nat} {own : String} {ls : Array Slot} {rest : List Value} {G : Geo} {x y : Mem} {H0 : Heap} {v : Int32} {z : Mem} (hx : p.tables.exec = Jvm.exec) (hb : c.code = cc) (hml : c.maxLocals = nL) (hown : s.vm.findClass own = some m.cls) (htg : ∀ w ∈ wsG, w.before args s = true) (hK : Kt G s) (hW : Wh G x y H) (hS : va_S (gF G) H0 H locs) (h : m_X12_isSafe y = some (v, z)) (hlk : Cond.methodLink own idx yX12_isSafe ∈ wsG) (hn : ls.size = nL) (hr : (rest.map fun v => v.category).sum ≤ 8) (hR1 : 4 + 1 ≤ R.frames) (hR2 : 8 + (1 + 11) + 88 ≤ R.locals) (hf : cells ≤ R.cells ∧ slots ≤ R.slots) (hdg : decode cc pc = .ok (.invokevirtual idx, 3)) (kk : ∀ (H1 : Heap) (locs1 : List Loc), Wh G x z H1 → va_S (gF G) H0 H1 locs1 → W p l e R s m args below meth c H1 locs1 cells slots Q (F0 m (pc + 3) ls (.int v :: rest))) : W p l e R s m args below meth c H locs cells slots Q (F0 m pc ls (.ref (gA G 40 0 0) :: rest)) := by
  refine va_calli (va_runV (As := []) (rest := rest) ⟨hx, hb, hml, hown, htg⟩ (c_X12_isSafe l G x y (v, z) h) (cwV 0 htg (gd_V hlk q980 q981 q5 q982) rfl rfl rfl (by decide +kernel) ⟨hR1, hR2⟩) ⟨fun a U g mk q => ⟨q.1, q.2.1.calling, q.2.2⟩, rc_40 hK hW, fun U hU hW9 => ⟨rfl, hK.warm hW9, by rw [hU]; exact hW⟩⟩ rfl rfl hn rfl (lv_room hr) hdg hf) hS (fun _ _ h9 => h9) (fun _ h9 => h9) ?_
  intro r9 u t H1 locs1 ht hvm hw hB hz1 hk1 hS1
  replace hB : Wh G x z t.heap := hB
  rw [ht] at hB
  replace hw : r9 = v := hw
  subst hw
  exact kk H1 locs1 hB hS1
/-! METHOD X12_job -/
def m_X12_job (p0 : Int32) (p1 : Int32) (y : Mem) : Option (Int32 × Mem) :=
  bd_ (m_X12_isJob p0 y) fun r2 => if r2 = 0 then (bd2_ (m_X12_fails (1 : Int32) y) fun r29 y30 => some (r29, y30)) else (bd_ (m_X12_isBetween p1 (0 : Int32) (8 : Int32)) fun r5 => if r5 = 0 then (bd2_ (m_X12_fails (2 : Int32) y) fun r26 y27 => some (r26, y27)) else (lt_ (up4 y 40 0 0 0 (0 : Int32)) fun y7 => if p1 = (0 : Int32) then (gd_ p0 30 (some ((y7 122 0 0 p0.toNatClampNeg), y7))) else if p1 = (1 : Int32) then (gd_ p0 30 (some ((y7 123 0 0 p0.toNatClampNeg), y7))) else if p1 = (2 : Int32) then (gd_ p0 30 (some ((y7 125 0 0 p0.toNatClampNeg), y7))) else if p1 = (3 : Int32) then (gd_ p0 30 (some ((y7 126 0 0 p0.toNatClampNeg), y7))) else if p1 = (4 : Int32) then (gd_ p0 30 (some ((y7 127 0 0 p0.toNatClampNeg), y7))) else if p1 = (5 : Int32) then (gd_ p0 30 (some ((y7 128 0 0 p0.toNatClampNeg), y7))) else if p1 = (6 : Int32) then (gd_ p0 30 (some ((y7 129 0 0 p0.toNatClampNeg), y7))) else if p1 = (7 : Int32) then (gd_ p0 30 (some ((y7 130 0 0 p0.toNatClampNeg), y7))) else (gd_ p0 30 (some ((y7 131 0 0 p0.toNatClampNeg), y7)))))
abbrev WS_X12_job : List Cond := .code yX12_job cX12_job 3 (some .int) :: wsG
abbrev RM_X12_job : Room := { frames := 1, cells := 0, slots := 0, locals := 22 }
set_option maxHeartbeats 4000000 in
set_option maxRecDepth 100000 in
theorem c_X12_job (l : Launch) (G : Geo) (x y : Mem) (p0 : Int32) (p1 : Int32) (r : (Int32 × Mem)) (h : m_X12_job p0 p1 y = some r) : Met l yX12_job WS_X12_job RM_X12_job (Pw G x y [.ref (gA G 40 0 0), .int p0, .int p1]) (Qi G x r.2 r.1) 0 0 (gF G) := by
  refine Met.ofW (cc := cX12_job) (maxL := 3) (ret := (some .int)) (by decide) rfl ?_
  intro p e s m args below meth c s₁ B hml hv
  obtain ⟨rfl, hK, hW⟩ := hv
  have hx := B.exec
  have hb := B.bytes
  have hr := B.returns
  have hts := atoms_spec (ws := WS_X12_job) B.pre
  have htg : ∀ w ∈ wsG, w.before _ s = true := fun w h => hts w (List.mem_cons_of_mem _ h)
  have hown : s.vm.findClass RX12 = some m.cls := findClass_of_methodNamed B.named
  have hlocks := B.notSynchronized
  have hS : va_S (gF G) s.heap s.heap [] := va_S.rf
  have hl := lv_entry ([.ref (gA G 40 0 0), .int p0, .int p1]) (n := 3) (Nat.le_of_ble_eq_true rfl)
  rw [lg_entry_eq]
  generalize (lg_sl ([.ref (gA G 40 0 0), .int p0, .int p1]) ++ List.replicate (3 - (lg_sl ([.ref (gA G 40 0 0), .int p0, .int p1])).length) Slot.unset).toArray = ls at hl ⊢
  have hl : lv_has ls 3 [(0, .ref (gA G 40 0 0)), (1, .int p0), (2, .int p1)] := hl
  have hX := h
  unfold m_X12_job at hX
  refine lv_aload_n hx hb dX12_job_0 rfl (lv_at hl 0 rfl) ?_
  refine lv_iload_n hx hb dX12_job_1 rfl (lv_at hl 1 rfl) ?_
  obtain ⟨r2, h1, hX⟩ := bd_go hX
  refine k_X12_isJob hx hb hml hown htg hK hW hS h1 q628 hl.1 (Nat.le_of_ble_eq_true rfl) (Nat.le_of_ble_eq_true rfl) (Nat.le_of_ble_eq_true rfl) ⟨Nat.zero_le _, Nat.zero_le _⟩ dX12_job_2 (fun H locs hW hS => ?_)
  refine lv_if_ne (tgt := 14) hx hb dX12_job_5 (by decide) (fun c3 => ?_) (fun c3 => ?_)
  · have hX := it_f hX c3
    refine lv_iload_n hx hb dX12_job_14 rfl (lv_at hl 2 rfl) ?_
    refine lv_iconst (v := (0 : Int32)) hx hb dX12_job_15 (by decide) ?_
    refine lv_bipush (v := (8 : Int32)) hx hb dX12_job_16 (by decide) ?_
    obtain ⟨r5, h4, hX⟩ := bd_go hX
    refine k_X12_isBetween hx hb hml hown htg hK hW hS h4 q319 hl.1 (Nat.le_of_ble_eq_true rfl) (Nat.le_of_ble_eq_true rfl) (Nat.le_of_ble_eq_true rfl) ⟨Nat.zero_le _, Nat.zero_le _⟩ dX12_job_18 (fun H locs hW hS => ?_)
    refine lv_if_ne (tgt := 30) hx hb dX12_job_21 (by decide) (fun c6 => ?_) (fun c6 => ?_)
    · have hX := it_f hX c6
      refine lv_aload_n hx hb dX12_job_30 rfl (lv_at hl 0 rfl) ?_
      refine lv_iconst (v := (0 : Int32)) hx hb dX12_job_31 (by decide) ?_
      refine pf_40_0 hx hb htg hown hK hW hS q311 dX12_job_32 (fun H locs hW hS => ?_)
      obtain ⟨y7, e9⟩ : ∃ w : Mem, w = (up4 y 40 0 0 0 (0 : Int32)) := ⟨_, rfl⟩
      rw [← e9] at hW
      have hX := lt_go hX e9
      refine lv_iload_n hx hb dX12_job_35 rfl (lv_at hl 2 rfl) ?_
      by_cases c8 : p1 = (0 : Int32)
      · have hX := it_t hX c8
        refine lv_tsIn (v := (0 : Int32)) (tgt := 84) hx hb dX12_job_36 c8 rfl (by decide) (by decide) rfl (by decide) ?_
        refine lv_aload_n hx hb dX12_job_84 rfl (lv_at hl 0 rfl) ?_
        refine gf_40_22 hx hb htg hown hK hW q157 dX12_job_85 ?_
        refine lv_iload_n hx hb dX12_job_88 rfl (lv_at hl 1 rfl) ?_
        obtain ⟨g9, hX⟩ := gd_go hX
        refine al_122 hx hb hK hW g9 dX12_job_89 ?_
        have hX := Option.some.inj hX
        subst hX
        exact rt_i hx hb hr hlocks hW hS dX12_job_90
      have hX := it_f hX c8
      by_cases c10 : p1 = (1 : Int32)
      · have hX := it_t hX c10
        refine lv_tsIn (v := (1 : Int32)) (tgt := 91) hx hb dX12_job_36 c10 rfl (by decide) (by decide) rfl (by decide) ?_
        refine lv_aload_n hx hb dX12_job_91 rfl (lv_at hl 0 rfl) ?_
        refine gf_40_23 hx hb htg hown hK hW q158 dX12_job_92 ?_
        refine lv_iload_n hx hb dX12_job_95 rfl (lv_at hl 1 rfl) ?_
        obtain ⟨g11, hX⟩ := gd_go hX
        refine al_123 hx hb hK hW g11 dX12_job_96 ?_
        have hX := Option.some.inj hX
        subst hX
        exact rt_i hx hb hr hlocks hW hS dX12_job_97
      have hX := it_f hX c10
      by_cases c12 : p1 = (2 : Int32)
      · have hX := it_t hX c12
        refine lv_tsIn (v := (2 : Int32)) (tgt := 98) hx hb dX12_job_36 c12 rfl (by decide) (by decide) rfl (by decide) ?_
        refine lv_aload_n hx hb dX12_job_98 rfl (lv_at hl 0 rfl) ?_
        refine gf_40_25 hx hb htg hown hK hW q160 dX12_job_99 ?_
        refine lv_iload_n hx hb dX12_job_102 rfl (lv_at hl 1 rfl) ?_
        obtain ⟨g13, hX⟩ := gd_go hX
        refine al_125 hx hb hK hW g13 dX12_job_103 ?_
        have hX := Option.some.inj hX
        subst hX
        exact rt_i hx hb hr hlocks hW hS dX12_job_104
      have hX := it_f hX c12
      by_cases c14 : p1 = (3 : Int32)
      · have hX := it_t hX c14
        refine lv_tsIn (v := (3 : Int32)) (tgt := 105) hx hb dX12_job_36 c14 rfl (by decide) (by decide) rfl (by decide) ?_
        refine lv_aload_n hx hb dX12_job_105 rfl (lv_at hl 0 rfl) ?_
        refine gf_40_26 hx hb htg hown hK hW q161 dX12_job_106 ?_
        refine lv_iload_n hx hb dX12_job_109 rfl (lv_at hl 1 rfl) ?_
        obtain ⟨g15, hX⟩ := gd_go hX
        refine al_126 hx hb hK hW g15 dX12_job_110 ?_
        have hX := Option.some.inj hX
        subst hX
        exact rt_i hx hb hr hlocks hW hS dX12_job_111
      have hX := it_f hX c14
      by_cases c16 : p1 = (4 : Int32)
      · have hX := it_t hX c16
        refine lv_tsIn (v := (4 : Int32)) (tgt := 112) hx hb dX12_job_36 c16 rfl (by decide) (by decide) rfl (by decide) ?_
        refine lv_aload_n hx hb dX12_job_112 rfl (lv_at hl 0 rfl) ?_
        refine gf_40_27 hx hb htg hown hK hW q162 dX12_job_113 ?_
        refine lv_iload_n hx hb dX12_job_116 rfl (lv_at hl 1 rfl) ?_
        obtain ⟨g17, hX⟩ := gd_go hX
        refine al_127 hx hb hK hW g17 dX12_job_117 ?_
        have hX := Option.some.inj hX
        subst hX
        exact rt_i hx hb hr hlocks hW hS dX12_job_118
      have hX := it_f hX c16
      by_cases c18 : p1 = (5 : Int32)
      · have hX := it_t hX c18
        refine lv_tsIn (v := (5 : Int32)) (tgt := 119) hx hb dX12_job_36 c18 rfl (by decide) (by decide) rfl (by decide) ?_
        refine lv_aload_n hx hb dX12_job_119 rfl (lv_at hl 0 rfl) ?_
        refine gf_40_28 hx hb htg hown hK hW q163 dX12_job_120 ?_
        refine lv_iload_n hx hb dX12_job_123 rfl (lv_at hl 1 rfl) ?_
        obtain ⟨g19, hX⟩ := gd_go hX
        refine al_128 hx hb hK hW g19 dX12_job_124 ?_
        have hX := Option.some.inj hX
        subst hX
        exact rt_i hx hb hr hlocks hW hS dX12_job_125
      have hX := it_f hX c18
      by_cases c20 : p1 = (6 : Int32)
      · have hX := it_t hX c20
        refine lv_tsIn (v := (6 : Int32)) (tgt := 126) hx hb dX12_job_36 c20 rfl (by decide) (by decide) rfl (by decide) ?_
        refine lv_aload_n hx hb dX12_job_126 rfl (lv_at hl 0 rfl) ?_
        refine gf_40_29 hx hb htg hown hK hW q164 dX12_job_127 ?_
        refine lv_iload_n hx hb dX12_job_130 rfl (lv_at hl 1 rfl) ?_
        obtain ⟨g21, hX⟩ := gd_go hX
        refine al_129 hx hb hK hW g21 dX12_job_131 ?_
        have hX := Option.some.inj hX
        subst hX
        exact rt_i hx hb hr hlocks hW hS dX12_job_132
      have hX := it_f hX c20
      by_cases c22 : p1 = (7 : Int32)
      · have hX := it_t hX c22
        refine lv_tsIn (v := (7 : Int32)) (tgt := 133) hx hb dX12_job_36 c22 rfl (by decide) (by decide) rfl (by decide) ?_
        refine lv_aload_n hx hb dX12_job_133 rfl (lv_at hl 0 rfl) ?_
        refine gf_40_30 hx hb htg hown hK hW q165 dX12_job_134 ?_
        refine lv_iload_n hx hb dX12_job_137 rfl (lv_at hl 1 rfl) ?_
        obtain ⟨g23, hX⟩ := gd_go hX
        refine al_130 hx hb hK hW g23 dX12_job_138 ?_
        have hX := Option.some.inj hX
        subst hX
        exact rt_i hx hb hr hlocks hW hS dX12_job_139
      have hX := it_f hX c22
      refine lv_tsOut (n := 7) (tgt := 140) hx hb dX12_job_36 (by decide) (fun j hj => match j, hj with | 0, _ => c8 | 1, _ => c10 | 2, _ => c12 | 3, _ => c14 | 4, _ => c16 | 5, _ => c18 | 6, _ => c20 | 7, _ => c22 | j + 8, hj => absurd hj (by omega)) (by decide) ?_
      refine lv_aload_n hx hb dX12_job_140 rfl (lv_at hl 0 rfl) ?_
      refine gf_40_31 hx hb htg hown hK hW q166 dX12_job_141 ?_
      refine lv_iload_n hx hb dX12_job_144 rfl (lv_at hl 1 rfl) ?_
      obtain ⟨g24, hX⟩ := gd_go hX
      refine al_131 hx hb hK hW g24 dX12_job_145 ?_
      have hX := Option.some.inj hX
      subst hX
      exact rt_i hx hb hr hlocks hW hS dX12_job_146
    · have hX := it_t hX c6
      refine lv_aload_n hx hb dX12_job_24 rfl (lv_at hl 0 rfl) ?_
      refine lv_iconst (v := (2 : Int32)) hx hb dX12_job_25 (by decide) ?_
      obtain ⟨r26, y27, h25, hX⟩ := bd2_go hX
      refine k_X12_fails hx hb hml hown htg hK hW hS h25 q407 hl.1 (Nat.le_of_ble_eq_true rfl) (Nat.le_of_ble_eq_true rfl) (Nat.le_of_ble_eq_true rfl) ⟨Nat.zero_le _, Nat.zero_le _⟩ dX12_job_26 (fun H locs hW hS => ?_)
      have hX := Option.some.inj hX
      subst hX
      exact rt_i hx hb hr hlocks hW hS dX12_job_29
  · have hX := it_t hX c3
    refine lv_aload_n hx hb dX12_job_8 rfl (lv_at hl 0 rfl) ?_
    refine lv_iconst (v := (1 : Int32)) hx hb dX12_job_9 (by decide) ?_
    obtain ⟨r29, y30, h28, hX⟩ := bd2_go hX
    refine k_X12_fails hx hb hml hown htg hK hW hS h28 q407 hl.1 (Nat.le_of_ble_eq_true rfl) (Nat.le_of_ble_eq_true rfl) (Nat.le_of_ble_eq_true rfl) ⟨Nat.zero_le _, Nat.zero_le _⟩ dX12_job_10 (fun H locs hW hS => ?_)
    have hX := Option.some.inj hX
    subst hX
    exact rt_i hx hb hr hlocks hW hS dX12_job_13
set_option maxHeartbeats 4000000 in
theorem k_X12_job {p : Program} {l : Launch} {e : Env} {R : Room} {s : State} {m : MethodId} {args : Array Value} {below : List Frame} {meth : Method} {c : Code} {H : Heap} {locs : List Loc} {cells slots : Nat} {Q : State → Prop} {cc : ByteArray} {pc nL idx : Nat} {own : String} {ls : Array Slot} {rest : List Value} {G : Geo} {x y : Mem} {H0 : Heap} {p0 : Int32} {p1 : Int32} {v : Int32} {z : Mem} (hx : p.tables.exec = Jvm.exec) (hb : c.code = cc) (hml : c.maxLocals = nL) (hown : s.vm.findClass own = some m.cls) (htg : ∀ w ∈ wsG, w.before args s = true) (hK : Kt G s) (hW : Wh G x y H) (hS : va_S (gF G) H0 H locs) (h : m_X12_job p0 p1 y = some (v, z)) (hlk : Cond.methodLink own idx yX12_job ∈ wsG) (hn : ls.size = nL) (hr : (rest.map fun v => v.category).sum ≤ 8) (hR1 : 1 + 1 ≤ R.frames) (hR2 : 8 + (3 + 11) + 22 ≤ R.locals) (hf : cells ≤ R.cells ∧ slots ≤ R.slots) (hdg : decode cc pc = .ok (.invokevirtual idx, 3)) (kk : ∀ (H1 : Heap) (locs1 : List Loc), Wh G x z H1 → va_S (gF G) H0 H1 locs1 → W p l e R s m args below meth c H1 locs1 cells slots Q (F0 m (pc + 3) ls (.int v :: rest))) : W p l e R s m args below meth c H locs cells slots Q (F0 m pc ls (.int p1 :: .int p0 :: .ref (gA G 40 0 0) :: rest)) := by
  refine va_calli (va_runV (As := [.int p0, .int p1]) (rest := rest) ⟨hx, hb, hml, hown, htg⟩ (c_X12_job l G x y p0 p1 (v, z) h) (cwV 2 htg (gd_V hlk q625 q626 q5 q627) rfl rfl rfl (by decide +kernel) ⟨hR1, hR2⟩) ⟨fun a U g mk q => ⟨q.1, q.2.1.calling, q.2.2⟩, rc_40 hK hW, fun U hU hW9 => ⟨rfl, hK.warm hW9, by rw [hU]; exact hW⟩⟩ rfl rfl hn rfl (lv_room hr) hdg hf) hS (fun _ _ h9 => h9) (fun _ h9 => h9) ?_
  intro r9 u t H1 locs1 ht hvm hw hB hz1 hk1 hS1
  replace hB : Wh G x z t.heap := hB
  rw [ht] at hB
  replace hw : r9 = v := hw
  subst hw
  exact kk H1 locs1 hB hS1
/-! METHOD X12_meanDuration -/
def m_X12_meanDuration_j13 (s0 : Int32) (y : Mem) : Option (UInt64 × Mem) :=
  lt_ (up4 y 40 0 0 0 s0) fun y2 => if (y2 40 0 0 37) = 0 then (some (FP.dconst0, y2)) else (gq_ (nn64 (FP.ddiv (FP.i2d (y2 40 0 0 39)) (FP.i2d (y2 40 0 0 37)))) (some ((FP.ddiv (FP.i2d (y2 40 0 0 39)) (FP.i2d (y2 40 0 0 37))), y2)))
def m_X12_meanDuration (y : Mem) : Option (UInt64 × Mem) :=
  if (y 40 0 0 37) = 0 then (m_X12_meanDuration_j13 (1 : Int32) y) else (m_X12_meanDuration_j13 (0 : Int32) y)
abbrev WS_X12_meanDuration : List Cond := .code yX12_meanDuration cX12_meanDuration 1 (some .double) :: wsG
abbrev RM_X12_meanDuration : Room := { frames := 0, cells := 0, slots := 0, locals := 0 }
set_option maxHeartbeats 4000000 in
set_option maxRecDepth 100000 in
theorem c_X12_meanDuration (l : Launch) (G : Geo) (x y : Mem) (r : (UInt64 × Mem)) (h : m_X12_meanDuration y = some r) : Met l yX12_meanDuration WS_X12_meanDuration RM_X12_meanDuration (Pw G x y [.ref (gA G 40 0 0)]) (Qd G x r.2 r.1) 0 0 (gF G) := by
  refine Met.ofW (cc := cX12_meanDuration) (maxL := 1) (ret := (some .double)) (by decide) rfl ?_
  intro p e s m args below meth c s₁ B hml hv
  obtain ⟨rfl, hK, hW⟩ := hv
  have hx := B.exec
  have hb := B.bytes
  have hr := B.returns
  have hts := atoms_spec (ws := WS_X12_meanDuration) B.pre
  have htg : ∀ w ∈ wsG, w.before _ s = true := fun w h => hts w (List.mem_cons_of_mem _ h)
  have hown : s.vm.findClass RX12 = some m.cls := findClass_of_methodNamed B.named
  have hlocks := B.notSynchronized
  have hS : va_S (gF G) s.heap s.heap [] := va_S.rf
  have hl := lv_entry ([.ref (gA G 40 0 0)]) (n := 1) (Nat.le_of_ble_eq_true rfl)
  rw [lg_entry_eq]
  generalize (lg_sl ([.ref (gA G 40 0 0)]) ++ List.replicate (1 - (lg_sl ([.ref (gA G 40 0 0)])).length) Slot.unset).toArray = ls at hl ⊢
  have hl : lv_has ls 1 [(0, .ref (gA G 40 0 0))] := hl
  have hX := h
  unfold m_X12_meanDuration at hX
  have J_13 : ∀ (s0 : Int32) (y : Mem) (H : Heap) (locs : List Loc) (ls : Array Slot), Wh G x y H → va_S (gF G) s.heap H locs → lv_has ls 1 [(0, .ref (gA G 40 0 0))] → m_X12_meanDuration_j13 s0 y = some r → W p l e (headSpec WS_X12_meanDuration RM_X12_meanDuration).room s m ([.ref (gA G 40 0 0)] : List Value).toArray below meth c H locs 0 0 (MQ below (Qd G x r.2 r.1) ([.ref (gA G 40 0 0)] : List Value).toArray s 0 0 (gF G)) (F0 m 13 ls [.int s0, .ref (gA G 40 0 0)]) := by
    intro s0 y H locs ls hW hS hl hX
    unfold m_X12_meanDuration_j13 at hX
    refine pf_40_0 hx hb htg hown hK hW hS q311 dX12_meanDuration_13 (fun H locs hW hS => ?_)
    obtain ⟨y2, e9⟩ : ∃ w : Mem, w = (up4 y 40 0 0 0 s0) := ⟨_, rfl⟩
    rw [← e9] at hW
    have hX := lt_go hX e9
    refine lv_aload_n hx hb dX12_meanDuration_16 rfl (lv_at hl 0 rfl) ?_
    refine gf_40_37 hx hb htg hown hK hW q356 dX12_meanDuration_17 ?_
    refine lv_if_ne (tgt := 27) hx hb dX12_meanDuration_20 (by decide) (fun c3 => ?_) (fun c3 => ?_)
    · have hX := it_f hX c3
      refine lv_aload_n hx hb dX12_meanDuration_27 rfl (lv_at hl 0 rfl) ?_
      refine gf_40_39 hx hb htg hown hK hW q358 dX12_meanDuration_28 ?_
      refine lv_i2d hx hb dX12_meanDuration_31 ?_
      refine lv_aload_n hx hb dX12_meanDuration_32 rfl (lv_at hl 0 rfl) ?_
      refine gf_40_37 hx hb htg hown hK hW q356 dX12_meanDuration_33 ?_
      refine lv_i2d hx hb dX12_meanDuration_36 ?_
      obtain ⟨g4, hX⟩ := gq_go hX
      refine lv_ddiv hx hb dX12_meanDuration_37 (nn64_ok g4) ?_
      have hX := Option.some.inj hX
      subst hX
      exact rt_d hx hb hr hlocks hW hS dX12_meanDuration_38
    · have hX := it_t hX c3
      refine lv_dconst0 hx hb dX12_meanDuration_23 ?_
      refine lv_goto (tgt := 38) hx hb dX12_meanDuration_24 (by decide) ?_
      have hX := Option.some.inj hX
      subst hX
      exact rt_d hx hb hr hlocks hW hS dX12_meanDuration_38
  refine lv_aload_n hx hb dX12_meanDuration_0 rfl (lv_at hl 0 rfl) ?_
  refine lv_aload_n hx hb dX12_meanDuration_1 rfl (lv_at hl 0 rfl) ?_
  refine gf_40_37 hx hb htg hown hK hW q356 dX12_meanDuration_2 ?_
  refine lv_if_ne (tgt := 12) hx hb dX12_meanDuration_5 (by decide) (fun c1 => ?_) (fun c1 => ?_)
  · have hX := it_f hX c1
    refine lv_iconst (v := (0 : Int32)) hx hb dX12_meanDuration_12 (by decide) ?_
    exact J_13 _ _ _ _ _ hW hS (lv_sub hl [0] rfl) hX
  · have hX := it_t hX c1
    refine lv_iconst (v := (1 : Int32)) hx hb dX12_meanDuration_8 (by decide) ?_
    refine lv_goto (tgt := 13) hx hb dX12_meanDuration_9 (by decide) ?_
    exact J_13 _ _ _ _ _ hW hS (lv_sub hl [0] rfl) hX
set_option maxHeartbeats 4000000 in
theorem k_X12_meanDuration {p : Program} {l : Launch} {e : Env} {R : Room} {s : State} {m : MethodId} {args : Array Value} {below : List Frame} {meth : Method} {c : Code} {H : Heap} {locs : List Loc} {cells slots : Nat} {Q : State → Prop} {cc : ByteArray} {pc nL idx : Nat} {own : String} {ls : Array Slot} {rest : List Value} {G : Geo} {x y : Mem} {H0 : Heap} {v : UInt64} {z : Mem} (hx : p.tables.exec = Jvm.exec) (hb : c.code = cc) (hml : c.maxLocals = nL) (hown : s.vm.findClass own = some m.cls) (htg : ∀ w ∈ wsG, w.before args s = true) (hK : Kt G s) (hW : Wh G x y H) (hS : va_S (gF G) H0 H locs) (h : m_X12_meanDuration y = some (v, z)) (hlk : Cond.methodLink own idx yX12_meanDuration ∈ wsG) (hn : ls.size = nL) (hr : (rest.map fun v => v.category).sum ≤ 8) (hR1 : 0 + 1 ≤ R.frames) (hR2 : 8 + (1 + 11) + 0 ≤ R.locals) (hf : cells ≤ R.cells ∧ slots ≤ R.slots) (hdg : decode cc pc = .ok (.invokevirtual idx, 3)) (kk : ∀ (H1 : Heap) (locs1 : List Loc), Wh G x z H1 → va_S (gF G) H0 H1 locs1 → W p l e R s m args below meth c H1 locs1 cells slots Q (F0 m (pc + 3) ls (.double v :: rest))) : W p l e R s m args below meth c H locs cells slots Q (F0 m pc ls (.ref (gA G 40 0 0) :: rest)) := by
  refine va_calld (va_runV (As := []) (rest := rest) ⟨hx, hb, hml, hown, htg⟩ (c_X12_meanDuration l G x y (v, z) h) (cwV 0 htg (gd_V hlk q1062 q1063 q5 q1064) rfl rfl rfl (by decide +kernel) ⟨hR1, hR2⟩) ⟨fun a U g mk q => ⟨q.1, q.2.1.calling, q.2.2⟩, rc_40 hK hW, fun U hU hW9 => ⟨rfl, hK.warm hW9, by rw [hU]; exact hW⟩⟩ rfl rfl hn rfl (lv_room hr) hdg hf) hS (fun _ _ h9 => h9) (fun _ h9 => h9) ?_
  intro r9 u t H1 locs1 ht hvm hw hB hz1 hk1 hS1
  replace hB : Wh G x z t.heap := hB
  rw [ht] at hB
  replace hw : r9 = v := hw
  subst hw
  exact kk H1 locs1 hB hS1
/-! METHOD X12_part -/
def m_X12_part (p0 : Int32) (p1 : Int32) (y : Mem) : Option (Int32 × Mem) :=
  bd_ (m_X12_isBuffer p0) fun r2 => if r2 = 0 then (bd2_ (m_X12_fails (1 : Int32) y) fun r14 y15 => some (r14, y15)) else (gd_ p0 3 (bd_ (m_X12_isBetween p1 (0 : Int32) ((y 104 0 0 p0.toNatClampNeg) - (1 : Int32))) fun r6 => if r6 = 0 then (bd2_ (m_X12_fails (2 : Int32) y) fun r11 y12 => some (r11, y12)) else (lt_ (up4 y 40 0 0 0 (0 : Int32)) fun y8 => gd_ (((4 : Int32) * p0) + p1) 12 (some ((y8 105 0 0 (((4 : Int32) * p0) + p1).toNatClampNeg), y8)))))
abbrev WS_X12_part : List Cond := .code yX12_part cX12_part 3 (some .int) :: wsG
abbrev RM_X12_part : Room := { frames := 2, cells := 0, slots := 0, locals := 42 }
set_option maxHeartbeats 4000000 in
set_option maxRecDepth 100000 in
theorem c_X12_part (l : Launch) (G : Geo) (x y : Mem) (p0 : Int32) (p1 : Int32) (r : (Int32 × Mem)) (h : m_X12_part p0 p1 y = some r) : Met l yX12_part WS_X12_part RM_X12_part (Pw G x y [.ref (gA G 40 0 0), .int p0, .int p1]) (Qi G x r.2 r.1) 0 0 (gF G) := by
  refine Met.ofW (cc := cX12_part) (maxL := 3) (ret := (some .int)) (by decide) rfl ?_
  intro p e s m args below meth c s₁ B hml hv
  obtain ⟨rfl, hK, hW⟩ := hv
  have hx := B.exec
  have hb := B.bytes
  have hr := B.returns
  have hts := atoms_spec (ws := WS_X12_part) B.pre
  have htg : ∀ w ∈ wsG, w.before _ s = true := fun w h => hts w (List.mem_cons_of_mem _ h)
  have hown : s.vm.findClass RX12 = some m.cls := findClass_of_methodNamed B.named
  have hlocks := B.notSynchronized
  have hS : va_S (gF G) s.heap s.heap [] := va_S.rf
  have hl := lv_entry ([.ref (gA G 40 0 0), .int p0, .int p1]) (n := 3) (Nat.le_of_ble_eq_true rfl)
  rw [lg_entry_eq]
  generalize (lg_sl ([.ref (gA G 40 0 0), .int p0, .int p1]) ++ List.replicate (3 - (lg_sl ([.ref (gA G 40 0 0), .int p0, .int p1])).length) Slot.unset).toArray = ls at hl ⊢
  have hl : lv_has ls 3 [(0, .ref (gA G 40 0 0)), (1, .int p0), (2, .int p1)] := hl
  have hX := h
  unfold m_X12_part at hX
  refine lv_iload_n hx hb dX12_part_0 rfl (lv_at hl 1 rfl) ?_
  obtain ⟨r2, h1, hX⟩ := bd_go hX
  refine k_X12_isBuffer hx hb hml hown htg hK hW hS h1 q431 hl.1 (Nat.le_of_ble_eq_true rfl) (Nat.le_of_ble_eq_true rfl) (Nat.le_of_ble_eq_true rfl) ⟨Nat.zero_le _, Nat.zero_le _⟩ dX12_part_1 (fun H locs hW hS => ?_)
  refine lv_if_ne (tgt := 13) hx hb dX12_part_4 (by decide) (fun c3 => ?_) (fun c3 => ?_)
  · have hX := it_f hX c3
    refine lv_iload_n hx hb dX12_part_13 rfl (lv_at hl 2 rfl) ?_
    refine lv_iconst (v := (0 : Int32)) hx hb dX12_part_14 (by decide) ?_
    refine lv_aload_n hx hb dX12_part_15 rfl (lv_at hl 0 rfl) ?_
    refine gf_40_4 hx hb htg hown hK hW q139 dX12_part_16 ?_
    refine lv_iload_n hx hb dX12_part_19 rfl (lv_at hl 1 rfl) ?_
    obtain ⟨g4, hX⟩ := gd_go hX
    refine al_104 hx hb hK hW g4 dX12_part_20 ?_
    refine lv_iconst (v := (1 : Int32)) hx hb dX12_part_21 (by decide) ?_
    refine lv_isub hx hb dX12_part_22 ?_
    obtain ⟨r6, h5, hX⟩ := bd_go hX
    refine k_X12_isBetween hx hb hml hown htg hK hW hS h5 q319 hl.1 (Nat.le_of_ble_eq_true rfl) (Nat.le_of_ble_eq_true rfl) (Nat.le_of_ble_eq_true rfl) ⟨Nat.zero_le _, Nat.zero_le _⟩ dX12_part_23 (fun H locs hW hS => ?_)
    refine lv_if_ne (tgt := 35) hx hb dX12_part_26 (by decide) (fun c7 => ?_) (fun c7 => ?_)
    · have hX := it_f hX c7
      refine lv_aload_n hx hb dX12_part_35 rfl (lv_at hl 0 rfl) ?_
      refine lv_iconst (v := (0 : Int32)) hx hb dX12_part_36 (by decide) ?_
      refine pf_40_0 hx hb htg hown hK hW hS q311 dX12_part_37 (fun H locs hW hS => ?_)
      obtain ⟨y8, e9⟩ : ∃ w : Mem, w = (up4 y 40 0 0 0 (0 : Int32)) := ⟨_, rfl⟩
      rw [← e9] at hW
      have hX := lt_go hX e9
      refine lv_aload_n hx hb dX12_part_40 rfl (lv_at hl 0 rfl) ?_
      refine gf_40_5 hx hb htg hown hK hW q140 dX12_part_41 ?_
      refine lv_iconst (v := (4 : Int32)) hx hb dX12_part_44 (by decide) ?_
      refine lv_iload_n hx hb dX12_part_45 rfl (lv_at hl 1 rfl) ?_
      refine lv_imul hx hb dX12_part_46 ?_
      refine lv_iload_n hx hb dX12_part_47 rfl (lv_at hl 2 rfl) ?_
      refine lv_iadd hx hb dX12_part_48 ?_
      obtain ⟨g9, hX⟩ := gd_go hX
      refine al_105 hx hb hK hW g9 dX12_part_49 ?_
      have hX := Option.some.inj hX
      subst hX
      exact rt_i hx hb hr hlocks hW hS dX12_part_50
    · have hX := it_t hX c7
      refine lv_aload_n hx hb dX12_part_29 rfl (lv_at hl 0 rfl) ?_
      refine lv_iconst (v := (2 : Int32)) hx hb dX12_part_30 (by decide) ?_
      obtain ⟨r11, y12, h10, hX⟩ := bd2_go hX
      refine k_X12_fails hx hb hml hown htg hK hW hS h10 q407 hl.1 (Nat.le_of_ble_eq_true rfl) (Nat.le_of_ble_eq_true rfl) (Nat.le_of_ble_eq_true rfl) ⟨Nat.zero_le _, Nat.zero_le _⟩ dX12_part_31 (fun H locs hW hS => ?_)
      have hX := Option.some.inj hX
      subst hX
      exact rt_i hx hb hr hlocks hW hS dX12_part_34
  · have hX := it_t hX c3
    refine lv_aload_n hx hb dX12_part_7 rfl (lv_at hl 0 rfl) ?_
    refine lv_iconst (v := (1 : Int32)) hx hb dX12_part_8 (by decide) ?_
    obtain ⟨r14, y15, h13, hX⟩ := bd2_go hX
    refine k_X12_fails hx hb hml hown htg hK hW hS h13 q407 hl.1 (Nat.le_of_ble_eq_true rfl) (Nat.le_of_ble_eq_true rfl) (Nat.le_of_ble_eq_true rfl) ⟨Nat.zero_le _, Nat.zero_le _⟩ dX12_part_9 (fun H locs hW hS => ?_)
    have hX := Option.some.inj hX
    subst hX
    exact rt_i hx hb hr hlocks hW hS dX12_part_12
set_option maxHeartbeats 4000000 in
theorem k_X12_part {p : Program} {l : Launch} {e : Env} {R : Room} {s : State} {m : MethodId} {args : Array Value} {below : List Frame} {meth : Method} {c : Code} {H : Heap} {locs : List Loc} {cells slots : Nat} {Q : State → Prop} {cc : ByteArray} {pc nL idx : Nat} {own : String} {ls : Array Slot} {rest : List Value} {G : Geo} {x y : Mem} {H0 : Heap} {p0 : Int32} {p1 : Int32} {v : Int32} {z : Mem} (hx : p.tables.exec = Jvm.exec) (hb : c.code = cc) (hml : c.maxLocals = nL) (hown : s.vm.findClass own = some m.cls) (htg : ∀ w ∈ wsG, w.before args s = true) (hK : Kt G s) (hW : Wh G x y H) (hS : va_S (gF G) H0 H locs) (h : m_X12_part p0 p1 y = some (v, z)) (hlk : Cond.methodLink own idx yX12_part ∈ wsG) (hn : ls.size = nL) (hr : (rest.map fun v => v.category).sum ≤ 8) (hR1 : 2 + 1 ≤ R.frames) (hR2 : 8 + (3 + 11) + 42 ≤ R.locals) (hf : cells ≤ R.cells ∧ slots ≤ R.slots) (hdg : decode cc pc = .ok (.invokevirtual idx, 3)) (kk : ∀ (H1 : Heap) (locs1 : List Loc), Wh G x z H1 → va_S (gF G) H0 H1 locs1 → W p l e R s m args below meth c H1 locs1 cells slots Q (F0 m (pc + 3) ls (.int v :: rest))) : W p l e R s m args below meth c H locs cells slots Q (F0 m pc ls (.int p1 :: .int p0 :: .ref (gA G 40 0 0) :: rest)) := by
  refine va_calli (va_runV (As := [.int p0, .int p1]) (rest := rest) ⟨hx, hb, hml, hown, htg⟩ (c_X12_part l G x y p0 p1 (v, z) h) (cwV 2 htg (gd_V hlk q525 q526 q5 q527) rfl rfl rfl (by decide +kernel) ⟨hR1, hR2⟩) ⟨fun a U g mk q => ⟨q.1, q.2.1.calling, q.2.2⟩, rc_40 hK hW, fun U hU hW9 => ⟨rfl, hK.warm hW9, by rw [hU]; exact hW⟩⟩ rfl rfl hn rfl (lv_room hr) hdg hf) hS (fun _ _ h9 => h9) (fun _ h9 => h9) ?_
  intro r9 u t H1 locs1 ht hvm hw hB hz1 hk1 hS1
  replace hB : Wh G x z t.heap := hB
  rw [ht] at hB
  replace hw : r9 = v := hw
  subst hw
  exact kk H1 locs1 hB hS1
/-! METHOD X12_skips -/
def m_X12_skips (p0 : Int32) (y : Mem) : Option (Int32 × Mem) :=
  if (y 40 0 0 52) = (y 40 0 0 51) then (some ((0 : Int32), y)) else (gd_ (y 40 0 0 52) 80 (if (y 148 0 0 (y 40 0 0 52).toNatClampNeg) = p0 then (lt_ (up4 y 40 0 0 52 ((y 40 0 0 52) + (1 : Int32))) fun y4 => some ((1 : Int32), y4)) else (some ((0 : Int32), y))))
abbrev WS_X12_skips : List Cond := .code yX12_skips cX12_skips 2 (some .boolean) :: wsG
abbrev RM_X12_skips : Room := { frames := 0, cells := 0, slots := 0, locals := 0 }
set_option maxHeartbeats 4000000 in
set_option maxRecDepth 100000 in
theorem c_X12_skips (l : Launch) (G : Geo) (x y : Mem) (p0 : Int32) (r : (Int32 × Mem)) (h : m_X12_skips p0 y = some r) : Met l yX12_skips WS_X12_skips RM_X12_skips (Pw G x y [.ref (gA G 40 0 0), .int p0]) (Qi G x r.2 r.1) 0 0 (gF G) := by
  refine Met.ofW (cc := cX12_skips) (maxL := 2) (ret := (some .boolean)) (by decide) rfl ?_
  intro p e s m args below meth c s₁ B hml hv
  obtain ⟨rfl, hK, hW⟩ := hv
  have hx := B.exec
  have hb := B.bytes
  have hr := B.returns
  have hts := atoms_spec (ws := WS_X12_skips) B.pre
  have htg : ∀ w ∈ wsG, w.before _ s = true := fun w h => hts w (List.mem_cons_of_mem _ h)
  have hown : s.vm.findClass RX12 = some m.cls := findClass_of_methodNamed B.named
  have hlocks := B.notSynchronized
  have hS : va_S (gF G) s.heap s.heap [] := va_S.rf
  have hl := lv_entry ([.ref (gA G 40 0 0), .int p0]) (n := 2) (Nat.le_of_ble_eq_true rfl)
  rw [lg_entry_eq]
  generalize (lg_sl ([.ref (gA G 40 0 0), .int p0]) ++ List.replicate (2 - (lg_sl ([.ref (gA G 40 0 0), .int p0])).length) Slot.unset).toArray = ls at hl ⊢
  have hl : lv_has ls 2 [(0, .ref (gA G 40 0 0)), (1, .int p0)] := hl
  have hX := h
  unfold m_X12_skips at hX
  refine lv_aload_n hx hb dX12_skips_0 rfl (lv_at hl 0 rfl) ?_
  refine gf_40_52 hx hb htg hown hK hW q1176 dX12_skips_1 ?_
  refine lv_aload_n hx hb dX12_skips_4 rfl (lv_at hl 0 rfl) ?_
  refine gf_40_51 hx hb htg hown hK hW q1085 dX12_skips_5 ?_
  refine lv_icmp_eq (tgt := 24) hx hb dX12_skips_8 (by decide) (fun c1 => ?_) (fun c1 => ?_)
  · have hX := it_t hX c1
    refine lv_iconst (v := (0 : Int32)) hx hb dX12_skips_24 (by decide) ?_
    have hX := Option.some.inj hX
    subst hX
    exact rt_z hx hb hr hlocks hW hS nb0 dX12_skips_25
  · have hX := it_f hX c1
    refine lv_aload_n hx hb dX12_skips_11 rfl (lv_at hl 0 rfl) ?_
    refine gf_40_48 hx hb htg hown hK hW q172 dX12_skips_12 ?_
    refine lv_aload_n hx hb dX12_skips_15 rfl (lv_at hl 0 rfl) ?_
    refine gf_40_52 hx hb htg hown hK hW q1176 dX12_skips_16 ?_
    obtain ⟨g2, hX⟩ := gd_go hX
    refine al_148 hx hb hK hW g2 dX12_skips_19 ?_
    refine lv_iload_n hx hb dX12_skips_20 rfl (lv_at hl 1 rfl) ?_
    refine lv_icmp_eq (tgt := 26) hx hb dX12_skips_21 (by decide) (fun c3 => ?_) (fun c3 => ?_)
    · have hX := it_t hX c3
      refine lv_aload_n hx hb dX12_skips_26 rfl (lv_at hl 0 rfl) ?_
      refine lv_dup hx hb dX12_skips_27 rfl ?_
      refine gf_40_52 hx hb htg hown hK hW q1176 dX12_skips_28 ?_
      refine lv_iconst (v := (1 : Int32)) hx hb dX12_skips_31 (by decide) ?_
      refine lv_iadd hx hb dX12_skips_32 ?_
      refine pf_40_52 hx hb htg hown hK hW hS q1176 dX12_skips_33 (fun H locs hW hS => ?_)
      obtain ⟨y4, e9⟩ : ∃ w : Mem, w = (up4 y 40 0 0 52 ((y 40 0 0 52) + (1 : Int32))) := ⟨_, rfl⟩
      rw [← e9] at hW
      have hX := lt_go hX e9
      refine lv_iconst (v := (1 : Int32)) hx hb dX12_skips_36 (by decide) ?_
      have hX := Option.some.inj hX
      subst hX
      exact rt_z hx hb hr hlocks hW hS nb1 dX12_skips_37
    · have hX := it_f hX c3
      refine lv_iconst (v := (0 : Int32)) hx hb dX12_skips_24 (by decide) ?_
      have hX := Option.some.inj hX
      subst hX
      exact rt_z hx hb hr hlocks hW hS nb0 dX12_skips_25
set_option maxHeartbeats 4000000 in
theorem k_X12_skips {p : Program} {l : Launch} {e : Env} {R : Room} {s : State} {m : MethodId} {args : Array Value} {below : List Frame} {meth : Method} {c : Code} {H : Heap} {locs : List Loc} {cells slots : Nat} {Q : State → Prop} {cc : ByteArray} {pc nL idx : Nat} {own : String} {ls : Array Slot} {rest : List Value} {G : Geo} {x y : Mem} {H0 : Heap} {p0 : Int32} {v : Int32} {z : Mem} (hx : p.tables.exec = Jvm.exec) (hb : c.code = cc) (hml : c.maxLocals = nL) (hown : s.vm.findClass own = some m.cls) (htg : ∀ w ∈ wsG, w.before args s = true) (hK : Kt G s) (hW : Wh G x y H) (hS : va_S (gF G) H0 H locs) (h : m_X12_skips p0 y = some (v, z)) (hlk : Cond.methodLink own idx yX12_skips ∈ wsG) (hn : ls.size = nL) (hr : (rest.map fun v => v.category).sum ≤ 8) (hR1 : 0 + 1 ≤ R.frames) (hR2 : 8 + (2 + 11) + 0 ≤ R.locals) (hf : cells ≤ R.cells ∧ slots ≤ R.slots) (hdg : decode cc pc = .ok (.invokevirtual idx, 3)) (kk : ∀ (H1 : Heap) (locs1 : List Loc), Wh G x z H1 → va_S (gF G) H0 H1 locs1 → W p l e R s m args below meth c H1 locs1 cells slots Q (F0 m (pc + 3) ls (.int v :: rest))) : W p l e R s m args below meth c H locs cells slots Q (F0 m pc ls (.int p0 :: .ref (gA G 40 0 0) :: rest)) := by
  refine va_calli (va_runV (As := [.int p0]) (rest := rest) ⟨hx, hb, hml, hown, htg⟩ (c_X12_skips l G x y p0 (v, z) h) (cwV 1 htg (gd_V hlk q1187 q1188 q5 q1189) rfl rfl rfl (by decide +kernel) ⟨hR1, hR2⟩) ⟨fun a U g mk q => ⟨q.1, q.2.1.calling, q.2.2⟩, rc_40 hK hW, fun U hU hW9 => ⟨rfl, hK.warm hW9, by rw [hU]; exact hW⟩⟩ rfl rfl hn rfl (lv_room hr) hdg hf) hS (fun _ _ h9 => h9) (fun _ h9 => h9) ?_
  intro r9 u t H1 locs1 ht hvm hw hB hz1 hk1 hS1
  replace hB : Wh G x z t.heap := hB
  rw [ht] at hB
  replace hw : r9 = v := hw
  subst hw
  exact kk H1 locs1 hB hS1
/-! METHOD X12_takes -/
def m_X12_takes (y : Mem) : Option (Int32 × Mem) :=
  if (y 40 0 0 52) = (y 40 0 0 51) then (some ((0 : Int32), y)) else (gd_ (y 40 0 0 52) 80 (bd_ (m_X12_isBetween (y 148 0 0 (y 40 0 0 52).toNatClampNeg) (48 : Int32) (57 : Int32)) fun r4 => if r4 = 0 then (some ((0 : Int32), y)) else (lt_ (up4 y 40 0 0 54 ((y 148 0 0 (y 40 0 0 52).toNatClampNeg) - (48 : Int32))) fun y6 => lt_ (up4 y6 40 0 0 52 ((y6 40 0 0 52) + (1 : Int32))) fun y7 => some ((1 : Int32), y7))))
abbrev WS_X12_takes : List Cond := .code yX12_takes cX12_takes 1 (some .boolean) :: wsG
abbrev RM_X12_takes : Room := { frames := 1, cells := 0, slots := 0, locals := 22 }
set_option maxHeartbeats 4000000 in
set_option maxRecDepth 100000 in
theorem c_X12_takes (l : Launch) (G : Geo) (x y : Mem) (r : (Int32 × Mem)) (h : m_X12_takes y = some r) : Met l yX12_takes WS_X12_takes RM_X12_takes (Pw G x y [.ref (gA G 40 0 0)]) (Qi G x r.2 r.1) 0 0 (gF G) := by
  refine Met.ofW (cc := cX12_takes) (maxL := 1) (ret := (some .boolean)) (by decide) rfl ?_
  intro p e s m args below meth c s₁ B hml hv
  obtain ⟨rfl, hK, hW⟩ := hv
  have hx := B.exec
  have hb := B.bytes
  have hr := B.returns
  have hts := atoms_spec (ws := WS_X12_takes) B.pre
  have htg : ∀ w ∈ wsG, w.before _ s = true := fun w h => hts w (List.mem_cons_of_mem _ h)
  have hown : s.vm.findClass RX12 = some m.cls := findClass_of_methodNamed B.named
  have hlocks := B.notSynchronized
  have hS : va_S (gF G) s.heap s.heap [] := va_S.rf
  have hl := lv_entry ([.ref (gA G 40 0 0)]) (n := 1) (Nat.le_of_ble_eq_true rfl)
  rw [lg_entry_eq]
  generalize (lg_sl ([.ref (gA G 40 0 0)]) ++ List.replicate (1 - (lg_sl ([.ref (gA G 40 0 0)])).length) Slot.unset).toArray = ls at hl ⊢
  have hl : lv_has ls 1 [(0, .ref (gA G 40 0 0))] := hl
  have hX := h
  unfold m_X12_takes at hX
  refine lv_aload_n hx hb dX12_takes_0 rfl (lv_at hl 0 rfl) ?_
  refine gf_40_52 hx hb htg hown hK hW q1176 dX12_takes_1 ?_
  refine lv_aload_n hx hb dX12_takes_4 rfl (lv_at hl 0 rfl) ?_
  refine gf_40_51 hx hb htg hown hK hW q1085 dX12_takes_5 ?_
  refine lv_icmp_eq (tgt := 30) hx hb dX12_takes_8 (by decide) (fun c1 => ?_) (fun c1 => ?_)
  · have hX := it_t hX c1
    refine lv_iconst (v := (0 : Int32)) hx hb dX12_takes_30 (by decide) ?_
    have hX := Option.some.inj hX
    subst hX
    exact rt_z hx hb hr hlocks hW hS nb0 dX12_takes_31
  · have hX := it_f hX c1
    refine lv_aload_n hx hb dX12_takes_11 rfl (lv_at hl 0 rfl) ?_
    refine gf_40_48 hx hb htg hown hK hW q172 dX12_takes_12 ?_
    refine lv_aload_n hx hb dX12_takes_15 rfl (lv_at hl 0 rfl) ?_
    refine gf_40_52 hx hb htg hown hK hW q1176 dX12_takes_16 ?_
    obtain ⟨g2, hX⟩ := gd_go hX
    refine al_148 hx hb hK hW g2 dX12_takes_19 ?_
    refine lv_bipush (v := (48 : Int32)) hx hb dX12_takes_20 (by decide) ?_
    refine lv_bipush (v := (57 : Int32)) hx hb dX12_takes_22 (by decide) ?_
    obtain ⟨r4, h3, hX⟩ := bd_go hX
    refine k_X12_isBetween hx hb hml hown htg hK hW hS h3 q319 hl.1 (Nat.le_of_ble_eq_true rfl) (Nat.le_of_ble_eq_true rfl) (Nat.le_of_ble_eq_true rfl) ⟨Nat.zero_le _, Nat.zero_le _⟩ dX12_takes_24 (fun H locs hW hS => ?_)
    refine lv_if_ne (tgt := 32) hx hb dX12_takes_27 (by decide) (fun c5 => ?_) (fun c5 => ?_)
    · have hX := it_f hX c5
      refine lv_aload_n hx hb dX12_takes_32 rfl (lv_at hl 0 rfl) ?_
      refine lv_aload_n hx hb dX12_takes_33 rfl (lv_at hl 0 rfl) ?_
      refine gf_40_48 hx hb htg hown hK hW q172 dX12_takes_34 ?_
      refine lv_aload_n hx hb dX12_takes_37 rfl (lv_at hl 0 rfl) ?_
      refine gf_40_52 hx hb htg hown hK hW q1176 dX12_takes_38 ?_
      refine al_148 hx hb hK hW g2 dX12_takes_41 ?_
      refine lv_bipush (v := (48 : Int32)) hx hb dX12_takes_42 (by decide) ?_
      refine lv_isub hx hb dX12_takes_44 ?_
      refine pf_40_54 hx hb htg hown hK hW hS q1198 dX12_takes_45 (fun H locs hW hS => ?_)
      obtain ⟨y6, e9⟩ : ∃ w : Mem, w = (up4 y 40 0 0 54 ((y 148 0 0 (y 40 0 0 52).toNatClampNeg) - (48 : Int32))) := ⟨_, rfl⟩
      rw [← e9] at hW
      have hX := lt_go hX e9
      refine lv_aload_n hx hb dX12_takes_48 rfl (lv_at hl 0 rfl) ?_
      refine lv_dup hx hb dX12_takes_49 rfl ?_
      refine gf_40_52 hx hb htg hown hK hW q1176 dX12_takes_50 ?_
      refine lv_iconst (v := (1 : Int32)) hx hb dX12_takes_53 (by decide) ?_
      refine lv_iadd hx hb dX12_takes_54 ?_
      refine pf_40_52 hx hb htg hown hK hW hS q1176 dX12_takes_55 (fun H locs hW hS => ?_)
      obtain ⟨y7, e9⟩ : ∃ w : Mem, w = (up4 y6 40 0 0 52 ((y6 40 0 0 52) + (1 : Int32))) := ⟨_, rfl⟩
      rw [← e9] at hW
      have hX := lt_go hX e9
      refine lv_iconst (v := (1 : Int32)) hx hb dX12_takes_58 (by decide) ?_
      have hX := Option.some.inj hX
      subst hX
      exact rt_z hx hb hr hlocks hW hS nb1 dX12_takes_59
    · have hX := it_t hX c5
      refine lv_iconst (v := (0 : Int32)) hx hb dX12_takes_30 (by decide) ?_
      have hX := Option.some.inj hX
      subst hX
      exact rt_z hx hb hr hlocks hW hS nb0 dX12_takes_31
set_option maxHeartbeats 4000000 in
theorem k_X12_takes {p : Program} {l : Launch} {e : Env} {R : Room} {s : State} {m : MethodId} {args : Array Value} {below : List Frame} {meth : Method} {c : Code} {H : Heap} {locs : List Loc} {cells slots : Nat} {Q : State → Prop} {cc : ByteArray} {pc nL idx : Nat} {own : String} {ls : Array Slot} {rest : List Value} {G : Geo} {x y : Mem} {H0 : Heap} {v : Int32} {z : Mem} (hx : p.tables.exec = Jvm.exec) (hb : c.code = cc) (hml : c.maxLocals = nL) (hown : s.vm.findClass own = some m.cls) (htg : ∀ w ∈ wsG, w.before args s = true) (hK : Kt G s) (hW : Wh G x y H) (hS : va_S (gF G) H0 H locs) (h : m_X12_takes y = some (v, z)) (hlk : Cond.methodLink own idx yX12_takes ∈ wsG) (hn : ls.size = nL) (hr : (rest.map fun v => v.category).sum ≤ 8) (hR1 : 1 + 1 ≤ R.frames) (hR2 : 8 + (1 + 11) + 22 ≤ R.locals) (hf : cells ≤ R.cells ∧ slots ≤ R.slots) (hdg : decode cc pc = .ok (.invokevirtual idx, 3)) (kk : ∀ (H1 : Heap) (locs1 : List Loc), Wh G x z H1 → va_S (gF G) H0 H1 locs1 → W p l e R s m args below meth c H1 locs1 cells slots Q (F0 m (pc + 3) ls (.int v :: rest))) : W p l e R s m args below meth c H locs cells slots Q (F0 m pc ls (.ref (gA G 40 0 0) :: rest)) := by
  refine va_calli (va_runV (As := []) (rest := rest) ⟨hx, hb, hml, hown, htg⟩ (c_X12_takes l G x y (v, z) h) (cwV 0 htg (gd_V hlk q1200 q1201 q5 q1202) rfl rfl rfl (by decide +kernel) ⟨hR1, hR2⟩) ⟨fun a U g mk q => ⟨q.1, q.2.1.calling, q.2.2⟩, rc_40 hK hW, fun U hU hW9 => ⟨rfl, hK.warm hW9, by rw [hU]; exact hW⟩⟩ rfl rfl hn rfl (lv_room hr) hdg hf) hS (fun _ _ h9 => h9) (fun _ h9 => h9) ?_
  intro r9 u t H1 locs1 ht hvm hw hB hz1 hk1 hS1
  replace hB : Wh G x z t.heap := hB
  rw [ht] at hB
  replace hw : r9 = v := hw
  subst hw
  exact kk H1 locs1 hB hS1
/-! METHOD X12_takesAt -/
def m_X12_takesAt (p0 : Int32) (y : Mem) : Option (Int32 × Mem) :=
  bd2_ (m_X12_takes y) fun r2 y3 => if r2 = 0 then (some ((0 : Int32), y3)) else (gd_ (((6 : Int32) * (y3 40 0 0 53)) + p0) 240 (lt_ (up4 y3 150 0 0 (((6 : Int32) * (y3 40 0 0 53)) + p0).toNatClampNeg (y3 40 0 0 54)) fun y6 => some ((1 : Int32), y6)))
abbrev WS_X12_takesAt : List Cond := .code yX12_takesAt cX12_takesAt 2 (some .boolean) :: wsG
abbrev RM_X12_takesAt : Room := { frames := 2, cells := 0, slots := 0, locals := 42 }
set_option maxHeartbeats 4000000 in
set_option maxRecDepth 100000 in
theorem c_X12_takesAt (l : Launch) (G : Geo) (x y : Mem) (p0 : Int32) (r : (Int32 × Mem)) (h : m_X12_takesAt p0 y = some r) : Met l yX12_takesAt WS_X12_takesAt RM_X12_takesAt (Pw G x y [.ref (gA G 40 0 0), .int p0]) (Qi G x r.2 r.1) 0 0 (gF G) := by
  refine Met.ofW (cc := cX12_takesAt) (maxL := 2) (ret := (some .boolean)) (by decide) rfl ?_
  intro p e s m args below meth c s₁ B hml hv
  obtain ⟨rfl, hK, hW⟩ := hv
  have hx := B.exec
  have hb := B.bytes
  have hr := B.returns
  have hts := atoms_spec (ws := WS_X12_takesAt) B.pre
  have htg : ∀ w ∈ wsG, w.before _ s = true := fun w h => hts w (List.mem_cons_of_mem _ h)
  have hown : s.vm.findClass RX12 = some m.cls := findClass_of_methodNamed B.named
  have hlocks := B.notSynchronized
  have hS : va_S (gF G) s.heap s.heap [] := va_S.rf
  have hl := lv_entry ([.ref (gA G 40 0 0), .int p0]) (n := 2) (Nat.le_of_ble_eq_true rfl)
  rw [lg_entry_eq]
  generalize (lg_sl ([.ref (gA G 40 0 0), .int p0]) ++ List.replicate (2 - (lg_sl ([.ref (gA G 40 0 0), .int p0])).length) Slot.unset).toArray = ls at hl ⊢
  have hl : lv_has ls 2 [(0, .ref (gA G 40 0 0)), (1, .int p0)] := hl
  have hX := h
  unfold m_X12_takesAt at hX
  refine lv_aload_n hx hb dX12_takesAt_0 rfl (lv_at hl 0 rfl) ?_
  obtain ⟨r2, y3, h1, hX⟩ := bd2_go hX
  refine k_X12_takes hx hb hml hown htg hK hW hS h1 q1199 hl.1 (Nat.le_of_ble_eq_true rfl) (Nat.le_of_ble_eq_true rfl) (Nat.le_of_ble_eq_true rfl) ⟨Nat.zero_le _, Nat.zero_le _⟩ dX12_takesAt_1 (fun H locs hW hS => ?_)
  refine lv_if_ne (tgt := 9) hx hb dX12_takesAt_4 (by decide) (fun c4 => ?_) (fun c4 => ?_)
  · have hX := it_f hX c4
    refine lv_aload_n hx hb dX12_takesAt_9 rfl (lv_at hl 0 rfl) ?_
    refine gf_40_50 hx hb htg hown hK hW q174 dX12_takesAt_10 ?_
    refine lv_bipush (v := (6 : Int32)) hx hb dX12_takesAt_13 (by decide) ?_
    refine lv_aload_n hx hb dX12_takesAt_15 rfl (lv_at hl 0 rfl) ?_
    refine gf_40_53 hx hb htg hown hK hW q1177 dX12_takesAt_16 ?_
    refine lv_imul hx hb dX12_takesAt_19 ?_
    refine lv_iload_n hx hb dX12_takesAt_20 rfl (lv_at hl 1 rfl) ?_
    refine lv_iadd hx hb dX12_takesAt_21 ?_
    refine lv_aload_n hx hb dX12_takesAt_22 rfl (lv_at hl 0 rfl) ?_
    refine gf_40_54 hx hb htg hown hK hW q1198 dX12_takesAt_23 ?_
    obtain ⟨g5, hX⟩ := gd_go hX
    refine as_150 hx hb hK hW hS g5 dX12_takesAt_26 (fun H locs hW hS => ?_)
    obtain ⟨y6, e9⟩ : ∃ w : Mem, w = (up4 y3 150 0 0 (((6 : Int32) * (y3 40 0 0 53)) + p0).toNatClampNeg (y3 40 0 0 54)) := ⟨_, rfl⟩
    rw [← e9] at hW
    have hX := lt_go hX e9
    refine lv_iconst (v := (1 : Int32)) hx hb dX12_takesAt_27 (by decide) ?_
    have hX := Option.some.inj hX
    subst hX
    exact rt_z hx hb hr hlocks hW hS nb1 dX12_takesAt_28
  · have hX := it_t hX c4
    refine lv_iconst (v := (0 : Int32)) hx hb dX12_takesAt_7 (by decide) ?_
    have hX := Option.some.inj hX
    subst hX
    exact rt_z hx hb hr hlocks hW hS nb0 dX12_takesAt_8
set_option maxHeartbeats 4000000 in
theorem k_X12_takesAt {p : Program} {l : Launch} {e : Env} {R : Room} {s : State} {m : MethodId} {args : Array Value} {below : List Frame} {meth : Method} {c : Code} {H : Heap} {locs : List Loc} {cells slots : Nat} {Q : State → Prop} {cc : ByteArray} {pc nL idx : Nat} {own : String} {ls : Array Slot} {rest : List Value} {G : Geo} {x y : Mem} {H0 : Heap} {p0 : Int32} {v : Int32} {z : Mem} (hx : p.tables.exec = Jvm.exec) (hb : c.code = cc) (hml : c.maxLocals = nL) (hown : s.vm.findClass own = some m.cls) (htg : ∀ w ∈ wsG, w.before args s = true) (hK : Kt G s) (hW : Wh G x y H) (hS : va_S (gF G) H0 H locs) (h : m_X12_takesAt p0 y = some (v, z)) (hlk : Cond.methodLink own idx yX12_takesAt ∈ wsG) (hn : ls.size = nL) (hr : (rest.map fun v => v.category).sum ≤ 8) (hR1 : 2 + 1 ≤ R.frames) (hR2 : 8 + (2 + 11) + 42 ≤ R.locals) (hf : cells ≤ R.cells ∧ slots ≤ R.slots) (hdg : decode cc pc = .ok (.invokevirtual idx, 3)) (kk : ∀ (H1 : Heap) (locs1 : List Loc), Wh G x z H1 → va_S (gF G) H0 H1 locs1 → W p l e R s m args below meth c H1 locs1 cells slots Q (F0 m (pc + 3) ls (.int v :: rest))) : W p l e R s m args below meth c H locs cells slots Q (F0 m pc ls (.int p0 :: .ref (gA G 40 0 0) :: rest)) := by
  refine va_calli (va_runV (As := [.int p0]) (rest := rest) ⟨hx, hb, hml, hown, htg⟩ (c_X12_takesAt l G x y p0 (v, z) h) (cwV 1 htg (gd_V hlk q1195 q1196 q5 q1197) rfl rfl rfl (by decide +kernel) ⟨hR1, hR2⟩) ⟨fun a U g mk q => ⟨q.1, q.2.1.calling, q.2.2⟩, rc_40 hK hW, fun U hU hW9 => ⟨rfl, hK.warm hW9, by rw [hU]; exact hW⟩⟩ rfl rfl hn rfl (lv_room hr) hdg hf) hS (fun _ _ h9 => h9) (fun _ h9 => h9) ?_
  intro r9 u t H1 locs1 ht hvm hw hB hz1 hk1 hS1
  replace hB : Wh G x z t.heap := hB
  rw [ht] at hB
  replace hw : r9 = v := hw
  subst hw
  exact kk H1 locs1 hB hS1
/-! METHOD X12_takesPath -/
def m_X12_takesPath_j59 (x1 : Int32) (y : Mem) : Option (Int32 × Mem) :=
  gd_ (((6 : Int32) * (y 40 0 0 53)) + (1 : Int32)) 240 (lt_ (up4 y 150 0 0 (((6 : Int32) * (y 40 0 0 53)) + (1 : Int32)).toNatClampNeg x1) fun y17 => some ((1 : Int32), y17))
def m_X12_takesPath_j41 (k4 : Int32 → Int32 → Mem → Option (Int32 × Mem)) (x2 : Int32) (s0 : Int32) (y : Mem) : Option (Int32 × Mem) :=
  lt_ s0 fun x1_9 => lt_ (x2 + (1 : Int32)) fun x2_10 => if (5 : Int32) ≤ x2_10 then (m_X12_takesPath_j59 x1_9 y) else (bd2_ (m_X12_skips (44 : Int32) y) fun r13 y14 => if r13 = 0 then (m_X12_takesPath_j59 x1_9 y14) else (k4 x1_9 x2_10 y14))
def m_X12_takesPath_j26 (k4 : Int32 → Int32 → Mem → Option (Int32 × Mem)) (x2 : Int32) (y : Mem) : Option (Int32 × Mem) :=
  m_X12_takesPath_j41 k4 x2 (-1 : Int32) y
def m_X12_takesPath_b4 (k4 : Int32 → Int32 → Mem → Option (Int32 × Mem)) (x1 : Int32) (x2 : Int32) (y : Mem) : Option (Int32 × Mem) :=
  bd2_ (m_X12_takes y) fun r4 y5 => if r4 = 0 then (some ((0 : Int32), y5)) else (if x1 < 0 then (m_X12_takesPath_j26 k4 x2 y5) else (if (y5 40 0 0 54) < (8 : Int32) then (m_X12_takesPath_j41 k4 x2 ((((10 : Int32) * x1) + (y5 40 0 0 54)) + (1 : Int32)) y5) else (m_X12_takesPath_j26 k4 x2 y5)))
def m_X12_takesPath_l4 : Nat → Int32 → Int32 → Mem → Option (Int32 × Mem)
  | 0, _, _, _ => none
  | n + 1, x1, x2, y => m_X12_takesPath_b4 (m_X12_takesPath_l4 n) x1 x2 y
def m_X12_takesPath (y : Mem) : Option (Int32 × Mem) :=
  lt_ (0 : Int32) fun x1_1 => lt_ (0 : Int32) fun x2_2 => m_X12_takesPath_l4 FU x1_1 x2_2 y
abbrev WS_X12_takesPath : List Cond := .code yX12_takesPath cX12_takesPath 3 (some .boolean) :: wsG
abbrev RM_X12_takesPath : Room := { frames := 2, cells := 0, slots := 0, locals := 42 }
set_option maxHeartbeats 4000000 in
set_option maxRecDepth 100000 in
theorem c_X12_takesPath (l : Launch) (G : Geo) (x y : Mem) (r : (Int32 × Mem)) (h : m_X12_takesPath y = some r) : Met l yX12_takesPath WS_X12_takesPath RM_X12_takesPath (Pw G x y [.ref (gA G 40 0 0)]) (Qi G x r.2 r.1) 0 0 (gF G) := by
  refine Met.ofW (cc := cX12_takesPath) (maxL := 3) (ret := (some .boolean)) (by decide) rfl ?_
  intro p e s m args below meth c s₁ B hml hv
  obtain ⟨rfl, hK, hW⟩ := hv
  have hx := B.exec
  have hb := B.bytes
  have hr := B.returns
  have hts := atoms_spec (ws := WS_X12_takesPath) B.pre
  have htg : ∀ w ∈ wsG, w.before _ s = true := fun w h => hts w (List.mem_cons_of_mem _ h)
  have hown : s.vm.findClass RX12 = some m.cls := findClass_of_methodNamed B.named
  have hlocks := B.notSynchronized
  have hS : va_S (gF G) s.heap s.heap [] := va_S.rf
  have hl := lv_entry ([.ref (gA G 40 0 0)]) (n := 3) (Nat.le_of_ble_eq_true rfl)
  rw [lg_entry_eq]
  generalize (lg_sl ([.ref (gA G 40 0 0)]) ++ List.replicate (3 - (lg_sl ([.ref (gA G 40 0 0)])).length) Slot.unset).toArray = ls at hl ⊢
  have hl : lv_has ls 3 [(0, .ref (gA G 40 0 0))] := hl
  have hX := h
  unfold m_X12_takesPath at hX
  have J_59 : ∀ (x1 : Int32) (y : Mem) (H : Heap) (locs : List Loc) (ls : Array Slot), Wh G x y H → va_S (gF G) s.heap H locs → lv_has ls 3 [(0, .ref (gA G 40 0 0)), (1, .int x1)] → m_X12_takesPath_j59 x1 y = some r → W p l e (headSpec WS_X12_takesPath RM_X12_takesPath).room s m ([.ref (gA G 40 0 0)] : List Value).toArray below meth c H locs 0 0 (MQ below (Qi G x r.2 r.1) ([.ref (gA G 40 0 0)] : List Value).toArray s 0 0 (gF G)) (F0 m 59 ls []) := by
    intro x1 y H locs ls hW hS hl hX
    unfold m_X12_takesPath_j59 at hX
    refine lv_aload_n hx hb dX12_takesPath_59 rfl (lv_at hl 0 rfl) ?_
    refine gf_40_50 hx hb htg hown hK hW q174 dX12_takesPath_60 ?_
    refine lv_bipush (v := (6 : Int32)) hx hb dX12_takesPath_63 (by decide) ?_
    refine lv_aload_n hx hb dX12_takesPath_65 rfl (lv_at hl 0 rfl) ?_
    refine gf_40_53 hx hb htg hown hK hW q1177 dX12_takesPath_66 ?_
    refine lv_imul hx hb dX12_takesPath_69 ?_
    refine lv_iconst (v := (1 : Int32)) hx hb dX12_takesPath_70 (by decide) ?_
    refine lv_iadd hx hb dX12_takesPath_71 ?_
    refine lv_iload_n hx hb dX12_takesPath_72 rfl (lv_at hl 1 rfl) ?_
    obtain ⟨g16, hX⟩ := gd_go hX
    refine as_150 hx hb hK hW hS g16 dX12_takesPath_73 (fun H locs hW hS => ?_)
    obtain ⟨y17, e9⟩ : ∃ w : Mem, w = (up4 y 150 0 0 (((6 : Int32) * (y 40 0 0 53)) + (1 : Int32)).toNatClampNeg x1) := ⟨_, rfl⟩
    rw [← e9] at hW
    have hX := lt_go hX e9
    refine lv_iconst (v := (1 : Int32)) hx hb dX12_takesPath_74 (by decide) ?_
    have hX := Option.some.inj hX
    subst hX
    exact rt_z hx hb hr hlocks hW hS nb1 dX12_takesPath_75
  have J_41 : ∀ (k4 : Int32 → Int32 → Mem → Option (Int32 × Mem)) (hk4 : ∀ (x1 : Int32) (x2 : Int32) (y : Mem) (H : Heap) (locs : List Loc) (ls : Array Slot), Wh G x y H → va_S (gF G) s.heap H locs → lv_has ls 3 [(0, .ref (gA G 40 0 0)), (1, .int x1), (2, .int x2)] → k4 x1 x2 y = some r → W p l e (headSpec WS_X12_takesPath RM_X12_takesPath).room s m ([.ref (gA G 40 0 0)] : List Value).toArray below meth c H locs 0 0 (MQ below (Qi G x r.2 r.1) ([.ref (gA G 40 0 0)] : List Value).toArray s 0 0 (gF G)) (F0 m 4 ls [])), ∀ (x2 : Int32) (s0 : Int32) (y : Mem) (H : Heap) (locs : List Loc) (ls : Array Slot), Wh G x y H → va_S (gF G) s.heap H locs → lv_has ls 3 [(0, .ref (gA G 40 0 0)), (2, .int x2)] → m_X12_takesPath_j41 k4 x2 s0 y = some r → W p l e (headSpec WS_X12_takesPath RM_X12_takesPath).room s m ([.ref (gA G 40 0 0)] : List Value).toArray below meth c H locs 0 0 (MQ below (Qi G x r.2 r.1) ([.ref (gA G 40 0 0)] : List Value).toArray s 0 0 (gF G)) (F0 m 41 ls [.int s0]) := by
    intro k4 hk4 x2 s0 y H locs ls hW hS hl hX
    unfold m_X12_takesPath_j41 at hX
    refine lv_topi (fun x1_9 e9 => ?_)
    have hX := lt_go hX e9
    refine lv_istore_n (lv' := [(1, .int x1_9), (0, .ref (gA G 40 0 0)), (2, .int x2)]) hx hb dX12_takesPath_41 rfl hl (by decide) rfl (fun ls hl => ?_)
    obtain ⟨x2_10, e9⟩ : ∃ w : Int32, w = (x2 + (1 : Int32)) := ⟨_, rfl⟩
    have hX := lt_go hX e9
    refine lv_iinc (v := x2_10) (lv' := [(2, .int x2_10), (1, .int x1_9), (0, .ref (gA G 40 0 0))]) hx hb dX12_takesPath_42 hl (k := 2) rfl (by rw [e9]; rfl) (by decide) rfl (fun ls hl => ?_)
    refine lv_iload_n hx hb dX12_takesPath_45 rfl (lv_at hl 0 rfl) ?_
    refine lv_iconst (v := (5 : Int32)) hx hb dX12_takesPath_46 (by decide) ?_
    refine lv_icmp_ge (tgt := 59) hx hb dX12_takesPath_47 (by decide) (fun c11 => ?_) (fun c11 => ?_)
    · have hX := it_t hX c11
      exact J_59 _ _ _ _ _ hW hS (lv_sub hl [2, 1] rfl) hX
    · have hX := it_f hX c11
      refine lv_aload_n hx hb dX12_takesPath_50 rfl (lv_at hl 2 rfl) ?_
      refine lv_bipush (v := (44 : Int32)) hx hb dX12_takesPath_51 (by decide) ?_
      obtain ⟨r13, y14, h12, hX⟩ := bd2_go hX
      refine k_X12_skips hx hb hml hown htg hK hW hS h12 q1186 hl.1 (Nat.le_of_ble_eq_true rfl) (Nat.le_of_ble_eq_true rfl) (Nat.le_of_ble_eq_true rfl) ⟨Nat.zero_le _, Nat.zero_le _⟩ dX12_takesPath_53 (fun H locs hW hS => ?_)
      refine lv_if_ne (tgt := 4) hx hb dX12_takesPath_56 (by decide) (fun c15 => ?_) (fun c15 => ?_)
      · have hX := it_f hX c15
        exact hk4 _ _ _ _ _ _ hW hS (lv_sub hl [2, 1, 0] rfl) hX
      · have hX := it_t hX c15
        exact J_59 _ _ _ _ _ hW hS (lv_sub hl [2, 1] rfl) hX
  have J_26 : ∀ (k4 : Int32 → Int32 → Mem → Option (Int32 × Mem)) (hk4 : ∀ (x1 : Int32) (x2 : Int32) (y : Mem) (H : Heap) (locs : List Loc) (ls : Array Slot), Wh G x y H → va_S (gF G) s.heap H locs → lv_has ls 3 [(0, .ref (gA G 40 0 0)), (1, .int x1), (2, .int x2)] → k4 x1 x2 y = some r → W p l e (headSpec WS_X12_takesPath RM_X12_takesPath).room s m ([.ref (gA G 40 0 0)] : List Value).toArray below meth c H locs 0 0 (MQ below (Qi G x r.2 r.1) ([.ref (gA G 40 0 0)] : List Value).toArray s 0 0 (gF G)) (F0 m 4 ls [])), ∀ (x2 : Int32) (y : Mem) (H : Heap) (locs : List Loc) (ls : Array Slot), Wh G x y H → va_S (gF G) s.heap H locs → lv_has ls 3 [(0, .ref (gA G 40 0 0)), (2, .int x2)] → m_X12_takesPath_j26 k4 x2 y = some r → W p l e (headSpec WS_X12_takesPath RM_X12_takesPath).room s m ([.ref (gA G 40 0 0)] : List Value).toArray below meth c H locs 0 0 (MQ below (Qi G x r.2 r.1) ([.ref (gA G 40 0 0)] : List Value).toArray s 0 0 (gF G)) (F0 m 26 ls []) := by
    intro k4 hk4 x2 y H locs ls hW hS hl hX
    unfold m_X12_takesPath_j26 at hX
    refine lv_iconst (v := (-1 : Int32)) hx hb dX12_takesPath_26 (by decide) ?_
    refine lv_goto (tgt := 41) hx hb dX12_takesPath_27 (by decide) ?_
    exact J_41 k4 hk4 _ _ _ _ _ _ hW hS (lv_sub hl [0, 1] rfl) hX
  have B_4 : ∀ (k4 : Int32 → Int32 → Mem → Option (Int32 × Mem)) (hk4 : ∀ (x1 : Int32) (x2 : Int32) (y : Mem) (H : Heap) (locs : List Loc) (ls : Array Slot), Wh G x y H → va_S (gF G) s.heap H locs → lv_has ls 3 [(0, .ref (gA G 40 0 0)), (1, .int x1), (2, .int x2)] → k4 x1 x2 y = some r → W p l e (headSpec WS_X12_takesPath RM_X12_takesPath).room s m ([.ref (gA G 40 0 0)] : List Value).toArray below meth c H locs 0 0 (MQ below (Qi G x r.2 r.1) ([.ref (gA G 40 0 0)] : List Value).toArray s 0 0 (gF G)) (F0 m 4 ls [])), ∀ (x1 : Int32) (x2 : Int32) (y : Mem) (H : Heap) (locs : List Loc) (ls : Array Slot), Wh G x y H → va_S (gF G) s.heap H locs → lv_has ls 3 [(0, .ref (gA G 40 0 0)), (1, .int x1), (2, .int x2)] → m_X12_takesPath_b4 k4 x1 x2 y = some r → W p l e (headSpec WS_X12_takesPath RM_X12_takesPath).room s m ([.ref (gA G 40 0 0)] : List Value).toArray below meth c H locs 0 0 (MQ below (Qi G x r.2 r.1) ([.ref (gA G 40 0 0)] : List Value).toArray s 0 0 (gF G)) (F0 m 4 ls []) := by
    intro k4 hk4 x1 x2 y H locs ls hW hS hl hX
    unfold m_X12_takesPath_b4 at hX
    refine lv_aload_n hx hb dX12_takesPath_4 rfl (lv_at hl 0 rfl) ?_
    obtain ⟨r4, y5, h3, hX⟩ := bd2_go hX
    refine k_X12_takes hx hb hml hown htg hK hW hS h3 q1199 hl.1 (Nat.le_of_ble_eq_true rfl) (Nat.le_of_ble_eq_true rfl) (Nat.le_of_ble_eq_true rfl) ⟨Nat.zero_le _, Nat.zero_le _⟩ dX12_takesPath_5 (fun H locs hW hS => ?_)
    refine lv_if_ne (tgt := 13) hx hb dX12_takesPath_8 (by decide) (fun c6 => ?_) (fun c6 => ?_)
    · have hX := it_f hX c6
      refine lv_iload_n hx hb dX12_takesPath_13 rfl (lv_at hl 1 rfl) ?_
      refine lv_if_lt (tgt := 26) hx hb dX12_takesPath_14 (by decide) (fun c7 => ?_) (fun c7 => ?_)
      · have hX := it_t hX c7
        exact J_26 k4 hk4 _ _ _ _ _ hW hS (lv_sub hl [0, 2] rfl) hX
      · have hX := it_f hX c7
        refine lv_aload_n hx hb dX12_takesPath_17 rfl (lv_at hl 0 rfl) ?_
        refine gf_40_54 hx hb htg hown hK hW q1198 dX12_takesPath_18 ?_
        refine lv_bipush (v := (8 : Int32)) hx hb dX12_takesPath_21 (by decide) ?_
        refine lv_icmp_lt (tgt := 30) hx hb dX12_takesPath_23 (by decide) (fun c8 => ?_) (fun c8 => ?_)
        · have hX := it_t hX c8
          refine lv_bipush (v := (10 : Int32)) hx hb dX12_takesPath_30 (by decide) ?_
          refine lv_iload_n hx hb dX12_takesPath_32 rfl (lv_at hl 1 rfl) ?_
          refine lv_imul hx hb dX12_takesPath_33 ?_
          refine lv_aload_n hx hb dX12_takesPath_34 rfl (lv_at hl 0 rfl) ?_
          refine gf_40_54 hx hb htg hown hK hW q1198 dX12_takesPath_35 ?_
          refine lv_iadd hx hb dX12_takesPath_38 ?_
          refine lv_iconst (v := (1 : Int32)) hx hb dX12_takesPath_39 (by decide) ?_
          refine lv_iadd hx hb dX12_takesPath_40 ?_
          exact J_41 k4 hk4 _ _ _ _ _ _ hW hS (lv_sub hl [0, 2] rfl) hX
        · have hX := it_f hX c8
          exact J_26 k4 hk4 _ _ _ _ _ hW hS (lv_sub hl [0, 2] rfl) hX
    · have hX := it_t hX c6
      refine lv_iconst (v := (0 : Int32)) hx hb dX12_takesPath_11 (by decide) ?_
      have hX := Option.some.inj hX
      subst hX
      exact rt_z hx hb hr hlocks hW hS nb0 dX12_takesPath_12
  have L_4 : ∀ (n : Nat), ∀ (x1 : Int32) (x2 : Int32) (y : Mem) (H : Heap) (locs : List Loc) (ls : Array Slot), Wh G x y H → va_S (gF G) s.heap H locs → lv_has ls 3 [(0, .ref (gA G 40 0 0)), (1, .int x1), (2, .int x2)] → m_X12_takesPath_l4 n x1 x2 y = some r → W p l e (headSpec WS_X12_takesPath RM_X12_takesPath).room s m ([.ref (gA G 40 0 0)] : List Value).toArray below meth c H locs 0 0 (MQ below (Qi G x r.2 r.1) ([.ref (gA G 40 0 0)] : List Value).toArray s 0 0 (gF G)) (F0 m 4 ls []) := by
    intro n
    induction n with
    | zero => intro x1 x2 y H locs ls hW hS hl hX; exact no_go hX
    | succ n ih => intro x1 x2 y H locs ls hW hS hl hX; exact B_4 _ ih _ _ _ _ _ _ hW hS hl hX
  refine lv_iconst (v := (0 : Int32)) hx hb dX12_takesPath_0 (by decide) ?_
  refine lv_topi (fun x1_1 e9 => ?_)
  have hX := lt_go hX e9
  refine lv_istore_n (lv' := [(1, .int x1_1), (0, .ref (gA G 40 0 0))]) hx hb dX12_takesPath_1 rfl hl (by decide) rfl (fun ls hl => ?_)
  refine lv_iconst (v := (0 : Int32)) hx hb dX12_takesPath_2 (by decide) ?_
  refine lv_topi (fun x2_2 e9 => ?_)
  have hX := lt_go hX e9
  refine lv_istore_n (lv' := [(2, .int x2_2), (1, .int x1_1), (0, .ref (gA G 40 0 0))]) hx hb dX12_takesPath_3 rfl hl (by decide) rfl (fun ls hl => ?_)
  exact L_4 FU _ _ _ _ _ _ hW hS (lv_sub hl [2, 1, 0] rfl) hX
set_option maxHeartbeats 4000000 in
theorem k_X12_takesPath {p : Program} {l : Launch} {e : Env} {R : Room} {s : State} {m : MethodId} {args : Array Value} {below : List Frame} {meth : Method} {c : Code} {H : Heap} {locs : List Loc} {cells slots : Nat} {Q : State → Prop} {cc : ByteArray} {pc nL idx : Nat} {own : String} {ls : Array Slot} {rest : List Value} {G : Geo} {x y : Mem} {H0 : Heap} {v : Int32} {z : Mem} (hx : p.tables.exec = Jvm.exec) (hb : c.code = cc) (hml : c.maxLocals = nL) (hown : s.vm.findClass own = some m.cls) (htg : ∀ w ∈ wsG, w.before args s = true) (hK : Kt G s) (hW : Wh G x y H) (hS : va_S (gF G) H0 H locs) (h : m_X12_takesPath y = some (v, z)) (hlk : Cond.methodLink own idx yX12_takesPath ∈ wsG) (hn : ls.size = nL) (hr : (rest.map fun v => v.category).sum ≤ 8) (hR1 : 2 + 1 ≤ R.frames) (hR2 : 8 + (3 + 11) + 42 ≤ R.locals) (hf : cells ≤ R.cells ∧ slots ≤ R.slots) (hdg : decode cc pc = .ok (.invokevirtual idx, 3)) (kk : ∀ (H1 : Heap) (locs1 : List Loc), Wh G x z H1 → va_S (gF G) H0 H1 locs1 → W p l e R s m args below meth c H1 locs1 cells slots Q (F0 m (pc + 3) ls (.int v :: rest))) : W p l e R s m args below meth c H locs cells slots Q (F0 m pc ls (.ref (gA G 40 0 0) :: rest)) := by
  refine va_calli (va_runV (As := []) (rest := rest) ⟨hx, hb, hml, hown, htg⟩ (c_X12_takesPath l G x y (v, z) h) (cwV 0 htg (gd_V hlk q1204 q1205 q5 q1206) rfl rfl rfl (by decide +kernel) ⟨hR1, hR2⟩) ⟨fun a U g mk q => ⟨q.1, q.2.1.calling, q.2.2⟩, rc_40 hK hW, fun U hU hW9 => ⟨rfl, hK.warm hW9, by rw [hU]; exact hW⟩⟩ rfl rfl hn rfl (lv_room hr) hdg hf) hS (fun _ _ h9 => h9) (fun _ h9 => h9) ?_
  intro r9 u t H1 locs1 ht hvm hw hB hz1 hk1 hS1
  replace hB : Wh G x z t.heap := hB
  rw [ht] at hB
  replace hw : r9 = v := hw
  subst hw
  exact kk H1 locs1 hB hS1
