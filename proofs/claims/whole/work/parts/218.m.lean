/-! METHOD X12_isZone -/
def m_X12_isZone (p0 : Int32) : Option Int32 :=
  bd_ (m_X12_isBetween p0 (0 : Int32) (7 : Int32)) fun r2 => gb_ r2 (some r2)
abbrev WS_X12_isZone : List Cond := .code yX12_isZone cX12_isZone 1 (some .boolean) :: wsG
abbrev RM_X12_isZone : Room := { frames := 1, cells := 0, slots := 0, locals := 22 }
set_option maxHeartbeats 4000000 in
set_option maxRecDepth 100000 in
theorem c_X12_isZone (l : Launch) (G : Geo) (x y : Mem) (p0 : Int32) (r : Int32) (h : m_X12_isZone p0 = some r) : Met l yX12_isZone WS_X12_isZone RM_X12_isZone (Pw G x y [.int p0]) (Qi G x y r) 0 0 (gF G) := by
  refine Met.ofW (cc := cX12_isZone) (maxL := 1) (ret := (some .boolean)) (by decide) rfl ?_
  intro p e s m args below meth c s₁ B hml hv
  obtain ⟨rfl, hK, hW⟩ := hv
  have hx := B.exec
  have hb := B.bytes
  have hr := B.returns
  have hts := atoms_spec (ws := WS_X12_isZone) B.pre
  have htg : ∀ w ∈ wsG, w.before _ s = true := fun w h => hts w (List.mem_cons_of_mem _ h)
  have hown : s.vm.findClass RX12 = some m.cls := findClass_of_methodNamed B.named
  have hlocks := B.notSynchronized
  have hS : va_S (gF G) s.heap s.heap [] := va_S.rf
  have hl := lv_entry ([.int p0]) (n := 1) (Nat.le_of_ble_eq_true rfl)
  rw [lg_entry_eq]
  generalize (lg_sl ([.int p0]) ++ List.replicate (1 - (lg_sl ([.int p0])).length) Slot.unset).toArray = ls at hl ⊢
  have hl : lv_has ls 1 [(0, .int p0)] := hl
  have hX := h
  unfold m_X12_isZone at hX
  refine lv_iload_n hx hb dX12_isZone_0 rfl (lv_at hl 0 rfl) ?_
  refine lv_iconst (v := (0 : Int32)) hx hb dX12_isZone_1 (by decide) ?_
  refine lv_bipush (v := (7 : Int32)) hx hb dX12_isZone_2 (by decide) ?_
  obtain ⟨r2, h1, hX⟩ := bd_go hX
  refine k_X12_isBetween hx hb hml hown htg hK hW hS h1 q319 hl.1 (Nat.le_of_ble_eq_true rfl) (Nat.le_of_ble_eq_true rfl) (Nat.le_of_ble_eq_true rfl) ⟨Nat.zero_le _, Nat.zero_le _⟩ dX12_isZone_4 (fun H locs hW hS => ?_)
  obtain ⟨g9, hX⟩ := gb_go hX
  have hX := Option.some.inj hX
  subst hX
  exact rt_z hx hb hr hlocks hW hS (isB_n g9) dX12_isZone_7
set_option maxHeartbeats 4000000 in
theorem k_X12_isZone {p : Program} {l : Launch} {e : Env} {R : Room} {s : State} {m : MethodId} {args : Array Value} {below : List Frame} {meth : Method} {c : Code} {H : Heap} {locs : List Loc} {cells slots : Nat} {Q : State → Prop} {cc : ByteArray} {pc nL idx : Nat} {own : String} {ls : Array Slot} {rest : List Value} {G : Geo} {x y : Mem} {H0 : Heap} {p0 : Int32} {v : Int32} (hx : p.tables.exec = Jvm.exec) (hb : c.code = cc) (hml : c.maxLocals = nL) (hown : s.vm.findClass own = some m.cls) (htg : ∀ w ∈ wsG, w.before args s = true) (hK : Kt G s) (hW : Wh G x y H) (hS : va_S (gF G) H0 H locs) (h : m_X12_isZone p0 = some v) (hlk : Cond.methodLink own idx yX12_isZone ∈ wsG) (hn : ls.size = nL) (hr : (rest.map fun v => v.category).sum ≤ 8) (hR1 : 1 + 1 ≤ R.frames) (hR2 : 8 + (1 + 11) + 22 ≤ R.locals) (hf : cells ≤ R.cells ∧ slots ≤ R.slots) (hdg : decode cc pc = .ok (.invokestatic idx, 3)) (kk : ∀ (H1 : Heap) (locs1 : List Loc), Wh G x y H1 → va_S (gF G) H0 H1 locs1 → W p l e R s m args below meth c H1 locs1 cells slots Q (F0 m (pc + 3) ls (.int v :: rest))) : W p l e R s m args below meth c H locs cells slots Q (F0 m pc ls (.int p0 :: rest)) := by
  refine va_calli (va_runS (As := [.int p0]) (rest := rest) ⟨hx, hb, hml, hown, htg⟩ (c_X12_isZone l G x y p0 v h) (va_cwS 1 htg (gd_S hlk q317 q5 q318) rfl rfl rfl (by decide +kernel) ⟨hR1, hR2⟩) ⟨fun a U g mk q => ⟨q.1, q.2.1.calling, q.2.2⟩, fun U hU hW9 => ⟨rfl, hK.warm hW9, by rw [hU]; exact hW⟩⟩ rfl rfl hn rfl (lv_room hr) hdg hf) hS (fun _ _ h9 => h9) (fun _ h9 => h9) ?_
  intro r9 u t H1 locs1 ht hvm hw hB hz1 hk1 hS1
  replace hB : Wh G x y t.heap := hB
  rw [ht] at hB
  replace hw : r9 = v := hw
  subst hw
  exact kk H1 locs1 hB hS1
/-! METHOD X12_has -/
def m_X12_has (p0 : Int32) (p1 : Int32) : Option Int32 :=
  if ((sar32 p0 p1) &&& (1 : Int32)) = (1 : Int32) then (some (1 : Int32)) else (some (0 : Int32))
abbrev WS_X12_has : List Cond := .code yX12_has cX12_has 2 (some .boolean) :: wsG
abbrev RM_X12_has : Room := { frames := 0, cells := 0, slots := 0, locals := 0 }
set_option maxHeartbeats 4000000 in
set_option maxRecDepth 100000 in
theorem c_X12_has (l : Launch) (G : Geo) (x y : Mem) (p0 : Int32) (p1 : Int32) (r : Int32) (h : m_X12_has p0 p1 = some r) : Met l yX12_has WS_X12_has RM_X12_has (Pw G x y [.int p0, .int p1]) (Qi G x y r) 0 0 (gF G) := by
  refine Met.ofW (cc := cX12_has) (maxL := 2) (ret := (some .boolean)) (by decide) rfl ?_
  intro p e s m args below meth c s₁ B hml hv
  obtain ⟨rfl, hK, hW⟩ := hv
  have hx := B.exec
  have hb := B.bytes
  have hr := B.returns
  have hts := atoms_spec (ws := WS_X12_has) B.pre
  have htg : ∀ w ∈ wsG, w.before _ s = true := fun w h => hts w (List.mem_cons_of_mem _ h)
  have hown : s.vm.findClass RX12 = some m.cls := findClass_of_methodNamed B.named
  have hlocks := B.notSynchronized
  have hS : va_S (gF G) s.heap s.heap [] := va_S.rf
  have hl := lv_entry ([.int p0, .int p1]) (n := 2) (Nat.le_of_ble_eq_true rfl)
  rw [lg_entry_eq]
  generalize (lg_sl ([.int p0, .int p1]) ++ List.replicate (2 - (lg_sl ([.int p0, .int p1])).length) Slot.unset).toArray = ls at hl ⊢
  have hl : lv_has ls 2 [(0, .int p0), (1, .int p1)] := hl
  have hX := h
  unfold m_X12_has at hX
  refine lv_iload_n hx hb dX12_has_0 rfl (lv_at hl 0 rfl) ?_
  refine lv_iload_n hx hb dX12_has_1 rfl (lv_at hl 1 rfl) ?_
  refine lv_ishr_ hx hb dX12_has_2 ?_
  refine lv_iconst (v := (1 : Int32)) hx hb dX12_has_3 (by decide) ?_
  refine lv_iand hx hb dX12_has_4 ?_
  refine lv_iconst (v := (1 : Int32)) hx hb dX12_has_5 (by decide) ?_
  refine lv_icmp_ne (tgt := 13) hx hb dX12_has_6 (by decide) (fun c1 => ?_) (fun c1 => ?_)
  · have hX := it_f hX c1
    refine lv_iconst (v := (0 : Int32)) hx hb dX12_has_13 (by decide) ?_
    have hX := Option.some.inj hX
    subst hX
    exact rt_z hx hb hr hlocks hW hS nb0 dX12_has_14
  · have hX := it_t hX c1
    refine lv_iconst (v := (1 : Int32)) hx hb dX12_has_9 (by decide) ?_
    refine lv_goto (tgt := 14) hx hb dX12_has_10 (by decide) ?_
    have hX := Option.some.inj hX
    subst hX
    exact rt_z hx hb hr hlocks hW hS nb1 dX12_has_14
set_option maxHeartbeats 4000000 in
theorem k_X12_has {p : Program} {l : Launch} {e : Env} {R : Room} {s : State} {m : MethodId} {args : Array Value} {below : List Frame} {meth : Method} {c : Code} {H : Heap} {locs : List Loc} {cells slots : Nat} {Q : State → Prop} {cc : ByteArray} {pc nL idx : Nat} {own : String} {ls : Array Slot} {rest : List Value} {G : Geo} {x y : Mem} {H0 : Heap} {p0 : Int32} {p1 : Int32} {v : Int32} (hx : p.tables.exec = Jvm.exec) (hb : c.code = cc) (hml : c.maxLocals = nL) (hown : s.vm.findClass own = some m.cls) (htg : ∀ w ∈ wsG, w.before args s = true) (hK : Kt G s) (hW : Wh G x y H) (hS : va_S (gF G) H0 H locs) (h : m_X12_has p0 p1 = some v) (hlk : Cond.methodLink own idx yX12_has ∈ wsG) (hn : ls.size = nL) (hr : (rest.map fun v => v.category).sum ≤ 8) (hR1 : 0 + 1 ≤ R.frames) (hR2 : 8 + (2 + 11) + 0 ≤ R.locals) (hf : cells ≤ R.cells ∧ slots ≤ R.slots) (hdg : decode cc pc = .ok (.invokestatic idx, 3)) (kk : ∀ (H1 : Heap) (locs1 : List Loc), Wh G x y H1 → va_S (gF G) H0 H1 locs1 → W p l e R s m args below meth c H1 locs1 cells slots Q (F0 m (pc + 3) ls (.int v :: rest))) : W p l e R s m args below meth c H locs cells slots Q (F0 m pc ls (.int p1 :: .int p0 :: rest)) := by
  refine va_calli (va_runS (As := [.int p0, .int p1]) (rest := rest) ⟨hx, hb, hml, hown, htg⟩ (c_X12_has l G x y p0 p1 v h) (va_cwS 2 htg (gd_S hlk q339 q5 q340) rfl rfl rfl (by decide +kernel) ⟨hR1, hR2⟩) ⟨fun a U g mk q => ⟨q.1, q.2.1.calling, q.2.2⟩, fun U hU hW9 => ⟨rfl, hK.warm hW9, by rw [hU]; exact hW⟩⟩ rfl rfl hn rfl (lv_room hr) hdg hf) hS (fun _ _ h9 => h9) (fun _ h9 => h9) ?_
  intro r9 u t H1 locs1 ht hvm hw hB hz1 hk1 hS1
  replace hB : Wh G x y t.heap := hB
  rw [ht] at hB
  replace hw : r9 = v := hw
  subst hw
  exact kk H1 locs1 hB hS1
/-! METHOD X12_holderOf -/
def m_X12_holderOf_b2 (p0 : Int32) (k2 : Int32 → Mem → Option Int32) (x2 : Int32) (y : Mem) : Option Int32 :=
  if (3 : Int32) ≤ x2 then (some (-1 : Int32)) else (bd_ (m_X12_holds x2 y) fun r4 => bd_ (m_X12_has r4 p0) fun r6 => if r6 = 0 then (lt_ (x2 + (1 : Int32)) fun x2_8 => k2 x2_8 y) else (some x2))
def m_X12_holderOf_l2 (p0 : Int32) : Nat → Int32 → Mem → Option Int32
  | 0, _, _ => none
  | n + 1, x2, y => m_X12_holderOf_b2 p0 (m_X12_holderOf_l2 p0 n) x2 y
def m_X12_holderOf (p0 : Int32) (y : Mem) : Option Int32 :=
  lt_ (0 : Int32) fun x2_1 => m_X12_holderOf_l2 p0 FU x2_1 y
abbrev WS_X12_holderOf : List Cond := .code yX12_holderOf cX12_holderOf 3 (some .int) :: wsG
abbrev RM_X12_holderOf : Room := { frames := 3, cells := 0, slots := 0, locals := 67 }
set_option maxHeartbeats 4000000 in
set_option maxRecDepth 100000 in
theorem c_X12_holderOf (l : Launch) (G : Geo) (x y : Mem) (p0 : Int32) (r : Int32) (h : m_X12_holderOf p0 y = some r) : Met l yX12_holderOf WS_X12_holderOf RM_X12_holderOf (Pw G x y [.ref (gA G 40 0 0), .int p0]) (Qi G x y r) 0 0 (gF G) := by
  refine Met.ofW (cc := cX12_holderOf) (maxL := 3) (ret := (some .int)) (by decide) rfl ?_
  intro p e s m args below meth c s₁ B hml hv
  obtain ⟨rfl, hK, hW⟩ := hv
  have hx := B.exec
  have hb := B.bytes
  have hr := B.returns
  have hts := atoms_spec (ws := WS_X12_holderOf) B.pre
  have htg : ∀ w ∈ wsG, w.before _ s = true := fun w h => hts w (List.mem_cons_of_mem _ h)
  have hown : s.vm.findClass RX12 = some m.cls := findClass_of_methodNamed B.named
  have hlocks := B.notSynchronized
  have hS : va_S (gF G) s.heap s.heap [] := va_S.rf
  have hl := lv_entry ([.ref (gA G 40 0 0), .int p0]) (n := 3) (Nat.le_of_ble_eq_true rfl)
  rw [lg_entry_eq]
  generalize (lg_sl ([.ref (gA G 40 0 0), .int p0]) ++ List.replicate (3 - (lg_sl ([.ref (gA G 40 0 0), .int p0])).length) Slot.unset).toArray = ls at hl ⊢
  have hl : lv_has ls 3 [(0, .ref (gA G 40 0 0)), (1, .int p0)] := hl
  have hX := h
  unfold m_X12_holderOf at hX
  have B_2 : ∀ (k2 : Int32 → Mem → Option Int32) (hk2 : ∀ (x2 : Int32) (y : Mem) (H : Heap) (locs : List Loc) (ls : Array Slot), Wh G x y H → va_S (gF G) s.heap H locs → lv_has ls 3 [(0, .ref (gA G 40 0 0)), (1, .int p0), (2, .int x2)] → k2 x2 y = some r → W p l e (headSpec WS_X12_holderOf RM_X12_holderOf).room s m ([.ref (gA G 40 0 0), .int p0] : List Value).toArray below meth c H locs 0 0 (MQ below (Qi G x y r) ([.ref (gA G 40 0 0), .int p0] : List Value).toArray s 0 0 (gF G)) (F0 m 2 ls [])), ∀ (x2 : Int32) (y : Mem) (H : Heap) (locs : List Loc) (ls : Array Slot), Wh G x y H → va_S (gF G) s.heap H locs → lv_has ls 3 [(0, .ref (gA G 40 0 0)), (1, .int p0), (2, .int x2)] → m_X12_holderOf_b2 p0 k2 x2 y = some r → W p l e (headSpec WS_X12_holderOf RM_X12_holderOf).room s m ([.ref (gA G 40 0 0), .int p0] : List Value).toArray below meth c H locs 0 0 (MQ below (Qi G x y r) ([.ref (gA G 40 0 0), .int p0] : List Value).toArray s 0 0 (gF G)) (F0 m 2 ls []) := by
    intro k2 hk2 x2 y H locs ls hW hS hl hX
    unfold m_X12_holderOf_b2 at hX
    refine lv_iload_n hx hb dX12_holderOf_2 rfl (lv_at hl 2 rfl) ?_
    refine lv_iconst (v := (3 : Int32)) hx hb dX12_holderOf_3 (by decide) ?_
    refine lv_icmp_ge (tgt := 27) hx hb dX12_holderOf_4 (by decide) (fun c2 => ?_) (fun c2 => ?_)
    · have hX := it_t hX c2
      refine lv_iconst (v := (-1 : Int32)) hx hb dX12_holderOf_27 (by decide) ?_
      have hX := Option.some.inj hX
      subst hX
      exact rt_i hx hb hr hlocks hW hS dX12_holderOf_28
    · have hX := it_f hX c2
      refine lv_aload_n hx hb dX12_holderOf_7 rfl (lv_at hl 0 rfl) ?_
      refine lv_iload_n hx hb dX12_holderOf_8 rfl (lv_at hl 2 rfl) ?_
      obtain ⟨r4, h3, hX⟩ := bd_go hX
      refine k_X12_holds hx hb hml hown htg hK hW hS h3 q326 hl.1 (Nat.le_of_ble_eq_true rfl) (Nat.le_of_ble_eq_true rfl) (Nat.le_of_ble_eq_true rfl) ⟨Nat.zero_le _, Nat.zero_le _⟩ dX12_holderOf_9 (fun H locs hW hS => ?_)
      refine lv_iload_n hx hb dX12_holderOf_12 rfl (lv_at hl 1 rfl) ?_
      obtain ⟨r6, h5, hX⟩ := bd_go hX
      refine k_X12_has hx hb hml hown htg hK hW hS h5 q338 hl.1 (Nat.le_of_ble_eq_true rfl) (Nat.le_of_ble_eq_true rfl) (Nat.le_of_ble_eq_true rfl) ⟨Nat.zero_le _, Nat.zero_le _⟩ dX12_holderOf_13 (fun H locs hW hS => ?_)
      refine lv_if_eq (tgt := 21) hx hb dX12_holderOf_16 (by decide) (fun c7 => ?_) (fun c7 => ?_)
      · have hX := it_t hX c7
        obtain ⟨x2_8, e9⟩ : ∃ w : Int32, w = (x2 + (1 : Int32)) := ⟨_, rfl⟩
        have hX := lt_go hX e9
        refine lv_iinc (v := x2_8) (lv' := [(2, .int x2_8), (0, .ref (gA G 40 0 0)), (1, .int p0)]) hx hb dX12_holderOf_21 hl (k := 2) rfl (by rw [e9]; rfl) (by decide) rfl (fun ls hl => ?_)
        refine lv_goto (tgt := 2) hx hb dX12_holderOf_24 (by decide) ?_
        exact hk2 _ _ _ _ _ hW hS (lv_sub hl [1, 2, 0] rfl) hX
      · have hX := it_f hX c7
        refine lv_iload_n hx hb dX12_holderOf_19 rfl (lv_at hl 2 rfl) ?_
        have hX := Option.some.inj hX
        subst hX
        exact rt_i hx hb hr hlocks hW hS dX12_holderOf_20
  have L_2 : ∀ (n : Nat), ∀ (x2 : Int32) (y : Mem) (H : Heap) (locs : List Loc) (ls : Array Slot), Wh G x y H → va_S (gF G) s.heap H locs → lv_has ls 3 [(0, .ref (gA G 40 0 0)), (1, .int p0), (2, .int x2)] → m_X12_holderOf_l2 p0 n x2 y = some r → W p l e (headSpec WS_X12_holderOf RM_X12_holderOf).room s m ([.ref (gA G 40 0 0), .int p0] : List Value).toArray below meth c H locs 0 0 (MQ below (Qi G x y r) ([.ref (gA G 40 0 0), .int p0] : List Value).toArray s 0 0 (gF G)) (F0 m 2 ls []) := by
    intro n
    induction n with
    | zero => intro x2 y H locs ls hW hS hl hX; exact no_go hX
    | succ n ih => intro x2 y H locs ls hW hS hl hX; exact B_2 _ ih _ _ _ _ _ hW hS hl hX
  refine lv_iconst (v := (0 : Int32)) hx hb dX12_holderOf_0 (by decide) ?_
  refine lv_topi (fun x2_1 e9 => ?_)
  have hX := lt_go hX e9
  refine lv_istore_n (lv' := [(2, .int x2_1), (0, .ref (gA G 40 0 0)), (1, .int p0)]) hx hb dX12_holderOf_1 rfl hl (by decide) rfl (fun ls hl => ?_)
  exact L_2 FU _ _ _ _ _ hW hS (lv_sub hl [1, 2, 0] rfl) hX
set_option maxHeartbeats 4000000 in
theorem k_X12_holderOf {p : Program} {l : Launch} {e : Env} {R : Room} {s : State} {m : MethodId} {args : Array Value} {below : List Frame} {meth : Method} {c : Code} {H : Heap} {locs : List Loc} {cells slots : Nat} {Q : State → Prop} {cc : ByteArray} {pc nL idx : Nat} {own : String} {ls : Array Slot} {rest : List Value} {G : Geo} {x y : Mem} {H0 : Heap} {p0 : Int32} {v : Int32} (hx : p.tables.exec = Jvm.exec) (hb : c.code = cc) (hml : c.maxLocals = nL) (hown : s.vm.findClass own = some m.cls) (htg : ∀ w ∈ wsG, w.before args s = true) (hK : Kt G s) (hW : Wh G x y H) (hS : va_S (gF G) H0 H locs) (h : m_X12_holderOf p0 y = some v) (hlk : Cond.methodLink own idx yX12_holderOf ∈ wsG) (hn : ls.size = nL) (hr : (rest.map fun v => v.category).sum ≤ 8) (hR1 : 3 + 1 ≤ R.frames) (hR2 : 8 + (3 + 11) + 67 ≤ R.locals) (hf : cells ≤ R.cells ∧ slots ≤ R.slots) (hdg : decode cc pc = .ok (.invokevirtual idx, 3)) (kk : ∀ (H1 : Heap) (locs1 : List Loc), Wh G x y H1 → va_S (gF G) H0 H1 locs1 → W p l e R s m args below meth c H1 locs1 cells slots Q (F0 m (pc + 3) ls (.int v :: rest))) : W p l e R s m args below meth c H locs cells slots Q (F0 m pc ls (.int p0 :: .ref (gA G 40 0 0) :: rest)) := by
  refine va_calli (va_runV (As := [.int p0]) (rest := rest) ⟨hx, hb, hml, hown, htg⟩ (c_X12_holderOf l G x y p0 v h) (cwV 1 htg (gd_V hlk q323 q324 q5 q325) rfl rfl rfl (by decide +kernel) ⟨hR1, hR2⟩) ⟨fun a U g mk q => ⟨q.1, q.2.1.calling, q.2.2⟩, rc_40 hK hW, fun U hU hW9 => ⟨rfl, hK.warm hW9, by rw [hU]; exact hW⟩⟩ rfl rfl hn rfl (lv_room hr) hdg hf) hS (fun _ _ h9 => h9) (fun _ h9 => h9) ?_
  intro r9 u t H1 locs1 ht hvm hw hB hz1 hk1 hS1
  replace hB : Wh G x y t.heap := hB
  rw [ht] at hB
  replace hw : r9 = v := hw
  subst hw
  exact kk H1 locs1 hB hS1
/-! METHOD X12_notLocked -/
def m_X12_notLocked (p0 : Int32) (p1 : Int32) (p2 : Int32) (y : Mem) : Option Int32 :=
  bd_ (m_X12_isZone p0) fun r2 => if r2 = 0 then (some (1 : Int32)) else (bd_ (m_X12_isZone p1) fun r5 => if r5 = 0 then (some (1 : Int32)) else (if p0 = p1 then (some (2 : Int32)) else (bd_ (m_X12_holderOf p0 y) fun r9 => lt_ r9 fun x4_10 => bd_ (m_X12_holderOf p1 y) fun r12 => lt_ r12 fun x5_13 => if p2 = 0 then (some (0 : Int32)) else (gd_ p0 8 (bd_ (m_X12_has (y 101 0 0 p0.toNatClampNeg) p1) fun r17 => if r17 = 0 then (if x4_10 < 0 then (some (0 : Int32)) else (if x5_13 < 0 then (some (0 : Int32)) else (if x4_10 = x5_13 then (some (0 : Int32)) else (some (3 : Int32))))) else (some (0 : Int32)))))))
abbrev WS_X12_notLocked : List Cond := .code yX12_notLocked cX12_notLocked 6 (some .int) :: wsG
abbrev RM_X12_notLocked : Room := { frames := 4, cells := 0, slots := 0, locals := 89 }
set_option maxHeartbeats 4000000 in
set_option maxRecDepth 100000 in
theorem c_X12_notLocked (l : Launch) (G : Geo) (x y : Mem) (p0 : Int32) (p1 : Int32) (p2 : Int32) (r : Int32) (h : m_X12_notLocked p0 p1 p2 y = some r) : Met l yX12_notLocked WS_X12_notLocked RM_X12_notLocked (Pw G x y [.ref (gA G 40 0 0), .int p0, .int p1, .int p2]) (Qi G x y r) 0 0 (gF G) := by
  refine Met.ofW (cc := cX12_notLocked) (maxL := 6) (ret := (some .int)) (by decide) rfl ?_
  intro p e s m args below meth c s₁ B hml hv
  obtain ⟨rfl, hK, hW⟩ := hv
  have hx := B.exec
  have hb := B.bytes
  have hr := B.returns
  have hts := atoms_spec (ws := WS_X12_notLocked) B.pre
  have htg : ∀ w ∈ wsG, w.before _ s = true := fun w h => hts w (List.mem_cons_of_mem _ h)
  have hown : s.vm.findClass RX12 = some m.cls := findClass_of_methodNamed B.named
  have hlocks := B.notSynchronized
  have hS : va_S (gF G) s.heap s.heap [] := va_S.rf
  have hl := lv_entry ([.ref (gA G 40 0 0), .int p0, .int p1, .int p2]) (n := 6) (Nat.le_of_ble_eq_true rfl)
  rw [lg_entry_eq]
  generalize (lg_sl ([.ref (gA G 40 0 0), .int p0, .int p1, .int p2]) ++ List.replicate (6 - (lg_sl ([.ref (gA G 40 0 0), .int p0, .int p1, .int p2])).length) Slot.unset).toArray = ls at hl ⊢
  have hl : lv_has ls 6 [(0, .ref (gA G 40 0 0)), (1, .int p0), (2, .int p1), (3, .int p2)] := hl
  have hX := h
  unfold m_X12_notLocked at hX
  refine lv_iload_n hx hb dX12_notLocked_0 rfl (lv_at hl 1 rfl) ?_
  obtain ⟨r2, h1, hX⟩ := bd_go hX
  refine k_X12_isZone hx hb hml hown htg hK hW hS h1 q316 hl.1 (Nat.le_of_ble_eq_true rfl) (Nat.le_of_ble_eq_true rfl) (Nat.le_of_ble_eq_true rfl) ⟨Nat.zero_le _, Nat.zero_le _⟩ dX12_notLocked_1 (fun H locs hW hS => ?_)
  refine lv_if_eq (tgt := 14) hx hb dX12_notLocked_4 (by decide) (fun c3 => ?_) (fun c3 => ?_)
  · have hX := it_t hX c3
    refine lv_iconst (v := (1 : Int32)) hx hb dX12_notLocked_14 (by decide) ?_
    have hX := Option.some.inj hX
    subst hX
    exact rt_i hx hb hr hlocks hW hS dX12_notLocked_15
  · have hX := it_f hX c3
    refine lv_iload_n hx hb dX12_notLocked_7 rfl (lv_at hl 2 rfl) ?_
    obtain ⟨r5, h4, hX⟩ := bd_go hX
    refine k_X12_isZone hx hb hml hown htg hK hW hS h4 q316 hl.1 (Nat.le_of_ble_eq_true rfl) (Nat.le_of_ble_eq_true rfl) (Nat.le_of_ble_eq_true rfl) ⟨Nat.zero_le _, Nat.zero_le _⟩ dX12_notLocked_8 (fun H locs hW hS => ?_)
    refine lv_if_ne (tgt := 16) hx hb dX12_notLocked_11 (by decide) (fun c6 => ?_) (fun c6 => ?_)
    · have hX := it_f hX c6
      refine lv_iload_n hx hb dX12_notLocked_16 rfl (lv_at hl 1 rfl) ?_
      refine lv_iload_n hx hb dX12_notLocked_17 rfl (lv_at hl 2 rfl) ?_
      refine lv_icmp_ne (tgt := 23) hx hb dX12_notLocked_18 (by decide) (fun c7 => ?_) (fun c7 => ?_)
      · have hX := it_f hX c7
        refine lv_aload_n hx hb dX12_notLocked_23 rfl (lv_at hl 0 rfl) ?_
        refine lv_iload_n hx hb dX12_notLocked_24 rfl (lv_at hl 1 rfl) ?_
        obtain ⟨r9, h8, hX⟩ := bd_go hX
        refine k_X12_holderOf hx hb hml hown htg hK hW hS h8 q322 hl.1 (Nat.le_of_ble_eq_true rfl) (Nat.le_of_ble_eq_true rfl) (Nat.le_of_ble_eq_true rfl) ⟨Nat.zero_le _, Nat.zero_le _⟩ dX12_notLocked_25 (fun H locs hW hS => ?_)
        refine lv_topi (fun x4_10 e9 => ?_)
        have hX := lt_go hX e9
        refine lv_istore (lv' := [(4, .int x4_10), (0, .ref (gA G 40 0 0)), (1, .int p0), (2, .int p1), (3, .int p2)]) hx hb dX12_notLocked_28 hl (by decide) rfl (fun ls hl => ?_)
        refine lv_aload_n hx hb dX12_notLocked_30 rfl (lv_at hl 1 rfl) ?_
        refine lv_iload_n hx hb dX12_notLocked_31 rfl (lv_at hl 3 rfl) ?_
        obtain ⟨r12, h11, hX⟩ := bd_go hX
        refine k_X12_holderOf hx hb hml hown htg hK hW hS h11 q322 hl.1 (Nat.le_of_ble_eq_true rfl) (Nat.le_of_ble_eq_true rfl) (Nat.le_of_ble_eq_true rfl) ⟨Nat.zero_le _, Nat.zero_le _⟩ dX12_notLocked_32 (fun H locs hW hS => ?_)
        refine lv_topi (fun x5_13 e9 => ?_)
        have hX := lt_go hX e9
        refine lv_istore (lv' := [(5, .int x5_13), (4, .int x4_10), (0, .ref (gA G 40 0 0)), (1, .int p0), (2, .int p1), (3, .int p2)]) hx hb dX12_notLocked_35 hl (by decide) rfl (fun ls hl => ?_)
        refine lv_iload_n hx hb dX12_notLocked_37 rfl (lv_at hl 5 rfl) ?_
        refine lv_if_eq (tgt := 75) hx hb dX12_notLocked_38 (by decide) (fun c14 => ?_) (fun c14 => ?_)
        · have hX := it_t hX c14
          refine lv_iconst (v := (0 : Int32)) hx hb dX12_notLocked_75 (by decide) ?_
          have hX := Option.some.inj hX
          subst hX
          exact rt_i hx hb hr hlocks hW hS dX12_notLocked_76
        · have hX := it_f hX c14
          refine lv_aload_n hx hb dX12_notLocked_41 rfl (lv_at hl 2 rfl) ?_
          refine gf_40_1 hx hb htg hown hK hW q136 dX12_notLocked_42 ?_
          refine lv_iload_n hx hb dX12_notLocked_45 rfl (lv_at hl 3 rfl) ?_
          obtain ⟨g15, hX⟩ := gd_go hX
          refine al_101 hx hb hK hW g15 dX12_notLocked_46 ?_
          refine lv_iload_n hx hb dX12_notLocked_47 rfl (lv_at hl 4 rfl) ?_
          obtain ⟨r17, h16, hX⟩ := bd_go hX
          refine k_X12_has hx hb hml hown htg hK hW hS h16 q338 hl.1 (Nat.le_of_ble_eq_true rfl) (Nat.le_of_ble_eq_true rfl) (Nat.le_of_ble_eq_true rfl) ⟨Nat.zero_le _, Nat.zero_le _⟩ dX12_notLocked_48 (fun H locs hW hS => ?_)
          refine lv_if_ne (tgt := 75) hx hb dX12_notLocked_51 (by decide) (fun c18 => ?_) (fun c18 => ?_)
          · have hX := it_f hX c18
            refine lv_iconst (v := (0 : Int32)) hx hb dX12_notLocked_75 (by decide) ?_
            have hX := Option.some.inj hX
            subst hX
            exact rt_i hx hb hr hlocks hW hS dX12_notLocked_76
          · have hX := it_t hX c18
            refine lv_iload hx hb dX12_notLocked_54 (lv_at hl 1 rfl) ?_
            refine lv_if_lt (tgt := 75) hx hb dX12_notLocked_56 (by decide) (fun c19 => ?_) (fun c19 => ?_)
            · have hX := it_t hX c19
              refine lv_iconst (v := (0 : Int32)) hx hb dX12_notLocked_75 (by decide) ?_
              have hX := Option.some.inj hX
              subst hX
              exact rt_i hx hb hr hlocks hW hS dX12_notLocked_76
            · have hX := it_f hX c19
              refine lv_iload hx hb dX12_notLocked_59 (lv_at hl 0 rfl) ?_
              refine lv_if_lt (tgt := 75) hx hb dX12_notLocked_61 (by decide) (fun c20 => ?_) (fun c20 => ?_)
              · have hX := it_t hX c20
                refine lv_iconst (v := (0 : Int32)) hx hb dX12_notLocked_75 (by decide) ?_
                have hX := Option.some.inj hX
                subst hX
                exact rt_i hx hb hr hlocks hW hS dX12_notLocked_76
              · have hX := it_f hX c20
                refine lv_iload hx hb dX12_notLocked_64 (lv_at hl 1 rfl) ?_
                refine lv_iload hx hb dX12_notLocked_66 (lv_at hl 0 rfl) ?_
                refine lv_icmp_eq (tgt := 75) hx hb dX12_notLocked_68 (by decide) (fun c21 => ?_) (fun c21 => ?_)
                · have hX := it_t hX c21
                  refine lv_iconst (v := (0 : Int32)) hx hb dX12_notLocked_75 (by decide) ?_
                  have hX := Option.some.inj hX
                  subst hX
                  exact rt_i hx hb hr hlocks hW hS dX12_notLocked_76
                · have hX := it_f hX c21
                  refine lv_iconst (v := (3 : Int32)) hx hb dX12_notLocked_71 (by decide) ?_
                  refine lv_goto (tgt := 76) hx hb dX12_notLocked_72 (by decide) ?_
                  have hX := Option.some.inj hX
                  subst hX
                  exact rt_i hx hb hr hlocks hW hS dX12_notLocked_76
      · have hX := it_t hX c7
        refine lv_iconst (v := (2 : Int32)) hx hb dX12_notLocked_21 (by decide) ?_
        have hX := Option.some.inj hX
        subst hX
        exact rt_i hx hb hr hlocks hW hS dX12_notLocked_22
    · have hX := it_t hX c6
      refine lv_iconst (v := (1 : Int32)) hx hb dX12_notLocked_14 (by decide) ?_
      have hX := Option.some.inj hX
      subst hX
      exact rt_i hx hb hr hlocks hW hS dX12_notLocked_15
set_option maxHeartbeats 4000000 in
theorem k_X12_notLocked {p : Program} {l : Launch} {e : Env} {R : Room} {s : State} {m : MethodId} {args : Array Value} {below : List Frame} {meth : Method} {c : Code} {H : Heap} {locs : List Loc} {cells slots : Nat} {Q : State → Prop} {cc : ByteArray} {pc nL idx : Nat} {own : String} {ls : Array Slot} {rest : List Value} {G : Geo} {x y : Mem} {H0 : Heap} {p0 : Int32} {p1 : Int32} {p2 : Int32} {v : Int32} (hx : p.tables.exec = Jvm.exec) (hb : c.code = cc) (hml : c.maxLocals = nL) (hown : s.vm.findClass own = some m.cls) (htg : ∀ w ∈ wsG, w.before args s = true) (hK : Kt G s) (hW : Wh G x y H) (hS : va_S (gF G) H0 H locs) (h : m_X12_notLocked p0 p1 p2 y = some v) (hlk : Cond.methodLink own idx yX12_notLocked ∈ wsG) (hn : ls.size = nL) (hr : (rest.map fun v => v.category).sum ≤ 8) (hR1 : 4 + 1 ≤ R.frames) (hR2 : 8 + (6 + 11) + 89 ≤ R.locals) (hf : cells ≤ R.cells ∧ slots ≤ R.slots) (hdg : decode cc pc = .ok (.invokevirtual idx, 3)) (kk : ∀ (H1 : Heap) (locs1 : List Loc), Wh G x y H1 → va_S (gF G) H0 H1 locs1 → W p l e R s m args below meth c H1 locs1 cells slots Q (F0 m (pc + 3) ls (.int v :: rest))) : W p l e R s m args below meth c H locs cells slots Q (F0 m pc ls (.int p2 :: .int p1 :: .int p0 :: .ref (gA G 40 0 0) :: rest)) := by
  refine va_calli (va_runV (As := [.int p0, .int p1, .int p2]) (rest := rest) ⟨hx, hb, hml, hown, htg⟩ (c_X12_notLocked l G x y p0 p1 p2 v h) (cwV 3 htg (gd_V hlk q313 q314 q5 q315) rfl rfl rfl (by decide +kernel) ⟨hR1, hR2⟩) ⟨fun a U g mk q => ⟨q.1, q.2.1.calling, q.2.2⟩, rc_40 hK hW, fun U hU hW9 => ⟨rfl, hK.warm hW9, by rw [hU]; exact hW⟩⟩ rfl rfl hn rfl (lv_room hr) hdg hf) hS (fun _ _ h9 => h9) (fun _ h9 => h9) ?_
  intro r9 u t H1 locs1 ht hvm hw hB hz1 hk1 hS1
  replace hB : Wh G x y t.heap := hB
  rw [ht] at hB
  replace hw : r9 = v := hw
  subst hw
  exact kk H1 locs1 hB hS1
/-! METHOD X12_locks -/
def m_X12_locks_j69 (p0 : Int32) (p1 : Int32) (p2 : Int32) (s0 : Int32) (s1 : Int32) (y : Mem) : Option Mem :=
  gd_ s1 8 (lt_ (up4 y 101 0 0 s1.toNatClampNeg s0) fun y10 => some y10)
def m_X12_locks_j34 (p0 : Int32) (p1 : Int32) (p2 : Int32) (s0 : Int32) (s1 : Int32) (y : Mem) : Option Mem :=
  gd_ s1 8 (lt_ (up4 y 101 0 0 s1.toNatClampNeg s0) fun y5 => if p2 = 0 then (gd_ p1 8 (m_X12_locks_j69 p0 p1 p2 ((y5 101 0 0 p1.toNatClampNeg) &&& ((shl32 (1 : Int32) p0) ^^^ (-1 : Int32))) p1 y5)) else (gd_ p1 8 (m_X12_locks_j69 p0 p1 p2 ((y5 101 0 0 p1.toNatClampNeg) ||| (shl32 (1 : Int32) p0)) p1 y5)))
def m_X12_locks (p0 : Int32) (p1 : Int32) (p2 : Int32) (y : Mem) : Option Mem :=
  if p2 = 0 then (gd_ p0 8 (m_X12_locks_j34 p0 p1 p2 ((y 101 0 0 p0.toNatClampNeg) &&& ((shl32 (1 : Int32) p1) ^^^ (-1 : Int32))) p0 y)) else (gd_ p0 8 (m_X12_locks_j34 p0 p1 p2 ((y 101 0 0 p0.toNatClampNeg) ||| (shl32 (1 : Int32) p1)) p0 y))
abbrev WS_X12_locks : List Cond := .code yX12_locks cX12_locks 4 none :: wsG
abbrev RM_X12_locks : Room := { frames := 0, cells := 0, slots := 0, locals := 0 }
set_option maxHeartbeats 4000000 in
set_option maxRecDepth 100000 in
theorem c_X12_locks (l : Launch) (G : Geo) (x y : Mem) (p0 : Int32) (p1 : Int32) (p2 : Int32) (r : Mem) (h : m_X12_locks p0 p1 p2 y = some r) : Met l yX12_locks WS_X12_locks RM_X12_locks (Pw G x y [.ref (gA G 40 0 0), .int p0, .int p1, .int p2]) (Qv G x r) 0 0 (gF G) := by
  refine Met.ofW (cc := cX12_locks) (maxL := 4) (ret := none) (by decide) rfl ?_
  intro p e s m args below meth c s₁ B hml hv
  obtain ⟨rfl, hK, hW⟩ := hv
  have hx := B.exec
  have hb := B.bytes
  have hr := B.returns
  have hts := atoms_spec (ws := WS_X12_locks) B.pre
  have htg : ∀ w ∈ wsG, w.before _ s = true := fun w h => hts w (List.mem_cons_of_mem _ h)
  have hown : s.vm.findClass RX12 = some m.cls := findClass_of_methodNamed B.named
  have hlocks := B.notSynchronized
  have hS : va_S (gF G) s.heap s.heap [] := va_S.rf
  have hl := lv_entry ([.ref (gA G 40 0 0), .int p0, .int p1, .int p2]) (n := 4) (Nat.le_of_ble_eq_true rfl)
  rw [lg_entry_eq]
  generalize (lg_sl ([.ref (gA G 40 0 0), .int p0, .int p1, .int p2]) ++ List.replicate (4 - (lg_sl ([.ref (gA G 40 0 0), .int p0, .int p1, .int p2])).length) Slot.unset).toArray = ls at hl ⊢
  have hl : lv_has ls 4 [(0, .ref (gA G 40 0 0)), (1, .int p0), (2, .int p1), (3, .int p2)] := hl
  have hX := h
  unfold m_X12_locks at hX
  have J_69 : ∀ (s0 : Int32) (s1 : Int32) (y : Mem) (H : Heap) (locs : List Loc) (ls : Array Slot), Wh G x y H → va_S (gF G) s.heap H locs → lv_has ls 4 [] → m_X12_locks_j69 p0 p1 p2 s0 s1 y = some r → W p l e (headSpec WS_X12_locks RM_X12_locks).room s m ([.ref (gA G 40 0 0), .int p0, .int p1, .int p2] : List Value).toArray below meth c H locs 0 0 (MQ below (Qv G x r) ([.ref (gA G 40 0 0), .int p0, .int p1, .int p2] : List Value).toArray s 0 0 (gF G)) (F0 m 69 ls [.int s0, .int s1, .ref (gA G 101 0 0)]) := by
    intro s0 s1 y H locs ls hW hS hl hX
    unfold m_X12_locks_j69 at hX
    obtain ⟨g9, hX⟩ := gd_go hX
    refine as_101 hx hb hK hW hS g9 dX12_locks_69 (fun H locs hW hS => ?_)
    obtain ⟨y10, e9⟩ : ∃ w : Mem, w = (up4 y 101 0 0 s1.toNatClampNeg s0) := ⟨_, rfl⟩
    rw [← e9] at hW
    have hX := lt_go hX e9
    have hX := Option.some.inj hX
    subst hX
    exact rt_v hx hb hr hlocks hW hS dX12_locks_70
  have J_34 : ∀ (s0 : Int32) (s1 : Int32) (y : Mem) (H : Heap) (locs : List Loc) (ls : Array Slot), Wh G x y H → va_S (gF G) s.heap H locs → lv_has ls 4 [(0, .ref (gA G 40 0 0)), (1, .int p0), (2, .int p1), (3, .int p2)] → m_X12_locks_j34 p0 p1 p2 s0 s1 y = some r → W p l e (headSpec WS_X12_locks RM_X12_locks).room s m ([.ref (gA G 40 0 0), .int p0, .int p1, .int p2] : List Value).toArray below meth c H locs 0 0 (MQ below (Qv G x r) ([.ref (gA G 40 0 0), .int p0, .int p1, .int p2] : List Value).toArray s 0 0 (gF G)) (F0 m 34 ls [.int s0, .int s1, .ref (gA G 101 0 0)]) := by
    intro s0 s1 y H locs ls hW hS hl hX
    unfold m_X12_locks_j34 at hX
    obtain ⟨g4, hX⟩ := gd_go hX
    refine as_101 hx hb hK hW hS g4 dX12_locks_34 (fun H locs hW hS => ?_)
    obtain ⟨y5, e9⟩ : ∃ w : Mem, w = (up4 y 101 0 0 s1.toNatClampNeg s0) := ⟨_, rfl⟩
    rw [← e9] at hW
    have hX := lt_go hX e9
    refine lv_aload_n hx hb dX12_locks_35 rfl (lv_at hl 0 rfl) ?_
    refine gf_40_1 hx hb htg hown hK hW q136 dX12_locks_36 ?_
    refine lv_iload_n hx hb dX12_locks_39 rfl (lv_at hl 2 rfl) ?_
    refine lv_iload_n hx hb dX12_locks_40 rfl (lv_at hl 3 rfl) ?_
    refine lv_if_eq (tgt := 57) hx hb dX12_locks_41 (by decide) (fun c6 => ?_) (fun c6 => ?_)
    · have hX := it_t hX c6
      refine lv_aload_n hx hb dX12_locks_57 rfl (lv_at hl 0 rfl) ?_
      refine gf_40_1 hx hb htg hown hK hW q136 dX12_locks_58 ?_
      refine lv_iload_n hx hb dX12_locks_61 rfl (lv_at hl 2 rfl) ?_
      obtain ⟨g7, hX⟩ := gd_go hX
      refine al_101 hx hb hK hW g7 dX12_locks_62 ?_
      refine lv_iconst (v := (1 : Int32)) hx hb dX12_locks_63 (by decide) ?_
      refine lv_iload_n hx hb dX12_locks_64 rfl (lv_at hl 1 rfl) ?_
      refine lv_ishl_ hx hb dX12_locks_65 ?_
      refine lv_iconst (v := (-1 : Int32)) hx hb dX12_locks_66 (by decide) ?_
      refine lv_ixor hx hb dX12_locks_67 ?_
      refine lv_iand hx hb dX12_locks_68 ?_
      exact J_69 _ _ _ _ _ _ hW hS (lv_sub hl [] rfl) hX
    · have hX := it_f hX c6
      refine lv_aload_n hx hb dX12_locks_44 rfl (lv_at hl 0 rfl) ?_
      refine gf_40_1 hx hb htg hown hK hW q136 dX12_locks_45 ?_
      refine lv_iload_n hx hb dX12_locks_48 rfl (lv_at hl 2 rfl) ?_
      obtain ⟨g8, hX⟩ := gd_go hX
      refine al_101 hx hb hK hW g8 dX12_locks_49 ?_
      refine lv_iconst (v := (1 : Int32)) hx hb dX12_locks_50 (by decide) ?_
      refine lv_iload_n hx hb dX12_locks_51 rfl (lv_at hl 1 rfl) ?_
      refine lv_ishl_ hx hb dX12_locks_52 ?_
      refine lv_ior hx hb dX12_locks_53 ?_
      refine lv_goto (tgt := 69) hx hb dX12_locks_54 (by decide) ?_
      exact J_69 _ _ _ _ _ _ hW hS (lv_sub hl [] rfl) hX
  refine lv_aload_n hx hb dX12_locks_0 rfl (lv_at hl 0 rfl) ?_
  refine gf_40_1 hx hb htg hown hK hW q136 dX12_locks_1 ?_
  refine lv_iload_n hx hb dX12_locks_4 rfl (lv_at hl 1 rfl) ?_
  refine lv_iload_n hx hb dX12_locks_5 rfl (lv_at hl 3 rfl) ?_
  refine lv_if_eq (tgt := 22) hx hb dX12_locks_6 (by decide) (fun c1 => ?_) (fun c1 => ?_)
  · have hX := it_t hX c1
    refine lv_aload_n hx hb dX12_locks_22 rfl (lv_at hl 0 rfl) ?_
    refine gf_40_1 hx hb htg hown hK hW q136 dX12_locks_23 ?_
    refine lv_iload_n hx hb dX12_locks_26 rfl (lv_at hl 1 rfl) ?_
    obtain ⟨g2, hX⟩ := gd_go hX
    refine al_101 hx hb hK hW g2 dX12_locks_27 ?_
    refine lv_iconst (v := (1 : Int32)) hx hb dX12_locks_28 (by decide) ?_
    refine lv_iload_n hx hb dX12_locks_29 rfl (lv_at hl 2 rfl) ?_
    refine lv_ishl_ hx hb dX12_locks_30 ?_
    refine lv_iconst (v := (-1 : Int32)) hx hb dX12_locks_31 (by decide) ?_
    refine lv_ixor hx hb dX12_locks_32 ?_
    refine lv_iand hx hb dX12_locks_33 ?_
    exact J_34 _ _ _ _ _ _ hW hS (lv_sub hl [0, 1, 2, 3] rfl) hX
  · have hX := it_f hX c1
    refine lv_aload_n hx hb dX12_locks_9 rfl (lv_at hl 0 rfl) ?_
    refine gf_40_1 hx hb htg hown hK hW q136 dX12_locks_10 ?_
    refine lv_iload_n hx hb dX12_locks_13 rfl (lv_at hl 1 rfl) ?_
    obtain ⟨g3, hX⟩ := gd_go hX
    refine al_101 hx hb hK hW g3 dX12_locks_14 ?_
    refine lv_iconst (v := (1 : Int32)) hx hb dX12_locks_15 (by decide) ?_
    refine lv_iload_n hx hb dX12_locks_16 rfl (lv_at hl 2 rfl) ?_
    refine lv_ishl_ hx hb dX12_locks_17 ?_
    refine lv_ior hx hb dX12_locks_18 ?_
    refine lv_goto (tgt := 34) hx hb dX12_locks_19 (by decide) ?_
    exact J_34 _ _ _ _ _ _ hW hS (lv_sub hl [0, 1, 2, 3] rfl) hX
set_option maxHeartbeats 4000000 in
theorem k_X12_locks {p : Program} {l : Launch} {e : Env} {R : Room} {s : State} {m : MethodId} {args : Array Value} {below : List Frame} {meth : Method} {c : Code} {H : Heap} {locs : List Loc} {cells slots : Nat} {Q : State → Prop} {cc : ByteArray} {pc nL idx : Nat} {own : String} {ls : Array Slot} {rest : List Value} {G : Geo} {x y : Mem} {H0 : Heap} {p0 : Int32} {p1 : Int32} {p2 : Int32} {z : Mem} (hx : p.tables.exec = Jvm.exec) (hb : c.code = cc) (hml : c.maxLocals = nL) (hown : s.vm.findClass own = some m.cls) (htg : ∀ w ∈ wsG, w.before args s = true) (hK : Kt G s) (hW : Wh G x y H) (hS : va_S (gF G) H0 H locs) (h : m_X12_locks p0 p1 p2 y = some z) (hlk : Cond.methodLink own idx yX12_locks ∈ wsG) (hn : ls.size = nL) (hr : (rest.map fun v => v.category).sum ≤ 8) (hR1 : 0 + 1 ≤ R.frames) (hR2 : 8 + (4 + 11) + 0 ≤ R.locals) (hf : cells ≤ R.cells ∧ slots ≤ R.slots) (hdg : decode cc pc = .ok (.invokevirtual idx, 3)) (kk : ∀ (H1 : Heap) (locs1 : List Loc), Wh G x z H1 → va_S (gF G) H0 H1 locs1 → W p l e R s m args below meth c H1 locs1 cells slots Q (F0 m (pc + 3) ls (rest))) : W p l e R s m args below meth c H locs cells slots Q (F0 m pc ls (.int p2 :: .int p1 :: .int p0 :: .ref (gA G 40 0 0) :: rest)) := by
  refine va_callv (va_runV (As := [.int p0, .int p1, .int p2]) (rest := rest) ⟨hx, hb, hml, hown, htg⟩ (c_X12_locks l G x y p0 p1 p2 z h) (cwV 3 htg (gd_V hlk q377 q378 q5 q379) rfl rfl rfl (by decide +kernel) ⟨hR1, hR2⟩) ⟨fun a U g mk q => ⟨q.1, q.2.1.calling, q.2.2⟩, rc_40 hK hW, fun U hU hW9 => ⟨rfl, hK.warm hW9, by rw [hU]; exact hW⟩⟩ rfl rfl hn rfl (lv_room hr) hdg hf) hS (fun _ _ h9 => h9) (fun _ h9 => h9) ?_
  intro u t H1 locs1 ht hvm hw hB hz1 hk1 hS1
  replace hB : Wh G x z t.heap := hB
  rw [ht] at hB
  exact kk H1 locs1 hB hS1
/-! METHOD X12_does -/
def m_X12_does_j230 (p0 : Int32) (x2 : Int32) (s0 : Int32) (y : Mem) : Option (Int32 × Mem) :=
  lt_ s0 fun x3_34 => gd_ x2 240 (gd_ (x2 + (1 : Int32)) 240 (bd_ (m_X12_notLocked (y 150 0 0 x2.toNatClampNeg) (y 150 0 0 (x2 + (1 : Int32)).toNatClampNeg) x3_34 y) fun r38 => if r38 ≤ 0 then (bd_ (m_X12_locks (y 150 0 0 x2.toNatClampNeg) (y 150 0 0 (x2 + (1 : Int32)).toNatClampNeg) x3_34 y) fun y42 => some ((1 : Int32), y42)) else (some ((0 : Int32), y))))
def m_X12_does_j225 (p0 : Int32) (x2 : Int32) (y : Mem) : Option (Int32 × Mem) :=
  m_X12_does_j230 p0 x2 (1 : Int32) y
def m_X12_does_b151 (p0 : Int32) (k151 : Int32 → Int32 → Mem → Option (Int32 × Mem)) (x2 : Int32) (x3 : Int32) (y : Mem) : Option (Int32 × Mem) :=
  gd_ x2 240 (if (y 150 0 0 x2.toNatClampNeg) ≤ x3 then (some ((1 : Int32), y)) else (bd_ (m_X12_ticks y) fun y47 => lt_ (x3 + (1 : Int32)) fun x3_48 => k151 x2 x3_48 y47))
def m_X12_does_l151 (p0 : Int32) : Nat → Int32 → Int32 → Mem → Option (Int32 × Mem)
  | 0, _, _, _ => none
  | n + 1, x2, x3, y => m_X12_does_b151 p0 (m_X12_does_l151 p0 n) x2 x3 y
def m_X12_does (p0 : Int32) (y : Mem) : Option (Int32 × Mem) :=
  lt_ ((6 : Int32) * p0) fun x2_1 => gd_ p0 40 (if (y 149 0 0 p0.toNatClampNeg) = 0 then (gd_ x2_1 240 (gd_ (x2_1 + (1 : Int32)) 240 (gd_ (x2_1 + (2 : Int32)) 240 (gd_ (x2_1 + (3 : Int32)) 240 (gd_ (x2_1 + (4 : Int32)) 240 (gd_ (x2_1 + (5 : Int32)) 240 (bd_ (m_X12_notGiven (y 150 0 0 x2_1.toNatClampNeg) (y 150 0 0 (x2_1 + (1 : Int32)).toNatClampNeg) (y 150 0 0 (x2_1 + (2 : Int32)).toNatClampNeg) (y 150 0 0 (x2_1 + (3 : Int32)).toNatClampNeg) (y 150 0 0 (x2_1 + (4 : Int32)).toNatClampNeg) (y 150 0 0 (x2_1 + (5 : Int32)).toNatClampNeg) y) fun r29 => if r29 ≤ 0 then (bd_ (m_X12_gives (y 150 0 0 x2_1.toNatClampNeg) (y 150 0 0 (x2_1 + (1 : Int32)).toNatClampNeg) (y 150 0 0 (x2_1 + (2 : Int32)).toNatClampNeg) (y 150 0 0 (x2_1 + (3 : Int32)).toNatClampNeg) (y 150 0 0 (x2_1 + (4 : Int32)).toNatClampNeg) (y 150 0 0 (x2_1 + (5 : Int32)).toNatClampNeg) y) fun y33 => some ((1 : Int32), y33)) else (some ((0 : Int32), y))))))))) else (if (y 149 0 0 p0.toNatClampNeg) = (1 : Int32) then (gd_ x2_1 240 (bd_ (m_X12_isBetween (y 150 0 0 x2_1.toNatClampNeg) (1 : Int32) (50 : Int32)) fun r19 => if r19 = 0 then (some ((0 : Int32), y)) else (lt_ (0 : Int32) fun x3_21 => m_X12_does_l151 p0 FU x2_1 x3_21 y))) else (gd_ x2_1 240 (bd_ (m_X12_isZone (y 150 0 0 x2_1.toNatClampNeg)) fun r7 => if r7 = 0 then (m_X12_does_j225 p0 x2_1 y) else (gd_ (x2_1 + (1 : Int32)) 240 (bd_ (m_X12_isZone (y 150 0 0 (x2_1 + (1 : Int32)).toNatClampNeg)) fun r11 => if r11 = 0 then (m_X12_does_j225 p0 x2_1 y) else (gd_ (y 150 0 0 x2_1.toNatClampNeg) 8 (bd_ (m_X12_has (y 101 0 0 (y 150 0 0 x2_1.toNatClampNeg).toNatClampNeg) (y 150 0 0 (x2_1 + (1 : Int32)).toNatClampNeg)) fun r15 => if r15 = 0 then (m_X12_does_j225 p0 x2_1 y) else (m_X12_does_j230 p0 x2_1 (0 : Int32) y)))))))))
abbrev WS_X12_does : List Cond := .code yX12_does cX12_does 4 (some .boolean) :: wsG
abbrev RM_X12_does : Room := { frames := 9, cells := 0, slots := 0, locals := 206 }
set_option maxHeartbeats 4000000 in
set_option maxRecDepth 100000 in
theorem c_X12_does (l : Launch) (G : Geo) (x y : Mem) (p0 : Int32) (r : (Int32 × Mem)) (h : m_X12_does p0 y = some r) : Met l yX12_does WS_X12_does RM_X12_does (Pw G x y [.ref (gA G 40 0 0), .int p0]) (Qi G x r.2 r.1) 0 0 (gF G) := by
  refine Met.ofW (cc := cX12_does) (maxL := 4) (ret := (some .boolean)) (by decide) rfl ?_
  intro p e s m args below meth c s₁ B hml hv
  obtain ⟨rfl, hK, hW⟩ := hv
  have hx := B.exec
  have hb := B.bytes
  have hr := B.returns
  have hts := atoms_spec (ws := WS_X12_does) B.pre
  have htg : ∀ w ∈ wsG, w.before _ s = true := fun w h => hts w (List.mem_cons_of_mem _ h)
  have hown : s.vm.findClass RX12 = some m.cls := findClass_of_methodNamed B.named
  have hlocks := B.notSynchronized
  have hS : va_S (gF G) s.heap s.heap [] := va_S.rf
  have hl := lv_entry ([.ref (gA G 40 0 0), .int p0]) (n := 4) (Nat.le_of_ble_eq_true rfl)
  rw [lg_entry_eq]
  generalize (lg_sl ([.ref (gA G 40 0 0), .int p0]) ++ List.replicate (4 - (lg_sl ([.ref (gA G 40 0 0), .int p0])).length) Slot.unset).toArray = ls at hl ⊢
  have hl : lv_has ls 4 [(0, .ref (gA G 40 0 0)), (1, .int p0)] := hl
  have hX := h
  unfold m_X12_does at hX
  have J_230 : ∀ (x2 : Int32) (s0 : Int32) (y : Mem) (H : Heap) (locs : List Loc) (ls : Array Slot), Wh G x y H → va_S (gF G) s.heap H locs → lv_has ls 4 [(0, .ref (gA G 40 0 0)), (2, .int x2)] → m_X12_does_j230 p0 x2 s0 y = some r → W p l e (headSpec WS_X12_does RM_X12_does).room s m ([.ref (gA G 40 0 0), .int p0] : List Value).toArray below meth c H locs 0 0 (MQ below (Qi G x r.2 r.1) ([.ref (gA G 40 0 0), .int p0] : List Value).toArray s 0 0 (gF G)) (F0 m 230 ls [.int s0]) := by
    intro x2 s0 y H locs ls hW hS hl hX
    unfold m_X12_does_j230 at hX
    refine lv_topi (fun x3_34 e9 => ?_)
    have hX := lt_go hX e9
    refine lv_istore_n (lv' := [(3, .int x3_34), (0, .ref (gA G 40 0 0)), (2, .int x2)]) hx hb dX12_does_230 rfl hl (by decide) rfl (fun ls hl => ?_)
    refine lv_aload_n hx hb dX12_does_231 rfl (lv_at hl 1 rfl) ?_
    refine lv_aload_n hx hb dX12_does_232 rfl (lv_at hl 1 rfl) ?_
    refine gf_40_50 hx hb htg hown hK hW q174 dX12_does_233 ?_
    refine lv_iload_n hx hb dX12_does_236 rfl (lv_at hl 2 rfl) ?_
    obtain ⟨g35, hX⟩ := gd_go hX
    refine al_150 hx hb hK hW g35 dX12_does_237 ?_
    refine lv_aload_n hx hb dX12_does_238 rfl (lv_at hl 1 rfl) ?_
    refine gf_40_50 hx hb htg hown hK hW q174 dX12_does_239 ?_
    refine lv_iload_n hx hb dX12_does_242 rfl (lv_at hl 2 rfl) ?_
    refine lv_iconst (v := (1 : Int32)) hx hb dX12_does_243 (by decide) ?_
    refine lv_iadd hx hb dX12_does_244 ?_
    obtain ⟨g36, hX⟩ := gd_go hX
    refine al_150 hx hb hK hW g36 dX12_does_245 ?_
    refine lv_iload_n hx hb dX12_does_246 rfl (lv_at hl 0 rfl) ?_
    obtain ⟨r38, h37, hX⟩ := bd_go hX
    refine k_X12_notLocked hx hb hml hown htg hK hW hS h37 q312 hl.1 (Nat.le_of_ble_eq_true rfl) (Nat.le_of_ble_eq_true rfl) (Nat.le_of_ble_eq_true rfl) ⟨Nat.zero_le _, Nat.zero_le _⟩ dX12_does_247 (fun H locs hW hS => ?_)
    refine lv_if_le (tgt := 255) hx hb dX12_does_250 (by decide) (fun c39 => ?_) (fun c39 => ?_)
    · have hX := it_t hX c39
      refine lv_aload_n hx hb dX12_does_255 rfl (lv_at hl 1 rfl) ?_
      refine lv_aload_n hx hb dX12_does_256 rfl (lv_at hl 1 rfl) ?_
      refine gf_40_50 hx hb htg hown hK hW q174 dX12_does_257 ?_
      refine lv_iload_n hx hb dX12_does_260 rfl (lv_at hl 2 rfl) ?_
      refine al_150 hx hb hK hW g35 dX12_does_261 ?_
      refine lv_aload_n hx hb dX12_does_262 rfl (lv_at hl 1 rfl) ?_
      refine gf_40_50 hx hb htg hown hK hW q174 dX12_does_263 ?_
      refine lv_iload_n hx hb dX12_does_266 rfl (lv_at hl 2 rfl) ?_
      refine lv_iconst (v := (1 : Int32)) hx hb dX12_does_267 (by decide) ?_
      refine lv_iadd hx hb dX12_does_268 ?_
      refine al_150 hx hb hK hW g36 dX12_does_269 ?_
      refine lv_iload_n hx hb dX12_does_270 rfl (lv_at hl 0 rfl) ?_
      obtain ⟨y42, h40, hX⟩ := bd_go hX
      refine k_X12_locks hx hb hml hown htg hK hW hS h40 q376 hl.1 (Nat.le_of_ble_eq_true rfl) (Nat.le_of_ble_eq_true rfl) (Nat.le_of_ble_eq_true rfl) ⟨Nat.zero_le _, Nat.zero_le _⟩ dX12_does_271 (fun H locs hW hS => ?_)
      refine lv_iconst (v := (1 : Int32)) hx hb dX12_does_274 (by decide) ?_
      have hX := Option.some.inj hX
      subst hX
      exact rt_z hx hb hr hlocks hW hS nb1 dX12_does_275
    · have hX := it_f hX c39
      refine lv_iconst (v := (0 : Int32)) hx hb dX12_does_253 (by decide) ?_
      have hX := Option.some.inj hX
      subst hX
      exact rt_z hx hb hr hlocks hW hS nb0 dX12_does_254
  have J_225 : ∀ (x2 : Int32) (y : Mem) (H : Heap) (locs : List Loc) (ls : Array Slot), Wh G x y H → va_S (gF G) s.heap H locs → lv_has ls 4 [(0, .ref (gA G 40 0 0)), (2, .int x2)] → m_X12_does_j225 p0 x2 y = some r → W p l e (headSpec WS_X12_does RM_X12_does).room s m ([.ref (gA G 40 0 0), .int p0] : List Value).toArray below meth c H locs 0 0 (MQ below (Qi G x r.2 r.1) ([.ref (gA G 40 0 0), .int p0] : List Value).toArray s 0 0 (gF G)) (F0 m 225 ls []) := by
    intro x2 y H locs ls hW hS hl hX
    unfold m_X12_does_j225 at hX
    refine lv_iconst (v := (1 : Int32)) hx hb dX12_does_225 (by decide) ?_
    refine lv_goto (tgt := 230) hx hb dX12_does_226 (by decide) ?_
    exact J_230 _ _ _ _ _ _ hW hS (lv_sub hl [0, 1] rfl) hX
  have B_151 : ∀ (k151 : Int32 → Int32 → Mem → Option (Int32 × Mem)) (hk151 : ∀ (x2 : Int32) (x3 : Int32) (y : Mem) (H : Heap) (locs : List Loc) (ls : Array Slot), Wh G x y H → va_S (gF G) s.heap H locs → lv_has ls 4 [(0, .ref (gA G 40 0 0)), (2, .int x2), (3, .int x3)] → k151 x2 x3 y = some r → W p l e (headSpec WS_X12_does RM_X12_does).room s m ([.ref (gA G 40 0 0), .int p0] : List Value).toArray below meth c H locs 0 0 (MQ below (Qi G x r.2 r.1) ([.ref (gA G 40 0 0), .int p0] : List Value).toArray s 0 0 (gF G)) (F0 m 151 ls [])), ∀ (x2 : Int32) (x3 : Int32) (y : Mem) (H : Heap) (locs : List Loc) (ls : Array Slot), Wh G x y H → va_S (gF G) s.heap H locs → lv_has ls 4 [(0, .ref (gA G 40 0 0)), (2, .int x2), (3, .int x3)] → m_X12_does_b151 p0 k151 x2 x3 y = some r → W p l e (headSpec WS_X12_does RM_X12_does).room s m ([.ref (gA G 40 0 0), .int p0] : List Value).toArray below meth c H locs 0 0 (MQ below (Qi G x r.2 r.1) ([.ref (gA G 40 0 0), .int p0] : List Value).toArray s 0 0 (gF G)) (F0 m 151 ls []) := by
    intro k151 hk151 x2 x3 y H locs ls hW hS hl hX
    unfold m_X12_does_b151 at hX
    refine lv_iload_n hx hb dX12_does_151 rfl (lv_at hl 2 rfl) ?_
    refine lv_aload_n hx hb dX12_does_152 rfl (lv_at hl 0 rfl) ?_
    refine gf_40_50 hx hb htg hown hK hW q174 dX12_does_153 ?_
    refine lv_iload_n hx hb dX12_does_156 rfl (lv_at hl 1 rfl) ?_
    obtain ⟨g43, hX⟩ := gd_go hX
    refine al_150 hx hb hK hW g43 dX12_does_157 ?_
    refine lv_icmp_ge (tgt := 171) hx hb dX12_does_158 (by decide) (fun c44 => ?_) (fun c44 => ?_)
    · have hX := it_t hX c44
      refine lv_goto (tgt := 274) hx hb dX12_does_171 (by decide) ?_
      refine lv_iconst (v := (1 : Int32)) hx hb dX12_does_274 (by decide) ?_
      have hX := Option.some.inj hX
      subst hX
      exact rt_z hx hb hr hlocks hW hS nb1 dX12_does_275
    · have hX := it_f hX c44
      refine lv_aload_n hx hb dX12_does_161 rfl (lv_at hl 0 rfl) ?_
      obtain ⟨y47, h45, hX⟩ := bd_go hX
      refine k_X12_ticks hx hb hml hown htg hK hW hS h45 q840 hl.1 (Nat.le_of_ble_eq_true rfl) (Nat.le_of_ble_eq_true rfl) (Nat.le_of_ble_eq_true rfl) ⟨Nat.zero_le _, Nat.zero_le _⟩ dX12_does_162 (fun H locs hW hS => ?_)
      obtain ⟨x3_48, e9⟩ : ∃ w : Int32, w = (x3 + (1 : Int32)) := ⟨_, rfl⟩
      have hX := lt_go hX e9
      refine lv_iinc (v := x3_48) (lv' := [(3, .int x3_48), (0, .ref (gA G 40 0 0)), (2, .int x2)]) hx hb dX12_does_165 hl (k := 2) rfl (by rw [e9]; rfl) (by decide) rfl (fun ls hl => ?_)
      refine lv_goto (tgt := 151) hx hb dX12_does_168 (by decide) ?_
      exact hk151 _ _ _ _ _ _ hW hS (lv_sub hl [1, 2, 0] rfl) hX
  have L_151 : ∀ (n : Nat), ∀ (x2 : Int32) (x3 : Int32) (y : Mem) (H : Heap) (locs : List Loc) (ls : Array Slot), Wh G x y H → va_S (gF G) s.heap H locs → lv_has ls 4 [(0, .ref (gA G 40 0 0)), (2, .int x2), (3, .int x3)] → m_X12_does_l151 p0 n x2 x3 y = some r → W p l e (headSpec WS_X12_does RM_X12_does).room s m ([.ref (gA G 40 0 0), .int p0] : List Value).toArray below meth c H locs 0 0 (MQ below (Qi G x r.2 r.1) ([.ref (gA G 40 0 0), .int p0] : List Value).toArray s 0 0 (gF G)) (F0 m 151 ls []) := by
    intro n
    induction n with
    | zero => intro x2 x3 y H locs ls hW hS hl hX; exact no_go hX
    | succ n ih => intro x2 x3 y H locs ls hW hS hl hX; exact B_151 _ ih _ _ _ _ _ _ hW hS hl hX
  refine lv_bipush (v := (6 : Int32)) hx hb dX12_does_0 (by decide) ?_
  refine lv_iload_n hx hb dX12_does_2 rfl (lv_at hl 1 rfl) ?_
  refine lv_imul hx hb dX12_does_3 ?_
  refine lv_topi (fun x2_1 e9 => ?_)
  have hX := lt_go hX e9
  refine lv_istore_n (lv' := [(2, .int x2_1), (0, .ref (gA G 40 0 0)), (1, .int p0)]) hx hb dX12_does_4 rfl hl (by decide) rfl (fun ls hl => ?_)
  refine lv_aload_n hx hb dX12_does_5 rfl (lv_at hl 1 rfl) ?_
  refine gf_40_49 hx hb htg hown hK hW q173 dX12_does_6 ?_
  refine lv_iload_n hx hb dX12_does_9 rfl (lv_at hl 2 rfl) ?_
  obtain ⟨g2, hX⟩ := gd_go hX
  refine al_149 hx hb hK hW g2 dX12_does_10 ?_
  refine lv_if_ne (tgt := 122) hx hb dX12_does_11 (by decide) (fun c3 => ?_) (fun c3 => ?_)
  · have hX := it_f hX c3
    refine lv_aload_n hx hb dX12_does_122 rfl (lv_at hl 1 rfl) ?_
    refine gf_40_49 hx hb htg hown hK hW q173 dX12_does_123 ?_
    refine lv_iload_n hx hb dX12_does_126 rfl (lv_at hl 2 rfl) ?_
    refine al_149 hx hb hK hW g2 dX12_does_127 ?_
    refine lv_iconst (v := (1 : Int32)) hx hb dX12_does_128 (by decide) ?_
    refine lv_icmp_ne (tgt := 174) hx hb dX12_does_129 (by decide) (fun c4 => ?_) (fun c4 => ?_)
    · have hX := it_f hX c4
      refine lv_aload_n hx hb dX12_does_174 rfl (lv_at hl 1 rfl) ?_
      refine gf_40_50 hx hb htg hown hK hW q174 dX12_does_175 ?_
      refine lv_iload_n hx hb dX12_does_178 rfl (lv_at hl 0 rfl) ?_
      obtain ⟨g5, hX⟩ := gd_go hX
      refine al_150 hx hb hK hW g5 dX12_does_179 ?_
      obtain ⟨r7, h6, hX⟩ := bd_go hX
      refine k_X12_isZone hx hb hml hown htg hK hW hS h6 q316 hl.1 (Nat.le_of_ble_eq_true rfl) (Nat.le_of_ble_eq_true rfl) (Nat.le_of_ble_eq_true rfl) ⟨Nat.zero_le _, Nat.zero_le _⟩ dX12_does_180 (fun H locs hW hS => ?_)
      refine lv_if_eq (tgt := 225) hx hb dX12_does_183 (by decide) (fun c8 => ?_) (fun c8 => ?_)
      · have hX := it_t hX c8
        exact J_225 _ _ _ _ _ hW hS (lv_sub hl [1, 0] rfl) hX
      · have hX := it_f hX c8
        refine lv_aload_n hx hb dX12_does_186 rfl (lv_at hl 1 rfl) ?_
        refine gf_40_50 hx hb htg hown hK hW q174 dX12_does_187 ?_
        refine lv_iload_n hx hb dX12_does_190 rfl (lv_at hl 0 rfl) ?_
        refine lv_iconst (v := (1 : Int32)) hx hb dX12_does_191 (by decide) ?_
        refine lv_iadd hx hb dX12_does_192 ?_
        obtain ⟨g9, hX⟩ := gd_go hX
        refine al_150 hx hb hK hW g9 dX12_does_193 ?_
        obtain ⟨r11, h10, hX⟩ := bd_go hX
        refine k_X12_isZone hx hb hml hown htg hK hW hS h10 q316 hl.1 (Nat.le_of_ble_eq_true rfl) (Nat.le_of_ble_eq_true rfl) (Nat.le_of_ble_eq_true rfl) ⟨Nat.zero_le _, Nat.zero_le _⟩ dX12_does_194 (fun H locs hW hS => ?_)
        refine lv_if_eq (tgt := 225) hx hb dX12_does_197 (by decide) (fun c12 => ?_) (fun c12 => ?_)
        · have hX := it_t hX c12
          exact J_225 _ _ _ _ _ hW hS (lv_sub hl [1, 0] rfl) hX
        · have hX := it_f hX c12
          refine lv_aload_n hx hb dX12_does_200 rfl (lv_at hl 1 rfl) ?_
          refine gf_40_1 hx hb htg hown hK hW q136 dX12_does_201 ?_
          refine lv_aload_n hx hb dX12_does_204 rfl (lv_at hl 1 rfl) ?_
          refine gf_40_50 hx hb htg hown hK hW q174 dX12_does_205 ?_
          refine lv_iload_n hx hb dX12_does_208 rfl (lv_at hl 0 rfl) ?_
          refine al_150 hx hb hK hW g5 dX12_does_209 ?_
          obtain ⟨g13, hX⟩ := gd_go hX
          refine al_101 hx hb hK hW g13 dX12_does_210 ?_
          refine lv_aload_n hx hb dX12_does_211 rfl (lv_at hl 1 rfl) ?_
          refine gf_40_50 hx hb htg hown hK hW q174 dX12_does_212 ?_
          refine lv_iload_n hx hb dX12_does_215 rfl (lv_at hl 0 rfl) ?_
          refine lv_iconst (v := (1 : Int32)) hx hb dX12_does_216 (by decide) ?_
          refine lv_iadd hx hb dX12_does_217 ?_
          refine al_150 hx hb hK hW g9 dX12_does_218 ?_
          obtain ⟨r15, h14, hX⟩ := bd_go hX
          refine k_X12_has hx hb hml hown htg hK hW hS h14 q338 hl.1 (Nat.le_of_ble_eq_true rfl) (Nat.le_of_ble_eq_true rfl) (Nat.le_of_ble_eq_true rfl) ⟨Nat.zero_le _, Nat.zero_le _⟩ dX12_does_219 (fun H locs hW hS => ?_)
          refine lv_if_ne (tgt := 229) hx hb dX12_does_222 (by decide) (fun c16 => ?_) (fun c16 => ?_)
          · have hX := it_f hX c16
            refine lv_iconst (v := (0 : Int32)) hx hb dX12_does_229 (by decide) ?_
            exact J_230 _ _ _ _ _ _ hW hS (lv_sub hl [1, 0] rfl) hX
          · have hX := it_t hX c16
            exact J_225 _ _ _ _ _ hW hS (lv_sub hl [1, 0] rfl) hX
    · have hX := it_t hX c4
      refine lv_aload_n hx hb dX12_does_132 rfl (lv_at hl 1 rfl) ?_
      refine gf_40_50 hx hb htg hown hK hW q174 dX12_does_133 ?_
      refine lv_iload_n hx hb dX12_does_136 rfl (lv_at hl 0 rfl) ?_
      obtain ⟨g17, hX⟩ := gd_go hX
      refine al_150 hx hb hK hW g17 dX12_does_137 ?_
      refine lv_iconst (v := (1 : Int32)) hx hb dX12_does_138 (by decide) ?_
      refine lv_bipush (v := (50 : Int32)) hx hb dX12_does_139 (by decide) ?_
      obtain ⟨r19, h18, hX⟩ := bd_go hX
      refine k_X12_isBetween hx hb hml hown htg hK hW hS h18 q319 hl.1 (Nat.le_of_ble_eq_true rfl) (Nat.le_of_ble_eq_true rfl) (Nat.le_of_ble_eq_true rfl) ⟨Nat.zero_le _, Nat.zero_le _⟩ dX12_does_141 (fun H locs hW hS => ?_)
      refine lv_if_ne (tgt := 149) hx hb dX12_does_144 (by decide) (fun c20 => ?_) (fun c20 => ?_)
      · have hX := it_f hX c20
        refine lv_iconst (v := (0 : Int32)) hx hb dX12_does_149 (by decide) ?_
        refine lv_topi (fun x3_21 e9 => ?_)
        have hX := lt_go hX e9
        refine lv_istore_n (lv' := [(3, .int x3_21), (2, .int x2_1), (0, .ref (gA G 40 0 0)), (1, .int p0)]) hx hb dX12_does_150 rfl hl (by decide) rfl (fun ls hl => ?_)
        exact L_151 FU _ _ _ _ _ _ hW hS (lv_sub hl [2, 1, 0] rfl) hX
      · have hX := it_t hX c20
        refine lv_iconst (v := (0 : Int32)) hx hb dX12_does_147 (by decide) ?_
        have hX := Option.some.inj hX
        subst hX
        exact rt_z hx hb hr hlocks hW hS nb0 dX12_does_148
  · have hX := it_t hX c3
    refine lv_aload_n hx hb dX12_does_14 rfl (lv_at hl 1 rfl) ?_
    refine lv_aload_n hx hb dX12_does_15 rfl (lv_at hl 1 rfl) ?_
    refine gf_40_50 hx hb htg hown hK hW q174 dX12_does_16 ?_
    refine lv_iload_n hx hb dX12_does_19 rfl (lv_at hl 0 rfl) ?_
    obtain ⟨g22, hX⟩ := gd_go hX
    refine al_150 hx hb hK hW g22 dX12_does_20 ?_
    refine lv_aload_n hx hb dX12_does_21 rfl (lv_at hl 1 rfl) ?_
    refine gf_40_50 hx hb htg hown hK hW q174 dX12_does_22 ?_
    refine lv_iload_n hx hb dX12_does_25 rfl (lv_at hl 0 rfl) ?_
    refine lv_iconst (v := (1 : Int32)) hx hb dX12_does_26 (by decide) ?_
    refine lv_iadd hx hb dX12_does_27 ?_
    obtain ⟨g23, hX⟩ := gd_go hX
    refine al_150 hx hb hK hW g23 dX12_does_28 ?_
    refine lv_aload_n hx hb dX12_does_29 rfl (lv_at hl 1 rfl) ?_
    refine gf_40_50 hx hb htg hown hK hW q174 dX12_does_30 ?_
    refine lv_iload_n hx hb dX12_does_33 rfl (lv_at hl 0 rfl) ?_
    refine lv_iconst (v := (2 : Int32)) hx hb dX12_does_34 (by decide) ?_
    refine lv_iadd hx hb dX12_does_35 ?_
    obtain ⟨g24, hX⟩ := gd_go hX
    refine al_150 hx hb hK hW g24 dX12_does_36 ?_
    refine lv_aload_n hx hb dX12_does_37 rfl (lv_at hl 1 rfl) ?_
    refine gf_40_50 hx hb htg hown hK hW q174 dX12_does_38 ?_
    refine lv_iload_n hx hb dX12_does_41 rfl (lv_at hl 0 rfl) ?_
    refine lv_iconst (v := (3 : Int32)) hx hb dX12_does_42 (by decide) ?_
    refine lv_iadd hx hb dX12_does_43 ?_
    obtain ⟨g25, hX⟩ := gd_go hX
    refine al_150 hx hb hK hW g25 dX12_does_44 ?_
    refine lv_aload_n hx hb dX12_does_45 rfl (lv_at hl 1 rfl) ?_
    refine gf_40_50 hx hb htg hown hK hW q174 dX12_does_46 ?_
    refine lv_iload_n hx hb dX12_does_49 rfl (lv_at hl 0 rfl) ?_
    refine lv_iconst (v := (4 : Int32)) hx hb dX12_does_50 (by decide) ?_
    refine lv_iadd hx hb dX12_does_51 ?_
    obtain ⟨g26, hX⟩ := gd_go hX
    refine al_150 hx hb hK hW g26 dX12_does_52 ?_
    refine lv_aload_n hx hb dX12_does_53 rfl (lv_at hl 1 rfl) ?_
    refine gf_40_50 hx hb htg hown hK hW q174 dX12_does_54 ?_
    refine lv_iload_n hx hb dX12_does_57 rfl (lv_at hl 0 rfl) ?_
    refine lv_iconst (v := (5 : Int32)) hx hb dX12_does_58 (by decide) ?_
    refine lv_iadd hx hb dX12_does_59 ?_
    obtain ⟨g27, hX⟩ := gd_go hX
    refine al_150 hx hb hK hW g27 dX12_does_60 ?_
    obtain ⟨r29, h28, hX⟩ := bd_go hX
    refine k_X12_notGiven hx hb hml hown htg hK hW hS h28 q569 hl.1 (Nat.le_of_ble_eq_true rfl) (Nat.le_of_ble_eq_true rfl) (Nat.le_of_ble_eq_true rfl) ⟨Nat.zero_le _, Nat.zero_le _⟩ dX12_does_61 (fun H locs hW hS => ?_)
    refine lv_if_le (tgt := 69) hx hb dX12_does_64 (by decide) (fun c30 => ?_) (fun c30 => ?_)
    · have hX := it_t hX c30
      refine lv_aload_n hx hb dX12_does_69 rfl (lv_at hl 1 rfl) ?_
      refine lv_aload_n hx hb dX12_does_70 rfl (lv_at hl 1 rfl) ?_
      refine gf_40_50 hx hb htg hown hK hW q174 dX12_does_71 ?_
      refine lv_iload_n hx hb dX12_does_74 rfl (lv_at hl 0 rfl) ?_
      refine al_150 hx hb hK hW g22 dX12_does_75 ?_
      refine lv_aload_n hx hb dX12_does_76 rfl (lv_at hl 1 rfl) ?_
      refine gf_40_50 hx hb htg hown hK hW q174 dX12_does_77 ?_
      refine lv_iload_n hx hb dX12_does_80 rfl (lv_at hl 0 rfl) ?_
      refine lv_iconst (v := (1 : Int32)) hx hb dX12_does_81 (by decide) ?_
      refine lv_iadd hx hb dX12_does_82 ?_
      refine al_150 hx hb hK hW g23 dX12_does_83 ?_
      refine lv_aload_n hx hb dX12_does_84 rfl (lv_at hl 1 rfl) ?_
      refine gf_40_50 hx hb htg hown hK hW q174 dX12_does_85 ?_
      refine lv_iload_n hx hb dX12_does_88 rfl (lv_at hl 0 rfl) ?_
      refine lv_iconst (v := (2 : Int32)) hx hb dX12_does_89 (by decide) ?_
      refine lv_iadd hx hb dX12_does_90 ?_
      refine al_150 hx hb hK hW g24 dX12_does_91 ?_
      refine lv_aload_n hx hb dX12_does_92 rfl (lv_at hl 1 rfl) ?_
      refine gf_40_50 hx hb htg hown hK hW q174 dX12_does_93 ?_
      refine lv_iload_n hx hb dX12_does_96 rfl (lv_at hl 0 rfl) ?_
      refine lv_iconst (v := (3 : Int32)) hx hb dX12_does_97 (by decide) ?_
      refine lv_iadd hx hb dX12_does_98 ?_
      refine al_150 hx hb hK hW g25 dX12_does_99 ?_
      refine lv_aload_n hx hb dX12_does_100 rfl (lv_at hl 1 rfl) ?_
      refine gf_40_50 hx hb htg hown hK hW q174 dX12_does_101 ?_
      refine lv_iload_n hx hb dX12_does_104 rfl (lv_at hl 0 rfl) ?_
      refine lv_iconst (v := (4 : Int32)) hx hb dX12_does_105 (by decide) ?_
      refine lv_iadd hx hb dX12_does_106 ?_
      refine al_150 hx hb hK hW g26 dX12_does_107 ?_
      refine lv_aload_n hx hb dX12_does_108 rfl (lv_at hl 1 rfl) ?_
      refine gf_40_50 hx hb htg hown hK hW q174 dX12_does_109 ?_
      refine lv_iload_n hx hb dX12_does_112 rfl (lv_at hl 0 rfl) ?_
      refine lv_iconst (v := (5 : Int32)) hx hb dX12_does_113 (by decide) ?_
      refine lv_iadd hx hb dX12_does_114 ?_
      refine al_150 hx hb hK hW g27 dX12_does_115 ?_
      obtain ⟨y33, h31, hX⟩ := bd_go hX
      refine k_X12_gives hx hb hml hown htg hK hW hS h31 q579 hl.1 (Nat.le_of_ble_eq_true rfl) (Nat.le_of_ble_eq_true rfl) (Nat.le_of_ble_eq_true rfl) ⟨Nat.zero_le _, Nat.zero_le _⟩ dX12_does_116 (fun H locs hW hS => ?_)
      refine lv_goto (tgt := 274) hx hb dX12_does_119 (by decide) ?_
      refine lv_iconst (v := (1 : Int32)) hx hb dX12_does_274 (by decide) ?_
      have hX := Option.some.inj hX
      subst hX
      exact rt_z hx hb hr hlocks hW hS nb1 dX12_does_275
    · have hX := it_f hX c30
      refine lv_iconst (v := (0 : Int32)) hx hb dX12_does_67 (by decide) ?_
      have hX := Option.some.inj hX
      subst hX
      exact rt_z hx hb hr hlocks hW hS nb0 dX12_does_68
set_option maxHeartbeats 4000000 in
theorem k_X12_does {p : Program} {l : Launch} {e : Env} {R : Room} {s : State} {m : MethodId} {args : Array Value} {below : List Frame} {meth : Method} {c : Code} {H : Heap} {locs : List Loc} {cells slots : Nat} {Q : State → Prop} {cc : ByteArray} {pc nL idx : Nat} {own : String} {ls : Array Slot} {rest : List Value} {G : Geo} {x y : Mem} {H0 : Heap} {p0 : Int32} {v : Int32} {z : Mem} (hx : p.tables.exec = Jvm.exec) (hb : c.code = cc) (hml : c.maxLocals = nL) (hown : s.vm.findClass own = some m.cls) (htg : ∀ w ∈ wsG, w.before args s = true) (hK : Kt G s) (hW : Wh G x y H) (hS : va_S (gF G) H0 H locs) (h : m_X12_does p0 y = some (v, z)) (hlk : Cond.methodLink own idx yX12_does ∈ wsG) (hn : ls.size = nL) (hr : (rest.map fun v => v.category).sum ≤ 8) (hR1 : 9 + 1 ≤ R.frames) (hR2 : 8 + (4 + 11) + 206 ≤ R.locals) (hf : cells ≤ R.cells ∧ slots ≤ R.slots) (hdg : decode cc pc = .ok (.invokevirtual idx, 3)) (kk : ∀ (H1 : Heap) (locs1 : List Loc), Wh G x z H1 → va_S (gF G) H0 H1 locs1 → W p l e R s m args below meth c H1 locs1 cells slots Q (F0 m (pc + 3) ls (.int v :: rest))) : W p l e R s m args below meth c H locs cells slots Q (F0 m pc ls (.int p0 :: .ref (gA G 40 0 0) :: rest)) := by
  refine va_calli (va_runV (As := [.int p0]) (rest := rest) ⟨hx, hb, hml, hown, htg⟩ (c_X12_does l G x y p0 (v, z) h) (cwV 1 htg (gd_V hlk q1212 q1213 q5 q1214) rfl rfl rfl (by decide +kernel) ⟨hR1, hR2⟩) ⟨fun a U g mk q => ⟨q.1, q.2.1.calling, q.2.2⟩, rc_40 hK hW, fun U hU hW9 => ⟨rfl, hK.warm hW9, by rw [hU]; exact hW⟩⟩ rfl rfl hn rfl (lv_room hr) hdg hf) hS (fun _ _ h9 => h9) (fun _ h9 => h9) ?_
  intro r9 u t H1 locs1 ht hvm hw hB hz1 hk1 hS1
  replace hB : Wh G x z t.heap := hB
  rw [ht] at hB
  replace hw : r9 = v := hw
  subst hw
  exact kk H1 locs1 hB hS1
