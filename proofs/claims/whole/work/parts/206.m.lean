/-! METHOD X1_heldByOthers -/
def m_X1_heldByOthers_j28 (p0 : Fin 10) (p1 : Fin 10 × Fin 4) (k4 : Int32 → Int32 → Mem → Option Int32) (x2 : Int32) (x3 : Int32) (x : Mem) : Option Int32 :=
  lt_ (x3 + (1 : Int32)) fun x3_8 => k4 x2 x3_8 x
def m_X1_heldByOthers_b4 (p0 : Fin 10) (p1 : Fin 10 × Fin 4) (k4 : Int32 → Int32 → Mem → Option Int32) (x2 : Int32) (x3 : Int32) (x : Mem) : Option Int32 :=
  if (3 : Int32) ≤ x3 then (some x2) else (if x3 = (x 0 ↑p1.1 ↑p1.2 0) then (m_X1_heldByOthers_j28 p0 p1 k4 x2 x3 x) else (bd_ (m_X1_armAt p0 x3) fun r6 => lt_ (x2 ||| (x 0 ↑r6.1 ↑r6.2 6)) fun x2_7 => m_X1_heldByOthers_j28 p0 p1 k4 x2_7 x3 x))
def m_X1_heldByOthers_l4 (p0 : Fin 10) (p1 : Fin 10 × Fin 4) : Nat → Int32 → Int32 → Mem → Option Int32
  | 0, _, _, _ => none
  | n + 1, x2, x3, x => m_X1_heldByOthers_b4 p0 p1 (m_X1_heldByOthers_l4 p0 p1 n) x2 x3 x
def m_X1_heldByOthers (p0 : Fin 10) (p1 : Fin 10 × Fin 4) (x : Mem) : Option Int32 :=
  lt_ (0 : Int32) fun x2_1 => lt_ (0 : Int32) fun x3_2 => m_X1_heldByOthers_l4 p0 p1 FU x2_1 x3_2 x
abbrev WS_X1_heldByOthers : List Cond := .code yX1_heldByOthers cX1_heldByOthers 4 (some .int) :: wsG
abbrev RM_X1_heldByOthers : Room := { frames := 1, cells := 0, slots := 0, locals := 21 }
set_option maxHeartbeats 4000000 in
set_option maxRecDepth 100000 in
theorem c_X1_heldByOthers (l : Launch) (G : Geo) (x y : Mem) (p0 : Fin 10) (p1 : Fin 10 × Fin 4) (r : Int32) (h : m_X1_heldByOthers p0 p1 x = some r) : Met l yX1_heldByOthers WS_X1_heldByOthers RM_X1_heldByOthers (Pw G x y [.ref (gA G 2 ↑p0 0), .ref (gA G 0 ↑p1.1 ↑p1.2)]) (Qi G x y r) 0 0 (gF G) := by
  refine Met.ofW (cc := cX1_heldByOthers) (maxL := 4) (ret := (some .int)) (by decide) rfl ?_
  intro p e s m args below meth c s₁ B hml hv
  obtain ⟨rfl, hK, hW⟩ := hv
  have hx := B.exec
  have hb := B.bytes
  have hr := B.returns
  have hts := atoms_spec (ws := WS_X1_heldByOthers) B.pre
  have htg : ∀ w ∈ wsG, w.before _ s = true := fun w h => hts w (List.mem_cons_of_mem _ h)
  have hown : s.vm.findClass RX1 = some m.cls := findClass_of_methodNamed B.named
  have hlocks := B.notSynchronized
  have hS : va_S (gF G) s.heap s.heap [] := va_S.rf
  have hl := lv_entry ([.ref (gA G 2 ↑p0 0), .ref (gA G 0 ↑p1.1 ↑p1.2)]) (n := 4) (Nat.le_of_ble_eq_true rfl)
  rw [lg_entry_eq]
  generalize (lg_sl ([.ref (gA G 2 ↑p0 0), .ref (gA G 0 ↑p1.1 ↑p1.2)]) ++ List.replicate (4 - (lg_sl ([.ref (gA G 2 ↑p0 0), .ref (gA G 0 ↑p1.1 ↑p1.2)])).length) Slot.unset).toArray = ls at hl ⊢
  have hl : lv_has ls 4 [(0, .ref (gA G 2 ↑p0 0)), (1, .ref (gA G 0 ↑p1.1 ↑p1.2))] := hl
  have hX := h
  unfold m_X1_heldByOthers at hX
  have J_28 : ∀ (k4 : Int32 → Int32 → Mem → Option Int32) (hk4 : ∀ (x2 : Int32) (x3 : Int32) (x : Mem) (H : Heap) (locs : List Loc) (ls : Array Slot), Wh G x y H → va_S (gF G) s.heap H locs → lv_has ls 4 [(0, .ref (gA G 2 ↑p0 0)), (1, .ref (gA G 0 ↑p1.1 ↑p1.2)), (2, .int x2), (3, .int x3)] → k4 x2 x3 x = some r → W p l e (headSpec WS_X1_heldByOthers RM_X1_heldByOthers).room s m ([.ref (gA G 2 ↑p0 0), .ref (gA G 0 ↑p1.1 ↑p1.2)] : List Value).toArray below meth c H locs 0 0 (MQ below (Qi G x y r) ([.ref (gA G 2 ↑p0 0), .ref (gA G 0 ↑p1.1 ↑p1.2)] : List Value).toArray s 0 0 (gF G)) (F0 m 4 ls [])), ∀ (x2 : Int32) (x3 : Int32) (x : Mem) (H : Heap) (locs : List Loc) (ls : Array Slot), Wh G x y H → va_S (gF G) s.heap H locs → lv_has ls 4 [(0, .ref (gA G 2 ↑p0 0)), (1, .ref (gA G 0 ↑p1.1 ↑p1.2)), (2, .int x2), (3, .int x3)] → m_X1_heldByOthers_j28 p0 p1 k4 x2 x3 x = some r → W p l e (headSpec WS_X1_heldByOthers RM_X1_heldByOthers).room s m ([.ref (gA G 2 ↑p0 0), .ref (gA G 0 ↑p1.1 ↑p1.2)] : List Value).toArray below meth c H locs 0 0 (MQ below (Qi G x y r) ([.ref (gA G 2 ↑p0 0), .ref (gA G 0 ↑p1.1 ↑p1.2)] : List Value).toArray s 0 0 (gF G)) (F0 m 28 ls []) := by
    intro k4 hk4 x2 x3 x H locs ls hW hS hl hX
    unfold m_X1_heldByOthers_j28 at hX
    obtain ⟨x3_8, e9⟩ : ∃ w : Int32, w = (x3 + (1 : Int32)) := ⟨_, rfl⟩
    have hX := lt_go hX e9
    refine lv_iinc (v := x3_8) (lv' := [(3, .int x3_8), (0, .ref (gA G 2 ↑p0 0)), (1, .ref (gA G 0 ↑p1.1 ↑p1.2)), (2, .int x2)]) hx hb dX1_heldByOthers_28 hl (k := 3) rfl (by rw [e9]; rfl) (by decide) rfl (fun ls hl => ?_)
    refine lv_goto (tgt := 4) hx hb dX1_heldByOthers_31 (by decide) ?_
    exact hk4 _ _ _ _ _ _ hW hS (lv_sub hl [1, 2, 3, 0] rfl) hX
  have B_4 : ∀ (k4 : Int32 → Int32 → Mem → Option Int32) (hk4 : ∀ (x2 : Int32) (x3 : Int32) (x : Mem) (H : Heap) (locs : List Loc) (ls : Array Slot), Wh G x y H → va_S (gF G) s.heap H locs → lv_has ls 4 [(0, .ref (gA G 2 ↑p0 0)), (1, .ref (gA G 0 ↑p1.1 ↑p1.2)), (2, .int x2), (3, .int x3)] → k4 x2 x3 x = some r → W p l e (headSpec WS_X1_heldByOthers RM_X1_heldByOthers).room s m ([.ref (gA G 2 ↑p0 0), .ref (gA G 0 ↑p1.1 ↑p1.2)] : List Value).toArray below meth c H locs 0 0 (MQ below (Qi G x y r) ([.ref (gA G 2 ↑p0 0), .ref (gA G 0 ↑p1.1 ↑p1.2)] : List Value).toArray s 0 0 (gF G)) (F0 m 4 ls [])), ∀ (x2 : Int32) (x3 : Int32) (x : Mem) (H : Heap) (locs : List Loc) (ls : Array Slot), Wh G x y H → va_S (gF G) s.heap H locs → lv_has ls 4 [(0, .ref (gA G 2 ↑p0 0)), (1, .ref (gA G 0 ↑p1.1 ↑p1.2)), (2, .int x2), (3, .int x3)] → m_X1_heldByOthers_b4 p0 p1 k4 x2 x3 x = some r → W p l e (headSpec WS_X1_heldByOthers RM_X1_heldByOthers).room s m ([.ref (gA G 2 ↑p0 0), .ref (gA G 0 ↑p1.1 ↑p1.2)] : List Value).toArray below meth c H locs 0 0 (MQ below (Qi G x y r) ([.ref (gA G 2 ↑p0 0), .ref (gA G 0 ↑p1.1 ↑p1.2)] : List Value).toArray s 0 0 (gF G)) (F0 m 4 ls []) := by
    intro k4 hk4 x2 x3 x H locs ls hW hS hl hX
    unfold m_X1_heldByOthers_b4 at hX
    refine lv_iload_n hx hb dX1_heldByOthers_4 rfl (lv_at hl 3 rfl) ?_
    refine lv_iconst (v := (3 : Int32)) hx hb dX1_heldByOthers_5 (by decide) ?_
    refine lv_icmp_ge (tgt := 34) hx hb dX1_heldByOthers_6 (by decide) (fun c3 => ?_) (fun c3 => ?_)
    · have hX := it_t hX c3
      refine lv_iload_n hx hb dX1_heldByOthers_34 rfl (lv_at hl 2 rfl) ?_
      have hX := Option.some.inj hX
      subst hX
      exact rt_i hx hb hr hlocks hW hS dX1_heldByOthers_35
    · have hX := it_f hX c3
      refine lv_iload_n hx hb dX1_heldByOthers_9 rfl (lv_at hl 3 rfl) ?_
      refine lv_aload_n hx hb dX1_heldByOthers_10 rfl (lv_at hl 1 rfl) ?_
      refine gf_0_0 hx hb htg hown hK hW p1 q705 dX1_heldByOthers_11 ?_
      refine lv_icmp_eq (tgt := 28) hx hb dX1_heldByOthers_14 (by decide) (fun c4 => ?_) (fun c4 => ?_)
      · have hX := it_t hX c4
        exact J_28 k4 hk4 _ _ _ _ _ _ hW hS (lv_sub hl [0, 1, 2, 3] rfl) hX
      · have hX := it_f hX c4
        refine lv_iload_n hx hb dX1_heldByOthers_17 rfl (lv_at hl 2 rfl) ?_
        refine lv_aload_n hx hb dX1_heldByOthers_18 rfl (lv_at hl 0 rfl) ?_
        refine lv_iload_n hx hb dX1_heldByOthers_19 rfl (lv_at hl 3 rfl) ?_
        obtain ⟨r6, h5, hX⟩ := bd_go hX
        refine k_X1_armAt hx hb hml hown htg hK hW hS h5 q210 hl.1 (Nat.le_of_ble_eq_true rfl) (Nat.le_of_ble_eq_true rfl) (Nat.le_of_ble_eq_true rfl) ⟨Nat.zero_le _, Nat.zero_le _⟩ dX1_heldByOthers_20 (fun H locs hW hS => ?_)
        refine gf_0_6 hx hb htg hown hK hW r6 q209 dX1_heldByOthers_23 ?_
        refine lv_ior hx hb dX1_heldByOthers_26 ?_
        refine lv_topi (fun x2_7 e9 => ?_)
        have hX := lt_go hX e9
        refine lv_istore_n (lv' := [(2, .int x2_7), (0, .ref (gA G 2 ↑p0 0)), (1, .ref (gA G 0 ↑p1.1 ↑p1.2)), (3, .int x3)]) hx hb dX1_heldByOthers_27 rfl hl (by decide) rfl (fun ls hl => ?_)
        exact J_28 k4 hk4 _ _ _ _ _ _ hW hS (lv_sub hl [1, 2, 0, 3] rfl) hX
  have L_4 : ∀ (n : Nat), ∀ (x2 : Int32) (x3 : Int32) (x : Mem) (H : Heap) (locs : List Loc) (ls : Array Slot), Wh G x y H → va_S (gF G) s.heap H locs → lv_has ls 4 [(0, .ref (gA G 2 ↑p0 0)), (1, .ref (gA G 0 ↑p1.1 ↑p1.2)), (2, .int x2), (3, .int x3)] → m_X1_heldByOthers_l4 p0 p1 n x2 x3 x = some r → W p l e (headSpec WS_X1_heldByOthers RM_X1_heldByOthers).room s m ([.ref (gA G 2 ↑p0 0), .ref (gA G 0 ↑p1.1 ↑p1.2)] : List Value).toArray below meth c H locs 0 0 (MQ below (Qi G x y r) ([.ref (gA G 2 ↑p0 0), .ref (gA G 0 ↑p1.1 ↑p1.2)] : List Value).toArray s 0 0 (gF G)) (F0 m 4 ls []) := by
    intro n
    induction n with
    | zero => intro x2 x3 x H locs ls hW hS hl hX; exact no_go hX
    | succ n ih => intro x2 x3 x H locs ls hW hS hl hX; exact B_4 _ ih _ _ _ _ _ _ hW hS hl hX
  refine lv_iconst (v := (0 : Int32)) hx hb dX1_heldByOthers_0 (by decide) ?_
  refine lv_topi (fun x2_1 e9 => ?_)
  have hX := lt_go hX e9
  refine lv_istore_n (lv' := [(2, .int x2_1), (0, .ref (gA G 2 ↑p0 0)), (1, .ref (gA G 0 ↑p1.1 ↑p1.2))]) hx hb dX1_heldByOthers_1 rfl hl (by decide) rfl (fun ls hl => ?_)
  refine lv_iconst (v := (0 : Int32)) hx hb dX1_heldByOthers_2 (by decide) ?_
  refine lv_topi (fun x3_2 e9 => ?_)
  have hX := lt_go hX e9
  refine lv_istore_n (lv' := [(3, .int x3_2), (2, .int x2_1), (0, .ref (gA G 2 ↑p0 0)), (1, .ref (gA G 0 ↑p1.1 ↑p1.2))]) hx hb dX1_heldByOthers_3 rfl hl (by decide) rfl (fun ls hl => ?_)
  exact L_4 FU _ _ _ _ _ _ hW hS (lv_sub hl [2, 3, 1, 0] rfl) hX
set_option maxHeartbeats 4000000 in
theorem k_X1_heldByOthers {p : Program} {l : Launch} {e : Env} {R : Room} {s : State} {m : MethodId} {args : Array Value} {below : List Frame} {meth : Method} {c : Code} {H : Heap} {locs : List Loc} {cells slots : Nat} {Q : State → Prop} {cc : ByteArray} {pc nL idx : Nat} {own : String} {ls : Array Slot} {rest : List Value} {G : Geo} {x y : Mem} {H0 : Heap} {p0 : Fin 10} {p1 : Fin 10 × Fin 4} {v : Int32} (hx : p.tables.exec = Jvm.exec) (hb : c.code = cc) (hml : c.maxLocals = nL) (hown : s.vm.findClass own = some m.cls) (htg : ∀ w ∈ wsG, w.before args s = true) (hK : Kt G s) (hW : Wh G x y H) (hS : va_S (gF G) H0 H locs) (h : m_X1_heldByOthers p0 p1 x = some v) (hlk : Cond.methodLink own idx yX1_heldByOthers ∈ wsG) (hn : ls.size = nL) (hr : (rest.map fun v => v.category).sum ≤ 8) (hR1 : 1 + 1 ≤ R.frames) (hR2 : 8 + (4 + 11) + 21 ≤ R.locals) (hf : cells ≤ R.cells ∧ slots ≤ R.slots) (hdg : decode cc pc = .ok (.invokevirtual idx, 3)) (kk : ∀ (H1 : Heap) (locs1 : List Loc), Wh G x y H1 → va_S (gF G) H0 H1 locs1 → W p l e R s m args below meth c H1 locs1 cells slots Q (F0 m (pc + 3) ls (.int v :: rest))) : W p l e R s m args below meth c H locs cells slots Q (F0 m pc ls (.ref (gA G 0 ↑p1.1 ↑p1.2) :: .ref (gA G 2 ↑p0 0) :: rest)) := by
  refine va_calli (va_runV (As := [.ref (gA G 0 ↑p1.1 ↑p1.2)]) (rest := rest) ⟨hx, hb, hml, hown, htg⟩ (c_X1_heldByOthers l G x y p0 p1 v h) (cwV 1 htg (gd_V hlk q807 q808 q16 q809) rfl rfl rfl (by decide +kernel) ⟨hR1, hR2⟩) ⟨fun a U g mk q => ⟨q.1, q.2.1.calling, q.2.2⟩, rc_2 hK hW p0, fun U hU hW9 => ⟨rfl, hK.warm hW9, by rw [hU]; exact hW⟩⟩ rfl rfl hn rfl (lv_room hr) hdg hf) hS (fun _ _ h9 => h9) (fun _ h9 => h9) ?_
  intro r9 u t H1 locs1 ht hvm hw hB hz1 hk1 hS1
  replace hB : Wh G x y t.heap := hB
  rw [ht] at hB
  replace hw : r9 = v := hw
  subst hw
  exact kk H1 locs1 hB hS1
/-! METHOD X10_hasInterlock -/
def m_X10_hasInterlock (p0 : Fin 10) (p1 : Int32) (p2 : Int32) (x : Mem) : Option Int32 :=
  if p1 = p2 then (some (0 : Int32)) else (bd_ (m_X11_isWithin p2 (0 : Int32) (7 : Int32)) fun r3 => if r3 = 0 then (some (0 : Int32)) else (bd_ (m_X10_conflictsOf p0 p1 x) fun r6 => if (r6 &&& (shl32 (1 : Int32) p2)) = 0 then (some (0 : Int32)) else (some (1 : Int32))))
abbrev WS_X10_hasInterlock : List Cond := .code yX10_hasInterlock cX10_hasInterlock 3 (some .boolean) :: wsG
abbrev RM_X10_hasInterlock : Room := { frames := 1, cells := 0, slots := 0, locals := 22 }
set_option maxHeartbeats 4000000 in
set_option maxRecDepth 100000 in
theorem c_X10_hasInterlock (l : Launch) (G : Geo) (x y : Mem) (p0 : Fin 10) (p1 : Int32) (p2 : Int32) (r : Int32) (h : m_X10_hasInterlock p0 p1 p2 x = some r) : Met l yX10_hasInterlock WS_X10_hasInterlock RM_X10_hasInterlock (Pw G x y [.ref (gA G 3 ↑p0 0), .int p1, .int p2]) (Qi G x y r) 0 0 (gF G) := by
  refine Met.ofW (cc := cX10_hasInterlock) (maxL := 3) (ret := (some .boolean)) (by decide) rfl ?_
  intro p e s m args below meth c s₁ B hml hv
  obtain ⟨rfl, hK, hW⟩ := hv
  have hx := B.exec
  have hb := B.bytes
  have hr := B.returns
  have hts := atoms_spec (ws := WS_X10_hasInterlock) B.pre
  have htg : ∀ w ∈ wsG, w.before _ s = true := fun w h => hts w (List.mem_cons_of_mem _ h)
  have hown : s.vm.findClass RX10 = some m.cls := findClass_of_methodNamed B.named
  have hlocks := B.notSynchronized
  have hS : va_S (gF G) s.heap s.heap [] := va_S.rf
  have hl := lv_entry ([.ref (gA G 3 ↑p0 0), .int p1, .int p2]) (n := 3) (Nat.le_of_ble_eq_true rfl)
  rw [lg_entry_eq]
  generalize (lg_sl ([.ref (gA G 3 ↑p0 0), .int p1, .int p2]) ++ List.replicate (3 - (lg_sl ([.ref (gA G 3 ↑p0 0), .int p1, .int p2])).length) Slot.unset).toArray = ls at hl ⊢
  have hl : lv_has ls 3 [(0, .ref (gA G 3 ↑p0 0)), (1, .int p1), (2, .int p2)] := hl
  have hX := h
  unfold m_X10_hasInterlock at hX
  refine lv_iload_n hx hb dX10_hasInterlock_0 rfl (lv_at hl 1 rfl) ?_
  refine lv_iload_n hx hb dX10_hasInterlock_1 rfl (lv_at hl 2 rfl) ?_
  refine lv_icmp_eq (tgt := 31) hx hb dX10_hasInterlock_2 (by decide) (fun c1 => ?_) (fun c1 => ?_)
  · have hX := it_t hX c1
    refine lv_iconst (v := (0 : Int32)) hx hb dX10_hasInterlock_31 (by decide) ?_
    have hX := Option.some.inj hX
    subst hX
    exact rt_z hx hb hr hlocks hW hS nb0 dX10_hasInterlock_32
  · have hX := it_f hX c1
    refine lv_iload_n hx hb dX10_hasInterlock_5 rfl (lv_at hl 2 rfl) ?_
    refine lv_iconst (v := (0 : Int32)) hx hb dX10_hasInterlock_6 (by decide) ?_
    refine lv_bipush (v := (7 : Int32)) hx hb dX10_hasInterlock_7 (by decide) ?_
    obtain ⟨r3, h2, hX⟩ := bd_go hX
    refine k_X11_isWithin_n hx hb hml hown htg hK hW hS h2 (List.mem_of_getElem? (i := 6) rfl) hl.1 (Nat.le_of_ble_eq_true rfl) (Nat.le_of_ble_eq_true rfl) (Nat.le_of_ble_eq_true rfl) ⟨Nat.zero_le _, Nat.zero_le _⟩ dX10_hasInterlock_9 (fun H locs hW hS => ?_)
    refine lv_if_eq (tgt := 31) hx hb dX10_hasInterlock_12 (by decide) (fun c4 => ?_) (fun c4 => ?_)
    · have hX := it_t hX c4
      refine lv_iconst (v := (0 : Int32)) hx hb dX10_hasInterlock_31 (by decide) ?_
      have hX := Option.some.inj hX
      subst hX
      exact rt_z hx hb hr hlocks hW hS nb0 dX10_hasInterlock_32
    · have hX := it_f hX c4
      refine lv_aload_n hx hb dX10_hasInterlock_15 rfl (lv_at hl 0 rfl) ?_
      refine lv_iload_n hx hb dX10_hasInterlock_16 rfl (lv_at hl 1 rfl) ?_
      obtain ⟨r6, h5, hX⟩ := bd_go hX
      refine k_X10_conflictsOf hx hb hml hown htg hK hW hS h5 q201 hl.1 (Nat.le_of_ble_eq_true rfl) (Nat.le_of_ble_eq_true rfl) (Nat.le_of_ble_eq_true rfl) ⟨Nat.zero_le _, Nat.zero_le _⟩ dX10_hasInterlock_17 (fun H locs hW hS => ?_)
      refine lv_iconst (v := (1 : Int32)) hx hb dX10_hasInterlock_20 (by decide) ?_
      refine lv_iload_n hx hb dX10_hasInterlock_21 rfl (lv_at hl 2 rfl) ?_
      refine lv_ishl_ hx hb dX10_hasInterlock_22 ?_
      refine lv_iand hx hb dX10_hasInterlock_23 ?_
      refine lv_if_eq (tgt := 31) hx hb dX10_hasInterlock_24 (by decide) (fun c7 => ?_) (fun c7 => ?_)
      · have hX := it_t hX c7
        refine lv_iconst (v := (0 : Int32)) hx hb dX10_hasInterlock_31 (by decide) ?_
        have hX := Option.some.inj hX
        subst hX
        exact rt_z hx hb hr hlocks hW hS nb0 dX10_hasInterlock_32
      · have hX := it_f hX c7
        refine lv_iconst (v := (1 : Int32)) hx hb dX10_hasInterlock_27 (by decide) ?_
        refine lv_goto (tgt := 32) hx hb dX10_hasInterlock_28 (by decide) ?_
        have hX := Option.some.inj hX
        subst hX
        exact rt_z hx hb hr hlocks hW hS nb1 dX10_hasInterlock_32
set_option maxHeartbeats 4000000 in
theorem k_X10_hasInterlock {p : Program} {l : Launch} {e : Env} {R : Room} {s : State} {m : MethodId} {args : Array Value} {below : List Frame} {meth : Method} {c : Code} {H : Heap} {locs : List Loc} {cells slots : Nat} {Q : State → Prop} {cc : ByteArray} {pc nL idx : Nat} {own : String} {ls : Array Slot} {rest : List Value} {G : Geo} {x y : Mem} {H0 : Heap} {p0 : Fin 10} {p1 : Int32} {p2 : Int32} {v : Int32} (hx : p.tables.exec = Jvm.exec) (hb : c.code = cc) (hml : c.maxLocals = nL) (hown : s.vm.findClass own = some m.cls) (htg : ∀ w ∈ wsG, w.before args s = true) (hK : Kt G s) (hW : Wh G x y H) (hS : va_S (gF G) H0 H locs) (h : m_X10_hasInterlock p0 p1 p2 x = some v) (hlk : Cond.methodLink own idx yX10_hasInterlock ∈ wsG) (hn : ls.size = nL) (hr : (rest.map fun v => v.category).sum ≤ 8) (hR1 : 1 + 1 ≤ R.frames) (hR2 : 8 + (3 + 11) + 22 ≤ R.locals) (hf : cells ≤ R.cells ∧ slots ≤ R.slots) (hdg : decode cc pc = .ok (.invokevirtual idx, 3)) (kk : ∀ (H1 : Heap) (locs1 : List Loc), Wh G x y H1 → va_S (gF G) H0 H1 locs1 → W p l e R s m args below meth c H1 locs1 cells slots Q (F0 m (pc + 3) ls (.int v :: rest))) : W p l e R s m args below meth c H locs cells slots Q (F0 m pc ls (.int p2 :: .int p1 :: .ref (gA G 3 ↑p0 0) :: rest)) := by
  refine va_calli (va_runV (As := [.int p1, .int p2]) (rest := rest) ⟨hx, hb, hml, hown, htg⟩ (c_X10_hasInterlock l G x y p0 p1 p2 v h) (cwV 2 htg (gd_V hlk q198 q199 q39 q200) rfl rfl rfl (by decide +kernel) ⟨hR1, hR2⟩) ⟨fun a U g mk q => ⟨q.1, q.2.1.calling, q.2.2⟩, rc_3 hK hW p0, fun U hU hW9 => ⟨rfl, hK.warm hW9, by rw [hU]; exact hW⟩⟩ rfl rfl hn rfl (lv_room hr) hdg hf) hS (fun _ _ h9 => h9) (fun _ h9 => h9) ?_
  intro r9 u t H1 locs1 ht hvm hw hB hz1 hk1 hS1
  replace hB : Wh G x y t.heap := hB
  rw [ht] at hB
  replace hw : r9 = v := hw
  subst hw
  exact kk H1 locs1 hB hS1
/-! METHOD X1_interlockFault -/
def m_X1_interlockFault_j85 (p0 : Fin 10) (p1 : Int32) (p2 : Int32) (p3 : Int32) (s0 : Int32) (x : Mem) : Option Int32 :=
  lt_ s0 fun x6_21 => if x6_21 = 0 then (some (0 : Int32)) else (some (4 : Int32))
def m_X1_interlockFault_j84 (p0 : Fin 10) (p1 : Int32) (p2 : Int32) (p3 : Int32) (x : Mem) : Option Int32 :=
  m_X1_interlockFault_j85 p0 p1 p2 p3 (0 : Int32) x
def m_X1_interlockFault (p0 : Fin 10) (p1 : Int32) (p2 : Int32) (p3 : Int32) (x : Mem) : Option Int32 :=
  bd_ (m_X11_isWithin p1 (0 : Int32) (7 : Int32)) fun r2 => if r2 = 0 then (some (1 : Int32)) else (bd_ (m_X11_isWithin p2 (0 : Int32) (7 : Int32)) fun r5 => if r5 = 0 then (some (1 : Int32)) else (if p1 = p2 then (some (2 : Int32)) else (if p3 = 0 then (some (0 : Int32)) else (bd_ (m_X10_hasInterlock p0 p1 p2 x) fun r10 => if r10 = 0 then (bd_ (m_X1_holderOf p0 p1 x) fun r13 => lt_ r13 fun x4_14 => bd_ (m_X1_holderOf p0 p2 x) fun r16 => lt_ r16 fun x5_17 => if x4_14 = (-1 : Int32) then (m_X1_interlockFault_j84 p0 p1 p2 p3 x) else (if x5_17 = (-1 : Int32) then (m_X1_interlockFault_j84 p0 p1 p2 p3 x) else (if x4_14 = x5_17 then (m_X1_interlockFault_j84 p0 p1 p2 p3 x) else (m_X1_interlockFault_j85 p0 p1 p2 p3 (1 : Int32) x)))) else (some (0 : Int32))))))
abbrev WS_X1_interlockFault : List Cond := .code yX1_interlockFault cX1_interlockFault 7 (some .int) :: wsG
abbrev RM_X1_interlockFault : Room := { frames := 2, cells := 0, slots := 0, locals := 44 }
set_option maxHeartbeats 4000000 in
set_option maxRecDepth 100000 in
theorem c_X1_interlockFault (l : Launch) (G : Geo) (x y : Mem) (p0 : Fin 10) (p1 : Int32) (p2 : Int32) (p3 : Int32) (r : Int32) (h : m_X1_interlockFault p0 p1 p2 p3 x = some r) : Met l yX1_interlockFault WS_X1_interlockFault RM_X1_interlockFault (Pw G x y [.ref (gA G 2 ↑p0 0), .int p1, .int p2, .int p3]) (Qi G x y r) 0 0 (gF G) := by
  refine Met.ofW (cc := cX1_interlockFault) (maxL := 7) (ret := (some .int)) (by decide) rfl ?_
  intro p e s m args below meth c s₁ B hml hv
  obtain ⟨rfl, hK, hW⟩ := hv
  have hx := B.exec
  have hb := B.bytes
  have hr := B.returns
  have hts := atoms_spec (ws := WS_X1_interlockFault) B.pre
  have htg : ∀ w ∈ wsG, w.before _ s = true := fun w h => hts w (List.mem_cons_of_mem _ h)
  have hown : s.vm.findClass RX1 = some m.cls := findClass_of_methodNamed B.named
  have hlocks := B.notSynchronized
  have hS : va_S (gF G) s.heap s.heap [] := va_S.rf
  have hl := lv_entry ([.ref (gA G 2 ↑p0 0), .int p1, .int p2, .int p3]) (n := 7) (Nat.le_of_ble_eq_true rfl)
  rw [lg_entry_eq]
  generalize (lg_sl ([.ref (gA G 2 ↑p0 0), .int p1, .int p2, .int p3]) ++ List.replicate (7 - (lg_sl ([.ref (gA G 2 ↑p0 0), .int p1, .int p2, .int p3])).length) Slot.unset).toArray = ls at hl ⊢
  have hl : lv_has ls 7 [(0, .ref (gA G 2 ↑p0 0)), (1, .int p1), (2, .int p2), (3, .int p3)] := hl
  have hX := h
  unfold m_X1_interlockFault at hX
  have J_85 : ∀ (s0 : Int32) (x : Mem) (H : Heap) (locs : List Loc) (ls : Array Slot), Wh G x y H → va_S (gF G) s.heap H locs → lv_has ls 7 [] → m_X1_interlockFault_j85 p0 p1 p2 p3 s0 x = some r → W p l e (headSpec WS_X1_interlockFault RM_X1_interlockFault).room s m ([.ref (gA G 2 ↑p0 0), .int p1, .int p2, .int p3] : List Value).toArray below meth c H locs 0 0 (MQ below (Qi G x y r) ([.ref (gA G 2 ↑p0 0), .int p1, .int p2, .int p3] : List Value).toArray s 0 0 (gF G)) (F0 m 85 ls [.int s0]) := by
    intro s0 x H locs ls hW hS hl hX
    unfold m_X1_interlockFault_j85 at hX
    refine lv_topi (fun x6_21 e9 => ?_)
    have hX := lt_go hX e9
    refine lv_istore (lv' := [(6, .int x6_21)]) hx hb dX1_interlockFault_85 hl (by decide) rfl (fun ls hl => ?_)
    refine lv_iload hx hb dX1_interlockFault_87 (lv_at hl 0 rfl) ?_
    refine lv_if_eq (tgt := 96) hx hb dX1_interlockFault_89 (by decide) (fun c22 => ?_) (fun c22 => ?_)
    · have hX := it_t hX c22
      refine lv_iconst (v := (0 : Int32)) hx hb dX1_interlockFault_96 (by decide) ?_
      have hX := Option.some.inj hX
      subst hX
      exact rt_i hx hb hr hlocks hW hS dX1_interlockFault_97
    · have hX := it_f hX c22
      refine lv_iconst (v := (4 : Int32)) hx hb dX1_interlockFault_92 (by decide) ?_
      refine lv_goto (tgt := 97) hx hb dX1_interlockFault_93 (by decide) ?_
      have hX := Option.some.inj hX
      subst hX
      exact rt_i hx hb hr hlocks hW hS dX1_interlockFault_97
  have J_84 : ∀ (x : Mem) (H : Heap) (locs : List Loc) (ls : Array Slot), Wh G x y H → va_S (gF G) s.heap H locs → lv_has ls 7 [] → m_X1_interlockFault_j84 p0 p1 p2 p3 x = some r → W p l e (headSpec WS_X1_interlockFault RM_X1_interlockFault).room s m ([.ref (gA G 2 ↑p0 0), .int p1, .int p2, .int p3] : List Value).toArray below meth c H locs 0 0 (MQ below (Qi G x y r) ([.ref (gA G 2 ↑p0 0), .int p1, .int p2, .int p3] : List Value).toArray s 0 0 (gF G)) (F0 m 84 ls []) := by
    intro x H locs ls hW hS hl hX
    unfold m_X1_interlockFault_j84 at hX
    refine lv_iconst (v := (0 : Int32)) hx hb dX1_interlockFault_84 (by decide) ?_
    exact J_85 _ _ _ _ _ hW hS (lv_sub hl [] rfl) hX
  refine lv_iload_n hx hb dX1_interlockFault_0 rfl (lv_at hl 1 rfl) ?_
  refine lv_iconst (v := (0 : Int32)) hx hb dX1_interlockFault_1 (by decide) ?_
  refine lv_bipush (v := (7 : Int32)) hx hb dX1_interlockFault_2 (by decide) ?_
  obtain ⟨r2, h1, hX⟩ := bd_go hX
  refine k_X11_isWithin_n hx hb hml hown htg hK hW hS h1 (List.mem_of_getElem? (i := 5) rfl) hl.1 (Nat.le_of_ble_eq_true rfl) (Nat.le_of_ble_eq_true rfl) (Nat.le_of_ble_eq_true rfl) ⟨Nat.zero_le _, Nat.zero_le _⟩ dX1_interlockFault_4 (fun H locs hW hS => ?_)
  refine lv_if_eq (tgt := 20) hx hb dX1_interlockFault_7 (by decide) (fun c3 => ?_) (fun c3 => ?_)
  · have hX := it_t hX c3
    refine lv_iconst (v := (1 : Int32)) hx hb dX1_interlockFault_20 (by decide) ?_
    have hX := Option.some.inj hX
    subst hX
    exact rt_i hx hb hr hlocks hW hS dX1_interlockFault_21
  · have hX := it_f hX c3
    refine lv_iload_n hx hb dX1_interlockFault_10 rfl (lv_at hl 2 rfl) ?_
    refine lv_iconst (v := (0 : Int32)) hx hb dX1_interlockFault_11 (by decide) ?_
    refine lv_bipush (v := (7 : Int32)) hx hb dX1_interlockFault_12 (by decide) ?_
    obtain ⟨r5, h4, hX⟩ := bd_go hX
    refine k_X11_isWithin_n hx hb hml hown htg hK hW hS h4 (List.mem_of_getElem? (i := 5) rfl) hl.1 (Nat.le_of_ble_eq_true rfl) (Nat.le_of_ble_eq_true rfl) (Nat.le_of_ble_eq_true rfl) ⟨Nat.zero_le _, Nat.zero_le _⟩ dX1_interlockFault_14 (fun H locs hW hS => ?_)
    refine lv_if_ne (tgt := 22) hx hb dX1_interlockFault_17 (by decide) (fun c6 => ?_) (fun c6 => ?_)
    · have hX := it_f hX c6
      refine lv_iload_n hx hb dX1_interlockFault_22 rfl (lv_at hl 1 rfl) ?_
      refine lv_iload_n hx hb dX1_interlockFault_23 rfl (lv_at hl 2 rfl) ?_
      refine lv_icmp_ne (tgt := 29) hx hb dX1_interlockFault_24 (by decide) (fun c7 => ?_) (fun c7 => ?_)
      · have hX := it_f hX c7
        refine lv_iload_n hx hb dX1_interlockFault_29 rfl (lv_at hl 3 rfl) ?_
        refine lv_if_eq (tgt := 45) hx hb dX1_interlockFault_30 (by decide) (fun c8 => ?_) (fun c8 => ?_)
        · have hX := it_t hX c8
          refine lv_iconst (v := (0 : Int32)) hx hb dX1_interlockFault_45 (by decide) ?_
          have hX := Option.some.inj hX
          subst hX
          exact rt_i hx hb hr hlocks hW hS dX1_interlockFault_46
        · have hX := it_f hX c8
          refine lv_aload_n hx hb dX1_interlockFault_33 rfl (lv_at hl 0 rfl) ?_
          refine gf_2_7 hx hb htg hown hK hW p0 q40 dX1_interlockFault_34 ?_
          refine lv_iload_n hx hb dX1_interlockFault_37 rfl (lv_at hl 1 rfl) ?_
          refine lv_iload_n hx hb dX1_interlockFault_38 rfl (lv_at hl 2 rfl) ?_
          obtain ⟨r10, h9, hX⟩ := bd_go hX
          refine k_X10_hasInterlock hx hb hml hown htg hK hW hS h9 q197 hl.1 (Nat.le_of_ble_eq_true rfl) (Nat.le_of_ble_eq_true rfl) (Nat.le_of_ble_eq_true rfl) ⟨Nat.zero_le _, Nat.zero_le _⟩ dX1_interlockFault_39 (fun H locs hW hS => ?_)
          refine lv_if_eq (tgt := 47) hx hb dX1_interlockFault_42 (by decide) (fun c11 => ?_) (fun c11 => ?_)
          · have hX := it_t hX c11
            refine lv_aload_n hx hb dX1_interlockFault_47 rfl (lv_at hl 0 rfl) ?_
            refine lv_iload_n hx hb dX1_interlockFault_48 rfl (lv_at hl 1 rfl) ?_
            obtain ⟨r13, h12, hX⟩ := bd_go hX
            refine k_X1_holderOf hx hb hml hown htg hK hW hS h12 q205 hl.1 (Nat.le_of_ble_eq_true rfl) (Nat.le_of_ble_eq_true rfl) (Nat.le_of_ble_eq_true rfl) ⟨Nat.zero_le _, Nat.zero_le _⟩ dX1_interlockFault_49 (fun H locs hW hS => ?_)
            refine lv_topi (fun x4_14 e9 => ?_)
            have hX := lt_go hX e9
            refine lv_istore (lv' := [(4, .int x4_14), (0, .ref (gA G 2 ↑p0 0)), (1, .int p1), (2, .int p2), (3, .int p3)]) hx hb dX1_interlockFault_52 hl (by decide) rfl (fun ls hl => ?_)
            refine lv_aload_n hx hb dX1_interlockFault_54 rfl (lv_at hl 1 rfl) ?_
            refine lv_iload_n hx hb dX1_interlockFault_55 rfl (lv_at hl 3 rfl) ?_
            obtain ⟨r16, h15, hX⟩ := bd_go hX
            refine k_X1_holderOf hx hb hml hown htg hK hW hS h15 q205 hl.1 (Nat.le_of_ble_eq_true rfl) (Nat.le_of_ble_eq_true rfl) (Nat.le_of_ble_eq_true rfl) ⟨Nat.zero_le _, Nat.zero_le _⟩ dX1_interlockFault_56 (fun H locs hW hS => ?_)
            refine lv_topi (fun x5_17 e9 => ?_)
            have hX := lt_go hX e9
            refine lv_istore (lv' := [(5, .int x5_17), (4, .int x4_14), (0, .ref (gA G 2 ↑p0 0)), (1, .int p1), (2, .int p2), (3, .int p3)]) hx hb dX1_interlockFault_59 hl (by decide) rfl (fun ls hl => ?_)
            refine lv_iload hx hb dX1_interlockFault_61 (lv_at hl 1 rfl) ?_
            refine lv_iconst (v := (-1 : Int32)) hx hb dX1_interlockFault_63 (by decide) ?_
            refine lv_icmp_eq (tgt := 84) hx hb dX1_interlockFault_64 (by decide) (fun c18 => ?_) (fun c18 => ?_)
            · have hX := it_t hX c18
              exact J_84 _ _ _ _ hW hS (lv_sub hl [] rfl) hX
            · have hX := it_f hX c18
              refine lv_iload hx hb dX1_interlockFault_67 (lv_at hl 0 rfl) ?_
              refine lv_iconst (v := (-1 : Int32)) hx hb dX1_interlockFault_69 (by decide) ?_
              refine lv_icmp_eq (tgt := 84) hx hb dX1_interlockFault_70 (by decide) (fun c19 => ?_) (fun c19 => ?_)
              · have hX := it_t hX c19
                exact J_84 _ _ _ _ hW hS (lv_sub hl [] rfl) hX
              · have hX := it_f hX c19
                refine lv_iload hx hb dX1_interlockFault_73 (lv_at hl 1 rfl) ?_
                refine lv_iload hx hb dX1_interlockFault_75 (lv_at hl 0 rfl) ?_
                refine lv_icmp_eq (tgt := 84) hx hb dX1_interlockFault_77 (by decide) (fun c20 => ?_) (fun c20 => ?_)
                · have hX := it_t hX c20
                  exact J_84 _ _ _ _ hW hS (lv_sub hl [] rfl) hX
                · have hX := it_f hX c20
                  refine lv_iconst (v := (1 : Int32)) hx hb dX1_interlockFault_80 (by decide) ?_
                  refine lv_goto (tgt := 85) hx hb dX1_interlockFault_81 (by decide) ?_
                  exact J_85 _ _ _ _ _ hW hS (lv_sub hl [] rfl) hX
          · have hX := it_f hX c11
            refine lv_iconst (v := (0 : Int32)) hx hb dX1_interlockFault_45 (by decide) ?_
            have hX := Option.some.inj hX
            subst hX
            exact rt_i hx hb hr hlocks hW hS dX1_interlockFault_46
      · have hX := it_t hX c7
        refine lv_iconst (v := (2 : Int32)) hx hb dX1_interlockFault_27 (by decide) ?_
        have hX := Option.some.inj hX
        subst hX
        exact rt_i hx hb hr hlocks hW hS dX1_interlockFault_28
    · have hX := it_t hX c6
      refine lv_iconst (v := (1 : Int32)) hx hb dX1_interlockFault_20 (by decide) ?_
      have hX := Option.some.inj hX
      subst hX
      exact rt_i hx hb hr hlocks hW hS dX1_interlockFault_21
set_option maxHeartbeats 4000000 in
theorem k_X1_interlockFault {p : Program} {l : Launch} {e : Env} {R : Room} {s : State} {m : MethodId} {args : Array Value} {below : List Frame} {meth : Method} {c : Code} {H : Heap} {locs : List Loc} {cells slots : Nat} {Q : State → Prop} {cc : ByteArray} {pc nL idx : Nat} {own : String} {ls : Array Slot} {rest : List Value} {G : Geo} {x y : Mem} {H0 : Heap} {p0 : Fin 10} {p1 : Int32} {p2 : Int32} {p3 : Int32} {v : Int32} (hx : p.tables.exec = Jvm.exec) (hb : c.code = cc) (hml : c.maxLocals = nL) (hown : s.vm.findClass own = some m.cls) (htg : ∀ w ∈ wsG, w.before args s = true) (hK : Kt G s) (hW : Wh G x y H) (hS : va_S (gF G) H0 H locs) (h : m_X1_interlockFault p0 p1 p2 p3 x = some v) (hlk : Cond.methodLink own idx yX1_interlockFault ∈ wsG) (hn : ls.size = nL) (hr : (rest.map fun v => v.category).sum ≤ 8) (hR1 : 2 + 1 ≤ R.frames) (hR2 : 8 + (7 + 11) + 44 ≤ R.locals) (hf : cells ≤ R.cells ∧ slots ≤ R.slots) (hdg : decode cc pc = .ok (.invokevirtual idx, 3)) (kk : ∀ (H1 : Heap) (locs1 : List Loc), Wh G x y H1 → va_S (gF G) H0 H1 locs1 → W p l e R s m args below meth c H1 locs1 cells slots Q (F0 m (pc + 3) ls (.int v :: rest))) : W p l e R s m args below meth c H locs cells slots Q (F0 m pc ls (.int p3 :: .int p2 :: .int p1 :: .ref (gA G 2 ↑p0 0) :: rest)) := by
  refine va_calli (va_runV (As := [.int p1, .int p2, .int p3]) (rest := rest) ⟨hx, hb, hml, hown, htg⟩ (c_X1_interlockFault l G x y p0 p1 p2 p3 v h) (cwV 3 htg (gd_V hlk q192 q193 q16 q194) rfl rfl rfl (by decide +kernel) ⟨hR1, hR2⟩) ⟨fun a U g mk q => ⟨q.1, q.2.1.calling, q.2.2⟩, rc_2 hK hW p0, fun U hU hW9 => ⟨rfl, hK.warm hW9, by rw [hU]; exact hW⟩⟩ rfl rfl hn rfl (lv_room hr) hdg hf) hS (fun _ _ h9 => h9) (fun _ h9 => h9) ?_
  intro r9 u t H1 locs1 ht hvm hw hB hz1 hk1 hS1
  replace hB : Wh G x y t.heap := hB
  rw [ht] at hB
  replace hw : r9 = v := hw
  subst hw
  exact kk H1 locs1 hB hS1
/-! METHOD X1_isAllIdle -/
def m_X1_isAllIdle_b2 (p0 : Fin 10) (k2 : Int32 → Mem → Option Int32) (x1 : Int32) (x : Mem) : Option Int32 :=
  if (3 : Int32) ≤ x1 then (some (1 : Int32)) else (bd_ (m_X1_armAt p0 x1) fun r4 => if (x 0 ↑r4.1 ↑r4.2 2) = 0 then (if (x 0 ↑r4.1 ↑r4.2 12) ≤ 0 then (lt_ (x1 + (1 : Int32)) fun x1_7 => k2 x1_7 x) else (some (0 : Int32))) else (some (0 : Int32)))
def m_X1_isAllIdle_l2 (p0 : Fin 10) : Nat → Int32 → Mem → Option Int32
  | 0, _, _ => none
  | n + 1, x1, x => m_X1_isAllIdle_b2 p0 (m_X1_isAllIdle_l2 p0 n) x1 x
def m_X1_isAllIdle (p0 : Fin 10) (x : Mem) : Option Int32 :=
  lt_ (0 : Int32) fun x1_1 => m_X1_isAllIdle_l2 p0 FU x1_1 x
abbrev WS_X1_isAllIdle : List Cond := .code yX1_isAllIdle cX1_isAllIdle 3 (some .boolean) :: wsG
abbrev RM_X1_isAllIdle : Room := { frames := 1, cells := 0, slots := 0, locals := 21 }
set_option maxHeartbeats 4000000 in
set_option maxRecDepth 100000 in
theorem c_X1_isAllIdle (l : Launch) (G : Geo) (x y : Mem) (p0 : Fin 10) (r : Int32) (h : m_X1_isAllIdle p0 x = some r) : Met l yX1_isAllIdle WS_X1_isAllIdle RM_X1_isAllIdle (Pw G x y [.ref (gA G 2 ↑p0 0)]) (Qi G x y r) 0 0 (gF G) := by
  refine Met.ofW (cc := cX1_isAllIdle) (maxL := 3) (ret := (some .boolean)) (by decide) rfl ?_
  intro p e s m args below meth c s₁ B hml hv
  obtain ⟨rfl, hK, hW⟩ := hv
  have hx := B.exec
  have hb := B.bytes
  have hr := B.returns
  have hts := atoms_spec (ws := WS_X1_isAllIdle) B.pre
  have htg : ∀ w ∈ wsG, w.before _ s = true := fun w h => hts w (List.mem_cons_of_mem _ h)
  have hown : s.vm.findClass RX1 = some m.cls := findClass_of_methodNamed B.named
  have hlocks := B.notSynchronized
  have hS : va_S (gF G) s.heap s.heap [] := va_S.rf
  have hl := lv_entry ([.ref (gA G 2 ↑p0 0)]) (n := 3) (Nat.le_of_ble_eq_true rfl)
  rw [lg_entry_eq]
  generalize (lg_sl ([.ref (gA G 2 ↑p0 0)]) ++ List.replicate (3 - (lg_sl ([.ref (gA G 2 ↑p0 0)])).length) Slot.unset).toArray = ls at hl ⊢
  have hl : lv_has ls 3 [(0, .ref (gA G 2 ↑p0 0))] := hl
  have hX := h
  unfold m_X1_isAllIdle at hX
  have B_2 : ∀ (k2 : Int32 → Mem → Option Int32) (hk2 : ∀ (x1 : Int32) (x : Mem) (H : Heap) (locs : List Loc) (ls : Array Slot), Wh G x y H → va_S (gF G) s.heap H locs → lv_has ls 3 [(0, .ref (gA G 2 ↑p0 0)), (1, .int x1)] → k2 x1 x = some r → W p l e (headSpec WS_X1_isAllIdle RM_X1_isAllIdle).room s m ([.ref (gA G 2 ↑p0 0)] : List Value).toArray below meth c H locs 0 0 (MQ below (Qi G x y r) ([.ref (gA G 2 ↑p0 0)] : List Value).toArray s 0 0 (gF G)) (F0 m 2 ls [])), ∀ (x1 : Int32) (x : Mem) (H : Heap) (locs : List Loc) (ls : Array Slot), Wh G x y H → va_S (gF G) s.heap H locs → lv_has ls 3 [(0, .ref (gA G 2 ↑p0 0)), (1, .int x1)] → m_X1_isAllIdle_b2 p0 k2 x1 x = some r → W p l e (headSpec WS_X1_isAllIdle RM_X1_isAllIdle).room s m ([.ref (gA G 2 ↑p0 0)] : List Value).toArray below meth c H locs 0 0 (MQ below (Qi G x y r) ([.ref (gA G 2 ↑p0 0)] : List Value).toArray s 0 0 (gF G)) (F0 m 2 ls []) := by
    intro k2 hk2 x1 x H locs ls hW hS hl hX
    unfold m_X1_isAllIdle_b2 at hX
    refine lv_iload_n hx hb dX1_isAllIdle_2 rfl (lv_at hl 1 rfl) ?_
    refine lv_iconst (v := (3 : Int32)) hx hb dX1_isAllIdle_3 (by decide) ?_
    refine lv_icmp_ge (tgt := 35) hx hb dX1_isAllIdle_4 (by decide) (fun c2 => ?_) (fun c2 => ?_)
    · have hX := it_t hX c2
      refine lv_iconst (v := (1 : Int32)) hx hb dX1_isAllIdle_35 (by decide) ?_
      have hX := Option.some.inj hX
      subst hX
      exact rt_z hx hb hr hlocks hW hS nb1 dX1_isAllIdle_36
    · have hX := it_f hX c2
      refine lv_aload_n hx hb dX1_isAllIdle_7 rfl (lv_at hl 0 rfl) ?_
      refine lv_iload_n hx hb dX1_isAllIdle_8 rfl (lv_at hl 1 rfl) ?_
      obtain ⟨r4, h3, hX⟩ := bd_go hX
      refine k_X1_armAt hx hb hml hown htg hK hW hS h3 q210 hl.1 (Nat.le_of_ble_eq_true rfl) (Nat.le_of_ble_eq_true rfl) (Nat.le_of_ble_eq_true rfl) ⟨Nat.zero_le _, Nat.zero_le _⟩ dX1_isAllIdle_9 (fun H locs hW hS => ?_)
      refine lv_astore_n (lv' := [(2, .ref (gA G 0 ↑r4.1 ↑r4.2)), (0, .ref (gA G 2 ↑p0 0)), (1, .int x1)]) hx hb dX1_isAllIdle_12 rfl hl (by decide) rfl (fun ls hl => ?_)
      refine lv_aload_n hx hb dX1_isAllIdle_13 rfl (lv_at hl 0 rfl) ?_
      refine gf_0_2 hx hb htg hown hK hW r4 q643 dX1_isAllIdle_14 ?_
      refine lv_if_ne (tgt := 27) hx hb dX1_isAllIdle_17 (by decide) (fun c5 => ?_) (fun c5 => ?_)
      · have hX := it_f hX c5
        refine lv_iconst (v := (0 : Int32)) hx hb dX1_isAllIdle_27 (by decide) ?_
        have hX := Option.some.inj hX
        subst hX
        exact rt_z hx hb hr hlocks hW hS nb0 dX1_isAllIdle_28
      · have hX := it_t hX c5
        refine lv_aload_n hx hb dX1_isAllIdle_20 rfl (lv_at hl 0 rfl) ?_
        refine gf_0_12 hx hb htg hown hK hW r4 q645 dX1_isAllIdle_21 ?_
        refine lv_if_le (tgt := 29) hx hb dX1_isAllIdle_24 (by decide) (fun c6 => ?_) (fun c6 => ?_)
        · have hX := it_t hX c6
          obtain ⟨x1_7, e9⟩ : ∃ w : Int32, w = (x1 + (1 : Int32)) := ⟨_, rfl⟩
          have hX := lt_go hX e9
          refine lv_iinc (v := x1_7) (lv' := [(1, .int x1_7), (2, .ref (gA G 0 ↑r4.1 ↑r4.2)), (0, .ref (gA G 2 ↑p0 0))]) hx hb dX1_isAllIdle_29 hl (k := 2) rfl (by rw [e9]; rfl) (by decide) rfl (fun ls hl => ?_)
          refine lv_goto (tgt := 2) hx hb dX1_isAllIdle_32 (by decide) ?_
          exact hk2 _ _ _ _ _ hW hS (lv_sub hl [2, 0] rfl) hX
        · have hX := it_f hX c6
          refine lv_iconst (v := (0 : Int32)) hx hb dX1_isAllIdle_27 (by decide) ?_
          have hX := Option.some.inj hX
          subst hX
          exact rt_z hx hb hr hlocks hW hS nb0 dX1_isAllIdle_28
  have L_2 : ∀ (n : Nat), ∀ (x1 : Int32) (x : Mem) (H : Heap) (locs : List Loc) (ls : Array Slot), Wh G x y H → va_S (gF G) s.heap H locs → lv_has ls 3 [(0, .ref (gA G 2 ↑p0 0)), (1, .int x1)] → m_X1_isAllIdle_l2 p0 n x1 x = some r → W p l e (headSpec WS_X1_isAllIdle RM_X1_isAllIdle).room s m ([.ref (gA G 2 ↑p0 0)] : List Value).toArray below meth c H locs 0 0 (MQ below (Qi G x y r) ([.ref (gA G 2 ↑p0 0)] : List Value).toArray s 0 0 (gF G)) (F0 m 2 ls []) := by
    intro n
    induction n with
    | zero => intro x1 x H locs ls hW hS hl hX; exact no_go hX
    | succ n ih => intro x1 x H locs ls hW hS hl hX; exact B_2 _ ih _ _ _ _ _ hW hS hl hX
  refine lv_iconst (v := (0 : Int32)) hx hb dX1_isAllIdle_0 (by decide) ?_
  refine lv_topi (fun x1_1 e9 => ?_)
  have hX := lt_go hX e9
  refine lv_istore_n (lv' := [(1, .int x1_1), (0, .ref (gA G 2 ↑p0 0))]) hx hb dX1_isAllIdle_1 rfl hl (by decide) rfl (fun ls hl => ?_)
  exact L_2 FU _ _ _ _ _ hW hS (lv_sub hl [1, 0] rfl) hX
set_option maxHeartbeats 4000000 in
theorem k_X1_isAllIdle {p : Program} {l : Launch} {e : Env} {R : Room} {s : State} {m : MethodId} {args : Array Value} {below : List Frame} {meth : Method} {c : Code} {H : Heap} {locs : List Loc} {cells slots : Nat} {Q : State → Prop} {cc : ByteArray} {pc nL idx : Nat} {own : String} {ls : Array Slot} {rest : List Value} {G : Geo} {x y : Mem} {H0 : Heap} {p0 : Fin 10} {v : Int32} (hx : p.tables.exec = Jvm.exec) (hb : c.code = cc) (hml : c.maxLocals = nL) (hown : s.vm.findClass own = some m.cls) (htg : ∀ w ∈ wsG, w.before args s = true) (hK : Kt G s) (hW : Wh G x y H) (hS : va_S (gF G) H0 H locs) (h : m_X1_isAllIdle p0 x = some v) (hlk : Cond.methodLink own idx yX1_isAllIdle ∈ wsG) (hn : ls.size = nL) (hr : (rest.map fun v => v.category).sum ≤ 8) (hR1 : 1 + 1 ≤ R.frames) (hR2 : 8 + (3 + 11) + 21 ≤ R.locals) (hf : cells ≤ R.cells ∧ slots ≤ R.slots) (hdg : decode cc pc = .ok (.invokevirtual idx, 3)) (kk : ∀ (H1 : Heap) (locs1 : List Loc), Wh G x y H1 → va_S (gF G) H0 H1 locs1 → W p l e R s m args below meth c H1 locs1 cells slots Q (F0 m (pc + 3) ls (.int v :: rest))) : W p l e R s m args below meth c H locs cells slots Q (F0 m pc ls (.ref (gA G 2 ↑p0 0) :: rest)) := by
  refine va_calli (va_runV (As := []) (rest := rest) ⟨hx, hb, hml, hown, htg⟩ (c_X1_isAllIdle l G x y p0 v h) (cwV 0 htg (gd_V hlk q964 q965 q16 q966) rfl rfl rfl (by decide +kernel) ⟨hR1, hR2⟩) ⟨fun a U g mk q => ⟨q.1, q.2.1.calling, q.2.2⟩, rc_2 hK hW p0, fun U hU hW9 => ⟨rfl, hK.warm hW9, by rw [hU]; exact hW⟩⟩ rfl rfl hn rfl (lv_room hr) hdg hf) hS (fun _ _ h9 => h9) (fun _ h9 => h9) ?_
  intro r9 u t H1 locs1 ht hvm hw hB hz1 hk1 hS1
  replace hB : Wh G x y t.heap := hB
  rw [ht] at hB
  replace hw : r9 = v := hw
  subst hw
  exact kk H1 locs1 hB hS1
/-! METHOD X1_startJob -/
def m_X1_startJob_j81 (p0 : Fin 10) (p1 : Fin 10 × Fin 4) (x2 : Int32) (x3 : Fin 10 × Fin 31) (x4 : Int32) (x : Mem) : Option Mem :=
  lt_ (up4 x 0 ↑p1.1 ↑p1.2 3 x2) fun x20 => bd_ (m_X0_workAt p1 (0 : Int32) x4 (x20 12 ↑x3.1 ↑x3.2 3) x20) fun x23 => bd_ (m_X7_add p0 (x23 2 ↑p0 0 0) (x23 0 ↑p1.1 ↑p1.2 0) (0 : Int32) x4 x23) fun x26 => some x26
def m_X1_startJob_j56 (p0 : Fin 10) (p1 : Fin 10 × Fin 4) (x2 : Int32) (x3 : Fin 10 × Fin 31) (x4 : Int32) (x : Mem) : Option Mem :=
  if (x 12 ↑x3.1 ↑x3.2 6) = (-1 : Int32) then (m_X1_startJob_j81 p0 p1 x2 x3 x4 x) else (bd_ (m_X1_storeAt p0 (x 12 ↑x3.1 ↑x3.2 6)) fun r18 => lt_ (up4 x 9 ↑r18.1 ↑r18.2 2 ((x 9 ↑r18.1 ↑r18.2 2) + (1 : Int32))) fun x19 => m_X1_startJob_j81 p0 p1 x2 x3 x4 x19)
def m_X1_startJob (p0 : Fin 10) (p1 : Fin 10 × Fin 4) (x : Mem) : Option Mem :=
  bd2_ (m_X0_takeFirstOfRow p1 x) fun r2 x3 => lt_ r2 fun x2_4 => bd_ (m_X1_jobAt p0 x2_4) fun r6 => bd_ (m_X5_zoneAt r6 (0 : Int32) x3) fun r8 => lt_ r8 fun x4_9 => lt_ (up4 x3 12 ↑r6.1 ↑r6.2 7 (1 : Int32)) fun x10 => lt_ (up4 x10 12 ↑r6.1 ↑r6.2 8 (x10 2 ↑p0 0 0)) fun x11 => if (x11 12 ↑r6.1 ↑r6.2 5) = (-1 : Int32) then (m_X1_startJob_j56 p0 p1 x2_4 r6 x4_9 x11) else (bd_ (m_X1_storeAt p0 (x11 12 ↑r6.1 ↑r6.2 5)) fun r14 => lt_ (up4 x11 9 ↑r14.1 ↑r14.2 3 ((x11 9 ↑r14.1 ↑r14.2 3) + (1 : Int32))) fun x15 => m_X1_startJob_j56 p0 p1 x2_4 r6 x4_9 x15)
abbrev WS_X1_startJob : List Cond := .code yX1_startJob cX1_startJob 5 none :: wsG
abbrev RM_X1_startJob : Room := { frames := 1, cells := 0, slots := 0, locals := 25 }
set_option maxHeartbeats 4000000 in
set_option maxRecDepth 100000 in
theorem c_X1_startJob (l : Launch) (G : Geo) (x y : Mem) (p0 : Fin 10) (p1 : Fin 10 × Fin 4) (r : Mem) (h : m_X1_startJob p0 p1 x = some r) : Met l yX1_startJob WS_X1_startJob RM_X1_startJob (Pw G x y [.ref (gA G 2 ↑p0 0), .ref (gA G 0 ↑p1.1 ↑p1.2)]) (Qv G r y) 0 0 (gF G) := by
  refine Met.ofW (cc := cX1_startJob) (maxL := 5) (ret := none) (by decide) rfl ?_
  intro p e s m args below meth c s₁ B hml hv
  obtain ⟨rfl, hK, hW⟩ := hv
  have hx := B.exec
  have hb := B.bytes
  have hr := B.returns
  have hts := atoms_spec (ws := WS_X1_startJob) B.pre
  have htg : ∀ w ∈ wsG, w.before _ s = true := fun w h => hts w (List.mem_cons_of_mem _ h)
  have hown : s.vm.findClass RX1 = some m.cls := findClass_of_methodNamed B.named
  have hlocks := B.notSynchronized
  have hS : va_S (gF G) s.heap s.heap [] := va_S.rf
  have hl := lv_entry ([.ref (gA G 2 ↑p0 0), .ref (gA G 0 ↑p1.1 ↑p1.2)]) (n := 5) (Nat.le_of_ble_eq_true rfl)
  rw [lg_entry_eq]
  generalize (lg_sl ([.ref (gA G 2 ↑p0 0), .ref (gA G 0 ↑p1.1 ↑p1.2)]) ++ List.replicate (5 - (lg_sl ([.ref (gA G 2 ↑p0 0), .ref (gA G 0 ↑p1.1 ↑p1.2)])).length) Slot.unset).toArray = ls at hl ⊢
  have hl : lv_has ls 5 [(0, .ref (gA G 2 ↑p0 0)), (1, .ref (gA G 0 ↑p1.1 ↑p1.2))] := hl
  have hX := h
  unfold m_X1_startJob at hX
  have J_81 : ∀ (x2 : Int32) (x3 : Fin 10 × Fin 31) (x4 : Int32) (x : Mem) (H : Heap) (locs : List Loc) (ls : Array Slot), Wh G x y H → va_S (gF G) s.heap H locs → lv_has ls 5 [(0, .ref (gA G 2 ↑p0 0)), (1, .ref (gA G 0 ↑p1.1 ↑p1.2)), (2, .int x2), (3, .ref (gA G 12 ↑x3.1 ↑x3.2)), (4, .int x4)] → m_X1_startJob_j81 p0 p1 x2 x3 x4 x = some r → W p l e (headSpec WS_X1_startJob RM_X1_startJob).room s m ([.ref (gA G 2 ↑p0 0), .ref (gA G 0 ↑p1.1 ↑p1.2)] : List Value).toArray below meth c H locs 0 0 (MQ below (Qv G r y) ([.ref (gA G 2 ↑p0 0), .ref (gA G 0 ↑p1.1 ↑p1.2)] : List Value).toArray s 0 0 (gF G)) (F0 m 81 ls []) := by
    intro x2 x3 x4 x H locs ls hW hS hl hX
    unfold m_X1_startJob_j81 at hX
    refine lv_aload_n hx hb dX1_startJob_81 rfl (lv_at hl 1 rfl) ?_
    refine lv_iload_n hx hb dX1_startJob_82 rfl (lv_at hl 2 rfl) ?_
    refine pf_0_3 hx hb htg hown hK hW hS p1 q644 dX1_startJob_83 (fun H locs hW hS => ?_)
    obtain ⟨x20, e9⟩ : ∃ w : Mem, w = (up4 x 0 ↑p1.1 ↑p1.2 3 x2) := ⟨_, rfl⟩
    rw [← e9] at hW
    have hX := lt_go hX e9
    refine lv_aload_n hx hb dX1_startJob_86 rfl (lv_at hl 1 rfl) ?_
    refine lv_iconst (v := (0 : Int32)) hx hb dX1_startJob_87 (by decide) ?_
    refine lv_iload hx hb dX1_startJob_88 (lv_at hl 4 rfl) ?_
    refine lv_aload_n hx hb dX1_startJob_90 rfl (lv_at hl 3 rfl) ?_
    refine gf_12_3 hx hb htg hown hK hW x3 q551 dX1_startJob_91 ?_
    obtain ⟨x23, h21, hX⟩ := bd_go hX
    refine k_X0_workAt hx hb hml hown htg hK hW hS h21 q706 hl.1 (Nat.le_of_ble_eq_true rfl) (Nat.le_of_ble_eq_true rfl) (Nat.le_of_ble_eq_true rfl) ⟨Nat.zero_le _, Nat.zero_le _⟩ dX1_startJob_94 (fun H locs hW hS => ?_)
    refine lv_aload_n hx hb dX1_startJob_97 rfl (lv_at hl 0 rfl) ?_
    refine gf_2_8 hx hb htg hown hK hW p0 q44 dX1_startJob_98 ?_
    refine lv_aload_n hx hb dX1_startJob_101 rfl (lv_at hl 0 rfl) ?_
    refine gf_2_0 hx hb htg hown hK hW p0 q239 dX1_startJob_102 ?_
    refine lv_aload_n hx hb dX1_startJob_105 rfl (lv_at hl 1 rfl) ?_
    refine gf_0_0 hx hb htg hown hK hW p1 q705 dX1_startJob_106 ?_
    refine lv_iconst (v := (0 : Int32)) hx hb dX1_startJob_109 (by decide) ?_
    refine lv_iload hx hb dX1_startJob_110 (lv_at hl 4 rfl) ?_
    obtain ⟨x26, h24, hX⟩ := bd_go hX
    refine k_X7_add hx hb hml hown htg hK hW hS h24 q710 hl.1 (Nat.le_of_ble_eq_true rfl) (Nat.le_of_ble_eq_true rfl) (Nat.le_of_ble_eq_true rfl) ⟨Nat.zero_le _, Nat.zero_le _⟩ dX1_startJob_112 (fun H locs hW hS => ?_)
    have hX := Option.some.inj hX
    subst hX
    exact rt_v hx hb hr hlocks hW hS dX1_startJob_115
  have J_56 : ∀ (x2 : Int32) (x3 : Fin 10 × Fin 31) (x4 : Int32) (x : Mem) (H : Heap) (locs : List Loc) (ls : Array Slot), Wh G x y H → va_S (gF G) s.heap H locs → lv_has ls 5 [(0, .ref (gA G 2 ↑p0 0)), (1, .ref (gA G 0 ↑p1.1 ↑p1.2)), (2, .int x2), (3, .ref (gA G 12 ↑x3.1 ↑x3.2)), (4, .int x4)] → m_X1_startJob_j56 p0 p1 x2 x3 x4 x = some r → W p l e (headSpec WS_X1_startJob RM_X1_startJob).room s m ([.ref (gA G 2 ↑p0 0), .ref (gA G 0 ↑p1.1 ↑p1.2)] : List Value).toArray below meth c H locs 0 0 (MQ below (Qv G r y) ([.ref (gA G 2 ↑p0 0), .ref (gA G 0 ↑p1.1 ↑p1.2)] : List Value).toArray s 0 0 (gF G)) (F0 m 56 ls []) := by
    intro x2 x3 x4 x H locs ls hW hS hl hX
    unfold m_X1_startJob_j56 at hX
    refine lv_aload_n hx hb dX1_startJob_56 rfl (lv_at hl 3 rfl) ?_
    refine gf_12_6 hx hb htg hown hK hW x3 q554 dX1_startJob_57 ?_
    refine lv_iconst (v := (-1 : Int32)) hx hb dX1_startJob_60 (by decide) ?_
    refine lv_icmp_eq (tgt := 81) hx hb dX1_startJob_61 (by decide) (fun c16 => ?_) (fun c16 => ?_)
    · have hX := it_t hX c16
      exact J_81 _ _ _ _ _ _ _ hW hS (lv_sub hl [0, 1, 2, 3, 4] rfl) hX
    · have hX := it_f hX c16
      refine lv_aload_n hx hb dX1_startJob_64 rfl (lv_at hl 0 rfl) ?_
      refine lv_aload_n hx hb dX1_startJob_65 rfl (lv_at hl 3 rfl) ?_
      refine gf_12_6 hx hb htg hown hK hW x3 q554 dX1_startJob_66 ?_
      obtain ⟨r18, h17, hX⟩ := bd_go hX
      refine k_X1_storeAt hx hb hml hown htg hK hW hS h17 q271 hl.1 (Nat.le_of_ble_eq_true rfl) (Nat.le_of_ble_eq_true rfl) (Nat.le_of_ble_eq_true rfl) ⟨Nat.zero_le _, Nat.zero_le _⟩ dX1_startJob_69 (fun H locs hW hS => ?_)
      refine lv_dup hx hb dX1_startJob_72 rfl ?_
      refine gf_9_2 hx hb htg hown hK hW r18 q797 dX1_startJob_73 ?_
      refine lv_iconst (v := (1 : Int32)) hx hb dX1_startJob_76 (by decide) ?_
      refine lv_iadd hx hb dX1_startJob_77 ?_
      refine pf_9_2 hx hb htg hown hK hW hS r18 q797 dX1_startJob_78 (fun H locs hW hS => ?_)
      obtain ⟨x19, e9⟩ : ∃ w : Mem, w = (up4 x 9 ↑r18.1 ↑r18.2 2 ((x 9 ↑r18.1 ↑r18.2 2) + (1 : Int32))) := ⟨_, rfl⟩
      rw [← e9] at hW
      have hX := lt_go hX e9
      exact J_81 _ _ _ _ _ _ _ hW hS (lv_sub hl [0, 1, 2, 3, 4] rfl) hX
  refine lv_aload_n hx hb dX1_startJob_0 rfl (lv_at hl 1 rfl) ?_
  obtain ⟨r2, x3, h1, hX⟩ := bd2_go hX
  refine k_X0_takeFirstOfRow hx hb hml hown htg hK hW hS h1 q798 hl.1 (Nat.le_of_ble_eq_true rfl) (Nat.le_of_ble_eq_true rfl) (Nat.le_of_ble_eq_true rfl) ⟨Nat.zero_le _, Nat.zero_le _⟩ dX1_startJob_1 (fun H locs hW hS => ?_)
  refine lv_topi (fun x2_4 e9 => ?_)
  have hX := lt_go hX e9
  refine lv_istore_n (lv' := [(2, .int x2_4), (0, .ref (gA G 2 ↑p0 0)), (1, .ref (gA G 0 ↑p1.1 ↑p1.2))]) hx hb dX1_startJob_4 rfl hl (by decide) rfl (fun ls hl => ?_)
  refine lv_aload_n hx hb dX1_startJob_5 rfl (lv_at hl 1 rfl) ?_
  refine lv_iload_n hx hb dX1_startJob_6 rfl (lv_at hl 0 rfl) ?_
  obtain ⟨r6, h5, hX⟩ := bd_go hX
  refine k_X1_jobAt hx hb hml hown htg hK hW hS h5 q284 hl.1 (Nat.le_of_ble_eq_true rfl) (Nat.le_of_ble_eq_true rfl) (Nat.le_of_ble_eq_true rfl) ⟨Nat.zero_le _, Nat.zero_le _⟩ dX1_startJob_7 (fun H locs hW hS => ?_)
  refine lv_astore_n (lv' := [(3, .ref (gA G 12 ↑r6.1 ↑r6.2)), (2, .int x2_4), (0, .ref (gA G 2 ↑p0 0)), (1, .ref (gA G 0 ↑p1.1 ↑p1.2))]) hx hb dX1_startJob_10 rfl hl (by decide) rfl (fun ls hl => ?_)
  refine lv_aload_n hx hb dX1_startJob_11 rfl (lv_at hl 0 rfl) ?_
  refine lv_iconst (v := (0 : Int32)) hx hb dX1_startJob_12 (by decide) ?_
  obtain ⟨r8, h7, hX⟩ := bd_go hX
  refine k_X5_zoneAt hx hb hml hown htg hK hW hS h7 q651 hl.1 (Nat.le_of_ble_eq_true rfl) (Nat.le_of_ble_eq_true rfl) (Nat.le_of_ble_eq_true rfl) ⟨Nat.zero_le _, Nat.zero_le _⟩ dX1_startJob_13 (fun H locs hW hS => ?_)
  refine lv_topi (fun x4_9 e9 => ?_)
  have hX := lt_go hX e9
  refine lv_istore (lv' := [(4, .int x4_9), (3, .ref (gA G 12 ↑r6.1 ↑r6.2)), (2, .int x2_4), (0, .ref (gA G 2 ↑p0 0)), (1, .ref (gA G 0 ↑p1.1 ↑p1.2))]) hx hb dX1_startJob_16 hl (by decide) rfl (fun ls hl => ?_)
  refine lv_aload_n hx hb dX1_startJob_18 rfl (lv_at hl 1 rfl) ?_
  refine lv_iconst (v := (1 : Int32)) hx hb dX1_startJob_19 (by decide) ?_
  refine pf_12_7 hx hb htg hown hK hW hS r6 q555 dX1_startJob_20 (fun H locs hW hS => ?_)
  obtain ⟨x10, e9⟩ : ∃ w : Mem, w = (up4 x3 12 ↑r6.1 ↑r6.2 7 (1 : Int32)) := ⟨_, rfl⟩
  rw [← e9] at hW
  have hX := lt_go hX e9
  refine lv_aload_n hx hb dX1_startJob_23 rfl (lv_at hl 1 rfl) ?_
  refine lv_aload_n hx hb dX1_startJob_24 rfl (lv_at hl 3 rfl) ?_
  refine gf_2_0 hx hb htg hown hK hW p0 q239 dX1_startJob_25 ?_
  refine pf_12_8 hx hb htg hown hK hW hS r6 q556 dX1_startJob_28 (fun H locs hW hS => ?_)
  obtain ⟨x11, e9⟩ : ∃ w : Mem, w = (up4 x10 12 ↑r6.1 ↑r6.2 8 (x10 2 ↑p0 0 0)) := ⟨_, rfl⟩
  rw [← e9] at hW
  have hX := lt_go hX e9
  refine lv_aload_n hx hb dX1_startJob_31 rfl (lv_at hl 1 rfl) ?_
  refine gf_12_5 hx hb htg hown hK hW r6 q553 dX1_startJob_32 ?_
  refine lv_iconst (v := (-1 : Int32)) hx hb dX1_startJob_35 (by decide) ?_
  refine lv_icmp_eq (tgt := 56) hx hb dX1_startJob_36 (by decide) (fun c12 => ?_) (fun c12 => ?_)
  · have hX := it_t hX c12
    exact J_56 _ _ _ _ _ _ _ hW hS (lv_sub hl [3, 4, 2, 1, 0] rfl) hX
  · have hX := it_f hX c12
    refine lv_aload_n hx hb dX1_startJob_39 rfl (lv_at hl 3 rfl) ?_
    refine lv_aload_n hx hb dX1_startJob_40 rfl (lv_at hl 1 rfl) ?_
    refine gf_12_5 hx hb htg hown hK hW r6 q553 dX1_startJob_41 ?_
    obtain ⟨r14, h13, hX⟩ := bd_go hX
    refine k_X1_storeAt hx hb hml hown htg hK hW hS h13 q271 hl.1 (Nat.le_of_ble_eq_true rfl) (Nat.le_of_ble_eq_true rfl) (Nat.le_of_ble_eq_true rfl) ⟨Nat.zero_le _, Nat.zero_le _⟩ dX1_startJob_44 (fun H locs hW hS => ?_)
    refine lv_dup hx hb dX1_startJob_47 rfl ?_
    refine gf_9_3 hx hb htg hown hK hW r14 q796 dX1_startJob_48 ?_
    refine lv_iconst (v := (1 : Int32)) hx hb dX1_startJob_51 (by decide) ?_
    refine lv_iadd hx hb dX1_startJob_52 ?_
    refine pf_9_3 hx hb htg hown hK hW hS r14 q796 dX1_startJob_53 (fun H locs hW hS => ?_)
    obtain ⟨x15, e9⟩ : ∃ w : Mem, w = (up4 x11 9 ↑r14.1 ↑r14.2 3 ((x11 9 ↑r14.1 ↑r14.2 3) + (1 : Int32))) := ⟨_, rfl⟩
    rw [← e9] at hW
    have hX := lt_go hX e9
    exact J_56 _ _ _ _ _ _ _ hW hS (lv_sub hl [3, 4, 2, 1, 0] rfl) hX
set_option maxHeartbeats 4000000 in
theorem k_X1_startJob {p : Program} {l : Launch} {e : Env} {R : Room} {s : State} {m : MethodId} {args : Array Value} {below : List Frame} {meth : Method} {c : Code} {H : Heap} {locs : List Loc} {cells slots : Nat} {Q : State → Prop} {cc : ByteArray} {pc nL idx : Nat} {own : String} {ls : Array Slot} {rest : List Value} {G : Geo} {x y : Mem} {H0 : Heap} {p0 : Fin 10} {p1 : Fin 10 × Fin 4} {z : Mem} (hx : p.tables.exec = Jvm.exec) (hb : c.code = cc) (hml : c.maxLocals = nL) (hown : s.vm.findClass own = some m.cls) (htg : ∀ w ∈ wsG, w.before args s = true) (hK : Kt G s) (hW : Wh G x y H) (hS : va_S (gF G) H0 H locs) (h : m_X1_startJob p0 p1 x = some z) (hlk : Cond.methodLink own idx yX1_startJob ∈ wsG) (hn : ls.size = nL) (hr : (rest.map fun v => v.category).sum ≤ 8) (hR1 : 1 + 1 ≤ R.frames) (hR2 : 8 + (5 + 11) + 25 ≤ R.locals) (hf : cells ≤ R.cells ∧ slots ≤ R.slots) (hdg : decode cc pc = .ok (.invokevirtual idx, 3)) (kk : ∀ (H1 : Heap) (locs1 : List Loc), Wh G z y H1 → va_S (gF G) H0 H1 locs1 → W p l e R s m args below meth c H1 locs1 cells slots Q (F0 m (pc + 3) ls (rest))) : W p l e R s m args below meth c H locs cells slots Q (F0 m pc ls (.ref (gA G 0 ↑p1.1 ↑p1.2) :: .ref (gA G 2 ↑p0 0) :: rest)) := by
  refine va_callv (va_runV (As := [.ref (gA G 0 ↑p1.1 ↑p1.2)]) (rest := rest) ⟨hx, hb, hml, hown, htg⟩ (c_X1_startJob l G x y p0 p1 z h) (cwV 1 htg (gd_V hlk q793 q794 q16 q795) rfl rfl rfl (by decide +kernel) ⟨hR1, hR2⟩) ⟨fun a U g mk q => ⟨q.1, q.2.1.calling, q.2.2⟩, rc_2 hK hW p0, fun U hU hW9 => ⟨rfl, hK.warm hW9, by rw [hU]; exact hW⟩⟩ rfl rfl hn rfl (lv_room hr) hdg hf) hS (fun _ _ h9 => h9) (fun _ h9 => h9) ?_
  intro u t H1 locs1 ht hvm hw hB hz1 hk1 hS1
  replace hB : Wh G z y t.heap := hB
  rw [ht] at hB
  exact kk H1 locs1 hB hS1
/-! METHOD X1_startMove -/
def m_X1_startMove_j49 (p0 : Fin 10) (p1 : Fin 10 × Fin 4) (x2 : Fin 10 × Fin 31) (x3 : Int32) (s0 : Int32) (x : Mem) : Option Mem :=
  lt_ s0 fun x5_10 => lt_ (up4 x 0 ↑p1.1 ↑p1.2 2 (2 : Int32)) fun x11 => lt_ (up4 x11 0 ↑p1.1 ↑p1.2 5 (((1 : Int32) + ((x11 12 ↑x2.1 ↑x2.2 4) / (4 : Int32))) + x5_10)) fun x12 => lt_ (up4 x12 0 ↑p1.1 ↑p1.2 6 ((x12 0 ↑p1.1 ↑p1.2 6) ||| (shl32 (1 : Int32) x3))) fun x13 => bd_ (m_X7_add p0 (x13 2 ↑p0 0 0) (x13 0 ↑p1.1 ↑p1.2 0) (1 : Int32) x3 x13) fun x16 => some x16
def m_X1_startMove (p0 : Fin 10) (p1 : Fin 10 × Fin 4) (x : Mem) : Option Mem :=
  bd_ (m_X1_jobAt p0 (x 0 ↑p1.1 ↑p1.2 3)) fun r2 => bd_ (m_X5_zoneAt r2 ((x 0 ↑p1.1 ↑p1.2 4) + (1 : Int32)) x) fun r4 => lt_ r4 fun x3_5 => lt_ ((shl32 (1 : Int32) (x3_5 + (1 : Int32))) ||| (sar32 (shl32 (1 : Int32) x3_5) (1 : Int32))) fun x4_6 => bd_ (m_X1_heldByOthers p0 p1 x) fun r8 => if (r8 &&& x4_6) = 0 then (m_X1_startMove_j49 p0 p1 r2 x3_5 (0 : Int32) x) else (m_X1_startMove_j49 p0 p1 r2 x3_5 (1 : Int32) x)
abbrev WS_X1_startMove : List Cond := .code yX1_startMove cX1_startMove 6 none :: wsG
abbrev RM_X1_startMove : Room := { frames := 2, cells := 0, slots := 0, locals := 44 }
set_option maxHeartbeats 4000000 in
set_option maxRecDepth 100000 in
theorem c_X1_startMove (l : Launch) (G : Geo) (x y : Mem) (p0 : Fin 10) (p1 : Fin 10 × Fin 4) (r : Mem) (h : m_X1_startMove p0 p1 x = some r) : Met l yX1_startMove WS_X1_startMove RM_X1_startMove (Pw G x y [.ref (gA G 2 ↑p0 0), .ref (gA G 0 ↑p1.1 ↑p1.2)]) (Qv G r y) 0 0 (gF G) := by
  refine Met.ofW (cc := cX1_startMove) (maxL := 6) (ret := none) (by decide) rfl ?_
  intro p e s m args below meth c s₁ B hml hv
  obtain ⟨rfl, hK, hW⟩ := hv
  have hx := B.exec
  have hb := B.bytes
  have hr := B.returns
  have hts := atoms_spec (ws := WS_X1_startMove) B.pre
  have htg : ∀ w ∈ wsG, w.before _ s = true := fun w h => hts w (List.mem_cons_of_mem _ h)
  have hown : s.vm.findClass RX1 = some m.cls := findClass_of_methodNamed B.named
  have hlocks := B.notSynchronized
  have hS : va_S (gF G) s.heap s.heap [] := va_S.rf
  have hl := lv_entry ([.ref (gA G 2 ↑p0 0), .ref (gA G 0 ↑p1.1 ↑p1.2)]) (n := 6) (Nat.le_of_ble_eq_true rfl)
  rw [lg_entry_eq]
  generalize (lg_sl ([.ref (gA G 2 ↑p0 0), .ref (gA G 0 ↑p1.1 ↑p1.2)]) ++ List.replicate (6 - (lg_sl ([.ref (gA G 2 ↑p0 0), .ref (gA G 0 ↑p1.1 ↑p1.2)])).length) Slot.unset).toArray = ls at hl ⊢
  have hl : lv_has ls 6 [(0, .ref (gA G 2 ↑p0 0)), (1, .ref (gA G 0 ↑p1.1 ↑p1.2))] := hl
  have hX := h
  unfold m_X1_startMove at hX
  have J_49 : ∀ (x2 : Fin 10 × Fin 31) (x3 : Int32) (s0 : Int32) (x : Mem) (H : Heap) (locs : List Loc) (ls : Array Slot), Wh G x y H → va_S (gF G) s.heap H locs → lv_has ls 6 [(0, .ref (gA G 2 ↑p0 0)), (1, .ref (gA G 0 ↑p1.1 ↑p1.2)), (2, .ref (gA G 12 ↑x2.1 ↑x2.2)), (3, .int x3)] → m_X1_startMove_j49 p0 p1 x2 x3 s0 x = some r → W p l e (headSpec WS_X1_startMove RM_X1_startMove).room s m ([.ref (gA G 2 ↑p0 0), .ref (gA G 0 ↑p1.1 ↑p1.2)] : List Value).toArray below meth c H locs 0 0 (MQ below (Qv G r y) ([.ref (gA G 2 ↑p0 0), .ref (gA G 0 ↑p1.1 ↑p1.2)] : List Value).toArray s 0 0 (gF G)) (F0 m 49 ls [.int s0]) := by
    intro x2 x3 s0 x H locs ls hW hS hl hX
    unfold m_X1_startMove_j49 at hX
    refine lv_topi (fun x5_10 e9 => ?_)
    have hX := lt_go hX e9
    refine lv_istore (lv' := [(5, .int x5_10), (0, .ref (gA G 2 ↑p0 0)), (1, .ref (gA G 0 ↑p1.1 ↑p1.2)), (2, .ref (gA G 12 ↑x2.1 ↑x2.2)), (3, .int x3)]) hx hb dX1_startMove_49 hl (by decide) rfl (fun ls hl => ?_)
    refine lv_aload_n hx hb dX1_startMove_51 rfl (lv_at hl 2 rfl) ?_
    refine lv_iconst (v := (2 : Int32)) hx hb dX1_startMove_52 (by decide) ?_
    refine pf_0_2 hx hb htg hown hK hW hS p1 q643 dX1_startMove_53 (fun H locs hW hS => ?_)
    obtain ⟨x11, e9⟩ : ∃ w : Mem, w = (up4 x 0 ↑p1.1 ↑p1.2 2 (2 : Int32)) := ⟨_, rfl⟩
    rw [← e9] at hW
    have hX := lt_go hX e9
    refine lv_aload_n hx hb dX1_startMove_56 rfl (lv_at hl 2 rfl) ?_
    refine lv_iconst (v := (1 : Int32)) hx hb dX1_startMove_57 (by decide) ?_
    refine lv_aload_n hx hb dX1_startMove_58 rfl (lv_at hl 3 rfl) ?_
    refine gf_12_4 hx hb htg hown hK hW x2 q552 dX1_startMove_59 ?_
    refine lv_iconst (v := (4 : Int32)) hx hb dX1_startMove_62 (by decide) ?_
    refine lv_idiv hx hb dX1_startMove_63 (by decide) ?_
    refine lv_iadd hx hb dX1_startMove_64 ?_
    refine lv_iload hx hb dX1_startMove_65 (lv_at hl 0 rfl) ?_
    refine lv_iadd hx hb dX1_startMove_67 ?_
    refine pf_0_5 hx hb htg hown hK hW hS p1 q647 dX1_startMove_68 (fun H locs hW hS => ?_)
    obtain ⟨x12, e9⟩ : ∃ w : Mem, w = (up4 x11 0 ↑p1.1 ↑p1.2 5 (((1 : Int32) + ((x11 12 ↑x2.1 ↑x2.2 4) / (4 : Int32))) + x5_10)) := ⟨_, rfl⟩
    rw [← e9] at hW
    have hX := lt_go hX e9
    refine lv_aload_n hx hb dX1_startMove_71 rfl (lv_at hl 2 rfl) ?_
    refine lv_dup hx hb dX1_startMove_72 rfl ?_
    refine gf_0_6 hx hb htg hown hK hW p1 q209 dX1_startMove_73 ?_
    refine lv_iconst (v := (1 : Int32)) hx hb dX1_startMove_76 (by decide) ?_
    refine lv_iload_n hx hb dX1_startMove_77 rfl (lv_at hl 4 rfl) ?_
    refine lv_ishl_ hx hb dX1_startMove_78 ?_
    refine lv_ior hx hb dX1_startMove_79 ?_
    refine pf_0_6 hx hb htg hown hK hW hS p1 q209 dX1_startMove_80 (fun H locs hW hS => ?_)
    obtain ⟨x13, e9⟩ : ∃ w : Mem, w = (up4 x12 0 ↑p1.1 ↑p1.2 6 ((x12 0 ↑p1.1 ↑p1.2 6) ||| (shl32 (1 : Int32) x3))) := ⟨_, rfl⟩
    rw [← e9] at hW
    have hX := lt_go hX e9
    refine lv_aload_n hx hb dX1_startMove_83 rfl (lv_at hl 1 rfl) ?_
    refine gf_2_8 hx hb htg hown hK hW p0 q44 dX1_startMove_84 ?_
    refine lv_aload_n hx hb dX1_startMove_87 rfl (lv_at hl 1 rfl) ?_
    refine gf_2_0 hx hb htg hown hK hW p0 q239 dX1_startMove_88 ?_
    refine lv_aload_n hx hb dX1_startMove_91 rfl (lv_at hl 2 rfl) ?_
    refine gf_0_0 hx hb htg hown hK hW p1 q705 dX1_startMove_92 ?_
    refine lv_iconst (v := (1 : Int32)) hx hb dX1_startMove_95 (by decide) ?_
    refine lv_iload_n hx hb dX1_startMove_96 rfl (lv_at hl 4 rfl) ?_
    obtain ⟨x16, h14, hX⟩ := bd_go hX
    refine k_X7_add hx hb hml hown htg hK hW hS h14 q710 hl.1 (Nat.le_of_ble_eq_true rfl) (Nat.le_of_ble_eq_true rfl) (Nat.le_of_ble_eq_true rfl) ⟨Nat.zero_le _, Nat.zero_le _⟩ dX1_startMove_97 (fun H locs hW hS => ?_)
    have hX := Option.some.inj hX
    subst hX
    exact rt_v hx hb hr hlocks hW hS dX1_startMove_100
  refine lv_aload_n hx hb dX1_startMove_0 rfl (lv_at hl 0 rfl) ?_
  refine lv_aload_n hx hb dX1_startMove_1 rfl (lv_at hl 1 rfl) ?_
  refine gf_0_3 hx hb htg hown hK hW p1 q644 dX1_startMove_2 ?_
  obtain ⟨r2, h1, hX⟩ := bd_go hX
  refine k_X1_jobAt hx hb hml hown htg hK hW hS h1 q284 hl.1 (Nat.le_of_ble_eq_true rfl) (Nat.le_of_ble_eq_true rfl) (Nat.le_of_ble_eq_true rfl) ⟨Nat.zero_le _, Nat.zero_le _⟩ dX1_startMove_5 (fun H locs hW hS => ?_)
  refine lv_astore_n (lv' := [(2, .ref (gA G 12 ↑r2.1 ↑r2.2)), (0, .ref (gA G 2 ↑p0 0)), (1, .ref (gA G 0 ↑p1.1 ↑p1.2))]) hx hb dX1_startMove_8 rfl hl (by decide) rfl (fun ls hl => ?_)
  refine lv_aload_n hx hb dX1_startMove_9 rfl (lv_at hl 0 rfl) ?_
  refine lv_aload_n hx hb dX1_startMove_10 rfl (lv_at hl 2 rfl) ?_
  refine gf_0_4 hx hb htg hown hK hW p1 q646 dX1_startMove_11 ?_
  refine lv_iconst (v := (1 : Int32)) hx hb dX1_startMove_14 (by decide) ?_
  refine lv_iadd hx hb dX1_startMove_15 ?_
  obtain ⟨r4, h3, hX⟩ := bd_go hX
  refine k_X5_zoneAt hx hb hml hown htg hK hW hS h3 q651 hl.1 (Nat.le_of_ble_eq_true rfl) (Nat.le_of_ble_eq_true rfl) (Nat.le_of_ble_eq_true rfl) ⟨Nat.zero_le _, Nat.zero_le _⟩ dX1_startMove_16 (fun H locs hW hS => ?_)
  refine lv_topi (fun x3_5 e9 => ?_)
  have hX := lt_go hX e9
  refine lv_istore_n (lv' := [(3, .int x3_5), (2, .ref (gA G 12 ↑r2.1 ↑r2.2)), (0, .ref (gA G 2 ↑p0 0)), (1, .ref (gA G 0 ↑p1.1 ↑p1.2))]) hx hb dX1_startMove_19 rfl hl (by decide) rfl (fun ls hl => ?_)
  refine lv_iconst (v := (1 : Int32)) hx hb dX1_startMove_20 (by decide) ?_
  refine lv_iload_n hx hb dX1_startMove_21 rfl (lv_at hl 0 rfl) ?_
  refine lv_iconst (v := (1 : Int32)) hx hb dX1_startMove_22 (by decide) ?_
  refine lv_iadd hx hb dX1_startMove_23 ?_
  refine lv_ishl_ hx hb dX1_startMove_24 ?_
  refine lv_iconst (v := (1 : Int32)) hx hb dX1_startMove_25 (by decide) ?_
  refine lv_iload_n hx hb dX1_startMove_26 rfl (lv_at hl 0 rfl) ?_
  refine lv_ishl_ hx hb dX1_startMove_27 ?_
  refine lv_iconst (v := (1 : Int32)) hx hb dX1_startMove_28 (by decide) ?_
  refine lv_ishr_ hx hb dX1_startMove_29 ?_
  refine lv_ior hx hb dX1_startMove_30 ?_
  refine lv_topi (fun x4_6 e9 => ?_)
  have hX := lt_go hX e9
  refine lv_istore (lv' := [(4, .int x4_6), (3, .int x3_5), (2, .ref (gA G 12 ↑r2.1 ↑r2.2)), (0, .ref (gA G 2 ↑p0 0)), (1, .ref (gA G 0 ↑p1.1 ↑p1.2))]) hx hb dX1_startMove_31 hl (by decide) rfl (fun ls hl => ?_)
  refine lv_aload_n hx hb dX1_startMove_33 rfl (lv_at hl 3 rfl) ?_
  refine lv_aload_n hx hb dX1_startMove_34 rfl (lv_at hl 4 rfl) ?_
  obtain ⟨r8, h7, hX⟩ := bd_go hX
  refine k_X1_heldByOthers hx hb hml hown htg hK hW hS h7 q806 hl.1 (Nat.le_of_ble_eq_true rfl) (Nat.le_of_ble_eq_true rfl) (Nat.le_of_ble_eq_true rfl) ⟨Nat.zero_le _, Nat.zero_le _⟩ dX1_startMove_35 (fun H locs hW hS => ?_)
  refine lv_iload hx hb dX1_startMove_38 (lv_at hl 0 rfl) ?_
  refine lv_iand hx hb dX1_startMove_40 ?_
  refine lv_if_eq (tgt := 48) hx hb dX1_startMove_41 (by decide) (fun c9 => ?_) (fun c9 => ?_)
  · have hX := it_t hX c9
    refine lv_iconst (v := (0 : Int32)) hx hb dX1_startMove_48 (by decide) ?_
    exact J_49 _ _ _ _ _ _ _ hW hS (lv_sub hl [3, 4, 2, 1] rfl) hX
  · have hX := it_f hX c9
    refine lv_iconst (v := (1 : Int32)) hx hb dX1_startMove_44 (by decide) ?_
    refine lv_goto (tgt := 49) hx hb dX1_startMove_45 (by decide) ?_
    exact J_49 _ _ _ _ _ _ _ hW hS (lv_sub hl [3, 4, 2, 1] rfl) hX
set_option maxHeartbeats 4000000 in
theorem k_X1_startMove {p : Program} {l : Launch} {e : Env} {R : Room} {s : State} {m : MethodId} {args : Array Value} {below : List Frame} {meth : Method} {c : Code} {H : Heap} {locs : List Loc} {cells slots : Nat} {Q : State → Prop} {cc : ByteArray} {pc nL idx : Nat} {own : String} {ls : Array Slot} {rest : List Value} {G : Geo} {x y : Mem} {H0 : Heap} {p0 : Fin 10} {p1 : Fin 10 × Fin 4} {z : Mem} (hx : p.tables.exec = Jvm.exec) (hb : c.code = cc) (hml : c.maxLocals = nL) (hown : s.vm.findClass own = some m.cls) (htg : ∀ w ∈ wsG, w.before args s = true) (hK : Kt G s) (hW : Wh G x y H) (hS : va_S (gF G) H0 H locs) (h : m_X1_startMove p0 p1 x = some z) (hlk : Cond.methodLink own idx yX1_startMove ∈ wsG) (hn : ls.size = nL) (hr : (rest.map fun v => v.category).sum ≤ 8) (hR1 : 2 + 1 ≤ R.frames) (hR2 : 8 + (6 + 11) + 44 ≤ R.locals) (hf : cells ≤ R.cells ∧ slots ≤ R.slots) (hdg : decode cc pc = .ok (.invokevirtual idx, 3)) (kk : ∀ (H1 : Heap) (locs1 : List Loc), Wh G z y H1 → va_S (gF G) H0 H1 locs1 → W p l e R s m args below meth c H1 locs1 cells slots Q (F0 m (pc + 3) ls (rest))) : W p l e R s m args below meth c H locs cells slots Q (F0 m pc ls (.ref (gA G 0 ↑p1.1 ↑p1.2) :: .ref (gA G 2 ↑p0 0) :: rest)) := by
  refine va_callv (va_runV (As := [.ref (gA G 0 ↑p1.1 ↑p1.2)]) (rest := rest) ⟨hx, hb, hml, hown, htg⟩ (c_X1_startMove l G x y p0 p1 z h) (cwV 1 htg (gd_V hlk q803 q804 q16 q805) rfl rfl rfl (by decide +kernel) ⟨hR1, hR2⟩) ⟨fun a U g mk q => ⟨q.1, q.2.1.calling, q.2.2⟩, rc_2 hK hW p0, fun U hU hW9 => ⟨rfl, hK.warm hW9, by rw [hU]; exact hW⟩⟩ rfl rfl hn rfl (lv_room hr) hdg hf) hS (fun _ _ h9 => h9) (fun _ h9 => h9) ?_
  intro u t H1 locs1 ht hvm hw hB hz1 hk1 hS1
  replace hB : Wh G z y t.heap := hB
  rw [ht] at hB
  exact kk H1 locs1 hB hS1
