/-! METHOD X12_isBeside -/
def m_X12_isBeside_j28 (p0 : Int32) (p1 : Int32) (k5 : Int32 → Int32 → Mem → Option Int32) (x4 : Int32) (s0 : Int32) (s1 : Int32) (y : Mem) : Option Int32 :=
  lt_ (s1 ||| s0) fun x3_8 => lt_ (x4 + (1 : Int32)) fun x4_9 => k5 x3_8 x4_9 y
def m_X12_isBeside_b5 (p0 : Int32) (p1 : Int32) (k5 : Int32 → Int32 → Mem → Option Int32) (x3 : Int32) (x4 : Int32) (y : Mem) : Option Int32 :=
  if (3 : Int32) ≤ x4 then (if (x3 &&& ((shl32 (1 : Int32) (p1 + (1 : Int32))) ||| (sar32 (shl32 (1 : Int32) p1) (1 : Int32)))) = 0 then (some (0 : Int32)) else (some (1 : Int32))) else (if x4 = p0 then (m_X12_isBeside_j28 p0 p1 k5 x4 (0 : Int32) x3 y) else (bd_ (m_X12_holds x4 y) fun r7 => m_X12_isBeside_j28 p0 p1 k5 x4 r7 x3 y))
def m_X12_isBeside_l5 (p0 : Int32) (p1 : Int32) : Nat → Int32 → Int32 → Mem → Option Int32
  | 0, _, _, _ => none
  | n + 1, x3, x4, y => m_X12_isBeside_b5 p0 p1 (m_X12_isBeside_l5 p0 p1 n) x3 x4 y
def m_X12_isBeside (p0 : Int32) (p1 : Int32) (y : Mem) : Option Int32 :=
  lt_ (0 : Int32) fun x3_1 => lt_ (0 : Int32) fun x4_2 => m_X12_isBeside_l5 p0 p1 FU x3_1 x4_2 y
abbrev WS_X12_isBeside : List Cond := .code yX12_isBeside cX12_isBeside 5 (some .boolean) :: wsG
abbrev RM_X12_isBeside : Room := { frames := 3, cells := 0, slots := 0, locals := 67 }
set_option maxHeartbeats 4000000 in
set_option maxRecDepth 100000 in
theorem c_X12_isBeside (l : Launch) (G : Geo) (x y : Mem) (p0 : Int32) (p1 : Int32) (r : Int32) (h : m_X12_isBeside p0 p1 y = some r) : Met l yX12_isBeside WS_X12_isBeside RM_X12_isBeside (Pw G x y [.ref (gA G 40 0 0), .int p0, .int p1]) (Qi G x y r) 0 0 (gF G) := by
  refine Met.ofW (cc := cX12_isBeside) (maxL := 5) (ret := (some .boolean)) (by decide) rfl ?_
  intro p e s m args below meth c s₁ B hml hv
  obtain ⟨rfl, hK, hW⟩ := hv
  have hx := B.exec
  have hb := B.bytes
  have hr := B.returns
  have hts := atoms_spec (ws := WS_X12_isBeside) B.pre
  have htg : ∀ w ∈ wsG, w.before _ s = true := fun w h => hts w (List.mem_cons_of_mem _ h)
  have hown : s.vm.findClass RX12 = some m.cls := findClass_of_methodNamed B.named
  have hlocks := B.notSynchronized
  have hS : va_S (gF G) s.heap s.heap [] := va_S.rf
  have hl := lv_entry ([.ref (gA G 40 0 0), .int p0, .int p1]) (n := 5) (Nat.le_of_ble_eq_true rfl)
  rw [lg_entry_eq]
  generalize (lg_sl ([.ref (gA G 40 0 0), .int p0, .int p1]) ++ List.replicate (5 - (lg_sl ([.ref (gA G 40 0 0), .int p0, .int p1])).length) Slot.unset).toArray = ls at hl ⊢
  have hl : lv_has ls 5 [(0, .ref (gA G 40 0 0)), (1, .int p0), (2, .int p1)] := hl
  have hX := h
  unfold m_X12_isBeside at hX
  have J_28 : ∀ (k5 : Int32 → Int32 → Mem → Option Int32) (hk5 : ∀ (x3 : Int32) (x4 : Int32) (y : Mem) (H : Heap) (locs : List Loc) (ls : Array Slot), Wh G x y H → va_S (gF G) s.heap H locs → lv_has ls 5 [(0, .ref (gA G 40 0 0)), (1, .int p0), (2, .int p1), (3, .int x3), (4, .int x4)] → k5 x3 x4 y = some r → W p l e (headSpec WS_X12_isBeside RM_X12_isBeside).room s m ([.ref (gA G 40 0 0), .int p0, .int p1] : List Value).toArray below meth c H locs 0 0 (MQ below (Qi G x y r) ([.ref (gA G 40 0 0), .int p0, .int p1] : List Value).toArray s 0 0 (gF G)) (F0 m 5 ls [])), ∀ (x4 : Int32) (s0 : Int32) (s1 : Int32) (y : Mem) (H : Heap) (locs : List Loc) (ls : Array Slot), Wh G x y H → va_S (gF G) s.heap H locs → lv_has ls 5 [(0, .ref (gA G 40 0 0)), (1, .int p0), (2, .int p1), (4, .int x4)] → m_X12_isBeside_j28 p0 p1 k5 x4 s0 s1 y = some r → W p l e (headSpec WS_X12_isBeside RM_X12_isBeside).room s m ([.ref (gA G 40 0 0), .int p0, .int p1] : List Value).toArray below meth c H locs 0 0 (MQ below (Qi G x y r) ([.ref (gA G 40 0 0), .int p0, .int p1] : List Value).toArray s 0 0 (gF G)) (F0 m 28 ls [.int s0, .int s1]) := by
    intro k5 hk5 x4 s0 s1 y H locs ls hW hS hl hX
    unfold m_X12_isBeside_j28 at hX
    refine lv_ior hx hb dX12_isBeside_28 ?_
    refine lv_topi (fun x3_8 e9 => ?_)
    have hX := lt_go hX e9
    refine lv_istore_n (lv' := [(3, .int x3_8), (0, .ref (gA G 40 0 0)), (1, .int p0), (2, .int p1), (4, .int x4)]) hx hb dX12_isBeside_29 rfl hl (by decide) rfl (fun ls hl => ?_)
    obtain ⟨x4_9, e9⟩ : ∃ w : Int32, w = (x4 + (1 : Int32)) := ⟨_, rfl⟩
    have hX := lt_go hX e9
    refine lv_iinc (v := x4_9) (lv' := [(4, .int x4_9), (3, .int x3_8), (0, .ref (gA G 40 0 0)), (1, .int p0), (2, .int p1)]) hx hb dX12_isBeside_30 hl (k := 4) rfl (by rw [e9]; rfl) (by decide) rfl (fun ls hl => ?_)
    refine lv_goto (tgt := 5) hx hb dX12_isBeside_33 (by decide) ?_
    exact hk5 _ _ _ _ _ _ hW hS (lv_sub hl [2, 3, 4, 1, 0] rfl) hX
  have B_5 : ∀ (k5 : Int32 → Int32 → Mem → Option Int32) (hk5 : ∀ (x3 : Int32) (x4 : Int32) (y : Mem) (H : Heap) (locs : List Loc) (ls : Array Slot), Wh G x y H → va_S (gF G) s.heap H locs → lv_has ls 5 [(0, .ref (gA G 40 0 0)), (1, .int p0), (2, .int p1), (3, .int x3), (4, .int x4)] → k5 x3 x4 y = some r → W p l e (headSpec WS_X12_isBeside RM_X12_isBeside).room s m ([.ref (gA G 40 0 0), .int p0, .int p1] : List Value).toArray below meth c H locs 0 0 (MQ below (Qi G x y r) ([.ref (gA G 40 0 0), .int p0, .int p1] : List Value).toArray s 0 0 (gF G)) (F0 m 5 ls [])), ∀ (x3 : Int32) (x4 : Int32) (y : Mem) (H : Heap) (locs : List Loc) (ls : Array Slot), Wh G x y H → va_S (gF G) s.heap H locs → lv_has ls 5 [(0, .ref (gA G 40 0 0)), (1, .int p0), (2, .int p1), (3, .int x3), (4, .int x4)] → m_X12_isBeside_b5 p0 p1 k5 x3 x4 y = some r → W p l e (headSpec WS_X12_isBeside RM_X12_isBeside).room s m ([.ref (gA G 40 0 0), .int p0, .int p1] : List Value).toArray below meth c H locs 0 0 (MQ below (Qi G x y r) ([.ref (gA G 40 0 0), .int p0, .int p1] : List Value).toArray s 0 0 (gF G)) (F0 m 5 ls []) := by
    intro k5 hk5 x3 x4 y H locs ls hW hS hl hX
    unfold m_X12_isBeside_b5 at hX
    refine lv_iload hx hb dX12_isBeside_5 (lv_at hl 4 rfl) ?_
    refine lv_iconst (v := (3 : Int32)) hx hb dX12_isBeside_7 (by decide) ?_
    refine lv_icmp_ge (tgt := 36) hx hb dX12_isBeside_8 (by decide) (fun c3 => ?_) (fun c3 => ?_)
    · have hX := it_t hX c3
      refine lv_iload_n hx hb dX12_isBeside_36 rfl (lv_at hl 3 rfl) ?_
      refine lv_iconst (v := (1 : Int32)) hx hb dX12_isBeside_37 (by decide) ?_
      refine lv_iload_n hx hb dX12_isBeside_38 rfl (lv_at hl 2 rfl) ?_
      refine lv_iconst (v := (1 : Int32)) hx hb dX12_isBeside_39 (by decide) ?_
      refine lv_iadd hx hb dX12_isBeside_40 ?_
      refine lv_ishl_ hx hb dX12_isBeside_41 ?_
      refine lv_iconst (v := (1 : Int32)) hx hb dX12_isBeside_42 (by decide) ?_
      refine lv_iload_n hx hb dX12_isBeside_43 rfl (lv_at hl 2 rfl) ?_
      refine lv_ishl_ hx hb dX12_isBeside_44 ?_
      refine lv_iconst (v := (1 : Int32)) hx hb dX12_isBeside_45 (by decide) ?_
      refine lv_ishr_ hx hb dX12_isBeside_46 ?_
      refine lv_ior hx hb dX12_isBeside_47 ?_
      refine lv_iand hx hb dX12_isBeside_48 ?_
      refine lv_if_eq (tgt := 56) hx hb dX12_isBeside_49 (by decide) (fun c4 => ?_) (fun c4 => ?_)
      · have hX := it_t hX c4
        refine lv_iconst (v := (0 : Int32)) hx hb dX12_isBeside_56 (by decide) ?_
        have hX := Option.some.inj hX
        subst hX
        exact rt_z hx hb hr hlocks hW hS nb0 dX12_isBeside_57
      · have hX := it_f hX c4
        refine lv_iconst (v := (1 : Int32)) hx hb dX12_isBeside_52 (by decide) ?_
        refine lv_goto (tgt := 57) hx hb dX12_isBeside_53 (by decide) ?_
        have hX := Option.some.inj hX
        subst hX
        exact rt_z hx hb hr hlocks hW hS nb1 dX12_isBeside_57
    · have hX := it_f hX c3
      refine lv_iload_n hx hb dX12_isBeside_11 rfl (lv_at hl 3 rfl) ?_
      refine lv_iload hx hb dX12_isBeside_12 (lv_at hl 4 rfl) ?_
      refine lv_iload_n hx hb dX12_isBeside_14 rfl (lv_at hl 1 rfl) ?_
      refine lv_icmp_eq (tgt := 27) hx hb dX12_isBeside_15 (by decide) (fun c5 => ?_) (fun c5 => ?_)
      · have hX := it_t hX c5
        refine lv_iconst (v := (0 : Int32)) hx hb dX12_isBeside_27 (by decide) ?_
        exact J_28 k5 hk5 _ _ _ _ _ _ _ hW hS (lv_sub hl [0, 1, 2, 4] rfl) hX
      · have hX := it_f hX c5
        refine lv_aload_n hx hb dX12_isBeside_18 rfl (lv_at hl 0 rfl) ?_
        refine lv_iload hx hb dX12_isBeside_19 (lv_at hl 4 rfl) ?_
        obtain ⟨r7, h6, hX⟩ := bd_go hX
        refine k_X12_holds hx hb hml hown htg hK hW hS h6 q326 hl.1 (Nat.le_of_ble_eq_true rfl) (Nat.le_of_ble_eq_true rfl) (Nat.le_of_ble_eq_true rfl) ⟨Nat.zero_le _, Nat.zero_le _⟩ dX12_isBeside_21 (fun H locs hW hS => ?_)
        refine lv_goto (tgt := 28) hx hb dX12_isBeside_24 (by decide) ?_
        exact J_28 k5 hk5 _ _ _ _ _ _ _ hW hS (lv_sub hl [0, 1, 2, 4] rfl) hX
  have L_5 : ∀ (n : Nat), ∀ (x3 : Int32) (x4 : Int32) (y : Mem) (H : Heap) (locs : List Loc) (ls : Array Slot), Wh G x y H → va_S (gF G) s.heap H locs → lv_has ls 5 [(0, .ref (gA G 40 0 0)), (1, .int p0), (2, .int p1), (3, .int x3), (4, .int x4)] → m_X12_isBeside_l5 p0 p1 n x3 x4 y = some r → W p l e (headSpec WS_X12_isBeside RM_X12_isBeside).room s m ([.ref (gA G 40 0 0), .int p0, .int p1] : List Value).toArray below meth c H locs 0 0 (MQ below (Qi G x y r) ([.ref (gA G 40 0 0), .int p0, .int p1] : List Value).toArray s 0 0 (gF G)) (F0 m 5 ls []) := by
    intro n
    induction n with
    | zero => intro x3 x4 y H locs ls hW hS hl hX; exact no_go hX
    | succ n ih => intro x3 x4 y H locs ls hW hS hl hX; exact B_5 _ ih _ _ _ _ _ _ hW hS hl hX
  refine lv_iconst (v := (0 : Int32)) hx hb dX12_isBeside_0 (by decide) ?_
  refine lv_topi (fun x3_1 e9 => ?_)
  have hX := lt_go hX e9
  refine lv_istore_n (lv' := [(3, .int x3_1), (0, .ref (gA G 40 0 0)), (1, .int p0), (2, .int p1)]) hx hb dX12_isBeside_1 rfl hl (by decide) rfl (fun ls hl => ?_)
  refine lv_iconst (v := (0 : Int32)) hx hb dX12_isBeside_2 (by decide) ?_
  refine lv_topi (fun x4_2 e9 => ?_)
  have hX := lt_go hX e9
  refine lv_istore (lv' := [(4, .int x4_2), (3, .int x3_1), (0, .ref (gA G 40 0 0)), (1, .int p0), (2, .int p1)]) hx hb dX12_isBeside_3 hl (by decide) rfl (fun ls hl => ?_)
  exact L_5 FU _ _ _ _ _ _ hW hS (lv_sub hl [2, 3, 4, 1, 0] rfl) hX
set_option maxHeartbeats 4000000 in
theorem k_X12_isBeside {p : Program} {l : Launch} {e : Env} {R : Room} {s : State} {m : MethodId} {args : Array Value} {below : List Frame} {meth : Method} {c : Code} {H : Heap} {locs : List Loc} {cells slots : Nat} {Q : State → Prop} {cc : ByteArray} {pc nL idx : Nat} {own : String} {ls : Array Slot} {rest : List Value} {G : Geo} {x y : Mem} {H0 : Heap} {p0 : Int32} {p1 : Int32} {v : Int32} (hx : p.tables.exec = Jvm.exec) (hb : c.code = cc) (hml : c.maxLocals = nL) (hown : s.vm.findClass own = some m.cls) (htg : ∀ w ∈ wsG, w.before args s = true) (hK : Kt G s) (hW : Wh G x y H) (hS : va_S (gF G) H0 H locs) (h : m_X12_isBeside p0 p1 y = some v) (hlk : Cond.methodLink own idx yX12_isBeside ∈ wsG) (hn : ls.size = nL) (hr : (rest.map fun v => v.category).sum ≤ 8) (hR1 : 3 + 1 ≤ R.frames) (hR2 : 8 + (5 + 11) + 67 ≤ R.locals) (hf : cells ≤ R.cells ∧ slots ≤ R.slots) (hdg : decode cc pc = .ok (.invokevirtual idx, 3)) (kk : ∀ (H1 : Heap) (locs1 : List Loc), Wh G x y H1 → va_S (gF G) H0 H1 locs1 → W p l e R s m args below meth c H1 locs1 cells slots Q (F0 m (pc + 3) ls (.int v :: rest))) : W p l e R s m args below meth c H locs cells slots Q (F0 m pc ls (.int p1 :: .int p0 :: .ref (gA G 40 0 0) :: rest)) := by
  refine va_calli (va_runV (As := [.int p0, .int p1]) (rest := rest) ⟨hx, hb, hml, hown, htg⟩ (c_X12_isBeside l G x y p0 p1 v h) (cwV 2 htg (gd_V hlk q896 q897 q5 q898) rfl rfl rfl (by decide +kernel) ⟨hR1, hR2⟩) ⟨fun a U g mk q => ⟨q.1, q.2.1.calling, q.2.2⟩, rc_40 hK hW, fun U hU hW9 => ⟨rfl, hK.warm hW9, by rw [hU]; exact hW⟩⟩ rfl rfl hn rfl (lv_room hr) hdg hf) hS (fun _ _ h9 => h9) (fun _ h9 => h9) ?_
  intro r9 u t H1 locs1 ht hvm hw hB hz1 hk1 hS1
  replace hB : Wh G x y t.heap := hB
  rw [ht] at hB
  replace hw : r9 = v := hw
  subst hw
  exact kk H1 locs1 hB hS1
/-! METHOD X12_requestsNext -/
def m_X12_requestsNext_j90 (p0 : Int32) (x3 : Int32) (s0 : Int32) (s1 : Int32) (s2 : Int32) (y : Mem) : Option Mem :=
  gd_ s2 3 (lt_ (up4 y 116 0 0 s2.toNatClampNeg (s1 + s0)) fun y18 => bd_ (m_X12_notes p0 (1 : Int32) x3 y18) fun y21 => some y21)
def m_X12_requestsNext (p0 : Int32) (y : Mem) : Option Mem :=
  gd_ p0 3 (lt_ (y 113 0 0 p0.toNatClampNeg) fun x2_2 => bd2_ (m_X12_isGranted p0 x2_2 ((y 115 0 0 p0.toNatClampNeg) + (1 : Int32)) (0 : Int32) y) fun r4 y5 => if r4 = 0 then (lt_ (up4 y5 114 0 0 p0.toNatClampNeg (3 : Int32)) fun y15 => lt_ (up4 y15 116 0 0 p0.toNatClampNeg (0 : Int32)) fun y16 => some y16) else (bd_ (m_X12_zoneAt x2_2 ((y5 115 0 0 p0.toNatClampNeg) + (1 : Int32)) y5) fun r8 => lt_ r8 fun x3_9 => lt_ (up4 y5 114 0 0 p0.toNatClampNeg (2 : Int32)) fun y10 => gd_ x2_2 30 (bd_ (m_X12_isBeside p0 x3_9 y10) fun r13 => if r13 = 0 then (m_X12_requestsNext_j90 p0 x3_9 (0 : Int32) ((1 : Int32) + ((y10 126 0 0 x2_2.toNatClampNeg) / (4 : Int32))) p0 y10) else (m_X12_requestsNext_j90 p0 x3_9 (1 : Int32) ((1 : Int32) + ((y10 126 0 0 x2_2.toNatClampNeg) / (4 : Int32))) p0 y10))))
abbrev WS_X12_requestsNext : List Cond := .code yX12_requestsNext cX12_requestsNext 4 none :: wsG
abbrev RM_X12_requestsNext : Room := { frames := 6, cells := 0, slots := 0, locals := 140 }
set_option maxHeartbeats 4000000 in
set_option maxRecDepth 100000 in
theorem c_X12_requestsNext (l : Launch) (G : Geo) (x y : Mem) (p0 : Int32) (r : Mem) (h : m_X12_requestsNext p0 y = some r) : Met l yX12_requestsNext WS_X12_requestsNext RM_X12_requestsNext (Pw G x y [.ref (gA G 40 0 0), .int p0]) (Qv G x r) 0 0 (gF G) := by
  refine Met.ofW (cc := cX12_requestsNext) (maxL := 4) (ret := none) (by decide) rfl ?_
  intro p e s m args below meth c s₁ B hml hv
  obtain ⟨rfl, hK, hW⟩ := hv
  have hx := B.exec
  have hb := B.bytes
  have hr := B.returns
  have hts := atoms_spec (ws := WS_X12_requestsNext) B.pre
  have htg : ∀ w ∈ wsG, w.before _ s = true := fun w h => hts w (List.mem_cons_of_mem _ h)
  have hown : s.vm.findClass RX12 = some m.cls := findClass_of_methodNamed B.named
  have hlocks := B.notSynchronized
  have hS : va_S (gF G) s.heap s.heap [] := va_S.rf
  have hl := lv_entry ([.ref (gA G 40 0 0), .int p0]) (n := 4) (Nat.le_of_ble_eq_true rfl)
  rw [lg_entry_eq]
  generalize (lg_sl ([.ref (gA G 40 0 0), .int p0]) ++ List.replicate (4 - (lg_sl ([.ref (gA G 40 0 0), .int p0])).length) Slot.unset).toArray = ls at hl ⊢
  have hl : lv_has ls 4 [(0, .ref (gA G 40 0 0)), (1, .int p0)] := hl
  have hX := h
  unfold m_X12_requestsNext at hX
  have J_90 : ∀ (x3 : Int32) (s0 : Int32) (s1 : Int32) (s2 : Int32) (y : Mem) (H : Heap) (locs : List Loc) (ls : Array Slot), Wh G x y H → va_S (gF G) s.heap H locs → lv_has ls 4 [(0, .ref (gA G 40 0 0)), (1, .int p0), (3, .int x3)] → m_X12_requestsNext_j90 p0 x3 s0 s1 s2 y = some r → W p l e (headSpec WS_X12_requestsNext RM_X12_requestsNext).room s m ([.ref (gA G 40 0 0), .int p0] : List Value).toArray below meth c H locs 0 0 (MQ below (Qv G x r) ([.ref (gA G 40 0 0), .int p0] : List Value).toArray s 0 0 (gF G)) (F0 m 90 ls [.int s0, .int s1, .int s2, .ref (gA G 116 0 0)]) := by
    intro x3 s0 s1 s2 y H locs ls hW hS hl hX
    unfold m_X12_requestsNext_j90 at hX
    refine lv_iadd hx hb dX12_requestsNext_90 ?_
    obtain ⟨g17, hX⟩ := gd_go hX
    refine as_116 hx hb hK hW hS g17 dX12_requestsNext_91 (fun H locs hW hS => ?_)
    obtain ⟨y18, e9⟩ : ∃ w : Mem, w = (up4 y 116 0 0 s2.toNatClampNeg (s1 + s0)) := ⟨_, rfl⟩
    rw [← e9] at hW
    have hX := lt_go hX e9
    refine lv_aload_n hx hb dX12_requestsNext_92 rfl (lv_at hl 0 rfl) ?_
    refine lv_iload_n hx hb dX12_requestsNext_93 rfl (lv_at hl 1 rfl) ?_
    refine lv_iconst (v := (1 : Int32)) hx hb dX12_requestsNext_94 (by decide) ?_
    refine lv_iload_n hx hb dX12_requestsNext_95 rfl (lv_at hl 2 rfl) ?_
    obtain ⟨y21, h19, hX⟩ := bd_go hX
    refine k_X12_notes hx hb hml hown htg hK hW hS h19 q887 hl.1 (Nat.le_of_ble_eq_true rfl) (Nat.le_of_ble_eq_true rfl) (Nat.le_of_ble_eq_true rfl) ⟨Nat.zero_le _, Nat.zero_le _⟩ dX12_requestsNext_96 (fun H locs hW hS => ?_)
    have hX := Option.some.inj hX
    subst hX
    exact rt_v hx hb hr hlocks hW hS dX12_requestsNext_99
  refine lv_aload_n hx hb dX12_requestsNext_0 rfl (lv_at hl 0 rfl) ?_
  refine gf_40_13 hx hb htg hown hK hW q148 dX12_requestsNext_1 ?_
  refine lv_iload_n hx hb dX12_requestsNext_4 rfl (lv_at hl 1 rfl) ?_
  obtain ⟨g1, hX⟩ := gd_go hX
  refine al_113 hx hb hK hW g1 dX12_requestsNext_5 ?_
  refine lv_topi (fun x2_2 e9 => ?_)
  have hX := lt_go hX e9
  refine lv_istore_n (lv' := [(2, .int x2_2), (0, .ref (gA G 40 0 0)), (1, .int p0)]) hx hb dX12_requestsNext_6 rfl hl (by decide) rfl (fun ls hl => ?_)
  refine lv_aload_n hx hb dX12_requestsNext_7 rfl (lv_at hl 1 rfl) ?_
  refine lv_iload_n hx hb dX12_requestsNext_8 rfl (lv_at hl 2 rfl) ?_
  refine lv_iload_n hx hb dX12_requestsNext_9 rfl (lv_at hl 0 rfl) ?_
  refine lv_aload_n hx hb dX12_requestsNext_10 rfl (lv_at hl 1 rfl) ?_
  refine gf_40_15 hx hb htg hown hK hW q150 dX12_requestsNext_11 ?_
  refine lv_iload_n hx hb dX12_requestsNext_14 rfl (lv_at hl 2 rfl) ?_
  refine al_115 hx hb hK hW g1 dX12_requestsNext_15 ?_
  refine lv_iconst (v := (1 : Int32)) hx hb dX12_requestsNext_16 (by decide) ?_
  refine lv_iadd hx hb dX12_requestsNext_17 ?_
  refine lv_iconst (v := (0 : Int32)) hx hb dX12_requestsNext_18 (by decide) ?_
  obtain ⟨r4, y5, h3, hX⟩ := bd2_go hX
  refine k_X12_isGranted hx hb hml hown htg hK hW hS h3 q857 hl.1 (Nat.le_of_ble_eq_true rfl) (Nat.le_of_ble_eq_true rfl) (Nat.le_of_ble_eq_true rfl) ⟨Nat.zero_le _, Nat.zero_le _⟩ dX12_requestsNext_19 (fun H locs hW hS => ?_)
  refine lv_if_ne (tgt := 40) hx hb dX12_requestsNext_22 (by decide) (fun c6 => ?_) (fun c6 => ?_)
  · have hX := it_f hX c6
    refine lv_aload_n hx hb dX12_requestsNext_40 rfl (lv_at hl 1 rfl) ?_
    refine lv_iload_n hx hb dX12_requestsNext_41 rfl (lv_at hl 0 rfl) ?_
    refine lv_aload_n hx hb dX12_requestsNext_42 rfl (lv_at hl 1 rfl) ?_
    refine gf_40_15 hx hb htg hown hK hW q150 dX12_requestsNext_43 ?_
    refine lv_iload_n hx hb dX12_requestsNext_46 rfl (lv_at hl 2 rfl) ?_
    refine al_115 hx hb hK hW g1 dX12_requestsNext_47 ?_
    refine lv_iconst (v := (1 : Int32)) hx hb dX12_requestsNext_48 (by decide) ?_
    refine lv_iadd hx hb dX12_requestsNext_49 ?_
    obtain ⟨r8, h7, hX⟩ := bd_go hX
    refine k_X12_zoneAt hx hb hml hown htg hK hW hS h7 q334 hl.1 (Nat.le_of_ble_eq_true rfl) (Nat.le_of_ble_eq_true rfl) (Nat.le_of_ble_eq_true rfl) ⟨Nat.zero_le _, Nat.zero_le _⟩ dX12_requestsNext_50 (fun H locs hW hS => ?_)
    refine lv_topi (fun x3_9 e9 => ?_)
    have hX := lt_go hX e9
    refine lv_istore_n (lv' := [(3, .int x3_9), (2, .int x2_2), (0, .ref (gA G 40 0 0)), (1, .int p0)]) hx hb dX12_requestsNext_53 rfl hl (by decide) rfl (fun ls hl => ?_)
    refine lv_aload_n hx hb dX12_requestsNext_54 rfl (lv_at hl 2 rfl) ?_
    refine gf_40_14 hx hb htg hown hK hW q149 dX12_requestsNext_55 ?_
    refine lv_iload_n hx hb dX12_requestsNext_58 rfl (lv_at hl 3 rfl) ?_
    refine lv_iconst (v := (2 : Int32)) hx hb dX12_requestsNext_59 (by decide) ?_
    refine as_114 hx hb hK hW hS g1 dX12_requestsNext_60 (fun H locs hW hS => ?_)
    obtain ⟨y10, e9⟩ : ∃ w : Mem, w = (up4 y5 114 0 0 p0.toNatClampNeg (2 : Int32)) := ⟨_, rfl⟩
    rw [← e9] at hW
    have hX := lt_go hX e9
    refine lv_aload_n hx hb dX12_requestsNext_61 rfl (lv_at hl 2 rfl) ?_
    refine gf_40_16 hx hb htg hown hK hW q151 dX12_requestsNext_62 ?_
    refine lv_iload_n hx hb dX12_requestsNext_65 rfl (lv_at hl 3 rfl) ?_
    refine lv_iconst (v := (1 : Int32)) hx hb dX12_requestsNext_66 (by decide) ?_
    refine lv_aload_n hx hb dX12_requestsNext_67 rfl (lv_at hl 2 rfl) ?_
    refine gf_40_26 hx hb htg hown hK hW q161 dX12_requestsNext_68 ?_
    refine lv_iload_n hx hb dX12_requestsNext_71 rfl (lv_at hl 1 rfl) ?_
    obtain ⟨g11, hX⟩ := gd_go hX
    refine al_126 hx hb hK hW g11 dX12_requestsNext_72 ?_
    refine lv_iconst (v := (4 : Int32)) hx hb dX12_requestsNext_73 (by decide) ?_
    refine lv_idiv hx hb dX12_requestsNext_74 (by decide) ?_
    refine lv_iadd hx hb dX12_requestsNext_75 ?_
    refine lv_aload_n hx hb dX12_requestsNext_76 rfl (lv_at hl 2 rfl) ?_
    refine lv_iload_n hx hb dX12_requestsNext_77 rfl (lv_at hl 3 rfl) ?_
    refine lv_iload_n hx hb dX12_requestsNext_78 rfl (lv_at hl 0 rfl) ?_
    obtain ⟨r13, h12, hX⟩ := bd_go hX
    refine k_X12_isBeside hx hb hml hown htg hK hW hS h12 q895 hl.1 (Nat.le_of_ble_eq_true rfl) (Nat.le_of_ble_eq_true rfl) (Nat.le_of_ble_eq_true rfl) ⟨Nat.zero_le _, Nat.zero_le _⟩ dX12_requestsNext_79 (fun H locs hW hS => ?_)
    refine lv_if_eq (tgt := 89) hx hb dX12_requestsNext_82 (by decide) (fun c14 => ?_) (fun c14 => ?_)
    · have hX := it_t hX c14
      refine lv_iconst (v := (0 : Int32)) hx hb dX12_requestsNext_89 (by decide) ?_
      exact J_90 _ _ _ _ _ _ _ _ hW hS (lv_sub hl [2, 3, 0] rfl) hX
    · have hX := it_f hX c14
      refine lv_iconst (v := (1 : Int32)) hx hb dX12_requestsNext_85 (by decide) ?_
      refine lv_goto (tgt := 90) hx hb dX12_requestsNext_86 (by decide) ?_
      exact J_90 _ _ _ _ _ _ _ _ hW hS (lv_sub hl [2, 3, 0] rfl) hX
  · have hX := it_t hX c6
    refine lv_aload_n hx hb dX12_requestsNext_25 rfl (lv_at hl 1 rfl) ?_
    refine gf_40_14 hx hb htg hown hK hW q149 dX12_requestsNext_26 ?_
    refine lv_iload_n hx hb dX12_requestsNext_29 rfl (lv_at hl 2 rfl) ?_
    refine lv_iconst (v := (3 : Int32)) hx hb dX12_requestsNext_30 (by decide) ?_
    refine as_114 hx hb hK hW hS g1 dX12_requestsNext_31 (fun H locs hW hS => ?_)
    obtain ⟨y15, e9⟩ : ∃ w : Mem, w = (up4 y5 114 0 0 p0.toNatClampNeg (3 : Int32)) := ⟨_, rfl⟩
    rw [← e9] at hW
    have hX := lt_go hX e9
    refine lv_aload_n hx hb dX12_requestsNext_32 rfl (lv_at hl 1 rfl) ?_
    refine gf_40_16 hx hb htg hown hK hW q151 dX12_requestsNext_33 ?_
    refine lv_iload_n hx hb dX12_requestsNext_36 rfl (lv_at hl 2 rfl) ?_
    refine lv_iconst (v := (0 : Int32)) hx hb dX12_requestsNext_37 (by decide) ?_
    refine as_116 hx hb hK hW hS g1 dX12_requestsNext_38 (fun H locs hW hS => ?_)
    obtain ⟨y16, e9⟩ : ∃ w : Mem, w = (up4 y15 116 0 0 p0.toNatClampNeg (0 : Int32)) := ⟨_, rfl⟩
    rw [← e9] at hW
    have hX := lt_go hX e9
    have hX := Option.some.inj hX
    subst hX
    exact rt_v hx hb hr hlocks hW hS dX12_requestsNext_39
set_option maxHeartbeats 4000000 in
theorem k_X12_requestsNext {p : Program} {l : Launch} {e : Env} {R : Room} {s : State} {m : MethodId} {args : Array Value} {below : List Frame} {meth : Method} {c : Code} {H : Heap} {locs : List Loc} {cells slots : Nat} {Q : State → Prop} {cc : ByteArray} {pc nL idx : Nat} {own : String} {ls : Array Slot} {rest : List Value} {G : Geo} {x y : Mem} {H0 : Heap} {p0 : Int32} {z : Mem} (hx : p.tables.exec = Jvm.exec) (hb : c.code = cc) (hml : c.maxLocals = nL) (hown : s.vm.findClass own = some m.cls) (htg : ∀ w ∈ wsG, w.before args s = true) (hK : Kt G s) (hW : Wh G x y H) (hS : va_S (gF G) H0 H locs) (h : m_X12_requestsNext p0 y = some z) (hlk : Cond.methodLink own idx yX12_requestsNext ∈ wsG) (hn : ls.size = nL) (hr : (rest.map fun v => v.category).sum ≤ 8) (hR1 : 6 + 1 ≤ R.frames) (hR2 : 8 + (4 + 11) + 140 ≤ R.locals) (hf : cells ≤ R.cells ∧ slots ≤ R.slots) (hdg : decode cc pc = .ok (.invokevirtual idx, 3)) (kk : ∀ (H1 : Heap) (locs1 : List Loc), Wh G x z H1 → va_S (gF G) H0 H1 locs1 → W p l e R s m args below meth c H1 locs1 cells slots Q (F0 m (pc + 3) ls (rest))) : W p l e R s m args below meth c H locs cells slots Q (F0 m pc ls (.int p0 :: .ref (gA G 40 0 0) :: rest)) := by
  refine va_callv (va_runV (As := [.int p0]) (rest := rest) ⟨hx, hb, hml, hown, htg⟩ (c_X12_requestsNext l G x y p0 z h) (cwV 1 htg (gd_V hlk q892 q893 q5 q894) rfl rfl rfl (by decide +kernel) ⟨hR1, hR2⟩) ⟨fun a U g mk q => ⟨q.1, q.2.1.calling, q.2.2⟩, rc_40 hK hW, fun U hU hW9 => ⟨rfl, hK.warm hW9, by rw [hU]; exact hW⟩⟩ rfl rfl hn rfl (lv_room hr) hdg hf) hS (fun _ _ h9 => h9) (fun _ h9 => h9) ?_
  intro u t H1 locs1 ht hvm hw hB hz1 hk1 hS1
  replace hB : Wh G x z t.heap := hB
  rw [ht] at hB
  exact kk H1 locs1 hB hS1
/-! METHOD X12_firstPartOf -/
def m_X12_firstPartOf_b21 (p0 : Int32) (k21 : Int32 → Int32 → Mem → Option (Int32 × Mem)) (x2 : Int32) (x3 : Int32) (y : Mem) : Option (Int32 × Mem) :=
  gd_ p0 3 (if (y 104 0 0 p0.toNatClampNeg) ≤ x3 then (lt_ (up4 y 107 0 0 p0.toNatClampNeg ((y 107 0 0 p0.toNatClampNeg) - (1 : Int32))) fun y8 => lt_ (up4 y8 109 0 0 p0.toNatClampNeg ((y8 109 0 0 p0.toNatClampNeg) + (1 : Int32))) fun y9 => some (x2, y9)) else (gd_ ((((4 : Int32) * p0) + x3) + (1 : Int32)) 12 (gd_ (((4 : Int32) * p0) + x3) 12 (lt_ (up4 y 105 0 0 (((4 : Int32) * p0) + x3).toNatClampNeg (y 105 0 0 ((((4 : Int32) * p0) + x3) + (1 : Int32)).toNatClampNeg)) fun y12 => lt_ (x3 + (1 : Int32)) fun x3_13 => k21 x2 x3_13 y12))))
def m_X12_firstPartOf_l21 (p0 : Int32) : Nat → Int32 → Int32 → Mem → Option (Int32 × Mem)
  | 0, _, _, _ => none
  | n + 1, x2, x3, y => m_X12_firstPartOf_b21 p0 (m_X12_firstPartOf_l21 p0 n) x2 x3 y
def m_X12_firstPartOf (p0 : Int32) (y : Mem) : Option (Int32 × Mem) :=
  gd_ ((4 : Int32) * p0) 12 (lt_ (y 105 0 0 ((4 : Int32) * p0).toNatClampNeg) fun x2_2 => gd_ p0 3 (lt_ (up4 y 104 0 0 p0.toNatClampNeg ((y 104 0 0 p0.toNatClampNeg) - (1 : Int32))) fun y4 => lt_ (0 : Int32) fun x3_5 => m_X12_firstPartOf_l21 p0 FU x2_2 x3_5 y4))
abbrev WS_X12_firstPartOf : List Cond := .code yX12_firstPartOf cX12_firstPartOf 4 (some .int) :: wsG
abbrev RM_X12_firstPartOf : Room := { frames := 0, cells := 0, slots := 0, locals := 0 }
set_option maxHeartbeats 4000000 in
set_option maxRecDepth 100000 in
theorem c_X12_firstPartOf (l : Launch) (G : Geo) (x y : Mem) (p0 : Int32) (r : (Int32 × Mem)) (h : m_X12_firstPartOf p0 y = some r) : Met l yX12_firstPartOf WS_X12_firstPartOf RM_X12_firstPartOf (Pw G x y [.ref (gA G 40 0 0), .int p0]) (Qi G x r.2 r.1) 0 0 (gF G) := by
  refine Met.ofW (cc := cX12_firstPartOf) (maxL := 4) (ret := (some .int)) (by decide) rfl ?_
  intro p e s m args below meth c s₁ B hml hv
  obtain ⟨rfl, hK, hW⟩ := hv
  have hx := B.exec
  have hb := B.bytes
  have hr := B.returns
  have hts := atoms_spec (ws := WS_X12_firstPartOf) B.pre
  have htg : ∀ w ∈ wsG, w.before _ s = true := fun w h => hts w (List.mem_cons_of_mem _ h)
  have hown : s.vm.findClass RX12 = some m.cls := findClass_of_methodNamed B.named
  have hlocks := B.notSynchronized
  have hS : va_S (gF G) s.heap s.heap [] := va_S.rf
  have hl := lv_entry ([.ref (gA G 40 0 0), .int p0]) (n := 4) (Nat.le_of_ble_eq_true rfl)
  rw [lg_entry_eq]
  generalize (lg_sl ([.ref (gA G 40 0 0), .int p0]) ++ List.replicate (4 - (lg_sl ([.ref (gA G 40 0 0), .int p0])).length) Slot.unset).toArray = ls at hl ⊢
  have hl : lv_has ls 4 [(0, .ref (gA G 40 0 0)), (1, .int p0)] := hl
  have hX := h
  unfold m_X12_firstPartOf at hX
  have B_21 : ∀ (k21 : Int32 → Int32 → Mem → Option (Int32 × Mem)) (hk21 : ∀ (x2 : Int32) (x3 : Int32) (y : Mem) (H : Heap) (locs : List Loc) (ls : Array Slot), Wh G x y H → va_S (gF G) s.heap H locs → lv_has ls 4 [(0, .ref (gA G 40 0 0)), (1, .int p0), (2, .int x2), (3, .int x3)] → k21 x2 x3 y = some r → W p l e (headSpec WS_X12_firstPartOf RM_X12_firstPartOf).room s m ([.ref (gA G 40 0 0), .int p0] : List Value).toArray below meth c H locs 0 0 (MQ below (Qi G x r.2 r.1) ([.ref (gA G 40 0 0), .int p0] : List Value).toArray s 0 0 (gF G)) (F0 m 21 ls [])), ∀ (x2 : Int32) (x3 : Int32) (y : Mem) (H : Heap) (locs : List Loc) (ls : Array Slot), Wh G x y H → va_S (gF G) s.heap H locs → lv_has ls 4 [(0, .ref (gA G 40 0 0)), (1, .int p0), (2, .int x2), (3, .int x3)] → m_X12_firstPartOf_b21 p0 k21 x2 x3 y = some r → W p l e (headSpec WS_X12_firstPartOf RM_X12_firstPartOf).room s m ([.ref (gA G 40 0 0), .int p0] : List Value).toArray below meth c H locs 0 0 (MQ below (Qi G x r.2 r.1) ([.ref (gA G 40 0 0), .int p0] : List Value).toArray s 0 0 (gF G)) (F0 m 21 ls []) := by
    intro k21 hk21 x2 x3 y H locs ls hW hS hl hX
    unfold m_X12_firstPartOf_b21 at hX
    refine lv_iload_n hx hb dX12_firstPartOf_21 rfl (lv_at hl 3 rfl) ?_
    refine lv_aload_n hx hb dX12_firstPartOf_22 rfl (lv_at hl 0 rfl) ?_
    refine gf_40_4 hx hb htg hown hK hW q139 dX12_firstPartOf_23 ?_
    refine lv_iload_n hx hb dX12_firstPartOf_26 rfl (lv_at hl 1 rfl) ?_
    obtain ⟨g6, hX⟩ := gd_go hX
    refine al_104 hx hb hK hW g6 dX12_firstPartOf_27 ?_
    refine lv_icmp_ge (tgt := 59) hx hb dX12_firstPartOf_28 (by decide) (fun c7 => ?_) (fun c7 => ?_)
    · have hX := it_t hX c7
      refine lv_aload_n hx hb dX12_firstPartOf_59 rfl (lv_at hl 0 rfl) ?_
      refine gf_40_7 hx hb htg hown hK hW q142 dX12_firstPartOf_60 ?_
      refine lv_iload_n hx hb dX12_firstPartOf_63 rfl (lv_at hl 1 rfl) ?_
      refine lv_dup2_11 hx hb dX12_firstPartOf_64 rfl rfl ?_
      refine al_107 hx hb hK hW g6 dX12_firstPartOf_65 ?_
      refine lv_iconst (v := (1 : Int32)) hx hb dX12_firstPartOf_66 (by decide) ?_
      refine lv_isub hx hb dX12_firstPartOf_67 ?_
      refine as_107 hx hb hK hW hS g6 dX12_firstPartOf_68 (fun H locs hW hS => ?_)
      obtain ⟨y8, e9⟩ : ∃ w : Mem, w = (up4 y 107 0 0 p0.toNatClampNeg ((y 107 0 0 p0.toNatClampNeg) - (1 : Int32))) := ⟨_, rfl⟩
      rw [← e9] at hW
      have hX := lt_go hX e9
      refine lv_aload_n hx hb dX12_firstPartOf_69 rfl (lv_at hl 0 rfl) ?_
      refine gf_40_9 hx hb htg hown hK hW q144 dX12_firstPartOf_70 ?_
      refine lv_iload_n hx hb dX12_firstPartOf_73 rfl (lv_at hl 1 rfl) ?_
      refine lv_dup2_11 hx hb dX12_firstPartOf_74 rfl rfl ?_
      refine al_109 hx hb hK hW g6 dX12_firstPartOf_75 ?_
      refine lv_iconst (v := (1 : Int32)) hx hb dX12_firstPartOf_76 (by decide) ?_
      refine lv_iadd hx hb dX12_firstPartOf_77 ?_
      refine as_109 hx hb hK hW hS g6 dX12_firstPartOf_78 (fun H locs hW hS => ?_)
      obtain ⟨y9, e9⟩ : ∃ w : Mem, w = (up4 y8 109 0 0 p0.toNatClampNeg ((y8 109 0 0 p0.toNatClampNeg) + (1 : Int32))) := ⟨_, rfl⟩
      rw [← e9] at hW
      have hX := lt_go hX e9
      refine lv_iload_n hx hb dX12_firstPartOf_79 rfl (lv_at hl 2 rfl) ?_
      have hX := Option.some.inj hX
      subst hX
      exact rt_i hx hb hr hlocks hW hS dX12_firstPartOf_80
    · have hX := it_f hX c7
      refine lv_aload_n hx hb dX12_firstPartOf_31 rfl (lv_at hl 0 rfl) ?_
      refine gf_40_5 hx hb htg hown hK hW q140 dX12_firstPartOf_32 ?_
      refine lv_iconst (v := (4 : Int32)) hx hb dX12_firstPartOf_35 (by decide) ?_
      refine lv_iload_n hx hb dX12_firstPartOf_36 rfl (lv_at hl 1 rfl) ?_
      refine lv_imul hx hb dX12_firstPartOf_37 ?_
      refine lv_iload_n hx hb dX12_firstPartOf_38 rfl (lv_at hl 3 rfl) ?_
      refine lv_iadd hx hb dX12_firstPartOf_39 ?_
      refine lv_aload_n hx hb dX12_firstPartOf_40 rfl (lv_at hl 0 rfl) ?_
      refine gf_40_5 hx hb htg hown hK hW q140 dX12_firstPartOf_41 ?_
      refine lv_iconst (v := (4 : Int32)) hx hb dX12_firstPartOf_44 (by decide) ?_
      refine lv_iload_n hx hb dX12_firstPartOf_45 rfl (lv_at hl 1 rfl) ?_
      refine lv_imul hx hb dX12_firstPartOf_46 ?_
      refine lv_iload_n hx hb dX12_firstPartOf_47 rfl (lv_at hl 3 rfl) ?_
      refine lv_iadd hx hb dX12_firstPartOf_48 ?_
      refine lv_iconst (v := (1 : Int32)) hx hb dX12_firstPartOf_49 (by decide) ?_
      refine lv_iadd hx hb dX12_firstPartOf_50 ?_
      obtain ⟨g10, hX⟩ := gd_go hX
      refine al_105 hx hb hK hW g10 dX12_firstPartOf_51 ?_
      obtain ⟨g11, hX⟩ := gd_go hX
      refine as_105 hx hb hK hW hS g11 dX12_firstPartOf_52 (fun H locs hW hS => ?_)
      obtain ⟨y12, e9⟩ : ∃ w : Mem, w = (up4 y 105 0 0 (((4 : Int32) * p0) + x3).toNatClampNeg (y 105 0 0 ((((4 : Int32) * p0) + x3) + (1 : Int32)).toNatClampNeg)) := ⟨_, rfl⟩
      rw [← e9] at hW
      have hX := lt_go hX e9
      obtain ⟨x3_13, e9⟩ : ∃ w : Int32, w = (x3 + (1 : Int32)) := ⟨_, rfl⟩
      have hX := lt_go hX e9
      refine lv_iinc (v := x3_13) (lv' := [(3, .int x3_13), (0, .ref (gA G 40 0 0)), (1, .int p0), (2, .int x2)]) hx hb dX12_firstPartOf_53 hl (k := 3) rfl (by rw [e9]; rfl) (by decide) rfl (fun ls hl => ?_)
      refine lv_goto (tgt := 21) hx hb dX12_firstPartOf_56 (by decide) ?_
      exact hk21 _ _ _ _ _ _ hW hS (lv_sub hl [1, 2, 3, 0] rfl) hX
  have L_21 : ∀ (n : Nat), ∀ (x2 : Int32) (x3 : Int32) (y : Mem) (H : Heap) (locs : List Loc) (ls : Array Slot), Wh G x y H → va_S (gF G) s.heap H locs → lv_has ls 4 [(0, .ref (gA G 40 0 0)), (1, .int p0), (2, .int x2), (3, .int x3)] → m_X12_firstPartOf_l21 p0 n x2 x3 y = some r → W p l e (headSpec WS_X12_firstPartOf RM_X12_firstPartOf).room s m ([.ref (gA G 40 0 0), .int p0] : List Value).toArray below meth c H locs 0 0 (MQ below (Qi G x r.2 r.1) ([.ref (gA G 40 0 0), .int p0] : List Value).toArray s 0 0 (gF G)) (F0 m 21 ls []) := by
    intro n
    induction n with
    | zero => intro x2 x3 y H locs ls hW hS hl hX; exact no_go hX
    | succ n ih => intro x2 x3 y H locs ls hW hS hl hX; exact B_21 _ ih _ _ _ _ _ _ hW hS hl hX
  refine lv_aload_n hx hb dX12_firstPartOf_0 rfl (lv_at hl 0 rfl) ?_
  refine gf_40_5 hx hb htg hown hK hW q140 dX12_firstPartOf_1 ?_
  refine lv_iconst (v := (4 : Int32)) hx hb dX12_firstPartOf_4 (by decide) ?_
  refine lv_iload_n hx hb dX12_firstPartOf_5 rfl (lv_at hl 1 rfl) ?_
  refine lv_imul hx hb dX12_firstPartOf_6 ?_
  obtain ⟨g1, hX⟩ := gd_go hX
  refine al_105 hx hb hK hW g1 dX12_firstPartOf_7 ?_
  refine lv_topi (fun x2_2 e9 => ?_)
  have hX := lt_go hX e9
  refine lv_istore_n (lv' := [(2, .int x2_2), (0, .ref (gA G 40 0 0)), (1, .int p0)]) hx hb dX12_firstPartOf_8 rfl hl (by decide) rfl (fun ls hl => ?_)
  refine lv_aload_n hx hb dX12_firstPartOf_9 rfl (lv_at hl 1 rfl) ?_
  refine gf_40_4 hx hb htg hown hK hW q139 dX12_firstPartOf_10 ?_
  refine lv_iload_n hx hb dX12_firstPartOf_13 rfl (lv_at hl 2 rfl) ?_
  refine lv_dup2_11 hx hb dX12_firstPartOf_14 rfl rfl ?_
  obtain ⟨g3, hX⟩ := gd_go hX
  refine al_104 hx hb hK hW g3 dX12_firstPartOf_15 ?_
  refine lv_iconst (v := (1 : Int32)) hx hb dX12_firstPartOf_16 (by decide) ?_
  refine lv_isub hx hb dX12_firstPartOf_17 ?_
  refine as_104 hx hb hK hW hS g3 dX12_firstPartOf_18 (fun H locs hW hS => ?_)
  obtain ⟨y4, e9⟩ : ∃ w : Mem, w = (up4 y 104 0 0 p0.toNatClampNeg ((y 104 0 0 p0.toNatClampNeg) - (1 : Int32))) := ⟨_, rfl⟩
  rw [← e9] at hW
  have hX := lt_go hX e9
  refine lv_iconst (v := (0 : Int32)) hx hb dX12_firstPartOf_19 (by decide) ?_
  refine lv_topi (fun x3_5 e9 => ?_)
  have hX := lt_go hX e9
  refine lv_istore_n (lv' := [(3, .int x3_5), (2, .int x2_2), (0, .ref (gA G 40 0 0)), (1, .int p0)]) hx hb dX12_firstPartOf_20 rfl hl (by decide) rfl (fun ls hl => ?_)
  exact L_21 FU _ _ _ _ _ _ hW hS (lv_sub hl [2, 3, 1, 0] rfl) hX
set_option maxHeartbeats 4000000 in
theorem k_X12_firstPartOf {p : Program} {l : Launch} {e : Env} {R : Room} {s : State} {m : MethodId} {args : Array Value} {below : List Frame} {meth : Method} {c : Code} {H : Heap} {locs : List Loc} {cells slots : Nat} {Q : State → Prop} {cc : ByteArray} {pc nL idx : Nat} {own : String} {ls : Array Slot} {rest : List Value} {G : Geo} {x y : Mem} {H0 : Heap} {p0 : Int32} {v : Int32} {z : Mem} (hx : p.tables.exec = Jvm.exec) (hb : c.code = cc) (hml : c.maxLocals = nL) (hown : s.vm.findClass own = some m.cls) (htg : ∀ w ∈ wsG, w.before args s = true) (hK : Kt G s) (hW : Wh G x y H) (hS : va_S (gF G) H0 H locs) (h : m_X12_firstPartOf p0 y = some (v, z)) (hlk : Cond.methodLink own idx yX12_firstPartOf ∈ wsG) (hn : ls.size = nL) (hr : (rest.map fun v => v.category).sum ≤ 8) (hR1 : 0 + 1 ≤ R.frames) (hR2 : 8 + (4 + 11) + 0 ≤ R.locals) (hf : cells ≤ R.cells ∧ slots ≤ R.slots) (hdg : decode cc pc = .ok (.invokevirtual idx, 3)) (kk : ∀ (H1 : Heap) (locs1 : List Loc), Wh G x z H1 → va_S (gF G) H0 H1 locs1 → W p l e R s m args below meth c H1 locs1 cells slots Q (F0 m (pc + 3) ls (.int v :: rest))) : W p l e R s m args below meth c H locs cells slots Q (F0 m pc ls (.int p0 :: .ref (gA G 40 0 0) :: rest)) := by
  refine va_calli (va_runV (As := [.int p0]) (rest := rest) ⟨hx, hb, hml, hown, htg⟩ (c_X12_firstPartOf l G x y p0 (v, z) h) (cwV 1 htg (gd_V hlk q904 q905 q5 q906) rfl rfl rfl (by decide +kernel) ⟨hR1, hR2⟩) ⟨fun a U g mk q => ⟨q.1, q.2.1.calling, q.2.2⟩, rc_40 hK hW, fun U hU hW9 => ⟨rfl, hK.warm hW9, by rw [hU]; exact hW⟩⟩ rfl rfl hn rfl (lv_room hr) hdg hf) hS (fun _ _ h9 => h9) (fun _ h9 => h9) ?_
  intro r9 u t H1 locs1 ht hvm hw hB hz1 hk1 hS1
  replace hB : Wh G x z t.heap := hB
  rw [ht] at hB
  replace hw : r9 = v := hw
  subst hw
  exact kk H1 locs1 hB hS1
/-! METHOD X12_comesPart -/
def m_X12_comesPart (p0 : Int32) (p1 : Int32) (y : Mem) : Option Mem :=
  gd_ p0 3 (gd_ (((4 : Int32) * p0) + (y 104 0 0 p0.toNatClampNeg)) 12 (lt_ (up4 y 105 0 0 (((4 : Int32) * p0) + (y 104 0 0 p0.toNatClampNeg)).toNatClampNeg p1) fun y3 => lt_ (up4 y3 104 0 0 p0.toNatClampNeg ((y3 104 0 0 p0.toNatClampNeg) + (1 : Int32))) fun y4 => lt_ (up4 y4 108 0 0 p0.toNatClampNeg ((y4 108 0 0 p0.toNatClampNeg) + (1 : Int32))) fun y5 => some y5))
abbrev WS_X12_comesPart : List Cond := .code yX12_comesPart cX12_comesPart 3 none :: wsG
abbrev RM_X12_comesPart : Room := { frames := 0, cells := 0, slots := 0, locals := 0 }
set_option maxHeartbeats 4000000 in
set_option maxRecDepth 100000 in
theorem c_X12_comesPart (l : Launch) (G : Geo) (x y : Mem) (p0 : Int32) (p1 : Int32) (r : Mem) (h : m_X12_comesPart p0 p1 y = some r) : Met l yX12_comesPart WS_X12_comesPart RM_X12_comesPart (Pw G x y [.ref (gA G 40 0 0), .int p0, .int p1]) (Qv G x r) 0 0 (gF G) := by
  refine Met.ofW (cc := cX12_comesPart) (maxL := 3) (ret := none) (by decide) rfl ?_
  intro p e s m args below meth c s₁ B hml hv
  obtain ⟨rfl, hK, hW⟩ := hv
  have hx := B.exec
  have hb := B.bytes
  have hr := B.returns
  have hts := atoms_spec (ws := WS_X12_comesPart) B.pre
  have htg : ∀ w ∈ wsG, w.before _ s = true := fun w h => hts w (List.mem_cons_of_mem _ h)
  have hown : s.vm.findClass RX12 = some m.cls := findClass_of_methodNamed B.named
  have hlocks := B.notSynchronized
  have hS : va_S (gF G) s.heap s.heap [] := va_S.rf
  have hl := lv_entry ([.ref (gA G 40 0 0), .int p0, .int p1]) (n := 3) (Nat.le_of_ble_eq_true rfl)
  rw [lg_entry_eq]
  generalize (lg_sl ([.ref (gA G 40 0 0), .int p0, .int p1]) ++ List.replicate (3 - (lg_sl ([.ref (gA G 40 0 0), .int p0, .int p1])).length) Slot.unset).toArray = ls at hl ⊢
  have hl : lv_has ls 3 [(0, .ref (gA G 40 0 0)), (1, .int p0), (2, .int p1)] := hl
  have hX := h
  unfold m_X12_comesPart at hX
  refine lv_aload_n hx hb dX12_comesPart_0 rfl (lv_at hl 0 rfl) ?_
  refine gf_40_5 hx hb htg hown hK hW q140 dX12_comesPart_1 ?_
  refine lv_iconst (v := (4 : Int32)) hx hb dX12_comesPart_4 (by decide) ?_
  refine lv_iload_n hx hb dX12_comesPart_5 rfl (lv_at hl 1 rfl) ?_
  refine lv_imul hx hb dX12_comesPart_6 ?_
  refine lv_aload_n hx hb dX12_comesPart_7 rfl (lv_at hl 0 rfl) ?_
  refine gf_40_4 hx hb htg hown hK hW q139 dX12_comesPart_8 ?_
  refine lv_iload_n hx hb dX12_comesPart_11 rfl (lv_at hl 1 rfl) ?_
  obtain ⟨g1, hX⟩ := gd_go hX
  refine al_104 hx hb hK hW g1 dX12_comesPart_12 ?_
  refine lv_iadd hx hb dX12_comesPart_13 ?_
  refine lv_iload_n hx hb dX12_comesPart_14 rfl (lv_at hl 2 rfl) ?_
  obtain ⟨g2, hX⟩ := gd_go hX
  refine as_105 hx hb hK hW hS g2 dX12_comesPart_15 (fun H locs hW hS => ?_)
  obtain ⟨y3, e9⟩ : ∃ w : Mem, w = (up4 y 105 0 0 (((4 : Int32) * p0) + (y 104 0 0 p0.toNatClampNeg)).toNatClampNeg p1) := ⟨_, rfl⟩
  rw [← e9] at hW
  have hX := lt_go hX e9
  refine lv_aload_n hx hb dX12_comesPart_16 rfl (lv_at hl 0 rfl) ?_
  refine gf_40_4 hx hb htg hown hK hW q139 dX12_comesPart_17 ?_
  refine lv_iload_n hx hb dX12_comesPart_20 rfl (lv_at hl 1 rfl) ?_
  refine lv_dup2_11 hx hb dX12_comesPart_21 rfl rfl ?_
  refine al_104 hx hb hK hW g1 dX12_comesPart_22 ?_
  refine lv_iconst (v := (1 : Int32)) hx hb dX12_comesPart_23 (by decide) ?_
  refine lv_iadd hx hb dX12_comesPart_24 ?_
  refine as_104 hx hb hK hW hS g1 dX12_comesPart_25 (fun H locs hW hS => ?_)
  obtain ⟨y4, e9⟩ : ∃ w : Mem, w = (up4 y3 104 0 0 p0.toNatClampNeg ((y3 104 0 0 p0.toNatClampNeg) + (1 : Int32))) := ⟨_, rfl⟩
  rw [← e9] at hW
  have hX := lt_go hX e9
  refine lv_aload_n hx hb dX12_comesPart_26 rfl (lv_at hl 0 rfl) ?_
  refine gf_40_8 hx hb htg hown hK hW q143 dX12_comesPart_27 ?_
  refine lv_iload_n hx hb dX12_comesPart_30 rfl (lv_at hl 1 rfl) ?_
  refine lv_dup2_11 hx hb dX12_comesPart_31 rfl rfl ?_
  refine al_108 hx hb hK hW g1 dX12_comesPart_32 ?_
  refine lv_iconst (v := (1 : Int32)) hx hb dX12_comesPart_33 (by decide) ?_
  refine lv_iadd hx hb dX12_comesPart_34 ?_
  refine as_108 hx hb hK hW hS g1 dX12_comesPart_35 (fun H locs hW hS => ?_)
  obtain ⟨y5, e9⟩ : ∃ w : Mem, w = (up4 y4 108 0 0 p0.toNatClampNeg ((y4 108 0 0 p0.toNatClampNeg) + (1 : Int32))) := ⟨_, rfl⟩
  rw [← e9] at hW
  have hX := lt_go hX e9
  have hX := Option.some.inj hX
  subst hX
  exact rt_v hx hb hr hlocks hW hS dX12_comesPart_36
set_option maxHeartbeats 4000000 in
theorem k_X12_comesPart {p : Program} {l : Launch} {e : Env} {R : Room} {s : State} {m : MethodId} {args : Array Value} {below : List Frame} {meth : Method} {c : Code} {H : Heap} {locs : List Loc} {cells slots : Nat} {Q : State → Prop} {cc : ByteArray} {pc nL idx : Nat} {own : String} {ls : Array Slot} {rest : List Value} {G : Geo} {x y : Mem} {H0 : Heap} {p0 : Int32} {p1 : Int32} {z : Mem} (hx : p.tables.exec = Jvm.exec) (hb : c.code = cc) (hml : c.maxLocals = nL) (hown : s.vm.findClass own = some m.cls) (htg : ∀ w ∈ wsG, w.before args s = true) (hK : Kt G s) (hW : Wh G x y H) (hS : va_S (gF G) H0 H locs) (h : m_X12_comesPart p0 p1 y = some z) (hlk : Cond.methodLink own idx yX12_comesPart ∈ wsG) (hn : ls.size = nL) (hr : (rest.map fun v => v.category).sum ≤ 8) (hR1 : 0 + 1 ≤ R.frames) (hR2 : 8 + (3 + 11) + 0 ≤ R.locals) (hf : cells ≤ R.cells ∧ slots ≤ R.slots) (hdg : decode cc pc = .ok (.invokevirtual idx, 3)) (kk : ∀ (H1 : Heap) (locs1 : List Loc), Wh G x z H1 → va_S (gF G) H0 H1 locs1 → W p l e R s m args below meth c H1 locs1 cells slots Q (F0 m (pc + 3) ls (rest))) : W p l e R s m args below meth c H locs cells slots Q (F0 m pc ls (.int p1 :: .int p0 :: .ref (gA G 40 0 0) :: rest)) := by
  refine va_callv (va_runV (As := [.int p0, .int p1]) (rest := rest) ⟨hx, hb, hml, hown, htg⟩ (c_X12_comesPart l G x y p0 p1 z h) (cwV 2 htg (gd_V hlk q458 q459 q5 q460) rfl rfl rfl (by decide +kernel) ⟨hR1, hR2⟩) ⟨fun a U g mk q => ⟨q.1, q.2.1.calling, q.2.2⟩, rc_40 hK hW, fun U hU hW9 => ⟨rfl, hK.warm hW9, by rw [hU]; exact hW⟩⟩ rfl rfl hn rfl (lv_room hr) hdg hf) hS (fun _ _ h9 => h9) (fun _ h9 => h9) ?_
  intro u t H1 locs1 ht hvm hw hB hz1 hk1 hS1
  replace hB : Wh G x z t.heap := hB
  rw [ht] at hB
  exact kk H1 locs1 hB hS1
/-! METHOD X12_ends -/
def m_X12_ends_j164 (p0 : Int32) (x2 : Int32) (x3 : Int32) (y : Mem) : Option Mem :=
  gd_ x2 30 (lt_ (y 128 0 0 x2.toNatClampNeg) fun z29 => gd_ z29 3 (lt_ (up4 y 106 0 0 z29.toNatClampNeg ((y 106 0 0 z29.toNatClampNeg) - (1 : Int32))) fun y31 => bd_ (m_X12_comesPart (y31 128 0 0 x2.toNatClampNeg) x3 y31) fun y34 => some y34))
def m_X12_ends_j140 (p0 : Int32) (s0 : Int32) (s1 : Int32) (y : Mem) : Option Mem :=
  lt_ (up4 y 40 0 0 36 (s1 + s0)) fun y35 => some y35
def m_X12_ends_j116 (p0 : Int32) (x2 : Int32) (s0 : Int32) (y : Mem) : Option Mem :=
  lt_ s0 fun x3_21 => gd_ x2 30 (if 0 ≤ (y 128 0 0 x2.toNatClampNeg) then (if 0 ≤ x3_21 then (m_X12_ends_j164 p0 x2 x3_21 y) else (lt_ (y 40 0 0 35) fun x3_25 => lt_ (up4 y 40 0 0 35 ((y 40 0 0 35) + (1 : Int32))) fun y26 => m_X12_ends_j164 p0 x2 x3_25 y26)) else (if x3_21 < 0 then (m_X12_ends_j140 p0 (0 : Int32) (y 40 0 0 36) y) else (m_X12_ends_j140 p0 (1 : Int32) (y 40 0 0 36) y)))
def m_X12_ends (p0 : Int32) (y : Mem) : Option Mem :=
  gd_ p0 3 (lt_ (y 113 0 0 p0.toNatClampNeg) fun x2_2 => bd_ (m_X12_zoneOf p0 y) fun r4 => bd_ (m_X12_notes p0 (3 : Int32) r4 y) fun y7 => lt_ (up4 y7 114 0 0 p0.toNatClampNeg (0 : Int32)) fun y8 => lt_ (up4 y8 113 0 0 p0.toNatClampNeg (-1 : Int32)) fun y9 => lt_ (up4 y9 115 0 0 p0.toNatClampNeg (0 : Int32)) fun y10 => lt_ (up4 y10 116 0 0 p0.toNatClampNeg (0 : Int32)) fun y11 => gd_ x2_2 30 (lt_ (up4 y11 129 0 0 x2_2.toNatClampNeg (2 : Int32)) fun y13 => lt_ (up4 y13 131 0 0 x2_2.toNatClampNeg (y13 40 0 0 33)) fun y14 => lt_ (up4 y14 40 0 0 37 ((y14 40 0 0 37) + (1 : Int32))) fun y15 => lt_ (up4 y15 40 0 0 39 ((y15 40 0 0 39) + ((y15 40 0 0 33) - (y15 130 0 0 x2_2.toNatClampNeg)))) fun y16 => if (y16 127 0 0 x2_2.toNatClampNeg) < 0 then (m_X12_ends_j116 p0 x2_2 (-1 : Int32) y16) else (bd2_ (m_X12_firstPartOf (y16 127 0 0 x2_2.toNatClampNeg) y16) fun r19 y20 => m_X12_ends_j116 p0 x2_2 r19 y20)))
abbrev WS_X12_ends : List Cond := .code yX12_ends cX12_ends 4 none :: wsG
abbrev RM_X12_ends : Room := { frames := 2, cells := 0, slots := 0, locals := 45 }
set_option maxHeartbeats 4000000 in
set_option maxRecDepth 100000 in
theorem c_X12_ends (l : Launch) (G : Geo) (x y : Mem) (p0 : Int32) (r : Mem) (h : m_X12_ends p0 y = some r) : Met l yX12_ends WS_X12_ends RM_X12_ends (Pw G x y [.ref (gA G 40 0 0), .int p0]) (Qv G x r) 0 0 (gF G) := by
  refine Met.ofW (cc := cX12_ends) (maxL := 4) (ret := none) (by decide) rfl ?_
  intro p e s m args below meth c s₁ B hml hv
  obtain ⟨rfl, hK, hW⟩ := hv
  have hx := B.exec
  have hb := B.bytes
  have hr := B.returns
  have hts := atoms_spec (ws := WS_X12_ends) B.pre
  have htg : ∀ w ∈ wsG, w.before _ s = true := fun w h => hts w (List.mem_cons_of_mem _ h)
  have hown : s.vm.findClass RX12 = some m.cls := findClass_of_methodNamed B.named
  have hlocks := B.notSynchronized
  have hS : va_S (gF G) s.heap s.heap [] := va_S.rf
  have hl := lv_entry ([.ref (gA G 40 0 0), .int p0]) (n := 4) (Nat.le_of_ble_eq_true rfl)
  rw [lg_entry_eq]
  generalize (lg_sl ([.ref (gA G 40 0 0), .int p0]) ++ List.replicate (4 - (lg_sl ([.ref (gA G 40 0 0), .int p0])).length) Slot.unset).toArray = ls at hl ⊢
  have hl : lv_has ls 4 [(0, .ref (gA G 40 0 0)), (1, .int p0)] := hl
  have hX := h
  unfold m_X12_ends at hX
  have J_164 : ∀ (x2 : Int32) (x3 : Int32) (y : Mem) (H : Heap) (locs : List Loc) (ls : Array Slot), Wh G x y H → va_S (gF G) s.heap H locs → lv_has ls 4 [(0, .ref (gA G 40 0 0)), (2, .int x2), (3, .int x3)] → m_X12_ends_j164 p0 x2 x3 y = some r → W p l e (headSpec WS_X12_ends RM_X12_ends).room s m ([.ref (gA G 40 0 0), .int p0] : List Value).toArray below meth c H locs 0 0 (MQ below (Qv G x r) ([.ref (gA G 40 0 0), .int p0] : List Value).toArray s 0 0 (gF G)) (F0 m 164 ls []) := by
    intro x2 x3 y H locs ls hW hS hl hX
    unfold m_X12_ends_j164 at hX
    refine lv_aload_n hx hb dX12_ends_164 rfl (lv_at hl 0 rfl) ?_
    refine gf_40_6 hx hb htg hown hK hW q141 dX12_ends_165 ?_
    refine lv_aload_n hx hb dX12_ends_168 rfl (lv_at hl 0 rfl) ?_
    refine gf_40_28 hx hb htg hown hK hW q163 dX12_ends_169 ?_
    refine lv_iload_n hx hb dX12_ends_172 rfl (lv_at hl 1 rfl) ?_
    obtain ⟨g28, hX⟩ := gd_go hX
    refine al_128 hx hb hK hW g28 dX12_ends_173 ?_
    refine lv_topi (fun z29 e9 => ?_)
    have hX := lt_go hX e9
    refine lv_dup2_11 hx hb dX12_ends_174 rfl rfl ?_
    obtain ⟨g30, hX⟩ := gd_go hX
    refine al_106 hx hb hK hW g30 dX12_ends_175 ?_
    refine lv_iconst (v := (1 : Int32)) hx hb dX12_ends_176 (by decide) ?_
    refine lv_isub hx hb dX12_ends_177 ?_
    refine as_106 hx hb hK hW hS g30 dX12_ends_178 (fun H locs hW hS => ?_)
    obtain ⟨y31, e9⟩ : ∃ w : Mem, w = (up4 y 106 0 0 z29.toNatClampNeg ((y 106 0 0 z29.toNatClampNeg) - (1 : Int32))) := ⟨_, rfl⟩
    rw [← e9] at hW
    have hX := lt_go hX e9
    refine lv_aload_n hx hb dX12_ends_179 rfl (lv_at hl 0 rfl) ?_
    refine lv_aload_n hx hb dX12_ends_180 rfl (lv_at hl 0 rfl) ?_
    refine gf_40_28 hx hb htg hown hK hW q163 dX12_ends_181 ?_
    refine lv_iload_n hx hb dX12_ends_184 rfl (lv_at hl 1 rfl) ?_
    refine al_128 hx hb hK hW g28 dX12_ends_185 ?_
    refine lv_iload_n hx hb dX12_ends_186 rfl (lv_at hl 2 rfl) ?_
    obtain ⟨y34, h32, hX⟩ := bd_go hX
    refine k_X12_comesPart hx hb hml hown htg hK hW hS h32 q457 hl.1 (Nat.le_of_ble_eq_true rfl) (Nat.le_of_ble_eq_true rfl) (Nat.le_of_ble_eq_true rfl) ⟨Nat.zero_le _, Nat.zero_le _⟩ dX12_ends_187 (fun H locs hW hS => ?_)
    have hX := Option.some.inj hX
    subst hX
    exact rt_v hx hb hr hlocks hW hS dX12_ends_190
  have J_140 : ∀ (s0 : Int32) (s1 : Int32) (y : Mem) (H : Heap) (locs : List Loc) (ls : Array Slot), Wh G x y H → va_S (gF G) s.heap H locs → lv_has ls 4 [] → m_X12_ends_j140 p0 s0 s1 y = some r → W p l e (headSpec WS_X12_ends RM_X12_ends).room s m ([.ref (gA G 40 0 0), .int p0] : List Value).toArray below meth c H locs 0 0 (MQ below (Qv G x r) ([.ref (gA G 40 0 0), .int p0] : List Value).toArray s 0 0 (gF G)) (F0 m 140 ls [.int s0, .int s1, .ref (gA G 40 0 0)]) := by
    intro s0 s1 y H locs ls hW hS hl hX
    unfold m_X12_ends_j140 at hX
    refine lv_iadd hx hb dX12_ends_140 ?_
    refine pf_40_36 hx hb htg hown hK hW hS q355 dX12_ends_141 (fun H locs hW hS => ?_)
    obtain ⟨y35, e9⟩ : ∃ w : Mem, w = (up4 y 40 0 0 36 (s1 + s0)) := ⟨_, rfl⟩
    rw [← e9] at hW
    have hX := lt_go hX e9
    have hX := Option.some.inj hX
    subst hX
    exact rt_v hx hb hr hlocks hW hS dX12_ends_144
  have J_116 : ∀ (x2 : Int32) (s0 : Int32) (y : Mem) (H : Heap) (locs : List Loc) (ls : Array Slot), Wh G x y H → va_S (gF G) s.heap H locs → lv_has ls 4 [(0, .ref (gA G 40 0 0)), (2, .int x2)] → m_X12_ends_j116 p0 x2 s0 y = some r → W p l e (headSpec WS_X12_ends RM_X12_ends).room s m ([.ref (gA G 40 0 0), .int p0] : List Value).toArray below meth c H locs 0 0 (MQ below (Qv G x r) ([.ref (gA G 40 0 0), .int p0] : List Value).toArray s 0 0 (gF G)) (F0 m 116 ls [.int s0]) := by
    intro x2 s0 y H locs ls hW hS hl hX
    unfold m_X12_ends_j116 at hX
    refine lv_topi (fun x3_21 e9 => ?_)
    have hX := lt_go hX e9
    refine lv_istore_n (lv' := [(3, .int x3_21), (0, .ref (gA G 40 0 0)), (2, .int x2)]) hx hb dX12_ends_116 rfl hl (by decide) rfl (fun ls hl => ?_)
    refine lv_aload_n hx hb dX12_ends_117 rfl (lv_at hl 1 rfl) ?_
    refine gf_40_28 hx hb htg hown hK hW q163 dX12_ends_118 ?_
    refine lv_iload_n hx hb dX12_ends_121 rfl (lv_at hl 2 rfl) ?_
    obtain ⟨g22, hX⟩ := gd_go hX
    refine al_128 hx hb hK hW g22 dX12_ends_122 ?_
    refine lv_if_ge (tgt := 145) hx hb dX12_ends_123 (by decide) (fun c23 => ?_) (fun c23 => ?_)
    · have hX := it_t hX c23
      refine lv_iload_n hx hb dX12_ends_145 rfl (lv_at hl 0 rfl) ?_
      refine lv_if_ge (tgt := 164) hx hb dX12_ends_146 (by decide) (fun c24 => ?_) (fun c24 => ?_)
      · have hX := it_t hX c24
        exact J_164 _ _ _ _ _ _ hW hS (lv_sub hl [1, 2, 0] rfl) hX
      · have hX := it_f hX c24
        refine lv_aload_n hx hb dX12_ends_149 rfl (lv_at hl 1 rfl) ?_
        refine gf_40_35 hx hb htg hown hK hW q354 dX12_ends_150 ?_
        refine lv_topi (fun x3_25 e9 => ?_)
        have hX := lt_go hX e9
        refine lv_istore_n (lv' := [(3, .int x3_25), (0, .ref (gA G 40 0 0)), (2, .int x2)]) hx hb dX12_ends_153 rfl hl (by decide) rfl (fun ls hl => ?_)
        refine lv_aload_n hx hb dX12_ends_154 rfl (lv_at hl 1 rfl) ?_
        refine lv_dup hx hb dX12_ends_155 rfl ?_
        refine gf_40_35 hx hb htg hown hK hW q354 dX12_ends_156 ?_
        refine lv_iconst (v := (1 : Int32)) hx hb dX12_ends_159 (by decide) ?_
        refine lv_iadd hx hb dX12_ends_160 ?_
        refine pf_40_35 hx hb htg hown hK hW hS q354 dX12_ends_161 (fun H locs hW hS => ?_)
        obtain ⟨y26, e9⟩ : ∃ w : Mem, w = (up4 y 40 0 0 35 ((y 40 0 0 35) + (1 : Int32))) := ⟨_, rfl⟩
        rw [← e9] at hW
        have hX := lt_go hX e9
        exact J_164 _ _ _ _ _ _ hW hS (lv_sub hl [1, 2, 0] rfl) hX
    · have hX := it_f hX c23
      refine lv_aload_n hx hb dX12_ends_126 rfl (lv_at hl 1 rfl) ?_
      refine lv_dup hx hb dX12_ends_127 rfl ?_
      refine gf_40_36 hx hb htg hown hK hW q355 dX12_ends_128 ?_
      refine lv_iload_n hx hb dX12_ends_131 rfl (lv_at hl 0 rfl) ?_
      refine lv_if_lt (tgt := 139) hx hb dX12_ends_132 (by decide) (fun c27 => ?_) (fun c27 => ?_)
      · have hX := it_t hX c27
        refine lv_iconst (v := (0 : Int32)) hx hb dX12_ends_139 (by decide) ?_
        exact J_140 _ _ _ _ _ _ hW hS (lv_sub hl [] rfl) hX
      · have hX := it_f hX c27
        refine lv_iconst (v := (1 : Int32)) hx hb dX12_ends_135 (by decide) ?_
        refine lv_goto (tgt := 140) hx hb dX12_ends_136 (by decide) ?_
        exact J_140 _ _ _ _ _ _ hW hS (lv_sub hl [] rfl) hX
  refine lv_aload_n hx hb dX12_ends_0 rfl (lv_at hl 0 rfl) ?_
  refine gf_40_13 hx hb htg hown hK hW q148 dX12_ends_1 ?_
  refine lv_iload_n hx hb dX12_ends_4 rfl (lv_at hl 1 rfl) ?_
  obtain ⟨g1, hX⟩ := gd_go hX
  refine al_113 hx hb hK hW g1 dX12_ends_5 ?_
  refine lv_topi (fun x2_2 e9 => ?_)
  have hX := lt_go hX e9
  refine lv_istore_n (lv' := [(2, .int x2_2), (0, .ref (gA G 40 0 0)), (1, .int p0)]) hx hb dX12_ends_6 rfl hl (by decide) rfl (fun ls hl => ?_)
  refine lv_aload_n hx hb dX12_ends_7 rfl (lv_at hl 1 rfl) ?_
  refine lv_iload_n hx hb dX12_ends_8 rfl (lv_at hl 2 rfl) ?_
  refine lv_iconst (v := (3 : Int32)) hx hb dX12_ends_9 (by decide) ?_
  refine lv_aload_n hx hb dX12_ends_10 rfl (lv_at hl 1 rfl) ?_
  refine lv_iload_n hx hb dX12_ends_11 rfl (lv_at hl 2 rfl) ?_
  obtain ⟨r4, h3, hX⟩ := bd_go hX
  refine k_X12_zoneOf hx hb hml hown htg hK hW hS h3 q330 hl.1 (Nat.le_of_ble_eq_true rfl) (Nat.le_of_ble_eq_true rfl) (Nat.le_of_ble_eq_true rfl) ⟨Nat.zero_le _, Nat.zero_le _⟩ dX12_ends_12 (fun H locs hW hS => ?_)
  obtain ⟨y7, h5, hX⟩ := bd_go hX
  refine k_X12_notes hx hb hml hown htg hK hW hS h5 q887 hl.1 (Nat.le_of_ble_eq_true rfl) (Nat.le_of_ble_eq_true rfl) (Nat.le_of_ble_eq_true rfl) ⟨Nat.zero_le _, Nat.zero_le _⟩ dX12_ends_15 (fun H locs hW hS => ?_)
  refine lv_aload_n hx hb dX12_ends_18 rfl (lv_at hl 1 rfl) ?_
  refine gf_40_14 hx hb htg hown hK hW q149 dX12_ends_19 ?_
  refine lv_iload_n hx hb dX12_ends_22 rfl (lv_at hl 2 rfl) ?_
  refine lv_iconst (v := (0 : Int32)) hx hb dX12_ends_23 (by decide) ?_
  refine as_114 hx hb hK hW hS g1 dX12_ends_24 (fun H locs hW hS => ?_)
  obtain ⟨y8, e9⟩ : ∃ w : Mem, w = (up4 y7 114 0 0 p0.toNatClampNeg (0 : Int32)) := ⟨_, rfl⟩
  rw [← e9] at hW
  have hX := lt_go hX e9
  refine lv_aload_n hx hb dX12_ends_25 rfl (lv_at hl 1 rfl) ?_
  refine gf_40_13 hx hb htg hown hK hW q148 dX12_ends_26 ?_
  refine lv_iload_n hx hb dX12_ends_29 rfl (lv_at hl 2 rfl) ?_
  refine lv_iconst (v := (-1 : Int32)) hx hb dX12_ends_30 (by decide) ?_
  refine as_113 hx hb hK hW hS g1 dX12_ends_31 (fun H locs hW hS => ?_)
  obtain ⟨y9, e9⟩ : ∃ w : Mem, w = (up4 y8 113 0 0 p0.toNatClampNeg (-1 : Int32)) := ⟨_, rfl⟩
  rw [← e9] at hW
  have hX := lt_go hX e9
  refine lv_aload_n hx hb dX12_ends_32 rfl (lv_at hl 1 rfl) ?_
  refine gf_40_15 hx hb htg hown hK hW q150 dX12_ends_33 ?_
  refine lv_iload_n hx hb dX12_ends_36 rfl (lv_at hl 2 rfl) ?_
  refine lv_iconst (v := (0 : Int32)) hx hb dX12_ends_37 (by decide) ?_
  refine as_115 hx hb hK hW hS g1 dX12_ends_38 (fun H locs hW hS => ?_)
  obtain ⟨y10, e9⟩ : ∃ w : Mem, w = (up4 y9 115 0 0 p0.toNatClampNeg (0 : Int32)) := ⟨_, rfl⟩
  rw [← e9] at hW
  have hX := lt_go hX e9
  refine lv_aload_n hx hb dX12_ends_39 rfl (lv_at hl 1 rfl) ?_
  refine gf_40_16 hx hb htg hown hK hW q151 dX12_ends_40 ?_
  refine lv_iload_n hx hb dX12_ends_43 rfl (lv_at hl 2 rfl) ?_
  refine lv_iconst (v := (0 : Int32)) hx hb dX12_ends_44 (by decide) ?_
  refine as_116 hx hb hK hW hS g1 dX12_ends_45 (fun H locs hW hS => ?_)
  obtain ⟨y11, e9⟩ : ∃ w : Mem, w = (up4 y10 116 0 0 p0.toNatClampNeg (0 : Int32)) := ⟨_, rfl⟩
  rw [← e9] at hW
  have hX := lt_go hX e9
  refine lv_aload_n hx hb dX12_ends_46 rfl (lv_at hl 1 rfl) ?_
  refine gf_40_29 hx hb htg hown hK hW q164 dX12_ends_47 ?_
  refine lv_iload_n hx hb dX12_ends_50 rfl (lv_at hl 0 rfl) ?_
  refine lv_iconst (v := (2 : Int32)) hx hb dX12_ends_51 (by decide) ?_
  obtain ⟨g12, hX⟩ := gd_go hX
  refine as_129 hx hb hK hW hS g12 dX12_ends_52 (fun H locs hW hS => ?_)
  obtain ⟨y13, e9⟩ : ∃ w : Mem, w = (up4 y11 129 0 0 x2_2.toNatClampNeg (2 : Int32)) := ⟨_, rfl⟩
  rw [← e9] at hW
  have hX := lt_go hX e9
  refine lv_aload_n hx hb dX12_ends_53 rfl (lv_at hl 1 rfl) ?_
  refine gf_40_31 hx hb htg hown hK hW q166 dX12_ends_54 ?_
  refine lv_iload_n hx hb dX12_ends_57 rfl (lv_at hl 0 rfl) ?_
  refine lv_aload_n hx hb dX12_ends_58 rfl (lv_at hl 1 rfl) ?_
  refine gf_40_33 hx hb htg hown hK hW q352 dX12_ends_59 ?_
  refine as_131 hx hb hK hW hS g12 dX12_ends_62 (fun H locs hW hS => ?_)
  obtain ⟨y14, e9⟩ : ∃ w : Mem, w = (up4 y13 131 0 0 x2_2.toNatClampNeg (y13 40 0 0 33)) := ⟨_, rfl⟩
  rw [← e9] at hW
  have hX := lt_go hX e9
  refine lv_aload_n hx hb dX12_ends_63 rfl (lv_at hl 1 rfl) ?_
  refine lv_dup hx hb dX12_ends_64 rfl ?_
  refine gf_40_37 hx hb htg hown hK hW q356 dX12_ends_65 ?_
  refine lv_iconst (v := (1 : Int32)) hx hb dX12_ends_68 (by decide) ?_
  refine lv_iadd hx hb dX12_ends_69 ?_
  refine pf_40_37 hx hb htg hown hK hW hS q356 dX12_ends_70 (fun H locs hW hS => ?_)
  obtain ⟨y15, e9⟩ : ∃ w : Mem, w = (up4 y14 40 0 0 37 ((y14 40 0 0 37) + (1 : Int32))) := ⟨_, rfl⟩
  rw [← e9] at hW
  have hX := lt_go hX e9
  refine lv_aload_n hx hb dX12_ends_73 rfl (lv_at hl 1 rfl) ?_
  refine lv_dup hx hb dX12_ends_74 rfl ?_
  refine gf_40_39 hx hb htg hown hK hW q358 dX12_ends_75 ?_
  refine lv_aload_n hx hb dX12_ends_78 rfl (lv_at hl 1 rfl) ?_
  refine gf_40_33 hx hb htg hown hK hW q352 dX12_ends_79 ?_
  refine lv_aload_n hx hb dX12_ends_82 rfl (lv_at hl 1 rfl) ?_
  refine gf_40_30 hx hb htg hown hK hW q165 dX12_ends_83 ?_
  refine lv_iload_n hx hb dX12_ends_86 rfl (lv_at hl 0 rfl) ?_
  refine al_130 hx hb hK hW g12 dX12_ends_87 ?_
  refine lv_isub hx hb dX12_ends_88 ?_
  refine lv_iadd hx hb dX12_ends_89 ?_
  refine pf_40_39 hx hb htg hown hK hW hS q358 dX12_ends_90 (fun H locs hW hS => ?_)
  obtain ⟨y16, e9⟩ : ∃ w : Mem, w = (up4 y15 40 0 0 39 ((y15 40 0 0 39) + ((y15 40 0 0 33) - (y15 130 0 0 x2_2.toNatClampNeg)))) := ⟨_, rfl⟩
  rw [← e9] at hW
  have hX := lt_go hX e9
  refine lv_aload_n hx hb dX12_ends_93 rfl (lv_at hl 1 rfl) ?_
  refine gf_40_27 hx hb htg hown hK hW q162 dX12_ends_94 ?_
  refine lv_iload_n hx hb dX12_ends_97 rfl (lv_at hl 0 rfl) ?_
  refine al_127 hx hb hK hW g12 dX12_ends_98 ?_
  refine lv_if_lt (tgt := 115) hx hb dX12_ends_99 (by decide) (fun c17 => ?_) (fun c17 => ?_)
  · have hX := it_t hX c17
    refine lv_iconst (v := (-1 : Int32)) hx hb dX12_ends_115 (by decide) ?_
    exact J_116 _ _ _ _ _ _ hW hS (lv_sub hl [1, 0] rfl) hX
  · have hX := it_f hX c17
    refine lv_aload_n hx hb dX12_ends_102 rfl (lv_at hl 1 rfl) ?_
    refine lv_aload_n hx hb dX12_ends_103 rfl (lv_at hl 1 rfl) ?_
    refine gf_40_27 hx hb htg hown hK hW q162 dX12_ends_104 ?_
    refine lv_iload_n hx hb dX12_ends_107 rfl (lv_at hl 0 rfl) ?_
    refine al_127 hx hb hK hW g12 dX12_ends_108 ?_
    obtain ⟨r19, y20, h18, hX⟩ := bd2_go hX
    refine k_X12_firstPartOf hx hb hml hown htg hK hW hS h18 q903 hl.1 (Nat.le_of_ble_eq_true rfl) (Nat.le_of_ble_eq_true rfl) (Nat.le_of_ble_eq_true rfl) ⟨Nat.zero_le _, Nat.zero_le _⟩ dX12_ends_109 (fun H locs hW hS => ?_)
    refine lv_goto (tgt := 116) hx hb dX12_ends_112 (by decide) ?_
    exact J_116 _ _ _ _ _ _ hW hS (lv_sub hl [1, 0] rfl) hX
set_option maxHeartbeats 4000000 in
theorem k_X12_ends {p : Program} {l : Launch} {e : Env} {R : Room} {s : State} {m : MethodId} {args : Array Value} {below : List Frame} {meth : Method} {c : Code} {H : Heap} {locs : List Loc} {cells slots : Nat} {Q : State → Prop} {cc : ByteArray} {pc nL idx : Nat} {own : String} {ls : Array Slot} {rest : List Value} {G : Geo} {x y : Mem} {H0 : Heap} {p0 : Int32} {z : Mem} (hx : p.tables.exec = Jvm.exec) (hb : c.code = cc) (hml : c.maxLocals = nL) (hown : s.vm.findClass own = some m.cls) (htg : ∀ w ∈ wsG, w.before args s = true) (hK : Kt G s) (hW : Wh G x y H) (hS : va_S (gF G) H0 H locs) (h : m_X12_ends p0 y = some z) (hlk : Cond.methodLink own idx yX12_ends ∈ wsG) (hn : ls.size = nL) (hr : (rest.map fun v => v.category).sum ≤ 8) (hR1 : 2 + 1 ≤ R.frames) (hR2 : 8 + (4 + 11) + 45 ≤ R.locals) (hf : cells ≤ R.cells ∧ slots ≤ R.slots) (hdg : decode cc pc = .ok (.invokevirtual idx, 3)) (kk : ∀ (H1 : Heap) (locs1 : List Loc), Wh G x z H1 → va_S (gF G) H0 H1 locs1 → W p l e R s m args below meth c H1 locs1 cells slots Q (F0 m (pc + 3) ls (rest))) : W p l e R s m args below meth c H locs cells slots Q (F0 m pc ls (.int p0 :: .ref (gA G 40 0 0) :: rest)) := by
  refine va_callv (va_runV (As := [.int p0]) (rest := rest) ⟨hx, hb, hml, hown, htg⟩ (c_X12_ends l G x y p0 z h) (cwV 1 htg (gd_V hlk q900 q901 q5 q902) rfl rfl rfl (by decide +kernel) ⟨hR1, hR2⟩) ⟨fun a U g mk q => ⟨q.1, q.2.1.calling, q.2.2⟩, rc_40 hK hW, fun U hU hW9 => ⟨rfl, hK.warm hW9, by rw [hU]; exact hW⟩⟩ rfl rfl hn rfl (lv_room hr) hdg hf) hS (fun _ _ h9 => h9) (fun _ h9 => h9) ?_
  intro u t H1 locs1 ht hvm hw hB hz1 hk1 hS1
  replace hB : Wh G x z t.heap := hB
  rw [ht] at hB
  exact kk H1 locs1 hB hS1
