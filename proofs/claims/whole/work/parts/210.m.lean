/-! METHOD X6_findStuck -/
def m_X6_findStuck_j121 (k35 : Int32 → Int32 → Int32 → Mem → Option Int32) (x1 : Int32) (x2 : Int32) (x3 : Int32) (x : Mem) : Option Int32 :=
  lt_ (x3 + (1 : Int32)) fun x3_18 => k35 x1 x2 x3_18 x
def m_X6_findStuck_j115 (k35 : Int32 → Int32 → Int32 → Mem → Option Int32) (k43 : Int32 → Int32 → Int32 → Int32 → Mem → Option Int32) (x1 : Int32) (x2 : Int32) (x3 : Int32) (x4 : Int32) (x : Mem) : Option Int32 :=
  lt_ (x4 + (1 : Int32)) fun x4_19 => k43 x1 x2 x3 x4_19 x
def m_X6_findStuck_b43 (k35 : Int32 → Int32 → Int32 → Mem → Option Int32) (k43 : Int32 → Int32 → Int32 → Int32 → Mem → Option Int32) (x1 : Int32) (x2 : Int32) (x3 : Int32) (x4 : Int32) (x : Mem) : Option Int32 :=
  if (3 : Int32) ≤ x4 then (m_X6_findStuck_j121 k35 x1 x2 x3 x) else (if (3 : Int32) ≤ x4 then (m_X6_findStuck_j121 k35 x1 x2 x3 x) else (if (x1 &&& (shl32 (1 : Int32) x4)) = 0 then (m_X6_findStuck_j115 k35 k43 x1 x2 x3 x4 x) else (gd_ x4 3 (if (((x 21 0 0 x4.toNatClampNeg) &&& x2) &&& ((x 20 0 0 x4.toNatClampNeg) ^^^ (-1 : Int32))) = 0 then (lt_ (x1 &&& ((shl32 (1 : Int32) x4) ^^^ (-1 : Int32))) fun x1_16 => lt_ (x2 &&& ((x 20 0 0 x4.toNatClampNeg) ^^^ (-1 : Int32))) fun x2_17 => m_X6_findStuck_j115 k35 k43 x1_16 x2_17 x3 x4 x) else (m_X6_findStuck_j115 k35 k43 x1 x2 x3 x4 x)))))
def m_X6_findStuck_l43 (k35 : Int32 → Int32 → Int32 → Mem → Option Int32) : Nat → Int32 → Int32 → Int32 → Int32 → Mem → Option Int32
  | 0, _, _, _, _, _ => none
  | n + 1, x1, x2, x3, x4, x => m_X6_findStuck_b43 k35 (m_X6_findStuck_l43 k35 n) x1 x2 x3 x4 x
def m_X6_findStuck_b35 (k35 : Int32 → Int32 → Int32 → Mem → Option Int32) (x1 : Int32) (x2 : Int32) (x3 : Int32) (x : Mem) : Option Int32 :=
  if (3 : Int32) ≤ x3 then (some x1) else (lt_ (0 : Int32) fun x4_10 => m_X6_findStuck_l43 k35 FU x1 x2 x3 x4_10 x)
def m_X6_findStuck_l35 : Nat → Int32 → Int32 → Int32 → Mem → Option Int32
  | 0, _, _, _, _ => none
  | n + 1, x1, x2, x3, x => m_X6_findStuck_b35 (m_X6_findStuck_l35 n) x1 x2 x3 x
def m_X6_findStuck_b9 (k9 : Int32 → Int32 → Int32 → Mem → Option Int32) (x1 : Int32) (x2 : Int32) (x3 : Int32) (x : Mem) : Option Int32 :=
  if (3 : Int32) ≤ x3 then (lt_ (0 : Int32) fun x3_5 => m_X6_findStuck_l35 FU x1 x2 x3_5 x) else (gd_ x3 3 (lt_ (x2 ||| (x 20 0 0 x3.toNatClampNeg)) fun x2_7 => lt_ (x3 + (1 : Int32)) fun x3_8 => k9 x1 x2_7 x3_8 x))
def m_X6_findStuck_l9 : Nat → Int32 → Int32 → Int32 → Mem → Option Int32
  | 0, _, _, _, _ => none
  | n + 1, x1, x2, x3, x => m_X6_findStuck_b9 (m_X6_findStuck_l9 n) x1 x2 x3 x
def m_X6_findStuck (x : Mem) : Option Int32 :=
  lt_ (x 19 0 0 1) fun x1_1 => lt_ (0 : Int32) fun x2_2 => lt_ (0 : Int32) fun x3_3 => m_X6_findStuck_l9 FU x1_1 x2_2 x3_3 x
abbrev WS_X6_findStuck : List Cond := .code yX6_findStuck cX6_findStuck 5 (some .int) :: wsG
abbrev RM_X6_findStuck : Room := { frames := 0, cells := 0, slots := 0, locals := 0 }
set_option maxHeartbeats 4000000 in
set_option maxRecDepth 100000 in
theorem c_X6_findStuck (l : Launch) (G : Geo) (x y : Mem) (r : Int32) (h : m_X6_findStuck x = some r) : Met l yX6_findStuck WS_X6_findStuck RM_X6_findStuck (Pw G x y [.ref (gA G 19 0 0)]) (Qi G x y r) 0 0 (gF G) := by
  refine Met.ofW (cc := cX6_findStuck) (maxL := 5) (ret := (some .int)) (by decide) rfl ?_
  intro p e s m args below meth c s₁ B hml hv
  obtain ⟨rfl, hK, hW⟩ := hv
  have hx := B.exec
  have hb := B.bytes
  have hr := B.returns
  have hts := atoms_spec (ws := WS_X6_findStuck) B.pre
  have htg : ∀ w ∈ wsG, w.before _ s = true := fun w h => hts w (List.mem_cons_of_mem _ h)
  have hown : s.vm.findClass RX6 = some m.cls := findClass_of_methodNamed B.named
  have hlocks := B.notSynchronized
  have hS : va_S (gF G) s.heap s.heap [] := va_S.rf
  have hl := lv_entry ([.ref (gA G 19 0 0)]) (n := 5) (Nat.le_of_ble_eq_true rfl)
  rw [lg_entry_eq]
  generalize (lg_sl ([.ref (gA G 19 0 0)]) ++ List.replicate (5 - (lg_sl ([.ref (gA G 19 0 0)])).length) Slot.unset).toArray = ls at hl ⊢
  have hl : lv_has ls 5 [(0, .ref (gA G 19 0 0))] := hl
  have hX := h
  unfold m_X6_findStuck at hX
  have J_121 : ∀ (k35 : Int32 → Int32 → Int32 → Mem → Option Int32) (hk35 : ∀ (x1 : Int32) (x2 : Int32) (x3 : Int32) (x : Mem) (H : Heap) (locs : List Loc) (ls : Array Slot), Wh G x y H → va_S (gF G) s.heap H locs → lv_has ls 5 [(0, .ref (gA G 19 0 0)), (1, .int x1), (2, .int x2), (3, .int x3)] → k35 x1 x2 x3 x = some r → W p l e (headSpec WS_X6_findStuck RM_X6_findStuck).room s m ([.ref (gA G 19 0 0)] : List Value).toArray below meth c H locs 0 0 (MQ below (Qi G x y r) ([.ref (gA G 19 0 0)] : List Value).toArray s 0 0 (gF G)) (F0 m 35 ls [])), ∀ (x1 : Int32) (x2 : Int32) (x3 : Int32) (x : Mem) (H : Heap) (locs : List Loc) (ls : Array Slot), Wh G x y H → va_S (gF G) s.heap H locs → lv_has ls 5 [(0, .ref (gA G 19 0 0)), (1, .int x1), (2, .int x2), (3, .int x3)] → m_X6_findStuck_j121 k35 x1 x2 x3 x = some r → W p l e (headSpec WS_X6_findStuck RM_X6_findStuck).room s m ([.ref (gA G 19 0 0)] : List Value).toArray below meth c H locs 0 0 (MQ below (Qi G x y r) ([.ref (gA G 19 0 0)] : List Value).toArray s 0 0 (gF G)) (F0 m 121 ls []) := by
    intro k35 hk35 x1 x2 x3 x H locs ls hW hS hl hX
    unfold m_X6_findStuck_j121 at hX
    obtain ⟨x3_18, e9⟩ : ∃ w : Int32, w = (x3 + (1 : Int32)) := ⟨_, rfl⟩
    have hX := lt_go hX e9
    refine lv_iinc (v := x3_18) (lv' := [(3, .int x3_18), (0, .ref (gA G 19 0 0)), (1, .int x1), (2, .int x2)]) hx hb dX6_findStuck_121 hl (k := 3) rfl (by rw [e9]; rfl) (by decide) rfl (fun ls hl => ?_)
    refine lv_goto (tgt := 35) hx hb dX6_findStuck_124 (by decide) ?_
    exact hk35 _ _ _ _ _ _ _ hW hS (lv_sub hl [1, 2, 3, 0] rfl) hX
  have J_115 : ∀ (k35 : Int32 → Int32 → Int32 → Mem → Option Int32) (hk35 : ∀ (x1 : Int32) (x2 : Int32) (x3 : Int32) (x : Mem) (H : Heap) (locs : List Loc) (ls : Array Slot), Wh G x y H → va_S (gF G) s.heap H locs → lv_has ls 5 [(0, .ref (gA G 19 0 0)), (1, .int x1), (2, .int x2), (3, .int x3)] → k35 x1 x2 x3 x = some r → W p l e (headSpec WS_X6_findStuck RM_X6_findStuck).room s m ([.ref (gA G 19 0 0)] : List Value).toArray below meth c H locs 0 0 (MQ below (Qi G x y r) ([.ref (gA G 19 0 0)] : List Value).toArray s 0 0 (gF G)) (F0 m 35 ls [])) (k43 : Int32 → Int32 → Int32 → Int32 → Mem → Option Int32) (hk43 : ∀ (x1 : Int32) (x2 : Int32) (x3 : Int32) (x4 : Int32) (x : Mem) (H : Heap) (locs : List Loc) (ls : Array Slot), Wh G x y H → va_S (gF G) s.heap H locs → lv_has ls 5 [(0, .ref (gA G 19 0 0)), (1, .int x1), (2, .int x2), (3, .int x3), (4, .int x4)] → k43 x1 x2 x3 x4 x = some r → W p l e (headSpec WS_X6_findStuck RM_X6_findStuck).room s m ([.ref (gA G 19 0 0)] : List Value).toArray below meth c H locs 0 0 (MQ below (Qi G x y r) ([.ref (gA G 19 0 0)] : List Value).toArray s 0 0 (gF G)) (F0 m 43 ls [])), ∀ (x1 : Int32) (x2 : Int32) (x3 : Int32) (x4 : Int32) (x : Mem) (H : Heap) (locs : List Loc) (ls : Array Slot), Wh G x y H → va_S (gF G) s.heap H locs → lv_has ls 5 [(0, .ref (gA G 19 0 0)), (1, .int x1), (2, .int x2), (3, .int x3), (4, .int x4)] → m_X6_findStuck_j115 k35 k43 x1 x2 x3 x4 x = some r → W p l e (headSpec WS_X6_findStuck RM_X6_findStuck).room s m ([.ref (gA G 19 0 0)] : List Value).toArray below meth c H locs 0 0 (MQ below (Qi G x y r) ([.ref (gA G 19 0 0)] : List Value).toArray s 0 0 (gF G)) (F0 m 115 ls []) := by
    intro k35 hk35 k43 hk43 x1 x2 x3 x4 x H locs ls hW hS hl hX
    unfold m_X6_findStuck_j115 at hX
    obtain ⟨x4_19, e9⟩ : ∃ w : Int32, w = (x4 + (1 : Int32)) := ⟨_, rfl⟩
    have hX := lt_go hX e9
    refine lv_iinc (v := x4_19) (lv' := [(4, .int x4_19), (0, .ref (gA G 19 0 0)), (1, .int x1), (2, .int x2), (3, .int x3)]) hx hb dX6_findStuck_115 hl (k := 4) rfl (by rw [e9]; rfl) (by decide) rfl (fun ls hl => ?_)
    refine lv_goto (tgt := 43) hx hb dX6_findStuck_118 (by decide) ?_
    exact hk43 _ _ _ _ _ _ _ _ hW hS (lv_sub hl [1, 2, 3, 4, 0] rfl) hX
  have B_43 : ∀ (k35 : Int32 → Int32 → Int32 → Mem → Option Int32) (hk35 : ∀ (x1 : Int32) (x2 : Int32) (x3 : Int32) (x : Mem) (H : Heap) (locs : List Loc) (ls : Array Slot), Wh G x y H → va_S (gF G) s.heap H locs → lv_has ls 5 [(0, .ref (gA G 19 0 0)), (1, .int x1), (2, .int x2), (3, .int x3)] → k35 x1 x2 x3 x = some r → W p l e (headSpec WS_X6_findStuck RM_X6_findStuck).room s m ([.ref (gA G 19 0 0)] : List Value).toArray below meth c H locs 0 0 (MQ below (Qi G x y r) ([.ref (gA G 19 0 0)] : List Value).toArray s 0 0 (gF G)) (F0 m 35 ls [])) (k43 : Int32 → Int32 → Int32 → Int32 → Mem → Option Int32) (hk43 : ∀ (x1 : Int32) (x2 : Int32) (x3 : Int32) (x4 : Int32) (x : Mem) (H : Heap) (locs : List Loc) (ls : Array Slot), Wh G x y H → va_S (gF G) s.heap H locs → lv_has ls 5 [(0, .ref (gA G 19 0 0)), (1, .int x1), (2, .int x2), (3, .int x3), (4, .int x4)] → k43 x1 x2 x3 x4 x = some r → W p l e (headSpec WS_X6_findStuck RM_X6_findStuck).room s m ([.ref (gA G 19 0 0)] : List Value).toArray below meth c H locs 0 0 (MQ below (Qi G x y r) ([.ref (gA G 19 0 0)] : List Value).toArray s 0 0 (gF G)) (F0 m 43 ls [])), ∀ (x1 : Int32) (x2 : Int32) (x3 : Int32) (x4 : Int32) (x : Mem) (H : Heap) (locs : List Loc) (ls : Array Slot), Wh G x y H → va_S (gF G) s.heap H locs → lv_has ls 5 [(0, .ref (gA G 19 0 0)), (1, .int x1), (2, .int x2), (3, .int x3), (4, .int x4)] → m_X6_findStuck_b43 k35 k43 x1 x2 x3 x4 x = some r → W p l e (headSpec WS_X6_findStuck RM_X6_findStuck).room s m ([.ref (gA G 19 0 0)] : List Value).toArray below meth c H locs 0 0 (MQ below (Qi G x y r) ([.ref (gA G 19 0 0)] : List Value).toArray s 0 0 (gF G)) (F0 m 43 ls []) := by
    intro k35 hk35 k43 hk43 x1 x2 x3 x4 x H locs ls hW hS hl hX
    unfold m_X6_findStuck_b43 at hX
    refine lv_iload hx hb dX6_findStuck_43 (lv_at hl 4 rfl) ?_
    refine lv_aload_n hx hb dX6_findStuck_45 rfl (lv_at hl 0 rfl) ?_
    refine gf_19_2 hx hb htg hown hK hW q116 dX6_findStuck_46 ?_
    refine an_20 hx hb hK hW dX6_findStuck_49 ?_
    refine lv_icmp_ge (tgt := 121) hx hb dX6_findStuck_50 (by decide) (fun c11 => ?_) (fun c11 => ?_)
    · have hX := it_t hX c11
      exact J_121 k35 hk35 _ _ _ _ _ _ _ hW hS (lv_sub hl [0, 1, 2, 3] rfl) hX
    · have hX := it_f hX c11
      refine lv_iload hx hb dX6_findStuck_53 (lv_at hl 4 rfl) ?_
      refine lv_aload_n hx hb dX6_findStuck_55 rfl (lv_at hl 0 rfl) ?_
      refine gf_19_3 hx hb htg hown hK hW q117 dX6_findStuck_56 ?_
      refine an_21 hx hb hK hW dX6_findStuck_59 ?_
      refine lv_icmp_ge (tgt := 121) hx hb dX6_findStuck_60 (by decide) (fun c12 => ?_) (fun c12 => ?_)
      · have hX := it_t hX c12
        exact J_121 k35 hk35 _ _ _ _ _ _ _ hW hS (lv_sub hl [0, 1, 2, 3] rfl) hX
      · have hX := it_f hX c12
        refine lv_iload_n hx hb dX6_findStuck_63 rfl (lv_at hl 1 rfl) ?_
        refine lv_iconst (v := (1 : Int32)) hx hb dX6_findStuck_64 (by decide) ?_
        refine lv_iload hx hb dX6_findStuck_65 (lv_at hl 4 rfl) ?_
        refine lv_ishl_ hx hb dX6_findStuck_67 ?_
        refine lv_iand hx hb dX6_findStuck_68 ?_
        refine lv_if_eq (tgt := 115) hx hb dX6_findStuck_69 (by decide) (fun c13 => ?_) (fun c13 => ?_)
        · have hX := it_t hX c13
          exact J_115 k35 hk35 k43 hk43 _ _ _ _ _ _ _ _ hW hS (lv_sub hl [0, 1, 2, 3, 4] rfl) hX
        · have hX := it_f hX c13
          refine lv_aload_n hx hb dX6_findStuck_72 rfl (lv_at hl 0 rfl) ?_
          refine gf_19_3 hx hb htg hown hK hW q117 dX6_findStuck_73 ?_
          refine lv_iload hx hb dX6_findStuck_76 (lv_at hl 4 rfl) ?_
          obtain ⟨g14, hX⟩ := gd_go hX
          refine al_21 hx hb hK hW g14 dX6_findStuck_78 ?_
          refine lv_iload_n hx hb dX6_findStuck_79 rfl (lv_at hl 2 rfl) ?_
          refine lv_iand hx hb dX6_findStuck_80 ?_
          refine lv_aload_n hx hb dX6_findStuck_81 rfl (lv_at hl 0 rfl) ?_
          refine gf_19_2 hx hb htg hown hK hW q116 dX6_findStuck_82 ?_
          refine lv_iload hx hb dX6_findStuck_85 (lv_at hl 4 rfl) ?_
          refine al_20 hx hb hK hW g14 dX6_findStuck_87 ?_
          refine lv_iconst (v := (-1 : Int32)) hx hb dX6_findStuck_88 (by decide) ?_
          refine lv_ixor hx hb dX6_findStuck_89 ?_
          refine lv_iand hx hb dX6_findStuck_90 ?_
          refine lv_if_ne (tgt := 115) hx hb dX6_findStuck_91 (by decide) (fun c15 => ?_) (fun c15 => ?_)
          · have hX := it_f hX c15
            exact J_115 k35 hk35 k43 hk43 _ _ _ _ _ _ _ _ hW hS (lv_sub hl [0, 1, 2, 3, 4] rfl) hX
          · have hX := it_t hX c15
            refine lv_iload_n hx hb dX6_findStuck_94 rfl (lv_at hl 1 rfl) ?_
            refine lv_iconst (v := (1 : Int32)) hx hb dX6_findStuck_95 (by decide) ?_
            refine lv_iload hx hb dX6_findStuck_96 (lv_at hl 4 rfl) ?_
            refine lv_ishl_ hx hb dX6_findStuck_98 ?_
            refine lv_iconst (v := (-1 : Int32)) hx hb dX6_findStuck_99 (by decide) ?_
            refine lv_ixor hx hb dX6_findStuck_100 ?_
            refine lv_iand hx hb dX6_findStuck_101 ?_
            refine lv_topi (fun x1_16 e9 => ?_)
            have hX := lt_go hX e9
            refine lv_istore_n (lv' := [(1, .int x1_16), (0, .ref (gA G 19 0 0)), (2, .int x2), (3, .int x3), (4, .int x4)]) hx hb dX6_findStuck_102 rfl hl (by decide) rfl (fun ls hl => ?_)
            refine lv_iload_n hx hb dX6_findStuck_103 rfl (lv_at hl 2 rfl) ?_
            refine lv_aload_n hx hb dX6_findStuck_104 rfl (lv_at hl 1 rfl) ?_
            refine gf_19_2 hx hb htg hown hK hW q116 dX6_findStuck_105 ?_
            refine lv_iload hx hb dX6_findStuck_108 (lv_at hl 4 rfl) ?_
            refine al_20 hx hb hK hW g14 dX6_findStuck_110 ?_
            refine lv_iconst (v := (-1 : Int32)) hx hb dX6_findStuck_111 (by decide) ?_
            refine lv_ixor hx hb dX6_findStuck_112 ?_
            refine lv_iand hx hb dX6_findStuck_113 ?_
            refine lv_topi (fun x2_17 e9 => ?_)
            have hX := lt_go hX e9
            refine lv_istore_n (lv' := [(2, .int x2_17), (1, .int x1_16), (0, .ref (gA G 19 0 0)), (3, .int x3), (4, .int x4)]) hx hb dX6_findStuck_114 rfl hl (by decide) rfl (fun ls hl => ?_)
            exact J_115 k35 hk35 k43 hk43 _ _ _ _ _ _ _ _ hW hS (lv_sub hl [2, 1, 0, 3, 4] rfl) hX
  have L_43 : ∀ (k35 : Int32 → Int32 → Int32 → Mem → Option Int32) (hk35 : ∀ (x1 : Int32) (x2 : Int32) (x3 : Int32) (x : Mem) (H : Heap) (locs : List Loc) (ls : Array Slot), Wh G x y H → va_S (gF G) s.heap H locs → lv_has ls 5 [(0, .ref (gA G 19 0 0)), (1, .int x1), (2, .int x2), (3, .int x3)] → k35 x1 x2 x3 x = some r → W p l e (headSpec WS_X6_findStuck RM_X6_findStuck).room s m ([.ref (gA G 19 0 0)] : List Value).toArray below meth c H locs 0 0 (MQ below (Qi G x y r) ([.ref (gA G 19 0 0)] : List Value).toArray s 0 0 (gF G)) (F0 m 35 ls [])) (n : Nat), ∀ (x1 : Int32) (x2 : Int32) (x3 : Int32) (x4 : Int32) (x : Mem) (H : Heap) (locs : List Loc) (ls : Array Slot), Wh G x y H → va_S (gF G) s.heap H locs → lv_has ls 5 [(0, .ref (gA G 19 0 0)), (1, .int x1), (2, .int x2), (3, .int x3), (4, .int x4)] → m_X6_findStuck_l43 k35 n x1 x2 x3 x4 x = some r → W p l e (headSpec WS_X6_findStuck RM_X6_findStuck).room s m ([.ref (gA G 19 0 0)] : List Value).toArray below meth c H locs 0 0 (MQ below (Qi G x y r) ([.ref (gA G 19 0 0)] : List Value).toArray s 0 0 (gF G)) (F0 m 43 ls []) := by
    intro k35 hk35 n
    induction n with
    | zero => intro x1 x2 x3 x4 x H locs ls hW hS hl hX; exact no_go hX
    | succ n ih => intro x1 x2 x3 x4 x H locs ls hW hS hl hX; exact B_43 k35 hk35 _ ih _ _ _ _ _ _ _ _ hW hS hl hX
  have B_35 : ∀ (k35 : Int32 → Int32 → Int32 → Mem → Option Int32) (hk35 : ∀ (x1 : Int32) (x2 : Int32) (x3 : Int32) (x : Mem) (H : Heap) (locs : List Loc) (ls : Array Slot), Wh G x y H → va_S (gF G) s.heap H locs → lv_has ls 5 [(0, .ref (gA G 19 0 0)), (1, .int x1), (2, .int x2), (3, .int x3)] → k35 x1 x2 x3 x = some r → W p l e (headSpec WS_X6_findStuck RM_X6_findStuck).room s m ([.ref (gA G 19 0 0)] : List Value).toArray below meth c H locs 0 0 (MQ below (Qi G x y r) ([.ref (gA G 19 0 0)] : List Value).toArray s 0 0 (gF G)) (F0 m 35 ls [])), ∀ (x1 : Int32) (x2 : Int32) (x3 : Int32) (x : Mem) (H : Heap) (locs : List Loc) (ls : Array Slot), Wh G x y H → va_S (gF G) s.heap H locs → lv_has ls 5 [(0, .ref (gA G 19 0 0)), (1, .int x1), (2, .int x2), (3, .int x3)] → m_X6_findStuck_b35 k35 x1 x2 x3 x = some r → W p l e (headSpec WS_X6_findStuck RM_X6_findStuck).room s m ([.ref (gA G 19 0 0)] : List Value).toArray below meth c H locs 0 0 (MQ below (Qi G x y r) ([.ref (gA G 19 0 0)] : List Value).toArray s 0 0 (gF G)) (F0 m 35 ls []) := by
    intro k35 hk35 x1 x2 x3 x H locs ls hW hS hl hX
    unfold m_X6_findStuck_b35 at hX
    refine lv_iload_n hx hb dX6_findStuck_35 rfl (lv_at hl 3 rfl) ?_
    refine lv_iconst (v := (3 : Int32)) hx hb dX6_findStuck_36 (by decide) ?_
    refine lv_icmp_ge (tgt := 127) hx hb dX6_findStuck_37 (by decide) (fun c9 => ?_) (fun c9 => ?_)
    · have hX := it_t hX c9
      refine lv_iload_n hx hb dX6_findStuck_127 rfl (lv_at hl 1 rfl) ?_
      have hX := Option.some.inj hX
      subst hX
      exact rt_i hx hb hr hlocks hW hS dX6_findStuck_128
    · have hX := it_f hX c9
      refine lv_iconst (v := (0 : Int32)) hx hb dX6_findStuck_40 (by decide) ?_
      refine lv_topi (fun x4_10 e9 => ?_)
      have hX := lt_go hX e9
      refine lv_istore (lv' := [(4, .int x4_10), (0, .ref (gA G 19 0 0)), (1, .int x1), (2, .int x2), (3, .int x3)]) hx hb dX6_findStuck_41 hl (by decide) rfl (fun ls hl => ?_)
      exact L_43 k35 hk35 FU _ _ _ _ _ _ _ _ hW hS (lv_sub hl [1, 2, 3, 4, 0] rfl) hX
  have L_35 : ∀ (n : Nat), ∀ (x1 : Int32) (x2 : Int32) (x3 : Int32) (x : Mem) (H : Heap) (locs : List Loc) (ls : Array Slot), Wh G x y H → va_S (gF G) s.heap H locs → lv_has ls 5 [(0, .ref (gA G 19 0 0)), (1, .int x1), (2, .int x2), (3, .int x3)] → m_X6_findStuck_l35 n x1 x2 x3 x = some r → W p l e (headSpec WS_X6_findStuck RM_X6_findStuck).room s m ([.ref (gA G 19 0 0)] : List Value).toArray below meth c H locs 0 0 (MQ below (Qi G x y r) ([.ref (gA G 19 0 0)] : List Value).toArray s 0 0 (gF G)) (F0 m 35 ls []) := by
    intro n
    induction n with
    | zero => intro x1 x2 x3 x H locs ls hW hS hl hX; exact no_go hX
    | succ n ih => intro x1 x2 x3 x H locs ls hW hS hl hX; exact B_35 _ ih _ _ _ _ _ _ _ hW hS hl hX
  have B_9 : ∀ (k9 : Int32 → Int32 → Int32 → Mem → Option Int32) (hk9 : ∀ (x1 : Int32) (x2 : Int32) (x3 : Int32) (x : Mem) (H : Heap) (locs : List Loc) (ls : Array Slot), Wh G x y H → va_S (gF G) s.heap H locs → lv_has ls 5 [(0, .ref (gA G 19 0 0)), (1, .int x1), (2, .int x2), (3, .int x3)] → k9 x1 x2 x3 x = some r → W p l e (headSpec WS_X6_findStuck RM_X6_findStuck).room s m ([.ref (gA G 19 0 0)] : List Value).toArray below meth c H locs 0 0 (MQ below (Qi G x y r) ([.ref (gA G 19 0 0)] : List Value).toArray s 0 0 (gF G)) (F0 m 9 ls [])), ∀ (x1 : Int32) (x2 : Int32) (x3 : Int32) (x : Mem) (H : Heap) (locs : List Loc) (ls : Array Slot), Wh G x y H → va_S (gF G) s.heap H locs → lv_has ls 5 [(0, .ref (gA G 19 0 0)), (1, .int x1), (2, .int x2), (3, .int x3)] → m_X6_findStuck_b9 k9 x1 x2 x3 x = some r → W p l e (headSpec WS_X6_findStuck RM_X6_findStuck).room s m ([.ref (gA G 19 0 0)] : List Value).toArray below meth c H locs 0 0 (MQ below (Qi G x y r) ([.ref (gA G 19 0 0)] : List Value).toArray s 0 0 (gF G)) (F0 m 9 ls []) := by
    intro k9 hk9 x1 x2 x3 x H locs ls hW hS hl hX
    unfold m_X6_findStuck_b9 at hX
    refine lv_iload_n hx hb dX6_findStuck_9 rfl (lv_at hl 3 rfl) ?_
    refine lv_aload_n hx hb dX6_findStuck_10 rfl (lv_at hl 0 rfl) ?_
    refine gf_19_2 hx hb htg hown hK hW q116 dX6_findStuck_11 ?_
    refine an_20 hx hb hK hW dX6_findStuck_14 ?_
    refine lv_icmp_ge (tgt := 33) hx hb dX6_findStuck_15 (by decide) (fun c4 => ?_) (fun c4 => ?_)
    · have hX := it_t hX c4
      refine lv_iconst (v := (0 : Int32)) hx hb dX6_findStuck_33 (by decide) ?_
      refine lv_topi (fun x3_5 e9 => ?_)
      have hX := lt_go hX e9
      refine lv_istore_n (lv' := [(3, .int x3_5), (0, .ref (gA G 19 0 0)), (1, .int x1), (2, .int x2)]) hx hb dX6_findStuck_34 rfl hl (by decide) rfl (fun ls hl => ?_)
      exact L_35 FU _ _ _ _ _ _ _ hW hS (lv_sub hl [1, 2, 3, 0] rfl) hX
    · have hX := it_f hX c4
      refine lv_iload_n hx hb dX6_findStuck_18 rfl (lv_at hl 2 rfl) ?_
      refine lv_aload_n hx hb dX6_findStuck_19 rfl (lv_at hl 0 rfl) ?_
      refine gf_19_2 hx hb htg hown hK hW q116 dX6_findStuck_20 ?_
      refine lv_iload_n hx hb dX6_findStuck_23 rfl (lv_at hl 3 rfl) ?_
      obtain ⟨g6, hX⟩ := gd_go hX
      refine al_20 hx hb hK hW g6 dX6_findStuck_24 ?_
      refine lv_ior hx hb dX6_findStuck_25 ?_
      refine lv_topi (fun x2_7 e9 => ?_)
      have hX := lt_go hX e9
      refine lv_istore_n (lv' := [(2, .int x2_7), (0, .ref (gA G 19 0 0)), (1, .int x1), (3, .int x3)]) hx hb dX6_findStuck_26 rfl hl (by decide) rfl (fun ls hl => ?_)
      obtain ⟨x3_8, e9⟩ : ∃ w : Int32, w = (x3 + (1 : Int32)) := ⟨_, rfl⟩
      have hX := lt_go hX e9
      refine lv_iinc (v := x3_8) (lv' := [(3, .int x3_8), (2, .int x2_7), (0, .ref (gA G 19 0 0)), (1, .int x1)]) hx hb dX6_findStuck_27 hl (k := 3) rfl (by rw [e9]; rfl) (by decide) rfl (fun ls hl => ?_)
      refine lv_goto (tgt := 9) hx hb dX6_findStuck_30 (by decide) ?_
      exact hk9 _ _ _ _ _ _ _ hW hS (lv_sub hl [2, 3, 1, 0] rfl) hX
  have L_9 : ∀ (n : Nat), ∀ (x1 : Int32) (x2 : Int32) (x3 : Int32) (x : Mem) (H : Heap) (locs : List Loc) (ls : Array Slot), Wh G x y H → va_S (gF G) s.heap H locs → lv_has ls 5 [(0, .ref (gA G 19 0 0)), (1, .int x1), (2, .int x2), (3, .int x3)] → m_X6_findStuck_l9 n x1 x2 x3 x = some r → W p l e (headSpec WS_X6_findStuck RM_X6_findStuck).room s m ([.ref (gA G 19 0 0)] : List Value).toArray below meth c H locs 0 0 (MQ below (Qi G x y r) ([.ref (gA G 19 0 0)] : List Value).toArray s 0 0 (gF G)) (F0 m 9 ls []) := by
    intro n
    induction n with
    | zero => intro x1 x2 x3 x H locs ls hW hS hl hX; exact no_go hX
    | succ n ih => intro x1 x2 x3 x H locs ls hW hS hl hX; exact B_9 _ ih _ _ _ _ _ _ _ hW hS hl hX
  refine lv_aload_n hx hb dX6_findStuck_0 rfl (lv_at hl 0 rfl) ?_
  refine gf_19_1 hx hb htg hown hK hW q767 dX6_findStuck_1 ?_
  refine lv_topi (fun x1_1 e9 => ?_)
  have hX := lt_go hX e9
  refine lv_istore_n (lv' := [(1, .int x1_1), (0, .ref (gA G 19 0 0))]) hx hb dX6_findStuck_4 rfl hl (by decide) rfl (fun ls hl => ?_)
  refine lv_iconst (v := (0 : Int32)) hx hb dX6_findStuck_5 (by decide) ?_
  refine lv_topi (fun x2_2 e9 => ?_)
  have hX := lt_go hX e9
  refine lv_istore_n (lv' := [(2, .int x2_2), (1, .int x1_1), (0, .ref (gA G 19 0 0))]) hx hb dX6_findStuck_6 rfl hl (by decide) rfl (fun ls hl => ?_)
  refine lv_iconst (v := (0 : Int32)) hx hb dX6_findStuck_7 (by decide) ?_
  refine lv_topi (fun x3_3 e9 => ?_)
  have hX := lt_go hX e9
  refine lv_istore_n (lv' := [(3, .int x3_3), (2, .int x2_2), (1, .int x1_1), (0, .ref (gA G 19 0 0))]) hx hb dX6_findStuck_8 rfl hl (by decide) rfl (fun ls hl => ?_)
  exact L_9 FU _ _ _ _ _ _ _ hW hS (lv_sub hl [3, 2, 1, 0] rfl) hX
set_option maxHeartbeats 4000000 in
theorem k_X6_findStuck {p : Program} {l : Launch} {e : Env} {R : Room} {s : State} {m : MethodId} {args : Array Value} {below : List Frame} {meth : Method} {c : Code} {H : Heap} {locs : List Loc} {cells slots : Nat} {Q : State → Prop} {cc : ByteArray} {pc nL idx : Nat} {own : String} {ls : Array Slot} {rest : List Value} {G : Geo} {x y : Mem} {H0 : Heap} {v : Int32} (hx : p.tables.exec = Jvm.exec) (hb : c.code = cc) (hml : c.maxLocals = nL) (hown : s.vm.findClass own = some m.cls) (htg : ∀ w ∈ wsG, w.before args s = true) (hK : Kt G s) (hW : Wh G x y H) (hS : va_S (gF G) H0 H locs) (h : m_X6_findStuck x = some v) (hlk : Cond.methodLink own idx yX6_findStuck ∈ wsG) (hn : ls.size = nL) (hr : (rest.map fun v => v.category).sum ≤ 8) (hR1 : 0 + 1 ≤ R.frames) (hR2 : 8 + (5 + 11) + 0 ≤ R.locals) (hf : cells ≤ R.cells ∧ slots ≤ R.slots) (hdg : decode cc pc = .ok (.invokevirtual idx, 3)) (kk : ∀ (H1 : Heap) (locs1 : List Loc), Wh G x y H1 → va_S (gF G) H0 H1 locs1 → W p l e R s m args below meth c H1 locs1 cells slots Q (F0 m (pc + 3) ls (.int v :: rest))) : W p l e R s m args below meth c H locs cells slots Q (F0 m pc ls (.ref (gA G 19 0 0) :: rest)) := by
  refine va_calli (va_runV (As := []) (rest := rest) ⟨hx, hb, hml, hown, htg⟩ (c_X6_findStuck l G x y v h) (cwV 0 htg (gd_V hlk q785 q786 q109 q787) rfl rfl rfl (by decide +kernel) ⟨hR1, hR2⟩) ⟨fun a U g mk q => ⟨q.1, q.2.1.calling, q.2.2⟩, rc_19 hK hW, fun U hU hW9 => ⟨rfl, hK.warm hW9, by rw [hU]; exact hW⟩⟩ rfl rfl hn rfl (lv_room hr) hdg hf) hS (fun _ _ h9 => h9) (fun _ h9 => h9) ?_
  intro r9 u t H1 locs1 ht hvm hw hB hz1 hk1 hS1
  replace hB : Wh G x y t.heap := hB
  rw [ht] at hB
  replace hw : r9 = v := hw
  subst hw
  exact kk H1 locs1 hB hS1
/-! METHOD X6_canAllFinish -/
def m_X6_canAllFinish (p0 : Fin 10) (x : Mem) : Option (Int32 × Mem) :=
  bd_ (m_X6_lookAt p0 x) fun x3 => bd_ (m_X6_findStuck x3) fun r5 => if r5 = 0 then (some ((1 : Int32), x3)) else (some ((0 : Int32), x3))
abbrev WS_X6_canAllFinish : List Cond := .code yX6_canAllFinish cX6_canAllFinish 2 (some .boolean) :: wsG
abbrev RM_X6_canAllFinish : Room := { frames := 2, cells := 0, slots := 0, locals := 47 }
set_option maxHeartbeats 4000000 in
set_option maxRecDepth 100000 in
theorem c_X6_canAllFinish (l : Launch) (G : Geo) (x y : Mem) (p0 : Fin 10) (r : (Int32 × Mem)) (h : m_X6_canAllFinish p0 x = some r) : Met l yX6_canAllFinish WS_X6_canAllFinish RM_X6_canAllFinish (Pw G x y [.ref (gA G 19 0 0), .ref (gA G 2 ↑p0 0)]) (Qi G r.2 y r.1) 0 0 (gF G) := by
  refine Met.ofW (cc := cX6_canAllFinish) (maxL := 2) (ret := (some .boolean)) (by decide) rfl ?_
  intro p e s m args below meth c s₁ B hml hv
  obtain ⟨rfl, hK, hW⟩ := hv
  have hx := B.exec
  have hb := B.bytes
  have hr := B.returns
  have hts := atoms_spec (ws := WS_X6_canAllFinish) B.pre
  have htg : ∀ w ∈ wsG, w.before _ s = true := fun w h => hts w (List.mem_cons_of_mem _ h)
  have hown : s.vm.findClass RX6 = some m.cls := findClass_of_methodNamed B.named
  have hlocks := B.notSynchronized
  have hS : va_S (gF G) s.heap s.heap [] := va_S.rf
  have hl := lv_entry ([.ref (gA G 19 0 0), .ref (gA G 2 ↑p0 0)]) (n := 2) (Nat.le_of_ble_eq_true rfl)
  rw [lg_entry_eq]
  generalize (lg_sl ([.ref (gA G 19 0 0), .ref (gA G 2 ↑p0 0)]) ++ List.replicate (2 - (lg_sl ([.ref (gA G 19 0 0), .ref (gA G 2 ↑p0 0)])).length) Slot.unset).toArray = ls at hl ⊢
  have hl : lv_has ls 2 [(0, .ref (gA G 19 0 0)), (1, .ref (gA G 2 ↑p0 0))] := hl
  have hX := h
  unfold m_X6_canAllFinish at hX
  refine lv_aload_n hx hb dX6_canAllFinish_0 rfl (lv_at hl 0 rfl) ?_
  refine lv_aload_n hx hb dX6_canAllFinish_1 rfl (lv_at hl 1 rfl) ?_
  obtain ⟨x3, h1, hX⟩ := bd_go hX
  refine k_X6_lookAt hx hb hml hown htg hK hW hS h1 q763 hl.1 (Nat.le_of_ble_eq_true rfl) (Nat.le_of_ble_eq_true rfl) (Nat.le_of_ble_eq_true rfl) ⟨Nat.zero_le _, Nat.zero_le _⟩ dX6_canAllFinish_2 (fun H locs hW hS => ?_)
  refine lv_aload_n hx hb dX6_canAllFinish_5 rfl (lv_at hl 0 rfl) ?_
  obtain ⟨r5, h4, hX⟩ := bd_go hX
  refine k_X6_findStuck hx hb hml hown htg hK hW hS h4 q784 hl.1 (Nat.le_of_ble_eq_true rfl) (Nat.le_of_ble_eq_true rfl) (Nat.le_of_ble_eq_true rfl) ⟨Nat.zero_le _, Nat.zero_le _⟩ dX6_canAllFinish_6 (fun H locs hW hS => ?_)
  refine lv_if_ne (tgt := 16) hx hb dX6_canAllFinish_9 (by decide) (fun c6 => ?_) (fun c6 => ?_)
  · have hX := it_f hX c6
    refine lv_iconst (v := (0 : Int32)) hx hb dX6_canAllFinish_16 (by decide) ?_
    have hX := Option.some.inj hX
    subst hX
    exact rt_z hx hb hr hlocks hW hS nb0 dX6_canAllFinish_17
  · have hX := it_t hX c6
    refine lv_iconst (v := (1 : Int32)) hx hb dX6_canAllFinish_12 (by decide) ?_
    refine lv_goto (tgt := 17) hx hb dX6_canAllFinish_13 (by decide) ?_
    have hX := Option.some.inj hX
    subst hX
    exact rt_z hx hb hr hlocks hW hS nb1 dX6_canAllFinish_17
set_option maxHeartbeats 4000000 in
theorem k_X6_canAllFinish {p : Program} {l : Launch} {e : Env} {R : Room} {s : State} {m : MethodId} {args : Array Value} {below : List Frame} {meth : Method} {c : Code} {H : Heap} {locs : List Loc} {cells slots : Nat} {Q : State → Prop} {cc : ByteArray} {pc nL idx : Nat} {own : String} {ls : Array Slot} {rest : List Value} {G : Geo} {x y : Mem} {H0 : Heap} {p0 : Fin 10} {v : Int32} {z : Mem} (hx : p.tables.exec = Jvm.exec) (hb : c.code = cc) (hml : c.maxLocals = nL) (hown : s.vm.findClass own = some m.cls) (htg : ∀ w ∈ wsG, w.before args s = true) (hK : Kt G s) (hW : Wh G x y H) (hS : va_S (gF G) H0 H locs) (h : m_X6_canAllFinish p0 x = some (v, z)) (hlk : Cond.methodLink own idx yX6_canAllFinish ∈ wsG) (hn : ls.size = nL) (hr : (rest.map fun v => v.category).sum ≤ 8) (hR1 : 2 + 1 ≤ R.frames) (hR2 : 8 + (2 + 11) + 47 ≤ R.locals) (hf : cells ≤ R.cells ∧ slots ≤ R.slots) (hdg : decode cc pc = .ok (.invokevirtual idx, 3)) (kk : ∀ (H1 : Heap) (locs1 : List Loc), Wh G z y H1 → va_S (gF G) H0 H1 locs1 → W p l e R s m args below meth c H1 locs1 cells slots Q (F0 m (pc + 3) ls (.int v :: rest))) : W p l e R s m args below meth c H locs cells slots Q (F0 m pc ls (.ref (gA G 2 ↑p0 0) :: .ref (gA G 19 0 0) :: rest)) := by
  refine va_calli (va_runV (As := [.ref (gA G 2 ↑p0 0)]) (rest := rest) ⟨hx, hb, hml, hown, htg⟩ (c_X6_canAllFinish l G x y p0 (v, z) h) (cwV 1 htg (gd_V hlk q976 q977 q109 q978) rfl rfl rfl (by decide +kernel) ⟨hR1, hR2⟩) ⟨fun a U g mk q => ⟨q.1, q.2.1.calling, q.2.2⟩, rc_19 hK hW, fun U hU hW9 => ⟨rfl, hK.warm hW9, by rw [hU]; exact hW⟩⟩ rfl rfl hn rfl (lv_room hr) hdg hf) hS (fun _ _ h9 => h9) (fun _ h9 => h9) ?_
  intro r9 u t H1 locs1 ht hvm hw hB hz1 hk1 hS1
  replace hB : Wh G z y t.heap := hB
  rw [ht] at hB
  replace hw : r9 = v := hw
  subst hw
  exact kk H1 locs1 hB hS1
/-! METHOD X6_lowest -/
def m_X6_lowest_b2 (p0 : Int32) (k2 : Int32 → Option Int32) (x1 : Int32) : Option Int32 :=
  if (3 : Int32) ≤ x1 then (some (-1 : Int32)) else (if (p0 &&& (shl32 (1 : Int32) x1)) = 0 then (lt_ (x1 + (1 : Int32)) fun x1_4 => k2 x1_4) else (some x1))
def m_X6_lowest_l2 (p0 : Int32) : Nat → Int32 → Option Int32
  | 0, _ => none
  | n + 1, x1 => m_X6_lowest_b2 p0 (m_X6_lowest_l2 p0 n) x1
def m_X6_lowest (p0 : Int32) : Option Int32 :=
  lt_ (0 : Int32) fun x1_1 => m_X6_lowest_l2 p0 FU x1_1
abbrev WS_X6_lowest : List Cond := .code yX6_lowest cX6_lowest 2 (some .int) :: wsG
abbrev RM_X6_lowest : Room := { frames := 0, cells := 0, slots := 0, locals := 0 }
set_option maxHeartbeats 4000000 in
set_option maxRecDepth 100000 in
theorem c_X6_lowest (l : Launch) (G : Geo) (x y : Mem) (p0 : Int32) (r : Int32) (h : m_X6_lowest p0 = some r) : Met l yX6_lowest WS_X6_lowest RM_X6_lowest (Pw G x y [.int p0]) (Qi G x y r) 0 0 (gF G) := by
  refine Met.ofW (cc := cX6_lowest) (maxL := 2) (ret := (some .int)) (by decide) rfl ?_
  intro p e s m args below meth c s₁ B hml hv
  obtain ⟨rfl, hK, hW⟩ := hv
  have hx := B.exec
  have hb := B.bytes
  have hr := B.returns
  have hts := atoms_spec (ws := WS_X6_lowest) B.pre
  have htg : ∀ w ∈ wsG, w.before _ s = true := fun w h => hts w (List.mem_cons_of_mem _ h)
  have hown : s.vm.findClass RX6 = some m.cls := findClass_of_methodNamed B.named
  have hlocks := B.notSynchronized
  have hS : va_S (gF G) s.heap s.heap [] := va_S.rf
  have hl := lv_entry ([.int p0]) (n := 2) (Nat.le_of_ble_eq_true rfl)
  rw [lg_entry_eq]
  generalize (lg_sl ([.int p0]) ++ List.replicate (2 - (lg_sl ([.int p0])).length) Slot.unset).toArray = ls at hl ⊢
  have hl : lv_has ls 2 [(0, .int p0)] := hl
  have hX := h
  unfold m_X6_lowest at hX
  have B_2 : ∀ (k2 : Int32 → Option Int32) (hk2 : ∀ (x1 : Int32) (H : Heap) (locs : List Loc) (ls : Array Slot), Wh G x y H → va_S (gF G) s.heap H locs → lv_has ls 2 [(0, .int p0), (1, .int x1)] → k2 x1 = some r → W p l e (headSpec WS_X6_lowest RM_X6_lowest).room s m ([.int p0] : List Value).toArray below meth c H locs 0 0 (MQ below (Qi G x y r) ([.int p0] : List Value).toArray s 0 0 (gF G)) (F0 m 2 ls [])), ∀ (x1 : Int32) (H : Heap) (locs : List Loc) (ls : Array Slot), Wh G x y H → va_S (gF G) s.heap H locs → lv_has ls 2 [(0, .int p0), (1, .int x1)] → m_X6_lowest_b2 p0 k2 x1 = some r → W p l e (headSpec WS_X6_lowest RM_X6_lowest).room s m ([.int p0] : List Value).toArray below meth c H locs 0 0 (MQ below (Qi G x y r) ([.int p0] : List Value).toArray s 0 0 (gF G)) (F0 m 2 ls []) := by
    intro k2 hk2 x1 H locs ls hW hS hl hX
    unfold m_X6_lowest_b2 at hX
    refine lv_iload_n hx hb dX6_lowest_2 rfl (lv_at hl 1 rfl) ?_
    refine lv_iconst (v := (3 : Int32)) hx hb dX6_lowest_3 (by decide) ?_
    refine lv_icmp_ge (tgt := 23) hx hb dX6_lowest_4 (by decide) (fun c2 => ?_) (fun c2 => ?_)
    · have hX := it_t hX c2
      refine lv_iconst (v := (-1 : Int32)) hx hb dX6_lowest_23 (by decide) ?_
      have hX := Option.some.inj hX
      subst hX
      exact rt_i hx hb hr hlocks hW hS dX6_lowest_24
    · have hX := it_f hX c2
      refine lv_iload_n hx hb dX6_lowest_7 rfl (lv_at hl 0 rfl) ?_
      refine lv_iconst (v := (1 : Int32)) hx hb dX6_lowest_8 (by decide) ?_
      refine lv_iload_n hx hb dX6_lowest_9 rfl (lv_at hl 1 rfl) ?_
      refine lv_ishl_ hx hb dX6_lowest_10 ?_
      refine lv_iand hx hb dX6_lowest_11 ?_
      refine lv_if_eq (tgt := 17) hx hb dX6_lowest_12 (by decide) (fun c3 => ?_) (fun c3 => ?_)
      · have hX := it_t hX c3
        obtain ⟨x1_4, e9⟩ : ∃ w : Int32, w = (x1 + (1 : Int32)) := ⟨_, rfl⟩
        have hX := lt_go hX e9
        refine lv_iinc (v := x1_4) (lv' := [(1, .int x1_4), (0, .int p0)]) hx hb dX6_lowest_17 hl (k := 1) rfl (by rw [e9]; rfl) (by decide) rfl (fun ls hl => ?_)
        refine lv_goto (tgt := 2) hx hb dX6_lowest_20 (by decide) ?_
        exact hk2 _ _ _ _ hW hS (lv_sub hl [1, 0] rfl) hX
      · have hX := it_f hX c3
        refine lv_iload_n hx hb dX6_lowest_15 rfl (lv_at hl 1 rfl) ?_
        have hX := Option.some.inj hX
        subst hX
        exact rt_i hx hb hr hlocks hW hS dX6_lowest_16
  have L_2 : ∀ (n : Nat), ∀ (x1 : Int32) (H : Heap) (locs : List Loc) (ls : Array Slot), Wh G x y H → va_S (gF G) s.heap H locs → lv_has ls 2 [(0, .int p0), (1, .int x1)] → m_X6_lowest_l2 p0 n x1 = some r → W p l e (headSpec WS_X6_lowest RM_X6_lowest).room s m ([.int p0] : List Value).toArray below meth c H locs 0 0 (MQ below (Qi G x y r) ([.int p0] : List Value).toArray s 0 0 (gF G)) (F0 m 2 ls []) := by
    intro n
    induction n with
    | zero => intro x1 H locs ls hW hS hl hX; exact no_go hX
    | succ n ih => intro x1 H locs ls hW hS hl hX; exact B_2 _ ih _ _ _ _ hW hS hl hX
  refine lv_iconst (v := (0 : Int32)) hx hb dX6_lowest_0 (by decide) ?_
  refine lv_topi (fun x1_1 e9 => ?_)
  have hX := lt_go hX e9
  refine lv_istore_n (lv' := [(1, .int x1_1), (0, .int p0)]) hx hb dX6_lowest_1 rfl hl (by decide) rfl (fun ls hl => ?_)
  exact L_2 FU _ _ _ _ hW hS (lv_sub hl [1, 0] rfl) hX
set_option maxHeartbeats 4000000 in
theorem k_X6_lowest {p : Program} {l : Launch} {e : Env} {R : Room} {s : State} {m : MethodId} {args : Array Value} {below : List Frame} {meth : Method} {c : Code} {H : Heap} {locs : List Loc} {cells slots : Nat} {Q : State → Prop} {cc : ByteArray} {pc nL idx : Nat} {own : String} {ls : Array Slot} {rest : List Value} {G : Geo} {x y : Mem} {H0 : Heap} {p0 : Int32} {v : Int32} (hx : p.tables.exec = Jvm.exec) (hb : c.code = cc) (hml : c.maxLocals = nL) (hown : s.vm.findClass own = some m.cls) (htg : ∀ w ∈ wsG, w.before args s = true) (hK : Kt G s) (hW : Wh G x y H) (hS : va_S (gF G) H0 H locs) (h : m_X6_lowest p0 = some v) (hlk : Cond.methodLink own idx yX6_lowest ∈ wsG) (hn : ls.size = nL) (hr : (rest.map fun v => v.category).sum ≤ 8) (hR1 : 0 + 1 ≤ R.frames) (hR2 : 8 + (2 + 11) + 0 ≤ R.locals) (hf : cells ≤ R.cells ∧ slots ≤ R.slots) (hdg : decode cc pc = .ok (.invokestatic idx, 3)) (kk : ∀ (H1 : Heap) (locs1 : List Loc), Wh G x y H1 → va_S (gF G) H0 H1 locs1 → W p l e R s m args below meth c H1 locs1 cells slots Q (F0 m (pc + 3) ls (.int v :: rest))) : W p l e R s m args below meth c H locs cells slots Q (F0 m pc ls (.int p0 :: rest)) := by
  refine va_calli (va_runS (As := [.int p0]) (rest := rest) ⟨hx, hb, hml, hown, htg⟩ (c_X6_lowest l G x y p0 v h) (va_cwS 1 htg (gd_S hlk q761 q109 q762) rfl rfl rfl (by decide +kernel) ⟨hR1, hR2⟩) ⟨fun a U g mk q => ⟨q.1, q.2.1.calling, q.2.2⟩, fun U hU hW9 => ⟨rfl, hK.warm hW9, by rw [hU]; exact hW⟩⟩ rfl rfl hn rfl (lv_room hr) hdg hf) hS (fun _ _ h9 => h9) (fun _ h9 => h9) ?_
  intro r9 u t H1 locs1 ht hvm hw hB hz1 hk1 hS1
  replace hB : Wh G x y t.heap := hB
  rw [ht] at hB
  replace hw : r9 = v := hw
  subst hw
  exact kk H1 locs1 hB hS1
/-! METHOD X6_suppose -/
def m_X6_suppose (p0 : Fin 10 × Fin 4) (p1 : Int32) (p2 : Int32) (x : Mem) : Option Mem :=
  lt_ (x 0 ↑p0.1 ↑p0.2 0) fun x4_1 => if x4_1 < 0 then (some x) else (if (3 : Int32) ≤ x4_1 then (some x) else (if (3 : Int32) ≤ x4_1 then (some x) else (lt_ (up4 x 19 0 0 1 ((x 19 0 0 1) ||| (shl32 (1 : Int32) x4_1))) fun x5 => gd_ x4_1 3 (lt_ (up4 x5 20 0 0 x4_1.toNatClampNeg ((x5 20 0 0 x4_1.toNatClampNeg) ||| p1)) fun x7 => lt_ (up4 x7 21 0 0 x4_1.toNatClampNeg p2) fun x8 => some x8))))
abbrev WS_X6_suppose : List Cond := .code yX6_suppose cX6_suppose 5 none :: wsG
abbrev RM_X6_suppose : Room := { frames := 0, cells := 0, slots := 0, locals := 0 }
set_option maxHeartbeats 4000000 in
set_option maxRecDepth 100000 in
theorem c_X6_suppose (l : Launch) (G : Geo) (x y : Mem) (p0 : Fin 10 × Fin 4) (p1 : Int32) (p2 : Int32) (r : Mem) (h : m_X6_suppose p0 p1 p2 x = some r) : Met l yX6_suppose WS_X6_suppose RM_X6_suppose (Pw G x y [.ref (gA G 19 0 0), .ref (gA G 0 ↑p0.1 ↑p0.2), .int p1, .int p2]) (Qv G r y) 0 0 (gF G) := by
  refine Met.ofW (cc := cX6_suppose) (maxL := 5) (ret := none) (by decide) rfl ?_
  intro p e s m args below meth c s₁ B hml hv
  obtain ⟨rfl, hK, hW⟩ := hv
  have hx := B.exec
  have hb := B.bytes
  have hr := B.returns
  have hts := atoms_spec (ws := WS_X6_suppose) B.pre
  have htg : ∀ w ∈ wsG, w.before _ s = true := fun w h => hts w (List.mem_cons_of_mem _ h)
  have hown : s.vm.findClass RX6 = some m.cls := findClass_of_methodNamed B.named
  have hlocks := B.notSynchronized
  have hS : va_S (gF G) s.heap s.heap [] := va_S.rf
  have hl := lv_entry ([.ref (gA G 19 0 0), .ref (gA G 0 ↑p0.1 ↑p0.2), .int p1, .int p2]) (n := 5) (Nat.le_of_ble_eq_true rfl)
  rw [lg_entry_eq]
  generalize (lg_sl ([.ref (gA G 19 0 0), .ref (gA G 0 ↑p0.1 ↑p0.2), .int p1, .int p2]) ++ List.replicate (5 - (lg_sl ([.ref (gA G 19 0 0), .ref (gA G 0 ↑p0.1 ↑p0.2), .int p1, .int p2])).length) Slot.unset).toArray = ls at hl ⊢
  have hl : lv_has ls 5 [(0, .ref (gA G 19 0 0)), (1, .ref (gA G 0 ↑p0.1 ↑p0.2)), (2, .int p1), (3, .int p2)] := hl
  have hX := h
  unfold m_X6_suppose at hX
  refine lv_aload_n hx hb dX6_suppose_0 rfl (lv_at hl 1 rfl) ?_
  refine gf_0_0 hx hb htg hown hK hW p0 q740 dX6_suppose_1 ?_
  refine lv_topi (fun x4_1 e9 => ?_)
  have hX := lt_go hX e9
  refine lv_istore (lv' := [(4, .int x4_1), (0, .ref (gA G 19 0 0)), (1, .ref (gA G 0 ↑p0.1 ↑p0.2)), (2, .int p1), (3, .int p2)]) hx hb dX6_suppose_4 hl (by decide) rfl (fun ls hl => ?_)
  refine lv_iload hx hb dX6_suppose_6 (lv_at hl 0 rfl) ?_
  refine lv_if_lt (tgt := 63) hx hb dX6_suppose_8 (by decide) (fun c2 => ?_) (fun c2 => ?_)
  · have hX := it_t hX c2
    have hX := Option.some.inj hX
    subst hX
    exact rt_v hx hb hr hlocks hW hS dX6_suppose_63
  · have hX := it_f hX c2
    refine lv_iload hx hb dX6_suppose_11 (lv_at hl 0 rfl) ?_
    refine lv_aload_n hx hb dX6_suppose_13 rfl (lv_at hl 1 rfl) ?_
    refine gf_19_2 hx hb htg hown hK hW q116 dX6_suppose_14 ?_
    refine an_20 hx hb hK hW dX6_suppose_17 ?_
    refine lv_icmp_ge (tgt := 63) hx hb dX6_suppose_18 (by decide) (fun c3 => ?_) (fun c3 => ?_)
    · have hX := it_t hX c3
      have hX := Option.some.inj hX
      subst hX
      exact rt_v hx hb hr hlocks hW hS dX6_suppose_63
    · have hX := it_f hX c3
      refine lv_iload hx hb dX6_suppose_21 (lv_at hl 0 rfl) ?_
      refine lv_aload_n hx hb dX6_suppose_23 rfl (lv_at hl 1 rfl) ?_
      refine gf_19_3 hx hb htg hown hK hW q117 dX6_suppose_24 ?_
      refine an_21 hx hb hK hW dX6_suppose_27 ?_
      refine lv_icmp_ge (tgt := 63) hx hb dX6_suppose_28 (by decide) (fun c4 => ?_) (fun c4 => ?_)
      · have hX := it_t hX c4
        have hX := Option.some.inj hX
        subst hX
        exact rt_v hx hb hr hlocks hW hS dX6_suppose_63
      · have hX := it_f hX c4
        refine lv_aload_n hx hb dX6_suppose_31 rfl (lv_at hl 1 rfl) ?_
        refine lv_dup hx hb dX6_suppose_32 rfl ?_
        refine gf_19_1 hx hb htg hown hK hW q767 dX6_suppose_33 ?_
        refine lv_iconst (v := (1 : Int32)) hx hb dX6_suppose_36 (by decide) ?_
        refine lv_iload hx hb dX6_suppose_37 (lv_at hl 0 rfl) ?_
        refine lv_ishl_ hx hb dX6_suppose_39 ?_
        refine lv_ior hx hb dX6_suppose_40 ?_
        refine pf_19_1 hx hb htg hown hK hW hS q767 dX6_suppose_41 (fun H locs hW hS => ?_)
        obtain ⟨x5, e9⟩ : ∃ w : Mem, w = (up4 x 19 0 0 1 ((x 19 0 0 1) ||| (shl32 (1 : Int32) x4_1))) := ⟨_, rfl⟩
        rw [← e9] at hW
        have hX := lt_go hX e9
        refine lv_aload_n hx hb dX6_suppose_44 rfl (lv_at hl 1 rfl) ?_
        refine gf_19_2 hx hb htg hown hK hW q116 dX6_suppose_45 ?_
        refine lv_iload hx hb dX6_suppose_48 (lv_at hl 0 rfl) ?_
        refine lv_dup2_11 hx hb dX6_suppose_50 rfl rfl ?_
        obtain ⟨g6, hX⟩ := gd_go hX
        refine al_20 hx hb hK hW g6 dX6_suppose_51 ?_
        refine lv_iload_n hx hb dX6_suppose_52 rfl (lv_at hl 3 rfl) ?_
        refine lv_ior hx hb dX6_suppose_53 ?_
        refine as_20 hx hb hK hW hS g6 dX6_suppose_54 (fun H locs hW hS => ?_)
        obtain ⟨x7, e9⟩ : ∃ w : Mem, w = (up4 x5 20 0 0 x4_1.toNatClampNeg ((x5 20 0 0 x4_1.toNatClampNeg) ||| p1)) := ⟨_, rfl⟩
        rw [← e9] at hW
        have hX := lt_go hX e9
        refine lv_aload_n hx hb dX6_suppose_55 rfl (lv_at hl 1 rfl) ?_
        refine gf_19_3 hx hb htg hown hK hW q117 dX6_suppose_56 ?_
        refine lv_iload hx hb dX6_suppose_59 (lv_at hl 0 rfl) ?_
        refine lv_iload_n hx hb dX6_suppose_61 rfl (lv_at hl 4 rfl) ?_
        refine as_21 hx hb hK hW hS g6 dX6_suppose_62 (fun H locs hW hS => ?_)
        obtain ⟨x8, e9⟩ : ∃ w : Mem, w = (up4 x7 21 0 0 x4_1.toNatClampNeg p2) := ⟨_, rfl⟩
        rw [← e9] at hW
        have hX := lt_go hX e9
        have hX := Option.some.inj hX
        subst hX
        exact rt_v hx hb hr hlocks hW hS dX6_suppose_63
set_option maxHeartbeats 4000000 in
theorem k_X6_suppose {p : Program} {l : Launch} {e : Env} {R : Room} {s : State} {m : MethodId} {args : Array Value} {below : List Frame} {meth : Method} {c : Code} {H : Heap} {locs : List Loc} {cells slots : Nat} {Q : State → Prop} {cc : ByteArray} {pc nL idx : Nat} {own : String} {ls : Array Slot} {rest : List Value} {G : Geo} {x y : Mem} {H0 : Heap} {p0 : Fin 10 × Fin 4} {p1 : Int32} {p2 : Int32} {z : Mem} (hx : p.tables.exec = Jvm.exec) (hb : c.code = cc) (hml : c.maxLocals = nL) (hown : s.vm.findClass own = some m.cls) (htg : ∀ w ∈ wsG, w.before args s = true) (hK : Kt G s) (hW : Wh G x y H) (hS : va_S (gF G) H0 H locs) (h : m_X6_suppose p0 p1 p2 x = some z) (hlk : Cond.methodLink own idx yX6_suppose ∈ wsG) (hn : ls.size = nL) (hr : (rest.map fun v => v.category).sum ≤ 8) (hR1 : 0 + 1 ≤ R.frames) (hR2 : 8 + (5 + 11) + 0 ≤ R.locals) (hf : cells ≤ R.cells ∧ slots ≤ R.slots) (hdg : decode cc pc = .ok (.invokevirtual idx, 3)) (kk : ∀ (H1 : Heap) (locs1 : List Loc), Wh G z y H1 → va_S (gF G) H0 H1 locs1 → W p l e R s m args below meth c H1 locs1 cells slots Q (F0 m (pc + 3) ls (rest))) : W p l e R s m args below meth c H locs cells slots Q (F0 m pc ls (.int p2 :: .int p1 :: .ref (gA G 0 ↑p0.1 ↑p0.2) :: .ref (gA G 19 0 0) :: rest)) := by
  refine va_callv (va_runV (As := [.ref (gA G 0 ↑p0.1 ↑p0.2), .int p1, .int p2]) (rest := rest) ⟨hx, hb, hml, hown, htg⟩ (c_X6_suppose l G x y p0 p1 p2 z h) (cwV 3 htg (gd_V hlk q781 q782 q109 q783) rfl rfl rfl (by decide +kernel) ⟨hR1, hR2⟩) ⟨fun a U g mk q => ⟨q.1, q.2.1.calling, q.2.2⟩, rc_19 hK hW, fun U hU hW9 => ⟨rfl, hK.warm hW9, by rw [hU]; exact hW⟩⟩ rfl rfl hn rfl (lv_room hr) hdg hf) hS (fun _ _ h9 => h9) (fun _ h9 => h9) ?_
  intro u t H1 locs1 ht hvm hw hB hz1 hk1 hS1
  replace hB : Wh G z y t.heap := hB
  rw [ht] at hB
  exact kk H1 locs1 hB hS1
/-! METHOD X6_findReason -/
def m_X6_findReason_j40 (p0 : Fin 10) (p1 : Fin 10 × Fin 4) (x3 : Fin 10 × Fin 31) (x4 : Int32) (x5 : Int32) (s0 : Int32) (x : Mem) : Option (Int32 × Mem) :=
  lt_ s0 fun x6_15 => if x6_15 = 0 then (bd_ (m_X10_conflictsOf p0 x5 x) fun r18 => bd_ (m_X1_holdersOfAny p0 r18 x) fun r20 => lt_ (r20 &&& ((shl32 (1 : Int32) (x 0 ↑p1.1 ↑p1.2 0)) ^^^ (-1 : Int32))) fun x7_21 => if x7_21 = 0 then (bd_ (m_X6_lookAt p0 x) fun x25 => bd_ (m_X5_zonesBehind x3 x4 x25) fun r27 => bd_ (m_X10_conflictsOfSet p0 r27 x25) fun r29 => bd_ (m_X6_suppose p1 (shl32 (1 : Int32) x5) r29 x25) fun x32 => bd_ (m_X6_findStuck x32) fun r34 => lt_ r34 fun x8_35 => if x8_35 = 0 then (some ((0 : Int32), x32)) else (bd_ (m_X6_lowest x8_35) fun r38 => lt_ (up4 x32 19 0 0 0 r38) fun x39 => some ((4 : Int32), x39))) else (bd_ (m_X6_lowest x7_21) fun r41 => lt_ (up4 x 19 0 0 0 r41) fun x42 => some ((3 : Int32), x42))) else (some (x6_15, x))
def m_X6_findReason (p0 : Fin 10) (p1 : Fin 10 × Fin 4) (x : Mem) : Option (Int32 × Mem) :=
  bd_ (m_X0_requestedJob p1 x) fun r2 => bd_ (m_X1_jobAt p0 r2) fun r4 => bd_ (m_X0_requestedPlace p1 x) fun r6 => lt_ r6 fun x4_7 => bd_ (m_X5_zoneAt r4 x4_7 x) fun r9 => lt_ r9 fun x5_10 => if (x 0 ↑p1.1 ↑p1.2 2) = 0 then (bd2_ (m_X6_bufferReason p0 r4 x) fun r13 x14 => m_X6_findReason_j40 p0 p1 r4 x4_7 x5_10 r13 x14) else (m_X6_findReason_j40 p0 p1 r4 x4_7 x5_10 (0 : Int32) x)
abbrev WS_X6_findReason : List Cond := .code yX6_findReason cX6_findReason 9 (some .int) :: wsG
abbrev RM_X6_findReason : Room := { frames := 2, cells := 0, slots := 0, locals := 47 }
set_option maxHeartbeats 4000000 in
set_option maxRecDepth 100000 in
theorem c_X6_findReason (l : Launch) (G : Geo) (x y : Mem) (p0 : Fin 10) (p1 : Fin 10 × Fin 4) (r : (Int32 × Mem)) (h : m_X6_findReason p0 p1 x = some r) : Met l yX6_findReason WS_X6_findReason RM_X6_findReason (Pw G x y [.ref (gA G 19 0 0), .ref (gA G 2 ↑p0 0), .ref (gA G 0 ↑p1.1 ↑p1.2)]) (Qi G r.2 y r.1) 0 0 (gF G) := by
  refine Met.ofW (cc := cX6_findReason) (maxL := 9) (ret := (some .int)) (by decide) rfl ?_
  intro p e s m args below meth c s₁ B hml hv
  obtain ⟨rfl, hK, hW⟩ := hv
  have hx := B.exec
  have hb := B.bytes
  have hr := B.returns
  have hts := atoms_spec (ws := WS_X6_findReason) B.pre
  have htg : ∀ w ∈ wsG, w.before _ s = true := fun w h => hts w (List.mem_cons_of_mem _ h)
  have hown : s.vm.findClass RX6 = some m.cls := findClass_of_methodNamed B.named
  have hlocks := B.notSynchronized
  have hS : va_S (gF G) s.heap s.heap [] := va_S.rf
  have hl := lv_entry ([.ref (gA G 19 0 0), .ref (gA G 2 ↑p0 0), .ref (gA G 0 ↑p1.1 ↑p1.2)]) (n := 9) (Nat.le_of_ble_eq_true rfl)
  rw [lg_entry_eq]
  generalize (lg_sl ([.ref (gA G 19 0 0), .ref (gA G 2 ↑p0 0), .ref (gA G 0 ↑p1.1 ↑p1.2)]) ++ List.replicate (9 - (lg_sl ([.ref (gA G 19 0 0), .ref (gA G 2 ↑p0 0), .ref (gA G 0 ↑p1.1 ↑p1.2)])).length) Slot.unset).toArray = ls at hl ⊢
  have hl : lv_has ls 9 [(0, .ref (gA G 19 0 0)), (1, .ref (gA G 2 ↑p0 0)), (2, .ref (gA G 0 ↑p1.1 ↑p1.2))] := hl
  have hX := h
  unfold m_X6_findReason at hX
  have J_40 : ∀ (x3 : Fin 10 × Fin 31) (x4 : Int32) (x5 : Int32) (s0 : Int32) (x : Mem) (H : Heap) (locs : List Loc) (ls : Array Slot), Wh G x y H → va_S (gF G) s.heap H locs → lv_has ls 9 [(0, .ref (gA G 19 0 0)), (1, .ref (gA G 2 ↑p0 0)), (2, .ref (gA G 0 ↑p1.1 ↑p1.2)), (3, .ref (gA G 12 ↑x3.1 ↑x3.2)), (4, .int x4), (5, .int x5)] → m_X6_findReason_j40 p0 p1 x3 x4 x5 s0 x = some r → W p l e (headSpec WS_X6_findReason RM_X6_findReason).room s m ([.ref (gA G 19 0 0), .ref (gA G 2 ↑p0 0), .ref (gA G 0 ↑p1.1 ↑p1.2)] : List Value).toArray below meth c H locs 0 0 (MQ below (Qi G r.2 y r.1) ([.ref (gA G 19 0 0), .ref (gA G 2 ↑p0 0), .ref (gA G 0 ↑p1.1 ↑p1.2)] : List Value).toArray s 0 0 (gF G)) (F0 m 40 ls [.int s0]) := by
    intro x3 x4 x5 s0 x H locs ls hW hS hl hX
    unfold m_X6_findReason_j40 at hX
    refine lv_topi (fun x6_15 e9 => ?_)
    have hX := lt_go hX e9
    refine lv_istore (lv' := [(6, .int x6_15), (0, .ref (gA G 19 0 0)), (1, .ref (gA G 2 ↑p0 0)), (2, .ref (gA G 0 ↑p1.1 ↑p1.2)), (3, .ref (gA G 12 ↑x3.1 ↑x3.2)), (4, .int x4), (5, .int x5)]) hx hb dX6_findReason_40 hl (by decide) rfl (fun ls hl => ?_)
    refine lv_iload hx hb dX6_findReason_42 (lv_at hl 0 rfl) ?_
    refine lv_if_eq (tgt := 50) hx hb dX6_findReason_44 (by decide) (fun c16 => ?_) (fun c16 => ?_)
    · have hX := it_t hX c16
      refine lv_aload_n hx hb dX6_findReason_50 rfl (lv_at hl 2 rfl) ?_
      refine lv_aload_n hx hb dX6_findReason_51 rfl (lv_at hl 2 rfl) ?_
      refine gf_2_7 hx hb htg hown hK hW p0 q739 dX6_findReason_52 ?_
      refine lv_iload hx hb dX6_findReason_55 (lv_at hl 6 rfl) ?_
      obtain ⟨r18, h17, hX⟩ := bd_go hX
      refine k_X10_conflictsOf hx hb hml hown htg hK hW hS h17 q758 hl.1 (Nat.le_of_ble_eq_true rfl) (Nat.le_of_ble_eq_true rfl) (Nat.le_of_ble_eq_true rfl) ⟨Nat.zero_le _, Nat.zero_le _⟩ dX6_findReason_57 (fun H locs hW hS => ?_)
      obtain ⟨r20, h19, hX⟩ := bd_go hX
      refine k_X1_holdersOfAny hx hb hml hown htg hK hW hS h19 q759 hl.1 (Nat.le_of_ble_eq_true rfl) (Nat.le_of_ble_eq_true rfl) (Nat.le_of_ble_eq_true rfl) ⟨Nat.zero_le _, Nat.zero_le _⟩ dX6_findReason_60 (fun H locs hW hS => ?_)
      refine lv_iconst (v := (1 : Int32)) hx hb dX6_findReason_63 (by decide) ?_
      refine lv_aload_n hx hb dX6_findReason_64 rfl (lv_at hl 3 rfl) ?_
      refine gf_0_0 hx hb htg hown hK hW p1 q740 dX6_findReason_65 ?_
      refine lv_ishl_ hx hb dX6_findReason_68 ?_
      refine lv_iconst (v := (-1 : Int32)) hx hb dX6_findReason_69 (by decide) ?_
      refine lv_ixor hx hb dX6_findReason_70 ?_
      refine lv_iand hx hb dX6_findReason_71 ?_
      refine lv_topi (fun x7_21 e9 => ?_)
      have hX := lt_go hX e9
      refine lv_istore (lv' := [(7, .int x7_21), (6, .int x6_15), (0, .ref (gA G 19 0 0)), (1, .ref (gA G 2 ↑p0 0)), (2, .ref (gA G 0 ↑p1.1 ↑p1.2)), (3, .ref (gA G 12 ↑x3.1 ↑x3.2)), (4, .int x4), (5, .int x5)]) hx hb dX6_findReason_72 hl (by decide) rfl (fun ls hl => ?_)
      refine lv_iload hx hb dX6_findReason_74 (lv_at hl 0 rfl) ?_
      refine lv_if_eq (tgt := 90) hx hb dX6_findReason_76 (by decide) (fun c22 => ?_) (fun c22 => ?_)
      · have hX := it_t hX c22
        refine lv_aload_n hx hb dX6_findReason_90 rfl (lv_at hl 2 rfl) ?_
        refine lv_aload_n hx hb dX6_findReason_91 rfl (lv_at hl 3 rfl) ?_
        obtain ⟨x25, h23, hX⟩ := bd_go hX
        refine k_X6_lookAt hx hb hml hown htg hK hW hS h23 q763 hl.1 (Nat.le_of_ble_eq_true rfl) (Nat.le_of_ble_eq_true rfl) (Nat.le_of_ble_eq_true rfl) ⟨Nat.zero_le _, Nat.zero_le _⟩ dX6_findReason_92 (fun H locs hW hS => ?_)
        refine lv_aload_n hx hb dX6_findReason_95 rfl (lv_at hl 2 rfl) ?_
        refine lv_aload_n hx hb dX6_findReason_96 rfl (lv_at hl 4 rfl) ?_
        refine lv_iconst (v := (1 : Int32)) hx hb dX6_findReason_97 (by decide) ?_
        refine lv_iload hx hb dX6_findReason_98 (lv_at hl 7 rfl) ?_
        refine lv_ishl_ hx hb dX6_findReason_100 ?_
        refine lv_aload_n hx hb dX6_findReason_101 rfl (lv_at hl 3 rfl) ?_
        refine gf_2_7 hx hb htg hown hK hW p0 q739 dX6_findReason_102 ?_
        refine lv_aload_n hx hb dX6_findReason_105 rfl (lv_at hl 5 rfl) ?_
        refine lv_iload hx hb dX6_findReason_106 (lv_at hl 6 rfl) ?_
        obtain ⟨r27, h26, hX⟩ := bd_go hX
        refine k_X5_zonesBehind hx hb hml hown htg hK hW hS h26 q772 hl.1 (Nat.le_of_ble_eq_true rfl) (Nat.le_of_ble_eq_true rfl) (Nat.le_of_ble_eq_true rfl) ⟨Nat.zero_le _, Nat.zero_le _⟩ dX6_findReason_108 (fun H locs hW hS => ?_)
        obtain ⟨r29, h28, hX⟩ := bd_go hX
        refine k_X10_conflictsOfSet hx hb hml hown htg hK hW hS h28 q776 hl.1 (Nat.le_of_ble_eq_true rfl) (Nat.le_of_ble_eq_true rfl) (Nat.le_of_ble_eq_true rfl) ⟨Nat.zero_le _, Nat.zero_le _⟩ dX6_findReason_111 (fun H locs hW hS => ?_)
        obtain ⟨x32, h30, hX⟩ := bd_go hX
        refine k_X6_suppose hx hb hml hown htg hK hW hS h30 q780 hl.1 (Nat.le_of_ble_eq_true rfl) (Nat.le_of_ble_eq_true rfl) (Nat.le_of_ble_eq_true rfl) ⟨Nat.zero_le _, Nat.zero_le _⟩ dX6_findReason_114 (fun H locs hW hS => ?_)
        refine lv_aload_n hx hb dX6_findReason_117 rfl (lv_at hl 2 rfl) ?_
        obtain ⟨r34, h33, hX⟩ := bd_go hX
        refine k_X6_findStuck hx hb hml hown htg hK hW hS h33 q784 hl.1 (Nat.le_of_ble_eq_true rfl) (Nat.le_of_ble_eq_true rfl) (Nat.le_of_ble_eq_true rfl) ⟨Nat.zero_le _, Nat.zero_le _⟩ dX6_findReason_118 (fun H locs hW hS => ?_)
        refine lv_topi (fun x8_35 e9 => ?_)
        have hX := lt_go hX e9
        refine lv_istore (lv' := [(8, .int x8_35), (7, .int x7_21), (6, .int x6_15), (0, .ref (gA G 19 0 0)), (1, .ref (gA G 2 ↑p0 0)), (2, .ref (gA G 0 ↑p1.1 ↑p1.2)), (3, .ref (gA G 12 ↑x3.1 ↑x3.2)), (4, .int x4), (5, .int x5)]) hx hb dX6_findReason_121 hl (by decide) rfl (fun ls hl => ?_)
        refine lv_iload hx hb dX6_findReason_123 (lv_at hl 0 rfl) ?_
        refine lv_if_eq (tgt := 139) hx hb dX6_findReason_125 (by decide) (fun c36 => ?_) (fun c36 => ?_)
        · have hX := it_t hX c36
          refine lv_iconst (v := (0 : Int32)) hx hb dX6_findReason_139 (by decide) ?_
          have hX := Option.some.inj hX
          subst hX
          exact rt_i hx hb hr hlocks hW hS dX6_findReason_140
        · have hX := it_f hX c36
          refine lv_aload_n hx hb dX6_findReason_128 rfl (lv_at hl 3 rfl) ?_
          refine lv_iload hx hb dX6_findReason_129 (lv_at hl 0 rfl) ?_
          obtain ⟨r38, h37, hX⟩ := bd_go hX
          refine k_X6_lowest hx hb hml hown htg hK hW hS h37 q760 hl.1 (Nat.le_of_ble_eq_true rfl) (Nat.le_of_ble_eq_true rfl) (Nat.le_of_ble_eq_true rfl) ⟨Nat.zero_le _, Nat.zero_le _⟩ dX6_findReason_131 (fun H locs hW hS => ?_)
          refine pf_19_0 hx hb htg hown hK hW hS q741 dX6_findReason_134 (fun H locs hW hS => ?_)
          obtain ⟨x39, e9⟩ : ∃ w : Mem, w = (up4 x32 19 0 0 0 r38) := ⟨_, rfl⟩
          rw [← e9] at hW
          have hX := lt_go hX e9
          refine lv_iconst (v := (4 : Int32)) hx hb dX6_findReason_137 (by decide) ?_
          have hX := Option.some.inj hX
          subst hX
          exact rt_i hx hb hr hlocks hW hS dX6_findReason_138
      · have hX := it_f hX c22
        refine lv_aload_n hx hb dX6_findReason_79 rfl (lv_at hl 2 rfl) ?_
        refine lv_iload hx hb dX6_findReason_80 (lv_at hl 0 rfl) ?_
        obtain ⟨r41, h40, hX⟩ := bd_go hX
        refine k_X6_lowest hx hb hml hown htg hK hW hS h40 q760 hl.1 (Nat.le_of_ble_eq_true rfl) (Nat.le_of_ble_eq_true rfl) (Nat.le_of_ble_eq_true rfl) ⟨Nat.zero_le _, Nat.zero_le _⟩ dX6_findReason_82 (fun H locs hW hS => ?_)
        refine pf_19_0 hx hb htg hown hK hW hS q741 dX6_findReason_85 (fun H locs hW hS => ?_)
        obtain ⟨x42, e9⟩ : ∃ w : Mem, w = (up4 x 19 0 0 0 r41) := ⟨_, rfl⟩
        rw [← e9] at hW
        have hX := lt_go hX e9
        refine lv_iconst (v := (3 : Int32)) hx hb dX6_findReason_88 (by decide) ?_
        have hX := Option.some.inj hX
        subst hX
        exact rt_i hx hb hr hlocks hW hS dX6_findReason_89
    · have hX := it_f hX c16
      refine lv_iload hx hb dX6_findReason_47 (lv_at hl 0 rfl) ?_
      have hX := Option.some.inj hX
      subst hX
      exact rt_i hx hb hr hlocks hW hS dX6_findReason_49
  refine lv_aload_n hx hb dX6_findReason_0 rfl (lv_at hl 1 rfl) ?_
  refine lv_aload_n hx hb dX6_findReason_1 rfl (lv_at hl 2 rfl) ?_
  obtain ⟨r2, h1, hX⟩ := bd_go hX
  refine k_X0_requestedJob hx hb hml hown htg hK hW hS h1 q742 hl.1 (Nat.le_of_ble_eq_true rfl) (Nat.le_of_ble_eq_true rfl) (Nat.le_of_ble_eq_true rfl) ⟨Nat.zero_le _, Nat.zero_le _⟩ dX6_findReason_2 (fun H locs hW hS => ?_)
  obtain ⟨r4, h3, hX⟩ := bd_go hX
  refine k_X1_jobAt hx hb hml hown htg hK hW hS h3 q743 hl.1 (Nat.le_of_ble_eq_true rfl) (Nat.le_of_ble_eq_true rfl) (Nat.le_of_ble_eq_true rfl) ⟨Nat.zero_le _, Nat.zero_le _⟩ dX6_findReason_5 (fun H locs hW hS => ?_)
  refine lv_astore_n (lv' := [(3, .ref (gA G 12 ↑r4.1 ↑r4.2)), (0, .ref (gA G 19 0 0)), (1, .ref (gA G 2 ↑p0 0)), (2, .ref (gA G 0 ↑p1.1 ↑p1.2))]) hx hb dX6_findReason_8 rfl hl (by decide) rfl (fun ls hl => ?_)
  refine lv_aload_n hx hb dX6_findReason_9 rfl (lv_at hl 3 rfl) ?_
  obtain ⟨r6, h5, hX⟩ := bd_go hX
  refine k_X0_requestedPlace hx hb hml hown htg hK hW hS h5 q744 hl.1 (Nat.le_of_ble_eq_true rfl) (Nat.le_of_ble_eq_true rfl) (Nat.le_of_ble_eq_true rfl) ⟨Nat.zero_le _, Nat.zero_le _⟩ dX6_findReason_10 (fun H locs hW hS => ?_)
  refine lv_topi (fun x4_7 e9 => ?_)
  have hX := lt_go hX e9
  refine lv_istore (lv' := [(4, .int x4_7), (3, .ref (gA G 12 ↑r4.1 ↑r4.2)), (0, .ref (gA G 19 0 0)), (1, .ref (gA G 2 ↑p0 0)), (2, .ref (gA G 0 ↑p1.1 ↑p1.2))]) hx hb dX6_findReason_13 hl (by decide) rfl (fun ls hl => ?_)
  refine lv_aload_n hx hb dX6_findReason_15 rfl (lv_at hl 1 rfl) ?_
  refine lv_iload hx hb dX6_findReason_16 (lv_at hl 0 rfl) ?_
  obtain ⟨r9, h8, hX⟩ := bd_go hX
  refine k_X5_zoneAt hx hb hml hown htg hK hW hS h8 q745 hl.1 (Nat.le_of_ble_eq_true rfl) (Nat.le_of_ble_eq_true rfl) (Nat.le_of_ble_eq_true rfl) ⟨Nat.zero_le _, Nat.zero_le _⟩ dX6_findReason_18 (fun H locs hW hS => ?_)
  refine lv_topi (fun x5_10 e9 => ?_)
  have hX := lt_go hX e9
  refine lv_istore (lv' := [(5, .int x5_10), (4, .int x4_7), (3, .ref (gA G 12 ↑r4.1 ↑r4.2)), (0, .ref (gA G 19 0 0)), (1, .ref (gA G 2 ↑p0 0)), (2, .ref (gA G 0 ↑p1.1 ↑p1.2))]) hx hb dX6_findReason_21 hl (by decide) rfl (fun ls hl => ?_)
  refine lv_aload_n hx hb dX6_findReason_23 rfl (lv_at hl 5 rfl) ?_
  refine gf_0_2 hx hb htg hown hK hW p1 q738 dX6_findReason_24 ?_
  refine lv_if_ne (tgt := 39) hx hb dX6_findReason_27 (by decide) (fun c11 => ?_) (fun c11 => ?_)
  · have hX := it_f hX c11
    refine lv_iconst (v := (0 : Int32)) hx hb dX6_findReason_39 (by decide) ?_
    exact J_40 _ _ _ _ _ _ _ _ hW hS (lv_sub hl [3, 4, 5, 2, 1, 0] rfl) hX
  · have hX := it_t hX c11
    refine lv_aload_n hx hb dX6_findReason_30 rfl (lv_at hl 3 rfl) ?_
    refine lv_aload_n hx hb dX6_findReason_31 rfl (lv_at hl 4 rfl) ?_
    refine lv_aload_n hx hb dX6_findReason_32 rfl (lv_at hl 2 rfl) ?_
    obtain ⟨r13, x14, h12, hX⟩ := bd2_go hX
    refine k_X6_bufferReason hx hb hml hown htg hK hW hS h12 q746 hl.1 (Nat.le_of_ble_eq_true rfl) (Nat.le_of_ble_eq_true rfl) (Nat.le_of_ble_eq_true rfl) ⟨Nat.zero_le _, Nat.zero_le _⟩ dX6_findReason_33 (fun H locs hW hS => ?_)
    refine lv_goto (tgt := 40) hx hb dX6_findReason_36 (by decide) ?_
    exact J_40 _ _ _ _ _ _ _ _ hW hS (lv_sub hl [3, 4, 5, 2, 1, 0] rfl) hX
set_option maxHeartbeats 4000000 in
theorem k_X6_findReason {p : Program} {l : Launch} {e : Env} {R : Room} {s : State} {m : MethodId} {args : Array Value} {below : List Frame} {meth : Method} {c : Code} {H : Heap} {locs : List Loc} {cells slots : Nat} {Q : State → Prop} {cc : ByteArray} {pc nL idx : Nat} {own : String} {ls : Array Slot} {rest : List Value} {G : Geo} {x y : Mem} {H0 : Heap} {p0 : Fin 10} {p1 : Fin 10 × Fin 4} {v : Int32} {z : Mem} (hx : p.tables.exec = Jvm.exec) (hb : c.code = cc) (hml : c.maxLocals = nL) (hown : s.vm.findClass own = some m.cls) (htg : ∀ w ∈ wsG, w.before args s = true) (hK : Kt G s) (hW : Wh G x y H) (hS : va_S (gF G) H0 H locs) (h : m_X6_findReason p0 p1 x = some (v, z)) (hlk : Cond.methodLink own idx yX6_findReason ∈ wsG) (hn : ls.size = nL) (hr : (rest.map fun v => v.category).sum ≤ 8) (hR1 : 2 + 1 ≤ R.frames) (hR2 : 8 + (9 + 11) + 47 ≤ R.locals) (hf : cells ≤ R.cells ∧ slots ≤ R.slots) (hdg : decode cc pc = .ok (.invokevirtual idx, 3)) (kk : ∀ (H1 : Heap) (locs1 : List Loc), Wh G z y H1 → va_S (gF G) H0 H1 locs1 → W p l e R s m args below meth c H1 locs1 cells slots Q (F0 m (pc + 3) ls (.int v :: rest))) : W p l e R s m args below meth c H locs cells slots Q (F0 m pc ls (.ref (gA G 0 ↑p1.1 ↑p1.2) :: .ref (gA G 2 ↑p0 0) :: .ref (gA G 19 0 0) :: rest)) := by
  refine va_calli (va_runV (As := [.ref (gA G 2 ↑p0 0), .ref (gA G 0 ↑p1.1 ↑p1.2)]) (rest := rest) ⟨hx, hb, hml, hown, htg⟩ (c_X6_findReason l G x y p0 p1 (v, z) h) (cwV 2 htg (gd_V hlk q735 q736 q109 q737) rfl rfl rfl (by decide +kernel) ⟨hR1, hR2⟩) ⟨fun a U g mk q => ⟨q.1, q.2.1.calling, q.2.2⟩, rc_19 hK hW, fun U hU hW9 => ⟨rfl, hK.warm hW9, by rw [hU]; exact hW⟩⟩ rfl rfl hn rfl (lv_room hr) hdg hf) hS (fun _ _ h9 => h9) (fun _ h9 => h9) ?_
  intro r9 u t H1 locs1 ht hvm hw hB hz1 hk1 hS1
  replace hB : Wh G z y t.heap := hB
  rw [ht] at hB
  replace hw : r9 = v := hw
  subst hw
  exact kk H1 locs1 hB hS1
