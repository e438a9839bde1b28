/-! the class: what adds -/
def K_addTask (M : TS) (p es bu : Int32) : Int32 × TS × Int32 :=
  if ¬ p = -1 ∧ tkOk (nT M) p = false then (1, M, 0) else if tkIn es 1 400 = false ∨ tkIn bu 0 400 = false then (2, M, 0) else if 16 ≤ nI (nT M) then (3, M, 0) else if ¬ p = -1 ∧ M 4 (tn p) = 100 then (4, M, 0) else (0, nTask M p es bu, nI (nT M))
def K_note (M : TS) (x p w h : Int32) : Int32 × TS × Int32 :=
  if tkOk (nT M) x = false then (1, M, 0) else if tkOk 4 p = false ∨ tkOk 30 w = false ∨ tkIn h 1 40 = false then (2, M, 0) else if lkB M (tn w) = true then (3, M, 0) else
  if (M 4 (tn x) = 119 ∨ M 4 (tn x) = 114) ∧ h ≤ rmC M (tn x + 1) (tn x) 401 ∧ nI (nE M) < 60 then (0, nEntr M x p w h, nI (nE M)) else (4, M, 0)
set_option maxHeartbeats 4000000 in
set_option maxRecDepth 100000 in
theorem c_X4_addTask (l : Launch) (hst : l.stackTraces = false) (A : Nat → Prop) (D : va_G) (ac : Nat → ClassId) (dE : Nat) (G : TG) {h0 : Nat} {α : Nat → Nat → Nat} {M : TS} {nv : Nat} (hP : PX ac dE h0 α M (nV M) G) (hW : W0 M) (h19 : M 19 (nT M) = 0) (x y u : Int32) : vx_Met l yX4_addTask wsX4_addTask ({ frames := 9, cells := 3, slots := 102, locals := 600 } : Room) (va_Pc [.ref h0, .int x, .int y, .int u] (tkX A D ac dE G)) (va_Qi (fun (z : Int32) (G9 : TG) => (K_addTask M x y u).1 = 0 ∧ (∃ α9 : Nat → Nat → Nat, PX ac dE h0 α9 (K_addTask M x y u).2.1 (nV (K_addTask M x y u).2.1) G9) ∧ z = (K_addTask M x y u).2.2) (fun (G9 : TG) t => tkM A D G9 t.heap) A) (XG (fun E => (E, (K_addTask M x y u).1) ∈ ([("java/lang/IndexOutOfBoundsException", 1), ("java/lang/IllegalArgumentException", 2), ("java/lang/IllegalStateException", 3), ("java/lang/UnsupportedOperationException", 4)] : List (String × Int32)))) 3 102 A := by
  refine vx_ofW (cc := cX4_addTask) (maxL := 6) (ret := (some .int)) (by decide) rfl ?_
  intro p e s m args below meth c s₁ B hml hno hv
  obtain ⟨rfl, ⟨hM, hK, hA, hF⟩, hO⟩ := hv
  have hS : va_S A s.heap s.heap [] := va_S.rf
  have hE : tkE s.heap s.heap := tkE.rf
  have hx := B.exec
  have hb := B.bytes
  have hr := B.returns
  have hts := atoms_spec (ws := wsX4_addTask) B.pre
  have hown : s.vm.findClass RX4 = some m.cls := findClass_of_methodNamed B.named
  have hlocks := B.notSynchronized
  have S0 : CallFix p m c cX4_addTask 6 s ([.ref h0, .int x, .int y, .int u] : List Value).toArray wsX4_addTask RX4 := ⟨hx, hb, hml, hown, hts⟩
  have inX4 : ∀ w ∈ wsX40, w ∈ wsX4_addTask := by decide +kernel
  have inX3 : ∀ w ∈ wsX30, w ∈ wsX4_addTask := by decide +kernel
  have hl := lv_entry ([.ref h0, .int x, .int y, .int u]) (n := 6) (Nat.le_of_ble_eq_true rfl)
  rw [lg_entry_eq]
  generalize (lg_sl ([.ref h0, .int x, .int y, .int u]) ++ List.replicate (6 - (lg_sl ([.ref h0, .int x, .int y, .int u])).length) Slot.unset).toArray = ls at hl ⊢
  have hl : lv_has ls 6 [(0, .ref h0), (1, .int x), (2, .int y), (3, .int u)] := hl
  have bT := hW.t.2
  have bE := hW.e.2
  have bV := hW.v.2
  refine lv_iload_n hx hb dX4_addTask_0 rfl (lv_at hl 1 rfl) ?_
  refine lv_iconst (v := (-1)) hx hb dX4_addTask_1 (by decide) ?_
  refine lv_icmp_ne (tgt := 9) hx hb dX4_addTask_2 (by decide) (fun c_1 => ?_) (fun c_1 => ?_)
  · skip
    refine lv_aload_n hx hb dX4_addTask_9 rfl (lv_at hl 0 rfl) ?_
    refine lv_iload_n hx hb dX4_addTask_10 rfl (lv_at hl 1 rfl) ?_
    refine tk_xVq (As := [.int x]) S0 (c_X4_requireTask l hst A D ac dE _ hP hW x) (cwV 1 hts gX4_addTask_X4_requireTask rfl rfl rfl (by decide +kernel) ⟨Nat.le_of_ble_eq_true rfl, Nat.le_of_ble_eq_true rfl⟩) (tkX.blind) (tkX.at hM hK hA hF hO hS) (tk_recv hK hM hP.h rfl) rfl hl.1 rfl (Nat.le_of_ble_eq_true rfl) dX4_addTask_11 ⟨Nat.le_of_ble_eq_true rfl, Nat.le_of_ble_eq_true rfl⟩ hS hE hno hlocks ⟨Nat.le_of_ble_eq_true rfl, Nat.le_of_ble_eq_true rfl⟩ (fun E h9 => by obtain ⟨rfl, h9⟩ := h9; exact (xl (k := 1) (by rw [K_addTask, if_pos ⟨c_1, h9⟩]) (by decide +kernel))) (fun r_2 H locs hr_2 hq9 hE hS => ?_)
    have hM := hM.keptE hq9
    obtain ⟨hok, rfl⟩ := hr_2
    have hokc := hok
    obtain ⟨t, ht, rfl⟩ := tkOk_ex (by omega) hokc
    rw [show tn (nI t) = t from nI_clamp (by omega)]
    refine lv_astore (lv' := [(4, .ref (α 1 t)), (0, .ref h0), (1, .int (nI t)), (2, .int y), (3, .int u)]) hx hb dX4_addTask_14 hl (by decide) rfl (fun ls hl => ?_)
    refine lv_iload_n hx hb dX4_addTask_16 rfl (lv_at hl 3 rfl) ?_
    refine lv_iconst (v := 1) hx hb dX4_addTask_17 (by decide) ?_
    refine lv_sipush (v := 400) hx hb dX4_addTask_18 (by decide) ?_
    refine tk_cSi (As := [.int y, .int 1, .int 400]) S0 (c_X4_isBetween l A D ac dE _ y 1 400) (va_cwS 3 hts gX4_addTask_X4_isBetween rfl rfl rfl (by decide +kernel) ⟨Nat.le_of_ble_eq_true rfl, Nat.le_of_ble_eq_true rfl⟩) (tkX.blind) (tkX.at hM hK hA hF hO hS) rfl hl.1 rfl (Nat.le_of_ble_eq_true rfl) dX4_addTask_21 ⟨Nat.le_of_ble_eq_true rfl, Nat.le_of_ble_eq_true rfl⟩ (fun r_3 hr_3 => ?_)
    rcases hr_3 with ⟨rfl, hr_3⟩ | ⟨rfl, hr_3⟩
    · skip
      refine lv_if_eq (tgt := 38) hx hb dX4_addTask_24 (by decide) (fun c_4 => absurd c_4 (by decide)) (fun c_4 => ?_)
      refine lv_iload_n hx hb dX4_addTask_27 rfl (lv_at hl 4 rfl) ?_
      refine lv_iconst (v := 0) hx hb dX4_addTask_28 (by decide) ?_
      refine lv_sipush (v := 400) hx hb dX4_addTask_29 (by decide) ?_
      refine tk_cSi (As := [.int u, .int 0, .int 400]) S0 (c_X4_isBetween l A D ac dE _ u 0 400) (va_cwS 3 hts gX4_addTask_X4_isBetween rfl rfl rfl (by decide +kernel) ⟨Nat.le_of_ble_eq_true rfl, Nat.le_of_ble_eq_true rfl⟩) (tkX.blind) (tkX.at hM hK hA hF hO hS) rfl hl.1 rfl (Nat.le_of_ble_eq_true rfl) dX4_addTask_32 ⟨Nat.le_of_ble_eq_true rfl, Nat.le_of_ble_eq_true rfl⟩ (fun r_5 hr_5 => ?_)
      rcases hr_5 with ⟨rfl, hr_5⟩ | ⟨rfl, hr_5⟩
      · skip
        refine lv_if_ne (tgt := 48) hx hb dX4_addTask_35 (by decide) (fun c_6 => ?_) (fun c_6 => absurd c_6 (by decide))
        refine lv_aload_n hx hb dX4_addTask_48 rfl (lv_at hl 1 rfl) ?_
        refine tk_get hx hb hts inX4 hown hK hM hP.h rfl 0 (by decide) (hts (.fieldLink RX4 12 "TicketForge" "taskList" "Ljava/util/ArrayList;") (by decide +kernel)) (fun _ h9 => h9) rfl dX4_addTask_49 ?_
        refine tk_cVi (As := []) S0 (c_Jx4a65c_size_8abf5 l A D ac dE _ hP.lt) (cwV 0 hts gX4_addTask_Jx4a65c_size_8abf5 rfl rfl rfl (by decide +kernel) ⟨Nat.le_of_ble_eq_true rfl, Nat.le_of_ble_eq_true rfl⟩) (tkX.blind) (tkX.at hM hK hA hF hO hS) (LX.rec hP.lt hK hM) rfl hl.1 rfl (Nat.le_of_ble_eq_true rfl) dX4_addTask_52 ⟨Nat.le_of_ble_eq_true rfl, Nat.le_of_ble_eq_true rfl⟩ (fun r_7 hr_7 => ?_)
        subst hr_7
        refine lv_bipush (v := 16) hx hb dX4_addTask_55 (by decide) ?_
        refine lv_icmp_lt (tgt := 70) hx hb dX4_addTask_57 (by decide) (fun c_8 => ?_) (fun c_8 => ?_)
        · have hn15 : nT M < 16 := (nI_ltI (by omega) (by decide)).mp c_8
          refine lv_aload hx hb dX4_addTask_70 (lv_at hl 0 rfl) ?_
          refine lv_ifnull hx hb dX4_addTask_72 ?_
          refine lv_aload hx hb dX4_addTask_75 (lv_at hl 0 rfl) ?_
          refine tk_get hx hb hts inX3 hown hK hM (hP.t ht) rfl 4 (by decide) (hts (.fieldLink RX4 71 "TicketForge$Task" "state" "C") (by decide +kernel)) (fun _ h9 => h9) rfl dX4_addTask_77 ?_
          refine lv_bipush (v := 100) hx hb dX4_addTask_80 (by decide) ?_
          refine lv_icmp_ne (tgt := 95) hx hb dX4_addTask_82 (by decide) (fun c_9 => ?_) (fun c_9 => ?_)
          · skip
            have hP0 := hP
            refine tk_new hx hb hts inX3 tyX3 tyX3_ok hown (hts (.classLink RX4 72 RX3) (by decide +kernel)) (hts (.instantiable RX3 6) (by decide +kernel)) (hts (.initialized RX3) (by decide +kernel)) hK hM hS hA (ci := 6) rfl (fs := [.int 0, .null, .int 0, .int 0, .int 0, .int 0]) (by decide) (Nat.le_of_ble_eq_true rfl) (Nat.le_of_ble_eq_true rfl) dX4_addTask_95 (fun d9 H hn9 hz9 hM hS => ?_)
            have hP := hP0.mono (fresh_mono (y := some (.inr (6, [.int 0, .null, .int 0, .int 0, .int 0, .int 0]))) hn9)
            refine lv_dup hx hb dX4_addTask_98 rfl ?_
            refine lv_aload_n hx hb dX4_addTask_99 rfl (lv_at hl 1 rfl) ?_
            refine tk_get hx hb hts inX4 hown hK hM hP.h rfl 0 (by decide) (hts (.fieldLink RX4 12 "TicketForge" "taskList" "Ljava/util/ArrayList;") (by decide +kernel)) (fun _ h9 => h9) rfl dX4_addTask_100 ?_
            refine tk_cVi (As := []) S0 (c_Jx4a65c_size_8abf5 l A D ac dE _ hP.lt) (cwV 0 hts gX4_addTask_Jx4a65c_size_8abf5 rfl rfl rfl (by decide +kernel) ⟨Nat.le_of_ble_eq_true rfl, Nat.le_of_ble_eq_true rfl⟩) (tkX.blind) (tkX.at hM hK hA hF hO hS) (LX.rec hP.lt hK hM) rfl hl.1 rfl (Nat.le_of_ble_eq_true rfl) dX4_addTask_103 ⟨Nat.le_of_ble_eq_true rfl, Nat.le_of_ble_eq_true rfl⟩ (fun r_10 hr_10 => ?_)
            subst hr_10
            refine lv_aload hx hb dX4_addTask_106 (lv_at hl 0 rfl) ?_
            refine lv_iload_n hx hb dX4_addTask_108 rfl (lv_at hl 3 rfl) ?_
            refine lv_iload_n hx hb dX4_addTask_109 rfl (lv_at hl 4 rfl) ?_
            refine tk_mIv (As := [.int (nI (nT M)), .ref (α 1 t), .int y, .int u]) S0 (c_X3_init_s l A D ac dE _ (va_up_self _ _ _) (nI (nT M)) (α 1 t) y u) (cwI 4 hts gX4_addTask_X3_init rfl rfl rfl (hts (.initialized RX3) (by decide +kernel)) (hts (.methodLink RX4 82 yX3_init) (by decide +kernel)) (hts (.instanceMethod yX3_init) (by decide +kernel)) rfl (by decide +kernel) ⟨Nat.le_of_ble_eq_true rfl, Nat.le_of_ble_eq_true rfl⟩) (tkX.blind) (tkX.at hM hK hA hF hO hS) rfl hl.1 rfl (Nat.le_of_ble_eq_true rfl) dX4_addTask_110 ⟨Nat.le_of_ble_eq_true rfl, Nat.le_of_ble_eq_true rfl⟩ hS (fun G9 H locs hG9 hM hS => ?_)
            subst hG9
            rw [va_up2] at hM
            have hP := hP0.mono (fresh_mono (y := some (.inr (6, [.int (nI (nT M)), .ref (α 1 t), .int y, .int u, .int 111, .int 0]))) hn9)
            refine lv_astore (lv' := [(5, .ref d9), (4, .ref (α 1 t)), (0, .ref h0), (1, .int (nI t)), (2, .int y), (3, .int u)]) hx hb dX4_addTask_113 hl (by decide) rfl (fun ls hl => ?_)
            refine lv_aload_n hx hb dX4_addTask_115 rfl (lv_at hl 2 rfl) ?_
            refine tk_get hx hb hts inX4 hown hK hM hP.h rfl 0 (by decide) (hts (.fieldLink RX4 12 "TicketForge" "taskList" "Ljava/util/ArrayList;") (by decide +kernel)) (fun _ h9 => h9) rfl dX4_addTask_116 ?_
            refine lv_aload hx hb dX4_addTask_119 (lv_at hl 0 rfl) ?_
            refine tk_mVi (As := [.ref d9]) S0 (c_Jx4a65c_add_9ea2d l A D ac dE _ hP.lt (by omega) ⟨6, _, _, _, _, va_up_self _ _ _, rfl, by decide⟩ (fun i hi => ⟨6, _, _, _, _, hP.t hi, rfl, by decide⟩)) (cwV 1 hts gX4_addTask_Jx4a65c_add_9ea2d rfl rfl rfl (by decide +kernel) ⟨Nat.le_of_ble_eq_true rfl, Nat.le_of_ble_eq_true rfl⟩) (tkX.blind) (tkX.at hM hK hA hF hO hS) (LX.rec hP.lt hK hM) rfl hl.1 rfl (Nat.le_of_ble_eq_true rfl) dX4_addTask_121 ⟨Nat.le_of_ble_eq_true rfl, Nat.le_of_ble_eq_true rfl⟩ hS (fun r_11 G H locs hp hM hS => ?_)
            obtain ⟨rfl, hAd⟩ := hp
            have hAd2 := hAd
            obtain ⟨d8, hL8, h28, h38⟩ := hAd2
            have hd9 := kp_O hP.lt h28 h38 (va_up_self _ _ _) (by decide)
            obtain ⟨α, hP⟩ := hP.addT (p := (nI t)) (es := y) (bu := u) (par := (some (α 1 t))) hW hAd (va_up_self _ _ _) (fun i hi h9 => by have h8 := hP0.t hi; rw [h9, hn9] at h8; cases h8) (by omega) (Or.inr ⟨t, ht, rfl, rfl⟩) h19
            refine lv_pop hx hb dX4_addTask_124 rfl ?_
            refine lv_aload hx hb dX4_addTask_125 (lv_at hl 0 rfl) ?_
            refine tk_get hx hb hts inX3 hown hK hM hd9 rfl 0 (by decide) (hts (.fieldLink RX4 89 "TicketForge$Task" "number" "I") (by decide +kernel)) (fun _ h9 => h9) rfl dX4_addTask_127 ?_
            refine vx_ret ?_
            refine W.widen (k := 3) (n := 102) (Nat.le_of_ble_eq_true rfl) (Nat.le_of_ble_eq_true rfl) ?_
            have eS : K_addTask M (nI t) y u = (0, (nTask M (nI t) y u), (nI (nT M))) := (by rw [K_addTask, if_neg (fun h9 => by rw [hok] at h9; exact absurd h9.2 (by decide)), if_neg (by rw [hr_3, hr_5]; decide), if_neg (Int32.not_le.mpr c_8), if_neg (fun h9 => c_9 (by have h8 := h9.2; rw [show tn (nI t) = t from nI_clamp (by omega)] at h8; exact h8))])
            exact W.iret (v := (nI (nT M))) hx hb hr (fun t9 h9 w9 => ⟨⟨(nI (nT M)), _, rfl, (by rw [eS]; exact ⟨rfl, ⟨_, hP⟩, rfl⟩), (by show tkM A D _ _; rw [h9]; exact hM)⟩, hS.F h9⟩) hS.2.2 dX4_addTask_130
          · skip
            exact tk_th hst hx hb hown (by decide) (hts (.classLink RX4 77 "java/lang/UnsupportedOperationException") (by decide +kernel)) (hts (.initialized "java/lang/UnsupportedOperationException") (by decide +kernel)) (text := "the parent is done") (by decide) (by decide) (fun w hw => hts w (List.mem_cons_of_mem _ (List.mem_append_left _ (List.mem_append_right _ hw)))) ng_81 ot_81 hF hO hS hE (hl.1.trans hml.symm) hno hlocks dX4_addTask_85 dX4_addTask_88 dX4_addTask_89 dX4_addTask_91 dX4_addTask_94 (Nat.le_of_ble_eq_true rfl) (Nat.le_of_ble_eq_true rfl) ⟨Nat.le_of_ble_eq_true rfl, Nat.le_of_ble_eq_true rfl⟩ ⟨Nat.le_of_ble_eq_true rfl, Nat.le_of_ble_eq_true rfl⟩ (xl (k := 4) (by rw [K_addTask, if_neg (fun h9 => by rw [hok] at h9; exact absurd h9.2 (by decide)), if_neg (by rw [hr_3, hr_5]; decide), if_neg (Int32.not_le.mpr c_8), if_pos ⟨c_1, by rw [show tn (nI t) = t from nI_clamp (by omega)]; exact c_9⟩]) (by decide +kernel))
        · skip
          exact tk_th hst hx hb hown (by decide) (hts (.classLink RX4 66 "java/lang/IllegalStateException") (by decide +kernel)) (hts (.initialized "java/lang/IllegalStateException") (by decide +kernel)) (text := "there are 16 tasks") (by decide) (by decide) (fun w hw => hts w (List.mem_cons_of_mem _ (List.mem_append_left _ (List.mem_append_left _ (List.mem_append_right _ hw))))) ng_70 ot_70 hF hO hS hE (hl.1.trans hml.symm) hno hlocks dX4_addTask_60 dX4_addTask_63 dX4_addTask_64 dX4_addTask_66 dX4_addTask_69 (Nat.le_of_ble_eq_true rfl) (Nat.le_of_ble_eq_true rfl) ⟨Nat.le_of_ble_eq_true rfl, Nat.le_of_ble_eq_true rfl⟩ ⟨Nat.le_of_ble_eq_true rfl, Nat.le_of_ble_eq_true rfl⟩ (xl (k := 3) (by rw [K_addTask, if_neg (fun h9 => by rw [hok] at h9; exact absurd h9.2 (by decide)), if_neg (by rw [hr_3, hr_5]; decide), if_pos (Int32.not_lt.mp c_8)]) (by decide +kernel))
      · skip
        refine lv_if_ne (tgt := 48) hx hb dX4_addTask_35 (by decide) (fun c_12 => absurd c_12 (by decide)) (fun c_12 => ?_)
        exact tk_th hst hx hb hown (by decide) (hts (.classLink RX4 55 "java/lang/IllegalArgumentException") (by decide +kernel)) (hts (.initialized "java/lang/IllegalArgumentException") (by decide +kernel)) (text := "the estimate or the budget is out of range") (by decide) (by decide) (fun w hw => hts w (List.mem_cons_of_mem _ (List.mem_append_left _ (List.mem_append_left _ (List.mem_append_left _ (List.mem_append_right _ hw)))))) ng_59 ot_59 hF hO hS hE (hl.1.trans hml.symm) hno hlocks dX4_addTask_38 dX4_addTask_41 dX4_addTask_42 dX4_addTask_44 dX4_addTask_47 (Nat.le_of_ble_eq_true rfl) (Nat.le_of_ble_eq_true rfl) ⟨Nat.le_of_ble_eq_true rfl, Nat.le_of_ble_eq_true rfl⟩ ⟨Nat.le_of_ble_eq_true rfl, Nat.le_of_ble_eq_true rfl⟩ (xl (k := 2) (by rw [K_addTask, if_neg (fun h9 => by rw [hok] at h9; exact absurd h9.2 (by decide)), if_pos (Or.inr hr_5)]) (by decide +kernel))
    · skip
      refine lv_if_eq (tgt := 38) hx hb dX4_addTask_24 (by decide) (fun c_13 => ?_) (fun c_13 => absurd (by decide) c_13)
      exact tk_th hst hx hb hown (by decide) (hts (.classLink RX4 55 "java/lang/IllegalArgumentException") (by decide +kernel)) (hts (.initialized "java/lang/IllegalArgumentException") (by decide +kernel)) (text := "the estimate or the budget is out of range") (by decide) (by decide) (fun w hw => hts w (List.mem_cons_of_mem _ (List.mem_append_left _ (List.mem_append_left _ (List.mem_append_left _ (List.mem_append_right _ hw)))))) ng_59 ot_59 hF hO hS hE (hl.1.trans hml.symm) hno hlocks dX4_addTask_38 dX4_addTask_41 dX4_addTask_42 dX4_addTask_44 dX4_addTask_47 (Nat.le_of_ble_eq_true rfl) (Nat.le_of_ble_eq_true rfl) ⟨Nat.le_of_ble_eq_true rfl, Nat.le_of_ble_eq_true rfl⟩ ⟨Nat.le_of_ble_eq_true rfl, Nat.le_of_ble_eq_true rfl⟩ (xl (k := 2) (by rw [K_addTask, if_neg (fun h9 => by rw [hok] at h9; exact absurd h9.2 (by decide)), if_pos (Or.inl hr_3)]) (by decide +kernel))
  · skip
    refine lv_null hx hb dX4_addTask_5 ?_
    refine lv_goto (tgt := 14) hx hb dX4_addTask_6 (by decide) ?_
    refine lv_astoreN (lv' := [(4, .null), (0, .ref h0), (1, .int x), (2, .int y), (3, .int u)]) hx hb dX4_addTask_14 hl (by decide) rfl (fun ls hl => ?_)
    refine lv_iload_n hx hb dX4_addTask_16 rfl (lv_at hl 3 rfl) ?_
    refine lv_iconst (v := 1) hx hb dX4_addTask_17 (by decide) ?_
    refine lv_sipush (v := 400) hx hb dX4_addTask_18 (by decide) ?_
    refine tk_cSi (As := [.int y, .int 1, .int 400]) S0 (c_X4_isBetween l A D ac dE _ y 1 400) (va_cwS 3 hts gX4_addTask_X4_isBetween rfl rfl rfl (by decide +kernel) ⟨Nat.le_of_ble_eq_true rfl, Nat.le_of_ble_eq_true rfl⟩) (tkX.blind) (tkX.at hM hK hA hF hO hS) rfl hl.1 rfl (Nat.le_of_ble_eq_true rfl) dX4_addTask_21 ⟨Nat.le_of_ble_eq_true rfl, Nat.le_of_ble_eq_true rfl⟩ (fun r_14 hr_14 => ?_)
    rcases hr_14 with ⟨rfl, hr_14⟩ | ⟨rfl, hr_14⟩
    · skip
      refine lv_if_eq (tgt := 38) hx hb dX4_addTask_24 (by decide) (fun c_15 => absurd c_15 (by decide)) (fun c_15 => ?_)
      refine lv_iload_n hx hb dX4_addTask_27 rfl (lv_at hl 4 rfl) ?_
      refine lv_iconst (v := 0) hx hb dX4_addTask_28 (by decide) ?_
      refine lv_sipush (v := 400) hx hb dX4_addTask_29 (by decide) ?_
      refine tk_cSi (As := [.int u, .int 0, .int 400]) S0 (c_X4_isBetween l A D ac dE _ u 0 400) (va_cwS 3 hts gX4_addTask_X4_isBetween rfl rfl rfl (by decide +kernel) ⟨Nat.le_of_ble_eq_true rfl, Nat.le_of_ble_eq_true rfl⟩) (tkX.blind) (tkX.at hM hK hA hF hO hS) rfl hl.1 rfl (Nat.le_of_ble_eq_true rfl) dX4_addTask_32 ⟨Nat.le_of_ble_eq_true rfl, Nat.le_of_ble_eq_true rfl⟩ (fun r_16 hr_16 => ?_)
      rcases hr_16 with ⟨rfl, hr_16⟩ | ⟨rfl, hr_16⟩
      · skip
        refine lv_if_ne (tgt := 48) hx hb dX4_addTask_35 (by decide) (fun c_17 => ?_) (fun c_17 => absurd c_17 (by decide))
        refine lv_aload_n hx hb dX4_addTask_48 rfl (lv_at hl 1 rfl) ?_
        refine tk_get hx hb hts inX4 hown hK hM hP.h rfl 0 (by decide) (hts (.fieldLink RX4 12 "TicketForge" "taskList" "Ljava/util/ArrayList;") (by decide +kernel)) (fun _ h9 => h9) rfl dX4_addTask_49 ?_
        refine tk_cVi (As := []) S0 (c_Jx4a65c_size_8abf5 l A D ac dE _ hP.lt) (cwV 0 hts gX4_addTask_Jx4a65c_size_8abf5 rfl rfl rfl (by decide +kernel) ⟨Nat.le_of_ble_eq_true rfl, Nat.le_of_ble_eq_true rfl⟩) (tkX.blind) (tkX.at hM hK hA hF hO hS) (LX.rec hP.lt hK hM) rfl hl.1 rfl (Nat.le_of_ble_eq_true rfl) dX4_addTask_52 ⟨Nat.le_of_ble_eq_true rfl, Nat.le_of_ble_eq_true rfl⟩ (fun r_18 hr_18 => ?_)
        subst hr_18
        refine lv_bipush (v := 16) hx hb dX4_addTask_55 (by decide) ?_
        refine lv_icmp_lt (tgt := 70) hx hb dX4_addTask_57 (by decide) (fun c_19 => ?_) (fun c_19 => ?_)
        · have hn15 : nT M < 16 := (nI_ltI (by omega) (by decide)).mp c_19
          refine lv_aloadN hx hb dX4_addTask_70 (lv_at hl 0 rfl) ?_
          refine lv_ifnullN (tgt := 95) hx hb dX4_addTask_72 (by decide) ?_
          have hP0 := hP
          refine tk_new hx hb hts inX3 tyX3 tyX3_ok hown (hts (.classLink RX4 72 RX3) (by decide +kernel)) (hts (.instantiable RX3 6) (by decide +kernel)) (hts (.initialized RX3) (by decide +kernel)) hK hM hS hA (ci := 6) rfl (fs := [.int 0, .null, .int 0, .int 0, .int 0, .int 0]) (by decide) (Nat.le_of_ble_eq_true rfl) (Nat.le_of_ble_eq_true rfl) dX4_addTask_95 (fun d9 H hn9 hz9 hM hS => ?_)
          have hP := hP0.mono (fresh_mono (y := some (.inr (6, [.int 0, .null, .int 0, .int 0, .int 0, .int 0]))) hn9)
          refine lv_dup hx hb dX4_addTask_98 rfl ?_
          refine lv_aload_n hx hb dX4_addTask_99 rfl (lv_at hl 1 rfl) ?_
          refine tk_get hx hb hts inX4 hown hK hM hP.h rfl 0 (by decide) (hts (.fieldLink RX4 12 "TicketForge" "taskList" "Ljava/util/ArrayList;") (by decide +kernel)) (fun _ h9 => h9) rfl dX4_addTask_100 ?_
          refine tk_cVi (As := []) S0 (c_Jx4a65c_size_8abf5 l A D ac dE _ hP.lt) (cwV 0 hts gX4_addTask_Jx4a65c_size_8abf5 rfl rfl rfl (by decide +kernel) ⟨Nat.le_of_ble_eq_true rfl, Nat.le_of_ble_eq_true rfl⟩) (tkX.blind) (tkX.at hM hK hA hF hO hS) (LX.rec hP.lt hK hM) rfl hl.1 rfl (Nat.le_of_ble_eq_true rfl) dX4_addTask_103 ⟨Nat.le_of_ble_eq_true rfl, Nat.le_of_ble_eq_true rfl⟩ (fun r_20 hr_20 => ?_)
          subst hr_20
          refine lv_aloadN hx hb dX4_addTask_106 (lv_at hl 0 rfl) ?_
          refine lv_iload_n hx hb dX4_addTask_108 rfl (lv_at hl 3 rfl) ?_
          refine lv_iload_n hx hb dX4_addTask_109 rfl (lv_at hl 4 rfl) ?_
          refine tk_mIv (As := [.int (nI (nT M)), .null, .int y, .int u]) S0 (c_X3_init_n l A D ac dE _ (va_up_self _ _ _) (nI (nT M)) y u) (cwI 4 hts gX4_addTask_X3_init rfl rfl rfl (hts (.initialized RX3) (by decide +kernel)) (hts (.methodLink RX4 82 yX3_init) (by decide +kernel)) (hts (.instanceMethod yX3_init) (by decide +kernel)) rfl (by decide +kernel) ⟨Nat.le_of_ble_eq_true rfl, Nat.le_of_ble_eq_true rfl⟩) (tkX.blind) (tkX.at hM hK hA hF hO hS) rfl hl.1 rfl (Nat.le_of_ble_eq_true rfl) dX4_addTask_110 ⟨Nat.le_of_ble_eq_true rfl, Nat.le_of_ble_eq_true rfl⟩ hS (fun G9 H locs hG9 hM hS => ?_)
          subst hG9
          rw [va_up2] at hM
          have hP := hP0.mono (fresh_mono (y := some (.inr (6, [.int (nI (nT M)), .null, .int y, .int u, .int 111, .int 0]))) hn9)
          refine lv_astore (lv' := [(5, .ref d9), (4, .null), (0, .ref h0), (1, .int x), (2, .int y), (3, .int u)]) hx hb dX4_addTask_113 hl (by decide) rfl (fun ls hl => ?_)
          refine lv_aload_n hx hb dX4_addTask_115 rfl (lv_at hl 2 rfl) ?_
          refine tk_get hx hb hts inX4 hown hK hM hP.h rfl 0 (by decide) (hts (.fieldLink RX4 12 "TicketForge" "taskList" "Ljava/util/ArrayList;") (by decide +kernel)) (fun _ h9 => h9) rfl dX4_addTask_116 ?_
          refine lv_aload hx hb dX4_addTask_119 (lv_at hl 0 rfl) ?_
          refine tk_mVi (As := [.ref d9]) S0 (c_Jx4a65c_add_9ea2d l A D ac dE _ hP.lt (by omega) ⟨6, _, _, _, _, va_up_self _ _ _, rfl, by decide⟩ (fun i hi => ⟨6, _, _, _, _, hP.t hi, rfl, by decide⟩)) (cwV 1 hts gX4_addTask_Jx4a65c_add_9ea2d rfl rfl rfl (by decide +kernel) ⟨Nat.le_of_ble_eq_true rfl, Nat.le_of_ble_eq_true rfl⟩) (tkX.blind) (tkX.at hM hK hA hF hO hS) (LX.rec hP.lt hK hM) rfl hl.1 rfl (Nat.le_of_ble_eq_true rfl) dX4_addTask_121 ⟨Nat.le_of_ble_eq_true rfl, Nat.le_of_ble_eq_true rfl⟩ hS (fun r_21 G H locs hp hM hS => ?_)
          obtain ⟨rfl, hAd⟩ := hp
          have hAd2 := hAd
          obtain ⟨d8, hL8, h28, h38⟩ := hAd2
          have hd9 := kp_O hP.lt h28 h38 (va_up_self _ _ _) (by decide)
          obtain ⟨α, hP⟩ := hP.addT (p := x) (es := y) (bu := u) (par := none) hW hAd (va_up_self _ _ _) (fun i hi h9 => by have h8 := hP0.t hi; rw [h9, hn9] at h8; cases h8) (by omega) (Or.inl ⟨by rw [c_1]; decide, rfl⟩) h19
          refine lv_pop hx hb dX4_addTask_124 rfl ?_
          refine lv_aload hx hb dX4_addTask_125 (lv_at hl 0 rfl) ?_
          refine tk_get hx hb hts inX3 hown hK hM hd9 rfl 0 (by decide) (hts (.fieldLink RX4 89 "TicketForge$Task" "number" "I") (by decide +kernel)) (fun _ h9 => h9) rfl dX4_addTask_127 ?_
          refine vx_ret ?_
          refine W.widen (k := 3) (n := 102) (Nat.le_of_ble_eq_true rfl) (Nat.le_of_ble_eq_true rfl) ?_
          have eS : K_addTask M x y u = (0, (nTask M x y u), (nI (nT M))) := (by rw [K_addTask, if_neg (fun h9 => h9.1 c_1), if_neg (by rw [hr_14, hr_16]; decide), if_neg (Int32.not_le.mpr c_19), if_neg (fun h9 => h9.1 c_1)])
          exact W.iret (v := (nI (nT M))) hx hb hr (fun t9 h9 w9 => ⟨⟨(nI (nT M)), _, rfl, (by rw [eS]; exact ⟨rfl, ⟨_, hP⟩, rfl⟩), (by show tkM A D _ _; rw [h9]; exact hM)⟩, hS.F h9⟩) hS.2.2 dX4_addTask_130
        · skip
          exact tk_th hst hx hb hown (by decide) (hts (.classLink RX4 66 "java/lang/IllegalStateException") (by decide +kernel)) (hts (.initialized "java/lang/IllegalStateException") (by decide +kernel)) (text := "there are 16 tasks") (by decide) (by decide) (fun w hw => hts w (List.mem_cons_of_mem _ (List.mem_append_left _ (List.mem_append_left _ (List.mem_append_right _ hw))))) ng_70 ot_70 hF hO hS hE (hl.1.trans hml.symm) hno hlocks dX4_addTask_60 dX4_addTask_63 dX4_addTask_64 dX4_addTask_66 dX4_addTask_69 (Nat.le_of_ble_eq_true rfl) (Nat.le_of_ble_eq_true rfl) ⟨Nat.le_of_ble_eq_true rfl, Nat.le_of_ble_eq_true rfl⟩ ⟨Nat.le_of_ble_eq_true rfl, Nat.le_of_ble_eq_true rfl⟩ (xl (k := 3) (by rw [K_addTask, if_neg (fun h9 => h9.1 c_1), if_neg (by rw [hr_14, hr_16]; decide), if_pos (Int32.not_lt.mp c_19)]) (by decide +kernel))
      · skip
        refine lv_if_ne (tgt := 48) hx hb dX4_addTask_35 (by decide) (fun c_22 => absurd c_22 (by decide)) (fun c_22 => ?_)
        exact tk_th hst hx hb hown (by decide) (hts (.classLink RX4 55 "java/lang/IllegalArgumentException") (by decide +kernel)) (hts (.initialized "java/lang/IllegalArgumentException") (by decide +kernel)) (text := "the estimate or the budget is out of range") (by decide) (by decide) (fun w hw => hts w (List.mem_cons_of_mem _ (List.mem_append_left _ (List.mem_append_left _ (List.mem_append_left _ (List.mem_append_right _ hw)))))) ng_59 ot_59 hF hO hS hE (hl.1.trans hml.symm) hno hlocks dX4_addTask_38 dX4_addTask_41 dX4_addTask_42 dX4_addTask_44 dX4_addTask_47 (Nat.le_of_ble_eq_true rfl) (Nat.le_of_ble_eq_true rfl) ⟨Nat.le_of_ble_eq_true rfl, Nat.le_of_ble_eq_true rfl⟩ ⟨Nat.le_of_ble_eq_true rfl, Nat.le_of_ble_eq_true rfl⟩ (xl (k := 2) (by rw [K_addTask, if_neg (fun h9 => h9.1 c_1), if_pos (Or.inr hr_16)]) (by decide +kernel))
    · skip
      refine lv_if_eq (tgt := 38) hx hb dX4_addTask_24 (by decide) (fun c_23 => ?_) (fun c_23 => absurd (by decide) c_23)
      exact tk_th hst hx hb hown (by decide) (hts (.classLink RX4 55 "java/lang/IllegalArgumentException") (by decide +kernel)) (hts (.initialized "java/lang/IllegalArgumentException") (by decide +kernel)) (text := "the estimate or the budget is out of range") (by decide) (by decide) (fun w hw => hts w (List.mem_cons_of_mem _ (List.mem_append_left _ (List.mem_append_left _ (List.mem_append_left _ (List.mem_append_right _ hw)))))) ng_59 ot_59 hF hO hS hE (hl.1.trans hml.symm) hno hlocks dX4_addTask_38 dX4_addTask_41 dX4_addTask_42 dX4_addTask_44 dX4_addTask_47 (Nat.le_of_ble_eq_true rfl) (Nat.le_of_ble_eq_true rfl) ⟨Nat.le_of_ble_eq_true rfl, Nat.le_of_ble_eq_true rfl⟩ ⟨Nat.le_of_ble_eq_true rfl, Nat.le_of_ble_eq_true rfl⟩ (xl (k := 2) (by rw [K_addTask, if_neg (fun h9 => h9.1 c_1), if_pos (Or.inl hr_14)]) (by decide +kernel))
set_option maxHeartbeats 4000000 in
set_option maxRecDepth 100000 in
theorem c_X4_note (l : Launch) (hst : l.stackTraces = false) (A : Nat → Prop) (D : va_G) (ac : Nat → ClassId) (dE : Nat) (G : TG) {h0 : Nat} {α : Nat → Nat → Nat} {M : TS} {nv : Nat} (hP : PX ac dE h0 α M (nV M) G) (hW : W0 M) (h13 : M 13 (nE M) = 0) (x y w h : Int32) : vx_Met l yX4_note wsX4_note ({ frames := 9, cells := 3, slots := 103, locals := 600 } : Room) (va_Pc [.ref h0, .int x, .int y, .int w, .int h] (tkX A D ac dE G)) (va_Qi (fun (z : Int32) (G9 : TG) => (K_note M x y w h).1 = 0 ∧ (∃ α9 : Nat → Nat → Nat, PX ac dE h0 α9 (K_note M x y w h).2.1 (nV (K_note M x y w h).2.1) G9) ∧ z = (K_note M x y w h).2.2) (fun (G9 : TG) t => tkM A D G9 t.heap) A) (XG (fun E => (E, (K_note M x y w h).1) ∈ ([("java/lang/IndexOutOfBoundsException", 1), ("java/lang/IllegalArgumentException", 2), ("java/lang/UnsupportedOperationException", 3), ("java/lang/IllegalStateException", 4)] : List (String × Int32)))) 3 103 A := by
  refine vx_ofW (cc := cX4_note) (maxL := 6) (ret := (some .int)) (by decide) rfl ?_
  intro p e s m args below meth c s₁ B hml hno hv
  obtain ⟨rfl, ⟨hM, hK, hA, hF⟩, hO⟩ := hv
  have hS : va_S A s.heap s.heap [] := va_S.rf
  have hE : tkE s.heap s.heap := tkE.rf
  have hx := B.exec
  have hb := B.bytes
  have hr := B.returns
  have hts := atoms_spec (ws := wsX4_note) B.pre
  have hown : s.vm.findClass RX4 = some m.cls := findClass_of_methodNamed B.named
  have hlocks := B.notSynchronized
  have S0 : CallFix p m c cX4_note 6 s ([.ref h0, .int x, .int y, .int w, .int h] : List Value).toArray wsX4_note RX4 := ⟨hx, hb, hml, hown, hts⟩
  have inX3 : ∀ w ∈ wsX30, w ∈ wsX4_note := by decide +kernel
  have inX4 : ∀ w ∈ wsX40, w ∈ wsX4_note := by decide +kernel
  have inX0 : ∀ w ∈ wsX00, w ∈ wsX4_note := by decide +kernel
  have hl := lv_entry ([.ref h0, .int x, .int y, .int w, .int h]) (n := 6) (Nat.le_of_ble_eq_true rfl)
  rw [lg_entry_eq]
  generalize (lg_sl ([.ref h0, .int x, .int y, .int w, .int h]) ++ List.replicate (6 - (lg_sl ([.ref h0, .int x, .int y, .int w, .int h])).length) Slot.unset).toArray = ls at hl ⊢
  have hl : lv_has ls 6 [(0, .ref h0), (1, .int x), (2, .int y), (3, .int w), (4, .int h)] := hl
  have bT := hW.t.2
  have bE := hW.e.2
  have bV := hW.v.2
  refine lv_aload_n hx hb dX4_note_0 rfl (lv_at hl 0 rfl) ?_
  refine lv_iload_n hx hb dX4_note_1 rfl (lv_at hl 1 rfl) ?_
  refine tk_xVq (As := [.int x]) S0 (c_X4_requireTask l hst A D ac dE _ hP hW x) (cwV 1 hts gX4_note_X4_requireTask rfl rfl rfl (by decide +kernel) ⟨Nat.le_of_ble_eq_true rfl, Nat.le_of_ble_eq_true rfl⟩) (tkX.blind) (tkX.at hM hK hA hF hO hS) (tk_recv hK hM hP.h rfl) rfl hl.1 rfl (Nat.le_of_ble_eq_true rfl) dX4_note_2 ⟨Nat.le_of_ble_eq_true rfl, Nat.le_of_ble_eq_true rfl⟩ hS hE hno hlocks ⟨Nat.le_of_ble_eq_true rfl, Nat.le_of_ble_eq_true rfl⟩ (fun E h9 => by obtain ⟨rfl, h9⟩ := h9; exact (xl (k := 1) (by rw [K_note, if_pos h9]) (by decide +kernel))) (fun r_1 H locs hr_1 hq9 hE hS => ?_)
  have hM := hM.keptE hq9
  obtain ⟨hok, rfl⟩ := hr_1
  have hokc := hok
  obtain ⟨t, ht, rfl⟩ := tkOk_ex (by omega) hokc
  rw [show tn (nI t) = t from nI_clamp (by omega)]
  refine lv_astore (lv' := [(5, .ref (α 1 t)), (0, .ref h0), (1, .int (nI t)), (2, .int y), (3, .int w), (4, .int h)]) hx hb dX4_note_5 hl (by decide) rfl (fun ls hl => ?_)
  refine lv_iload_n hx hb dX4_note_7 rfl (lv_at hl 3 rfl) ?_
  refine tk_cSi (As := [.int y]) S0 (c_X4_isPerson l A D ac dE _ y) (va_cwS 1 hts gX4_note_X4_isPerson rfl rfl rfl (by decide +kernel) ⟨Nat.le_of_ble_eq_true rfl, Nat.le_of_ble_eq_true rfl⟩) (tkX.blind) (tkX.at hM hK hA hF hO hS) rfl hl.1 rfl (Nat.le_of_ble_eq_true rfl) dX4_note_8 ⟨Nat.le_of_ble_eq_true rfl, Nat.le_of_ble_eq_true rfl⟩ (fun r_2 hr_2 => ?_)
  rcases hr_2 with ⟨rfl, hr_2⟩ | ⟨rfl, hr_2⟩
  · skip
    refine lv_if_eq (tgt := 32) hx hb dX4_note_11 (by decide) (fun c_3 => absurd c_3 (by decide)) (fun c_3 => ?_)
    refine lv_iload_n hx hb dX4_note_14 rfl (lv_at hl 4 rfl) ?_
    refine tk_cSi (As := [.int w]) S0 (c_X4_isWeek l A D ac dE _ w) (va_cwS 1 hts gX4_note_X4_isWeek rfl rfl rfl (by decide +kernel) ⟨Nat.le_of_ble_eq_true rfl, Nat.le_of_ble_eq_true rfl⟩) (tkX.blind) (tkX.at hM hK hA hF hO hS) rfl hl.1 rfl (Nat.le_of_ble_eq_true rfl) dX4_note_15 ⟨Nat.le_of_ble_eq_true rfl, Nat.le_of_ble_eq_true rfl⟩ (fun r_4 hr_4 => ?_)
    rcases hr_4 with ⟨rfl, hr_4⟩ | ⟨rfl, hr_4⟩
    · skip
      refine lv_if_eq (tgt := 32) hx hb dX4_note_18 (by decide) (fun c_5 => absurd c_5 (by decide)) (fun c_5 => ?_)
      refine lv_iload hx hb dX4_note_21 (lv_at hl 5 rfl) ?_
      refine lv_iconst (v := 1) hx hb dX4_note_23 (by decide) ?_
      refine lv_bipush (v := 40) hx hb dX4_note_24 (by decide) ?_
      refine tk_cSi (As := [.int h, .int 1, .int 40]) S0 (c_X4_isBetween l A D ac dE _ h 1 40) (va_cwS 3 hts gX4_note_X4_isBetween rfl rfl rfl (by decide +kernel) ⟨Nat.le_of_ble_eq_true rfl, Nat.le_of_ble_eq_true rfl⟩) (tkX.blind) (tkX.at hM hK hA hF hO hS) rfl hl.1 rfl (Nat.le_of_ble_eq_true rfl) dX4_note_26 ⟨Nat.le_of_ble_eq_true rfl, Nat.le_of_ble_eq_true rfl⟩ (fun r_6 hr_6 => ?_)
      rcases hr_6 with ⟨rfl, hr_6⟩ | ⟨rfl, hr_6⟩
      · skip
        refine lv_if_ne (tgt := 42) hx hb dX4_note_29 (by decide) (fun c_7 => ?_) (fun c_7 => absurd c_7 (by decide))
        have hokw := hr_4
        have hokwc := hokw
        obtain ⟨wk, hwk, rfl⟩ := tkOk_ex (by decide) hokwc
        refine lv_aload_n hx hb dX4_note_42 rfl (lv_at hl 1 rfl) ?_
        refine lv_iload_n hx hb dX4_note_43 rfl (lv_at hl 4 rfl) ?_
        refine tk_cVi (As := [.int (nI wk)]) S0 (c_X4_isLocked l A D ac dE _ hP wk) (cwV 1 hts gX4_note_X4_isLocked rfl rfl rfl (by decide +kernel) ⟨Nat.le_of_ble_eq_true rfl, Nat.le_of_ble_eq_true rfl⟩) (tkX.blind) (tkX.at hM hK hA hF hO hS) (tk_recv hK hM hP.h rfl) rfl hl.1 rfl (Nat.le_of_ble_eq_true rfl) dX4_note_44 ⟨Nat.le_of_ble_eq_true rfl, Nat.le_of_ble_eq_true rfl⟩ (fun r_8 hr_8 => ?_)
        rcases hr_8 with ⟨rfl, hr_8⟩ | ⟨rfl, hr_8⟩
        · skip
          refine lv_if_eq (tgt := 60) hx hb dX4_note_47 (by decide) (fun c_9 => absurd c_9 (by decide)) (fun c_9 => ?_)
          exact tk_th hst hx hb hown (by decide) (hts (.classLink RX4 77 "java/lang/UnsupportedOperationException") (by decide +kernel)) (hts (.initialized "java/lang/UnsupportedOperationException") (by decide +kernel)) (text := "the week is locked") (by decide) (by decide) (fun w hw => hts w (List.mem_cons_of_mem _ (List.mem_append_left _ (List.mem_append_left _ (List.mem_append_right _ hw))))) ng_81 ot_81 hF hO hS hE (hl.1.trans hml.symm) hno hlocks dX4_note_50 dX4_note_53 dX4_note_54 dX4_note_56 dX4_note_59 (Nat.le_of_ble_eq_true rfl) (Nat.le_of_ble_eq_true rfl) ⟨Nat.le_of_ble_eq_true rfl, Nat.le_of_ble_eq_true rfl⟩ ⟨Nat.le_of_ble_eq_true rfl, Nat.le_of_ble_eq_true rfl⟩ (xl (k := 3) (by rw [K_note, if_neg (by rw [hok]; decide), if_neg (by rw [hr_2, hokw, hr_6]; decide), show tn (nI wk) = wk from nI_clamp (by omega), if_pos hr_8]) (by decide +kernel))
        · skip
          refine lv_if_eq (tgt := 60) hx hb dX4_note_47 (by decide) (fun c_10 => ?_) (fun c_10 => absurd (by decide) c_10)
          refine lv_aload hx hb dX4_note_60 (lv_at hl 0 rfl) ?_
          refine tk_get hx hb hts inX3 hown hK hM (hP.t ht) rfl 4 (by decide) (hts (.fieldLink RX4 71 "TicketForge$Task" "state" "C") (by decide +kernel)) (fun _ h9 => h9) rfl dX4_note_62 ?_
          refine lv_bipush (v := 119) hx hb dX4_note_65 (by decide) ?_
          refine lv_icmp_eq (tgt := 90) hx hb dX4_note_67 (by decide) (fun c_11 => ?_) (fun c_11 => ?_)
          · skip
            refine lv_iload hx hb dX4_note_90 (lv_at hl 5 rfl) ?_
            refine lv_aload_n hx hb dX4_note_92 rfl (lv_at hl 1 rfl) ?_
            refine lv_aload hx hb dX4_note_93 (lv_at hl 0 rfl) ?_
            refine tk_cVi (As := [.ref (α 1 t)]) S0 (c_X4_roomOf l A D ac dE _ hP hW t ht) (cwV 1 hts gX4_note_X4_roomOf rfl rfl rfl (by decide +kernel) ⟨Nat.le_of_ble_eq_true rfl, Nat.le_of_ble_eq_true rfl⟩) (tkX.blind) (tkX.at hM hK hA hF hO hS) (tk_recv hK hM hP.h rfl) rfl hl.1 rfl (Nat.le_of_ble_eq_true rfl) dX4_note_95 ⟨Nat.le_of_ble_eq_true rfl, Nat.le_of_ble_eq_true rfl⟩ (fun r_12 hr_12 => ?_)
            subst hr_12
            refine lv_icmp_gt (tgt := 113) hx hb dX4_note_98 (by decide) (fun c_13 => ?_) (fun c_13 => ?_)
            · skip
              exact tk_th hst hx hb hown (by decide) (hts (.classLink RX4 66 "java/lang/IllegalStateException") (by decide +kernel)) (hts (.initialized "java/lang/IllegalStateException") (by decide +kernel)) (text := "a budget would be too small, or there are 60 entries") (by decide) (by decide) (fun w hw => hts w (List.mem_cons_of_mem _ (List.mem_append_left _ (List.mem_append_right _ hw)))) ng_70 ot_70 hF hO hS hE (hl.1.trans hml.symm) hno hlocks dX4_note_113 dX4_note_116 dX4_note_117 dX4_note_119 dX4_note_122 (Nat.le_of_ble_eq_true rfl) (Nat.le_of_ble_eq_true rfl) ⟨Nat.le_of_ble_eq_true rfl, Nat.le_of_ble_eq_true rfl⟩ ⟨Nat.le_of_ble_eq_true rfl, Nat.le_of_ble_eq_true rfl⟩ (xl (k := 4) (by rw [K_note, if_neg (by rw [hok]; decide), if_neg (by rw [hr_2, hokw, hr_6]; decide), show tn (nI wk) = wk from nI_clamp (by omega), if_neg (by rw [hr_8]; decide), show tn (nI t) = t from nI_clamp (by omega), if_neg (fun h9 => absurd h9.2.1 (Int32.not_le.mpr c_13))]) (by decide +kernel))
            · skip
              refine lv_aload_n hx hb dX4_note_101 rfl (lv_at hl 1 rfl) ?_
              refine tk_get hx hb hts inX4 hown hK hM hP.h rfl 1 (by decide) (hts (.fieldLink RX4 16 "TicketForge" "entryList" "Ljava/util/ArrayList;") (by decide +kernel)) (fun _ h9 => h9) rfl dX4_note_102 ?_
              refine tk_cVi (As := []) S0 (c_Jx4a65c_size_8abf5 l A D ac dE _ hP.le) (cwV 0 hts gX4_note_Jx4a65c_size_8abf5 rfl rfl rfl (by decide +kernel) ⟨Nat.le_of_ble_eq_true rfl, Nat.le_of_ble_eq_true rfl⟩) (tkX.blind) (tkX.at hM hK hA hF hO hS) (LX.rec hP.le hK hM) rfl hl.1 rfl (Nat.le_of_ble_eq_true rfl) dX4_note_105 ⟨Nat.le_of_ble_eq_true rfl, Nat.le_of_ble_eq_true rfl⟩ (fun r_14 hr_14 => ?_)
              subst hr_14
              refine lv_bipush (v := 60) hx hb dX4_note_108 (by decide) ?_
              refine lv_icmp_lt (tgt := 123) hx hb dX4_note_110 (by decide) (fun c_15 => ?_) (fun c_15 => ?_)
              · have hn59 : nE M < 60 := (nI_ltI (by omega) (by decide)).mp c_15
                refine lv_aload_n hx hb dX4_note_123 rfl (lv_at hl 1 rfl) ?_
                refine tk_get hx hb hts inX4 hown hK hM hP.h rfl 1 (by decide) (hts (.fieldLink RX4 16 "TicketForge" "entryList" "Ljava/util/ArrayList;") (by decide +kernel)) (fun _ h9 => h9) rfl dX4_note_124 ?_
                have hP0 := hP
                refine tk_new hx hb hts inX0 tyX0 tyX0_ok hown (hts (.classLink RX4 178 RX0) (by decide +kernel)) (hts (.instantiable RX0 7) (by decide +kernel)) (hts (.initialized RX0) (by decide +kernel)) hK hM hS hA (ci := 3) rfl (fs := [.null, .int 0, .int 0, .int 0, .int 0, .int 0, .null]) (by decide) (Nat.le_of_ble_eq_true rfl) (Nat.le_of_ble_eq_true rfl) dX4_note_127 (fun d9 H hn9 hz9 hM hS => ?_)
                have hP := hP0.mono (fresh_mono (y := some (.inr (3, [.null, .int 0, .int 0, .int 0, .int 0, .int 0, .null]))) hn9)
                refine lv_dup hx hb dX4_note_130 rfl ?_
                refine lv_aload hx hb dX4_note_131 (lv_at hl 0 rfl) ?_
                refine lv_iload_n hx hb dX4_note_133 rfl (lv_at hl 3 rfl) ?_
                refine lv_iload_n hx hb dX4_note_134 rfl (lv_at hl 4 rfl) ?_
                refine lv_iload hx hb dX4_note_135 (lv_at hl 5 rfl) ?_
                refine tk_mIv (As := [.ref (α 1 t), .int y, .int (nI wk), .int h]) S0 (c_X0_init l A D ac dE _ (va_up_self _ _ _) (α 1 t) y (nI wk) h) (cwI 4 hts gX4_note_X0_init rfl rfl rfl (hts (.initialized RX0) (by decide +kernel)) (hts (.methodLink RX4 180 yX0_init) (by decide +kernel)) (hts (.instanceMethod yX0_init) (by decide +kernel)) rfl (by decide +kernel) ⟨Nat.le_of_ble_eq_true rfl, Nat.le_of_ble_eq_true rfl⟩) (tkX.blind) (tkX.at hM hK hA hF hO hS) rfl hl.1 rfl (Nat.le_of_ble_eq_true rfl) dX4_note_137 ⟨Nat.le_of_ble_eq_true rfl, Nat.le_of_ble_eq_true rfl⟩ hS (fun G9 H locs hG9 hM hS => ?_)
                subst hG9
                rw [va_up2] at hM
                have hP := hP0.mono (fresh_mono (y := some (.inr (3, [.ref (α 1 t), .int y, .int (nI wk), .int h, .int 110, .int 0, .null]))) hn9)
                refine tk_mVi (As := [.ref d9]) S0 (c_Jx4a65c_add_9ea2d l A D ac dE _ hP.le (by omega) ⟨3, _, _, _, _, va_up_self _ _ _, rfl, by decide⟩ (fun i hi => ⟨3, _, _, _, _, hP.e hi, rfl, by decide⟩)) (cwV 1 hts gX4_note_Jx4a65c_add_9ea2d rfl rfl rfl (by decide +kernel) ⟨Nat.le_of_ble_eq_true rfl, Nat.le_of_ble_eq_true rfl⟩) (tkX.blind) (tkX.at hM hK hA hF hO hS) (LX.rec hP.le hK hM) rfl hl.1 rfl (Nat.le_of_ble_eq_true rfl) dX4_note_140 ⟨Nat.le_of_ble_eq_true rfl, Nat.le_of_ble_eq_true rfl⟩ hS (fun r_16 G H locs hp hM hS => ?_)
                obtain ⟨rfl, hAd⟩ := hp
                obtain ⟨α, hP⟩ := hP.addE (t := t) hW hAd (va_up_self _ _ _) (fun i hi h9 => by have h8 := hP0.e hi; rw [h9, hn9] at h8; cases h8) (by omega) ht h13
                have eE9 : nE (nEntr M (nI t) y (nI wk) h) = nE M + 1 := by
                  show (st _ 0 21 (nI (nE M) + 1) 0 21).toNatClampNeg = _
                  rw [st_self, nI_1, nI_clamp (by omega)]
                refine lv_pop hx hb dX4_note_143 rfl ?_
                refine lv_aload_n hx hb dX4_note_144 rfl (lv_at hl 1 rfl) ?_
                refine tk_get hx hb hts inX4 hown hK hM hP.h rfl 1 (by decide) (hts (.fieldLink RX4 16 "TicketForge" "entryList" "Ljava/util/ArrayList;") (by decide +kernel)) (fun _ h9 => h9) rfl dX4_note_145 ?_
                refine tk_cVi (As := []) S0 (c_Jx4a65c_size_8abf5 l A D ac dE _ hP.le) (cwV 0 hts gX4_note_Jx4a65c_size_8abf5 rfl rfl rfl (by decide +kernel) ⟨Nat.le_of_ble_eq_true rfl, Nat.le_of_ble_eq_true rfl⟩) (tkX.blind) (tkX.at hM hK hA hF hO hS) (LX.rec hP.le hK hM) rfl hl.1 rfl (Nat.le_of_ble_eq_true rfl) dX4_note_148 ⟨Nat.le_of_ble_eq_true rfl, Nat.le_of_ble_eq_true rfl⟩ (fun r_17 hr_17 => ?_)
                subst hr_17
                refine lv_iconst (v := 1) hx hb dX4_note_151 (by decide) ?_
                refine lv_isub hx hb dX4_note_152 ?_
                rw [show nI (nE (nEntr M (nI t) y (nI wk) h)) - 1 = nI (nE M) from by rw [eE9]; exact nI_pred _]
                refine vx_ret ?_
                refine W.widen (k := 3) (n := 103) (Nat.le_of_ble_eq_true rfl) (Nat.le_of_ble_eq_true rfl) ?_
                have eS : K_note M (nI t) y (nI wk) h = (0, (nEntr M (nI t) y (nI wk) h), (nI (nE M))) := (by rw [K_note, if_neg (by rw [hok]; decide), if_neg (by rw [hr_2, hokw, hr_6]; decide), show tn (nI wk) = wk from nI_clamp (by omega), if_neg (by rw [hr_8]; decide), show tn (nI t) = t from nI_clamp (by omega), if_pos ⟨(Or.inl c_11), Int32.not_lt.mp c_13, c_15⟩])
                exact W.iret (v := (nI (nE M))) hx hb hr (fun t9 h9 w9 => ⟨⟨(nI (nE M)), _, rfl, (by rw [eS]; exact ⟨rfl, ⟨_, hP⟩, rfl⟩), (by show tkM A D _ _; rw [h9]; exact hM)⟩, hS.F h9⟩) hS.2.2 dX4_note_153
              · skip
                exact tk_th hst hx hb hown (by decide) (hts (.classLink RX4 66 "java/lang/IllegalStateException") (by decide +kernel)) (hts (.initialized "java/lang/IllegalStateException") (by decide +kernel)) (text := "a budget would be too small, or there are 60 entries") (by decide) (by decide) (fun w hw => hts w (List.mem_cons_of_mem _ (List.mem_append_left _ (List.mem_append_right _ hw)))) ng_70 ot_70 hF hO hS hE (hl.1.trans hml.symm) hno hlocks dX4_note_113 dX4_note_116 dX4_note_117 dX4_note_119 dX4_note_122 (Nat.le_of_ble_eq_true rfl) (Nat.le_of_ble_eq_true rfl) ⟨Nat.le_of_ble_eq_true rfl, Nat.le_of_ble_eq_true rfl⟩ ⟨Nat.le_of_ble_eq_true rfl, Nat.le_of_ble_eq_true rfl⟩ (xl (k := 4) (by rw [K_note, if_neg (by rw [hok]; decide), if_neg (by rw [hr_2, hokw, hr_6]; decide), show tn (nI wk) = wk from nI_clamp (by omega), if_neg (by rw [hr_8]; decide), show tn (nI t) = t from nI_clamp (by omega), if_neg (fun h9 => c_15 h9.2.2)]) (by decide +kernel))
          · skip
            refine lv_aload hx hb dX4_note_70 (lv_at hl 0 rfl) ?_
            refine tk_get hx hb hts inX3 hown hK hM (hP.t ht) rfl 4 (by decide) (hts (.fieldLink RX4 71 "TicketForge$Task" "state" "C") (by decide +kernel)) (fun _ h9 => h9) rfl dX4_note_72 ?_
            refine lv_bipush (v := 114) hx hb dX4_note_75 (by decide) ?_
            refine lv_icmp_eq (tgt := 90) hx hb dX4_note_77 (by decide) (fun c_18 => ?_) (fun c_18 => ?_)
            · skip
              refine lv_iload hx hb dX4_note_90 (lv_at hl 5 rfl) ?_
              refine lv_aload_n hx hb dX4_note_92 rfl (lv_at hl 1 rfl) ?_
              refine lv_aload hx hb dX4_note_93 (lv_at hl 0 rfl) ?_
              refine tk_cVi (As := [.ref (α 1 t)]) S0 (c_X4_roomOf l A D ac dE _ hP hW t ht) (cwV 1 hts gX4_note_X4_roomOf rfl rfl rfl (by decide +kernel) ⟨Nat.le_of_ble_eq_true rfl, Nat.le_of_ble_eq_true rfl⟩) (tkX.blind) (tkX.at hM hK hA hF hO hS) (tk_recv hK hM hP.h rfl) rfl hl.1 rfl (Nat.le_of_ble_eq_true rfl) dX4_note_95 ⟨Nat.le_of_ble_eq_true rfl, Nat.le_of_ble_eq_true rfl⟩ (fun r_19 hr_19 => ?_)
              subst hr_19
              refine lv_icmp_gt (tgt := 113) hx hb dX4_note_98 (by decide) (fun c_20 => ?_) (fun c_20 => ?_)
              · skip
                exact tk_th hst hx hb hown (by decide) (hts (.classLink RX4 66 "java/lang/IllegalStateException") (by decide +kernel)) (hts (.initialized "java/lang/IllegalStateException") (by decide +kernel)) (text := "a budget would be too small, or there are 60 entries") (by decide) (by decide) (fun w hw => hts w (List.mem_cons_of_mem _ (List.mem_append_left _ (List.mem_append_right _ hw)))) ng_70 ot_70 hF hO hS hE (hl.1.trans hml.symm) hno hlocks dX4_note_113 dX4_note_116 dX4_note_117 dX4_note_119 dX4_note_122 (Nat.le_of_ble_eq_true rfl) (Nat.le_of_ble_eq_true rfl) ⟨Nat.le_of_ble_eq_true rfl, Nat.le_of_ble_eq_true rfl⟩ ⟨Nat.le_of_ble_eq_true rfl, Nat.le_of_ble_eq_true rfl⟩ (xl (k := 4) (by rw [K_note, if_neg (by rw [hok]; decide), if_neg (by rw [hr_2, hokw, hr_6]; decide), show tn (nI wk) = wk from nI_clamp (by omega), if_neg (by rw [hr_8]; decide), show tn (nI t) = t from nI_clamp (by omega), if_neg (fun h9 => absurd h9.2.1 (Int32.not_le.mpr c_20))]) (by decide +kernel))
              · skip
                refine lv_aload_n hx hb dX4_note_101 rfl (lv_at hl 1 rfl) ?_
                refine tk_get hx hb hts inX4 hown hK hM hP.h rfl 1 (by decide) (hts (.fieldLink RX4 16 "TicketForge" "entryList" "Ljava/util/ArrayList;") (by decide +kernel)) (fun _ h9 => h9) rfl dX4_note_102 ?_
                refine tk_cVi (As := []) S0 (c_Jx4a65c_size_8abf5 l A D ac dE _ hP.le) (cwV 0 hts gX4_note_Jx4a65c_size_8abf5 rfl rfl rfl (by decide +kernel) ⟨Nat.le_of_ble_eq_true rfl, Nat.le_of_ble_eq_true rfl⟩) (tkX.blind) (tkX.at hM hK hA hF hO hS) (LX.rec hP.le hK hM) rfl hl.1 rfl (Nat.le_of_ble_eq_true rfl) dX4_note_105 ⟨Nat.le_of_ble_eq_true rfl, Nat.le_of_ble_eq_true rfl⟩ (fun r_21 hr_21 => ?_)
                subst hr_21
                refine lv_bipush (v := 60) hx hb dX4_note_108 (by decide) ?_
                refine lv_icmp_lt (tgt := 123) hx hb dX4_note_110 (by decide) (fun c_22 => ?_) (fun c_22 => ?_)
                · have hn59 : nE M < 60 := (nI_ltI (by omega) (by decide)).mp c_22
                  refine lv_aload_n hx hb dX4_note_123 rfl (lv_at hl 1 rfl) ?_
                  refine tk_get hx hb hts inX4 hown hK hM hP.h rfl 1 (by decide) (hts (.fieldLink RX4 16 "TicketForge" "entryList" "Ljava/util/ArrayList;") (by decide +kernel)) (fun _ h9 => h9) rfl dX4_note_124 ?_
                  have hP0 := hP
                  refine tk_new hx hb hts inX0 tyX0 tyX0_ok hown (hts (.classLink RX4 178 RX0) (by decide +kernel)) (hts (.instantiable RX0 7) (by decide +kernel)) (hts (.initialized RX0) (by decide +kernel)) hK hM hS hA (ci := 3) rfl (fs := [.null, .int 0, .int 0, .int 0, .int 0, .int 0, .null]) (by decide) (Nat.le_of_ble_eq_true rfl) (Nat.le_of_ble_eq_true rfl) dX4_note_127 (fun d9 H hn9 hz9 hM hS => ?_)
                  have hP := hP0.mono (fresh_mono (y := some (.inr (3, [.null, .int 0, .int 0, .int 0, .int 0, .int 0, .null]))) hn9)
                  refine lv_dup hx hb dX4_note_130 rfl ?_
                  refine lv_aload hx hb dX4_note_131 (lv_at hl 0 rfl) ?_
                  refine lv_iload_n hx hb dX4_note_133 rfl (lv_at hl 3 rfl) ?_
                  refine lv_iload_n hx hb dX4_note_134 rfl (lv_at hl 4 rfl) ?_
                  refine lv_iload hx hb dX4_note_135 (lv_at hl 5 rfl) ?_
                  refine tk_mIv (As := [.ref (α 1 t), .int y, .int (nI wk), .int h]) S0 (c_X0_init l A D ac dE _ (va_up_self _ _ _) (α 1 t) y (nI wk) h) (cwI 4 hts gX4_note_X0_init rfl rfl rfl (hts (.initialized RX0) (by decide +kernel)) (hts (.methodLink RX4 180 yX0_init) (by decide +kernel)) (hts (.instanceMethod yX0_init) (by decide +kernel)) rfl (by decide +kernel) ⟨Nat.le_of_ble_eq_true rfl, Nat.le_of_ble_eq_true rfl⟩) (tkX.blind) (tkX.at hM hK hA hF hO hS) rfl hl.1 rfl (Nat.le_of_ble_eq_true rfl) dX4_note_137 ⟨Nat.le_of_ble_eq_true rfl, Nat.le_of_ble_eq_true rfl⟩ hS (fun G9 H locs hG9 hM hS => ?_)
                  subst hG9
                  rw [va_up2] at hM
                  have hP := hP0.mono (fresh_mono (y := some (.inr (3, [.ref (α 1 t), .int y, .int (nI wk), .int h, .int 110, .int 0, .null]))) hn9)
                  refine tk_mVi (As := [.ref d9]) S0 (c_Jx4a65c_add_9ea2d l A D ac dE _ hP.le (by omega) ⟨3, _, _, _, _, va_up_self _ _ _, rfl, by decide⟩ (fun i hi => ⟨3, _, _, _, _, hP.e hi, rfl, by decide⟩)) (cwV 1 hts gX4_note_Jx4a65c_add_9ea2d rfl rfl rfl (by decide +kernel) ⟨Nat.le_of_ble_eq_true rfl, Nat.le_of_ble_eq_true rfl⟩) (tkX.blind) (tkX.at hM hK hA hF hO hS) (LX.rec hP.le hK hM) rfl hl.1 rfl (Nat.le_of_ble_eq_true rfl) dX4_note_140 ⟨Nat.le_of_ble_eq_true rfl, Nat.le_of_ble_eq_true rfl⟩ hS (fun r_23 G H locs hp hM hS => ?_)
                  obtain ⟨rfl, hAd⟩ := hp
                  obtain ⟨α, hP⟩ := hP.addE (t := t) hW hAd (va_up_self _ _ _) (fun i hi h9 => by have h8 := hP0.e hi; rw [h9, hn9] at h8; cases h8) (by omega) ht h13
                  have eE9 : nE (nEntr M (nI t) y (nI wk) h) = nE M + 1 := by
                    show (st _ 0 21 (nI (nE M) + 1) 0 21).toNatClampNeg = _
                    rw [st_self, nI_1, nI_clamp (by omega)]
                  refine lv_pop hx hb dX4_note_143 rfl ?_
                  refine lv_aload_n hx hb dX4_note_144 rfl (lv_at hl 1 rfl) ?_
                  refine tk_get hx hb hts inX4 hown hK hM hP.h rfl 1 (by decide) (hts (.fieldLink RX4 16 "TicketForge" "entryList" "Ljava/util/ArrayList;") (by decide +kernel)) (fun _ h9 => h9) rfl dX4_note_145 ?_
                  refine tk_cVi (As := []) S0 (c_Jx4a65c_size_8abf5 l A D ac dE _ hP.le) (cwV 0 hts gX4_note_Jx4a65c_size_8abf5 rfl rfl rfl (by decide +kernel) ⟨Nat.le_of_ble_eq_true rfl, Nat.le_of_ble_eq_true rfl⟩) (tkX.blind) (tkX.at hM hK hA hF hO hS) (LX.rec hP.le hK hM) rfl hl.1 rfl (Nat.le_of_ble_eq_true rfl) dX4_note_148 ⟨Nat.le_of_ble_eq_true rfl, Nat.le_of_ble_eq_true rfl⟩ (fun r_24 hr_24 => ?_)
                  subst hr_24
                  refine lv_iconst (v := 1) hx hb dX4_note_151 (by decide) ?_
                  refine lv_isub hx hb dX4_note_152 ?_
                  rw [show nI (nE (nEntr M (nI t) y (nI wk) h)) - 1 = nI (nE M) from by rw [eE9]; exact nI_pred _]
                  refine vx_ret ?_
                  refine W.widen (k := 3) (n := 103) (Nat.le_of_ble_eq_true rfl) (Nat.le_of_ble_eq_true rfl) ?_
                  have eS : K_note M (nI t) y (nI wk) h = (0, (nEntr M (nI t) y (nI wk) h), (nI (nE M))) := (by rw [K_note, if_neg (by rw [hok]; decide), if_neg (by rw [hr_2, hokw, hr_6]; decide), show tn (nI wk) = wk from nI_clamp (by omega), if_neg (by rw [hr_8]; decide), show tn (nI t) = t from nI_clamp (by omega), if_pos ⟨(Or.inr c_18), Int32.not_lt.mp c_20, c_22⟩])
                  exact W.iret (v := (nI (nE M))) hx hb hr (fun t9 h9 w9 => ⟨⟨(nI (nE M)), _, rfl, (by rw [eS]; exact ⟨rfl, ⟨_, hP⟩, rfl⟩), (by show tkM A D _ _; rw [h9]; exact hM)⟩, hS.F h9⟩) hS.2.2 dX4_note_153
                · skip
                  exact tk_th hst hx hb hown (by decide) (hts (.classLink RX4 66 "java/lang/IllegalStateException") (by decide +kernel)) (hts (.initialized "java/lang/IllegalStateException") (by decide +kernel)) (text := "a budget would be too small, or there are 60 entries") (by decide) (by decide) (fun w hw => hts w (List.mem_cons_of_mem _ (List.mem_append_left _ (List.mem_append_right _ hw)))) ng_70 ot_70 hF hO hS hE (hl.1.trans hml.symm) hno hlocks dX4_note_113 dX4_note_116 dX4_note_117 dX4_note_119 dX4_note_122 (Nat.le_of_ble_eq_true rfl) (Nat.le_of_ble_eq_true rfl) ⟨Nat.le_of_ble_eq_true rfl, Nat.le_of_ble_eq_true rfl⟩ ⟨Nat.le_of_ble_eq_true rfl, Nat.le_of_ble_eq_true rfl⟩ (xl (k := 4) (by rw [K_note, if_neg (by rw [hok]; decide), if_neg (by rw [hr_2, hokw, hr_6]; decide), show tn (nI wk) = wk from nI_clamp (by omega), if_neg (by rw [hr_8]; decide), show tn (nI t) = t from nI_clamp (by omega), if_neg (fun h9 => c_22 h9.2.2)]) (by decide +kernel))
            · skip
              exact tk_th hst hx hb hown (by decide) (hts (.classLink RX4 66 "java/lang/IllegalStateException") (by decide +kernel)) (hts (.initialized "java/lang/IllegalStateException") (by decide +kernel)) (text := "the task is neither in work nor in review") (by decide) (by decide) (fun w hw => hts w (List.mem_cons_of_mem _ (List.mem_append_left _ (List.mem_append_right _ hw)))) ng_70 ot_70 hF hO hS hE (hl.1.trans hml.symm) hno hlocks dX4_note_80 dX4_note_83 dX4_note_84 dX4_note_86 dX4_note_89 (Nat.le_of_ble_eq_true rfl) (Nat.le_of_ble_eq_true rfl) ⟨Nat.le_of_ble_eq_true rfl, Nat.le_of_ble_eq_true rfl⟩ ⟨Nat.le_of_ble_eq_true rfl, Nat.le_of_ble_eq_true rfl⟩ (xl (k := 4) (by rw [K_note, if_neg (by rw [hok]; decide), if_neg (by rw [hr_2, hokw, hr_6]; decide), show tn (nI wk) = wk from nI_clamp (by omega), if_neg (by rw [hr_8]; decide), show tn (nI t) = t from nI_clamp (by omega), if_neg (fun h9 => h9.1.elim c_11 c_18)]) (by decide +kernel))
      · skip
        refine lv_if_ne (tgt := 42) hx hb dX4_note_29 (by decide) (fun c_25 => absurd c_25 (by decide)) (fun c_25 => ?_)
        exact tk_th hst hx hb hown (by decide) (hts (.classLink RX4 55 "java/lang/IllegalArgumentException") (by decide +kernel)) (hts (.initialized "java/lang/IllegalArgumentException") (by decide +kernel)) (text := "the person, the week or the hours are out of range") (by decide) (by decide) (fun w hw => hts w (List.mem_cons_of_mem _ (List.mem_append_left _ (List.mem_append_left _ (List.mem_append_left _ (List.mem_append_right _ hw)))))) ng_59 ot_59 hF hO hS hE (hl.1.trans hml.symm) hno hlocks dX4_note_32 dX4_note_35 dX4_note_36 dX4_note_38 dX4_note_41 (Nat.le_of_ble_eq_true rfl) (Nat.le_of_ble_eq_true rfl) ⟨Nat.le_of_ble_eq_true rfl, Nat.le_of_ble_eq_true rfl⟩ ⟨Nat.le_of_ble_eq_true rfl, Nat.le_of_ble_eq_true rfl⟩ (xl (k := 2) (by rw [K_note, if_neg (by rw [hok]; decide), if_pos (Or.inr (Or.inr hr_6))]) (by decide +kernel))
    · skip
      refine lv_if_eq (tgt := 32) hx hb dX4_note_18 (by decide) (fun c_26 => ?_) (fun c_26 => absurd (by decide) c_26)
      exact tk_th hst hx hb hown (by decide) (hts (.classLink RX4 55 "java/lang/IllegalArgumentException") (by decide +kernel)) (hts (.initialized "java/lang/IllegalArgumentException") (by decide +kernel)) (text := "the person, the week or the hours are out of range") (by decide) (by decide) (fun w hw => hts w (List.mem_cons_of_mem _ (List.mem_append_left _ (List.mem_append_left _ (List.mem_append_left _ (List.mem_append_right _ hw)))))) ng_59 ot_59 hF hO hS hE (hl.1.trans hml.symm) hno hlocks dX4_note_32 dX4_note_35 dX4_note_36 dX4_note_38 dX4_note_41 (Nat.le_of_ble_eq_true rfl) (Nat.le_of_ble_eq_true rfl) ⟨Nat.le_of_ble_eq_true rfl, Nat.le_of_ble_eq_true rfl⟩ ⟨Nat.le_of_ble_eq_true rfl, Nat.le_of_ble_eq_true rfl⟩ (xl (k := 2) (by rw [K_note, if_neg (by rw [hok]; decide), if_pos (Or.inr (Or.inl hr_4))]) (by decide +kernel))
  · skip
    refine lv_if_eq (tgt := 32) hx hb dX4_note_11 (by decide) (fun c_27 => ?_) (fun c_27 => absurd (by decide) c_27)
    exact tk_th hst hx hb hown (by decide) (hts (.classLink RX4 55 "java/lang/IllegalArgumentException") (by decide +kernel)) (hts (.initialized "java/lang/IllegalArgumentException") (by decide +kernel)) (text := "the person, the week or the hours are out of range") (by decide) (by decide) (fun w hw => hts w (List.mem_cons_of_mem _ (List.mem_append_left _ (List.mem_append_left _ (List.mem_append_left _ (List.mem_append_right _ hw)))))) ng_59 ot_59 hF hO hS hE (hl.1.trans hml.symm) hno hlocks dX4_note_32 dX4_note_35 dX4_note_36 dX4_note_38 dX4_note_41 (Nat.le_of_ble_eq_true rfl) (Nat.le_of_ble_eq_true rfl) ⟨Nat.le_of_ble_eq_true rfl, Nat.le_of_ble_eq_true rfl⟩ ⟨Nat.le_of_ble_eq_true rfl, Nat.le_of_ble_eq_true rfl⟩ (xl (k := 2) (by rw [K_note, if_neg (by rw [hok]; decide), if_pos (Or.inl hr_2)]) (by decide +kernel))
