/-! lists: additions -/
theorem LX.md {ac : Nat → ClassId} {dE q d n : Nat} {f : Nat → Nat} {G : TG} (h : LX ac dE q d n f G) {m2 : Int32} : LX ac dE q d n f (va_up G q (some (.inr (2, [.int m2, .ref d, .int (nI n)])))) := by
  obtain ⟨⟨mc, hq⟩, hd⟩ := h
  refine ⟨⟨m2, va_up_self _ _ _⟩, ?_⟩
  rcases hd with hd | ⟨cap, g, hd, h3⟩
  · exact Or.inl hd
  · exact Or.inr ⟨cap, g, by rw [va_up_ne _ _ (Ne.symm (gneL hq hd)), hd], h3⟩
theorem AdP.md {ac : Nat → ClassId} {dE q d n x : Nat} {f : Nat → Nat} {G G9 : TG} {y e0 : va_E} (hq : G q = some e0) (h : AdP ac dE (va_up G q (some y)) G9 q d n f x) : AdP ac dE G G9 q d n f x := by
  obtain ⟨d', h1, h2, h3⟩ := h
  refine ⟨d', h1, fun a e ha hn1 hn2 => h2 a e (by rw [va_up_ne _ _ hn1]; exact ha) hn1 hn2, ?_⟩
  rcases h3 with h3 | h3
  · exact Or.inl h3
  · refine Or.inr ?_
    by_cases c : d' = q
    · rw [c, va_up_self] at h3; cases h3
    · rw [va_up_ne _ _ c] at h3; exact h3
theorem AdP.room {ac : Nat → ClassId} {dE q d n x cap : Nat} {f : Nat → Nat} {g : Nat → Option Nat} {G : TG} {mc : Int32} (hq : G q = some (.inr (2, [.int mc, .ref d, .int (nI n)]))) (hd : G d = some (.inl (ac 3, cap, .inr (.inr (.inr (.inr g)))))) (hg : ∀ i, i < n → g i = some (f i)) (h0 : 0 < n) (hc : n < cap) (hc2 : cap ≤ 1000) : AdP ac dE G (va_up (va_up G d (some (.inl (ac 3, cap, .inr (.inr (.inr (.inr (va_up g n (some x))))))))) q (some (.inr (2, [.int mc, .ref d, .int (nI (n + 1))])))) q d n f x := by
  have hne := gneL hq hd
  refine ⟨d, ⟨⟨mc, va_up_self _ _ _⟩, Or.inr ⟨cap, _, (va_up_ne _ _ (Ne.symm hne)).trans (va_up_self _ _ _), fun i hi => ?_, by omega, hc2, by omega⟩⟩, fun a e ha h1 h2 => ?_, Or.inl ⟨rfl, h0⟩⟩
  · by_cases c : i = n
    · rw [c, va_up_self, va_up_self]
    · rw [va_up_ne _ _ c, va_up_ne _ _ c, hg i (by omega)]
  · rw [va_up_ne _ _ h1, va_up_ne _ _ h2, ha]
theorem AdP.gr {ac : Nat → ClassId} {dE q d d' n x cap : Nat} {f : Nat → Nat} {g : Nat → Option Nat} {G : TG} {mc : Int32} {y1 y2 e0 : va_E} (hq : G q = some e0) (hd : G d' = none) (hg : ∀ i, i < n → g i = some (f i)) (hc : n < cap) (hc2 : cap ≤ 1000) : AdP ac dE G (va_up (va_up (va_up (va_up G d' (some y1)) q (some y2)) d' (some (.inl (ac 3, cap, .inr (.inr (.inr (.inr (va_up g n (some x))))))))) q (some (.inr (2, [.int mc, .ref d', .int (nI (n + 1))])))) q d n f x := by
  have hne : d' ≠ q := fun e => by rw [e, hq] at hd; cases hd
  refine ⟨d', ⟨⟨mc, va_up_self _ _ _⟩, Or.inr ⟨cap, _, (va_up_ne _ _ hne).trans (va_up_self _ _ _), fun i hi => ?_, by omega, hc2, by omega⟩⟩, fun a e ha h1 h2 => ?_, Or.inr hd⟩
  · by_cases c : i = n
    · rw [c, va_up_self, va_up_self]
    · rw [va_up_ne _ _ c, va_up_ne _ _ c, hg i (by omega)]
  · rw [va_up_ne _ _ h1, va_up_ne _ _ h2, va_up_ne _ _ h1, va_up_ne _ _ h2, ha]
set_option maxHeartbeats 4000000 in
set_option maxRecDepth 100000 in
theorem c_Jx4a65c_grow_92f84 (l : Launch) (A : Nat → Prop) (D : va_G) (ac : Nat → ClassId) (dE : Nat) (G : TG) {q d n : Nat} {mc : Int32} {g : Nat → Option Nat} (hq : G q = some (.inr (2, [.int mc, .ref d, .int (nI n)]))) (hd : (n = 0 ∧ d = dE) ∨ (0 < n ∧ G d = some (.inl (ac 3, n, .inr (.inr (.inr (.inr g))))))) (hn : n ≤ 59) (hel : ∀ i, i < n → ∀ y, g i = some y → XOb G y) : Met l yJx4a65c_grow_92f84 wsJx4a65c_grow_92f84 ({ frames := 3, cells := 1, slots := 90, locals := 180 } : Room) (va_Pc [.ref q, .int (nI (n + 1))] (tkX A D ac dE G)) (va_Qq (fun r G9 => ∃ d9 : Nat, r = some d9 ∧ GrP ac G G9 q n mc g d9) (fun (G9 : TG) t => tkM A D G9 t.heap) A) 1 90 A := by
  refine Met.ofW (cc := cJx4a65c_grow_92f84) (maxL := 4) (ret := (some (.array (.object "java/lang/Object")))) (by decide) rfl ?_
  intro p e s m args below meth c s₁ B hml hv
  obtain ⟨rfl, ⟨hM, hK, hA, hF⟩, hO⟩ := hv
  have hS : va_S A s.heap s.heap [] := va_S.rf
  have hx := B.exec
  have hb := B.bytes
  have hr := B.returns
  have hts := atoms_spec (ws := wsJx4a65c_grow_92f84) B.pre
  have hown : s.vm.findClass RJx4a65c = some m.cls := findClass_of_methodNamed B.named
  have hlocks := B.notSynchronized
  have S0 : CallFix p m c cJx4a65c_grow_92f84 4 s ([.ref q, .int (nI (n + 1))] : List Value).toArray wsJx4a65c_grow_92f84 RJx4a65c := ⟨hx, hb, hml, hown, hts⟩
  have inJx4a65c : ∀ w ∈ wsJx4a65c0, w ∈ wsJx4a65c_grow_92f84 := by decide +kernel
  have hl := lv_entry ([.ref q, .int (nI (n + 1))]) (n := 4) (Nat.le_of_ble_eq_true rfl)
  rw [lg_entry_eq]
  generalize (lg_sl ([.ref q, .int (nI (n + 1))]) ++ List.replicate (4 - (lg_sl ([.ref q, .int (nI (n + 1))])).length) Slot.unset).toArray = ls at hl ⊢
  have hl : lv_has ls 4 [(0, .ref q), (1, .int (nI (n + 1)))] := hl
  rcases hd with ⟨hn0, hd0⟩ | ⟨h0, hdG⟩
  · rw [hd0] at hq
    refine lv_aload_n hx hb dJx4a65c_grow_92f84_0 rfl (lv_at hl 0 rfl) ?_
    refine tk_get hx hb hts inJx4a65c hown hK hM hq rfl 1 (by decide) (hts (.fieldLink RJx4a65c 9 "java/util/ArrayList" "elementData" "[Ljava/lang/Object;") (by decide +kernel)) (fun _ h9 => h9) rfl dJx4a65c_grow_92f84_1 ?_
    refine va_tlen (v := 0) hx hb hO.2.1 hS rfl dJx4a65c_grow_92f84_4 ?_
    refine lv_istore_n (lv' := [(2, .int 0), (0, .ref q), (1, .int (nI (n + 1)))]) hx hb dJx4a65c_grow_92f84_5 rfl hl (by decide) rfl (fun ls hl => ?_)
    refine lv_iload_n hx hb dJx4a65c_grow_92f84_6 rfl (lv_at hl 0 rfl) ?_
    refine lv_if_gt (tgt := 20) hx hb dJx4a65c_grow_92f84_7 (by decide) (fun c_1 => absurd c_1 (by decide)) (fun c_1 => ?_)
    refine lv_aload_n hx hb dJx4a65c_grow_92f84_10 rfl (lv_at hl 1 rfl) ?_
    refine tk_get hx hb hts inJx4a65c hown hK hM hq rfl 1 (by decide) (hts (.fieldLink RJx4a65c 9 "java/util/ArrayList" "elementData" "[Ljava/lang/Object;") (by decide +kernel)) (fun _ h9 => h9) rfl dJx4a65c_grow_92f84_11 ?_
    refine va_gets (v := .ref dE) hx hb hO.1 hS hown (hts (.fieldLink RJx4a65c 39 "java/util/ArrayList" "DEFAULTCAPACITY_EMPTY_ELEMENTDATA" "[Ljava/lang/Object;") (by decide +kernel)) (fun _ h9 => h9) dJx4a65c_grow_92f84_14 ?_
    refine lv_acmp_eq (rx := (some dE)) (ry := (some dE)) (tgt := 45) hx hb dJx4a65c_grow_92f84_17 (by decide) (fun c_1 => ?_) (fun c_1 => absurd rfl c_1)
    refine lv_aload_n hx hb dJx4a65c_grow_92f84_45 rfl (lv_at hl 1 rfl) ?_
    refine lv_bipush (v := 10) hx hb dJx4a65c_grow_92f84_46 (by decide) ?_
    refine lv_iload_n hx hb dJx4a65c_grow_92f84_48 rfl (lv_at hl 2 rfl) ?_
    refine va_mmax hx hb (by rw [hml]; exact hl.1.symm) hown (hts (.methodLink RJx4a65c 79 Lib.Math.max.name) (by decide +kernel)) (hts (.static Lib.Math.max.name) (by decide +kernel)) (hts (.initialized "java/lang/Math") (by decide +kernel)) (hts (.code Lib.Math.max.name Lib.Math.max.code 2 (some .int)) (by decide +kernel)) (Nat.le_of_ble_eq_true rfl) (Nat.le_of_ble_eq_true rfl) (Nat.zero_le _) (Nat.zero_le _) dJx4a65c_grow_92f84_49 ?_
    rw [show (if (10 : Int32) < nI (n + 1) then nI (n + 1) else 10) = nI 10 from by rw [hn0]; decide]
    refine tk_newq hx hb hown (hts (.classLink RJx4a65c 7 "java/lang/Object") (by decide +kernel)) hO.2.2.1 hK 3 rfl hM hS hA (n := nI 10) (N' := 10) (by decide) (by decide) (by decide) (Nat.le_of_ble_eq_true rfl) (Nat.le_of_ble_eq_true rfl) dJx4a65c_grow_92f84_52 (fun d9 H hn9 hM hS => ?_)
    have hne : q ≠ d9 := fun h9 => by rw [h9, hn9] at hq; cases hq
    have hqb := (va_up_ne G (some (.inl (ac 3, 10, .inr (.inr (.inr (.inr (fun _ => none))))))) hne).trans hq
    refine lv_dup_x1 hx hb dJx4a65c_grow_92f84_55 rfl rfl ?_
    refine tk_put (ty := (.array (.object "java/lang/Object"))) hx hb hts inJx4a65c tyJx4a65c tyJx4a65c_ok nmJx4a65c hown hK hM hS hqb rfl 1 (by decide) (hts (.fieldLink RJx4a65c 9 "java/util/ArrayList" "elementData" "[Ljava/lang/Object;") (by decide +kernel)) (fun _ h9 => h9) rfl (by decide +kernel) rfl rfl (Nat.le_of_ble_eq_true rfl) dJx4a65c_grow_92f84_56 (fun H locs hM hS => ?_)
    refine W.widen (k := 1) (n := 90) (Nat.le_of_ble_eq_true rfl) (Nat.le_of_ble_eq_true rfl) ?_
    exact W.aret (v := .ref d9) hx hb hr (Or.inr ⟨_, rfl⟩) (va_rf_or (some d9)) (fun t9 h9 w9 => ⟨⟨(some d9), _, rfl, ⟨d9, rfl, hn9, 10, _, rfl, by omega, by omega, fun i hi => by omega⟩, (by show tkM A D _ _; rw [h9]; exact hM)⟩, hS.F h9⟩) hS.2.2 dJx4a65c_grow_92f84_59
  · skip
    refine lv_aload_n hx hb dJx4a65c_grow_92f84_0 rfl (lv_at hl 0 rfl) ?_
    refine tk_get hx hb hts inJx4a65c hown hK hM hq rfl 1 (by decide) (hts (.fieldLink RJx4a65c 9 "java/util/ArrayList" "elementData" "[Ljava/lang/Object;") (by decide +kernel)) (fun _ h9 => h9) rfl dJx4a65c_grow_92f84_1 ?_
    refine tk_alen (v := (nI n)) hx hb hK hM 3 hdG rfl rfl dJx4a65c_grow_92f84_4 ?_
    refine lv_istore_n (lv' := [(2, .int (nI n)), (0, .ref q), (1, .int (nI (n + 1)))]) hx hb dJx4a65c_grow_92f84_5 rfl hl (by decide) rfl (fun ls hl => ?_)
    refine lv_iload_n hx hb dJx4a65c_grow_92f84_6 rfl (lv_at hl 0 rfl) ?_
    refine lv_if_gt (tgt := 20) hx hb dJx4a65c_grow_92f84_7 (by decide) (fun c_2 => ?_) (fun c_2 => absurd (by have := nI_lt h0 (show n < 2 ^ 31 by omega); exact this) c_2)
    refine lv_iload_n hx hb dJx4a65c_grow_92f84_20 rfl (lv_at hl 0 rfl) ?_
    refine lv_iload_n hx hb dJx4a65c_grow_92f84_21 rfl (lv_at hl 2 rfl) ?_
    refine lv_iload_n hx hb dJx4a65c_grow_92f84_22 rfl (lv_at hl 0 rfl) ?_
    refine lv_isub hx hb dJx4a65c_grow_92f84_23 ?_
    rw [sub1 n (by omega)]
    refine lv_iload_n hx hb dJx4a65c_grow_92f84_24 rfl (lv_at hl 0 rfl) ?_
    refine lv_iconst (v := 1) hx hb dJx4a65c_grow_92f84_25 (by decide) ?_
    refine lv_ishr hx hb dJx4a65c_grow_92f84_26 ?_
    rw [show nI n >>> ((1 : Int32) &&& 31) = nI (n / 2) from shr1 ⟨n, by omega⟩]
    refine tk_cSi (As := [.int (nI n), .int (nI 1), .int (nI (n / 2))]) S0 (c_J8_newLength_cabcc l A D ac dE _ n 1 (n / 2) (by omega) (by omega)) (va_cwS 3 hts gJx4a65c_grow_92f84_J8_newLength_cabcc rfl rfl rfl (by decide +kernel) ⟨Nat.le_of_ble_eq_true rfl, Nat.le_of_ble_eq_true rfl⟩) (tkX.blind) (tkX.at hM hK hA hF hO hS) rfl hl.1 rfl (Nat.le_of_ble_eq_true rfl) dJx4a65c_grow_92f84_27 ⟨Nat.le_of_ble_eq_true rfl, Nat.le_of_ble_eq_true rfl⟩ (fun r_3 hr_3 => ?_)
    obtain ⟨nl, rfl, hnl1, hnl2⟩ := hr_3
    refine lv_istore_n (lv' := [(3, .int (nI nl)), (2, .int (nI n)), (0, .ref q), (1, .int (nI (n + 1)))]) hx hb dJx4a65c_grow_92f84_30 rfl hl (by decide) rfl (fun ls hl => ?_)
    refine lv_aload_n hx hb dJx4a65c_grow_92f84_31 rfl (lv_at hl 2 rfl) ?_
    refine lv_aload_n hx hb dJx4a65c_grow_92f84_32 rfl (lv_at hl 2 rfl) ?_
    refine tk_get hx hb hts inJx4a65c hown hK hM hq rfl 1 (by decide) (hts (.fieldLink RJx4a65c 9 "java/util/ArrayList" "elementData" "[Ljava/lang/Object;") (by decide +kernel)) (fun _ h9 => h9) rfl dJx4a65c_grow_92f84_33 ?_
    refine lv_iload_n hx hb dJx4a65c_grow_92f84_36 rfl (lv_at hl 0 rfl) ?_
    refine va_callq (A1 := A) (free := A) (va_runS (As := [.ref d, .int (nI nl)]) (rest := [.ref q]) S0 (c_J7_copyOf_1904c l A D ac dE G (k := nl) hdG (by omega) (by omega) hel) (va_cwS 2 hts gJx4a65c_grow_92f84_J7_copyOf_1904c rfl rfl rfl (by decide +kernel) ⟨Nat.le_of_ble_eq_true rfl, Nat.le_of_ble_eq_true rfl⟩) ⟨fun a U g mk q => ⟨q.1, tkX.blind U g mk a q.2⟩, fun U hU hW => ⟨rfl, tkX.at hM hK hA hF hO hS U hU hW⟩⟩ rfl rfl hl.1 rfl (lv_room (Nat.le_of_ble_eq_true rfl)) dJx4a65c_grow_92f84_37 ⟨Nat.le_of_ble_eq_true rfl, Nat.le_of_ble_eq_true rfl⟩) hS (fun q _ h => h) (fun q h => h) (fun r u t H locs ht _ hp hB _ _ hS => ?_)
    rw [← ht] at hS ⊢
    obtain ⟨d9, g9, rfl, hn9, rfl, hg9⟩ := hp
    have hM : tkM A D _ t.heap := hB
    have hne : q ≠ d9 := fun h9 => by rw [h9, hn9] at hq; cases hq
    have hqb := (va_up_ne G (some (.inl (ac 3, nl, .inr (.inr (.inr (.inr g9)))))) hne).trans hq
    refine lv_dup_x1 hx hb dJx4a65c_grow_92f84_40 rfl rfl ?_
    refine tk_put (ty := (.array (.object "java/lang/Object"))) hx hb hts inJx4a65c tyJx4a65c tyJx4a65c_ok nmJx4a65c hown hK hM hS hqb rfl 1 (by decide) (hts (.fieldLink RJx4a65c 9 "java/util/ArrayList" "elementData" "[Ljava/lang/Object;") (by decide +kernel)) (fun _ h9 => h9) rfl (by decide +kernel) rfl rfl (Nat.le_of_ble_eq_true rfl) dJx4a65c_grow_92f84_41 (fun H locs hM hS => ?_)
    refine W.widen (k := 1) (n := 90) (Nat.le_of_ble_eq_true rfl) (Nat.le_of_ble_eq_true rfl) ?_
    exact W.aret (v := .ref d9) hx hb hr (Or.inr ⟨_, rfl⟩) (va_rf_or (some d9)) (fun t9 h9 w9 => ⟨⟨(some d9), _, rfl, ⟨d9, rfl, hn9, nl, _, rfl, by omega, by omega, hg9⟩, (by show tkM A D _ _; rw [h9]; exact hM)⟩, hS.F h9⟩) hS.2.2 dJx4a65c_grow_92f84_44
set_option maxHeartbeats 4000000 in
set_option maxRecDepth 100000 in
theorem c_Jx4a65c_grow_d5877 (l : Launch) (A : Nat → Prop) (D : va_G) (ac : Nat → ClassId) (dE : Nat) (G : TG) {q d n : Nat} {mc : Int32} {g : Nat → Option Nat} (hq : G q = some (.inr (2, [.int mc, .ref d, .int (nI n)]))) (hd : (n = 0 ∧ d = dE) ∨ (0 < n ∧ G d = some (.inl (ac 3, n, .inr (.inr (.inr (.inr g))))))) (hn : n ≤ 59) (hel : ∀ i, i < n → ∀ y, g i = some y → XOb G y) : Met l yJx4a65c_grow_d5877 wsJx4a65c_grow_d5877 ({ frames := 4, cells := 1, slots := 90, locals := 220 } : Room) (va_Pc [.ref q] (tkX A D ac dE G)) (va_Qq (fun r G9 => ∃ d9 : Nat, r = some d9 ∧ GrP ac G G9 q n mc g d9) (fun (G9 : TG) t => tkM A D G9 t.heap) A) 1 90 A := by
  refine Met.ofW (cc := cJx4a65c_grow_d5877) (maxL := 1) (ret := (some (.array (.object "java/lang/Object")))) (by decide) rfl ?_
  intro p e s m args below meth c s₁ B hml hv
  obtain ⟨rfl, ⟨hM, hK, hA, hF⟩, hO⟩ := hv
  have hS : va_S A s.heap s.heap [] := va_S.rf
  have hx := B.exec
  have hb := B.bytes
  have hr := B.returns
  have hts := atoms_spec (ws := wsJx4a65c_grow_d5877) B.pre
  have hown : s.vm.findClass RJx4a65c = some m.cls := findClass_of_methodNamed B.named
  have hlocks := B.notSynchronized
  have S0 : CallFix p m c cJx4a65c_grow_d5877 1 s ([.ref q] : List Value).toArray wsJx4a65c_grow_d5877 RJx4a65c := ⟨hx, hb, hml, hown, hts⟩
  have inJx4a65c : ∀ w ∈ wsJx4a65c0, w ∈ wsJx4a65c_grow_d5877 := by decide +kernel
  have hl := lv_entry ([.ref q]) (n := 1) (Nat.le_of_ble_eq_true rfl)
  rw [lg_entry_eq]
  generalize (lg_sl ([.ref q]) ++ List.replicate (1 - (lg_sl ([.ref q])).length) Slot.unset).toArray = ls at hl ⊢
  have hl : lv_has ls 1 [(0, .ref q)] := hl
  refine lv_aload_n hx hb dJx4a65c_grow_d5877_0 rfl (lv_at hl 0 rfl) ?_
  refine lv_aload_n hx hb dJx4a65c_grow_d5877_1 rfl (lv_at hl 0 rfl) ?_
  refine tk_get hx hb hts inJx4a65c hown hK hM hq rfl 2 (by decide) (hts (.fieldLink RJx4a65c 48 "java/util/ArrayList" "size" "I") (by decide +kernel)) (fun _ h9 => h9) rfl dJx4a65c_grow_d5877_2 ?_
  refine lv_iconst (v := 1) hx hb dJx4a65c_grow_d5877_5 (by decide) ?_
  refine lv_iadd hx hb dJx4a65c_grow_d5877_6 ?_
  rw [nI_1]
  refine va_callq (A1 := A) (free := A) (va_runV (As := [.int (nI (n + 1))]) (rest := []) S0 (c_Jx4a65c_grow_92f84 l A D ac dE G hq hd hn hel) (cwV 1 hts gJx4a65c_grow_d5877_Jx4a65c_grow_92f84 rfl rfl rfl (by decide +kernel) ⟨Nat.le_of_ble_eq_true rfl, Nat.le_of_ble_eq_true rfl⟩) ⟨fun a U g mk q => ⟨q.1, tkX.blind U g mk a q.2⟩, tk_recv hK hM hq rfl, fun U hU hW => ⟨rfl, tkX.at hM hK hA hF hO hS U hU hW⟩⟩ rfl rfl hl.1 rfl (lv_room (Nat.le_of_ble_eq_true rfl)) dJx4a65c_grow_d5877_7 ⟨Nat.le_of_ble_eq_true rfl, Nat.le_of_ble_eq_true rfl⟩) hS (fun q _ h => h) (fun q h => h) (fun r u t H locs ht _ hp hB _ _ hS => ?_)
  rw [← ht] at hS ⊢
  obtain ⟨d9, rfl, hg9⟩ := hp
  have hM : tkM A D _ t.heap := hB
  refine W.widen (k := 1) (n := 90) (Nat.le_of_ble_eq_true rfl) (Nat.le_of_ble_eq_true rfl) ?_
  exact W.aret (v := .ref d9) hx hb hr (Or.inr ⟨_, rfl⟩) (va_rf_or (some d9)) (fun t9 h9 w9 => ⟨⟨(some d9), _, rfl, ⟨d9, rfl, hg9⟩, (by show tkM A D _ _; rw [h9]; exact hM)⟩, hS.F h9⟩) hS.2.2 dJx4a65c_grow_d5877_10
set_option maxHeartbeats 4000000 in
set_option maxRecDepth 100000 in
theorem c_Jx4a65c_add_72be8 (l : Launch) (A : Nat → Prop) (D : va_G) (ac : Nat → ClassId) (dE : Nat) (G : TG) {q d n x : Nat} {f : Nat → Nat} (hL : LX ac dE q d n f G) (hn : n ≤ 59) (hob0 : XOb G x) (hob : ∀ i, i < n → XOb G (f i)) : Met l yJx4a65c_add_72be8 wsJx4a65c_add_72be8 ({ frames := 5, cells := 1, slots := 90, locals := 260 } : Room) (va_Pc [.ref q, .ref x, .ref d, .int (nI n)] (tkX A D ac dE G)) (va_Qv (fun G9 => AdP ac dE G G9 q d n f x) (fun (G9 : TG) t => tkM A D G9 t.heap) A) 1 90 A := by
  refine Met.ofW (cc := cJx4a65c_add_72be8) (maxL := 4) (ret := none) (by decide) rfl ?_
  intro p e s m args below meth c s₁ B hml hv
  obtain ⟨rfl, ⟨hM, hK, hA, hF⟩, hO⟩ := hv
  have hS : va_S A s.heap s.heap [] := va_S.rf
  have hx := B.exec
  have hb := B.bytes
  have hr := B.returns
  have hts := atoms_spec (ws := wsJx4a65c_add_72be8) B.pre
  have hown : s.vm.findClass RJx4a65c = some m.cls := findClass_of_methodNamed B.named
  have hlocks := B.notSynchronized
  have S0 : CallFix p m c cJx4a65c_add_72be8 4 s ([.ref q, .ref x, .ref d, .int (nI n)] : List Value).toArray wsJx4a65c_add_72be8 RJx4a65c := ⟨hx, hb, hml, hown, hts⟩
  have inJx4a65c : ∀ w ∈ wsJx4a65c0, w ∈ wsJx4a65c_add_72be8 := by decide +kernel
  have hl := lv_entry ([.ref q, .ref x, .ref d, .int (nI n)]) (n := 4) (Nat.le_of_ble_eq_true rfl)
  rw [lg_entry_eq]
  generalize (lg_sl ([.ref q, .ref x, .ref d, .int (nI n)]) ++ List.replicate (4 - (lg_sl ([.ref q, .ref x, .ref d, .int (nI n)])).length) Slot.unset).toArray = ls at hl ⊢
  have hl : lv_has ls 4 [(0, .ref q), (1, .ref x), (2, .ref d), (3, .int (nI n))] := hl
  have hxq : x ≠ q := by
    obtain ⟨ci, fs, C, T, N, g1, g2, g3⟩ := hob0
    obtain ⟨⟨mc, hq⟩, -⟩ := hL
    refine gneR g1 hq (fun h9 => ?_)
    subst h9
    cases g2
    exact absurd g3 (by decide)
  obtain ⟨⟨mc, hq⟩, ⟨hn0, hd0⟩ | ⟨cap, g0, hdG, hg, hc1, hc2, hc3⟩⟩ := hL
  · have hdq : d = dE := hd0
    rw [hd0] at hl
    refine lv_iload_n hx hb dJx4a65c_add_72be8_0 rfl (lv_at hl 3 rfl) ?_
    refine lv_aload_n hx hb dJx4a65c_add_72be8_1 rfl (lv_at hl 2 rfl) ?_
    refine va_tlen (v := 0) hx hb hO.2.1 hS rfl dJx4a65c_add_72be8_2 ?_
    refine lv_icmp_ne (tgt := 11) hx hb dJx4a65c_add_72be8_3 (by decide) (fun c_1 => absurd (show nI n = 0 by rw [hn0]; rfl) c_1) (fun c_1 => ?_)
    refine lv_aload_n hx hb dJx4a65c_add_72be8_6 rfl (lv_at hl 0 rfl) ?_
    refine va_callq (A1 := A) (free := A) (va_runV (As := []) (rest := []) S0 (c_Jx4a65c_grow_d5877 l A D ac dE G (g := (fun _ => none)) hq (Or.inl ⟨hn0, hd0⟩) hn (fun i hi => by omega)) (cwV 0 hts gJx4a65c_add_72be8_Jx4a65c_grow_d5877 rfl rfl rfl (by decide +kernel) ⟨Nat.le_of_ble_eq_true rfl, Nat.le_of_ble_eq_true rfl⟩) ⟨fun a U g mk q => ⟨q.1, tkX.blind U g mk a q.2⟩, tk_recv hK hM hq rfl, fun U hU hW => ⟨rfl, tkX.at hM hK hA hF hO hS U hU hW⟩⟩ rfl rfl hl.1 rfl (lv_room (Nat.le_of_ble_eq_true rfl)) dJx4a65c_add_72be8_7 ⟨Nat.le_of_ble_eq_true rfl, Nat.le_of_ble_eq_true rfl⟩) hS (fun q _ h => h) (fun q h => h) (fun r u t H locs ht _ hp hB _ _ hS => ?_)
    rw [← ht] at hS ⊢
    obtain ⟨d9, rfl, hn9, cap9, g9, rfl, hcap, hcap2, hg9⟩ := hp
    have hM : tkM A D _ t.heap := hB
    have hne : d9 ≠ q := fun h9 => by rw [h9, hq] at hn9; cases hn9
    have hdb : (va_up (va_up G d9 (some (.inl (ac 3, cap9, .inr (.inr (.inr (.inr g9))))))) q (some (.inr (2, [.int mc, .ref d9, .int (nI n)])))) d9 = some (.inl (ac 3, cap9, .inr (.inr (.inr (.inr g9))))) := (va_up_ne _ _ hne).trans (va_up_self _ _ _)
    have hqb : (va_up (va_up G d9 (some (.inl (ac 3, cap9, .inr (.inr (.inr (.inr g9))))))) q (some (.inr (2, [.int mc, .ref d9, .int (nI n)])))) q = some (.inr (2, [.int mc, .ref d9, .int (nI n)])) := va_up_self _ _ _
    have hxb : XOb (va_up (va_up G d9 (some (.inl (ac 3, cap9, .inr (.inr (.inr (.inr g9))))))) q (some (.inr (2, [.int mc, .ref d9, .int (nI n)])))) x := (hob0.up (fun h9 => by obtain ⟨ci, fs, C, T, N, g1, -⟩ := hob0; rw [h9, hn9] at g1; cases g1)).up hxq
    refine lv_astore_n (lv' := [(2, .ref d9), (0, .ref q), (1, .ref x), (3, .int (nI n))]) hx hb dJx4a65c_add_72be8_10 rfl hl (by decide) rfl (fun ls hl => ?_)
    refine lv_aload_n hx hb dJx4a65c_add_72be8_11 rfl (lv_at hl 0 rfl) ?_
    refine lv_iload_n hx hb dJx4a65c_add_72be8_12 rfl (lv_at hl 3 rfl) ?_
    refine lv_aload_n hx hb dJx4a65c_add_72be8_13 rfl (lv_at hl 2 rfl) ?_
    refine tk_aast hx hb hK hM hS hO hdb hxb (vp_in_nI (by omega) (by omega)) dJx4a65c_add_72be8_14 (fun H locs hM hS => ?_)
    rw [show (nI n).toNatClampNeg = n from nI_clamp (by omega)] at hM
    have hqc := (va_up_ne (va_up (va_up G d9 (some (.inl (ac 3, cap9, .inr (.inr (.inr (.inr g9))))))) q (some (.inr (2, [.int mc, .ref d9, .int (nI n)])))) (some (.inl (ac 3, cap9, .inr (.inr (.inr (.inr (va_up g9 n (some x)))))))) (Ne.symm hne)).trans hqb
    refine lv_aload_n hx hb dJx4a65c_add_72be8_15 rfl (lv_at hl 1 rfl) ?_
    refine lv_iload_n hx hb dJx4a65c_add_72be8_16 rfl (lv_at hl 3 rfl) ?_
    refine lv_iconst (v := 1) hx hb dJx4a65c_add_72be8_17 (by decide) ?_
    refine lv_iadd hx hb dJx4a65c_add_72be8_18 ?_
    rw [nI_1]
    refine tk_put (ty := .int) hx hb hts inJx4a65c tyJx4a65c tyJx4a65c_ok nmJx4a65c hown hK hM hS hqc rfl 2 (by decide) (hts (.fieldLink RJx4a65c 48 "java/util/ArrayList" "size" "I") (by decide +kernel)) (fun _ h9 => h9) rfl (by decide +kernel) rfl rfl (Nat.le_of_ble_eq_true rfl) dJx4a65c_add_72be8_19 (fun H locs hM hS => ?_)
    refine W.widen (k := 1) (n := 90) (Nat.le_of_ble_eq_true rfl) (Nat.le_of_ble_eq_true rfl) ?_
    exact W.vret hx hb hr (fun t9 h9 w9 => ⟨⟨_, rfl, AdP.gr (g := g9) hq hn9 (fun i hi => by omega) hcap (by omega), (by show tkM A D _ _; rw [h9]; exact hM)⟩, hS.F h9⟩) hS.2.2 dJx4a65c_add_72be8_22
  · skip
    refine lv_iload_n hx hb dJx4a65c_add_72be8_0 rfl (lv_at hl 3 rfl) ?_
    refine lv_aload_n hx hb dJx4a65c_add_72be8_1 rfl (lv_at hl 2 rfl) ?_
    refine tk_alen (v := (nI cap)) hx hb hK hM 3 hdG rfl rfl dJx4a65c_add_72be8_2 ?_
    refine lv_icmp_ne (tgt := 11) hx hb dJx4a65c_add_72be8_3 (by decide) (fun c_2 => ?_) (fun c_2 => ?_)
    · have hlt : n < cap := by
        rcases Nat.lt_or_ge n cap with h9 | h9
        · exact h9
        · exact absurd (by rw [Nat.le_antisymm hc1 h9]) c_2
      refine lv_aload_n hx hb dJx4a65c_add_72be8_11 rfl (lv_at hl 2 rfl) ?_
      refine lv_iload_n hx hb dJx4a65c_add_72be8_12 rfl (lv_at hl 3 rfl) ?_
      refine lv_aload_n hx hb dJx4a65c_add_72be8_13 rfl (lv_at hl 1 rfl) ?_
      refine tk_aast hx hb hK hM hS hO hdG hob0 (vp_in_nI (by omega) (by omega)) dJx4a65c_add_72be8_14 (fun H locs hM hS => ?_)
      rw [show (nI n).toNatClampNeg = n from nI_clamp (by omega)] at hM
      have hqc := (va_up_ne G (some (.inl (ac 3, cap, .inr (.inr (.inr (.inr (va_up g0 n (some x)))))))) (gneL hq hdG)).trans hq
      refine lv_aload_n hx hb dJx4a65c_add_72be8_15 rfl (lv_at hl 0 rfl) ?_
      refine lv_iload_n hx hb dJx4a65c_add_72be8_16 rfl (lv_at hl 3 rfl) ?_
      refine lv_iconst (v := 1) hx hb dJx4a65c_add_72be8_17 (by decide) ?_
      refine lv_iadd hx hb dJx4a65c_add_72be8_18 ?_
      rw [nI_1]
      refine tk_put (ty := .int) hx hb hts inJx4a65c tyJx4a65c tyJx4a65c_ok nmJx4a65c hown hK hM hS hqc rfl 2 (by decide) (hts (.fieldLink RJx4a65c 48 "java/util/ArrayList" "size" "I") (by decide +kernel)) (fun _ h9 => h9) rfl (by decide +kernel) rfl rfl (Nat.le_of_ble_eq_true rfl) dJx4a65c_add_72be8_19 (fun H locs hM hS => ?_)
      refine W.widen (k := 1) (n := 90) (Nat.le_of_ble_eq_true rfl) (Nat.le_of_ble_eq_true rfl) ?_
      exact W.vret hx hb hr (fun t9 h9 w9 => ⟨⟨_, rfl, AdP.room hq hdG hg hc3 hlt hc2, (by show tkM A D _ _; rw [h9]; exact hM)⟩, hS.F h9⟩) hS.2.2 dJx4a65c_add_72be8_22
    · obtain rfl : n = cap := (nI_eq (by omega) (by omega)).mp c_2
      refine lv_aload_n hx hb dJx4a65c_add_72be8_6 rfl (lv_at hl 0 rfl) ?_
      refine va_callq (A1 := A) (free := A) (va_runV (As := []) (rest := []) S0 (c_Jx4a65c_grow_d5877 l A D ac dE G (g := g0) hq (Or.inr ⟨hc3, hdG⟩) hn (fun i hi y hy => by rw [hg i hi] at hy; cases hy; exact hob i hi)) (cwV 0 hts gJx4a65c_add_72be8_Jx4a65c_grow_d5877 rfl rfl rfl (by decide +kernel) ⟨Nat.le_of_ble_eq_true rfl, Nat.le_of_ble_eq_true rfl⟩) ⟨fun a U g mk q => ⟨q.1, tkX.blind U g mk a q.2⟩, tk_recv hK hM hq rfl, fun U hU hW => ⟨rfl, tkX.at hM hK hA hF hO hS U hU hW⟩⟩ rfl rfl hl.1 rfl (lv_room (Nat.le_of_ble_eq_true rfl)) dJx4a65c_add_72be8_7 ⟨Nat.le_of_ble_eq_true rfl, Nat.le_of_ble_eq_true rfl⟩) hS (fun q _ h => h) (fun q h => h) (fun r u t H locs ht _ hp hB _ _ hS => ?_)
      rw [← ht] at hS ⊢
      obtain ⟨d9, rfl, hn9, cap9, g9, rfl, hcap, hcap2, hg9⟩ := hp
      have hM : tkM A D _ t.heap := hB
      have hne : d9 ≠ q := fun h9 => by rw [h9, hq] at hn9; cases hn9
      have hdb : (va_up (va_up G d9 (some (.inl (ac 3, cap9, .inr (.inr (.inr (.inr g9))))))) q (some (.inr (2, [.int mc, .ref d9, .int (nI n)])))) d9 = some (.inl (ac 3, cap9, .inr (.inr (.inr (.inr g9))))) := (va_up_ne _ _ hne).trans (va_up_self _ _ _)
      have hqb : (va_up (va_up G d9 (some (.inl (ac 3, cap9, .inr (.inr (.inr (.inr g9))))))) q (some (.inr (2, [.int mc, .ref d9, .int (nI n)])))) q = some (.inr (2, [.int mc, .ref d9, .int (nI n)])) := va_up_self _ _ _
      have hxb : XOb (va_up (va_up G d9 (some (.inl (ac 3, cap9, .inr (.inr (.inr (.inr g9))))))) q (some (.inr (2, [.int mc, .ref d9, .int (nI n)])))) x := (hob0.up (fun h9 => by obtain ⟨ci, fs, C, T, N, g1, -⟩ := hob0; rw [h9, hn9] at g1; cases g1)).up hxq
      refine lv_astore_n (lv' := [(2, .ref d9), (0, .ref q), (1, .ref x), (3, .int (nI n))]) hx hb dJx4a65c_add_72be8_10 rfl hl (by decide) rfl (fun ls hl => ?_)
      refine lv_aload_n hx hb dJx4a65c_add_72be8_11 rfl (lv_at hl 0 rfl) ?_
      refine lv_iload_n hx hb dJx4a65c_add_72be8_12 rfl (lv_at hl 3 rfl) ?_
      refine lv_aload_n hx hb dJx4a65c_add_72be8_13 rfl (lv_at hl 2 rfl) ?_
      refine tk_aast hx hb hK hM hS hO hdb hxb (vp_in_nI (by omega) (by omega)) dJx4a65c_add_72be8_14 (fun H locs hM hS => ?_)
      rw [show (nI n).toNatClampNeg = n from nI_clamp (by omega)] at hM
      have hqc := (va_up_ne (va_up (va_up G d9 (some (.inl (ac 3, cap9, .inr (.inr (.inr (.inr g9))))))) q (some (.inr (2, [.int mc, .ref d9, .int (nI n)])))) (some (.inl (ac 3, cap9, .inr (.inr (.inr (.inr (va_up g9 n (some x)))))))) (Ne.symm hne)).trans hqb
      refine lv_aload_n hx hb dJx4a65c_add_72be8_15 rfl (lv_at hl 1 rfl) ?_
      refine lv_iload_n hx hb dJx4a65c_add_72be8_16 rfl (lv_at hl 3 rfl) ?_
      refine lv_iconst (v := 1) hx hb dJx4a65c_add_72be8_17 (by decide) ?_
      refine lv_iadd hx hb dJx4a65c_add_72be8_18 ?_
      rw [nI_1]
      refine tk_put (ty := .int) hx hb hts inJx4a65c tyJx4a65c tyJx4a65c_ok nmJx4a65c hown hK hM hS hqc rfl 2 (by decide) (hts (.fieldLink RJx4a65c 48 "java/util/ArrayList" "size" "I") (by decide +kernel)) (fun _ h9 => h9) rfl (by decide +kernel) rfl rfl (Nat.le_of_ble_eq_true rfl) dJx4a65c_add_72be8_19 (fun H locs hM hS => ?_)
      refine W.widen (k := 1) (n := 90) (Nat.le_of_ble_eq_true rfl) (Nat.le_of_ble_eq_true rfl) ?_
      exact W.vret hx hb hr (fun t9 h9 w9 => ⟨⟨_, rfl, AdP.gr (g := g9) hq hn9 (fun i hi => (hg9 i hi).trans (hg i hi)) hcap (by omega), (by show tkM A D _ _; rw [h9]; exact hM)⟩, hS.F h9⟩) hS.2.2 dJx4a65c_add_72be8_22
set_option maxHeartbeats 4000000 in
set_option maxRecDepth 100000 in
theorem c_Jx4a65c_add_9ea2d (l : Launch) (A : Nat → Prop) (D : va_G) (ac : Nat → ClassId) (dE : Nat) (G : TG) {q d n x : Nat} {f : Nat → Nat} (hL : LX ac dE q d n f G) (hn : n ≤ 59) (hob0 : XOb G x) (hob : ∀ i, i < n → XOb G (f i)) : Met l yJx4a65c_add_9ea2d wsJx4a65c_add_9ea2d ({ frames := 6, cells := 1, slots := 90, locals := 300 } : Room) (va_Pc [.ref q, .ref x] (tkX A D ac dE G)) (va_Qi (fun z G9 => z = 1 ∧ AdP ac dE G G9 q d n f x) (fun (G9 : TG) t => tkM A D G9 t.heap) A) 1 90 A := by
  refine Met.ofW (cc := cJx4a65c_add_9ea2d) (maxL := 2) (ret := (some .boolean)) (by decide) rfl ?_
  intro p e s m args below meth c s₁ B hml hv
  obtain ⟨rfl, ⟨hM, hK, hA, hF⟩, hO⟩ := hv
  have hS : va_S A s.heap s.heap [] := va_S.rf
  have hx := B.exec
  have hb := B.bytes
  have hr := B.returns
  have hts := atoms_spec (ws := wsJx4a65c_add_9ea2d) B.pre
  have hown : s.vm.findClass RJx4a65c = some m.cls := findClass_of_methodNamed B.named
  have hlocks := B.notSynchronized
  have S0 : CallFix p m c cJx4a65c_add_9ea2d 2 s ([.ref q, .ref x] : List Value).toArray wsJx4a65c_add_9ea2d RJx4a65c := ⟨hx, hb, hml, hown, hts⟩
  have inJx4a65c : ∀ w ∈ wsJx4a65c0, w ∈ wsJx4a65c_add_9ea2d := by decide +kernel
  have hl := lv_entry ([.ref q, .ref x]) (n := 2) (Nat.le_of_ble_eq_true rfl)
  rw [lg_entry_eq]
  generalize (lg_sl ([.ref q, .ref x]) ++ List.replicate (2 - (lg_sl ([.ref q, .ref x])).length) Slot.unset).toArray = ls at hl ⊢
  have hl : lv_has ls 2 [(0, .ref q), (1, .ref x)] := hl
  have hL0 := hL
  obtain ⟨⟨mc, hq⟩, hd⟩ := hL
  refine lv_aload_n hx hb dJx4a65c_add_9ea2d_0 rfl (lv_at hl 0 rfl) ?_
  refine lv_dup hx hb dJx4a65c_add_9ea2d_1 rfl ?_
  refine tk_get hx hb hts inJx4a65c hown hK hM hq rfl 0 (by decide) (hts (.fieldLink RJx4a65c 63 "java/util/ArrayList" "modCount" "I") (by decide +kernel)) (u_same (hts (.sameField "java/util/ArrayList" "java/util/AbstractList" "modCount" "I") (by decide +kernel))) rfl dJx4a65c_add_9ea2d_2 ?_
  refine lv_iconst (v := 1) hx hb dJx4a65c_add_9ea2d_5 (by decide) ?_
  refine lv_iadd hx hb dJx4a65c_add_9ea2d_6 ?_
  refine tk_put (ty := .int) hx hb hts inJx4a65c tyJx4a65c tyJx4a65c_ok nmJx4a65c hown hK hM hS hq rfl 0 (by decide) (hts (.fieldLink RJx4a65c 63 "java/util/ArrayList" "modCount" "I") (by decide +kernel)) (u_same (hts (.sameField "java/util/ArrayList" "java/util/AbstractList" "modCount" "I") (by decide +kernel))) rfl (by decide +kernel) rfl rfl (Nat.le_of_ble_eq_true rfl) dJx4a65c_add_9ea2d_7 (fun H locs hM hS => ?_)
  have hL1 := hL0.md (m2 := mc + 1)
  have hqb : (va_up G q (some (.inr (2, [.int (mc + 1), .ref d, .int (nI n)])))) q = _ := va_up_self _ _ _
  have hxq : x ≠ q := by
    obtain ⟨ci, fs, C, T, N, g1, g2, g3⟩ := hob0
    refine gneR g1 hq (fun h9 => ?_)
    subst h9
    cases g2
    exact absurd g3 (by decide)
  refine lv_aload_n hx hb dJx4a65c_add_9ea2d_10 rfl (lv_at hl 0 rfl) ?_
  refine lv_aload_n hx hb dJx4a65c_add_9ea2d_11 rfl (lv_at hl 1 rfl) ?_
  refine lv_aload_n hx hb dJx4a65c_add_9ea2d_12 rfl (lv_at hl 0 rfl) ?_
  refine tk_get hx hb hts inJx4a65c hown hK hM hqb rfl 1 (by decide) (hts (.fieldLink RJx4a65c 9 "java/util/ArrayList" "elementData" "[Ljava/lang/Object;") (by decide +kernel)) (fun _ h9 => h9) rfl dJx4a65c_add_9ea2d_13 ?_
  refine lv_aload_n hx hb dJx4a65c_add_9ea2d_16 rfl (lv_at hl 0 rfl) ?_
  refine tk_get hx hb hts inJx4a65c hown hK hM hqb rfl 2 (by decide) (hts (.fieldLink RJx4a65c 48 "java/util/ArrayList" "size" "I") (by decide +kernel)) (fun _ h9 => h9) rfl dJx4a65c_add_9ea2d_17 ?_
  refine va_callv (A1 := A) (free := A) (va_runV (As := [.ref x, .ref d, .int (nI n)]) (rest := []) S0 (c_Jx4a65c_add_72be8 l A D ac dE _ hL1 hn (hob0.up hxq) (fun i hi => (hob i hi).up (fun h9 => by obtain ⟨ci, fs, C, T, N, g1, g2, g3⟩ := hob i hi; rw [h9, hq] at g1; cases g1; cases g2; exact absurd g3 (by decide)))) (cwV 3 hts gJx4a65c_add_9ea2d_Jx4a65c_add_72be8 rfl rfl rfl (by decide +kernel) ⟨Nat.le_of_ble_eq_true rfl, Nat.le_of_ble_eq_true rfl⟩) ⟨fun a U g mk q => ⟨q.1, tkX.blind U g mk a q.2⟩, tk_recv hK hM hqb rfl, fun U hU hW => ⟨rfl, tkX.at hM hK hA hF hO hS U hU hW⟩⟩ rfl rfl hl.1 rfl (lv_room (Nat.le_of_ble_eq_true rfl)) dJx4a65c_add_9ea2d_20 ⟨Nat.le_of_ble_eq_true rfl, Nat.le_of_ble_eq_true rfl⟩) hS (fun q _ h => h) (fun q h => h) (fun u t H locs ht _ hp hB _ _ hS => ?_)
  rw [← ht] at hS ⊢
  have hM : tkM A D _ t.heap := hB
  refine lv_iconst (v := 1) hx hb dJx4a65c_add_9ea2d_23 (by decide) ?_
  refine W.widen (k := 1) (n := 90) (Nat.le_of_ble_eq_true rfl) (Nat.le_of_ble_eq_true rfl) ?_
  exact W.zret (v := 1) hx hb hr rfl (fun t9 h9 w9 => ⟨⟨1, _, rfl, ⟨rfl, AdP.md hq hp⟩, (by show tkM A D _ _; rw [h9]; exact hM)⟩, hS.F h9⟩) hS.2.2 dJx4a65c_add_9ea2d_24
