/-! the reader's words, as String constants; the JDK's own methods that it asks -/
def ZqF (A : Nat → Prop) (U : State) (H : Heap) : Prop := va_Zq "jdk/internal/util/Preconditions" "SIOOBE_FORMATTER" "Ljava/util/function/BiFunction;" A U H
def ZcS (A : Nat → Prop) (U : State) (H : Heap) : Prop := va_Z "java/lang/String" "COMPACT_STRINGS" "Z" (.int 1) A U H
def SK (adK adV : Nat → Nat) (A : Nat → Prop) (U : State) (H : Heap) : Prop := vk_S 4 lenS bytS adK adV A U H ∧ ZcS A U H ∧ ZqF A U H ∧ vk_R RX4 64 "works" (adK 0) U ∧ vk_R RX4 73 "station" (adK 1) U ∧ vk_R RX4 78 "loop" (adK 2) U ∧ vk_R RX4 83 "run" (adK 3) U
theorem SK.warm {adK adV : Nat → Nat} {A : Nat → Prop} {s U : State} {H : Heap} (hW : s.WarmedH U.vm) (h : SK adK adV A s H) : SK adK adV A U H :=
  ⟨h.1.moved hW.alike, va_Z.moved hW.alike h.2.1, va_Zq.moved hW.alike h.2.2.1, h.2.2.2.1.warm hW, h.2.2.2.2.1.warm hW, h.2.2.2.2.2.1.warm hW, h.2.2.2.2.2.2.warm hW⟩
theorem SK.same {adK adV : Nat → Nat} {A : Nat → Prop} {s U : State} {H : Heap} (hv : s.vm = U.vm) (h : SK adK adV A s H) : SK adK adV A U H := by
  have ha : s.vm.Alike U.vm := hv ▸ Vm.Alike.refl s.vm
  exact ⟨h.1.moved ha, va_Z.moved ha h.2.1, va_Zq.moved ha h.2.2.1, vk_R.same hv.symm h.2.2.2.1, vk_R.same hv.symm h.2.2.2.2.1, vk_R.same hv.symm h.2.2.2.2.2.1, vk_R.same hv.symm h.2.2.2.2.2.2⟩
theorem SK.kept {adK adV : Nat → Nat} {A : Nat → Prop} {U : State} {H H1 : Heap} (hq : ∀ a : Nat, a < H.size → ¬ A a → H1[a]? = H[a]?) (h : SK adK adV A U H) : SK adK adV A U H1 :=
  ⟨h.1.kept hq, va_Z.kept h.2.1 hq, va_Zq.kept h.2.2.1 hq, h.2.2.2⟩
theorem SK.narrow {adK adV : Nat → Nat} {A B : Nat → Prop} {U : State} {H : Heap} (hAB : ∀ q, B q → A q) (h : SK adK adV A U H) : SK adK adV B U H :=
  ⟨h.1.narrow hAB, va_Z.narrow h.2.1 hAB, va_Zq.narrow h.2.2.1 hAB, h.2.2.2⟩
/-- the words' own facts alone: a String, its bytes -/
def S1 (a t n : Nat) (f : Nat → Int32) (U : State) (H : Heap) : Prop := va_O "java/lang/String" a (fun _ => False) U H ∧ va_OF "java/lang/String" "coder" "B" (.int 0) a (fun _ => False) U H ∧ va_OF "java/lang/String" "value" "[B" (.ref t) a (fun _ => False) U H ∧ va_T .byte t n (fun j => .int (f j)) (fun _ => False) U H ∧ ZcS (fun _ => False) U H ∧ ZqF (fun _ => False) U H
theorem S1.moved {a t n : Nat} {f : Nat → Int32} {u U : State} {H : Heap} (hv : u.vm.Alike U.vm) (h : S1 a t n f u H) : S1 a t n f U H := ⟨va_O.moved hv h.1, va_OF.moved hv h.2.1, va_OF.moved hv h.2.2.1, va_T.moved hv h.2.2.2.1, va_Z.moved hv h.2.2.2.2.1, va_Zq.moved hv h.2.2.2.2.2⟩
def pcS (D : va_G) (K : Nat → ClassId) (av : List Value) (B : State → Heap → Prop) : Array Value → State → Prop := va_Pc av (fun U => gK D K U ∧ B U U.heap)
theorem pcS_blind {D : va_G} {K : Nat → ClassId} {av : List Value} {B : State → Heap → Prop} (hB : ∀ (u U : State) (H : Heap), u.vm.Alike U.vm → B u H → B U H) : FrameBlind (pcS D K av B) := fun a U g mk q => ⟨q.1, gK.same rfl q.2.1, hB U (U.calling g mk a) U.heap (Vm.Alike.refl U.vm) q.2.2⟩
theorem pcS_of {D : va_G} {K : Nat → ClassId} {av : List Value} {B : State → Heap → Prop} (hB : ∀ (u U : State) (H : Heap), u.vm.Alike U.vm → B u H → B U H) {s : State} {H : Heap} (hK : gK D K s) (h : B s H) : ∀ U : State, U.heap = H → s.WarmedH U.vm → pcS D K av B av.toArray U := fun U hU hW => ⟨rfl, gK.warm hW hK, by rw [hU]; exact hB s U H hW.alike h⟩
section JS
set_option maxHeartbeats 1000000 in
set_option maxRecDepth 10000 in
theorem ctJ3 (l : Launch) (D : va_G) (K : Nat → ClassId) (p0 p1 : Int32) (r : Option Nat) (h0 : ¬ p0 < 0) (h1 : p0 < p1) : Met l yJ3_checkIndex_8e157 (Cond.code yJ3_checkIndex_8e157 cJ3_checkIndex_8e157 3 (some .int) :: wsL_law0) { frames := 0, cells := 0, slots := 0, locals := 0 } (pcR D K [.int p0, .int p1, va_rf r] []) (vp_Si (fun x => x = p0)) 0 0 (fun _ => False) := by
  refine Met.ofW (cc := cJ3_checkIndex_8e157) (maxL := 3) (ret := (some .int)) (by decide) rfl ?_
  intro p e s m args below meth c s₁ B hml hv
  obtain ⟨rfl, hP, hK⟩ := hv
  have C0 : cx p s m _ meth c cJ3_checkIndex_8e157 3 RJ3 (Cond.code yJ3_checkIndex_8e157 cJ3_checkIndex_8e157 3 (some .int) :: wsL_law0) (some .int) D K := ⟨⟨B.exec, B.bytes, hml, findClass_of_methodNamed B.named, atoms_spec (ws := (Cond.code yJ3_checkIndex_8e157 cJ3_checkIndex_8e157 3 (some .int) :: wsL_law0)) B.pre⟩, B.returns, B.notSynchronized, hK⟩
  have key : ∀ ls : Array Slot, lv_has ls 3 [(0, .int p0), (1, .int p1)] → W p l e { frames := 0, cells := 0, slots := 0, locals := 0 } s m ([.int p0, .int p1, va_rf r] : List Value).toArray below meth c s.heap [] 0 0 (MQ below (vp_Si (fun x => x = p0)) ([.int p0, .int p1, va_rf r] : List Value).toArray s 0 0 (fun _ => False)) (F0 m 0 ls []) := by
    intro ls hl
    refine r_iload_n C0 dJ3_checkIndex_8e157_0 hl 0 rfl ?_
    refine lv_if_lt C0.1.1 C0.1.2.1 (tgt := 9) dJ3_checkIndex_8e157_1 (by decide) (fun c => absurd c h0) (fun c => ?_)
    refine r_iload_n C0 dJ3_checkIndex_8e157_4 hl 0 rfl ?_
    refine r_iload_n C0 dJ3_checkIndex_8e157_5 hl 1 rfl ?_
    refine lv_icmp_lt C0.1.1 C0.1.2.1 (tgt := 16) dJ3_checkIndex_8e157_6 (by decide) (fun c => ?_) (fun c => absurd h1 c)
    refine r_iload_n C0 dJ3_checkIndex_8e157_16 hl 0 rfl ?_
    exact r_iretR C0 rfl dJ3_checkIndex_8e157_17
  cases r with
  | none =>
    have hl := lv_entry ([.int p0, .int p1, .null]) (n := 3) (Nat.le_of_ble_eq_true rfl)
    rw [lg_entry_eq]
    exact key _ (lv_sub hl [0, 1] rfl)
  | some t =>
    have hl := lv_entry ([.int p0, .int p1, .ref t]) (n := 3) (Nat.le_of_ble_eq_true rfl)
    rw [lg_entry_eq]
    exact key _ (lv_sub hl [0, 1] rfl)
theorem ZqF_al : ∀ (u U : State) (H : Heap), u.vm.Alike U.vm → ZqF (fun _ => False) u H → ZqF (fun _ => False) U H := fun _ _ _ hv h => va_Zq.moved hv h
set_option maxHeartbeats 1000000 in
set_option maxRecDepth 10000 in
theorem ctJ0ci (l : Launch) (D : va_G) (K : Nat → ClassId) (p0 p1 : Int32) (h0 : ¬ p0 < 0) (h1 : p0 < p1) : Met l yJ0_checkIndex_df160 (Cond.code yJ0_checkIndex_df160 cJ0_checkIndex_df160 2 none :: wsL_law0) { frames := 1, cells := 0, slots := 0, locals := 22 } (pcS D K [.int p0, .int p1] (ZqF (fun _ => False))) (va_Sv (fun _ => True)) 0 0 (fun _ => False) := by
  refine Met.ofW (cc := cJ0_checkIndex_df160) (maxL := 2) (ret := none) (by decide) rfl ?_
  intro p e s m args below meth c s₁ B hml hv
  obtain ⟨rfl, hK, hZ⟩ := hv
  have C0 : cx p s m _ meth c cJ0_checkIndex_df160 2 RJ0 (Cond.code yJ0_checkIndex_df160 cJ0_checkIndex_df160 2 none :: wsL_law0) none D K := ⟨⟨B.exec, B.bytes, hml, findClass_of_methodNamed B.named, atoms_spec (ws := (Cond.code yJ0_checkIndex_df160 cJ0_checkIndex_df160 2 none :: wsL_law0)) B.pre⟩, B.returns, B.notSynchronized, hK⟩
  have hl := lv_entry ([.int p0, .int p1]) (n := 2) (Nat.le_of_ble_eq_true rfl)
  rw [lg_entry_eq]
  generalize (lg_sl ([.int p0, .int p1]) ++ List.replicate (2 - (lg_sl ([.int p0, .int p1])).length) Slot.unset).toArray = ls at hl ⊢
  have hl : lv_has ls 2 [(0, .int p0), (1, .int p1)] := hl
  refine r_iload_n C0 dJ0_checkIndex_df160_0 hl 0 rfl ?_
  refine r_iload_n C0 dJ0_checkIndex_df160_1 hl 1 rfl ?_
  have hPc : va_P D vwCl [] s.heap := va_P_nil
  have key : ∀ r : Option Nat, W p l e { frames := 1, cells := 0, slots := 0, locals := 22 } s m ([.int p0, .int p1] : List Value).toArray below meth c s.heap [] 0 0 (MQ below (va_Sv (fun _ => True)) ([.int p0, .int p1] : List Value).toArray s 0 0 (fun _ => False)) (F0 m 5 ls [va_rf r, .int p1, .int p0]) := by
    intro r
    refine r_cI (va_runS (As := [.int p0, .int p1, va_rf r]) (rest := []) C0.1 (ctJ3 l D K p0 p1 r h0 h1) (va_cwS 3 C0.1.2.2.2.2 (gdS wd9_18 wd9_19 wd9_20 wd9_21) rfl rfl rfl (by decide +kernel) ⟨Nat.le_of_ble_eq_true rfl, Nat.le_of_ble_eq_true rfl⟩) ⟨pcR_blind, pcR_of hPc C0.2.2.2⟩ rfl rfl hl.1 rfl (lv_room (Nat.le_of_ble_eq_true rfl)) dJ0_checkIndex_df160_5 ⟨Nat.zero_le _, Nat.zero_le _⟩).run ?_
    refine r_pop C0 dJ0_checkIndex_df160_8 rfl ?_
    exact W.vret C0.1.1 C0.1.2.1 C0.2.1 (fun t ht _ => ⟨rfl, trivial, ht⟩) (fun _ h => by cases h) dJ0_checkIndex_df160_9 C0.2.2.1
  rcases hZ with hZ | ⟨t, hZ⟩
  · exact va_gets C0.1.1 C0.1.2.1 hZ va_S.rf C0.1.2.2.2.1 (C0.1.2.2.2.2 _ (mc wd9_17)) (fun _ h9 => h9) dJ0_checkIndex_df160_2 (key none)
  · exact va_gets C0.1.1 C0.1.2.1 hZ va_S.rf C0.1.2.2.2.1 (C0.1.2.2.2.2 _ (mc wd9_17)) (fun _ h9 => h9) dJ0_checkIndex_df160_2 (key (some t))
theorem TZ_al {t n : Nat} {f : Nat → Int32} : ∀ (u U : State) (H : Heap), u.vm.Alike U.vm → (va_T .byte t n (fun j => .int (f j)) (fun _ => False) u H ∧ ZqF (fun _ => False) u H) → (va_T .byte t n (fun j => .int (f j)) (fun _ => False) U H ∧ ZqF (fun _ => False) U H) := fun _ _ _ hv h => ⟨va_T.moved hv h.1, va_Zq.moved hv h.2⟩
set_option maxHeartbeats 1000000 in
set_option maxRecDepth 10000 in
theorem ctJ1ca (l : Launch) (D : va_G) (K : Nat → ClassId) (t n : Nat) (f : Nat → Int32) (p1 : Int32) (h0 : ¬ p1 < 0) (h1 : p1 < Int32.ofNat n) (hin : vp_in p1 n) : Met l yJ1_charAt_3b067 (Cond.code yJ1_charAt_3b067 cJ1_charAt_3b067 2 (some .char) :: wsL_law0) { frames := 2, cells := 0, slots := 0, locals := 43 } (pcS D K [.ref t, .int p1] (fun U H => va_T .byte t n (fun j => .int (f j)) (fun _ => False) U H ∧ ZqF (fun _ => False) U H)) (vp_Si (fun x => x = f p1.toNatClampNeg &&& 255)) 0 0 (fun _ => False) := by
  refine Met.ofW (cc := cJ1_charAt_3b067) (maxL := 2) (ret := (some .char)) (by decide) rfl ?_
  intro p e s m args below meth c s₁ B hml hv
  obtain ⟨rfl, hK, hT, hZ⟩ := hv
  have C0 : cx p s m _ meth c cJ1_charAt_3b067 2 RJ1 (Cond.code yJ1_charAt_3b067 cJ1_charAt_3b067 2 (some .char) :: wsL_law0) (some .char) D K := ⟨⟨B.exec, B.bytes, hml, findClass_of_methodNamed B.named, atoms_spec (ws := (Cond.code yJ1_charAt_3b067 cJ1_charAt_3b067 2 (some .char) :: wsL_law0)) B.pre⟩, B.returns, B.notSynchronized, hK⟩
  have hl := lv_entry ([.ref t, .int p1]) (n := 2) (Nat.le_of_ble_eq_true rfl)
  rw [lg_entry_eq]
  generalize (lg_sl ([.ref t, .int p1]) ++ List.replicate (2 - (lg_sl ([.ref t, .int p1])).length) Slot.unset).toArray = ls at hl ⊢
  have hl : lv_has ls 2 [(0, .ref t), (1, .int p1)] := hl
  refine r_iload_n C0 dJ1_charAt_3b067_0 hl 1 rfl ?_
  refine r_aload_n C0 dJ1_charAt_3b067_1 hl 0 rfl ?_
  refine va_tlen C0.1.1 C0.1.2.1 hT va_S.rf rfl dJ1_charAt_3b067_2 ?_
  refine va_csv (va_runS (As := [.int p1, .int (Int32.ofNat n)]) (rest := []) C0.1 (ctJ0ci l D K p1 (Int32.ofNat n) h0 h1) (va_cwS 2 C0.1.2.2.2.2 (gdS wd9_14 wd9_15 wd8_17 wd9_16) rfl rfl rfl (by decide +kernel) ⟨Nat.le_of_ble_eq_true rfl, Nat.le_of_ble_eq_true rfl⟩) ⟨pcS_blind ZqF_al, pcS_of ZqF_al C0.2.2.2 hZ⟩ rfl rfl hl.1 rfl (lv_room (Nat.le_of_ble_eq_true rfl)) dJ1_charAt_3b067_3 ⟨Nat.zero_le _, Nat.zero_le _⟩).run (fun _ => ?_)
  refine r_aload_n C0 dJ1_charAt_3b067_6 hl 0 rfl ?_
  refine r_iload_n C0 dJ1_charAt_3b067_7 hl 1 rfl ?_
  refine va_tb C0.1.1 C0.1.2.1 hT va_S.rf hin rfl dJ1_charAt_3b067_8 ?_
  refine r_sipush C0 255 dJ1_charAt_3b067_9 (by decide) ?_
  refine r_iand C0 dJ1_charAt_3b067_12 ?_
  refine lv_i2c C0.1.1 C0.1.2.1 dJ1_charAt_3b067_13 (sc_c2 _) ?_
  exact W.zret C0.1.1 C0.1.2.1 C0.2.1 (sc_nar _) (fun t ht _ => ⟨_, rfl, rfl, ht⟩) (fun _ h => by cases h) dJ1_charAt_3b067_14 C0.2.2.1
set_option maxHeartbeats 1000000 in
set_option maxRecDepth 10000 in
theorem ctJ0coder (l : Launch) (D : va_G) (K : Nat → ClassId) (a t n : Nat) (f : Nat → Int32) : Met l yJ0_coder_7d493 (Cond.code yJ0_coder_7d493 cJ0_coder_7d493 1 (some .byte) :: wsL_law0) { frames := 0, cells := 0, slots := 0, locals := 0 } (pcS D K [.ref a] (S1 a t n f)) (vp_Si (fun x => x = 0)) 0 0 (fun _ => False) := by
  refine Met.ofW (cc := cJ0_coder_7d493) (maxL := 1) (ret := (some .byte)) (by decide) rfl ?_
  intro p e s m args below meth c s₁ B hml hv
  obtain ⟨rfl, hK, hO, hco, hva, hT, hZ, hZq⟩ := hv
  have C0 : cx p s m _ meth c cJ0_coder_7d493 1 RJ0 (Cond.code yJ0_coder_7d493 cJ0_coder_7d493 1 (some .byte) :: wsL_law0) (some .byte) D K := ⟨⟨B.exec, B.bytes, hml, findClass_of_methodNamed B.named, atoms_spec (ws := (Cond.code yJ0_coder_7d493 cJ0_coder_7d493 1 (some .byte) :: wsL_law0)) B.pre⟩, B.returns, B.notSynchronized, hK⟩
  have hl := lv_entry ([.ref a]) (n := 1) (Nat.le_of_ble_eq_true rfl)
  rw [lg_entry_eq]
  generalize (lg_sl ([.ref a]) ++ List.replicate (1 - (lg_sl ([.ref a])).length) Slot.unset).toArray = ls at hl ⊢
  have hl : lv_has ls 1 [(0, .ref a)] := hl
  refine va_gets C0.1.1 C0.1.2.1 hZ va_S.rf C0.1.2.2.2.1 (C0.1.2.2.2.2 _ (mc wd9_0)) (fun _ h9 => h9) dJ0_coder_7d493_0 ?_
  refine lv_if_eq C0.1.1 C0.1.2.1 (tgt := 13) dJ0_coder_7d493_3 (by decide) (fun c => absurd c (by decide)) (fun c => ?_)
  refine r_aload_n C0 dJ0_coder_7d493_6 hl 0 rfl ?_
  refine vk_getf C0.1.1 C0.1.2.1 hco va_S.rf C0.1.2.2.2.1 (C0.1.2.2.2.2 _ (mc wd9_1)) (fun _ h9 => h9) dJ0_coder_7d493_7 ?_
  refine r_goto C0 14 dJ0_coder_7d493_10 (by decide) ?_
  exact W.zret C0.1.1 C0.1.2.1 C0.2.1 rfl (fun t ht _ => ⟨_, rfl, rfl, ht⟩) (fun _ h => by cases h) dJ0_coder_7d493_14 C0.2.2.1
set_option maxHeartbeats 1000000 in
set_option maxRecDepth 10000 in
theorem ctJ0lat (l : Launch) (D : va_G) (K : Nat → ClassId) (a t n : Nat) (f : Nat → Int32) : Met l yJ0_isLatin1_aae02 (Cond.code yJ0_isLatin1_aae02 cJ0_isLatin1_aae02 1 (some .boolean) :: wsL_law0) { frames := 0, cells := 0, slots := 0, locals := 0 } (pcS D K [.ref a] (S1 a t n f)) (vp_Si (fun x => x = 1)) 0 0 (fun _ => False) := by
  refine Met.ofW (cc := cJ0_isLatin1_aae02) (maxL := 1) (ret := (some .boolean)) (by decide) rfl ?_
  intro p e s m args below meth c s₁ B hml hv
  obtain ⟨rfl, hK, hO, hco, hva, hT, hZ, hZq⟩ := hv
  have C0 : cx p s m _ meth c cJ0_isLatin1_aae02 1 RJ0 (Cond.code yJ0_isLatin1_aae02 cJ0_isLatin1_aae02 1 (some .boolean) :: wsL_law0) (some .boolean) D K := ⟨⟨B.exec, B.bytes, hml, findClass_of_methodNamed B.named, atoms_spec (ws := (Cond.code yJ0_isLatin1_aae02 cJ0_isLatin1_aae02 1 (some .boolean) :: wsL_law0)) B.pre⟩, B.returns, B.notSynchronized, hK⟩
  have hl := lv_entry ([.ref a]) (n := 1) (Nat.le_of_ble_eq_true rfl)
  rw [lg_entry_eq]
  generalize (lg_sl ([.ref a]) ++ List.replicate (1 - (lg_sl ([.ref a])).length) Slot.unset).toArray = ls at hl ⊢
  have hl : lv_has ls 1 [(0, .ref a)] := hl
  refine va_gets C0.1.1 C0.1.2.1 hZ va_S.rf C0.1.2.2.2.1 (C0.1.2.2.2.2 _ (mc wd9_0)) (fun _ h9 => h9) dJ0_isLatin1_aae02_0 ?_
  refine lv_if_eq C0.1.1 C0.1.2.1 (tgt := 17) dJ0_isLatin1_aae02_3 (by decide) (fun c => absurd c (by decide)) (fun c => ?_)
  refine r_aload_n C0 dJ0_isLatin1_aae02_6 hl 0 rfl ?_
  refine vk_getf C0.1.1 C0.1.2.1 hco va_S.rf C0.1.2.2.2.1 (C0.1.2.2.2.2 _ (mc wd9_1)) (fun _ h9 => h9) dJ0_isLatin1_aae02_7 ?_
  refine lv_if_ne C0.1.1 C0.1.2.1 (tgt := 17) dJ0_isLatin1_aae02_10 (by decide) (fun c => absurd rfl c) (fun c => ?_)
  refine r_iconst C0 1 dJ0_isLatin1_aae02_13 (by decide) ?_
  refine r_goto C0 18 dJ0_isLatin1_aae02_14 (by decide) ?_
  exact r_zretRC C0 rfl (by decide) dJ0_isLatin1_aae02_18
theorem S1_recv {a t n : Nat} {f : Nat → Int32} {s : State} {H : Heap} (h : S1 a t n f s H) : ∃ cell : Cell, H[a]? = some cell ∧ cell.vm.isStatics = false ∧ s.vm.findClass "java/lang/String" = some cell.cls := by
  obtain ⟨cell, h1, h2, h3, -⟩ := h.1
  exact ⟨cell, h1, h2, h3⟩
theorem S1_al {a t n : Nat} {f : Nat → Int32} : ∀ (u U : State) (H : Heap), u.vm.Alike U.vm → S1 a t n f u H → S1 a t n f U H := fun _ _ _ hv h => h.moved hv
set_option maxHeartbeats 1000000 in
set_option maxRecDepth 10000 in
theorem ctJ0len (l : Launch) (D : va_G) (K : Nat → ClassId) (a t n : Nat) (f : Nat → Int32) (hn : n < 2 ^ 31) : Met l yJ0_length_8abf5 (Cond.code yJ0_length_8abf5 cJ0_length_8abf5 1 (some .int) :: wsL_law0) { frames := 1, cells := 0, slots := 0, locals := 20 } (pcS D K [.ref a] (S1 a t n f)) (vp_Si (fun x => x = nI n)) 0 0 (fun _ => False) := by
  refine Met.ofW (cc := cJ0_length_8abf5) (maxL := 1) (ret := (some .int)) (by decide) rfl ?_
  intro p e s m args below meth c s₁ B hml hv
  obtain ⟨rfl, hK, hS1⟩ := hv
  obtain ⟨hO, hco, hva, hT, hZ, hZq⟩ := id hS1
  have C0 : cx p s m _ meth c cJ0_length_8abf5 1 RJ0 (Cond.code yJ0_length_8abf5 cJ0_length_8abf5 1 (some .int) :: wsL_law0) (some .int) D K := ⟨⟨B.exec, B.bytes, hml, findClass_of_methodNamed B.named, atoms_spec (ws := (Cond.code yJ0_length_8abf5 cJ0_length_8abf5 1 (some .int) :: wsL_law0)) B.pre⟩, B.returns, B.notSynchronized, hK⟩
  have hl := lv_entry ([.ref a]) (n := 1) (Nat.le_of_ble_eq_true rfl)
  rw [lg_entry_eq]
  generalize (lg_sl ([.ref a]) ++ List.replicate (1 - (lg_sl ([.ref a])).length) Slot.unset).toArray = ls at hl ⊢
  have hl : lv_has ls 1 [(0, .ref a)] := hl
  refine r_aload_n C0 dJ0_length_8abf5_0 hl 0 rfl ?_
  refine vk_getf C0.1.1 C0.1.2.1 hva va_S.rf C0.1.2.2.2.1 (C0.1.2.2.2.2 _ (mc wd8_19)) (fun _ h9 => h9) dJ0_length_8abf5_1 ?_
  refine va_tlen C0.1.1 C0.1.2.1 hT va_S.rf rfl dJ0_length_8abf5_4 ?_
  refine r_aload_n C0 dJ0_length_8abf5_5 hl 0 rfl ?_
  refine r_cI (va_runV (As := []) (rest := [.int (Int32.ofNat n)]) C0.1 (ctJ0coder l D K a t n f) (cwV 0 C0.1.2.2.2.2 (gdV wd8_20 wd8_21 wd8_22 wd8_17 wd8_23) rfl rfl rfl (by decide +kernel) ⟨Nat.le_of_ble_eq_true rfl, Nat.le_of_ble_eq_true rfl⟩) ⟨pcS_blind S1_al, S1_recv hS1, pcS_of S1_al C0.2.2.2 hS1⟩ rfl rfl hl.1 rfl (lv_room (Nat.le_of_ble_eq_true rfl)) dJ0_length_8abf5_6 ⟨Nat.zero_le _, Nat.zero_le _⟩).run ?_
  refine r_ishr C0 dJ0_length_8abf5_9 ?_
  exact r_iretR C0 (by rw [show Int32.ofNat n = nI n from rfl, sc_shr0 hn]) dJ0_length_8abf5_10
set_option maxHeartbeats 1000000 in
set_option maxRecDepth 10000 in
theorem ctJ0ca (l : Launch) (D : va_G) (K : Nat → ClassId) (a t n : Nat) (f : Nat → Int32) (p1 : Int32) (h0 : ¬ p1 < 0) (h1 : p1 < Int32.ofNat n) (hin : vp_in p1 n) : Met l yJ0_charAt_5068e (Cond.code yJ0_charAt_5068e cJ0_charAt_5068e 2 (some .char) :: wsL_law0) { frames := 3, cells := 0, slots := 0, locals := 64 } (pcS D K [.ref a, .int p1] (S1 a t n f)) (vp_Si (fun x => x = f p1.toNatClampNeg &&& 255)) 0 0 (fun _ => False) := by
  refine Met.ofW (cc := cJ0_charAt_5068e) (maxL := 2) (ret := (some .char)) (by decide) rfl ?_
  intro p e s m args below meth c s₁ B hml hv
  obtain ⟨rfl, hK, hS1⟩ := hv
  obtain ⟨hO, hco, hva, hT, hZ, hZq⟩ := id hS1
  have C0 : cx p s m _ meth c cJ0_charAt_5068e 2 RJ0 (Cond.code yJ0_charAt_5068e cJ0_charAt_5068e 2 (some .char) :: wsL_law0) (some .char) D K := ⟨⟨B.exec, B.bytes, hml, findClass_of_methodNamed B.named, atoms_spec (ws := (Cond.code yJ0_charAt_5068e cJ0_charAt_5068e 2 (some .char) :: wsL_law0)) B.pre⟩, B.returns, B.notSynchronized, hK⟩
  have hl := lv_entry ([.ref a, .int p1]) (n := 2) (Nat.le_of_ble_eq_true rfl)
  rw [lg_entry_eq]
  generalize (lg_sl ([.ref a, .int p1]) ++ List.replicate (2 - (lg_sl ([.ref a, .int p1])).length) Slot.unset).toArray = ls at hl ⊢
  have hl : lv_has ls 2 [(0, .ref a), (1, .int p1)] := hl
  refine r_aload_n C0 dJ0_charAt_5068e_0 hl 0 rfl ?_
  refine r_cI (va_runV (As := []) (rest := []) C0.1 (ctJ0lat l D K a t n f) (cwV 0 C0.1.2.2.2.2 (gdV wd9_6 wd9_7 wd9_8 wd8_17 wd9_9) rfl rfl rfl (by decide +kernel) ⟨Nat.le_of_ble_eq_true rfl, Nat.le_of_ble_eq_true rfl⟩) ⟨pcS_blind S1_al, S1_recv hS1, pcS_of S1_al C0.2.2.2 hS1⟩ rfl rfl hl.1 rfl (lv_room (Nat.le_of_ble_eq_true rfl)) dJ0_charAt_5068e_1 ⟨Nat.zero_le _, Nat.zero_le _⟩).run ?_
  refine lv_if_eq C0.1.1 C0.1.2.1 (tgt := 16) dJ0_charAt_5068e_4 (by decide) (fun c => absurd c (by decide)) (fun c => ?_)
  refine r_aload_n C0 dJ0_charAt_5068e_7 hl 0 rfl ?_
  refine vk_getf C0.1.1 C0.1.2.1 hva va_S.rf C0.1.2.2.2.1 (C0.1.2.2.2.2 _ (mc wd8_19)) (fun _ h9 => h9) dJ0_charAt_5068e_8 ?_
  refine r_iload_n C0 dJ0_charAt_5068e_11 hl 1 rfl ?_
  refine r_cI (va_runS (As := [.ref t, .int p1]) (rest := []) C0.1 (ctJ1ca l D K t n f p1 h0 h1 hin) (va_cwS 2 C0.1.2.2.2.2 (gdS wd9_10 wd9_11 wd9_12 wd9_13) rfl rfl rfl (by decide +kernel) ⟨Nat.le_of_ble_eq_true rfl, Nat.le_of_ble_eq_true rfl⟩) ⟨pcS_blind TZ_al, pcS_of TZ_al C0.2.2.2 ⟨hT, hZq⟩⟩ rfl rfl hl.1 rfl (lv_room (Nat.le_of_ble_eq_true rfl)) dJ0_charAt_5068e_12 ⟨Nat.zero_le _, Nat.zero_le _⟩).run ?_
  exact W.zret C0.1.1 C0.1.2.1 C0.2.1 (sc_nar _) (fun t ht _ => ⟨_, rfl, rfl, ht⟩) (fun _ h => by cases h) dJ0_charAt_5068e_15 C0.2.2.1
end JS
