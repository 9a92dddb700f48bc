/-! the start -/
theorem Rel_start {N : Nat} (hN : 100000 < N) : ∃ zz, fX6_clears N (fun _ => 0) = some zz ∧ Rel c0S zRcL (va_up zRc 11 zz) zRcL := by
  obtain ⟨T, c1, c2, c3, c4, c5, c6, c7⟩ := m_clears (N := N) (q := 0) (S := fun _ => 0) (by omega) (by omega) rfl
  have tj : ∀ j, j < 48 → T j = nI 0 := fun j h1 => c2 j h1 (fun l hl => by omega)
  refine ⟨T, c1, ⟨fun _ => 0, 0, by omega, rfl, rfl, fun i _ => ⟨rfl, show (0 : Nat) < 256 from by decide⟩, fun i _ => ⟨rfl, show (0 : Nat) < 256 from by decide⟩⟩, rfl, ⟨fun _ _ => 0, rfl, fun i => show (0 : Nat) < 2 ^ 31 from by decide⟩, fun _ _ => 0, rfl, fun i => show (0 : Nat) < 2 ^ 31 from by decide, Or.inl ⟨⟨rfl, rfl, rfl⟩, ⟨rfl, rfl, rfl, rfl⟩, ⟨rfl, ⟨0, by omega, rfl⟩, rfl⟩, ?_⟩⟩
  rw [va_up_self]
  exact ⟨tj 0 (by omega), tj 1 (by omega), tj 14 (by omega), tj 35 (by omega), c7 48 (by omega) (by omega) (by omega) (by omega) (fun k _ => by omega), c7 49 (by omega) (by omega) (by omega) (by omega) (fun k _ => by omega), c7 50 (by omega) (by omega) (by omega) (by omega) (fun k _ => by omega), c5, c6⟩
theorem whole_start {p : Program} {e : Env} {s : State} {m : MethodId} {below : List Frame} {meth : Method} {c : Code} (l : Launch) (hflags : l.flags = flags0) {b L : Nat} {xs : Nat → Int32} (hL : L ≤ 3072) (C0 : lw_At p s m meth c b L xs) : W p l e room_1 s m #[Value.ref b] below meth c s.heap [] 0 0 (lw_Z below #[Value.ref b] s) (entryFrame m ([Value.ref b] : List Value).toArray 7) := by
  obtain ⟨N, hN⟩ : ∃ N : Nat, 100000 < N := ⟨100001, by decide⟩
  obtain ⟨zz, z1, z2⟩ := Rel_start hN
  exact whole_start_open l hflags hL C0 (SP0_ok (by omega)) SP1_ok (SP2_ok (by omega)) SP3_ok SP4_ok SP5_ok SP6_ok SP7_ok (SP8_ok (by omega)) (SP9_ok (by omega)) (SP10_ok (by omega)) (SP11_ok (by omega)) (SP12_ok (by omega)) (SP13_ok (by omega)) (SP14_ok (by omega)) (SP15_ok (by omega)) (SP16_ok (by omega)) (SP17_ok (by omega)) (SP18_ok (by omega)) (SP19_ok (by omega)) (SP20_ok (by omega)) zz z1 z2
