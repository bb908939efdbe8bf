/-! all of it -/
theorem okall : ok_all Rel := ⟨okpale, okroad, okfarm, oklikes, oksay, okwipe, okfault, okjudge, okdone, okbehind, okgoes, okthen, okround, okmends, oksteady, okwed, okseen, okforget, okposts, okask, okheaps, okgust, okyear, okimage, okrestore, oktold⟩
theorem whole_start {p : Program} {e : Env} {s : State} {m : MethodId} {below : List Frame} {meth : Method} {c : Code} (l : Launch) (_hflags : l.flags = flags0) {b L : Nat} {xs : Nat → Int32} (hL : L ≤ 3072) (C0 : lw_At p s m meth c b L xs) : W p l e room_1 s m #[Value.ref b] below meth c s.heap [] 0 0 (lw_Z below #[Value.ref b] s) (entryFrame m ([Value.ref b] : List Value).toArray 4) := by
  obtain ⟨μ2, h0, hR⟩ := made
  exact lw_begin okall h0 hR l hL C0
