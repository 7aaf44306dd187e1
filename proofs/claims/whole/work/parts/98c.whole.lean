theorem whole_start {p : Program} {e : Env} {s : State} {m : MethodId} {below : List Frame} {meth : Method} {c : Code} (l : Launch) (hflags : l.flags = flags0) {b L : Nat} {xs : Nat → Int32} (hL : L ≤ 5120) (C0 : lw_At p s m meth c b L xs) :
    W p l e room_1 s m #[Value.ref b] below meth c s.heap [] 0 0 (lw_Z below #[Value.ref b] s) (entryFrame m ([Value.ref b] : List Value).toArray 8) := by
  obtain ⟨o, g', I', L', e', ⟨n, hn⟩, ho, hg, he⟩ := law_wp (Lx := L) hL (I := I00 xs) (L := L00)
  subst ho
  subst hg
  exact start_ok l hflags C0 (show run [] n 420 (PT 420) 0 [(0, .ref 0)] [] (g00 L) (I00 xs) L00 0 K0 = some (.inl (some (.int 1)), gE L, I', L', e') from hn) (by show 71 + e' ≤ 601025; omega) (by show 1296 + 6 * e' ≤ 7293034; omega)
