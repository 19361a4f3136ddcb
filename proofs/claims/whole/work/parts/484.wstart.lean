/-- YOUR PART: from the entry, for every script of at most 3072 ints, the law comes to its end with true ('hflags': the launch's flags, for a law that throws: no stack traces) -/
theorem whole_start {p : Program} {e : Env} {s : State} {m : MethodId} {below : List Frame} {meth : Method} {c : Code} (l : Launch) (hflags : l.flags = flags0) {b L : Nat} {xs : Nat → Int32} (hL : L ≤ 3072) (C0 : lw_At p s m meth c b L xs) : W p l e room_1 s m #[Value.ref b] below meth c s.heap [] 0 0 (lw_Z below #[Value.ref b] s) (entryFrame m ([Value.ref b] : List Value).toArray 8) := by
  obtain ⟨hx, hb, hr, hml, hown, hts, hX, hbl, hlocks, hgv⟩ := id C0
  have C : CallFix p m c code 8 s #[Value.ref b] zT "IslandOfficeLaw" := ⟨hx, hb, hml, hown, fun w hw => hts w (List.mem_filter.mp hw).1⟩
  refine z_start (d1 := 1) (d2 := 6) l hL C0 ⟨by decide, by decide⟩ (fun B hB4 hx2 => ?_)
  have hE : zE B.2.2.2 s := zE_of hts hgv (fun a ha h => absurd ((hB4 a).mp h) (Nat.not_le.mpr ha))
  exact fun i S H locs ls cells slots => zlc_41 (z_traces hflags) C hx2 hE i S H locs ls cells slots
